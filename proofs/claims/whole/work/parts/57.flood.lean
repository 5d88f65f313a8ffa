/-! ===== floods, leaves ===== -/
theorem vI_inj {I I' : Nat → Nat → Int32} (h : vI I' = vI I) : I' = I := by
  funext a
  exact vI_cell (fun i => by rw [h])
theorem vset_back {v : am_V} {a i : Nat} {x : Int} : vset (vset v a i x) a i (v a i) = v := by
  funext a' i'
  unfold vset
  by_cases h : a' = a ∧ i' = i
  · rw [if_pos h, h.1, h.2]
  · rw [if_neg h, if_neg h]
theorem vset_two {v : am_V} {a i : Nat} {x y : Int} : vset (vset v a i x) a i y = vset v a i y := by
  funext a' i'
  unfold vset
  by_cases h : a' = a ∧ i' = i
  · rw [if_pos h, if_pos h]
  · rw [if_neg h, if_neg h, if_neg h]
theorem setI_two {I : Nat → Nat → Int32} {a i : Nat} {x y : Int32} : setI (setI I a i x) a i y = setI I a i y := by
  funext a' i'
  rw [setI_at, setI_at, setI_at]
  by_cases h : a' = a ∧ i' = i
  · rw [if_pos h, if_pos h]
  · rw [if_neg h, if_neg h, if_neg h]
theorem vset_id {v : am_V} {a i : Nat} : vset v a i (v a i) = v := by
  funext a' i'
  unfold vset
  by_cases h : a' = a ∧ i' = i
  · rw [if_pos h, h.1, h.2]
  · rw [if_neg h]
def fldZ (v : am_V) (s h : Int) : Nat → Nat → Int
  | 0, _ => -2
  | n + 1, i => if h < outZ v (s * i) s then i else fldZ v s h n (i + 1)
section FLD
variable {E : Nat × (Nat → Int32)} {d : Nat} {I I1 : Nat → Nat → Int32} {J J1 : Nat → Nat → Int64} {A A1 : Nat → Option Nat} {Q : Option Value → am_M → Prop} {M : am_M}
/-- the vessel touched, and as it was again -/
theorem rv_mk {mK : Nat} {as : List Value} {z : Int32} (h : Inv I J) (g0 : I 266 0 = 1) (hF : FV I J I1 J1) (hR1 : RS I1 J1 1 (vC I)) (hm : wpC E d mK (.ref 265 :: as) (mm I1 J1 A1) (fun r M => r = some (.int z) ∧ ∃ J2, JF J1 J2 ∧ M = mm I1 J2 A1)) : QI E d mK as (some (.int z)) (mm I1 J1 A1) := by
  obtain ⟨hW, hH, hR, h8⟩ := Vs_on h.1 g0
  refine QI_mk (wpC_mono hm (fun r M q => ?_))
  obtain ⟨q1, J2, q2, q3⟩ := q
  exact ⟨q1, I1, J2, A1, q3, Inv_upd h hF FM_refl q2 hR1 (FV_vC hF) (vC_0 g0) hW hH h8⟩
theorem c_floods {s h : Int} {v : am_V} (hR : RS I J 1 v) (hW : Wf v) (hs : s = -1 ∨ s = 1) (hh : 0 ≤ h ∧ h ≤ 3000) (hQ : Q (some (.int (iZ (fldZ v s h 61 0)))) (mm I J A)) : wp E (d + 3) 126 35 [(0, .ref 0), (1, .int (iZ s)), (2, .int (iZ h)), (3, .int (iZ 0))] [] (mm I J A) Q := by
  have L : ∀ (n i : Nat) (y : Int32), i + n = 61 → y = iZ i → Q (some (.int (iZ (fldZ v s h n i)))) (mm I J A) → wp E (d + 3) 126 35 [(0, .ref 0), (1, .int (iZ s)), (2, .int (iZ h)), (3, .int y)] [] (mm I J A) Q := by
    intro n
    induction n with
    | zero =>
      intro i y hi ey hQ
      subst ey
      exact wf (hs := [35]) 20 35 (by decide) (wt (by ((try simp (disch := omega) only [z_i8, z_i16, z_of, z_ofN, z_lofN, z_0, z_1, z_m1, z_l0, z_l1, iZ_add, iZ_sub, iZ_mul, iZ_neg, lZ_add, lZ_sub, lZ_mul, lZ_neg, z_div, z_ldiv, z_l, z_i, z_lt, z_le, z_eq, z_llt, z_lle, z_leq, z_cgt, z_cge, z_clt, z_cle, z_ceq, z_cl, z_nat, Int.toNat_natCast, mm_I, mm_J, z_cln, z_abs, z_max, z_min, z_lmax, z_lmin, z_sin, Int.cast_ofNat_Int, uI_I, uI_J, uL_I, uL_J, uA_I, uA_J, sI_eq, sI_ne, sL_eq, sL_ne, up_eq, up_ne, uL_eq, uL_ne, z_toInt, Int.reduceToNat]) <;> omega)) hQ)
    | succ n ih =>
      intro i y hi ey hQ
      subst ey
      have sl : -60 ≤ s * (i : Int) ∧ s * (i : Int) ≤ 60 := by rcases hs with rfl | rfl <;> omega
      have ob := outB (l := s * i) (s := s) hW sl
      unfold fldZ at hQ
      refine wf (hs := [35]) 20 35 (by decide) (wF (by ((try simp (disch := omega) only [z_i8, z_i16, z_of, z_ofN, z_lofN, z_0, z_1, z_m1, z_l0, z_l1, iZ_add, iZ_sub, iZ_mul, iZ_neg, lZ_add, lZ_sub, lZ_mul, lZ_neg, z_div, z_ldiv, z_l, z_i, z_lt, z_le, z_eq, z_llt, z_lle, z_leq, z_cgt, z_cge, z_clt, z_cle, z_ceq, z_cl, z_nat, Int.toNat_natCast, mm_I, mm_J, z_cln, z_abs, z_max, z_min, z_lmax, z_lmin, z_sin, Int.cast_ofNat_Int, uI_I, uI_J, uL_I, uL_J, uA_I, uA_J, sI_eq, sI_ne, sL_eq, sL_ne, up_eq, up_ne, uL_eq, uL_ne, z_toInt, Int.reduceToNat]) <;> omega)) ?_)
      refine And.intro rfl (c_outer (b := 1) (Or.inl rfl) hR hW sl (by omega) rfl (iZ_mul s i) ?_)
      refine And.intro (fun q => ?_) (fun q => ?_)
      · simp (disch := omega) only [z_i8, z_i16, z_of, z_ofN, z_lofN, z_0, z_1, z_m1, z_l0, z_l1, iZ_add, iZ_sub, iZ_mul, iZ_neg, lZ_add, lZ_sub, lZ_mul, lZ_neg, z_div, z_ldiv, z_l, z_i, z_lt, z_le, z_eq, z_llt, z_lle, z_leq, z_cgt, z_cge, z_clt, z_cle, z_ceq, z_cl, z_nat, Int.toNat_natCast, mm_I, mm_J, z_cln, z_abs, z_max, z_min, z_lmax, z_lmin, z_sin, Int.cast_ofNat_Int, uI_I, uI_J, uL_I, uL_J, uA_I, uA_J, sI_eq, sI_ne, sL_eq, sL_ne, up_eq, up_ne, uL_eq, uL_ne, z_toInt, Int.reduceToNat] at q
        rw [if_neg (by omega)] at hQ
        refine wp_keys [0, 1, 2, 3] rfl rfl ?_
        exact ih (i + 1) _ (by omega) (iZ_add i 1) hQ
      · simp (disch := omega) only [z_i8, z_i16, z_of, z_ofN, z_lofN, z_0, z_1, z_m1, z_l0, z_l1, iZ_add, iZ_sub, iZ_mul, iZ_neg, lZ_add, lZ_sub, lZ_mul, lZ_neg, z_div, z_ldiv, z_l, z_i, z_lt, z_le, z_eq, z_llt, z_lle, z_leq, z_cgt, z_cge, z_clt, z_cle, z_ceq, z_cl, z_nat, Int.toNat_natCast, mm_I, mm_J, z_cln, z_abs, z_max, z_min, z_lmax, z_lmin, z_sin, Int.cast_ofNat_Int, uI_I, uI_J, uL_I, uL_J, uA_I, uA_J, sI_eq, sI_ne, sL_eq, sL_ne, up_eq, up_ne, uL_eq, uL_ne, z_toInt, Int.reduceToNat] at q
        rw [if_pos (by omega)] at hQ
        exact hQ
  exact L 61 0 (iZ 0) (by omega) rfl hQ
theorem m_floodsL {s h : Int} (hW : Wf (vI I)) (h0 : M0 I J) (hs : s = -1 ∨ s = 1) (hh : 0 ≤ h ∧ h ≤ 3000) (hQ : Q (some (.int (iZ (fldZ (vI I) s h 61 0)))) (mm I J A)) : wp E (d + 3) 251 46 [(0, .ref 265), (1, .int (iZ s)), (2, .int (iZ h)), (3, .int (I 266 7)), (4, .int (iZ (-2))), (5, .int (iZ 0))] [] (mm I J A) Q := by
  have ends : ∀ (y x5 : Int32) (r : Int), Q (some (.int (iZ r))) (mm I J A) → wp E (d + 3) 251 95 [(0, .ref 265), (1, .int (iZ s)), (2, .int (iZ h)), (3, .int (I 266 7)), (4, .int (iZ r)), (5, .int x5)] [] (mm (setI I 266 7 y) J A) Q := by
    intro y x5 r hQ
    refine wf (hs := []) 20 95 (by decide) (And.intro (inL (by decide)) ?_)
    have e : setI (setI I 266 7 y) 266 7 (I 266 7) = I := by rw [setI_two]; exact setI_same
    rw [← e] at hQ
    exact hQ
  have L : ∀ (n i : Nat) (y x5 : Int32), i + n = 61 → x5 = iZ i → Q (some (.int (iZ (fldZ (vI I) s h n i)))) (mm I J A) → wp E (d + 3) 251 46 [(0, .ref 265), (1, .int (iZ s)), (2, .int (iZ h)), (3, .int (I 266 7)), (4, .int (iZ (-2))), (5, .int x5)] [] (mm (setI I 266 7 y) J A) Q := by
    intro n
    induction n with
    | zero =>
      intro i y x5 hi ey hQ
      subst ey
      exact wf (hs := [46, 95]) 20 46 (by decide) (wt (by ((try simp (disch := omega) only [z_i8, z_i16, z_of, z_ofN, z_lofN, z_0, z_1, z_m1, z_l0, z_l1, iZ_add, iZ_sub, iZ_mul, iZ_neg, lZ_add, lZ_sub, lZ_mul, lZ_neg, z_div, z_ldiv, z_l, z_i, z_lt, z_le, z_eq, z_llt, z_lle, z_leq, z_cgt, z_cge, z_clt, z_cle, z_ceq, z_cl, z_nat, Int.toNat_natCast, mm_I, mm_J, z_cln, z_abs, z_max, z_min, z_lmax, z_lmin, z_sin, Int.cast_ofNat_Int, uI_I, uI_J, uL_I, uL_J, uA_I, uA_J, sI_eq, sI_ne, sL_eq, sL_ne, up_eq, up_ne, uL_eq, uL_ne, z_toInt, Int.reduceToNat]) <;> omega)) (ends y _ (-2) hQ))
    | succ n ih =>
      intro i y x5 hi ey hQ
      subst ey
      have sl : -60 ≤ s * (i : Int) ∧ s * (i : Int) ≤ 60 := by rcases hs with rfl | rfl <;> omega
      have ev : vI (setI I 266 7 (iZ s * iZ i)) = vset (vI I) 266 7 (s * i) := vI_setZ (iZ_mul s i) (by omega) (by omega)
      have hW2 : Wf (vI (setI I 266 7 (iZ s * iZ i))) := by rw [ev]; exact Wf_sc hW (by omega)
      have ob := outB (l := s * i) (s := s) hW sl
      have eo : outZ (vI (setI I 266 7 (iZ s * iZ i))) (vI (setI I 266 7 (iZ s * iZ i)) 266 7) s = outZ (vI I) (s * i) s := by
        rw [ev, vset_eq]; rfl
      have e2 : setI (setI I 266 7 y) 266 7 (iZ s * iZ (i : Int)) = setI I 266 7 (iZ s * iZ (i : Int)) := setI_two
      unfold fldZ at hQ
      have mo := m_outsideAt (E := E) (d := d) (J := J) (A := A) (I := setI I 266 7 (iZ s * iZ (i : Int))) (s := s) (y := iZ s) (Q := fun r M => r = some (.int (iZ (outZ (vI I) (s * i) s))) ∧ M = mm (setI I 266 7 (iZ s * iZ (i : Int))) J A) hW2 (by have := h0.1; rw [ev]; exact this) (by omega) rfl ⟨by rw [eo], rfl⟩
      rw [← e2] at mo
      refine wf (hs := [46, 95]) 40 46 (by decide) (wF (by ((try simp (disch := omega) only [z_i8, z_i16, z_of, z_ofN, z_lofN, z_0, z_1, z_m1, z_l0, z_l1, iZ_add, iZ_sub, iZ_mul, iZ_neg, lZ_add, lZ_sub, lZ_mul, lZ_neg, z_div, z_ldiv, z_l, z_i, z_lt, z_le, z_eq, z_llt, z_lle, z_leq, z_cgt, z_cge, z_clt, z_cle, z_ceq, z_cl, z_nat, Int.toNat_natCast, mm_I, mm_J, z_cln, z_abs, z_max, z_min, z_lmax, z_lmin, z_sin, Int.cast_ofNat_Int, uI_I, uI_J, uL_I, uL_J, uA_I, uA_J, sI_eq, sI_ne, sL_eq, sL_ne, up_eq, up_ne, uL_eq, uL_ne, z_toInt, Int.reduceToNat]) <;> omega)) (wt rfl (And.intro (inL (by decide)) (And.intro rfl (wpC_mono mo (fun r M hh => ?_))))))
      obtain ⟨rfl, rfl⟩ := hh
      refine And.intro (fun q => ?_) (fun q => ?_)
      · simp (disch := omega) only [z_i8, z_i16, z_of, z_ofN, z_lofN, z_0, z_1, z_m1, z_l0, z_l1, iZ_add, iZ_sub, iZ_mul, iZ_neg, lZ_add, lZ_sub, lZ_mul, lZ_neg, z_div, z_ldiv, z_l, z_i, z_lt, z_le, z_eq, z_llt, z_lle, z_leq, z_cgt, z_cge, z_clt, z_cle, z_ceq, z_cl, z_nat, Int.toNat_natCast, mm_I, mm_J, z_cln, z_abs, z_max, z_min, z_lmax, z_lmin, z_sin, Int.cast_ofNat_Int, uI_I, uI_J, uL_I, uL_J, uA_I, uA_J, sI_eq, sI_ne, sL_eq, sL_ne, up_eq, up_ne, uL_eq, uL_ne, z_toInt, Int.reduceToNat] at q
        rw [if_neg (by omega)] at hQ
        refine wp_keys [0, 1, 2, 3, 4, 5] rfl rfl ?_
        rw [e2]
        exact ih (i + 1) _ _ (by omega) (iZ_add i 1) hQ
      · simp (disch := omega) only [z_i8, z_i16, z_of, z_ofN, z_lofN, z_0, z_1, z_m1, z_l0, z_l1, iZ_add, iZ_sub, iZ_mul, iZ_neg, lZ_add, lZ_sub, lZ_mul, lZ_neg, z_div, z_ldiv, z_l, z_i, z_lt, z_le, z_eq, z_llt, z_lle, z_leq, z_cgt, z_cge, z_clt, z_cle, z_ceq, z_cl, z_nat, Int.toNat_natCast, mm_I, mm_J, z_cln, z_abs, z_max, z_min, z_lmax, z_lmin, z_sin, Int.cast_ofNat_Int, uI_I, uI_J, uL_I, uL_J, uA_I, uA_J, sI_eq, sI_ne, sL_eq, sL_ne, up_eq, up_ne, uL_eq, uL_ne, z_toInt, Int.reduceToNat] at q
        rw [if_pos (by omega)] at hQ
        refine wp_keys [0, 1, 2, 3, 4, 5] rfl rfl ?_
        rw [e2]
        have ni : ¬ iZ (i : Int) = iZ (-2) := by ((try simp (disch := omega) only [z_i8, z_i16, z_of, z_ofN, z_lofN, z_0, z_1, z_m1, z_l0, z_l1, iZ_add, iZ_sub, iZ_mul, iZ_neg, lZ_add, lZ_sub, lZ_mul, lZ_neg, z_div, z_ldiv, z_l, z_i, z_lt, z_le, z_eq, z_llt, z_lle, z_leq, z_cgt, z_cge, z_clt, z_cle, z_ceq, z_cl, z_nat, Int.toNat_natCast, mm_I, mm_J, z_cln, z_abs, z_max, z_min, z_lmax, z_lmin, z_sin, Int.cast_ofNat_Int, uI_I, uI_J, uL_I, uL_J, uA_I, uA_J, sI_eq, sI_ne, sL_eq, sL_ne, up_eq, up_ne, uL_eq, uL_ne, z_toInt, Int.reduceToNat]) <;> omega)
        refine wf (hs := [95]) 40 46 (by decide) (And.intro (fun q => ?_) (fun q => ?_))
        · exact ends _ _ i hQ
        · exact wF ni (ends _ _ i hQ)
  have := L 61 0 (I 266 7) (iZ 0) (by omega) rfl hQ
  rw [setI_same] at this
  exact this
theorem m_floods {s h : Int} (hV : Vm I) (h0 : M0 I J) (hs : -2147483648 ≤ s ∧ s ≤ 2147483647) (hr : -2147483648 ≤ h ∧ h ≤ 2147483647) (h1 : I 266 0 = 1 → (s = -1 ∨ s = 1) → 0 ≤ h ∧ h ≤ 3000 → Q (some (.int (iZ (fldZ (vC I) s h 61 0)))) (mm I J A)) (hn : ¬ (I 266 0 = 1 ∧ (s = -1 ∨ s = 1) ∧ 0 ≤ h ∧ h ≤ 3000) → Q (some (.int (iZ (-1)))) (mm I J A)) : wpC E (d + 3) 251 [.ref 265, .int (iZ s), .int (iZ h)] (mm I J A) Q := by
  have T : I 266 0 = 1 → (s = -1 ∨ s = 1) → wp E (d + 3) 251 17 [(0, .ref 265), (1, .int (iZ s)), (2, .int (iZ h))] [] (mm I J A) Q := fun p hs1 => by
    refine wf (hs := [46]) 40 17 (by decide) (And.intro rfl (mW (z := h) (lo := 0) (hi := 3000) (z_l (by omega) (by omega)) rfl rfl hr (by omega) (by omega) (fun g => wF (by decide) (And.intro (inL (by decide)) ?_)) (fun g => wt rfl (hn fun q => g q.2.2))))
    refine wp_keys [0, 1, 2, 3, 4, 5] rfl rfl ?_
    exact m_floodsL (hV p).1 h0 hs1 g (h1 p hs1 g)
  refine wc (hs := [17]) 40 (by decide) (And.intro rfl (m_isShip (fun p => wF (by decide) ?_) (fun p => wt rfl (hn fun q => p q.1))))
  refine And.intro (fun q1 => ?_) (fun q1 => And.intro (fun q2 => ?_) (fun q2 => ?_))
  · simp (disch := omega) only [z_i8, z_i16, z_of, z_ofN, z_lofN, z_0, z_1, z_m1, z_l0, z_l1, iZ_add, iZ_sub, iZ_mul, iZ_neg, lZ_add, lZ_sub, lZ_mul, lZ_neg, z_div, z_ldiv, z_l, z_i, z_lt, z_le, z_eq, z_llt, z_lle, z_leq, z_cgt, z_cge, z_clt, z_cle, z_ceq, z_cl, z_nat, Int.toNat_natCast, mm_I, mm_J, z_cln, z_abs, z_max, z_min, z_lmax, z_lmin, z_sin, Int.cast_ofNat_Int, uI_I, uI_J, uL_I, uL_J, uA_I, uA_J, sI_eq, sI_ne, sL_eq, sL_ne, up_eq, up_ne, uL_eq, uL_ne, z_toInt, Int.reduceToNat] at q1
    exact T p (Or.inl q1)
  · simp (disch := omega) only [z_i8, z_i16, z_of, z_ofN, z_lofN, z_0, z_1, z_m1, z_l0, z_l1, iZ_add, iZ_sub, iZ_mul, iZ_neg, lZ_add, lZ_sub, lZ_mul, lZ_neg, z_div, z_ldiv, z_l, z_i, z_lt, z_le, z_eq, z_llt, z_lle, z_leq, z_cgt, z_cge, z_clt, z_cle, z_ceq, z_cl, z_nat, Int.toNat_natCast, mm_I, mm_J, z_cln, z_abs, z_max, z_min, z_lmax, z_lmin, z_sin, Int.cast_ofNat_Int, uI_I, uI_J, uL_I, uL_J, uA_I, uA_J, sI_eq, sI_ne, sL_eq, sL_ne, up_eq, up_ne, uL_eq, uL_ne, z_toInt, Int.reduceToNat] at q2
    exact T p (Or.inr q2)
  · simp (disch := omega) only [z_i8, z_i16, z_of, z_ofN, z_lofN, z_0, z_1, z_m1, z_l0, z_l1, iZ_add, iZ_sub, iZ_mul, iZ_neg, lZ_add, lZ_sub, lZ_mul, lZ_neg, z_div, z_ldiv, z_l, z_i, z_lt, z_le, z_eq, z_llt, z_lle, z_leq, z_cgt, z_cge, z_clt, z_cle, z_ceq, z_cl, z_nat, Int.toNat_natCast, mm_I, mm_J, z_cln, z_abs, z_max, z_min, z_lmax, z_lmin, z_sin, Int.cast_ofNat_Int, uI_I, uI_J, uL_I, uL_J, uA_I, uA_J, sI_eq, sI_ne, sL_eq, sL_ne, up_eq, up_ne, uL_eq, uL_ne, z_toInt, Int.reduceToNat] at q1
    simp (disch := omega) only [z_i8, z_i16, z_of, z_ofN, z_lofN, z_0, z_1, z_m1, z_l0, z_l1, iZ_add, iZ_sub, iZ_mul, iZ_neg, lZ_add, lZ_sub, lZ_mul, lZ_neg, z_div, z_ldiv, z_l, z_i, z_lt, z_le, z_eq, z_llt, z_lle, z_leq, z_cgt, z_cge, z_clt, z_cle, z_ceq, z_cl, z_nat, Int.toNat_natCast, mm_I, mm_J, z_cln, z_abs, z_max, z_min, z_lmax, z_lmin, z_sin, Int.cast_ofNat_Int, uI_I, uI_J, uL_I, uL_J, uA_I, uA_J, sI_eq, sI_ne, sL_eq, sL_ne, up_eq, up_ne, uL_eq, uL_ne, z_toInt, Int.reduceToNat] at q2
    exact hn fun q => by have := q.2.1; omega
theorem op_floods {s h : Int} (hh : Inv I J) (hs : -2147483648 ≤ s ∧ s ≤ 2147483647) (hr : -2147483648 ≤ h ∧ h ≤ 2147483647) : wpC E (d + 4) 126 [.ref 0, .int (iZ s), .int (iZ h)] (mm I J A) (QI E (d + 4) 251 [.int (iZ s), .int (iZ h)]) := by
  have F : ¬ (I 266 0 = 1 ∧ (s = -1 ∨ s = 1) ∧ 0 ≤ h ∧ h ≤ 3000) → QI E (d + 4) 251 [.int (iZ s), .int (iZ h)] (some (.int (iZ (-1)))) (mm I J A) := fun q => rd_mk hh FS_refl (m_floods (Vs_m hh.1) hh.2.2.2.2.1 hs hr (fun p1 p2 p3 => absurd ⟨p1, p2, p3⟩ q) (fun _ => ⟨rfl, rfl⟩))
  rcases hh.1 with ⟨g0, g1⟩ | ⟨g0, hW, hH, hR, h8⟩
  · exact wc (hs := []) 20 (by decide) (wt g1 (F fun q => by rw [q.1] at g0; cases g0))
  · have b1 : ¬ I 1 0 = 0 := by have : I 1 0 = 1 := hR.1.1; rw [this]; decide
    have T : (s = -1 ∨ s = 1) → wp E (d + 4) 126 20 [(0, .ref 0), (1, .int (iZ s)), (2, .int (iZ h))] [] (mm I J A) (QI E (d + 4) 251 [.int (iZ s), .int (iZ h)]) := fun hs1 => by
      refine wf (hs := [35]) 40 20 (by decide) (And.intro rfl (cW (z := h) (lo := 0) (hi := 3000) rfl rfl rfl hr (by omega) (by omega) (fun g => wF (by decide) ?_) (fun g => wt rfl (F fun q => g q.2.2))))
      refine wp_keys [0, 1, 2, 3] rfl rfl ?_
      exact c_floods hR hW hs1 g (rd_mk hh FS_refl (m_floods (Vs_m hh.1) hh.2.2.2.2.1 hs hr (fun _ _ _ => ⟨rfl, rfl⟩) (fun q => absurd ⟨g0, hs1, g⟩ q)))
    refine wc (hs := [20]) 40 (by decide) (wF b1 (And.intro (fun q1 => ?_) (fun q1 => And.intro (fun q2 => ?_) (fun q2 => ?_))))
    · simp (disch := omega) only [z_i8, z_i16, z_of, z_ofN, z_lofN, z_0, z_1, z_m1, z_l0, z_l1, iZ_add, iZ_sub, iZ_mul, iZ_neg, lZ_add, lZ_sub, lZ_mul, lZ_neg, z_div, z_ldiv, z_l, z_i, z_lt, z_le, z_eq, z_llt, z_lle, z_leq, z_cgt, z_cge, z_clt, z_cle, z_ceq, z_cl, z_nat, Int.toNat_natCast, mm_I, mm_J, z_cln, z_abs, z_max, z_min, z_lmax, z_lmin, z_sin, Int.cast_ofNat_Int, uI_I, uI_J, uL_I, uL_J, uA_I, uA_J, sI_eq, sI_ne, sL_eq, sL_ne, up_eq, up_ne, uL_eq, uL_ne, z_toInt, Int.reduceToNat] at q1
      exact T (Or.inl q1)
    · simp (disch := omega) only [z_i8, z_i16, z_of, z_ofN, z_lofN, z_0, z_1, z_m1, z_l0, z_l1, iZ_add, iZ_sub, iZ_mul, iZ_neg, lZ_add, lZ_sub, lZ_mul, lZ_neg, z_div, z_ldiv, z_l, z_i, z_lt, z_le, z_eq, z_llt, z_lle, z_leq, z_cgt, z_cge, z_clt, z_cle, z_ceq, z_cl, z_nat, Int.toNat_natCast, mm_I, mm_J, z_cln, z_abs, z_max, z_min, z_lmax, z_lmin, z_sin, Int.cast_ofNat_Int, uI_I, uI_J, uL_I, uL_J, uA_I, uA_J, sI_eq, sI_ne, sL_eq, sL_ne, up_eq, up_ne, uL_eq, uL_ne, z_toInt, Int.reduceToNat] at q2
      exact T (Or.inr q2)
    · simp (disch := omega) only [z_i8, z_i16, z_of, z_ofN, z_lofN, z_0, z_1, z_m1, z_l0, z_l1, iZ_add, iZ_sub, iZ_mul, iZ_neg, lZ_add, lZ_sub, lZ_mul, lZ_neg, z_div, z_ldiv, z_l, z_i, z_lt, z_le, z_eq, z_llt, z_lle, z_leq, z_cgt, z_cge, z_clt, z_cle, z_ceq, z_cl, z_nat, Int.toNat_natCast, mm_I, mm_J, z_cln, z_abs, z_max, z_min, z_lmax, z_lmin, z_sin, Int.cast_ofNat_Int, uI_I, uI_J, uL_I, uL_J, uA_I, uA_J, sI_eq, sI_ne, sL_eq, sL_ne, up_eq, up_ne, uL_eq, uL_ne, z_toInt, Int.reduceToNat] at q1
      simp (disch := omega) only [z_i8, z_i16, z_of, z_ofN, z_lofN, z_0, z_1, z_m1, z_l0, z_l1, iZ_add, iZ_sub, iZ_mul, iZ_neg, lZ_add, lZ_sub, lZ_mul, lZ_neg, z_div, z_ldiv, z_l, z_i, z_lt, z_le, z_eq, z_llt, z_lle, z_leq, z_cgt, z_cge, z_clt, z_cle, z_ceq, z_cl, z_nat, Int.toNat_natCast, mm_I, mm_J, z_cln, z_abs, z_max, z_min, z_lmax, z_lmin, z_sin, Int.cast_ofNat_Int, uI_I, uI_J, uL_I, uL_J, uA_I, uA_J, sI_eq, sI_ne, sL_eq, sL_ne, up_eq, up_ne, uL_eq, uL_ne, z_toInt, Int.reduceToNat] at q2
      exact F fun q => by have := q.2.1; omega
/-! the ports of one place -/
def drnN (v : am_V) (p : Int) : Nat → am_V
  | 0 => v
  | n + 1 => if v 286 n = p then prtZ (drnN v p n) n else drnN v p n
def lvsZ (p : Nat) (n : Int) : Nat → Nat → am_V → Int
  | 0, _, _ => -2
  | m + 1, i, v => if v 276 p ≤ n then i else lvsZ p n m (i + 1) (drnN v p (nO v))
theorem drn_one {v : am_V} {p n : Nat} (hW : Wf v) (hp : p < nP v) : ∃ w, (0 ≤ w ∧ w ≤ capZ v p) ∧ drnN v p n = vset v 276 p w := by
  have w6 := (hW.2.2.1 p hp).2.2.2.2.2.2
  induction n with
  | zero => exact ⟨v 276 p, w6, vset_id.symm⟩
  | succ n ih =>
    obtain ⟨w, hw, e⟩ := ih
    show ∃ w, _ ∧ (if v 286 n = p then prtZ (drnN v p n) n else drnN v p n) = _
    by_cases h : v 286 n = p
    · rw [if_pos h, e]
      unfold prtZ
      have e2 : (vset v 276 p w 286 n).toNat = p := by
        rw [vset_na (by decide), h]; omega
      dsimp only
      rw [e2]
      split
      · unfold porZ
        rw [vset_two]
        refine ⟨_, ?_, rfl⟩
        have ec : capZ (vset v 276 p w) p = capZ v p := rfl
        rw [ec]
        omega
      · exact ⟨w, hw, rfl⟩
    · rw [if_neg h]
      exact ⟨w, hw, e⟩
theorem drn_W {v : am_V} {p n : Nat} (hW : Wf v) (hH : WfH v) (hp : p < nP v) : Wf (drnN v p n) ∧ WfH (drnN v p n) := by
  obtain ⟨w, hw, e⟩ := drn_one (n := n) hW hp
  rw [e]
  exact ⟨Wf_set hW hw, WfH_276 hH (fun a i q => vset_na q)⟩
theorem c_drain {v : am_V} {p : Nat} {x : Int32} (hR : RS I J 1 v) (hW : Wf v) (hH : WfH v) (hp : p < nP v) (ex : x = iZ p) (hQ : ∀ I', RS I' J 1 (drnN v p (nO v)) → Fr 1 I I' → Q none (mm I' J A)) : wpC E (d + 5) 128 [.ref 0, .int x] (mm I J A) Q := by
  subst ex
  have h12 := nP12 hW
  have no := (nO_at hW).2
  have ne : ∀ i, nO (drnN v p i) = nO v := fun i => by
    obtain ⟨w, -, e⟩ := drn_one (n := i) hW hp
    rw [e]; rfl
  have L := lpU (σ := (Nat → Nat → Int32) × Int32) (fun _ s => wp E (d + 5) 128 2 [(0, .ref 0), (1, .int (iZ p)), (2, .int s.2)] [] (mm s.1 J A) Q) (fun i s => (RS s.1 J 1 (drnN v p i) ∧ Fr 1 I s.1) ∧ s.2 = iZ i) (nO v) ?_ ?_
  · refine wc (hs := [2]) 20 (by decide) ?_
    refine wp_keys [0, 1, 2] rfl rfl ?_
    exact L 0 (I, _) (by omega) ⟨⟨hR, fun _ _ => rfl⟩, rfl⟩
  · rintro ⟨I', y⟩ ⟨⟨hR', hF'⟩, ey⟩
    dsimp only at hR' hF' ey
    subst ey
    have c0 : I' 26 0 ≤ iZ (nO v : Int) := by have := hR'.2.2.2.2.2.1.1; rw [ne] at this; exact Int32.le_of_eq this
    exact wf (hs := [2]) 20 2 (by decide) (wt c0 (hQ I' hR' hF'))
  · rintro i ⟨I', y⟩ hi ⟨⟨hR', hF'⟩, ey⟩ ih
    dsimp only at hR' hF' ey
    subst ey
    have wi := drn_W (n := i) hW hH hp
    have c0 : ¬ I' 26 0 ≤ iZ (i : Int) := by
      have : I' 26 0 = iZ (nO (drnN v p i) : Int) := hR'.2.2.2.2.2.1.1
      rw [ne] at this
      rw [this]; ((try simp (disch := omega) only [z_i8, z_i16, z_of, z_ofN, z_lofN, z_0, z_1, z_m1, z_l0, z_l1, iZ_add, iZ_sub, iZ_mul, iZ_neg, lZ_add, lZ_sub, lZ_mul, lZ_neg, z_div, z_ldiv, z_l, z_i, z_lt, z_le, z_eq, z_llt, z_lle, z_leq, z_cgt, z_cge, z_clt, z_cle, z_ceq, z_cl, z_nat, Int.toNat_natCast, mm_I, mm_J, z_cln, z_abs, z_max, z_min, z_lmax, z_lmin, z_sin, Int.cast_ofNat_Int, uI_I, uI_J, uL_I, uL_J, uA_I, uA_J, sI_eq, sI_ne, sL_eq, sL_ne, up_eq, up_ne, uL_eq, uL_ne, z_toInt, Int.reduceToNat]) <;> omega)
    have e286 : I' 27 i = iZ (v 286 i) := by
      have : I' 27 i = iZ (drnN v p i 286 i) := (hR'.2.2.2.2.2.1.2 i (by rw [ne]; exact hi)).1
      obtain ⟨w, -, e⟩ := drn_one (n := i) hW hp
      rw [e, vset_na (by decide)] at this
      exact this
    have b286 := (hH.2.1 i hi).1
    have es : drnN v p (i + 1) = if v 286 i = p then prtZ (drnN v p i) i else drnN v p i := rfl
    refine wf (hs := [2]) 40 2 (by decide) (wF c0 (And.intro (z_in (by omega) (by omega) (by omega)) (And.intro (fun q => ?_) (fun q => ?_))))
    · simp (disch := omega) only [z_i8, z_i16, z_of, z_ofN, z_lofN, z_0, z_1, z_m1, z_l0, z_l1, iZ_add, iZ_sub, iZ_mul, iZ_neg, lZ_add, lZ_sub, lZ_mul, lZ_neg, z_div, z_ldiv, z_l, z_i, z_lt, z_le, z_eq, z_llt, z_lle, z_leq, z_cgt, z_cge, z_clt, z_cle, z_ceq, z_cl, z_nat, Int.toNat_natCast, mm_I, mm_J, z_cln, z_abs, z_max, z_min, z_lmax, z_lmin, z_sin, Int.cast_ofNat_Int, uI_I, uI_J, uL_I, uL_J, uA_I, uA_J, sI_eq, sI_ne, sL_eq, sL_ne, up_eq, up_ne, uL_eq, uL_ne, z_toInt, Int.reduceToNat, e286] at q
      refine And.intro rfl (c_letOut (b := 1) (k := i) (Or.inl rfl) hR' wi.1 wi.2 (by rw [ne]; exact hi) rfl (fun I2 hR2 hF2 => ?_))
      refine wp_keys [0, 1, 2] rfl rfl ?_
      refine ih (I2, _) ⟨⟨?_, fun a ha => (hF2 a ha).trans (hF' a ha)⟩, iZ_add i 1⟩
      dsimp only
      rw [es, if_pos q]
      exact hR2
    · simp (disch := omega) only [z_i8, z_i16, z_of, z_ofN, z_lofN, z_0, z_1, z_m1, z_l0, z_l1, iZ_add, iZ_sub, iZ_mul, iZ_neg, lZ_add, lZ_sub, lZ_mul, lZ_neg, z_div, z_ldiv, z_l, z_i, z_lt, z_le, z_eq, z_llt, z_lle, z_leq, z_cgt, z_cge, z_clt, z_cle, z_ceq, z_cl, z_nat, Int.toNat_natCast, mm_I, mm_J, z_cln, z_abs, z_max, z_min, z_lmax, z_lmin, z_sin, Int.cast_ofNat_Int, uI_I, uI_J, uL_I, uL_J, uA_I, uA_J, sI_eq, sI_ne, sL_eq, sL_ne, up_eq, up_ne, uL_eq, uL_ne, z_toInt, Int.reduceToNat, e286] at q
      refine wp_keys [0, 1, 2] rfl rfl ?_
      refine ih (I', _) ⟨⟨?_, hF'⟩, iZ_add i 1⟩
      dsimp only
      rw [es, if_neg q]
      exact hR'
end FLD
