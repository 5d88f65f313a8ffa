/-! ===== still ===== -/
theorem sq9 {m : Int} (h0 : 0 ≤ m) (h1 : m ≤ 80000000) : 0 ≤ sqI m ∧ sqI m ≤ 9000 := by
  obtain ⟨a, b, c⟩ := sqI_ok h0 h1
  refine ⟨a, ?_⟩
  rcases Int.lt_or_le 9000 (sqI m) with z | z
  · have := Int.mul_le_mul (show (9000 : Int) ≤ sqI m by omega) (show (9000 : Int) ≤ sqI m by omega) (by omega) a
    omega
  · exact z
def slA (v : am_V) (p h : Nat) : Int := slZ (vset v 276 p (hunZ v p h)) p
def btA (v : am_V) (p h : Nat) : Int := btZ (vset v 276 p (hunZ v p h)) (stfZ (vset v 276 p (hunZ v p h)) 0 0)
def stlN (v : am_V) (p : Nat) : Nat → Nat → Int → Int → Int
  | 0, _, f, _ => f
  | m + 1, h, f, l => if (0 ≤ slA v p h ∧ 0 ≤ btA v p h) ∧ (f = -2 ∨ ((slA v p h - btA v p h).natAbs : Int) < l) then stlN v p m (h + 1) h ((slA v p h - btA v p h).natAbs : Int) else stlN v p m (h + 1) f l
theorem slZ_B {v : am_V} {p : Nat} (hW : WfP v p) : -2 ≤ slZ v p ∧ slZ v p ≤ 9000 := by
  have lb := levB hW
  have sb := slB hW
  have d1 := Int.ediv_nonneg (a := 41 * v 272 p * v 272 p) (b := levZ v p) sb.1 (by omega)
  have d2 := Int.ediv_le_self (a := 41 * v 272 p * v 272 p) (levZ v p) sb.1
  have s := sq9 (m := 41 * v 272 p * v 272 p / levZ v p) d1 (by omega)
  unfold slZ
  split <;> omega
theorem btZ_B {v : am_V} {s : Int} (hW : Wf v) : -1 ≤ btZ v s ∧ btZ v s ≤ 9000 := by
  have hb := hW.1.1
  have m0 := mulb (a := 64 * v 266 1) (b := v 266 1) (A := 25600) (B := 400) (by omega) (by omega) (by omega) hb.2
  unfold btZ
  split
  · omega
  · have d1 := Int.ediv_nonneg (a := 64 * v 266 1 * v 266 1) (b := s) m0.1 (by omega)
    have d2 := Int.ediv_le_self (a := 64 * v 266 1 * v 266 1) s m0.1
    have s := sq9 (m := 64 * v 266 1 * v 266 1 / s) d1 (by omega)
    omega
theorem slA_cut (v : am_V) (p h : Nat) : slA (cutV v) p h = slA v p h := by
  show slZ (vset (cutV v) 276 p (hunZ v p h)) p = slZ (vset v 276 p (hunZ v p h)) p
  rw [← cut_set (by omega)]
  rfl
theorem btA_cut (v : am_V) (p h : Nat) : btA (cutV v) p h = btA v p h := by
  show btZ (vset (cutV v) 276 p (hunZ v p h)) (stfZ (vset (cutV v) 276 p (hunZ v p h)) 0 0) = btZ (vset v 276 p (hunZ v p h)) (stfZ (vset v 276 p (hunZ v p h)) 0 0)
  rw [← cut_set (by omega)]
  have e : stfZ (cutV (vset v 276 p (hunZ v p h))) 0 0 = stfZ (vset v 276 p (hunZ v p h)) 0 0 := rfl
  rw [e]
  rfl
theorem stl_cut {v : am_V} {p : Nat} : ∀ (m h : Nat) (f l : Int), stlN (cutV v) p m h f l = stlN v p m h f l := by
  intro m
  induction m with
  | zero => intro h f l; rfl
  | succ m ih =>
    intro h f l
    unfold stlN
    rw [slA_cut, btA_cut, ih, ih]
section STL
variable {E : Nat × (Nat → Int32)} {d : Nat} {I I1 : Nat → Nat → Int32} {J J1 : Nat → Nat → Int64} {A A1 : Nat → Option Nat} {Q : Option Value → am_M → Prop} {M : am_M}
theorem m_still {k : Int} (hV : Vm I) (h0 : M0 I J) (hk : -2147483648 ≤ k ∧ k ≤ 2147483647) (h1 : PG I k → Q (some (.int (iZ (stlN (vC I) k.toNat 100 1 (-2) 0)))) (mm I J A)) (hn : ¬ PG I k → Q (some (.int (iZ (-1)))) (mm I J A)) : wpC E (d + 6) 250 [.ref 265, .int (iZ k)] (mm I J A) Q := by
  refine wc (hs := [26]) 40 (by decide) (And.intro rfl (m_isPlaceZ hV hk rfl (fun p => wF (by decide) ?_) (fun p => wt rfl (hn p))))
  have H := h1 p
  have hW : Wf (vI I) := (hV p.1).1
  have h12 := nP12 hW
  obtain ⟨κ, hκ, rfl⟩ : ∃ κ : Nat, κ < nP (vI I) ∧ k = κ := ⟨k.toNat, by have := p.2.2; have q : k < nP (vI I) := this; have := p.2.1; omega, by have := p.2.1; omega⟩
  rw [Int.toNat_natCast] at H
  have H : Q (some (.int (iZ (stlN (vI I) κ 100 1 (-2) 0)))) (mm I J A) := by rw [← stl_cut]; exact H
  have hin : vp_in (iZ (κ : Int)) 12 := z_in (by omega) (by omega) (by omega)
  have hcl : (iZ (κ : Int)).toNatClampNeg = κ := z_cln (by omega)
  have wP := hW.2.2.1 κ hκ
  have cb := (capB wP).2.2
  have w6 := wP.2.2.2.2.2.2
  have ends : ∀ (I' : Nat → Nat → Int32) (w r : Int) (x4 x5 : Int32), vI I' = vset (vI I) 276 κ w → Q (some (.int (iZ r))) (mm I J A) → wp E (d + 6) 250 111 [(0, .ref 265), (1, .int (iZ κ)), (2, .int (I 276 (iZ (κ : Int)).toNatClampNeg)), (3, .int (iZ r)), (4, .int x4), (5, .int x5)] [] (mm I' J A) Q := by
    intro I' w r x4 x5 e hQ
    have eI : setI I' 276 (iZ (κ : Int)).toNatClampNeg (I 276 (iZ (κ : Int)).toNatClampNeg) = I := by
      refine vI_inj ?_
      rw [hcl, vI_setZ (z := vI I 276 κ) (vI_eq I 276 κ) (by omega) (by omega), e, vset_back]
    rw [← eI] at hQ
    exact wf (hs := []) 30 111 (by decide) (And.intro hin hQ)
  have L : ∀ (m h : Nat) (I' : Nat → Nat → Int32) (w f l : Int) (x3 x4 x5 : Int32), h + m = 101 → 1 ≤ h → vI I' = vset (vI I) 276 κ w → 0 ≤ w ∧ w ≤ capZ (vI I) κ → -2 ≤ f ∧ f ≤ 100 → 0 ≤ l ∧ l ≤ 20000 → x3 = iZ f → x4 = iZ l → x5 = iZ h → Q (some (.int (iZ (stlN (vI I) κ m h f l)))) (mm I J A) → wp E (d + 6) 250 26 [(0, .ref 265), (1, .int (iZ κ)), (2, .int (I 276 (iZ (κ : Int)).toNatClampNeg)), (3, .int x3), (4, .int x4), (5, .int x5)] [] (mm I' J A) Q := by
    intro m
    induction m with
    | zero =>
      intro h I' w f l x3 x4 x5 hi h1 e hw rf rl e3 e4 e5 hQ
      subst e3; subst e4; subst e5
      exact wf (hs := [26, 111]) 40 26 (by decide) (wt (by ((try simp (disch := omega) only [z_i8, z_i16, z_of, z_ofN, z_lofN, z_0, z_1, z_m1, z_l0, z_l1, iZ_add, iZ_sub, iZ_mul, iZ_neg, lZ_add, lZ_sub, lZ_mul, lZ_neg, z_div, z_ldiv, z_l, z_i, z_lt, z_le, z_eq, z_llt, z_lle, z_leq, z_cgt, z_cge, z_clt, z_cle, z_ceq, z_cl, z_nat, Int.toNat_natCast, mm_I, mm_J, z_cln, z_abs, z_max, z_min, z_lmax, z_lmin, z_sin, Int.cast_ofNat_Int, uI_I, uI_J, uL_I, uL_J, uA_I, uA_J, sI_eq, sI_ne, sL_eq, sL_ne, up_eq, up_ne, uL_eq, uL_ne, z_toInt, Int.reduceToNat]) <;> omega)) (ends I' w f _ _ e hQ))
    | succ m ih =>
      intro h I' w f l x3 x4 x5 hi h1 e hw rf rl e3 e4 e5 hQ
      subst e3; subst e4; subst e5
      have hb := hunB (h := h) wP ⟨by omega, by omega⟩
      have ec : capZ (vI I') κ = capZ (vI I) κ := by rw [e]; rfl
      have wP' : WfP (vI I') κ := by rw [e]; exact (Wf_set (p := κ) hW hw).2.2.1 κ hκ
      have ev : iZ (capZ (vI I') κ) * iZ (h : Int) / iZ 100 = iZ (hunZ (vI I) κ h) := by
        rw [ec]; simp (disch := omega) only [z_i8, z_i16, z_of, z_ofN, z_lofN, z_0, z_1, z_m1, z_l0, z_l1, iZ_add, iZ_sub, iZ_mul, iZ_neg, lZ_add, lZ_sub, lZ_mul, lZ_neg, z_div, z_ldiv, z_l, z_i, z_lt, z_le, z_eq, z_llt, z_lle, z_leq, z_cgt, z_cge, z_clt, z_cle, z_ceq, z_cl, z_nat, Int.toNat_natCast, mm_I, mm_J, z_cln, z_abs, z_max, z_min, z_lmax, z_lmin, z_sin, Int.cast_ofNat_Int, uI_I, uI_J, uL_I, uL_J, uA_I, uA_J, sI_eq, sI_ne, sL_eq, sL_ne, up_eq, up_ne, uL_eq, uL_ne, z_toInt, Int.reduceToNat]; rfl
      have e2 : vI (setI I' 276 (iZ (κ : Int)).toNatClampNeg (iZ (capZ (vI I') κ) * iZ (h : Int) / iZ 100)) = vset (vI I) 276 κ (hunZ (vI I) κ h) := by
        rw [hcl, vI_setZ (z := hunZ (vI I) κ h) ev (by omega) (by omega), e, vset_two]
      obtain ⟨I2, hI2⟩ : ∃ I2, I2 = setI I' 276 (iZ (κ : Int)).toNatClampNeg (iZ (capZ (vI I') κ) * iZ (h : Int) / iZ 100) := ⟨_, rfl⟩
      rw [← hI2] at e2
      have hW2 : Wf (vI I2) := by rw [e2]; exact Wf_set hW hb.2
      have hκ2 : κ < nP (vI I2) := by rw [e2]; exact hκ
      have m0 : M0 I2 J := M0_eq h0 (vI_cell (fun k => by rw [e2, vset_na (by decide)])) rfl
      have ea : slZ (vI I2) κ = slA (vI I) κ h := by rw [e2]; rfl
      have eb : btZ (vI I2) (stfZ (vI I2) 0 0) = btA (vI I) κ h := by rw [e2]; rfl
      have ra := slZ_B (hW2.2.2.1 κ hκ2)
      have rb := btZ_B (s := stfZ (vI I2) 0 0) hW2
      have ml := m_slopOf (E := E) (d := d + 4) (J := J) (A := A) (x := iZ κ) (Q := fun r M => r = some (.int (iZ (slZ (vI I2) κ))) ∧ M = mm I2 J A) hW2 hκ2 rfl ⟨rfl, rfl⟩
      rw [hI2] at ml
      refine wf (hs := [26, 111]) 80 26 (by decide) (wF (by ((try simp (disch := omega) only [z_i8, z_i16, z_of, z_ofN, z_lofN, z_0, z_1, z_m1, z_l0, z_l1, iZ_add, iZ_sub, iZ_mul, iZ_neg, lZ_add, lZ_sub, lZ_mul, lZ_neg, z_div, z_ldiv, z_l, z_i, z_lt, z_le, z_eq, z_llt, z_lle, z_leq, z_cgt, z_cge, z_clt, z_cle, z_ceq, z_cl, z_nat, Int.toNat_natCast, mm_I, mm_J, z_cln, z_abs, z_max, z_min, z_lmax, z_lmin, z_sin, Int.cast_ofNat_Int, uI_I, uI_J, uL_I, uL_J, uA_I, uA_J, sI_eq, sI_ne, sL_eq, sL_ne, up_eq, up_ne, uL_eq, uL_ne, z_toInt, Int.reduceToNat]) <;> omega)) (And.intro rfl (m_capE rfl (by omega) wP' (And.intro (by decide) (And.intro hin (And.intro rfl (wpC_mono ml (fun r M hh => ?_))))))))
      obtain ⟨rfl, rfl⟩ := hh
      rw [← hI2]
      refine And.intro rfl (m_beat (M0_WM hW2 m0) ?_)
      rw [M0_sM m0]
      unfold stlN at hQ
      rw [← ea, ← eb] at hQ
      generalize slZ (vI I2) κ = a at ra hQ ⊢
      generalize btZ (vI I2) (stfZ (vI I2) 0 0) = b at rb hQ ⊢
      have ed : iZ a - iZ b = iZ (a - b) := iZ_sub _ _
      refine And.intro (fun q => ?_) (fun q => And.intro (fun q2 => ?_) (fun q2 => And.intro (fun q3 => ?_) (fun q3 => And.intro rfl (m_withoutE ed ⟨by omega, by omega⟩ (And.intro (fun q4 => ?_) (fun q4 => ?_))))))
      · simp (disch := omega) only [z_i8, z_i16, z_of, z_ofN, z_lofN, z_0, z_1, z_m1, z_l0, z_l1, iZ_add, iZ_sub, iZ_mul, iZ_neg, lZ_add, lZ_sub, lZ_mul, lZ_neg, z_div, z_ldiv, z_l, z_i, z_lt, z_le, z_eq, z_llt, z_lle, z_leq, z_cgt, z_cge, z_clt, z_cle, z_ceq, z_cl, z_nat, Int.toNat_natCast, mm_I, mm_J, z_cln, z_abs, z_max, z_min, z_lmax, z_lmin, z_sin, Int.cast_ofNat_Int, uI_I, uI_J, uL_I, uL_J, uA_I, uA_J, sI_eq, sI_ne, sL_eq, sL_ne, up_eq, up_ne, uL_eq, uL_ne, z_toInt, Int.reduceToNat] at q
        rw [if_neg (by omega)] at hQ
        refine wp_keys [0, 1, 2, 3, 4, 5] rfl rfl ?_
        exact ih (h + 1) I2 _ f l _ _ _ (by omega) (by omega) e2 hb.2 rf rl rfl rfl (iZ_add h 1) hQ
      · simp (disch := omega) only [z_i8, z_i16, z_of, z_ofN, z_lofN, z_0, z_1, z_m1, z_l0, z_l1, iZ_add, iZ_sub, iZ_mul, iZ_neg, lZ_add, lZ_sub, lZ_mul, lZ_neg, z_div, z_ldiv, z_l, z_i, z_lt, z_le, z_eq, z_llt, z_lle, z_leq, z_cgt, z_cge, z_clt, z_cle, z_ceq, z_cl, z_nat, Int.toNat_natCast, mm_I, mm_J, z_cln, z_abs, z_max, z_min, z_lmax, z_lmin, z_sin, Int.cast_ofNat_Int, uI_I, uI_J, uL_I, uL_J, uA_I, uA_J, sI_eq, sI_ne, sL_eq, sL_ne, up_eq, up_ne, uL_eq, uL_ne, z_toInt, Int.reduceToNat] at q
        simp (disch := omega) only [z_i8, z_i16, z_of, z_ofN, z_lofN, z_0, z_1, z_m1, z_l0, z_l1, iZ_add, iZ_sub, iZ_mul, iZ_neg, lZ_add, lZ_sub, lZ_mul, lZ_neg, z_div, z_ldiv, z_l, z_i, z_lt, z_le, z_eq, z_llt, z_lle, z_leq, z_cgt, z_cge, z_clt, z_cle, z_ceq, z_cl, z_nat, Int.toNat_natCast, mm_I, mm_J, z_cln, z_abs, z_max, z_min, z_lmax, z_lmin, z_sin, Int.cast_ofNat_Int, uI_I, uI_J, uL_I, uL_J, uA_I, uA_J, sI_eq, sI_ne, sL_eq, sL_ne, up_eq, up_ne, uL_eq, uL_ne, z_toInt, Int.reduceToNat] at q2
        rw [if_neg (by omega)] at hQ
        refine wp_keys [0, 1, 2, 3, 4, 5] rfl rfl ?_
        exact ih (h + 1) I2 _ f l _ _ _ (by omega) (by omega) e2 hb.2 rf rl rfl rfl (iZ_add h 1) hQ
      · simp (disch := omega) only [z_i8, z_i16, z_of, z_ofN, z_lofN, z_0, z_1, z_m1, z_l0, z_l1, iZ_add, iZ_sub, iZ_mul, iZ_neg, lZ_add, lZ_sub, lZ_mul, lZ_neg, z_div, z_ldiv, z_l, z_i, z_lt, z_le, z_eq, z_llt, z_lle, z_leq, z_cgt, z_cge, z_clt, z_cle, z_ceq, z_cl, z_nat, Int.toNat_natCast, mm_I, mm_J, z_cln, z_abs, z_max, z_min, z_lmax, z_lmin, z_sin, Int.cast_ofNat_Int, uI_I, uI_J, uL_I, uL_J, uA_I, uA_J, sI_eq, sI_ne, sL_eq, sL_ne, up_eq, up_ne, uL_eq, uL_ne, z_toInt, Int.reduceToNat] at q
        simp (disch := omega) only [z_i8, z_i16, z_of, z_ofN, z_lofN, z_0, z_1, z_m1, z_l0, z_l1, iZ_add, iZ_sub, iZ_mul, iZ_neg, lZ_add, lZ_sub, lZ_mul, lZ_neg, z_div, z_ldiv, z_l, z_i, z_lt, z_le, z_eq, z_llt, z_lle, z_leq, z_cgt, z_cge, z_clt, z_cle, z_ceq, z_cl, z_nat, Int.toNat_natCast, mm_I, mm_J, z_cln, z_abs, z_max, z_min, z_lmax, z_lmin, z_sin, Int.cast_ofNat_Int, uI_I, uI_J, uL_I, uL_J, uA_I, uA_J, sI_eq, sI_ne, sL_eq, sL_ne, up_eq, up_ne, uL_eq, uL_ne, z_toInt, Int.reduceToNat] at q2
        simp (disch := omega) only [z_i8, z_i16, z_of, z_ofN, z_lofN, z_0, z_1, z_m1, z_l0, z_l1, iZ_add, iZ_sub, iZ_mul, iZ_neg, lZ_add, lZ_sub, lZ_mul, lZ_neg, z_div, z_ldiv, z_l, z_i, z_lt, z_le, z_eq, z_llt, z_lle, z_leq, z_cgt, z_cge, z_clt, z_cle, z_ceq, z_cl, z_nat, Int.toNat_natCast, mm_I, mm_J, z_cln, z_abs, z_max, z_min, z_lmax, z_lmin, z_sin, Int.cast_ofNat_Int, uI_I, uI_J, uL_I, uL_J, uA_I, uA_J, sI_eq, sI_ne, sL_eq, sL_ne, up_eq, up_ne, uL_eq, uL_ne, z_toInt, Int.reduceToNat] at q3
        rw [if_pos (by omega)] at hQ
        refine And.intro rfl (m_withoutE ed ⟨by omega, by omega⟩ ?_)
        refine wp_keys [0, 1, 2, 3, 4, 5] rfl rfl ?_
        exact ih (h + 1) I2 _ h _ _ _ _ (by omega) (by omega) e2 hb.2 (by omega) (by omega) rfl rfl (iZ_add h 1) hQ
      · simp (disch := omega) only [z_i8, z_i16, z_of, z_ofN, z_lofN, z_0, z_1, z_m1, z_l0, z_l1, iZ_add, iZ_sub, iZ_mul, iZ_neg, lZ_add, lZ_sub, lZ_mul, lZ_neg, z_div, z_ldiv, z_l, z_i, z_lt, z_le, z_eq, z_llt, z_lle, z_leq, z_cgt, z_cge, z_clt, z_cle, z_ceq, z_cl, z_nat, Int.toNat_natCast, mm_I, mm_J, z_cln, z_abs, z_max, z_min, z_lmax, z_lmin, z_sin, Int.cast_ofNat_Int, uI_I, uI_J, uL_I, uL_J, uA_I, uA_J, sI_eq, sI_ne, sL_eq, sL_ne, up_eq, up_ne, uL_eq, uL_ne, z_toInt, Int.reduceToNat] at q
        simp (disch := omega) only [z_i8, z_i16, z_of, z_ofN, z_lofN, z_0, z_1, z_m1, z_l0, z_l1, iZ_add, iZ_sub, iZ_mul, iZ_neg, lZ_add, lZ_sub, lZ_mul, lZ_neg, z_div, z_ldiv, z_l, z_i, z_lt, z_le, z_eq, z_llt, z_lle, z_leq, z_cgt, z_cge, z_clt, z_cle, z_ceq, z_cl, z_nat, Int.toNat_natCast, mm_I, mm_J, z_cln, z_abs, z_max, z_min, z_lmax, z_lmin, z_sin, Int.cast_ofNat_Int, uI_I, uI_J, uL_I, uL_J, uA_I, uA_J, sI_eq, sI_ne, sL_eq, sL_ne, up_eq, up_ne, uL_eq, uL_ne, z_toInt, Int.reduceToNat] at q2
        simp (disch := omega) only [z_i8, z_i16, z_of, z_ofN, z_lofN, z_0, z_1, z_m1, z_l0, z_l1, iZ_add, iZ_sub, iZ_mul, iZ_neg, lZ_add, lZ_sub, lZ_mul, lZ_neg, z_div, z_ldiv, z_l, z_i, z_lt, z_le, z_eq, z_llt, z_lle, z_leq, z_cgt, z_cge, z_clt, z_cle, z_ceq, z_cl, z_nat, Int.toNat_natCast, mm_I, mm_J, z_cln, z_abs, z_max, z_min, z_lmax, z_lmin, z_sin, Int.cast_ofNat_Int, uI_I, uI_J, uL_I, uL_J, uA_I, uA_J, sI_eq, sI_ne, sL_eq, sL_ne, up_eq, up_ne, uL_eq, uL_ne, z_toInt, Int.reduceToNat] at q3
        simp (disch := omega) only [z_i8, z_i16, z_of, z_ofN, z_lofN, z_0, z_1, z_m1, z_l0, z_l1, iZ_add, iZ_sub, iZ_mul, iZ_neg, lZ_add, lZ_sub, lZ_mul, lZ_neg, z_div, z_ldiv, z_l, z_i, z_lt, z_le, z_eq, z_llt, z_lle, z_leq, z_cgt, z_cge, z_clt, z_cle, z_ceq, z_cl, z_nat, Int.toNat_natCast, mm_I, mm_J, z_cln, z_abs, z_max, z_min, z_lmax, z_lmin, z_sin, Int.cast_ofNat_Int, uI_I, uI_J, uL_I, uL_J, uA_I, uA_J, sI_eq, sI_ne, sL_eq, sL_ne, up_eq, up_ne, uL_eq, uL_ne, z_toInt, Int.reduceToNat] at q4
        rw [if_neg (by omega)] at hQ
        refine wp_keys [0, 1, 2, 3, 4, 5] rfl rfl ?_
        exact ih (h + 1) I2 _ f l _ _ _ (by omega) (by omega) e2 hb.2 rf rl rfl rfl (iZ_add h 1) hQ
      · simp (disch := omega) only [z_i8, z_i16, z_of, z_ofN, z_lofN, z_0, z_1, z_m1, z_l0, z_l1, iZ_add, iZ_sub, iZ_mul, iZ_neg, lZ_add, lZ_sub, lZ_mul, lZ_neg, z_div, z_ldiv, z_l, z_i, z_lt, z_le, z_eq, z_llt, z_lle, z_leq, z_cgt, z_cge, z_clt, z_cle, z_ceq, z_cl, z_nat, Int.toNat_natCast, mm_I, mm_J, z_cln, z_abs, z_max, z_min, z_lmax, z_lmin, z_sin, Int.cast_ofNat_Int, uI_I, uI_J, uL_I, uL_J, uA_I, uA_J, sI_eq, sI_ne, sL_eq, sL_ne, up_eq, up_ne, uL_eq, uL_ne, z_toInt, Int.reduceToNat] at q
        simp (disch := omega) only [z_i8, z_i16, z_of, z_ofN, z_lofN, z_0, z_1, z_m1, z_l0, z_l1, iZ_add, iZ_sub, iZ_mul, iZ_neg, lZ_add, lZ_sub, lZ_mul, lZ_neg, z_div, z_ldiv, z_l, z_i, z_lt, z_le, z_eq, z_llt, z_lle, z_leq, z_cgt, z_cge, z_clt, z_cle, z_ceq, z_cl, z_nat, Int.toNat_natCast, mm_I, mm_J, z_cln, z_abs, z_max, z_min, z_lmax, z_lmin, z_sin, Int.cast_ofNat_Int, uI_I, uI_J, uL_I, uL_J, uA_I, uA_J, sI_eq, sI_ne, sL_eq, sL_ne, up_eq, up_ne, uL_eq, uL_ne, z_toInt, Int.reduceToNat] at q2
        simp (disch := omega) only [z_i8, z_i16, z_of, z_ofN, z_lofN, z_0, z_1, z_m1, z_l0, z_l1, iZ_add, iZ_sub, iZ_mul, iZ_neg, lZ_add, lZ_sub, lZ_mul, lZ_neg, z_div, z_ldiv, z_l, z_i, z_lt, z_le, z_eq, z_llt, z_lle, z_leq, z_cgt, z_cge, z_clt, z_cle, z_ceq, z_cl, z_nat, Int.toNat_natCast, mm_I, mm_J, z_cln, z_abs, z_max, z_min, z_lmax, z_lmin, z_sin, Int.cast_ofNat_Int, uI_I, uI_J, uL_I, uL_J, uA_I, uA_J, sI_eq, sI_ne, sL_eq, sL_ne, up_eq, up_ne, uL_eq, uL_ne, z_toInt, Int.reduceToNat] at q3
        simp (disch := omega) only [z_i8, z_i16, z_of, z_ofN, z_lofN, z_0, z_1, z_m1, z_l0, z_l1, iZ_add, iZ_sub, iZ_mul, iZ_neg, lZ_add, lZ_sub, lZ_mul, lZ_neg, z_div, z_ldiv, z_l, z_i, z_lt, z_le, z_eq, z_llt, z_lle, z_leq, z_cgt, z_cge, z_clt, z_cle, z_ceq, z_cl, z_nat, Int.toNat_natCast, mm_I, mm_J, z_cln, z_abs, z_max, z_min, z_lmax, z_lmin, z_sin, Int.cast_ofNat_Int, uI_I, uI_J, uL_I, uL_J, uA_I, uA_J, sI_eq, sI_ne, sL_eq, sL_ne, up_eq, up_ne, uL_eq, uL_ne, z_toInt, Int.reduceToNat] at q4
        rw [if_pos (by omega)] at hQ
        refine And.intro rfl (m_withoutE ed ⟨by omega, by omega⟩ ?_)
        refine wp_keys [0, 1, 2, 3, 4, 5] rfl rfl ?_
        exact ih (h + 1) I2 _ h _ _ _ _ (by omega) (by omega) e2 hb.2 (by omega) (by omega) rfl rfl (iZ_add h 1) hQ
  refine And.intro hin ?_
  refine wp_keys [0, 1, 2, 3, 4, 5] rfl rfl ?_
  exact L 100 1 I (vI I 276 κ) (-2) 0 (iZ (-2)) (iZ 0) (iZ 1) (by omega) (by omega) vset_id.symm w6 (by omega) (by omega) rfl rfl rfl H
theorem op_still {k : Int} (h : Inv I J) (hk : -2147483648 ≤ k ∧ k ≤ 2147483647) : wpC E (d + 7) 125 [.ref 0, .int (iZ k)] (mm I J A) (QI E (d + 7) 250 [.int (iZ k)]) := by
  have F : ¬ PG I k → QI E (d + 7) 250 [.int (iZ k)] (some (.int (iZ (-1)))) (mm I J A) := fun q => rd_mk h FS_refl (m_still (Vs_m h.1) h.2.2.2.2.1 hk (fun p => absurd p q) (fun _ => ⟨rfl, rfl⟩))
  refine wc (hs := [34]) 40 (by decide) (And.intro rfl (c_hasPlace h.1 hk rfl (fun p => wF (by decide) ?_) (fun p => wt rfl (F p))))
  obtain ⟨hW, hH, hR, h8⟩ := Vs_on h.1 p.1
  have h12 := nP12 hW
  obtain ⟨κ, hκ, rfl⟩ : ∃ κ : Nat, κ < nP (vC I) ∧ k = κ := ⟨k.toNat, by have := p.2; omega, by have := p.2.1; omega⟩
  have hin : vp_in (iZ (κ : Int)) 12 := z_in (by omega) (by omega) (by omega)
  have hcl : (iZ (κ : Int)).toNatClampNeg = κ := z_cln (by omega)
  have wP := hW.2.2.1 κ hκ
  have w6 := wP.2.2.2.2.2.2
  have e11 : I 11 (iZ (κ : Int)).toNatClampNeg = iZ (vC I 276 κ) := by rw [hcl]; exact (hR.2.2.1.2.1 κ hκ).2.2.2.2.2.2.2.1
  obtain ⟨RES, hRES⟩ : ∃ R, R = stlN (vC I) κ 100 1 (-2) 0 := ⟨_, rfl⟩
  have ends : ∀ (I' : Nat → Nat → Int32) (J' : Nat → Nat → Int64) (A' : Nat → Option Nat) (w : Int) (x3 x5 : Int32), RS I' J' 1 (vset (vC I) 276 κ w) → FV I J I' J' → 0 ≤ w ∧ w ≤ capZ (vC I) κ → wp E (d + 7) 125 134 [(0, .ref 0), (1, .int (iZ κ)), (2, .int (I 11 (iZ (κ : Int)).toNatClampNeg)), (3, .int x3), (4, .int (iZ RES)), (5, .int x5)] [] (mm I' J' A') (QI E (d + 7) 250 [.int (iZ (κ : Int))]) := by
    intro I' J' A' w x3 x5 hR' hF' hw
    refine wf (hs := []) 30 134 (by decide) (And.intro rfl (c_pourB hR' hW hκ hw rfl e11 (fun I2 hR2 hF2 => ?_)))
    have hF := FV_trans hF' (Fr_FV (J := J') hF2)
    refine rv_mk h p.1 hF hR2 (m_still (FV_m hF (Vs_m h.1)) (M0_FV hF h.2.2.2.2.1) hk (fun _ => ⟨?_, J', JF_refl, rfl⟩) (fun q => absurd ((FV_PG hF).mpr p) q))
    rw [Int.toNat_natCast, FV_vC hF, hRES]
  have L : ∀ (m h' : Nat) (I' : Nat → Nat → Int32) (J' : Nat → Nat → Int64) (A' : Nat → Option Nat) (w f l L : Int) (x3 x4 x5 : Int32), h' + m = 101 → 1 ≤ h' → RS I' J' 1 (vset (vC I) 276 κ w) → FV I J I' J' → 0 ≤ w ∧ w ≤ capZ (vC I) κ → (f = -2 ∧ L = 1000000000 ∨ 0 ≤ f ∧ L = l ∧ 0 ≤ l ∧ l ≤ 20000) → x3 = iZ L → x4 = iZ f → x5 = iZ h' → stlN (vC I) κ m h' f l = RES → wp E (d + 7) 125 34 [(0, .ref 0), (1, .int (iZ κ)), (2, .int (I 11 (iZ (κ : Int)).toNatClampNeg)), (3, .int x3), (4, .int x4), (5, .int x5)] [] (mm I' J' A') (QI E (d + 7) 250 [.int (iZ (κ : Int))]) := by
    intro m
    induction m with
    | zero =>
      intro h' I' J' A' w f l L x3 x4 x5 hi h1 hR' hF' hw hL e3 e4 e5 he
      subst e3; subst e4; subst e5
      have he : f = RES := he
      have := ends I' J' A' w (iZ L) (iZ h') hR' hF' hw
      rw [← he] at this
      exact wf (hs := [34, 134]) 30 34 (by decide) (wt (by ((try simp (disch := omega) only [z_i8, z_i16, z_of, z_ofN, z_lofN, z_0, z_1, z_m1, z_l0, z_l1, iZ_add, iZ_sub, iZ_mul, iZ_neg, lZ_add, lZ_sub, lZ_mul, lZ_neg, z_div, z_ldiv, z_l, z_i, z_lt, z_le, z_eq, z_llt, z_lle, z_leq, z_cgt, z_cge, z_clt, z_cle, z_ceq, z_cl, z_nat, Int.toNat_natCast, mm_I, mm_J, z_cln, z_abs, z_max, z_min, z_lmax, z_lmin, z_sin, Int.cast_ofNat_Int, uI_I, uI_J, uL_I, uL_J, uA_I, uA_J, sI_eq, sI_ne, sL_eq, sL_ne, up_eq, up_ne, uL_eq, uL_ne, z_toInt, Int.reduceToNat]) <;> omega)) this)
    | succ m ih =>
      intro h' I' J' A' w f l L x3 x4 x5 hi h1 hR' hF' hw hL e3 e4 e5 he
      subst e3; subst e4; subst e5
      have hb := hunB (h := h') wP ⟨by omega, by omega⟩
      have hW' := Wf_set (p := κ) hW hw
      have ec : hunZ (vset (vC I) 276 κ w) κ h' = hunZ (vC I) κ h' := rfl
      unfold stlN at he
      refine wf (hs := [34, 134]) 80 34 (by decide) (wF (by ((try simp (disch := omega) only [z_i8, z_i16, z_of, z_ofN, z_lofN, z_0, z_1, z_m1, z_l0, z_l1, iZ_add, iZ_sub, iZ_mul, iZ_neg, lZ_add, lZ_sub, lZ_mul, lZ_neg, z_div, z_ldiv, z_l, z_i, z_lt, z_le, z_eq, z_llt, z_lle, z_leq, z_cgt, z_cge, z_clt, z_cle, z_ceq, z_cl, z_nat, Int.toNat_natCast, mm_I, mm_J, z_cln, z_abs, z_max, z_min, z_lmax, z_lmin, z_sin, Int.cast_ofNat_Int, uI_I, uI_J, uL_I, uL_J, uA_I, uA_J, sI_eq, sI_ne, sL_eq, sL_ne, up_eq, up_ne, uL_eq, uL_ne, z_toInt, Int.reduceToNat]) <;> omega)) (And.intro rfl (c_hund hR' hW' hκ (by omega) rfl rfl ?_)))
      rw [ec]
      refine And.intro rfl (c_pour (b := 1) (p := κ) (n := hunZ (vC I) κ h') (Or.inl rfl) hR' hW' hκ hb.2 rfl rfl (fun I2 hR2 hF2 => ?_))
      rw [vset_two] at hR2
      have hW2 := Wf_set (p := κ) hW hb.2
      refine And.intro rfl (c_takeV hW2 hR2 (fun I3 J3 A3 hB hR3 hF3 => ?_))
      have hF := FV_trans (FV_trans hF' (Fr_FV (J := J') hF2)) (FS_FV hF3)
      refine And.intro rfl (c_sloshing hR3 hW2 hκ rfl ?_)
      refine And.intro rfl (c_beat (Or.inl ⟨rfl, rfl⟩) hB hW2 WW0 ?_)
      have ea : slZ (vset (vC I) 276 κ (hunZ (vC I) κ h')) κ = slA (vC I) κ h' := rfl
      have eb : btZ (vset (vC I) 276 κ (hunZ (vC I) κ h')) (stfZ (vset (vC I) 276 κ (hunZ (vC I) κ h')) 0 0) = btA (vC I) κ h' := rfl
      have ra := slZ_B (hW2.2.2.1 κ hκ)
      have rb := btZ_B (s := stfZ (vset (vC I) 276 κ (hunZ (vC I) κ h')) 0 0) hW2
      rw [ea] at ra ⊢
      rw [eb] at rb ⊢
      generalize slA (vC I) κ h' = a at ra he ⊢
      generalize btA (vC I) κ h' = b at rb he ⊢
      have em : (if 0 ≤ iZ a - iZ b then iZ a - iZ b else 0 - (iZ a - iZ b)) = iZ ((a - b).natAbs : Int) := by
        show (if iZ 0 ≤ iZ a - iZ b then iZ a - iZ b else iZ 0 - (iZ a - iZ b)) = iZ ((a - b).natAbs : Int)
        simp (disch := omega) only [z_i8, z_i16, z_of, z_ofN, z_lofN, z_0, z_1, z_m1, z_l0, z_l1, iZ_add, iZ_sub, iZ_mul, iZ_neg, lZ_add, lZ_sub, lZ_mul, lZ_neg, z_div, z_ldiv, z_l, z_i, z_lt, z_le, z_eq, z_llt, z_lle, z_leq, z_cgt, z_cge, z_clt, z_cle, z_ceq, z_cl, z_nat, Int.toNat_natCast, mm_I, mm_J, z_cln, z_abs, z_max, z_min, z_lmax, z_lmin, z_sin, Int.cast_ofNat_Int, uI_I, uI_J, uL_I, uL_J, uA_I, uA_J, sI_eq, sI_ne, sL_eq, sL_ne, up_eq, up_ne, uL_eq, uL_ne, z_toInt, Int.reduceToNat]
      have no : ¬ ((0 ≤ a ∧ 0 ≤ b) ∧ (f = -2 ∨ ((a - b).natAbs : Int) < l)) → wp E (d + 7) 125 34 [(0, .ref 0), (1, .int (iZ κ)), (2, .int (I 11 (iZ (κ : Int)).toNatClampNeg)), (3, .int (iZ L)), (4, .int (iZ f)), (5, .int (iZ h' + 1))] [] (mm I3 J3 A3) (QI E (d + 7) 250 [.int (iZ (κ : Int))]) := fun q => by
        rw [if_neg q] at he
        exact ih (h' + 1) I3 J3 A3 _ f l L _ _ _ (by omega) (by omega) hR3 hF hb.2 hL rfl rfl (iZ_add h' 1) he
      refine And.intro (fun q => ?_) (fun q => And.intro (fun q2 => ?_) (fun q2 => And.intro (fun q3 => ?_) (fun q3 => ?_)))
      · simp (disch := omega) only [z_i8, z_i16, z_of, z_ofN, z_lofN, z_0, z_1, z_m1, z_l0, z_l1, iZ_add, iZ_sub, iZ_mul, iZ_neg, lZ_add, lZ_sub, lZ_mul, lZ_neg, z_div, z_ldiv, z_l, z_i, z_lt, z_le, z_eq, z_llt, z_lle, z_leq, z_cgt, z_cge, z_clt, z_cle, z_ceq, z_cl, z_nat, Int.toNat_natCast, mm_I, mm_J, z_cln, z_abs, z_max, z_min, z_lmax, z_lmin, z_sin, Int.cast_ofNat_Int, uI_I, uI_J, uL_I, uL_J, uA_I, uA_J, sI_eq, sI_ne, sL_eq, sL_ne, up_eq, up_ne, uL_eq, uL_ne, z_toInt, Int.reduceToNat] at q
        refine wp_keys [0, 1, 2, 3, 4, 5] rfl rfl ?_
        exact no (by omega)
      · simp (disch := omega) only [z_i8, z_i16, z_of, z_ofN, z_lofN, z_0, z_1, z_m1, z_l0, z_l1, iZ_add, iZ_sub, iZ_mul, iZ_neg, lZ_add, lZ_sub, lZ_mul, lZ_neg, z_div, z_ldiv, z_l, z_i, z_lt, z_le, z_eq, z_llt, z_lle, z_leq, z_cgt, z_cge, z_clt, z_cle, z_ceq, z_cl, z_nat, Int.toNat_natCast, mm_I, mm_J, z_cln, z_abs, z_max, z_min, z_lmax, z_lmin, z_sin, Int.cast_ofNat_Int, uI_I, uI_J, uL_I, uL_J, uA_I, uA_J, sI_eq, sI_ne, sL_eq, sL_ne, up_eq, up_ne, uL_eq, uL_ne, z_toInt, Int.reduceToNat] at q
        simp (disch := omega) only [z_i8, z_i16, z_of, z_ofN, z_lofN, z_0, z_1, z_m1, z_l0, z_l1, iZ_add, iZ_sub, iZ_mul, iZ_neg, lZ_add, lZ_sub, lZ_mul, lZ_neg, z_div, z_ldiv, z_l, z_i, z_lt, z_le, z_eq, z_llt, z_lle, z_leq, z_cgt, z_cge, z_clt, z_cle, z_ceq, z_cl, z_nat, Int.toNat_natCast, mm_I, mm_J, z_cln, z_abs, z_max, z_min, z_lmax, z_lmin, z_sin, Int.cast_ofNat_Int, uI_I, uI_J, uL_I, uL_J, uA_I, uA_J, sI_eq, sI_ne, sL_eq, sL_ne, up_eq, up_ne, uL_eq, uL_ne, z_toInt, Int.reduceToNat] at q2
        refine wp_keys [0, 1, 2, 3, 4, 5] rfl rfl ?_
        exact no (by omega)
      · simp (disch := omega) only [z_i8, z_i16, z_of, z_ofN, z_lofN, z_0, z_1, z_m1, z_l0, z_l1, iZ_add, iZ_sub, iZ_mul, iZ_neg, lZ_add, lZ_sub, lZ_mul, lZ_neg, z_div, z_ldiv, z_l, z_i, z_lt, z_le, z_eq, z_llt, z_lle, z_leq, z_cgt, z_cge, z_clt, z_cle, z_ceq, z_cl, z_nat, Int.toNat_natCast, mm_I, mm_J, z_cln, z_abs, z_max, z_min, z_lmax, z_lmin, z_sin, Int.cast_ofNat_Int, uI_I, uI_J, uL_I, uL_J, uA_I, uA_J, sI_eq, sI_ne, sL_eq, sL_ne, up_eq, up_ne, uL_eq, uL_ne, z_toInt, Int.reduceToNat] at q
        simp (disch := omega) only [z_i8, z_i16, z_of, z_ofN, z_lofN, z_0, z_1, z_m1, z_l0, z_l1, iZ_add, iZ_sub, iZ_mul, iZ_neg, lZ_add, lZ_sub, lZ_mul, lZ_neg, z_div, z_ldiv, z_l, z_i, z_lt, z_le, z_eq, z_llt, z_lle, z_leq, z_cgt, z_cge, z_clt, z_cle, z_ceq, z_cl, z_nat, Int.toNat_natCast, mm_I, mm_J, z_cln, z_abs, z_max, z_min, z_lmax, z_lmin, z_sin, Int.cast_ofNat_Int, uI_I, uI_J, uL_I, uL_J, uA_I, uA_J, sI_eq, sI_ne, sL_eq, sL_ne, up_eq, up_ne, uL_eq, uL_ne, z_toInt, Int.reduceToNat] at q2
        have q3 : iZ L ≤ (if 0 ≤ iZ a - iZ b then iZ a - iZ b else 0 - (iZ a - iZ b)) := q3
        rw [em] at q3
        simp (disch := omega) only [z_i8, z_i16, z_of, z_ofN, z_lofN, z_0, z_1, z_m1, z_l0, z_l1, iZ_add, iZ_sub, iZ_mul, iZ_neg, lZ_add, lZ_sub, lZ_mul, lZ_neg, z_div, z_ldiv, z_l, z_i, z_lt, z_le, z_eq, z_llt, z_lle, z_leq, z_cgt, z_cge, z_clt, z_cle, z_ceq, z_cl, z_nat, Int.toNat_natCast, mm_I, mm_J, z_cln, z_abs, z_max, z_min, z_lmax, z_lmin, z_sin, Int.cast_ofNat_Int, uI_I, uI_J, uL_I, uL_J, uA_I, uA_J, sI_eq, sI_ne, sL_eq, sL_ne, up_eq, up_ne, uL_eq, uL_ne, z_toInt, Int.reduceToNat] at q3
        refine wp_keys [0, 1, 2, 3, 4, 5] rfl rfl ?_
        exact no (by omega)
      · simp (disch := omega) only [z_i8, z_i16, z_of, z_ofN, z_lofN, z_0, z_1, z_m1, z_l0, z_l1, iZ_add, iZ_sub, iZ_mul, iZ_neg, lZ_add, lZ_sub, lZ_mul, lZ_neg, z_div, z_ldiv, z_l, z_i, z_lt, z_le, z_eq, z_llt, z_lle, z_leq, z_cgt, z_cge, z_clt, z_cle, z_ceq, z_cl, z_nat, Int.toNat_natCast, mm_I, mm_J, z_cln, z_abs, z_max, z_min, z_lmax, z_lmin, z_sin, Int.cast_ofNat_Int, uI_I, uI_J, uL_I, uL_J, uA_I, uA_J, sI_eq, sI_ne, sL_eq, sL_ne, up_eq, up_ne, uL_eq, uL_ne, z_toInt, Int.reduceToNat] at q
        simp (disch := omega) only [z_i8, z_i16, z_of, z_ofN, z_lofN, z_0, z_1, z_m1, z_l0, z_l1, iZ_add, iZ_sub, iZ_mul, iZ_neg, lZ_add, lZ_sub, lZ_mul, lZ_neg, z_div, z_ldiv, z_l, z_i, z_lt, z_le, z_eq, z_llt, z_lle, z_leq, z_cgt, z_cge, z_clt, z_cle, z_ceq, z_cl, z_nat, Int.toNat_natCast, mm_I, mm_J, z_cln, z_abs, z_max, z_min, z_lmax, z_lmin, z_sin, Int.cast_ofNat_Int, uI_I, uI_J, uL_I, uL_J, uA_I, uA_J, sI_eq, sI_ne, sL_eq, sL_ne, up_eq, up_ne, uL_eq, uL_ne, z_toInt, Int.reduceToNat] at q2
        have q3 : ¬ iZ L ≤ (if 0 ≤ iZ a - iZ b then iZ a - iZ b else 0 - (iZ a - iZ b)) := q3
        rw [em] at q3
        simp (disch := omega) only [z_i8, z_i16, z_of, z_ofN, z_lofN, z_0, z_1, z_m1, z_l0, z_l1, iZ_add, iZ_sub, iZ_mul, iZ_neg, lZ_add, lZ_sub, lZ_mul, lZ_neg, z_div, z_ldiv, z_l, z_i, z_lt, z_le, z_eq, z_llt, z_lle, z_leq, z_cgt, z_cge, z_clt, z_cle, z_ceq, z_cl, z_nat, Int.toNat_natCast, mm_I, mm_J, z_cln, z_abs, z_max, z_min, z_lmax, z_lmin, z_sin, Int.cast_ofNat_Int, uI_I, uI_J, uL_I, uL_J, uA_I, uA_J, sI_eq, sI_ne, sL_eq, sL_ne, up_eq, up_ne, uL_eq, uL_ne, z_toInt, Int.reduceToNat] at q3
        rw [if_pos (by omega)] at he
        refine wp_keys [0, 1, 2, 3, 4, 5] rfl rfl ?_
        exact ih (h' + 1) I3 J3 A3 _ h' _ _ _ _ _ (by omega) (by omega) hR3 hF hb.2 (Or.inr ⟨by omega, rfl, by omega, by omega⟩) em rfl (iZ_add h' 1) he
  refine And.intro hin ?_
  refine wp_keys [0, 1, 2, 3, 4, 5] rfl rfl ?_
  exact L 100 1 I J A (vC I 276 κ) (-2) 0 1000000000 _ _ (iZ 1) (by omega) (by omega) (by rw [vset_id]; exact hR) FV_refl w6 (Or.inl ⟨rfl, rfl⟩) rfl rfl rfl hRES.symm
end STL
