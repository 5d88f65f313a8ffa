/-! ===== best in the reference ===== -/
section BEST2
variable {E : Nat × (Nat → Int32)} {d : Nat} {I I0 I1 : Nat → Nat → Int32} {J J0 J1 : Nat → Nat → Int64} {A A1 : Nat → Option Nat} {Q : Option Value → am_M → Prop} {M : am_M} {v w : am_V} {b : Nat}
theorem ms_lean (s : MSt I0 J0 A v I J w) : I 266 7 = iZ (w 266 7) := by
  have ev := s.2.2.2.1
  subst ev
  exact vI_eq I 266 7
theorem m_worstI {P n r c ω μ : Nat} {g : Nat → Nat → Int} {W : Int} {x7 : Int32} (s : MSt I0 J0 A v I J w) (m0 : M0 I0 J0) (e31 : I0 265 31 = iZ P) (hP : 0 < P ∧ P ≤ 6) (hr : r ≤ 10) (hg : WfG g) (hm : MG I0 (c / μ % P) g) (hμ : 0 < μ ∧ μ ≤ 1296) (hc : c ≤ 1296) (hW : 0 ≤ W ∧ W ≤ 60) (h8 : w 266 8 + r ≤ 99999) (hQ : ∀ I' J' x8, MSt I0 J0 A v I' J' (rnN g r w) → 0 ≤ wrN g r w W ∧ wrN g r w W ≤ 60 → wp E (d + 7) 246 85 [(0, .ref 265), (1, .int (iZ n)), (2, .int (iZ r)), (3, .int (iZ c)), (4, .int (iZ ω)), (5, .int (iZ (wrN g r w W))), (6, .int (iZ μ)), (7, .int x7), (8, .int x8)] [] (mm I' J' A) Q) : wp E (d + 7) 246 28 [(0, .ref 265), (1, .int (iZ n)), (2, .int (iZ r)), (3, .int (iZ c)), (4, .int (iZ ω)), (5, .int (iZ W)), (6, .int (iZ μ)), (7, .int x7), (8, .int (iZ 0))] [] (mm I J A) Q := by
  obtain ⟨RU, hU⟩ : ∃ R, R = rnN g r w := ⟨_, rfl⟩
  obtain ⟨RW, hRW⟩ : ∃ R, R = wrN g r w W := ⟨_, rfl⟩
  rw [← hU, ← hRW] at hQ
  have hd : c / μ % P < P := Nat.mod_lt _ hP.1
  have hdl : c / μ ≤ 1296 := Nat.le_trans (Nat.div_le_self c μ) hc
  have L : ∀ (k i : Nat) I J w W x5 x8, i + k = r → MSt I0 J0 A v I J w → 0 ≤ W ∧ W ≤ 60 → w 266 8 + k ≤ 99999 → wrN g k w W = RW → rnN g k w = RU → x5 = iZ W → x8 = iZ i → wp E (d + 7) 246 28 [(0, .ref 265), (1, .int (iZ n)), (2, .int (iZ r)), (3, .int (iZ c)), (4, .int (iZ ω)), (5, .int x5), (6, .int (iZ μ)), (7, .int x7), (8, .int x8)] [] (mm I J A) Q := by
    intro k
    induction k with
    | zero =>
      intro i I J w W x5 x8 hi s hW h8 h1 h2 e5 e8
      subst e5; subst e8
      have h1 : W = RW := h1
      have h2 : w = RU := h2
      subst h1; subst h2
      exact wf (hs := [28, 85]) 20 28 (by decide) (wt (by ((try simp (disch := omega) only [z_i8, z_i16, z_of, z_ofN, z_lofN, z_0, z_1, z_m1, z_l0, z_l1, iZ_add, iZ_sub, iZ_mul, iZ_neg, lZ_add, lZ_sub, lZ_mul, lZ_neg, z_div, z_ldiv, z_l, z_i, z_lt, z_le, z_eq, z_llt, z_lle, z_leq, z_cgt, z_cge, z_clt, z_cle, z_ceq, z_cl, z_nat, Int.toNat_natCast, mm_I, mm_J, z_cln, z_abs, z_max, z_min, z_lmax, z_lmin, z_sin, Int.cast_ofNat_Int, uI_I, uI_J, uL_I, uL_J, uA_I, uA_J, sI_eq, sI_ne, sL_eq, sL_ne, up_eq, up_ne, uL_eq, uL_ne, z_toInt, Int.reduceToNat]) <;> omega)) (hQ I J _ s hW))
    | succ k ih =>
      intro i I J w W x5 x8 hi s hW h8 h1 h2 e5 e8
      subst e5; subst e8
      have e : I 265 31 = iZ P := (s.1.2.1 31 (by omega) (by omega)).trans e31
      have ed : iZ (c : Int) / iZ (μ : Int) - iZ (c : Int) / iZ (μ : Int) / I 265 31 * I 265 31 = iZ ((c / μ % P : Nat) : Int) := by
        rw [e, nz_div (by omega) (by omega), nz_rem (by omega) (by omega)]
      refine wf (hs := [28, 85]) 60 28 (by decide) (wF (by ((try simp (disch := omega) only [z_i8, z_i16, z_of, z_ofN, z_lofN, z_0, z_1, z_m1, z_l0, z_l1, iZ_add, iZ_sub, iZ_mul, iZ_neg, lZ_add, lZ_sub, lZ_mul, lZ_neg, z_div, z_ldiv, z_l, z_i, z_lt, z_le, z_eq, z_llt, z_lle, z_leq, z_cgt, z_cge, z_clt, z_cle, z_ceq, z_cl, z_nat, Int.toNat_natCast, mm_I, mm_J, z_cln, z_abs, z_max, z_min, z_lmax, z_lmin, z_sin, Int.cast_ofNat_Int, uI_I, uI_J, uL_I, uL_J, uA_I, uA_J, sI_eq, sI_ne, sL_eq, sL_ne, up_eq, up_ne, uL_eq, uL_ne, z_toInt, Int.reduceToNat]) <;> omega)) (And.intro (nz_ne hμ.1 (by omega)) (And.intro ?_ ?_)))
      · show ¬ I 265 31 = 0
        rw [e]; exact nz_ne hP.1 (by omega)
      refine And.intro rfl (ms_go (r := c / μ % P) s m0 (by omega) hg hm (by omega) ed (fun I2 J2 s2 => ?_))
      have el := ms_lean s2
      have ll := lean_le s2.2.2.2.2.1
      have nx : ∀ x5, x5 = iZ (max W ((rndZ g w 266 7).natAbs : Int)) → wp E (d + 7) 246 28 [(0, .ref 265), (1, .int (iZ n)), (2, .int (iZ r)), (3, .int (iZ c)), (4, .int (iZ ω)), (5, .int x5), (6, .int (iZ μ)), (7, .int x7), (8, .int (iZ (i : Int) + 1))] [] (mm I2 J2 A) Q := fun x5 e5 => ih (i + 1) I2 J2 _ _ x5 _ (by omega) s2 (by omega) (by rw [rnd_8]; omega) h1 h2 e5 (iZ_add i 1)
      refine And.intro (inL (by decide)) (And.intro rfl (m_withoutE el ⟨by omega, by omega⟩ (And.intro (fun q => ?_) (fun q => ?_))))
      · simp (disch := omega) only [z_i8, z_i16, z_of, z_ofN, z_lofN, z_0, z_1, z_m1, z_l0, z_l1, iZ_add, iZ_sub, iZ_mul, iZ_neg, lZ_add, lZ_sub, lZ_mul, lZ_neg, z_div, z_ldiv, z_l, z_i, z_lt, z_le, z_eq, z_llt, z_lle, z_leq, z_cgt, z_cge, z_clt, z_cle, z_ceq, z_cl, z_nat, Int.toNat_natCast, mm_I, mm_J, z_cln, z_abs, z_max, z_min, z_lmax, z_lmin, z_sin, Int.cast_ofNat_Int, uI_I, uI_J, uL_I, uL_J, uA_I, uA_J, sI_eq, sI_ne, sL_eq, sL_ne, up_eq, up_ne, uL_eq, uL_ne, z_toInt, Int.reduceToNat] at q
        refine wp_keys [0, 1, 2, 3, 4, 5, 6, 7, 8] rfl rfl ?_
        exact nx _ (by congr 1; omega)
      · simp (disch := omega) only [z_i8, z_i16, z_of, z_ofN, z_lofN, z_0, z_1, z_m1, z_l0, z_l1, iZ_add, iZ_sub, iZ_mul, iZ_neg, lZ_add, lZ_sub, lZ_mul, lZ_neg, z_div, z_ldiv, z_l, z_i, z_lt, z_le, z_eq, z_llt, z_lle, z_leq, z_cgt, z_cge, z_clt, z_cle, z_ceq, z_cl, z_nat, Int.toNat_natCast, mm_I, mm_J, z_cln, z_abs, z_max, z_min, z_lmax, z_lmin, z_sin, Int.cast_ofNat_Int, uI_I, uI_J, uL_I, uL_J, uA_I, uA_J, sI_eq, sI_ne, sL_eq, sL_ne, up_eq, up_ne, uL_eq, uL_ne, z_toInt, Int.reduceToNat] at q
        refine And.intro (inL (by decide)) (And.intro rfl (m_withoutE el ⟨by omega, by omega⟩ ?_))
        refine wp_keys [0, 1, 2, 3, 4, 5, 6, 7, 8] rfl rfl ?_
        exact nx _ (by congr 1; omega)
  exact L r 0 I J w W _ _ (by omega) s hW h8 hRW.symm hU.symm rfl rfl
theorem m_worst {P n r c : Nat} {G : Nat → Nat → Nat → Int} {x1 x2 x3 x4 : Int32} (s : MSt I0 J0 A v I J w) (m0 : M0 I0 J0) (e31 : I0 265 31 = iZ P) (hP : 0 < P ∧ P ≤ 6) (hn : n ≤ 4) (hr : r ≤ 10) (hG : ∀ p, p < P → WfG (G p) ∧ MG I0 p (G p)) (hc : c < P ^ n) (h8 : w 266 8 ≤ 9999) (ex1 : x1 = iZ n) (ex2 : x2 = iZ r) (ex3 : x3 = iZ c) (ex4 : x4 = iZ ((P ^ n : Nat) : Int)) (hQ : ∀ I' J' u, MSt I0 J0 A v I' J' u → 0 ≤ wtZ P r G n w 0 c ∧ wtZ P r G n w 0 c ≤ 60 → Q (some (.int (iZ (wtZ P r G n w 0 c)))) (mm I' J' A)) : wpC E (d + 7) 246 [.ref 265, .int x1, .int x2, .int x3, .int x4] (mm I J A) Q := by
  subst ex1; subst ex2; subst ex3; subst ex4
  have pn := pw_le hP.2 hn
  obtain ⟨RES, hRES⟩ : ∃ R, R = wtZ P r G n w 0 c := ⟨_, rfl⟩
  rw [← hRES] at hQ
  have L : ∀ (m i : Nat) I J w W x5 x6 x7, i + m = n → MSt I0 J0 A v I J w → 0 ≤ W ∧ W ≤ 60 → w 266 8 + 10 * m ≤ 99999 → wtZ P r G m w W (c % P ^ m) = RES → x5 = iZ W → x6 = iZ ((P ^ m : Nat) : Int) → x7 = iZ i → wp E (d + 7) 246 10 [(0, .ref 265), (1, .int (iZ n)), (2, .int (iZ r)), (3, .int (iZ c)), (4, .int (iZ ((P ^ n : Nat) : Int))), (5, .int x5), (6, .int x6), (7, .int x7)] [] (mm I J A) Q := by
    intro m
    induction m with
    | zero =>
      intro i I J w W x5 x6 x7 hi s hW h8 he e5 e6 e7
      subst e5; subst e6; subst e7
      have he : W = RES := he
      subst he
      exact wf (hs := [10]) 20 10 (by decide) (wt (by ((try simp (disch := omega) only [z_i8, z_i16, z_of, z_ofN, z_lofN, z_0, z_1, z_m1, z_l0, z_l1, iZ_add, iZ_sub, iZ_mul, iZ_neg, lZ_add, lZ_sub, lZ_mul, lZ_neg, z_div, z_ldiv, z_l, z_i, z_lt, z_le, z_eq, z_llt, z_lle, z_leq, z_cgt, z_cge, z_clt, z_cle, z_ceq, z_cl, z_nat, Int.toNat_natCast, mm_I, mm_J, z_cln, z_abs, z_max, z_min, z_lmax, z_lmin, z_sin, Int.cast_ofNat_Int, uI_I, uI_J, uL_I, uL_J, uA_I, uA_J, sI_eq, sI_ne, sL_eq, sL_ne, up_eq, up_ne, uL_eq, uL_ne, z_toInt, Int.reduceToNat]) <;> omega)) (hQ I J w s hW))
    | succ m ih =>
      intro i I J w W x5 x6 x7 hi s hW h8 he e5 e6 e7
      subst e5; subst e6; subst e7
      have e : I 265 31 = iZ P := (s.1.2.1 31 (by omega) (by omega)).trans e31
      have pm := pw_le (P := P) (n := m) hP.2 (by omega)
      have pm1 := pw_le (P := P) (n := m + 1) hP.2 (by omega)
      have p0 : 0 < P ^ m := Nat.pow_pos hP.1
      have ew : iZ ((P ^ (m + 1) : Nat) : Int) / I 265 31 = iZ ((P ^ m : Nat) : Int) := by
        rw [e, nz_div (by omega) (by omega), Nat.pow_succ, Nat.mul_div_cancel _ hP.1]
      have e1 : c % P ^ (m + 1) / P ^ m = c / P ^ m % P := by rw [Nat.pow_succ, Nat.mod_mul_right_div_self]
      have e2 : c % P ^ (m + 1) % P ^ m = c % P ^ m := by rw [Nat.pow_succ, Nat.mod_mul_right_mod]
      have he : wtZ P r G m (rnN (G (c % P ^ (m + 1) / P ^ m)) r w) (wrN (G (c % P ^ (m + 1) / P ^ m)) r w W) (c % P ^ (m + 1) % P ^ m) = RES := he
      rw [e1, e2] at he
      have hd : c / P ^ m % P < P := Nat.mod_lt _ hP.1
      have pg := hG _ hd
      refine wf (hs := [10, 28]) 30 10 (by decide) (wF (by ((try simp (disch := omega) only [z_i8, z_i16, z_of, z_ofN, z_lofN, z_0, z_1, z_m1, z_l0, z_l1, iZ_add, iZ_sub, iZ_mul, iZ_neg, lZ_add, lZ_sub, lZ_mul, lZ_neg, z_div, z_ldiv, z_l, z_i, z_lt, z_le, z_eq, z_llt, z_lle, z_leq, z_cgt, z_cge, z_clt, z_cle, z_ceq, z_cl, z_nat, Int.toNat_natCast, mm_I, mm_J, z_cln, z_abs, z_max, z_min, z_lmax, z_lmin, z_sin, Int.cast_ofNat_Int, uI_I, uI_J, uL_I, uL_J, uA_I, uA_J, sI_eq, sI_ne, sL_eq, sL_ne, up_eq, up_ne, uL_eq, uL_ne, z_toInt, Int.reduceToNat]) <;> omega)) (And.intro ?_ ?_))
      · show ¬ I 265 31 = 0
        rw [e]; exact nz_ne hP.1 (by omega)
      refine wp_keys [0, 1, 2, 3, 4, 5, 6, 7, 8] rfl rfl ?_
      have T := m_worstI (E := E) (d := d) (Q := Q) (P := P) (n := n) (r := r) (c := c) (ω := P ^ n) (μ := P ^ m) (g := G (c / P ^ m % P)) (W := W) (x7 := iZ (i : Int)) s m0 e31 hP hr pg.1 pg.2 ⟨p0, pm⟩ (by omega) hW (by omega) (fun I2 J2 x8 s2 hw2 => by
        refine wf (hs := [10]) 20 85 (by decide) ?_
        refine wp_keys [0, 1, 2, 3, 4, 5, 6, 7] rfl rfl ?_
        exact ih (i + 1) I2 J2 _ _ _ _ _ (by omega) s2 hw2 (by rw [rnN_8]; omega) he rfl rfl (iZ_add i 1))
      rw [← ew] at T
      exact T
  refine wc (hs := [10]) 20 (by decide) ?_
  refine wp_keys [0, 1, 2, 3, 4, 5, 6, 7] rfl rfl ?_
  exact L n 0 I J w 0 _ _ _ (by omega) s (by omega) (by omega) (by rw [Nat.mod_eq_of_lt hc]; exact hRES.symm) rfl rfl rfl
def GBs (I : Nat → Nat → Int32) (n r k : Int) : Prop := I 266 0 = 1 ∧ (1 ≤ n ∧ n ≤ 4) ∧ (1 ≤ r ∧ r ≤ 10) ∧ (-1 ≤ k ∧ k ≤ n - 1)
def bsA (P n : Nat) (k : Int) (a : Int × Nat) : Int := if k = -1 then a.1 else ((a.2 / P ^ (n - 1 - k.toNat) % P : Nat) : Int)
theorem m_bestE {P n r : Nat} {k : Int} {a : Int × Nat} {x7 : Int32} (s : MSt I0 J0 A v I J v) (e31 : I0 265 31 = iZ P) (hP : 0 < P ∧ P ≤ 6) (hn : 1 ≤ n ∧ n ≤ 4) (hk : -1 ≤ k ∧ k ≤ n - 1) (ha : a.2 ≤ 1296) (hQ : Q (some (.int (iZ (bsA P n k a)))) (mm I J A)) : wp E (d + 8) 247 165 [(0, .ref 265), (1, .int (iZ n)), (2, .int (iZ r)), (3, .int (iZ k)), (4, .int (iZ ((P ^ n : Nat) : Int))), (5, .int (iZ (a.2 : Int))), (6, .int (iZ a.1)), (7, .int x7)] [] (mm I J A) Q := by
  have e : I 265 31 = iZ P := (s.1.2.1 31 (by omega) (by omega)).trans e31
  have L : ∀ (m i : Nat) x7 x8, i + m = (k + 1).toNat → x7 = iZ ((P ^ (n - i) : Nat) : Int) → x8 = iZ i → wp E (d + 8) 247 172 [(0, .ref 265), (1, .int (iZ n)), (2, .int (iZ r)), (3, .int (iZ k)), (4, .int (iZ ((P ^ n : Nat) : Int))), (5, .int (iZ (a.2 : Int))), (6, .int (iZ a.1)), (7, .int x7), (8, .int x8)] [] (mm I J A) Q := by
    intro m
    induction m with
    | zero =>
      intro i x7 x8 hi e7 e8
      subst e7; subst e8
      refine wf (hs := [172]) 60 172 (by decide) (wt (by ((try simp (disch := omega) only [z_i8, z_i16, z_of, z_ofN, z_lofN, z_0, z_1, z_m1, z_l0, z_l1, iZ_add, iZ_sub, iZ_mul, iZ_neg, lZ_add, lZ_sub, lZ_mul, lZ_neg, z_div, z_ldiv, z_l, z_i, z_lt, z_le, z_eq, z_llt, z_lle, z_leq, z_cgt, z_cge, z_clt, z_cle, z_ceq, z_cl, z_nat, Int.toNat_natCast, mm_I, mm_J, z_cln, z_abs, z_max, z_min, z_lmax, z_lmin, z_sin, Int.cast_ofNat_Int, uI_I, uI_J, uL_I, uL_J, uA_I, uA_J, sI_eq, sI_ne, sL_eq, sL_ne, up_eq, up_ne, uL_eq, uL_ne, z_toInt, Int.reduceToNat]) <;> omega)) (And.intro (fun q => ?_) (fun q => ?_)))
      · simp (disch := omega) only [z_i8, z_i16, z_of, z_ofN, z_lofN, z_0, z_1, z_m1, z_l0, z_l1, iZ_add, iZ_sub, iZ_mul, iZ_neg, lZ_add, lZ_sub, lZ_mul, lZ_neg, z_div, z_ldiv, z_l, z_i, z_lt, z_le, z_eq, z_llt, z_lle, z_leq, z_cgt, z_cge, z_clt, z_cle, z_ceq, z_cl, z_nat, Int.toNat_natCast, mm_I, mm_J, z_cln, z_abs, z_max, z_min, z_lmax, z_lmin, z_sin, Int.cast_ofNat_Int, uI_I, uI_J, uL_I, uL_J, uA_I, uA_J, sI_eq, sI_ne, sL_eq, sL_ne, up_eq, up_ne, uL_eq, uL_ne, z_toInt, Int.reduceToNat] at q
        unfold bsA at hQ
        rw [if_pos q] at hQ
        exact hQ
      · simp (disch := omega) only [z_i8, z_i16, z_of, z_ofN, z_lofN, z_0, z_1, z_m1, z_l0, z_l1, iZ_add, iZ_sub, iZ_mul, iZ_neg, lZ_add, lZ_sub, lZ_mul, lZ_neg, z_div, z_ldiv, z_l, z_i, z_lt, z_le, z_eq, z_llt, z_lle, z_leq, z_cgt, z_cge, z_clt, z_cle, z_ceq, z_cl, z_nat, Int.toNat_natCast, mm_I, mm_J, z_cln, z_abs, z_max, z_min, z_lmax, z_lmin, z_sin, Int.cast_ofNat_Int, uI_I, uI_J, uL_I, uL_J, uA_I, uA_J, sI_eq, sI_ne, sL_eq, sL_ne, up_eq, up_ne, uL_eq, uL_ne, z_toInt, Int.reduceToNat] at q
        unfold bsA at hQ
        rw [if_neg q] at hQ
        have pm := pw_le (P := P) (n := n - i) hP.2 (by omega)
        have p0 : 0 < P ^ (n - i) := Nat.pow_pos hP.1
        have hdl : a.2 / P ^ (n - i) ≤ 1296 := Nat.le_trans (Nat.div_le_self _ _) ha
        have ei : n - 1 - k.toNat = n - i := by omega
        rw [ei] at hQ
        refine And.intro (nz_ne p0 (by omega)) (And.intro ?_ (q_i hQ ?_))
        · show ¬ I 265 31 = 0
          rw [e]; exact nz_ne hP.1 (by omega)
        · show iZ (a.2 : Int) / iZ ((P ^ (n - i) : Nat) : Int) - iZ (a.2 : Int) / iZ ((P ^ (n - i) : Nat) : Int) / I 265 31 * I 265 31 = _
          rw [e, nz_div (by omega) (by omega), nz_rem (by omega) (by omega)]
    | succ m ih =>
      intro i x7 x8 hi e7 e8
      subst e7; subst e8
      have pm := pw_le (P := P) (n := n - i) hP.2 (by omega)
      have ew : iZ ((P ^ (n - i) : Nat) : Int) / I 265 31 = iZ ((P ^ (n - (i + 1)) : Nat) : Int) := by
        have e2 : n - i = (n - (i + 1)) + 1 := by omega
        rw [e, nz_div (by omega) (by omega), e2, Nat.pow_succ, Nat.mul_div_cancel _ hP.1]
      refine wf (hs := [172]) 60 172 (by decide) (wF (by ((try simp (disch := omega) only [z_i8, z_i16, z_of, z_ofN, z_lofN, z_0, z_1, z_m1, z_l0, z_l1, iZ_add, iZ_sub, iZ_mul, iZ_neg, lZ_add, lZ_sub, lZ_mul, lZ_neg, z_div, z_ldiv, z_l, z_i, z_lt, z_le, z_eq, z_llt, z_lle, z_leq, z_cgt, z_cge, z_clt, z_cle, z_ceq, z_cl, z_nat, Int.toNat_natCast, mm_I, mm_J, z_cln, z_abs, z_max, z_min, z_lmax, z_lmin, z_sin, Int.cast_ofNat_Int, uI_I, uI_J, uL_I, uL_J, uA_I, uA_J, sI_eq, sI_ne, sL_eq, sL_ne, up_eq, up_ne, uL_eq, uL_ne, z_toInt, Int.reduceToNat]) <;> omega)) (And.intro ?_ ?_))
      · show ¬ I 265 31 = 0
        rw [e]; exact nz_ne hP.1 (by omega)
      refine wp_keys [0, 1, 2, 3, 4, 5, 6, 7, 8] rfl rfl ?_
      exact ih (i + 1) _ _ (by omega) ew (iZ_add i 1)
  refine wf (hs := [172]) 60 165 (by decide) ?_
  refine wp_keys [0, 1, 2, 3, 4, 5, 6, 7, 8] rfl rfl ?_
  exact L (k + 1).toNat 0 _ _ (by omega) rfl rfl
theorem m_bestL {P n r : Nat} {k : Int} {G : Nat → Nat → Nat → Int} {x8 : Int32} (s : MSt I0 J0 A v I J v) (m0 : M0 I0 J0) (e31 : I0 265 31 = iZ P) (hP : 0 < P ∧ P ≤ 6) (hn : 1 ≤ n ∧ n ≤ 4) (hr : r ≤ 10) (hk : -1 ≤ k ∧ k ≤ n - 1) (hG : ∀ p, p < P → WfG (G p) ∧ MG I0 p (G p)) (hW : Wf v) (hH : WfH v) (h8 : v 266 8 ≤ 9999) (hQ : ∀ I' J', MSt I0 J0 A v I' J' v → Q (some (.int (iZ (bsA P n k (bsF P r G n v 0 0 (61, 0)))))) (mm I' J' A)) : wp E (d + 8) 247 102 [(0, .ref 265), (1, .int (iZ n)), (2, .int (iZ r)), (3, .int (iZ k)), (4, .int (iZ ((P ^ n : Nat) : Int))), (5, .int (iZ 0)), (6, .int (iZ 61)), (7, .int (iZ 0))] [] (mm I J A) Q := by
  have pn := pw_le hP.2 hn.2
  rw [bs_fd hP.1] at hQ
  have hf : ∀ c, fdN (fun j a => stp (wtZ P r G n v 0 j) (0 * P ^ n + j) a) c (61, 0) = fdN (fun j a => stp (wtZ P r G n v 0 j) j a) c (61, 0) := fun c => fdN_congr c _ (fun j _ x => by rw [Nat.zero_mul, Nat.zero_add])
  rw [hf] at hQ
  have L := lpU (σ := (Nat → Nat → Int32) × (Nat → Nat → Int64) × Int32 × Int32 × Int32) (fun _ s => wp E (d + 8) 247 102 [(0, .ref 265), (1, .int (iZ n)), (2, .int (iZ r)), (3, .int (iZ k)), (4, .int (iZ ((P ^ n : Nat) : Int))), (5, .int s.2.2.1), (6, .int s.2.2.2.1), (7, .int s.2.2.2.2)] [] (mm s.1 s.2.1 A) Q) (fun i s => ∃ a : Int × Nat, a = fdN (fun j a => stp (wtZ P r G n v 0 j) j a) i (61, 0) ∧ (0 ≤ a.1 ∧ a.1 ≤ 61) ∧ a.2 ≤ 1296 ∧ MSt I0 J0 A v s.1 s.2.1 v ∧ s.2.2.1 = iZ (a.2 : Int) ∧ s.2.2.2.1 = iZ a.1 ∧ s.2.2.2.2 = iZ i) (P ^ n) ?_ ?_
  · exact L 0 (I, J, _, _, _) (by omega) ⟨(61, 0), rfl, by omega, by omega, s, rfl, rfl, rfl⟩
  · rintro ⟨I', J', x5, x6, x7⟩ ⟨a, ea, ha1, ha2, s', e5, e6, e7⟩
    dsimp only at s' e5 e6 e7
    subst e5; subst e6; subst e7
    have H := hQ I' J' s'
    rw [← ea] at H
    refine wf (hs := [102, 165]) 20 102 (by decide) (wt (by ((try simp (disch := omega) only [z_i8, z_i16, z_of, z_ofN, z_lofN, z_0, z_1, z_m1, z_l0, z_l1, iZ_add, iZ_sub, iZ_mul, iZ_neg, lZ_add, lZ_sub, lZ_mul, lZ_neg, z_div, z_ldiv, z_l, z_i, z_lt, z_le, z_eq, z_llt, z_lle, z_leq, z_cgt, z_cge, z_clt, z_cle, z_ceq, z_cl, z_nat, Int.toNat_natCast, mm_I, mm_J, z_cln, z_abs, z_max, z_min, z_lmax, z_lmin, z_sin, Int.cast_ofNat_Int, uI_I, uI_J, uL_I, uL_J, uA_I, uA_J, sI_eq, sI_ne, sL_eq, sL_ne, up_eq, up_ne, uL_eq, uL_ne, z_toInt, Int.reduceToNat]) <;> omega)) ?_)
    exact m_bestE s' e31 hP hn hk ha2 H
  · rintro i ⟨I', J', x5, x6, x7⟩ hi ⟨a, ea, ha1, ha2, s', e5, e6, e7⟩ ih
    dsimp only at s' e5 e6 e7
    subst e5; subst e6; subst e7
    refine wf (hs := [102]) 60 102 (by decide) (wF (by ((try simp (disch := omega) only [z_i8, z_i16, z_of, z_ofN, z_lofN, z_0, z_1, z_m1, z_l0, z_l1, iZ_add, iZ_sub, iZ_mul, iZ_neg, lZ_add, lZ_sub, lZ_mul, lZ_neg, z_div, z_ldiv, z_l, z_i, z_lt, z_le, z_eq, z_llt, z_lle, z_leq, z_cgt, z_cge, z_clt, z_cle, z_ceq, z_cl, z_nat, Int.toNat_natCast, mm_I, mm_J, z_cln, z_abs, z_max, z_min, z_lmax, z_lmin, z_sin, Int.cast_ofNat_Int, uI_I, uI_J, uL_I, uL_J, uA_I, uA_J, sI_eq, sI_ne, sL_eq, sL_ne, up_eq, up_ne, uL_eq, uL_ne, z_toInt, Int.reduceToNat]) <;> omega)) (And.intro rfl (m_worst s' m0 e31 hP hn.2 hr hG hi h8 rfl rfl rfl rfl (fun I2 J2 u s2 hw => ?_))))
    have es : fdN (fun j a => stp (wtZ P r G n v 0 j) j a) (i + 1) (61, 0) = stp (wtZ P r G n v 0 i) i a := by rw [ea]; rfl
    generalize wtZ P r G n v 0 i = W at hw es ⊢
    refine And.intro (fun q => ?_) (fun q => ?_)
    · have q' := q
      simp (disch := omega) only [z_i8, z_i16, z_of, z_ofN, z_lofN, z_0, z_1, z_m1, z_l0, z_l1, iZ_add, iZ_sub, iZ_mul, iZ_neg, lZ_add, lZ_sub, lZ_mul, lZ_neg, z_div, z_ldiv, z_l, z_i, z_lt, z_le, z_eq, z_llt, z_lle, z_leq, z_cgt, z_cge, z_clt, z_cle, z_ceq, z_cl, z_nat, Int.toNat_natCast, mm_I, mm_J, z_cln, z_abs, z_max, z_min, z_lmax, z_lmin, z_sin, Int.cast_ofNat_Int, uI_I, uI_J, uL_I, uL_J, uA_I, uA_J, sI_eq, sI_ne, sL_eq, sL_ne, up_eq, up_ne, uL_eq, uL_ne, z_toInt, Int.reduceToNat] at q
      refine wt q' (And.intro rfl (ms_back s2 hW hH rfl (fun I3 s3 => ?_)))
      refine wp_keys [0, 1, 2, 3, 4, 5, 6, 7] rfl rfl ?_
      refine ih (I3, J2, _, _, _) ⟨a, ?_, ha1, ha2, s3, rfl, rfl, iZ_add i 1⟩
      rw [es]; unfold stp; rw [if_neg (by omega)]
    · have q' := q
      simp (disch := omega) only [z_i8, z_i16, z_of, z_ofN, z_lofN, z_0, z_1, z_m1, z_l0, z_l1, iZ_add, iZ_sub, iZ_mul, iZ_neg, lZ_add, lZ_sub, lZ_mul, lZ_neg, z_div, z_ldiv, z_l, z_i, z_lt, z_le, z_eq, z_llt, z_lle, z_leq, z_cgt, z_cge, z_clt, z_cle, z_ceq, z_cl, z_nat, Int.toNat_natCast, mm_I, mm_J, z_cln, z_abs, z_max, z_min, z_lmax, z_lmin, z_sin, Int.cast_ofNat_Int, uI_I, uI_J, uL_I, uL_J, uA_I, uA_J, sI_eq, sI_ne, sL_eq, sL_ne, up_eq, up_ne, uL_eq, uL_ne, z_toInt, Int.reduceToNat] at q
      refine wF q' (And.intro rfl (ms_back s2 hW hH rfl (fun I3 s3 => ?_)))
      refine wp_keys [0, 1, 2, 3, 4, 5, 6, 7] rfl rfl ?_
      refine ih (I3, J2, _, _, _) ⟨(W, i), ?_, by omega, by omega, s3, rfl, rfl, iZ_add i 1⟩
      rw [es]; unfold stp; rw [if_pos (by omega)]
theorem m_best {n r k : Int} {P : Nat} {G : Nat → Nat → Nat → Int} (h0 : M0 I J) (hz : ZO (mm I J A)) (hV : Vm I) (h9 : I 266 0 = 1 → vC I 266 8 ≤ 9999) (e31 : I 265 31 = iZ P) (hP : P ≤ 6) (hG : ∀ p : Nat, p < P → WfG (G p) ∧ MG I p (G p)) (hn : -2147483648 ≤ n ∧ n ≤ 2147483647) (hr : -2147483648 ≤ r ∧ r ≤ 2147483647) (hk : -2147483648 ≤ k ∧ k ≤ 2147483647) (h1 : GBs I n r k → 0 < P → ∀ I' J', MSt I J A (vC I) I' J' (vC I) → Q (some (.int (iZ (bsA P n.toNat k (bsF P r.toNat G n.toNat (vC I) 0 0 (61, 0)))))) (mm I' J' A)) (h2 : GBs I n r k → P = 0 → Q (some (.int (iZ (-2)))) (mm I J A)) (hno : ¬ GBs I n r k → Q (some (.int (iZ (-3)))) (mm I J A)) : wpC E (d + 8) 247 [.ref 265, .int (iZ n), .int (iZ r), .int (iZ k)] (mm I J A) Q := by
  have T : I 266 0 = 1 → 1 ≤ n ∧ n ≤ 4 → 1 ≤ r ∧ r ≤ 10 → -1 ≤ k ∧ k ≤ n - 1 → wp E (d + 8) 247 49 [(0, .ref 265), (1, .int (iZ n)), (2, .int (iZ r)), (3, .int (iZ k))] [] (mm I J A) Q := fun g0 g1 g2 g3 => by
    by_cases p0 : P = 0
    · have H := h2 ⟨g0, g1, g2, g3⟩ p0
      refine wf (hs := []) 20 49 (by decide) (wt ?_ H)
      show I 265 31 = 0
      rw [e31, p0]; rfl
    · have H := h1 ⟨g0, g1, g2, g3⟩ (by omega)
      have hW := (hV g0).1
      have hH := (hV g0).2
      have h8 := h9 g0
      obtain ⟨ν, hν, rfl⟩ : ∃ ν : Nat, ν ≤ 4 ∧ n = ν := ⟨n.toNat, by omega, by omega⟩
      obtain ⟨ρ, hρ, rfl⟩ : ∃ ρ : Nat, ρ ≤ 10 ∧ r = ρ := ⟨r.toNat, by omega, by omega⟩
      simp only [Int.toNat_natCast] at H
      have L : ∀ (m i : Nat) x4 x5, i + m = ν → x4 = iZ ((P ^ i : Nat) : Int) → x5 = iZ i → wp E (d + 8) 247 65 [(0, .ref 265), (1, .int (iZ ν)), (2, .int (iZ ρ)), (3, .int (iZ k)), (4, .int x4), (5, .int x5)] [] (mm I J A) Q := by
        intro m
        induction m with
        | zero =>
          intro i x4 x5 hi e4 e5
          have : i = ν := by omega
          subst this
          subst e4; subst e5
          refine wf (hs := [65, 102]) 40 65 (by decide) (wt (by ((try simp (disch := omega) only [z_i8, z_i16, z_of, z_ofN, z_lofN, z_0, z_1, z_m1, z_l0, z_l1, iZ_add, iZ_sub, iZ_mul, iZ_neg, lZ_add, lZ_sub, lZ_mul, lZ_neg, z_div, z_ldiv, z_l, z_i, z_lt, z_le, z_eq, z_llt, z_lle, z_leq, z_cgt, z_cge, z_clt, z_cle, z_ceq, z_cl, z_nat, Int.toNat_natCast, mm_I, mm_J, z_cln, z_abs, z_max, z_min, z_lmax, z_lmin, z_sin, Int.cast_ofNat_Int, uI_I, uI_J, uL_I, uL_J, uA_I, uA_J, sI_eq, sI_ne, sL_eq, sL_ne, up_eq, up_ne, uL_eq, uL_ne, z_toInt, Int.reduceToNat]) <;> omega)) (And.intro rfl (ms_lay hz hW hH rfl (fun I1 s1 => ?_))))
          refine wp_keys [0, 1, 2, 3, 4, 5, 6, 7] rfl rfl ?_
          exact m_bestL (x8 := iZ 0) s1 h0 e31 ⟨by omega, hP⟩ ⟨by omega, hν⟩ hρ g3 hG hW hH h8 H
        | succ m ih =>
          intro i x4 x5 hi e4 e5
          subst e4; subst e5
          refine wf (hs := [65, 102]) 40 65 (by decide) (wF (by ((try simp (disch := omega) only [z_i8, z_i16, z_of, z_ofN, z_lofN, z_0, z_1, z_m1, z_l0, z_l1, iZ_add, iZ_sub, iZ_mul, iZ_neg, lZ_add, lZ_sub, lZ_mul, lZ_neg, z_div, z_ldiv, z_l, z_i, z_lt, z_le, z_eq, z_llt, z_lle, z_leq, z_cgt, z_cge, z_clt, z_cle, z_ceq, z_cl, z_nat, Int.toNat_natCast, mm_I, mm_J, z_cln, z_abs, z_max, z_min, z_lmax, z_lmin, z_sin, Int.cast_ofNat_Int, uI_I, uI_J, uL_I, uL_J, uA_I, uA_J, sI_eq, sI_ne, sL_eq, sL_ne, up_eq, up_ne, uL_eq, uL_ne, z_toInt, Int.reduceToNat]) <;> omega)) ?_)
          refine wp_keys [0, 1, 2, 3, 4, 5] rfl rfl ?_
          refine ih (i + 1) _ _ (by omega) ?_ (iZ_add i 1)
          show iZ ((P ^ i : Nat) : Int) * I 265 31 = _
          rw [e31, iZ_mul, Nat.pow_succ, Int.natCast_mul]
      refine wf (hs := [65]) 20 49 (by decide) (wF ?_ ?_)
      · show ¬ I 265 31 = 0
        rw [e31]; exact nz_ne (by omega) (by omega)
      refine wp_keys [0, 1, 2, 3, 4, 5] rfl rfl ?_
      exact L ν 0 _ _ (by omega) rfl rfl
  have T2 : I 266 0 = 1 → 1 ≤ n ∧ n ≤ 4 → wp E (d + 8) 247 19 [(0, .ref 265), (1, .int (iZ n)), (2, .int (iZ r)), (3, .int (iZ k))] [] (mm I J A) Q := fun g0 g1 => by
    refine wf (hs := [49]) 60 19 (by decide) (And.intro rfl (mW (z := r) (lo := 1) (hi := 10) (z_l (by omega) (by omega)) rfl rfl hr (by omega) (by omega) (fun g2 => wF (by decide) ?_) (fun g2 => wt rfl (hno fun q => g2 q.2.2.1))))
    have en : (iZ n - iZ 1).toInt64 = lZ (n - 1) := by simp (disch := omega) only [z_i8, z_i16, z_of, z_ofN, z_lofN, z_0, z_1, z_m1, z_l0, z_l1, iZ_add, iZ_sub, iZ_mul, iZ_neg, lZ_add, lZ_sub, lZ_mul, lZ_neg, z_div, z_ldiv, z_l, z_i, z_lt, z_le, z_eq, z_llt, z_lle, z_leq, z_cgt, z_cge, z_clt, z_cle, z_ceq, z_cl, z_nat, Int.toNat_natCast, mm_I, mm_J, z_cln, z_abs, z_max, z_min, z_lmax, z_lmin, z_sin, Int.cast_ofNat_Int, uI_I, uI_J, uL_I, uL_J, uA_I, uA_J, sI_eq, sI_ne, sL_eq, sL_ne, up_eq, up_ne, uL_eq, uL_ne, z_toInt, Int.reduceToNat]
    exact And.intro rfl (mW (z := k) (lo := -1) (hi := n - 1) (z_l (by omega) (by omega)) (by decide +kernel) en hk (by omega) (by omega) (fun g3 => wF (by decide) (T g0 g1 g2 g3)) (fun g3 => wt rfl (hno fun q => g3 q.2.2.2)))
  refine wc (hs := [19]) 60 (by decide) (And.intro rfl (m_isShip (fun p => wF (by decide) ?_) (fun p => wt rfl (hno fun q => p q.1))))
  exact And.intro rfl (mW (z := n) (lo := 1) (hi := 4) (z_l (by omega) (by omega)) rfl rfl hn (by omega) (by omega) (fun g1 => wF (by decide) (T2 p g1)) (fun g1 => wt rfl (hno fun q => g1 q.2.1)))
end BEST2
