/-! ===== the class reads signs ===== -/
def posN (T : Nat → Int) (t : Nat) : Nat → Nat
  | 0 => skp T t 0
  | i + 1 => nxZ T t (posN T t i)
def nuK (T : Nat → Int) (t p : Nat) : Int := if tkZ T t p = 39 then nuZ T t p else 0
section SCAN
variable {E : Nat × (Nat → Int32)} {d : Nat} {I I0 I1 : Nat → Nat → Int32} {J : Nat → Nat → Int64} {A : Nat → Option Nat} {Q : Option Value → am_M → Prop} {M : am_M} {T : Nat → Int} {t p : Nat}
def TP (I : Nat → Nat → Int32) (T : Nat → Int) (t : Nat) : Prop := t ≤ 400 ∧ ∀ i : Nat, i < t → (0 ≤ T i ∧ T i ≤ 255) ∧ I 222 i = iZ (T i)
theorem c_rangeEnd {lo hi : Int} {x1 x2 x3 x4 : Int32} (hT : TP I T t) (hp : p ≤ t) (hl : 0 ≤ lo ∧ lo ≤ 200) (hh : 0 ≤ hi ∧ hi ≤ 200) (e1 : x1 = iZ p) (e2 : x2 = iZ t) (e3 : x3 = iZ lo) (e4 : x4 = iZ hi) (hQ : Q (some (.int (iZ (rex T t lo hi p : Nat)))) (mm I J A)) : wpC E (d + 1) 42 [.ref 222, .int x1, .int x2, .int x3, .int x4] (mm I J A) Q := by
  subst e1; subst e2; subst e3; subst e4
  have t4 := hT.1
  have L : ∀ (n q : Nat) (x5 : Int32), q + n = t → rex T t lo hi q = rex T t lo hi p → x5 = iZ q → wp E (d + 1) 42 3 [(0, .ref 222), (1, .int (iZ p)), (2, .int (iZ t)), (3, .int (iZ lo)), (4, .int (iZ hi)), (5, .int x5)] [] (mm I J A) Q := by
    intro n
    induction n with
    | zero =>
      intro q x5 hq he e5
      subst e5
      rw [rex_ge (by omega)] at he
      rw [← he] at hQ
      exact wf (hs := [3]) 20 3 (by decide) (wt (by ((try simp (disch := omega) only [z_i8, z_i16, z_of, z_ofN, z_lofN, z_0, z_1, z_m1, z_l0, z_l1, iZ_add, iZ_sub, iZ_mul, iZ_neg, lZ_add, lZ_sub, lZ_mul, lZ_neg, z_div, z_ldiv, z_l, z_i, z_lt, z_le, z_eq, z_llt, z_lle, z_leq, z_cgt, z_cge, z_clt, z_cle, z_ceq, z_cl, z_nat, Int.toNat_natCast, mm_I, mm_J, z_cln, z_abs, z_max, z_min, z_lmax, z_lmin, z_sin, Int.cast_ofNat_Int, uI_I, uI_J, uL_I, uL_J, uA_I, uA_J, sI_eq, sI_ne, sL_eq, sL_ne, up_eq, up_ne, uL_eq, uL_ne, z_toInt, Int.reduceToNat]) <;> omega)) hQ)
    | succ n ih =>
      intro q x5 hq he e5
      subst e5
      have tq := hT.2 q (by omega)
      have cl : (iZ (q : Int)).toNatClampNeg = q := z_cln (by omega)
      have eq : I 222 (iZ (q : Int)).toNatClampNeg = iZ (T q) := by rw [cl]; exact tq.2
      rw [rex_lt (by omega)] at he
      refine wf (hs := [3]) 30 3 (by decide) (wF (by ((try simp (disch := omega) only [z_i8, z_i16, z_of, z_ofN, z_lofN, z_0, z_1, z_m1, z_l0, z_l1, iZ_add, iZ_sub, iZ_mul, iZ_neg, lZ_add, lZ_sub, lZ_mul, lZ_neg, z_div, z_ldiv, z_l, z_i, z_lt, z_le, z_eq, z_llt, z_lle, z_leq, z_cgt, z_cge, z_clt, z_cle, z_ceq, z_cl, z_nat, Int.toNat_natCast, mm_I, mm_J, z_cln, z_abs, z_max, z_min, z_lmax, z_lmin, z_sin, Int.cast_ofNat_Int, uI_I, uI_J, uL_I, uL_J, uA_I, uA_J, sI_eq, sI_ne, sL_eq, sL_ne, up_eq, up_ne, uL_eq, uL_ne, z_toInt, Int.reduceToNat]) <;> omega)) (And.intro (z_in (by omega) (by omega) (by omega)) (And.intro rfl (cW (z := T q) (lo := lo) (hi := hi) eq rfl rfl (by omega) (by omega) (by omega) (fun g => wF (by decide) ?_) (fun g => wt rfl ?_)))))
      · rw [if_pos g] at he
        refine wp_keys [0, 1, 2, 3, 4, 5] rfl rfl ?_
        exact ih (q + 1) _ (by omega) he (iZ_add q 1)
      · rw [if_neg g] at he
        rw [← he] at hQ
        exact hQ
  refine wc (hs := [3]) 20 (by decide) ?_
  refine wp_keys [0, 1, 2, 3, 4, 5] rfl rfl ?_
  exact L (t - p) p _ (by omega) rfl rfl
theorem c_numeral {e : Nat} {x1 x2 : Int32} (hT : TP I T t) (hp : p ≤ e) (he : e ≤ t) (e1 : x1 = iZ p) (e2 : x2 = iZ e) (hQ : Q (some (.int (iZ (if 5 < e - p then -1 else nuV T (e - p) p 0)))) (mm I J A)) : wpC E d 43 [.ref 222, .int x1, .int x2] (mm I J A) Q := by
  subst e1; subst e2
  have t4 := hT.1
  by_cases q : 5 < e - p
  · rw [if_pos q] at hQ
    exact wc (hs := []) 20 (by decide) (wF (by ((try simp (disch := omega) only [z_i8, z_i16, z_of, z_ofN, z_lofN, z_0, z_1, z_m1, z_l0, z_l1, iZ_add, iZ_sub, iZ_mul, iZ_neg, lZ_add, lZ_sub, lZ_mul, lZ_neg, z_div, z_ldiv, z_l, z_i, z_lt, z_le, z_eq, z_llt, z_lle, z_leq, z_cgt, z_cge, z_clt, z_cle, z_ceq, z_cl, z_nat, Int.toNat_natCast, mm_I, mm_J, z_cln, z_abs, z_max, z_min, z_lmax, z_lmin, z_sin, Int.cast_ofNat_Int, uI_I, uI_J, uL_I, uL_J, uA_I, uA_J, sI_eq, sI_ne, sL_eq, sL_ne, up_eq, up_ne, uL_eq, uL_ne, z_toInt, Int.reduceToNat]) <;> omega)) hQ)
  · rw [if_neg q] at hQ
    have L : ∀ (n q : Nat) (v : Int) (x3 x4 : Int32), q + n = e → nuV T n q v = nuV T (e - p) p 0 → x3 = iZ v → x4 = iZ q → wp E d 43 14 [(0, .ref 222), (1, .int (iZ p)), (2, .int (iZ e)), (3, .int x3), (4, .int x4)] [] (mm I J A) Q := by
      intro n
      induction n with
      | zero =>
        intro q v x3 x4 hq hv e3 e4
        subst e3; subst e4
        have hv : v = nuV T (e - p) p 0 := hv
        rw [← hv] at hQ
        exact wf (hs := [14]) 20 14 (by decide) (wt (by ((try simp (disch := omega) only [z_i8, z_i16, z_of, z_ofN, z_lofN, z_0, z_1, z_m1, z_l0, z_l1, iZ_add, iZ_sub, iZ_mul, iZ_neg, lZ_add, lZ_sub, lZ_mul, lZ_neg, z_div, z_ldiv, z_l, z_i, z_lt, z_le, z_eq, z_llt, z_lle, z_leq, z_cgt, z_cge, z_clt, z_cle, z_ceq, z_cl, z_nat, Int.toNat_natCast, mm_I, mm_J, z_cln, z_abs, z_max, z_min, z_lmax, z_lmin, z_sin, Int.cast_ofNat_Int, uI_I, uI_J, uL_I, uL_J, uA_I, uA_J, sI_eq, sI_ne, sL_eq, sL_ne, up_eq, up_ne, uL_eq, uL_ne, z_toInt, Int.reduceToNat]) <;> omega)) hQ)
      | succ n ih =>
        intro q v x3 x4 hq hv e3 e4
        subst e3; subst e4
        have tq := hT.2 q (by omega)
        have cl : (iZ (q : Int)).toNatClampNeg = q := z_cln (by omega)
        have eq : I 222 (iZ (q : Int)).toNatClampNeg = iZ (T q) := by rw [cl]; exact tq.2
        refine wf (hs := [14]) 30 14 (by decide) (wF (by ((try simp (disch := omega) only [z_i8, z_i16, z_of, z_ofN, z_lofN, z_0, z_1, z_m1, z_l0, z_l1, iZ_add, iZ_sub, iZ_mul, iZ_neg, lZ_add, lZ_sub, lZ_mul, lZ_neg, z_div, z_ldiv, z_l, z_i, z_lt, z_le, z_eq, z_llt, z_lle, z_leq, z_cgt, z_cge, z_clt, z_cle, z_ceq, z_cl, z_nat, Int.toNat_natCast, mm_I, mm_J, z_cln, z_abs, z_max, z_min, z_lmax, z_lmin, z_sin, Int.cast_ofNat_Int, uI_I, uI_J, uL_I, uL_J, uA_I, uA_J, sI_eq, sI_ne, sL_eq, sL_ne, up_eq, up_ne, uL_eq, uL_ne, z_toInt, Int.reduceToNat]) <;> omega)) (And.intro (z_in (by omega) (by omega) (by omega)) ?_))
        refine wp_keys [0, 1, 2, 3, 4] rfl rfl ?_
        refine ih (q + 1) (v * 10 + T q - 48) _ _ (by omega) hv ?_ (iZ_add q 1)
        show iZ v * iZ 10 + I 222 (iZ (q : Int)).toNatClampNeg - iZ 48 = _
        rw [eq, iZ_mul, iZ_add, iZ_sub]
    refine wc (hs := [14]) 20 (by decide) (wt (by ((try simp (disch := omega) only [z_i8, z_i16, z_of, z_ofN, z_lofN, z_0, z_1, z_m1, z_l0, z_l1, iZ_add, iZ_sub, iZ_mul, iZ_neg, lZ_add, lZ_sub, lZ_mul, lZ_neg, z_div, z_ldiv, z_l, z_i, z_lt, z_le, z_eq, z_llt, z_lle, z_leq, z_cgt, z_cge, z_clt, z_cle, z_ceq, z_cl, z_nat, Int.toNat_natCast, mm_I, mm_J, z_cln, z_abs, z_max, z_min, z_lmax, z_lmin, z_sin, Int.cast_ofNat_Int, uI_I, uI_J, uL_I, uL_J, uA_I, uA_J, sI_eq, sI_ne, sL_eq, sL_ne, up_eq, up_ne, uL_eq, uL_ne, z_toInt, Int.reduceToNat]) <;> omega)) ?_)
    refine wp_keys [0, 1, 2, 3, 4] rfl rfl ?_
    exact L (e - p) p 0 _ _ (by omega) rfl rfl rfl
theorem c_matches {e w : Nat} {x1 x2 x3 : Int32} (hT : TP I T t) (hp : p ≤ e) (he : e ≤ t) (hw : 12 ≤ w ∧ w ≤ 26) (e1 : x1 = iZ p) (e2 : x2 = iZ e) (e3 : x3 = iZ ((5 * (w - 12) : Nat) : Int)) (h1 : mtW T p e w = true → Q (some (.int 1)) (mm I J A)) (h0 : mtW T p e w = false → Q (some (.int 0)) (mm I J A)) : wpC E (d + 4) 45 [.ref 222, .int x1, .int x2, .int x3] (mm I J A) Q := by
  subst e1; subst e2; subst e3
  have t4 := hT.1
  by_cases q : e - p ≤ 5
  · have L : ∀ (n i : Nat) (x4 : Int32), i + n = 5 → (∀ j, j < i → (if p + j < e then T (p + j) else 32) = W5 w j) → x4 = iZ i → wp E (d + 4) 45 12 [(0, .ref 222), (1, .int (iZ p)), (2, .int (iZ e)), (3, .int (iZ ((5 * (w - 12) : Nat) : Int))), (4, .int x4)] [] (mm I J A) Q := by
      intro n
      induction n with
      | zero =>
        intro i x4 hi hj e4
        subst e4
        have : i = 5 := by omega
        subst this
        refine wf (hs := [12]) 20 12 (by decide) (wt (by decide) (And.intro rfl (h1 ?_)))
        unfold mtW
        rw [decide_eq_true q, Bool.true_and, List.all_eq_true]
        intro j hm
        exact decide_eq_true (hj j (List.mem_range.mp hm))
      | succ n ih =>
        intro i x4 hi hj e4
        subst e4
        have bd : -2147483648 ≤ (if p + i < e then T (p + i) else 32) ∧ (if p + i < e then T (p + i) else 32) ≤ 2147483647 := by
          split
          · have := (hT.2 (p + i) (by omega)).1; omega
          · omega
        have wb : 0 ≤ W5 w i ∧ W5 w i ≤ 127 := (tx_by (k := 1) (by omega) _).2.2
        have c5 : ∀ x5 : Int32, x5 = iZ (if p + i < e then T (p + i) else 32) → wp E (d + 4) 45 39 [(0, .ref 222), (1, .int (iZ p)), (2, .int (iZ e)), (3, .int (iZ ((5 * (w - 12) : Nat) : Int))), (4, .int (iZ i)), (5, .int x5)] [] (mm I J A) Q := fun x5 e5 => by
          subst e5
          refine wf (hs := [12]) 30 39 (by decide) (And.intro rfl (tx_char (k := 1) (j := 5 * (w - 12) + i) (by omega) (by show _ < 75; omega) (by decide) ((iZ_add _ _).trans (by congr 1)) ?_))
          have ew : txC 1 (5 * (w - 12) + i) = W5 w i := rfl
          rw [ew]
          by_cases c : (if p + i < e then T (p + i) else 32) = W5 w i
          · refine wt (by rw [c]) ?_
            refine wp_keys [0, 1, 2, 3, 4] rfl rfl ?_
            refine ih (i + 1) _ (by omega) (fun j hj2 => ?_) (iZ_add i 1)
            by_cases e : j = i
            · subst e; exact c
            · exact hj j (by omega)
          · refine wF ?_ (And.intro rfl (h0 ?_))
            · generalize (if p + i < e then T (p + i) else 32) = X at bd c
              ((try simp (disch := omega) only [z_i8, z_i16, z_of, z_ofN, z_lofN, z_0, z_1, z_m1, z_l0, z_l1, iZ_add, iZ_sub, iZ_mul, iZ_neg, lZ_add, lZ_sub, lZ_mul, lZ_neg, z_div, z_ldiv, z_l, z_i, z_lt, z_le, z_eq, z_llt, z_lle, z_leq, z_cgt, z_cge, z_clt, z_cle, z_ceq, z_cl, z_nat, Int.toNat_natCast, mm_I, mm_J, z_cln, z_abs, z_max, z_min, z_lmax, z_lmin, z_sin, Int.cast_ofNat_Int, uI_I, uI_J, uL_I, uL_J, uA_I, uA_J, sI_eq, sI_ne, sL_eq, sL_ne, up_eq, up_ne, uL_eq, uL_ne, z_toInt, Int.reduceToNat]) <;> omega)
            · unfold mtW
              rw [decide_eq_true q, Bool.true_and]
              apply Bool.eq_false_iff.mpr
              intro ha
              exact c (of_decide_eq_true (List.all_eq_true.mp ha i (List.mem_range.mpr (by omega))))
        have ea : iZ (p : Int) + iZ (i : Int) = iZ ((p + i : Nat) : Int) := (iZ_add _ _).trans (by congr 1)
        by_cases c : p + i < e
        · have n1 : ¬ iZ (e : Int) ≤ iZ (p : Int) + iZ (i : Int) := by rw [ea]; ((try simp (disch := omega) only [z_i8, z_i16, z_of, z_ofN, z_lofN, z_0, z_1, z_m1, z_l0, z_l1, iZ_add, iZ_sub, iZ_mul, iZ_neg, lZ_add, lZ_sub, lZ_mul, lZ_neg, z_div, z_ldiv, z_l, z_i, z_lt, z_le, z_eq, z_llt, z_lle, z_leq, z_cgt, z_cge, z_clt, z_cle, z_ceq, z_cl, z_nat, Int.toNat_natCast, mm_I, mm_J, z_cln, z_abs, z_max, z_min, z_lmax, z_lmin, z_sin, Int.cast_ofNat_Int, uI_I, uI_J, uL_I, uL_J, uA_I, uA_J, sI_eq, sI_ne, sL_eq, sL_ne, up_eq, up_ne, uL_eq, uL_ne, z_toInt, Int.reduceToNat]) <;> omega)
          have cl : (iZ (p : Int) + iZ (i : Int)).toNatClampNeg = p + i := by rw [ea]; exact z_cln (by omega)
          have hin : vp_in (iZ (p : Int) + iZ (i : Int)) 400 := by rw [ea]; exact z_in (by omega) (by omega) (by omega)
          refine wf (hs := [12, 39]) 30 12 (by decide) (wF (by ((try simp (disch := omega) only [z_i8, z_i16, z_of, z_ofN, z_lofN, z_0, z_1, z_m1, z_l0, z_l1, iZ_add, iZ_sub, iZ_mul, iZ_neg, lZ_add, lZ_sub, lZ_mul, lZ_neg, z_div, z_ldiv, z_l, z_i, z_lt, z_le, z_eq, z_llt, z_lle, z_leq, z_cgt, z_cge, z_clt, z_cle, z_ceq, z_cl, z_nat, Int.toNat_natCast, mm_I, mm_J, z_cln, z_abs, z_max, z_min, z_lmax, z_lmin, z_sin, Int.cast_ofNat_Int, uI_I, uI_J, uL_I, uL_J, uA_I, uA_J, sI_eq, sI_ne, sL_eq, sL_ne, up_eq, up_ne, uL_eq, uL_ne, z_toInt, Int.reduceToNat]) <;> omega)) (wF n1 (And.intro hin ?_)))
          refine wp_keys [0, 1, 2, 3, 4, 5] rfl rfl ?_
          refine c5 _ ?_
          rw [if_pos c]
          show I 222 (iZ (p : Int) + iZ (i : Int)).toNatClampNeg = _
          rw [cl]; exact (hT.2 (p + i) (by omega)).2
        · have n1 : iZ (e : Int) ≤ iZ (p : Int) + iZ (i : Int) := by rw [ea]; ((try simp (disch := omega) only [z_i8, z_i16, z_of, z_ofN, z_lofN, z_0, z_1, z_m1, z_l0, z_l1, iZ_add, iZ_sub, iZ_mul, iZ_neg, lZ_add, lZ_sub, lZ_mul, lZ_neg, z_div, z_ldiv, z_l, z_i, z_lt, z_le, z_eq, z_llt, z_lle, z_leq, z_cgt, z_cge, z_clt, z_cle, z_ceq, z_cl, z_nat, Int.toNat_natCast, mm_I, mm_J, z_cln, z_abs, z_max, z_min, z_lmax, z_lmin, z_sin, Int.cast_ofNat_Int, uI_I, uI_J, uL_I, uL_J, uA_I, uA_J, sI_eq, sI_ne, sL_eq, sL_ne, up_eq, up_ne, uL_eq, uL_ne, z_toInt, Int.reduceToNat]) <;> omega)
          refine wf (hs := [12, 39]) 30 12 (by decide) (wF (by ((try simp (disch := omega) only [z_i8, z_i16, z_of, z_ofN, z_lofN, z_0, z_1, z_m1, z_l0, z_l1, iZ_add, iZ_sub, iZ_mul, iZ_neg, lZ_add, lZ_sub, lZ_mul, lZ_neg, z_div, z_ldiv, z_l, z_i, z_lt, z_le, z_eq, z_llt, z_lle, z_leq, z_cgt, z_cge, z_clt, z_cle, z_ceq, z_cl, z_nat, Int.toNat_natCast, mm_I, mm_J, z_cln, z_abs, z_max, z_min, z_lmax, z_lmin, z_sin, Int.cast_ofNat_Int, uI_I, uI_J, uL_I, uL_J, uA_I, uA_J, sI_eq, sI_ne, sL_eq, sL_ne, up_eq, up_ne, uL_eq, uL_ne, z_toInt, Int.reduceToNat]) <;> omega)) (wt n1 ?_))
          refine wp_keys [0, 1, 2, 3, 4, 5] rfl rfl ?_
          refine c5 _ ?_
          rw [if_neg c]; rfl
    refine wc (hs := [12]) 20 (by decide) (wt (by ((try simp (disch := omega) only [z_i8, z_i16, z_of, z_ofN, z_lofN, z_0, z_1, z_m1, z_l0, z_l1, iZ_add, iZ_sub, iZ_mul, iZ_neg, lZ_add, lZ_sub, lZ_mul, lZ_neg, z_div, z_ldiv, z_l, z_i, z_lt, z_le, z_eq, z_llt, z_lle, z_leq, z_cgt, z_cge, z_clt, z_cle, z_ceq, z_cl, z_nat, Int.toNat_natCast, mm_I, mm_J, z_cln, z_abs, z_max, z_min, z_lmax, z_lmin, z_sin, Int.cast_ofNat_Int, uI_I, uI_J, uL_I, uL_J, uA_I, uA_J, sI_eq, sI_ne, sL_eq, sL_ne, up_eq, up_ne, uL_eq, uL_ne, z_toInt, Int.reduceToNat]) <;> omega)) ?_)
    refine wp_keys [0, 1, 2, 3, 4] rfl rfl ?_
    exact L 5 0 _ (by omega) (fun j hj => by omega) rfl
  · refine wc (hs := []) 20 (by decide) (wF (by ((try simp (disch := omega) only [z_i8, z_i16, z_of, z_ofN, z_lofN, z_0, z_1, z_m1, z_l0, z_l1, iZ_add, iZ_sub, iZ_mul, iZ_neg, lZ_add, lZ_sub, lZ_mul, lZ_neg, z_div, z_ldiv, z_l, z_i, z_lt, z_le, z_eq, z_llt, z_lle, z_leq, z_cgt, z_cge, z_clt, z_cle, z_ceq, z_cl, z_nat, Int.toNat_natCast, mm_I, mm_J, z_cln, z_abs, z_max, z_min, z_lmax, z_lmin, z_sin, Int.cast_ofNat_Int, uI_I, uI_J, uL_I, uL_J, uA_I, uA_J, sI_eq, sI_ne, sL_eq, sL_ne, up_eq, up_ne, uL_eq, uL_ne, z_toInt, Int.reduceToNat]) <;> omega)) (And.intro rfl (h0 ?_)))
    unfold mtW
    rw [decide_eq_false q]; rfl
theorem c_wordAt {e : Nat} {x1 x2 : Int32} (hT : TP I T t) (hp : p < e) (he : e ≤ t) (e1 : x1 = iZ p) (e2 : x2 = iZ e) (hQ : Q (some (.int (iZ (wdZ T p e)))) (mm I J A)) : wpC E (d + 5) 44 [.ref 222, .int x1, .int x2] (mm I J A) Q := by
  subst e1; subst e2
  have t4 := hT.1
  have tp := hT.2 p (by omega)
  have cl : (iZ (p : Int)).toNatClampNeg = p := z_cln (by omega)
  have hin : vp_in (iZ (p : Int)) 400 := z_in (by omega) (by omega) (by omega)
  have eq : I 222 (iZ (p : Int)).toNatClampNeg = iZ (T p) := by rw [cl]; exact tp.2
  have L : ∀ (n w : Nat) (x3 : Int32), w + n = 27 → 12 ≤ w → Q (some (.int (iZ (wdL T p e n w)))) (mm I J A) → x3 = iZ w → wp E (d + 5) 44 25 [(0, .ref 222), (1, .int (iZ p)), (2, .int (iZ e)), (3, .int x3)] [] (mm I J A) Q := by
    intro n
    induction n with
    | zero =>
      intro w x3 hw h12 hQ e3
      subst e3
      exact wf (hs := [25]) 20 25 (by decide) (wt (by ((try simp (disch := omega) only [z_i8, z_i16, z_of, z_ofN, z_lofN, z_0, z_1, z_m1, z_l0, z_l1, iZ_add, iZ_sub, iZ_mul, iZ_neg, lZ_add, lZ_sub, lZ_mul, lZ_neg, z_div, z_ldiv, z_l, z_i, z_lt, z_le, z_eq, z_llt, z_lle, z_leq, z_cgt, z_cge, z_clt, z_cle, z_ceq, z_cl, z_nat, Int.toNat_natCast, mm_I, mm_J, z_cln, z_abs, z_max, z_min, z_lmax, z_lmin, z_sin, Int.cast_ofNat_Int, uI_I, uI_J, uL_I, uL_J, uA_I, uA_J, sI_eq, sI_ne, sL_eq, sL_ne, up_eq, up_ne, uL_eq, uL_ne, z_toInt, Int.reduceToNat]) <;> omega)) hQ)
    | succ n ih =>
      intro w x3 hw h12 hQ e3
      subst e3
      unfold wdL at hQ
      refine wf (hs := [25]) 30 25 (by decide) (wF (by ((try simp (disch := omega) only [z_i8, z_i16, z_of, z_ofN, z_lofN, z_0, z_1, z_m1, z_l0, z_l1, iZ_add, iZ_sub, iZ_mul, iZ_neg, lZ_add, lZ_sub, lZ_mul, lZ_neg, z_div, z_ldiv, z_l, z_i, z_lt, z_le, z_eq, z_llt, z_lle, z_leq, z_cgt, z_cge, z_clt, z_cle, z_ceq, z_cl, z_nat, Int.toNat_natCast, mm_I, mm_J, z_cln, z_abs, z_max, z_min, z_lmax, z_lmin, z_sin, Int.cast_ofNat_Int, uI_I, uI_J, uL_I, uL_J, uA_I, uA_J, sI_eq, sI_ne, sL_eq, sL_ne, up_eq, up_ne, uL_eq, uL_ne, z_toInt, Int.reduceToNat]) <;> omega)) (And.intro rfl (c_matches (w := w) hT (by omega) he (by omega) rfl rfl ?_ (fun g => wF (by decide) ?_) (fun g => wt rfl ?_))))
      · show (iZ (w : Int) - iZ 12) * iZ 5 = _
        rw [iZ_sub, iZ_mul]
        congr 1; omega
      · rw [g, if_pos rfl] at hQ
        exact hQ
      · rw [g, if_neg (by decide)] at hQ
        refine wp_keys [0, 1, 2, 3] rfl rfl ?_
        exact ih (w + 1) _ (by omega) (by omega) hQ (iZ_add w 1)
  unfold wdZ at hQ
  by_cases c1 : e - p = 1
  · refine wc (hs := [25]) 40 (by decide) (wt (by ((try simp (disch := omega) only [z_i8, z_i16, z_of, z_ofN, z_lofN, z_0, z_1, z_m1, z_l0, z_l1, iZ_add, iZ_sub, iZ_mul, iZ_neg, lZ_add, lZ_sub, lZ_mul, lZ_neg, z_div, z_ldiv, z_l, z_i, z_lt, z_le, z_eq, z_llt, z_lle, z_leq, z_cgt, z_cge, z_clt, z_cle, z_ceq, z_cl, z_nat, Int.toNat_natCast, mm_I, mm_J, z_cln, z_abs, z_max, z_min, z_lmax, z_lmin, z_sin, Int.cast_ofNat_Int, uI_I, uI_J, uL_I, uL_J, uA_I, uA_J, sI_eq, sI_ne, sL_eq, sL_ne, up_eq, up_ne, uL_eq, uL_ne, z_toInt, Int.reduceToNat]) <;> omega)) (And.intro hin ?_))
    by_cases c2 : T p ≤ 108
    · rw [if_pos ⟨c1, c2⟩] at hQ
      have n1 : ¬ iZ 108 < I 222 (iZ (p : Int)).toNatClampNeg := by rw [eq]; ((try simp (disch := omega) only [z_i8, z_i16, z_of, z_ofN, z_lofN, z_0, z_1, z_m1, z_l0, z_l1, iZ_add, iZ_sub, iZ_mul, iZ_neg, lZ_add, lZ_sub, lZ_mul, lZ_neg, z_div, z_ldiv, z_l, z_i, z_lt, z_le, z_eq, z_llt, z_lle, z_leq, z_cgt, z_cge, z_clt, z_cle, z_ceq, z_cl, z_nat, Int.toNat_natCast, mm_I, mm_J, z_cln, z_abs, z_max, z_min, z_lmax, z_lmin, z_sin, Int.cast_ofNat_Int, uI_I, uI_J, uL_I, uL_J, uA_I, uA_J, sI_eq, sI_ne, sL_eq, sL_ne, up_eq, up_ne, uL_eq, uL_ne, z_toInt, Int.reduceToNat]) <;> omega)
      refine wF n1 (And.intro hin (q_i hQ ?_))
      show I 222 (iZ (p : Int)).toNatClampNeg - iZ 97 = _
      rw [eq, iZ_sub]
    · rw [if_neg (fun q => c2 q.2)] at hQ
      have n1 : iZ 108 < I 222 (iZ (p : Int)).toNatClampNeg := by rw [eq]; ((try simp (disch := omega) only [z_i8, z_i16, z_of, z_ofN, z_lofN, z_0, z_1, z_m1, z_l0, z_l1, iZ_add, iZ_sub, iZ_mul, iZ_neg, lZ_add, lZ_sub, lZ_mul, lZ_neg, z_div, z_ldiv, z_l, z_i, z_lt, z_le, z_eq, z_llt, z_lle, z_leq, z_cgt, z_cge, z_clt, z_cle, z_ceq, z_cl, z_nat, Int.toNat_natCast, mm_I, mm_J, z_cln, z_abs, z_max, z_min, z_lmax, z_lmin, z_sin, Int.cast_ofNat_Int, uI_I, uI_J, uL_I, uL_J, uA_I, uA_J, sI_eq, sI_ne, sL_eq, sL_ne, up_eq, up_ne, uL_eq, uL_ne, z_toInt, Int.reduceToNat]) <;> omega)
      refine wt n1 ?_
      refine wp_keys [0, 1, 2, 3] rfl rfl ?_
      exact L 15 12 _ (by omega) (by omega) hQ rfl
  · rw [if_neg (fun q => c1 q.1)] at hQ
    refine wc (hs := [25]) 40 (by decide) (wF (by ((try simp (disch := omega) only [z_i8, z_i16, z_of, z_ofN, z_lofN, z_0, z_1, z_m1, z_l0, z_l1, iZ_add, iZ_sub, iZ_mul, iZ_neg, lZ_add, lZ_sub, lZ_mul, lZ_neg, z_div, z_ldiv, z_l, z_i, z_lt, z_le, z_eq, z_llt, z_lle, z_leq, z_cgt, z_cge, z_clt, z_cle, z_ceq, z_cl, z_nat, Int.toNat_natCast, mm_I, mm_J, z_cln, z_abs, z_max, z_min, z_lmax, z_lmin, z_sin, Int.cast_ofNat_Int, uI_I, uI_J, uL_I, uL_J, uA_I, uA_J, sI_eq, sI_ne, sL_eq, sL_ne, up_eq, up_ne, uL_eq, uL_ne, z_toInt, Int.reduceToNat]) <;> omega)) ?_)
    refine wp_keys [0, 1, 2, 3] rfl rfl ?_
    exact L 15 12 _ (by omega) (by omega) hQ rfl
theorem c_put {m : Nat} {k s n : Int} {x1 x2 x3 : Int32} (hm : I 223 1 = iZ m) (h4 : m ≤ 400) (e1 : x1 = iZ k) (e2 : x2 = iZ s) (e3 : x3 = iZ n) (hQ : ∀ I', I' 223 1 = iZ ((m + 1 : Nat) : Int) → I' 233 m = iZ k → I' 234 m = iZ s → I' 235 m = iZ n → (∀ a, a ≠ 223 → a ≠ 233 → a ≠ 234 → a ≠ 235 → I' a = I a) → (∀ j, j ≠ 1 → I' 223 j = I 223 j) → (∀ j, j ≠ m → I' 233 j = I 233 j ∧ I' 234 j = I 234 j ∧ I' 235 j = I 235 j) → Q none (mm I' J A)) : wpC E d 41 [.ref 223, .int x1, .int x2, .int x3] (mm I J A) Q := by
  subst e1; subst e2; subst e3
  have cl : (I 223 1).toNatClampNeg = m := by rw [hm]; exact z_cln (by omega)
  have hin : vp_in (I 223 1) 401 := by rw [hm]; exact z_in (by omega) (by omega) (by omega)
  have c0 : ¬ iZ 400 < I 223 1 := by rw [hm]; ((try simp (disch := omega) only [z_i8, z_i16, z_of, z_ofN, z_lofN, z_0, z_1, z_m1, z_l0, z_l1, iZ_add, iZ_sub, iZ_mul, iZ_neg, lZ_add, lZ_sub, lZ_mul, lZ_neg, z_div, z_ldiv, z_l, z_i, z_lt, z_le, z_eq, z_llt, z_lle, z_leq, z_cgt, z_cge, z_clt, z_cle, z_ceq, z_cl, z_nat, Int.toNat_natCast, mm_I, mm_J, z_cln, z_abs, z_max, z_min, z_lmax, z_lmin, z_sin, Int.cast_ofNat_Int, uI_I, uI_J, uL_I, uL_J, uA_I, uA_J, sI_eq, sI_ne, sL_eq, sL_ne, up_eq, up_ne, uL_eq, uL_ne, z_toInt, Int.reduceToNat]) <;> omega)
  obtain ⟨I', hI'⟩ : ∃ I', I' = setI (setI (setI (setI I 233 (I 223 1).toNatClampNeg (iZ k)) 234 (I 223 1).toNatClampNeg (iZ s)) 235 (I 223 1).toNatClampNeg (iZ n)) 223 1 (I 223 1 + iZ 1) := ⟨_, rfl⟩
  have at1 : ∀ a j, I' a j = if a = 223 ∧ j = 1 then iZ ((m + 1 : Nat) : Int) else if a = 235 ∧ j = m then iZ n else if a = 234 ∧ j = m then iZ s else if a = 233 ∧ j = m then iZ k else I a j := fun a j => by
    rw [hI', setI_at, setI_at, setI_at, setI_at, cl, hm, iZ_add]
    rfl
  have H := hQ I' (by rw [at1, if_pos ⟨rfl, rfl⟩]) (by rw [at1, if_neg (by omega), if_neg (by omega), if_neg (by omega), if_pos ⟨rfl, rfl⟩]) (by rw [at1, if_neg (by omega), if_neg (by omega), if_pos ⟨rfl, rfl⟩]) (by rw [at1, if_neg (by omega), if_pos ⟨rfl, rfl⟩]) (fun a h1 h2 h3 h4 => by
    funext j
    rw [at1, if_neg (by omega), if_neg (by omega), if_neg (by omega), if_neg (by omega)]) (fun j hj => by rw [at1, if_neg (by omega), if_neg (by omega), if_neg (by omega), if_neg (by omega)]) (fun j hj => ⟨by rw [at1, if_neg (by omega), if_neg (by omega), if_neg (by omega), if_neg (by omega)], by rw [at1, if_neg (by omega), if_neg (by omega), if_neg (by omega), if_neg (by omega)], by rw [at1, if_neg (by omega), if_neg (by omega), if_neg (by omega), if_neg (by omega)]⟩)
  rw [hI'] at H
  exact wc (hs := []) 40 (by decide) (wF c0 (And.intro hin (And.intro hin (And.intro hin H))))
end SCAN
