/-! ===== the class: turning and what is asked of it ===== -/
def B4 (β : Nat) : Prop := β = 236 ∨ β = 241 ∨ β = 247 ∨ β = 256
theorem BS_B4 {β b : Nat} (h : BS β b) : B4 β := by
  unfold B4
  unfold BS at h
  omega
section C3
variable {E : Nat × (Nat → Int32)} {d : Nat} {I : Nat → Nat → Int32} {J : Nat → Nat → Int64} {A : Nat → Option Nat} {Q : Option Value → am_M → Prop} {M : am_M} {β b : Nat} {v : am_V} {mw mu mom : Int}
set_option maxHeartbeats 4000000 in
theorem c_turning {z : Int} {x : Int32} (hb : BS β b) (h : RB I J A β b v mw mu mom) (hW : Wf v) (hm : WW mw mu) (ha : -10000000000 ≤ mom ∧ mom ≤ 10000000000) (hz : -60 ≤ z ∧ z ≤ 60) (ex : x = iZ z) (hQ : Q (some (.long (lZ (trnZ v mw mu mom z)))) (mm I J A)) : wpC E (d + 2) 4 [.ref β, .int x] (mm I J A) Q := by
  subst ex
  have tb := trnB hW hm.1 hm.2 ha hz
  have ub := upsB hW hm.1 hm.2 (n := z.natAbs) (by omega)
  have hM : J β 4 = lZ mom := h.2.2.2.2.1
  have sr := sinR (z := 90 - (z.natAbs : Int)) (by omega) (by omega)
  have ef : lZ (mom * sinZ (90 - z.natAbs)) / lZ 1000 = lZ ((mom * sinZ (90 - z.natAbs)).tdiv 1000) := by
    rw [lZ_div ⟨by omega, by omega⟩ ⟨by omega, by omega⟩]
  have q4 := BS_B4 hb
  rcases q4 with rfl | rfl | rfl | rfl
  all_goals (
    refine wc (hs := []) 60 (by decide) ?_
    refine And.intro ?_ (And.intro (by decide) ?_)
    · simp (disch := omega) only [z_i8, z_i16, z_of, z_ofN, z_lofN, z_0, z_1, z_m1, z_l0, z_l1, iZ_add, iZ_sub, iZ_mul, iZ_neg, lZ_add, lZ_sub, lZ_mul, lZ_neg, z_div, z_ldiv, z_l, z_i, z_lt, z_le, z_eq, z_llt, z_lle, z_leq, z_cgt, z_cge, z_clt, z_cle, z_ceq, z_cl, z_nat, Int.toNat_natCast, mm_I, mm_J, z_cln, z_abs, z_max, z_min, z_lmax, z_lmin, z_sin, Int.cast_ofNat_Int]
      exact z_in (by omega) (by omega) (by omega)
    · refine And.intro (fun q => ?_) (fun q => ?_)
      · refine q_l hQ ?_
        simp (disch := omega) only [z_i8, z_i16, z_of, z_ofN, z_lofN, z_0, z_1, z_m1, z_l0, z_l1, iZ_add, iZ_sub, iZ_mul, iZ_neg, lZ_add, lZ_sub, lZ_mul, lZ_neg, z_div, z_ldiv, z_l, z_i, z_lt, z_le, z_eq, z_llt, z_lle, z_leq, z_cgt, z_cge, z_clt, z_cle, z_ceq, z_cl, z_nat, Int.toNat_natCast, mm_I, mm_J, z_cln, z_abs, z_max, z_min, z_lmax, z_lmin, z_sin, Int.cast_ofNat_Int, hM, ef]
        simp (disch := omega) only [z_i8, z_i16, z_of, z_ofN, z_lofN, z_0, z_1, z_m1, z_l0, z_l1, iZ_add, iZ_sub, iZ_mul, iZ_neg, lZ_add, lZ_sub, lZ_mul, lZ_neg, z_div, z_ldiv, z_l, z_i, z_lt, z_le, z_eq, z_llt, z_lle, z_leq, z_cgt, z_cge, z_clt, z_cle, z_ceq, z_cl, z_nat, Int.toNat_natCast, mm_I, mm_J, z_cln, z_abs, z_max, z_min, z_lmax, z_lmin, z_sin, Int.cast_ofNat_Int] at q
        unfold trnZ
        rw [if_pos q]
      · simp (disch := omega) only [z_i8, z_i16, z_of, z_ofN, z_lofN, z_0, z_1, z_m1, z_l0, z_l1, iZ_add, iZ_sub, iZ_mul, iZ_neg, lZ_add, lZ_sub, lZ_mul, lZ_neg, z_div, z_ldiv, z_l, z_i, z_lt, z_le, z_eq, z_llt, z_lle, z_leq, z_cgt, z_cge, z_clt, z_cle, z_ceq, z_cl, z_nat, Int.toNat_natCast, mm_I, mm_J, z_cln, z_abs, z_max, z_min, z_lmax, z_lmin, z_sin, Int.cast_ofNat_Int] at q
        refine And.intro (fun r => ?_) (fun r => ?_)
        · simp (disch := omega) only [z_i8, z_i16, z_of, z_ofN, z_lofN, z_0, z_1, z_m1, z_l0, z_l1, iZ_add, iZ_sub, iZ_mul, iZ_neg, lZ_add, lZ_sub, lZ_mul, lZ_neg, z_div, z_ldiv, z_l, z_i, z_lt, z_le, z_eq, z_llt, z_lle, z_leq, z_cgt, z_cge, z_clt, z_cle, z_ceq, z_cl, z_nat, Int.toNat_natCast, mm_I, mm_J, z_cln, z_abs, z_max, z_min, z_lmax, z_lmin, z_sin, Int.cast_ofNat_Int] at r
          refine And.intro rfl (c_upsetting hb h hW hm (n := z.natAbs) (by omega) ?_ ?_)
          · simp (disch := omega) only [z_i8, z_i16, z_of, z_ofN, z_lofN, z_0, z_1, z_m1, z_l0, z_l1, iZ_add, iZ_sub, iZ_mul, iZ_neg, lZ_add, lZ_sub, lZ_mul, lZ_neg, z_div, z_ldiv, z_l, z_i, z_lt, z_le, z_eq, z_llt, z_lle, z_leq, z_cgt, z_cge, z_clt, z_cle, z_ceq, z_cl, z_nat, Int.toNat_natCast, mm_I, mm_J, z_cln, z_abs, z_max, z_min, z_lmax, z_lmin, z_sin, Int.cast_ofNat_Int]
          · refine q_l hQ ?_
            simp (disch := omega) only [z_i8, z_i16, z_of, z_ofN, z_lofN, z_0, z_1, z_m1, z_l0, z_l1, iZ_add, iZ_sub, iZ_mul, iZ_neg, lZ_add, lZ_sub, lZ_mul, lZ_neg, z_div, z_ldiv, z_l, z_i, z_lt, z_le, z_eq, z_llt, z_lle, z_leq, z_cgt, z_cge, z_clt, z_cle, z_ceq, z_cl, z_nat, Int.toNat_natCast, mm_I, mm_J, z_cln, z_abs, z_max, z_min, z_lmax, z_lmin, z_sin, Int.cast_ofNat_Int, hM, ef]
            unfold trnZ
            rw [if_neg q, if_neg (by omega)]
        · simp (disch := omega) only [z_i8, z_i16, z_of, z_ofN, z_lofN, z_0, z_1, z_m1, z_l0, z_l1, iZ_add, iZ_sub, iZ_mul, iZ_neg, lZ_add, lZ_sub, lZ_mul, lZ_neg, z_div, z_ldiv, z_l, z_i, z_lt, z_le, z_eq, z_llt, z_lle, z_leq, z_cgt, z_cge, z_clt, z_cle, z_ceq, z_cl, z_nat, Int.toNat_natCast, mm_I, mm_J, z_cln, z_abs, z_max, z_min, z_lmax, z_lmin, z_sin, Int.cast_ofNat_Int] at r
          refine And.intro rfl (c_upsetting hb h hW hm (n := z.natAbs) (by omega) ?_ ?_)
          · simp (disch := omega) only [z_i8, z_i16, z_of, z_ofN, z_lofN, z_0, z_1, z_m1, z_l0, z_l1, iZ_add, iZ_sub, iZ_mul, iZ_neg, lZ_add, lZ_sub, lZ_mul, lZ_neg, z_div, z_ldiv, z_l, z_i, z_lt, z_le, z_eq, z_llt, z_lle, z_leq, z_cgt, z_cge, z_clt, z_cle, z_ceq, z_cl, z_nat, Int.toNat_natCast, mm_I, mm_J, z_cln, z_abs, z_max, z_min, z_lmax, z_lmin, z_sin, Int.cast_ofNat_Int]
          · refine q_l hQ ?_
            simp (disch := omega) only [z_i8, z_i16, z_of, z_ofN, z_lofN, z_0, z_1, z_m1, z_l0, z_l1, iZ_add, iZ_sub, iZ_mul, iZ_neg, lZ_add, lZ_sub, lZ_mul, lZ_neg, z_div, z_ldiv, z_l, z_i, z_lt, z_le, z_eq, z_llt, z_lle, z_leq, z_cgt, z_cge, z_clt, z_cle, z_ceq, z_cl, z_nat, Int.toNat_natCast, mm_I, mm_J, z_cln, z_abs, z_max, z_min, z_lmax, z_lmin, z_sin, Int.cast_ofNat_Int, hM, ef]
            unfold trnZ
            rw [if_neg q, if_pos (by omega)])
/-- the walk of so many degrees at most -/
def wkN (t : Int → Int) (n : Nat) (z : Int) : Int := if 0 < t z then wlkZ t 1 n z else wlkZ t (-1) n z
set_option maxHeartbeats 4000000 in
theorem c_restL {way : Int} {N : Nat} {x1 : Int32} (hb : BS β b) (h : RB I J A β b v mw mu mom) (hW : Wf v) (hm : WW mw mu) (ha : -10000000000 ≤ mom ∧ mom ≤ 10000000000) (hw : way = 1 ∨ way = -1) (hN : N ≤ 200) : ∀ (n i : Nat) (z : Int) (x3 : Int64) (x6 x7 : Int32), i + n = N → -60 ≤ z ∧ z ≤ 60 → x3 = lZ (trnZ v mw mu mom z) → x6 = iZ z → x7 = iZ i → Q (some (.int (iZ (wlkZ (trnZ v mw mu mom) way n z)))) (mm I J A) → wp E (d + 3) 5 25 [(0, .ref β), (1, .int x1), (2, .int (iZ N)), (3, .long x3), (5, .int (iZ way)), (6, .int x6), (7, .int x7)] [] (mm I J A) Q := by
  have tb : ∀ z : Int, -60 ≤ z ∧ z ≤ 60 → _ := fun z hz => (trnB hW hm.1 hm.2 ha hz).2
  have hw2 : -1 ≤ way ∧ way ≤ 1 := by omega
  have tw : ∀ z : Int, -60 ≤ z ∧ z ≤ 60 → -30000000000000 ≤ trnZ v mw mu mom z * way ∧ trnZ v mw mu mom z * way ≤ 30000000000000 := fun z hz => by
    have := tb z hz
    rcases hw with rfl | rfl <;> omega
  rcases BS_B4 hb with rfl | rfl | rfl | rfl
  all_goals (
    intro n
    induction n with
    | zero =>
      intro i z x3 x6 x7 hi hz e3 e6 e7 hQ
      subst e3; subst e6; subst e7
      refine wf (hs := [25]) 40 25 (by decide) ?_
      refine wt (by show iZ (N : Int) ≤ iZ (i : Int); simp (disch := omega) only [z_i8, z_i16, z_of, z_ofN, z_lofN, z_0, z_1, z_m1, z_l0, z_l1, iZ_add, iZ_sub, iZ_mul, iZ_neg, lZ_add, lZ_sub, lZ_mul, lZ_neg, z_div, z_ldiv, z_l, z_i, z_lt, z_le, z_eq, z_llt, z_lle, z_leq, z_cgt, z_cge, z_clt, z_cle, z_ceq, z_cl, z_nat, Int.toNat_natCast, mm_I, mm_J, z_cln, z_abs, z_max, z_min, z_lmax, z_lmin, z_sin, Int.cast_ofNat_Int]; omega) ?_
      exact hQ
    | succ n ih =>
      intro i z x3 x6 x7 hi hz e3 e6 e7 hQ
      subst e3; subst e6; subst e7
      have t1 := tb z hz
      have t2 := tw z hz
      refine wf (hs := [25]) 40 25 (by decide) ?_
      refine wF (by show ¬ iZ (N : Int) ≤ iZ (i : Int); simp (disch := omega) only [z_i8, z_i16, z_of, z_ofN, z_lofN, z_0, z_1, z_m1, z_l0, z_l1, iZ_add, iZ_sub, iZ_mul, iZ_neg, lZ_add, lZ_sub, lZ_mul, lZ_neg, z_div, z_ldiv, z_l, z_i, z_lt, z_le, z_eq, z_llt, z_lle, z_leq, z_cgt, z_cge, z_clt, z_cle, z_ceq, z_cl, z_nat, Int.toNat_natCast, mm_I, mm_J, z_cln, z_abs, z_max, z_min, z_lmax, z_lmin, z_sin, Int.cast_ofNat_Int]; omega) ?_
      unfold wlkZ at hQ
      refine And.intro (fun q => ?_) (fun q => ?_)
      · simp (disch := omega) only [z_i8, z_i16, z_of, z_ofN, z_lofN, z_0, z_1, z_m1, z_l0, z_l1, iZ_add, iZ_sub, iZ_mul, iZ_neg, lZ_add, lZ_sub, lZ_mul, lZ_neg, z_div, z_ldiv, z_l, z_i, z_lt, z_le, z_eq, z_llt, z_lle, z_leq, z_cgt, z_cge, z_clt, z_cle, z_ceq, z_cl, z_nat, Int.toNat_natCast, mm_I, mm_J, z_cln, z_abs, z_max, z_min, z_lmax, z_lmin, z_sin, Int.cast_ofNat_Int] at q
        rw [if_neg (by omega)] at hQ
        exact hQ
      · simp (disch := omega) only [z_i8, z_i16, z_of, z_ofN, z_lofN, z_0, z_1, z_m1, z_l0, z_l1, iZ_add, iZ_sub, iZ_mul, iZ_neg, lZ_add, lZ_sub, lZ_mul, lZ_neg, z_div, z_ldiv, z_l, z_i, z_lt, z_le, z_eq, z_llt, z_lle, z_leq, z_cgt, z_cge, z_clt, z_cle, z_ceq, z_cl, z_nat, Int.toNat_natCast, mm_I, mm_J, z_cln, z_abs, z_max, z_min, z_lmax, z_lmin, z_sin, Int.cast_ofNat_Int] at q
        refine And.intro (fun r => ?_) (fun r => ?_)
        · simp (disch := omega) only [z_i8, z_i16, z_of, z_ofN, z_lofN, z_0, z_1, z_m1, z_l0, z_l1, iZ_add, iZ_sub, iZ_mul, iZ_neg, lZ_add, lZ_sub, lZ_mul, lZ_neg, z_div, z_ldiv, z_l, z_i, z_lt, z_le, z_eq, z_llt, z_lle, z_leq, z_cgt, z_cge, z_clt, z_cle, z_ceq, z_cl, z_nat, Int.toNat_natCast, mm_I, mm_J, z_cln, z_abs, z_max, z_min, z_lmax, z_lmin, z_sin, Int.cast_ofNat_Int] at r
          rw [if_neg (fun y => y.2 r)] at hQ
          exact hQ
        · simp (disch := omega) only [z_i8, z_i16, z_of, z_ofN, z_lofN, z_0, z_1, z_m1, z_l0, z_l1, iZ_add, iZ_sub, iZ_mul, iZ_neg, lZ_add, lZ_sub, lZ_mul, lZ_neg, z_div, z_ldiv, z_l, z_i, z_lt, z_le, z_eq, z_llt, z_lle, z_leq, z_cgt, z_cge, z_clt, z_cle, z_ceq, z_cl, z_nat, Int.toNat_natCast, mm_I, mm_J, z_cln, z_abs, z_max, z_min, z_lmax, z_lmin, z_sin, Int.cast_ofNat_Int] at r
          rw [if_pos ⟨by omega, r⟩] at hQ
          have hz2 : -60 ≤ z + way ∧ z + way ≤ 60 := by rcases hw with rfl | rfl <;> omega
          refine And.intro rfl (c_turning hb h hW hm ha hz2 (iZ_add z way) ?_)
          refine wp_keys [0, 1, 2, 3, 5, 6, 7] rfl rfl ?_
          refine ih (i + 1) (z + way) _ _ _ (by omega) hz2 rfl (iZ_add z way) (iZ_add i 1) hQ)
set_option maxHeartbeats 4000000 in
theorem c_restFrom {z : Int} {N : Nat} {x y : Int32} (hb : BS β b) (h : RB I J A β b v mw mu mom) (hW : Wf v) (hm : WW mw mu) (ha : -10000000000 ≤ mom ∧ mom ≤ 10000000000) (hN : N ≤ 200) (hz : -60 ≤ z ∧ z ≤ 60) (ex : x = iZ z) (ey : y = iZ N) (hQ : Q (some (.int (iZ (wkN (trnZ v mw mu mom) N z)))) (mm I J A)) : wpC E (d + 3) 5 [.ref β, .int x, .int y] (mm I J A) Q := by
  subst ex; subst ey
  have tb := (trnB hW hm.1 hm.2 ha hz).2
  refine wc (hs := [25]) 40 (by decide) ?_
  have hr : am_c (.invokevirtual 56) 4 2 [.int (iZ z), .ref β] (mm I J A) = some (4, [.ref β, .int (iZ z)], []) := by
    rcases BS_B4 hb with rfl | rfl | rfl | rfl <;> rfl
  refine And.intro hr (c_turning hb h hW hm ha hz rfl ?_)
  unfold wkN at hQ
  refine And.intro (fun q => ?_) (fun q => ?_)
  · simp (disch := omega) only [z_i8, z_i16, z_of, z_ofN, z_lofN, z_0, z_1, z_m1, z_l0, z_l1, iZ_add, iZ_sub, iZ_mul, iZ_neg, lZ_add, lZ_sub, lZ_mul, lZ_neg, z_div, z_ldiv, z_l, z_i, z_lt, z_le, z_eq, z_llt, z_lle, z_leq, z_cgt, z_cge, z_clt, z_cle, z_ceq, z_cl, z_nat, Int.toNat_natCast, mm_I, mm_J, z_cln, z_abs, z_max, z_min, z_lmax, z_lmin, z_sin, Int.cast_ofNat_Int] at q
    rw [if_neg (by omega)] at hQ
    refine wp_keys [0, 1, 2, 3, 5, 6, 7] rfl rfl ?_
    exact c_restL hb h hW hm ha (Or.inr rfl) hN N 0 z _ _ _ (by omega) hz rfl rfl rfl hQ
  · simp (disch := omega) only [z_i8, z_i16, z_of, z_ofN, z_lofN, z_0, z_1, z_m1, z_l0, z_l1, iZ_add, iZ_sub, iZ_mul, iZ_neg, lZ_add, lZ_sub, lZ_mul, lZ_neg, z_div, z_ldiv, z_l, z_i, z_lt, z_le, z_eq, z_llt, z_lle, z_leq, z_cgt, z_cge, z_clt, z_cle, z_ceq, z_cl, z_nat, Int.toNat_natCast, mm_I, mm_J, z_cln, z_abs, z_max, z_min, z_lmax, z_lmin, z_sin, Int.cast_ofNat_Int] at q
    rw [if_pos (by omega)] at hQ
    refine wp_keys [0, 1, 2, 3, 5, 6, 7] rfl rfl ?_
    exact c_restL hb h hW hm ha (Or.inl rfl) hN N 0 z _ _ _ (by omega) hz rfl rfl rfl hQ
theorem arm5 (v : am_V) : armZ v 5 = v 267 1 := by
  unfold armZ
  rw [if_neg (by decide)]
  show (v 267 1 * (5 - ((0 : Nat) : Int)) + v 267 2 * ((0 : Nat) : Int)) / 5 = _
  omega
set_option maxHeartbeats 4000000 in
theorem c_stiffness (hb : BS β b) (h : RB I J A β b v mw mu mom) (hW : Wf v) (hm : WW mw mu) (hQ : Q (some (.long (lZ (stfZ v mw mu)))) (mm I J A)) : wpC E (d + 2) 6 [.ref β] (mm I J A) Q := by
  have s1 := stfB hW hm.1 hm.2
  have t1 := totB hW hm.1
  have hT : J β 2 = lZ (totZ v mw) := h.2.2.1
  have e : -upsZ v mw mu 5 * 1000 = (totZ v mw * v 267 1 - upZ v mu * sinZ 5 / 1000 - rnsZ v 5) * 1000 := by
    unfold upsZ
    rw [arm5]
    have : ((5 : Nat) : Int) = 5 := rfl
    rw [this]
    omega
  rw [sin5] at s1 e
  rcases BS_B4 hb with rfl | rfl | rfl | rfl
  all_goals (
    refine wc (hs := []) 40 (by decide) ?_
    refine And.intro rfl (c_upsetting (n := 5) hb h hW hm (by omega) rfl ?_)
    refine And.intro (inL (by decide)) ?_
    refine And.intro rfl (c_downE (a := (totZ v mw * v 267 1 - upZ v mu * 88 / 1000 - rnsZ v 5) * 1000) (b := totZ v mw * 88) ?_ ?_ ⟨by omega, by omega⟩ ⟨by omega, by omega⟩ ?_)
    · simp (disch := omega) only [z_i8, z_i16, z_of, z_ofN, z_lofN, z_0, z_1, z_m1, z_l0, z_l1, iZ_add, iZ_sub, iZ_mul, iZ_neg, lZ_add, lZ_sub, lZ_mul, lZ_neg, z_div, z_ldiv, z_l, z_i, z_lt, z_le, z_eq, z_llt, z_lle, z_leq, z_cgt, z_cge, z_clt, z_cle, z_ceq, z_cl, z_nat, Int.toNat_natCast, mm_I, mm_J, z_cln, z_abs, z_max, z_min, z_lmax, z_lmin, z_sin, Int.cast_ofNat_Int]
      rw [e]
    · show J _ 2 * (am_sin 5).toInt64 = _
      rw [z_sinN (by omega), hT]
      show lZ _ * (iZ (sinZ 5)).toInt64 = _
      rw [sin5]
      simp (disch := omega) only [z_i8, z_i16, z_of, z_ofN, z_lofN, z_0, z_1, z_m1, z_l0, z_l1, iZ_add, iZ_sub, iZ_mul, iZ_neg, lZ_add, lZ_sub, lZ_mul, lZ_neg, z_div, z_ldiv, z_l, z_i, z_lt, z_le, z_eq, z_llt, z_lle, z_leq, z_cgt, z_cge, z_clt, z_cle, z_ceq, z_cl, z_nat, Int.toNat_natCast, mm_I, mm_J, z_cln, z_abs, z_max, z_min, z_lmax, z_lmin, z_sin, Int.cast_ofNat_Int]
    · unfold stfZ at hQ
      rw [sin5] at hQ
      exact hQ)
set_option maxHeartbeats 4000000 in
theorem c_beat (hb : BS β b) (h : RB I J A β b v mw mu mom) (hW : Wf v) (hm : WW mw mu) (hQ : Q (some (.int (iZ (btZ v (stfZ v mw mu))))) (mm I J A)) : wpC E (d + 3) 7 [.ref β] (mm I J A) Q := by
  have s1 := (stfB hW hm.1 hm.2).2
  have hB : I β 1 = iZ (v 266 1) := h.2.1
  have b1 := hW.1.1
  have m := mulb (a := 64 * v 266 1) (b := v 266 1) (A := 25600) (B := 400) (by omega) (by omega) (by omega) (by omega)
  generalize hs : stfZ v mw mu = s at *
  rcases BS_B4 hb with rfl | rfl | rfl | rfl
  all_goals (
    refine wc (hs := []) 40 (by decide) ?_
    refine And.intro rfl (c_stiffness hb h hW hm ?_)
    rw [hs]
    refine And.intro (fun q => ?_) (fun q => ?_)
    · simp (disch := omega) only [z_i8, z_i16, z_of, z_ofN, z_lofN, z_0, z_1, z_m1, z_l0, z_l1, iZ_add, iZ_sub, iZ_mul, iZ_neg, lZ_add, lZ_sub, lZ_mul, lZ_neg, z_div, z_ldiv, z_l, z_i, z_lt, z_le, z_eq, z_llt, z_lle, z_leq, z_cgt, z_cge, z_clt, z_cle, z_ceq, z_cl, z_nat, Int.toNat_natCast, mm_I, mm_J, z_cln, z_abs, z_max, z_min, z_lmax, z_lmin, z_sin, Int.cast_ofNat_Int] at q
      refine And.intro rfl (c_downE (a := 64 * v 266 1 * v 266 1) (b := s) ?_ rfl ⟨by omega, by omega⟩ ⟨by omega, by omega⟩ ?_)
      · simp (disch := omega) only [z_i8, z_i16, z_of, z_ofN, z_lofN, z_0, z_1, z_m1, z_l0, z_l1, iZ_add, iZ_sub, iZ_mul, iZ_neg, lZ_add, lZ_sub, lZ_mul, lZ_neg, z_div, z_ldiv, z_l, z_i, z_lt, z_le, z_eq, z_llt, z_lle, z_leq, z_cgt, z_cge, z_clt, z_cle, z_ceq, z_cl, z_nat, Int.toNat_natCast, mm_I, mm_J, z_cln, z_abs, z_max, z_min, z_lmax, z_lmin, z_sin, Int.cast_ofNat_Int, hB]
      have k1 := Int.ediv_nonneg (a := 64 * v 266 1 * v 266 1) (b := s) m.1 (by omega)
      have k2 := Int.ediv_le_self (a := 64 * v 266 1 * v 266 1) s m.1
      refine And.intro rfl (c_root ⟨k1, by omega⟩ ?_)
      unfold btZ at hQ
      rw [if_neg (by omega)] at hQ
      exact hQ
    · simp (disch := omega) only [z_i8, z_i16, z_of, z_ofN, z_lofN, z_0, z_1, z_m1, z_l0, z_l1, iZ_add, iZ_sub, iZ_mul, iZ_neg, lZ_add, lZ_sub, lZ_mul, lZ_neg, z_div, z_ldiv, z_l, z_i, z_lt, z_le, z_eq, z_llt, z_lle, z_leq, z_cgt, z_cge, z_clt, z_cle, z_ceq, z_cl, z_nat, Int.toNat_natCast, mm_I, mm_J, z_cln, z_abs, z_max, z_min, z_lmax, z_lmin, z_sin, Int.cast_ofNat_Int] at q
      unfold btZ at hQ
      rw [if_pos (by omega)] at hQ
      exact hQ)
set_option maxHeartbeats 4000000 in
theorem c_lolls (hb : BS β b) (h : RB I J A β b v mw mu mom) (hW : Wf v) (hm : WW mw mu) (h1 : 0 ≤ upsZ v mw mu 1 → Q (some (.int 1)) (mm I J A)) (h0 : upsZ v mw mu 1 < 0 → Q (some (.int 0)) (mm I J A)) : wpC E (d + 2) 8 [.ref β] (mm I J A) Q := by
  have ub := upsB hW hm.1 hm.2 (n := 1) (by omega)
  rcases BS_B4 hb with rfl | rfl | rfl | rfl
  all_goals (
    refine wc (hs := []) 40 (by decide) ?_
    refine And.intro rfl (c_upsetting (n := 1) hb h hW hm (by omega) rfl ?_)
    refine And.intro (fun q => ?_) (fun q => ?_)
    · simp (disch := omega) only [z_i8, z_i16, z_of, z_ofN, z_lofN, z_0, z_1, z_m1, z_l0, z_l1, iZ_add, iZ_sub, iZ_mul, iZ_neg, lZ_add, lZ_sub, lZ_mul, lZ_neg, z_div, z_ldiv, z_l, z_i, z_lt, z_le, z_eq, z_llt, z_lle, z_leq, z_cgt, z_cge, z_clt, z_cle, z_ceq, z_cl, z_nat, Int.toNat_natCast, mm_I, mm_J, z_cln, z_abs, z_max, z_min, z_lmax, z_lmin, z_sin, Int.cast_ofNat_Int] at q
      exact And.intro rfl (h0 (by omega))
    · simp (disch := omega) only [z_i8, z_i16, z_of, z_ofN, z_lofN, z_0, z_1, z_m1, z_l0, z_l1, iZ_add, iZ_sub, iZ_mul, iZ_neg, lZ_add, lZ_sub, lZ_mul, lZ_neg, z_div, z_ldiv, z_l, z_i, z_lt, z_le, z_eq, z_llt, z_lle, z_leq, z_cgt, z_cge, z_clt, z_cle, z_ceq, z_cl, z_nat, Int.toNat_natCast, mm_I, mm_J, z_cln, z_abs, z_max, z_min, z_lmax, z_lmin, z_sin, Int.cast_ofNat_Int] at q
      exact And.intro rfl (h1 (by omega)))
end C3
