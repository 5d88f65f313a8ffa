/-! ===== loll, range, slop ===== -/
theorem RB_mom {I : Nat → Nat → Int32} {J : Nat → Nat → Int64} {A : Nat → Option Nat} {β b : Nat} {v : am_V} {mw mu mom m : Int} {y : Int64} (hy : y = lZ m) (h : RB I J A β b v mw mu mom) : RB I (setL J β 4 y) A β b v mw mu m := by
  obtain ⟨hA, h1, h2, h3, h4, ⟨l, hl, h5, h6, h7⟩, h8⟩ := h
  have e2 : setL J β 4 y (β + 2) = J (β + 2) := by funext j; rw [setL_at, if_neg (by omega)]
  have e3 : setL J β 4 y (β + 3) = J (β + 3) := by funext j; rw [setL_at, if_neg (by omega)]
  refine ⟨hA, h1, ?_, ?_, ?_, ⟨l, hl, h5, ?_, ?_⟩, h8⟩
  · rw [setL_at, if_neg (by omega)]; exact h2
  · rw [setL_at, if_neg (by omega)]; exact h3
  · rw [setL_at, if_pos ⟨rfl, rfl⟩]; exact hy
  · unfold vJ at h6 ⊢
    rw [e2, e3]; exact h6
  · unfold vJ at h7 ⊢
    rw [e2, e3]; exact h7
theorem rng_max {t : Int → Int} {r : Int} : ∀ (n : Nat) (b : Int), rngF t (max r 0) n b = rngF t r n b := by
  intro n
  induction n with
  | zero => intro b; rfl
  | succ n ih =>
    intro b
    unfold rngF
    by_cases h : r < (n : Int) + 1
    · rw [if_pos h, if_pos (by omega), ih]
    · rw [if_neg h, if_neg (by omega)]
def slZ (v : am_V) (k : Nat) : Int := if levZ v k = 0 then -2 else sqI (41 * v 272 k * v 272 k / levZ v k)
section RD1
variable {E : Nat × (Nat → Int32)} {d : Nat} {I : Nat → Nat → Int32} {J : Nat → Nat → Int64} {A : Nat → Option Nat} {Q : Option Value → am_M → Prop} {M : am_M} {v : am_V} {mw mu mom : Int}
theorem c_loll (h : RB I J A 236 1 v mw mu mom) (hW : Wf v) (hm : WW mw mu) (hQ : ∀ J', (∀ a, a ≠ 236 → J' a = J a) → Q (some (.int (iZ (rstZ (trnZ v mw mu 0) 1)))) (mm I J' A)) : wpC E (d + 4) 9 [.ref 236] (mm I J A) Q := by
  have hR := RB_mom (m := 0) (y := lZ 0) rfl h
  refine wc (hs := []) 30 (by decide) ?_
  refine And.intro rfl (c_restFrom (z := 1) (N := 120) (Or.inl ⟨rfl, rfl⟩) hR hW hm ⟨by omega, by omega⟩ (by omega) ⟨by omega, by omega⟩ rfl rfl ?_)
  refine hQ (setL (setL J 236 4 (lZ 0)) 236 4 (J 236 4)) (fun a ha => ?_)
  funext j
  rw [setL_at, if_neg (by omega), setL_at, if_neg (by omega)]
theorem c_range {z : Int} {x : Int32} (h : RB I J A 236 1 v mw mu mom) (hW : Wf v) (hm : WW mw mu) (ha : -10000000000 ≤ mom ∧ mom ≤ 10000000000) (hz : -60 ≤ z ∧ z ≤ 60) (ex : x = iZ z) (hQ : Q (some (.int (iZ (rngF (trnZ v mw mu mom) (rstZ (trnZ v mw mu mom) z) 60 61)))) (mm I J A)) : wpC E (d + 4) 10 [.ref 236, .int x] (mm I J A) Q := by
  have rr := rst_rng (t := trnZ v mw mu mom) hz
  generalize hrs : rstZ (trnZ v mw mu mom) z = rs at *
  have L : ∀ (n : Nat) (b : Int) (x3 x4 : Int32), n ≤ 60 → 0 ≤ b ∧ b ≤ 61 → x3 = iZ b → x4 = iZ n → Q (some (.int (iZ (rngF (trnZ v mw mu mom) (max rs 0) n b)))) (mm I J A) → wp E (d + 4) 10 19 [(0, .ref 236), (1, .int x), (2, .int (iZ (max rs 0))), (3, .int x3), (4, .int x4)] [] (mm I J A) Q := by
    intro n
    induction n with
    | zero =>
      intro b x3 x4 hn hb e3 e4 hQ
      subst e3; subst e4
      exact wf (hs := [19]) 20 19 (by decide) (wt (by ((try simp (disch := omega) only [z_i8, z_i16, z_of, z_ofN, z_lofN, z_0, z_1, z_m1, z_l0, z_l1, iZ_add, iZ_sub, iZ_mul, iZ_neg, lZ_add, lZ_sub, lZ_mul, lZ_neg, z_div, z_ldiv, z_l, z_i, z_lt, z_le, z_eq, z_llt, z_lle, z_leq, z_cgt, z_cge, z_clt, z_cle, z_ceq, z_cl, z_nat, Int.toNat_natCast, mm_I, mm_J, z_cln, z_abs, z_max, z_min, z_lmax, z_lmin, z_sin, Int.cast_ofNat_Int, uI_I, uI_J, uL_I, uL_J, uA_I, uA_J, sI_eq, sI_ne, sL_eq, sL_ne, up_eq, up_ne, uL_eq, uL_ne, z_toInt, Int.reduceToNat]) <;> omega)) hQ)
    | succ n ih =>
      intro b x3 x4 hn hb e3 e4 hQ
      subst e3; subst e4
      have tb := (trnB hW hm.1 hm.2 ha (z := ((n : Int) + 1)) ⟨by omega, by omega⟩).2
      unfold rngF at hQ
      by_cases h1 : max rs 0 < (n : Int) + 1
      · rw [if_pos h1] at hQ
        refine wf (hs := [19]) 40 19 (by decide) (wF (by ((try simp (disch := omega) only [z_i8, z_i16, z_of, z_ofN, z_lofN, z_0, z_1, z_m1, z_l0, z_l1, iZ_add, iZ_sub, iZ_mul, iZ_neg, lZ_add, lZ_sub, lZ_mul, lZ_neg, z_div, z_ldiv, z_l, z_i, z_lt, z_le, z_eq, z_llt, z_lle, z_leq, z_cgt, z_cge, z_clt, z_cle, z_ceq, z_cl, z_nat, Int.toNat_natCast, mm_I, mm_J, z_cln, z_abs, z_max, z_min, z_lmax, z_lmin, z_sin, Int.cast_ofNat_Int, uI_I, uI_J, uL_I, uL_J, uA_I, uA_J, sI_eq, sI_ne, sL_eq, sL_ne, up_eq, up_ne, uL_eq, uL_ne, z_toInt, Int.reduceToNat]) <;> omega)) ?_)
        refine And.intro rfl (c_turning (z := (n : Int) + 1) (Or.inl ⟨rfl, rfl⟩) h hW hm ha ⟨by omega, by omega⟩ rfl ?_)
        have e4 : iZ (((n + 1 : Nat) : Int)) + iZ (-1) = iZ (n : Int) := by rw [iZ_add]; congr 1; omega
        refine And.intro (fun q => ?_) (fun q => ?_)
        · simp (disch := omega) only [z_i8, z_i16, z_of, z_ofN, z_lofN, z_0, z_1, z_m1, z_l0, z_l1, iZ_add, iZ_sub, iZ_mul, iZ_neg, lZ_add, lZ_sub, lZ_mul, lZ_neg, z_div, z_ldiv, z_l, z_i, z_lt, z_le, z_eq, z_llt, z_lle, z_leq, z_cgt, z_cge, z_clt, z_cle, z_ceq, z_cl, z_nat, Int.toNat_natCast, mm_I, mm_J, z_cln, z_abs, z_max, z_min, z_lmax, z_lmin, z_sin, Int.cast_ofNat_Int, uI_I, uI_J, uL_I, uL_J, uA_I, uA_J, sI_eq, sI_ne, sL_eq, sL_ne, up_eq, up_ne, uL_eq, uL_ne, z_toInt, Int.reduceToNat] at q
          rw [if_neg (by omega)] at hQ
          refine And.intro (fun q2 => ?_) (fun q2 => ?_)
          · simp (disch := omega) only [z_i8, z_i16, z_of, z_ofN, z_lofN, z_0, z_1, z_m1, z_l0, z_l1, iZ_add, iZ_sub, iZ_mul, iZ_neg, lZ_add, lZ_sub, lZ_mul, lZ_neg, z_div, z_ldiv, z_l, z_i, z_lt, z_le, z_eq, z_llt, z_lle, z_leq, z_cgt, z_cge, z_clt, z_cle, z_ceq, z_cl, z_nat, Int.toNat_natCast, mm_I, mm_J, z_cln, z_abs, z_max, z_min, z_lmax, z_lmin, z_sin, Int.cast_ofNat_Int, uI_I, uI_J, uL_I, uL_J, uA_I, uA_J, sI_eq, sI_ne, sL_eq, sL_ne, up_eq, up_ne, uL_eq, uL_ne, z_toInt, Int.reduceToNat] at q2
            rw [if_neg (by omega)] at hQ
            refine wp_keys [0, 1, 2, 3, 4] rfl rfl ?_
            exact ih b _ _ (by omega) hb rfl e4 hQ
          · simp (disch := omega) only [z_i8, z_i16, z_of, z_ofN, z_lofN, z_0, z_1, z_m1, z_l0, z_l1, iZ_add, iZ_sub, iZ_mul, iZ_neg, lZ_add, lZ_sub, lZ_mul, lZ_neg, z_div, z_ldiv, z_l, z_i, z_lt, z_le, z_eq, z_llt, z_lle, z_leq, z_cgt, z_cge, z_clt, z_cle, z_ceq, z_cl, z_nat, Int.toNat_natCast, mm_I, mm_J, z_cln, z_abs, z_max, z_min, z_lmax, z_lmin, z_sin, Int.cast_ofNat_Int, uI_I, uI_J, uL_I, uL_J, uA_I, uA_J, sI_eq, sI_ne, sL_eq, sL_ne, up_eq, up_ne, uL_eq, uL_ne, z_toInt, Int.reduceToNat] at q2
            rw [if_pos (by omega)] at hQ
            refine wp_keys [0, 1, 2, 3, 4] rfl rfl ?_
            exact ih _ _ _ (by omega) ⟨by omega, by omega⟩ rfl e4 hQ
        · simp (disch := omega) only [z_i8, z_i16, z_of, z_ofN, z_lofN, z_0, z_1, z_m1, z_l0, z_l1, iZ_add, iZ_sub, iZ_mul, iZ_neg, lZ_add, lZ_sub, lZ_mul, lZ_neg, z_div, z_ldiv, z_l, z_i, z_lt, z_le, z_eq, z_llt, z_lle, z_leq, z_cgt, z_cge, z_clt, z_cle, z_ceq, z_cl, z_nat, Int.toNat_natCast, mm_I, mm_J, z_cln, z_abs, z_max, z_min, z_lmax, z_lmin, z_sin, Int.cast_ofNat_Int, uI_I, uI_J, uL_I, uL_J, uA_I, uA_J, sI_eq, sI_ne, sL_eq, sL_ne, up_eq, up_ne, uL_eq, uL_ne, z_toInt, Int.reduceToNat] at q
          rw [if_pos (by omega)] at hQ
          exact hQ
      · rw [if_neg h1] at hQ
        exact wf (hs := [19]) 40 19 (by decide) (wt (by ((try simp (disch := omega) only [z_i8, z_i16, z_of, z_ofN, z_lofN, z_0, z_1, z_m1, z_l0, z_l1, iZ_add, iZ_sub, iZ_mul, iZ_neg, lZ_add, lZ_sub, lZ_mul, lZ_neg, z_div, z_ldiv, z_l, z_i, z_lt, z_le, z_eq, z_llt, z_lle, z_leq, z_cgt, z_cge, z_clt, z_cle, z_ceq, z_cl, z_nat, Int.toNat_natCast, mm_I, mm_J, z_cln, z_abs, z_max, z_min, z_lmax, z_lmin, z_sin, Int.cast_ofNat_Int, uI_I, uI_J, uL_I, uL_J, uA_I, uA_J, sI_eq, sI_ne, sL_eq, sL_ne, up_eq, up_ne, uL_eq, uL_ne, z_toInt, Int.reduceToNat]) <;> omega)) hQ)
  subst ex
  refine wc (hs := [19]) 30 (by decide) ?_
  refine And.intro rfl (c_restFrom (z := z) (N := 120) (Or.inl ⟨rfl, rfl⟩) h hW hm ha (by omega) hz rfl rfl ?_)
  have e : wkN (trnZ v mw mu mom) 120 z = rs := hrs
  rw [e]
  have em : (if iZ rs < iZ 0 then iZ 0 else iZ rs) = iZ (max rs 0) := by simp (disch := omega) only [z_i8, z_i16, z_of, z_ofN, z_lofN, z_0, z_1, z_m1, z_l0, z_l1, iZ_add, iZ_sub, iZ_mul, iZ_neg, lZ_add, lZ_sub, lZ_mul, lZ_neg, z_div, z_ldiv, z_l, z_i, z_lt, z_le, z_eq, z_llt, z_lle, z_leq, z_cgt, z_cge, z_clt, z_cle, z_ceq, z_cl, z_nat, Int.toNat_natCast, mm_I, mm_J, z_cln, z_abs, z_max, z_min, z_lmax, z_lmin, z_sin, Int.cast_ofNat_Int, uI_I, uI_J, uL_I, uL_J, uA_I, uA_J, sI_eq, sI_ne, sL_eq, sL_ne, up_eq, up_ne, uL_eq, uL_ne, z_toInt, Int.reduceToNat]
  refine wp_keys [0, 1, 2, 3, 4] rfl rfl ?_
  have := L 60 61 (iZ 61) (iZ 60) (by omega) ⟨by omega, by omega⟩ rfl rfl (by rw [rng_max]; exact hQ)
  rw [← em] at this
  exact this
theorem m_range (hW : Wf (vI I)) (h0 : M0 I J) (hQ : Q (some (.int (iZ (rngF (trnZ (vI I) 0 0 (asdZ (vI I))) (rstZ (trnZ (vI I) 0 0 (asdZ (vI I))) (vI I 266 7)) 60 61)))) (mm I J A)) : wpC E (d + 6) 172 [.ref 265] (mm I J A) Q := by
  have l := hW.1.2.2.2.2.2.2.1
  have ab := asdB hW
  have rr := rst_rng (t := trnZ (vI I) 0 0 (asdZ (vI I))) l
  have wm := M0_WM hW h0
  have et : tM I J (asdZ (vI I)) = trnZ (vI I) 0 0 (asdZ (vI I)) := M0_tM h0
  generalize hrs : rstZ (trnZ (vI I) 0 0 (asdZ (vI I))) (vI I 266 7) = rs at *
  have ends : ∀ (b : Int) (x3 x4 : Int32), x3 = iZ 0 → Q (some (.int (iZ b))) (mm I J A) → wp E (d + 6) 172 21 [(0, .ref 265), (1, .int (iZ rs)), (2, .int (iZ b)), (3, .int x3), (4, .int x4)] [] (mm I J A) Q := by
    intro b x3 x4 e3 hQ
    subst e3
    refine wf (hs := []) 20 21 (by decide) (And.intro (fun _ => hQ) (fun _ => And.intro (fun _ => hQ) (fun _ => ?_)))
    exact wt rfl hQ
  have L : ∀ (n : Nat) (b : Int) (x2 x4 : Int32), n ≤ 60 → 0 ≤ b ∧ b ≤ 61 → x2 = iZ b → x4 = iZ n → Q (some (.int (iZ (rngF (trnZ (vI I) 0 0 (asdZ (vI I))) rs n b)))) (mm I J A) → wp E (d + 6) 172 21 [(0, .ref 265), (1, .int (iZ rs)), (2, .int x2), (3, .int (iZ 1)), (4, .int x4)] [] (mm I J A) Q := by
    intro n
    induction n with
    | zero =>
      intro b x2 x4 hn hb e2 e4 hQ
      subst e2; subst e4
      exact wf (hs := [21]) 20 21 (by decide) (wt (by decide) hQ)
    | succ n ih =>
      intro b x2 x4 hn hb e2 e4 hQ
      subst e2; subst e4
      have tb := (trnB hW WW0.1 WW0.2 (a := asdZ (vI I)) ⟨by omega, by omega⟩ (z := ((n : Int) + 1)) ⟨by omega, by omega⟩).2
      unfold rngF at hQ
      by_cases h1 : rs < (n : Int) + 1
      · rw [if_pos h1] at hQ
        refine wf (hs := [21]) 60 21 (by decide) (wF (by ((try simp (disch := omega) only [z_i8, z_i16, z_of, z_ofN, z_lofN, z_0, z_1, z_m1, z_l0, z_l1, iZ_add, iZ_sub, iZ_mul, iZ_neg, lZ_add, lZ_sub, lZ_mul, lZ_neg, z_div, z_ldiv, z_l, z_i, z_lt, z_le, z_eq, z_llt, z_lle, z_leq, z_cgt, z_cge, z_clt, z_cle, z_ceq, z_cl, z_nat, Int.toNat_natCast, mm_I, mm_J, z_cln, z_abs, z_max, z_min, z_lmax, z_lmin, z_sin, Int.cast_ofNat_Int, uI_I, uI_J, uL_I, uL_J, uA_I, uA_J, sI_eq, sI_ne, sL_eq, sL_ne, up_eq, up_ne, uL_eq, uL_ne, z_toInt, Int.reduceToNat]) <;> omega)) (wF (by ((try simp (disch := omega) only [z_i8, z_i16, z_of, z_ofN, z_lofN, z_0, z_1, z_m1, z_l0, z_l1, iZ_add, iZ_sub, iZ_mul, iZ_neg, lZ_add, lZ_sub, lZ_mul, lZ_neg, z_div, z_ldiv, z_l, z_i, z_lt, z_le, z_eq, z_llt, z_lle, z_leq, z_cgt, z_cge, z_clt, z_cle, z_ceq, z_cl, z_nat, Int.toNat_natCast, mm_I, mm_J, z_cln, z_abs, z_max, z_min, z_lmax, z_lmin, z_sin, Int.cast_ofNat_Int, uI_I, uI_J, uL_I, uL_J, uA_I, uA_J, sI_eq, sI_ne, sL_eq, sL_ne, up_eq, up_ne, uL_eq, uL_ne, z_toInt, Int.reduceToNat]) <;> omega)) (wF (by decide) ?_)))
        refine And.intro rfl (m_asideNow hW (And.intro rfl (m_turnBy (a := asdZ (vI I)) (z := (n : Int) + 1) wm ⟨by omega, by omega⟩ ⟨by omega, by omega⟩ ?_)))
        rw [et]
        have e4 : iZ (((n + 1 : Nat) : Int)) + iZ (-1) = iZ (n : Int) := by rw [iZ_add]; congr 1; omega
        refine And.intro (fun q => ?_) (fun q => ?_)
        · simp (disch := omega) only [z_i8, z_i16, z_of, z_ofN, z_lofN, z_0, z_1, z_m1, z_l0, z_l1, iZ_add, iZ_sub, iZ_mul, iZ_neg, lZ_add, lZ_sub, lZ_mul, lZ_neg, z_div, z_ldiv, z_l, z_i, z_lt, z_le, z_eq, z_llt, z_lle, z_leq, z_cgt, z_cge, z_clt, z_cle, z_ceq, z_cl, z_nat, Int.toNat_natCast, mm_I, mm_J, z_cln, z_abs, z_max, z_min, z_lmax, z_lmin, z_sin, Int.cast_ofNat_Int, uI_I, uI_J, uL_I, uL_J, uA_I, uA_J, sI_eq, sI_ne, sL_eq, sL_ne, up_eq, up_ne, uL_eq, uL_ne, z_toInt, Int.reduceToNat] at q
          rw [if_pos (by omega)] at hQ
          refine wt (by ((try simp (disch := omega) only [z_i8, z_i16, z_of, z_ofN, z_lofN, z_0, z_1, z_m1, z_l0, z_l1, iZ_add, iZ_sub, iZ_mul, iZ_neg, lZ_add, lZ_sub, lZ_mul, lZ_neg, z_div, z_ldiv, z_l, z_i, z_lt, z_le, z_eq, z_llt, z_lle, z_leq, z_cgt, z_cge, z_clt, z_cle, z_ceq, z_cl, z_nat, Int.toNat_natCast, mm_I, mm_J, z_cln, z_abs, z_max, z_min, z_lmax, z_lmin, z_sin, Int.cast_ofNat_Int, uI_I, uI_J, uL_I, uL_J, uA_I, uA_J, sI_eq, sI_ne, sL_eq, sL_ne, up_eq, up_ne, uL_eq, uL_ne, z_toInt, Int.reduceToNat]) <;> omega)) ?_
          refine wp_keys [0, 1, 2, 3, 4] rfl rfl ?_
          exact ends b _ _ rfl hQ
        · simp (disch := omega) only [z_i8, z_i16, z_of, z_ofN, z_lofN, z_0, z_1, z_m1, z_l0, z_l1, iZ_add, iZ_sub, iZ_mul, iZ_neg, lZ_add, lZ_sub, lZ_mul, lZ_neg, z_div, z_ldiv, z_l, z_i, z_lt, z_le, z_eq, z_llt, z_lle, z_leq, z_cgt, z_cge, z_clt, z_cle, z_ceq, z_cl, z_nat, Int.toNat_natCast, mm_I, mm_J, z_cln, z_abs, z_max, z_min, z_lmax, z_lmin, z_sin, Int.cast_ofNat_Int, uI_I, uI_J, uL_I, uL_J, uA_I, uA_J, sI_eq, sI_ne, sL_eq, sL_ne, up_eq, up_ne, uL_eq, uL_ne, z_toInt, Int.reduceToNat] at q
          rw [if_neg (by omega)] at hQ
          refine And.intro (fun q2 => ?_) (fun q2 => ?_)
          · simp (disch := omega) only [z_i8, z_i16, z_of, z_ofN, z_lofN, z_0, z_1, z_m1, z_l0, z_l1, iZ_add, iZ_sub, iZ_mul, iZ_neg, lZ_add, lZ_sub, lZ_mul, lZ_neg, z_div, z_ldiv, z_l, z_i, z_lt, z_le, z_eq, z_llt, z_lle, z_leq, z_cgt, z_cge, z_clt, z_cle, z_ceq, z_cl, z_nat, Int.toNat_natCast, mm_I, mm_J, z_cln, z_abs, z_max, z_min, z_lmax, z_lmin, z_sin, Int.cast_ofNat_Int, uI_I, uI_J, uL_I, uL_J, uA_I, uA_J, sI_eq, sI_ne, sL_eq, sL_ne, up_eq, up_ne, uL_eq, uL_ne, z_toInt, Int.reduceToNat] at q2
            rw [if_neg (by omega)] at hQ
            refine wp_keys [0, 1, 2, 3, 4] rfl rfl ?_
            exact ih b _ _ (by omega) hb rfl e4 hQ
          · simp (disch := omega) only [z_i8, z_i16, z_of, z_ofN, z_lofN, z_0, z_1, z_m1, z_l0, z_l1, iZ_add, iZ_sub, iZ_mul, iZ_neg, lZ_add, lZ_sub, lZ_mul, lZ_neg, z_div, z_ldiv, z_l, z_i, z_lt, z_le, z_eq, z_llt, z_lle, z_leq, z_cgt, z_cge, z_clt, z_cle, z_ceq, z_cl, z_nat, Int.toNat_natCast, mm_I, mm_J, z_cln, z_abs, z_max, z_min, z_lmax, z_lmin, z_sin, Int.cast_ofNat_Int, uI_I, uI_J, uL_I, uL_J, uA_I, uA_J, sI_eq, sI_ne, sL_eq, sL_ne, up_eq, up_ne, uL_eq, uL_ne, z_toInt, Int.reduceToNat] at q2
            rw [if_pos (by omega)] at hQ
            refine wp_keys [0, 1, 2, 3, 4] rfl rfl ?_
            exact ih _ _ _ (by omega) ⟨by omega, by omega⟩ rfl e4 hQ
      · rw [if_neg h1] at hQ
        exact wf (hs := [21]) 40 21 (by decide) (wF (by ((try simp (disch := omega) only [z_i8, z_i16, z_of, z_ofN, z_lofN, z_0, z_1, z_m1, z_l0, z_l1, iZ_add, iZ_sub, iZ_mul, iZ_neg, lZ_add, lZ_sub, lZ_mul, lZ_neg, z_div, z_ldiv, z_l, z_i, z_lt, z_le, z_eq, z_llt, z_lle, z_leq, z_cgt, z_cge, z_clt, z_cle, z_ceq, z_cl, z_nat, Int.toNat_natCast, mm_I, mm_J, z_cln, z_abs, z_max, z_min, z_lmax, z_lmin, z_sin, Int.cast_ofNat_Int, uI_I, uI_J, uL_I, uL_J, uA_I, uA_J, sI_eq, sI_ne, sL_eq, sL_ne, up_eq, up_ne, uL_eq, uL_ne, z_toInt, Int.reduceToNat]) <;> omega)) (wt (by ((try simp (disch := omega) only [z_i8, z_i16, z_of, z_ofN, z_lofN, z_0, z_1, z_m1, z_l0, z_l1, iZ_add, iZ_sub, iZ_mul, iZ_neg, lZ_add, lZ_sub, lZ_mul, lZ_neg, z_div, z_ldiv, z_l, z_i, z_lt, z_le, z_eq, z_llt, z_lle, z_leq, z_cgt, z_cge, z_clt, z_cle, z_ceq, z_cl, z_nat, Int.toNat_natCast, mm_I, mm_J, z_cln, z_abs, z_max, z_min, z_lmax, z_lmin, z_sin, Int.cast_ofNat_Int, uI_I, uI_J, uL_I, uL_J, uA_I, uA_J, sI_eq, sI_ne, sL_eq, sL_ne, up_eq, up_ne, uL_eq, uL_ne, z_toInt, Int.reduceToNat]) <;> omega)) hQ))
  have e7 := vI_eq I 266 7
  refine wc (hs := [21]) 30 (by decide) ?_
  refine And.intro (inL (by decide)) (And.intro rfl (m_restFromE (z := vI I 266 7) e7 wm l ?_))
  rw [et, hrs]
  refine wp_keys [0, 1, 2, 3, 4] rfl rfl ?_
  exact L 60 61 (iZ 61) (iZ 60) (by omega) ⟨by omega, by omega⟩ rfl rfl hQ
theorem slB {k : Nat} (hW : WfP v k) : (0 ≤ 41 * v 272 k * v 272 k ∧ 41 * v 272 k * v 272 k ≤ 6560000) := by
  have w2 := hW.2.2.1
  have := mulb (a := 41 * v 272 k) (b := v 272 k) (A := 16400) (B := 400) (by omega) (by omega) (by omega) w2.2
  omega
theorem c_sloshing {k : Nat} {x : Int32} (hR : RS I J 1 v) (hW : Wf v) (hk : k < nP v) (ex : x = iZ k) (hQ : Q (some (.int (iZ (slZ v k)))) (mm I J A)) : wpC E (d + 1) 34 [.ref 3, .int x] (mm I J A) Q := by
  subst ex
  have h12 := nP12 hW
  have w := hW.2.2.1 k hk
  have lb := levB w
  have sb := slB w
  have w2 := w.2.2.1
  have hin : vp_in (iZ (k : Int)) 12 := z_in (by omega) (by omega) (by omega)
  obtain ⟨q1, q2, q3, q4, q5, q6, q7, q8, q9, q10, q11⟩ := id (hR.2.2.1.2.1 k hk)
  simp only [Nat.reduceAdd] at q3 q9
  unfold slZ at hQ
  refine wc (hs := []) 40 (by decide) (And.intro hin (And.intro (fun q => ?_) (fun q => ?_)))
  · simp (disch := omega) only [z_i8, z_i16, z_of, z_ofN, z_lofN, z_0, z_1, z_m1, z_l0, z_l1, iZ_add, iZ_sub, iZ_mul, iZ_neg, lZ_add, lZ_sub, lZ_mul, lZ_neg, z_div, z_ldiv, z_l, z_i, z_lt, z_le, z_eq, z_llt, z_lle, z_leq, z_cgt, z_cge, z_clt, z_cle, z_ceq, z_cl, z_nat, Int.toNat_natCast, mm_I, mm_J, z_cln, z_abs, z_max, z_min, z_lmax, z_lmin, z_sin, Int.cast_ofNat_Int, uI_I, uI_J, uL_I, uL_J, uA_I, uA_J, sI_eq, sI_ne, sL_eq, sL_ne, up_eq, up_ne, uL_eq, uL_ne, z_toInt, Int.reduceToNat, q9] at q
    rw [if_pos q] at hQ
    exact hQ
  · simp (disch := omega) only [z_i8, z_i16, z_of, z_ofN, z_lofN, z_0, z_1, z_m1, z_l0, z_l1, iZ_add, iZ_sub, iZ_mul, iZ_neg, lZ_add, lZ_sub, lZ_mul, lZ_neg, z_div, z_ldiv, z_l, z_i, z_lt, z_le, z_eq, z_llt, z_lle, z_leq, z_cgt, z_cge, z_clt, z_cle, z_ceq, z_cl, z_nat, Int.toNat_natCast, mm_I, mm_J, z_cln, z_abs, z_max, z_min, z_lmax, z_lmin, z_sin, Int.cast_ofNat_Int, uI_I, uI_J, uL_I, uL_J, uA_I, uA_J, sI_eq, sI_ne, sL_eq, sL_ne, up_eq, up_ne, uL_eq, uL_ne, z_toInt, Int.reduceToNat, q9] at q
    rw [if_neg q] at hQ
    have d1 := Int.ediv_nonneg (a := 41 * v 272 k * v 272 k) (b := levZ v k) sb.1 (by omega)
    have d2 := Int.ediv_le_self (a := 41 * v 272 k * v 272 k) (levZ v k) sb.1
    refine And.intro hin (And.intro hin (And.intro hin (And.intro rfl (c_downE (a := 41 * v 272 k * v 272 k) (b := levZ v k) (by simp (disch := omega) only [z_i8, z_i16, z_of, z_ofN, z_lofN, z_0, z_1, z_m1, z_l0, z_l1, iZ_add, iZ_sub, iZ_mul, iZ_neg, lZ_add, lZ_sub, lZ_mul, lZ_neg, z_div, z_ldiv, z_l, z_i, z_lt, z_le, z_eq, z_llt, z_lle, z_leq, z_cgt, z_cge, z_clt, z_cle, z_ceq, z_cl, z_nat, Int.toNat_natCast, mm_I, mm_J, z_cln, z_abs, z_max, z_min, z_lmax, z_lmin, z_sin, Int.cast_ofNat_Int, uI_I, uI_J, uL_I, uL_J, uA_I, uA_J, sI_eq, sI_ne, sL_eq, sL_ne, up_eq, up_ne, uL_eq, uL_ne, z_toInt, Int.reduceToNat, q3]) (by simp (disch := omega) only [z_i8, z_i16, z_of, z_ofN, z_lofN, z_0, z_1, z_m1, z_l0, z_l1, iZ_add, iZ_sub, iZ_mul, iZ_neg, lZ_add, lZ_sub, lZ_mul, lZ_neg, z_div, z_ldiv, z_l, z_i, z_lt, z_le, z_eq, z_llt, z_lle, z_leq, z_cgt, z_cge, z_clt, z_cle, z_ceq, z_cl, z_nat, Int.toNat_natCast, mm_I, mm_J, z_cln, z_abs, z_max, z_min, z_lmax, z_lmin, z_sin, Int.cast_ofNat_Int, uI_I, uI_J, uL_I, uL_J, uA_I, uA_J, sI_eq, sI_ne, sL_eq, sL_ne, up_eq, up_ne, uL_eq, uL_ne, z_toInt, Int.reduceToNat, q9]) ⟨by omega, by omega⟩ ⟨by omega, by omega⟩ ?_))))
    exact And.intro rfl (c_root ⟨d1, by omega⟩ hQ)
theorem m_slopL {k : Nat} {s most : Int} (hs : 1 ≤ s ∧ s ≤ 999) (hm : 0 ≤ most ∧ most ≤ 6560000) (hQ : ∀ τ : Int, 0 ≤ τ → τ * τ * s ≤ most → most < (τ + 1) * (τ + 1) * s → Q (some (.int (iZ τ))) (mm I J A)) :
    ∀ (n : Nat) (τ : Int) (x : Int32), 2600 ≤ τ + n → 0 ≤ τ → τ ≤ 2600 → x = iZ τ → τ * τ * s ≤ most → wp E d 248 40 [(0, .ref 265), (1, .int (iZ k)), (2, .long (lZ s)), (4, .long (lZ most)), (6, .int x)] [] (mm I J A) Q := by
  have big : ∀ τ : Int, 0 ≤ τ → (τ + 1) * (τ + 1) * s ≤ most → τ + 1 ≤ 2600 := by
    intro τ h0 h
    rcases Int.lt_or_le 2600 (τ + 1) with z | z
    · have a := sq_lt (a := 2600) (b := τ + 1) (by omega) z
      have b : (τ + 1) * (τ + 1) * 1 ≤ (τ + 1) * (τ + 1) * s := Int.mul_le_mul_of_nonneg_left hs.1 (Int.mul_nonneg (by omega) (by omega))
      omega
    · exact z
  have rng : ∀ τ : Int, 0 ≤ τ → τ ≤ 2600 → rL ((τ + 1) * (τ + 1) * s) := by
    intro τ h0 h1
    have a := mulb (a := τ + 1) (b := τ + 1) (A := 2601) (B := 2601) (by omega) (by omega) (by omega) (by omega)
    have b := mulb a.1 a.2 (show 0 ≤ s by omega) hs.2
    exact ⟨by omega, by omega⟩
  intro n
  induction n with
  | zero =>
    intro τ x hn h0 h1 e hle
    subst e
    have hlt : most < (τ + 1) * (τ + 1) * s := by
      rcases Int.lt_or_le most ((τ + 1) * (τ + 1) * s) with z | z
      · exact z
      · have := big τ h0 z; omega
    refine wf (hs := [40]) 40 40 (by decide) (wt ?_ (hQ τ h0 hle hlt))
    show 0 < lg_cmp (((iZ τ).toInt64 + lZ 1) * ((iZ τ).toInt64 + lZ 1) * lZ s) (lZ most)
    rw [lg_cmp_gt, iZ_l ⟨by omega, by omega⟩, lZ_add, lZ_mul, lZ_mul, lZ_lt ⟨by omega, by omega⟩ (rng τ h0 h1)]
    exact hlt
  | succ n ih =>
    intro τ x hn h0 h1 e hle
    subst e
    have key : 0 < lg_cmp (((iZ τ).toInt64 + lZ 1) * ((iZ τ).toInt64 + lZ 1) * lZ s) (lZ most) ↔ most < (τ + 1) * (τ + 1) * s := by
      rw [lg_cmp_gt, iZ_l ⟨by omega, by omega⟩, lZ_add, lZ_mul, lZ_mul, lZ_lt ⟨by omega, by omega⟩ (rng τ h0 h1)]
    refine wf (hs := [40]) 40 40 (by decide) ?_
    refine And.intro (fun q => ?_) (fun q => ?_)
    · exact hQ τ h0 hle (key.mp q)
    · have q : ¬ most < (τ + 1) * (τ + 1) * s := fun y => q (key.mpr y)
      refine wp_keys [0, 1, 2, 4, 6] rfl rfl ?_
      exact ih (τ + 1) _ (by omega) (by omega) (big τ h0 (by omega)) (iZ_add τ 1) (by omega)
theorem m_slopOf {k : Nat} {x : Int32} (hW : Wf (vI I)) (hk : k < nP (vI I)) (ex : x = iZ k) (hQ : Q (some (.int (iZ (slZ (vI I) k)))) (mm I J A)) : wpC E (d + 1) 248 [.ref 265, .int x] (mm I J A) Q := by
  subst ex
  have h12 := nP12 hW
  have w := hW.2.2.1 k hk
  have lb := levB w
  have sb := slB w
  have w2 := w.2.2.1
  have hin : vp_in (iZ (k : Int)) 12 := z_in (by omega) (by omega) (by omega)
  have hcl : (iZ (k : Int)).toNatClampNeg = k := z_cln (by omega)
  unfold slZ at hQ
  refine wc (hs := [40]) 60 (by decide) (And.intro rfl (m_levelE rfl (by omega) w ?_))
  refine And.intro (fun q => ?_) (fun q => ?_)
  · simp (disch := omega) only [z_i8, z_i16, z_of, z_ofN, z_lofN, z_0, z_1, z_m1, z_l0, z_l1, iZ_add, iZ_sub, iZ_mul, iZ_neg, lZ_add, lZ_sub, lZ_mul, lZ_neg, z_div, z_ldiv, z_l, z_i, z_lt, z_le, z_eq, z_llt, z_lle, z_leq, z_cgt, z_cge, z_clt, z_cle, z_ceq, z_cl, z_nat, Int.toNat_natCast, mm_I, mm_J, z_cln, z_abs, z_max, z_min, z_lmax, z_lmin, z_sin, Int.cast_ofNat_Int, uI_I, uI_J, uL_I, uL_J, uA_I, uA_J, sI_eq, sI_ne, sL_eq, sL_ne, up_eq, up_ne, uL_eq, uL_ne, z_toInt, Int.reduceToNat] at q
    have q : levZ (vI I) k = 0 := q
    rw [if_pos q] at hQ
    exact hQ
  · simp (disch := omega) only [z_i8, z_i16, z_of, z_ofN, z_lofN, z_0, z_1, z_m1, z_l0, z_l1, iZ_add, iZ_sub, iZ_mul, iZ_neg, lZ_add, lZ_sub, lZ_mul, lZ_neg, z_div, z_ldiv, z_l, z_i, z_lt, z_le, z_eq, z_llt, z_lle, z_leq, z_cgt, z_cge, z_clt, z_cle, z_ceq, z_cl, z_nat, Int.toNat_natCast, mm_I, mm_J, z_cln, z_abs, z_max, z_min, z_lmax, z_lmin, z_sin, Int.cast_ofNat_Int, uI_I, uI_J, uL_I, uL_J, uA_I, uA_J, sI_eq, sI_ne, sL_eq, sL_ne, up_eq, up_ne, uL_eq, uL_ne, z_toInt, Int.reduceToNat] at q
    have q : ¬ levZ (vI I) k = 0 := q
    rw [if_neg q] at hQ
    refine And.intro hin (And.intro hin ?_)
    have e1 : (iZ (levZ (vI I) k)).toInt64 = lZ (levZ (vI I) k) := z_l (by omega) (by omega)
    have e2 : lZ 41 * (I 272 (iZ (k : Int)).toNatClampNeg).toInt64 * (I 272 (iZ (k : Int)).toNatClampNeg).toInt64 = lZ (41 * vI I 272 k * vI I 272 k) := by rw [hcl, IL, lZ_mul, lZ_mul]
    refine wp_keys [0, 1, 2, 4, 6] rfl rfl ?_
    have := m_slopL (E := E) (d := d + 1) (J := J) (A := A) (Q := Q) (k := k) (s := levZ (vI I) k) (most := 41 * vI I 272 k * vI I 272 k) ⟨by omega, by omega⟩ sb (fun τ h0 h1 h2 => by
      refine q_i hQ ?_
      congr 1
      symm
      refine sqI_eq (Int.ediv_nonneg sb.1 (by omega)) (Int.le_trans (Int.ediv_le_self _ sb.1) (by omega)) h0 ?_ ?_
      · exact Int.le_ediv_of_mul_le (by omega) h1
      · exact Int.ediv_lt_of_lt_mul (by omega) h2) 2600 0 (iZ 0) (by omega) (by omega) (by omega) rfl (by simpa using sb.1)
    rw [← e1, ← e2] at this
    exact this
end RD1
