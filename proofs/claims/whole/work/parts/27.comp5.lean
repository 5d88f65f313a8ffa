/-! ===== the class: places ===== -/
def setI (I : Nat → Nat → Int32) (a i : Nat) (x : Int32) : Nat → Nat → Int32 := am_sI I a (upd (I a) i x)
def setL (J : Nat → Nat → Int64) (a i : Nat) (x : Int64) : Nat → Nat → Int64 := am_sL J a (vp_updL (J a) i x)
theorem setI_at (I : Nat → Nat → Int32) (a i : Nat) (x : Int32) (a' i' : Nat) : setI I a i x a' i' = if a' = a ∧ i' = i then x else I a' i' := by
  unfold setI am_sI upd
  by_cases h : a' = a
  · subst h
    rw [if_pos rfl]
    by_cases h2 : i' = i
    · rw [if_pos h2, if_pos ⟨rfl, h2⟩]
    · rw [if_neg h2, if_neg (fun q => h2 q.2)]
  · rw [if_neg h, if_neg (fun q => h q.1)]
theorem setL_at (I : Nat → Nat → Int64) (a i : Nat) (x : Int64) (a' i' : Nat) : setL I a i x a' i' = if a' = a ∧ i' = i then x else I a' i' := by
  unfold setL am_sL vp_updL
  by_cases h : a' = a
  · subst h
    rw [if_pos rfl]
    by_cases h2 : i' = i
    · rw [if_pos h2, if_pos ⟨rfl, h2⟩]
    · rw [if_neg h2, if_neg (fun q => h2 q.2)]
  · rw [if_neg h, if_neg (fun q => h q.1)]
def holdI (I : Nat → Nat → Int32) (b p : Nat) (n lv bk : Int) : Nat → Nat → Int32 := setI (setI (setI I (b + 10) p (iZ n)) (b + 11) p (iZ lv)) (b + 13) p (iZ bk)
section C5
variable {E : Nat × (Nat → Int32)} {d : Nat} {I : Nat → Nat → Int32} {J : Nat → Nat → Int64} {A : Nat → Option Nat} {Q : Option Value → am_M → Prop} {M : am_M} {β b : Nat} {v : am_V} {mw mu mom : Int}
set_option maxHeartbeats 4000000 in
theorem c_hold {p : Nat} {n D B L W C : Int} {x y : Int32} (hb : B5 b) (hp : p < 12) (hD : I (b + 4) p = iZ D) (hB : I (b + 5) p = iZ B) (hL : I (b + 6) p = iZ L) (hW : I (b + 7) p = iZ W) (hC : I (b + 9) p = iZ C) (rD : 1 ≤ D ∧ D ≤ 999) (rB : 1 ≤ B ∧ B ≤ 400) (rL : 1 ≤ L ∧ L ≤ 2000) (rW : 1 ≤ W ∧ W ≤ 9) (rC : 0 ≤ C ∧ C ≤ 79920) (rn : 0 ≤ n ∧ n ≤ C) (ey : y = iZ p) (ex : x = iZ n) (hQ : Q none (mm (holdI I b p n (min D (n * 10000 / (B * L))) (5 * B * min n (C - n) / W)) J A)) : wpC E (d + 1) 31 [.ref (b + 2), .int y, .int x] (mm I J A) Q := by
  subst ex; subst ey
  have hin : vp_in (iZ (p : Int)) 12 := z_in (by omega) (by omega) (by omega)
  have m1 := mulb (a := B) (b := L) (A := 400) (B := 2000) (by omega) rB.2 (by omega) rL.2
  have m2 : 1 * 1 ≤ B * L := Int.mul_le_mul rB.1 rL.1 (by omega) (by omega)
  have m3 := Int.ediv_nonneg (a := n * 10000) (b := B * L) (by omega) (by omega)
  have m4 := Int.ediv_le_self (a := n * 10000) (B * L) (by omega)
  have m5 := mulb (a := 5 * B) (b := min n (C - n)) (A := 2000) (B := 79920) (by omega) (by omega) (by omega) (by omega)
  have m6 := Int.ediv_nonneg (a := 5 * B * min n (C - n)) (b := W) m5.1 (by omega)
  have m7 := Int.ediv_le_self (a := 5 * B * min n (C - n)) W m5.1
  rcases hb with rfl | rfl | rfl | rfl | rfl
  all_goals (
    simp only [Nat.reduceAdd] at hD hB hL hW hC
    refine wc (hs := []) 60 (by decide) ?_
    refine And.intro hin (And.intro hin (And.intro hin (And.intro hin (And.intro rfl (c_downE (a := n * 10000) (b := B * L) ?_ ?_ ⟨by omega, by omega⟩ ⟨by omega, by omega⟩ ?_)))))
    · simp (disch := omega) only [z_i8, z_i16, z_of, z_ofN, z_lofN, z_0, z_1, z_m1, z_l0, z_l1, iZ_add, iZ_sub, iZ_mul, iZ_neg, lZ_add, lZ_sub, lZ_mul, lZ_neg, z_div, z_ldiv, z_l, z_i, z_lt, z_le, z_eq, z_llt, z_lle, z_leq, z_cgt, z_cge, z_clt, z_cle, z_ceq, z_cl, z_nat, Int.toNat_natCast, mm_I, mm_J, z_cln, z_abs, z_max, z_min, z_lmax, z_lmin, z_sin, Int.cast_ofNat_Int, uI_I, uI_J, uL_I, uL_J, uA_I, uA_J, sI_eq, sI_ne, sL_eq, sL_ne, up_eq, up_ne, uL_eq, uL_ne]
    · simp (disch := omega) only [z_i8, z_i16, z_of, z_ofN, z_lofN, z_0, z_1, z_m1, z_l0, z_l1, iZ_add, iZ_sub, iZ_mul, iZ_neg, lZ_add, lZ_sub, lZ_mul, lZ_neg, z_div, z_ldiv, z_l, z_i, z_lt, z_le, z_eq, z_llt, z_lle, z_leq, z_cgt, z_cge, z_clt, z_cle, z_ceq, z_cl, z_nat, Int.toNat_natCast, mm_I, mm_J, z_cln, z_abs, z_max, z_min, z_lmax, z_lmin, z_sin, Int.cast_ofNat_Int, uI_I, uI_J, uL_I, uL_J, uA_I, uA_J, sI_eq, sI_ne, sL_eq, sL_ne, up_eq, up_ne, uL_eq, uL_ne, hB, hL]
    refine And.intro hin (And.intro hin (And.intro hin (And.intro hin (And.intro rfl (c_downE (a := 5 * B * min n (C - n)) (b := W) ?_ ?_ ⟨by omega, by omega⟩ ⟨by omega, by omega⟩ ?_)))))
    · simp (disch := omega) only [z_i8, z_i16, z_of, z_ofN, z_lofN, z_0, z_1, z_m1, z_l0, z_l1, iZ_add, iZ_sub, iZ_mul, iZ_neg, lZ_add, lZ_sub, lZ_mul, lZ_neg, z_div, z_ldiv, z_l, z_i, z_lt, z_le, z_eq, z_llt, z_lle, z_leq, z_cgt, z_cge, z_clt, z_cle, z_ceq, z_cl, z_nat, Int.toNat_natCast, mm_I, mm_J, z_cln, z_abs, z_max, z_min, z_lmax, z_lmin, z_sin, Int.cast_ofNat_Int, uI_I, uI_J, uL_I, uL_J, uA_I, uA_J, sI_eq, sI_ne, sL_eq, sL_ne, up_eq, up_ne, uL_eq, uL_ne, hB, hC]
    · simp (disch := omega) only [z_i8, z_i16, z_of, z_ofN, z_lofN, z_0, z_1, z_m1, z_l0, z_l1, iZ_add, iZ_sub, iZ_mul, iZ_neg, lZ_add, lZ_sub, lZ_mul, lZ_neg, z_div, z_ldiv, z_l, z_i, z_lt, z_le, z_eq, z_llt, z_lle, z_leq, z_cgt, z_cge, z_clt, z_cle, z_ceq, z_cl, z_nat, Int.toNat_natCast, mm_I, mm_J, z_cln, z_abs, z_max, z_min, z_lmax, z_lmin, z_sin, Int.cast_ofNat_Int, uI_I, uI_J, uL_I, uL_J, uA_I, uA_J, sI_eq, sI_ne, sL_eq, sL_ne, up_eq, up_ne, uL_eq, uL_ne, hW]
    refine And.intro hin ?_
    have e : ∀ M M' : am_M, M' = M → Q none M → Q none M' := fun M M' h q => h ▸ q
    refine e _ _ ?_ hQ
    unfold holdI setI
    simp (disch := omega) only [z_i8, z_i16, z_of, z_ofN, z_lofN, z_0, z_1, z_m1, z_l0, z_l1, iZ_add, iZ_sub, iZ_mul, iZ_neg, lZ_add, lZ_sub, lZ_mul, lZ_neg, z_div, z_ldiv, z_l, z_i, z_lt, z_le, z_eq, z_llt, z_lle, z_leq, z_cgt, z_cge, z_clt, z_cle, z_ceq, z_cl, z_nat, Int.toNat_natCast, mm_I, mm_J, z_cln, z_abs, z_max, z_min, z_lmax, z_lmin, z_sin, Int.cast_ofNat_Int, uI_I, uI_J, uL_I, uL_J, uA_I, uA_J, sI_eq, sI_ne, sL_eq, sL_ne, up_eq, up_ne, uL_eq, uL_ne, hD]
    rfl)
end C5
