/-! ===== the reference: heights, pouring ===== -/
def cutV (v : am_V) : am_V := fun a i => if 266 ≤ a ∧ a ≤ 289 then v a i else 0
theorem vI_set {I : Nat → Nat → Int32} {a i : Nat} {x : Int32} : vI (setI I a i x) = vset (vI I) a i x.toInt := by
  funext a' i'
  unfold vI vset
  rw [setI_at]
  split <;> rfl
theorem vI_setZ {I : Nat → Nat → Int32} {a i : Nat} {x : Int32} {z : Int} (hx : x = iZ z) (h1 : -2147483648 ≤ z) (h2 : z ≤ 2147483647) : vI (setI I a i x) = vset (vI I) a i z := by
  rw [vI_set, hx, z_toInt h1 h2]
section M7
variable {E : Nat × (Nat → Int32)} {d : Nat} {I : Nat → Nat → Int32} {J : Nat → Nat → Int64} {A : Nat → Option Nat} {Q : Option Value → am_M → Prop} {M : am_M}
theorem m_levelE {k : Nat} {x : Int32} (ex : x = iZ k) (hk : k < 12) (hW : WfP (vI I) k) (hQ : Q (some (.int (iZ (levZ (vI I) k)))) (mm I J A)) : wpC E d 150 [.ref 265, .int x] (mm I J A) Q := by
  subst ex; rw [iZ_nat]; exact m_level hk hW hQ
theorem m_capE {k : Nat} {x : Int32} (ex : x = iZ k) (hk : k < 12) (hW : WfP (vI I) k) (hQ : Q (some (.int (iZ (capZ (vI I) k)))) (mm I J A)) : wpC E d 149 [.ref 265, .int x] (mm I J A) Q := by
  subst ex; rw [iZ_nat]; exact m_cap hk hW hQ
theorem m_withoutE {x : Int32} {z : Int} (ex : x = iZ z) (h : -2147483647 ≤ z ∧ z ≤ 2147483647) (hQ : Q (some (.int (iZ z.natAbs))) M) : wpC E d 142 [.int x] M Q := by
  subst ex; exact m_without h hQ
theorem m_betweenE {x y w : Int64} {z lo hi : Int} (ex : x = lZ z) (ey : y = lZ lo) (ew : w = lZ hi) (h1 : rL z) (h2 : rL lo) (h3 : rL hi) (h : lo ≤ hi) (hQ : Q (some (.long (lZ (max lo (min z hi))))) M) : wpC E d 140 [.long x, .long y, .long w] M Q := by
  subst ex; subst ey; subst ew; exact m_between h1 h2 h3 h hQ
theorem tlt0 {v : am_V} {k : Nat} (h : v 266 7 = 0) : tltZ v k = 0 := by
  unfold tltZ
  rw [h]
  show v 272 k * 5 / v 274 k * sinZ 0 / 1000 = 0
  have : sinZ 0 = 0 := by decide
  rw [this]; simp
set_option maxHeartbeats 4000000 in
theorem m_insideAt {k : Nat} {s : Int} {x y : Int32} (hW : Wf (vI I)) (hk : k < nP (vI I)) (hs : -1 ≤ s ∧ s ≤ 1) (ex : x = iZ k) (ey : y = iZ s) (hQ : Q (some (.int (iZ (insZ (vI I) k s)))) (mm I J A)) : wpC E (d + 1) 181 [.ref 265, .int x, .int y] (mm I J A) Q := by
  have h12 := nP12 hW
  have hin : vp_in (iZ (k : Int)) 12 := z_in (by omega) (by omega) (by omega)
  have w := hW.2.2.1 k hk
  have cb := (capB w).2.2
  have lv := levB w
  have tb := tltB hW hk
  have ib := insB (s := s) hW hk
  have wP := w
  obtain ⟨w0, w1, w2, w3, w4, w5, w6⟩ := w
  have l := hW.1.2.2.2.2.2.2.1
  have sr := sinR (z := ((vI I 266 7).natAbs : Int)) (by omega) (by omega)
  have hcl : (iZ (k : Int)).toNatClampNeg = k := z_cln (by omega)
  have gg : ∀ a, I a k = iZ (vI I a k) := fun a => vI_eq I a k
  have g7 : I 266 7 = iZ (vI I 266 7) := vI_eq I 266 7
  subst ex; subst ey
  have fin : ∀ (c5 : Int32) (T : Int), 0 ≤ T ∧ T ≤ 2000 → (c5 = iZ 1 ∨ c5 = iZ 0) → ¬ vI I 276 k = 0 → (c5 = iZ 1 → insZ (vI I) k s = vI I 270 k + max 0 (min (levZ (vI I) k + T) (vI I 271 k))) → (c5 = iZ 0 → insZ (vI I) k s = vI I 270 k + max 0 (min (levZ (vI I) k - T) (vI I 271 k))) → wp E (d + 1) 181 88 [(0, .ref 265), (1, .int (iZ k)), (2, .int (iZ s)), (3, .int (I 266 7)), (4, .int (iZ T)), (5, .int c5)] [] (mm I J A) Q := by
    intro c5 T hT h5 hne e1 e0
    have g270 := gg 270
    have g271 := gg 271
    rcases h5 with rfl | rfl
    · refine wf (hs := []) 40 88 (by decide) ?_
      refine And.intro rfl (m_levelE rfl (by omega) wP (wF (by decide) ?_))
      refine And.intro hin (And.intro rfl (m_betweenE (z := levZ (vI I) k + T) (lo := 0) (hi := vI I 271 k) (by simp (disch := omega) only [z_i8, z_i16, z_of, z_ofN, z_lofN, z_0, z_1, z_m1, z_l0, z_l1, iZ_add, iZ_sub, iZ_mul, iZ_neg, lZ_add, lZ_sub, lZ_mul, lZ_neg, z_div, z_ldiv, z_l, z_i, z_lt, z_le, z_eq, z_llt, z_lle, z_leq, z_cgt, z_cge, z_clt, z_cle, z_ceq, z_cl, z_nat, Int.toNat_natCast, mm_I, mm_J, z_cln, z_abs, z_max, z_min, z_lmax, z_lmin, z_sin, Int.cast_ofNat_Int, uI_I, uI_J, uL_I, uL_J, uA_I, uA_J, sI_eq, sI_ne, sL_eq, sL_ne, up_eq, up_ne, uL_eq, uL_ne, z_toInt, Int.reduceToNat]) rfl (by simp (disch := omega) only [z_i8, z_i16, z_of, z_ofN, z_lofN, z_0, z_1, z_m1, z_l0, z_l1, iZ_add, iZ_sub, iZ_mul, iZ_neg, lZ_add, lZ_sub, lZ_mul, lZ_neg, z_div, z_ldiv, z_l, z_i, z_lt, z_le, z_eq, z_llt, z_lle, z_leq, z_cgt, z_cge, z_clt, z_cle, z_ceq, z_cl, z_nat, Int.toNat_natCast, mm_I, mm_J, z_cln, z_abs, z_max, z_min, z_lmax, z_lmin, z_sin, Int.cast_ofNat_Int, uI_I, uI_J, uL_I, uL_J, uA_I, uA_J, sI_eq, sI_ne, sL_eq, sL_ne, up_eq, up_ne, uL_eq, uL_ne, z_toInt, Int.reduceToNat, g271]) ⟨by omega, by omega⟩ ⟨by omega, by omega⟩ ⟨by omega, by omega⟩ (by omega) ?_))
      refine And.intro hin (q_i hQ ?_)
      rw [e1 rfl]
      simp (disch := omega) only [z_i8, z_i16, z_of, z_ofN, z_lofN, z_0, z_1, z_m1, z_l0, z_l1, iZ_add, iZ_sub, iZ_mul, iZ_neg, lZ_add, lZ_sub, lZ_mul, lZ_neg, z_div, z_ldiv, z_l, z_i, z_lt, z_le, z_eq, z_llt, z_lle, z_leq, z_cgt, z_cge, z_clt, z_cle, z_ceq, z_cl, z_nat, Int.toNat_natCast, mm_I, mm_J, z_cln, z_abs, z_max, z_min, z_lmax, z_lmin, z_sin, Int.cast_ofNat_Int, uI_I, uI_J, uL_I, uL_J, uA_I, uA_J, sI_eq, sI_ne, sL_eq, sL_ne, up_eq, up_ne, uL_eq, uL_ne, z_toInt, Int.reduceToNat, g270]
      rw [Int.add_comm]
    · refine wf (hs := []) 40 88 (by decide) ?_
      refine And.intro rfl (m_levelE rfl (by omega) wP (wt rfl ?_))
      refine And.intro hin (And.intro rfl (m_betweenE (z := levZ (vI I) k - T) (lo := 0) (hi := vI I 271 k) (by simp (disch := omega) only [z_i8, z_i16, z_of, z_ofN, z_lofN, z_0, z_1, z_m1, z_l0, z_l1, iZ_add, iZ_sub, iZ_mul, iZ_neg, lZ_add, lZ_sub, lZ_mul, lZ_neg, z_div, z_ldiv, z_l, z_i, z_lt, z_le, z_eq, z_llt, z_lle, z_leq, z_cgt, z_cge, z_clt, z_cle, z_ceq, z_cl, z_nat, Int.toNat_natCast, mm_I, mm_J, z_cln, z_abs, z_max, z_min, z_lmax, z_lmin, z_sin, Int.cast_ofNat_Int, uI_I, uI_J, uL_I, uL_J, uA_I, uA_J, sI_eq, sI_ne, sL_eq, sL_ne, up_eq, up_ne, uL_eq, uL_ne, z_toInt, Int.reduceToNat]; omega) rfl (by simp (disch := omega) only [z_i8, z_i16, z_of, z_ofN, z_lofN, z_0, z_1, z_m1, z_l0, z_l1, iZ_add, iZ_sub, iZ_mul, iZ_neg, lZ_add, lZ_sub, lZ_mul, lZ_neg, z_div, z_ldiv, z_l, z_i, z_lt, z_le, z_eq, z_llt, z_lle, z_leq, z_cgt, z_cge, z_clt, z_cle, z_ceq, z_cl, z_nat, Int.toNat_natCast, mm_I, mm_J, z_cln, z_abs, z_max, z_min, z_lmax, z_lmin, z_sin, Int.cast_ofNat_Int, uI_I, uI_J, uL_I, uL_J, uA_I, uA_J, sI_eq, sI_ne, sL_eq, sL_ne, up_eq, up_ne, uL_eq, uL_ne, z_toInt, Int.reduceToNat, g271]) ⟨by omega, by omega⟩ ⟨by omega, by omega⟩ ⟨by omega, by omega⟩ (by omega) ?_))
      refine And.intro hin (q_i hQ ?_)
      rw [e0 rfl]
      simp (disch := omega) only [z_i8, z_i16, z_of, z_ofN, z_lofN, z_0, z_1, z_m1, z_l0, z_l1, iZ_add, iZ_sub, iZ_mul, iZ_neg, lZ_add, lZ_sub, lZ_mul, lZ_neg, z_div, z_ldiv, z_l, z_i, z_lt, z_le, z_eq, z_llt, z_lle, z_leq, z_cgt, z_cge, z_clt, z_cle, z_ceq, z_cl, z_nat, Int.toNat_natCast, mm_I, mm_J, z_cln, z_abs, z_max, z_min, z_lmax, z_lmin, z_sin, Int.cast_ofNat_Int, uI_I, uI_J, uL_I, uL_J, uA_I, uA_J, sI_eq, sI_ne, sL_eq, sL_ne, up_eq, up_ne, uL_eq, uL_ne, z_toInt, Int.reduceToNat, g270]
      rw [Int.add_comm]
  have fin2 : ∀ (T : Int), 0 ≤ T ∧ T ≤ 2000 → ¬ vI I 276 k = 0 → ((0 < vI I 266 7 ↔ 0 < s) → insZ (vI I) k s = vI I 270 k + max 0 (min (levZ (vI I) k + T) (vI I 271 k))) → (¬ (0 < vI I 266 7 ↔ 0 < s) → insZ (vI I) k s = vI I 270 k + max 0 (min (levZ (vI I) k - T) (vI I 271 k))) → wp E (d + 1) 181 60 [(0, .ref 265), (1, .int (iZ k)), (2, .int (iZ s)), (3, .int (I 266 7)), (4, .int (iZ T))] [] (mm I J A) Q := by
    intro T hT hne e1 e0
    refine wf (hs := [88]) 40 60 (by decide) ?_
    refine And.intro (fun q => ?_) (fun q => ?_)
    · simp (disch := omega) only [z_i8, z_i16, z_of, z_ofN, z_lofN, z_0, z_1, z_m1, z_l0, z_l1, iZ_add, iZ_sub, iZ_mul, iZ_neg, lZ_add, lZ_sub, lZ_mul, lZ_neg, z_div, z_ldiv, z_l, z_i, z_lt, z_le, z_eq, z_llt, z_lle, z_leq, z_cgt, z_cge, z_clt, z_cle, z_ceq, z_cl, z_nat, Int.toNat_natCast, mm_I, mm_J, z_cln, z_abs, z_max, z_min, z_lmax, z_lmin, z_sin, Int.cast_ofNat_Int, uI_I, uI_J, uL_I, uL_J, uA_I, uA_J, sI_eq, sI_ne, sL_eq, sL_ne, up_eq, up_ne, uL_eq, uL_ne, z_toInt, Int.reduceToNat, g7] at q
      refine And.intro (fun q2 => ?_) (fun q2 => ?_)
      · simp (disch := omega) only [z_i8, z_i16, z_of, z_ofN, z_lofN, z_0, z_1, z_m1, z_l0, z_l1, iZ_add, iZ_sub, iZ_mul, iZ_neg, lZ_add, lZ_sub, lZ_mul, lZ_neg, z_div, z_ldiv, z_l, z_i, z_lt, z_le, z_eq, z_llt, z_lle, z_leq, z_cgt, z_cge, z_clt, z_cle, z_ceq, z_cl, z_nat, Int.toNat_natCast, mm_I, mm_J, z_cln, z_abs, z_max, z_min, z_lmax, z_lmin, z_sin, Int.cast_ofNat_Int, uI_I, uI_J, uL_I, uL_J, uA_I, uA_J, sI_eq, sI_ne, sL_eq, sL_ne, up_eq, up_ne, uL_eq, uL_ne, z_toInt, Int.reduceToNat] at q2
        refine wt rfl ?_
        refine wp_keys [0, 1, 2, 3, 4, 5] rfl rfl ?_
        exact fin _ T hT (Or.inl rfl) hne (fun _ => e1 (by omega)) (fun h => absurd h (by decide))
      · simp (disch := omega) only [z_i8, z_i16, z_of, z_ofN, z_lofN, z_0, z_1, z_m1, z_l0, z_l1, iZ_add, iZ_sub, iZ_mul, iZ_neg, lZ_add, lZ_sub, lZ_mul, lZ_neg, z_div, z_ldiv, z_l, z_i, z_lt, z_le, z_eq, z_llt, z_lle, z_leq, z_cgt, z_cge, z_clt, z_cle, z_ceq, z_cl, z_nat, Int.toNat_natCast, mm_I, mm_J, z_cln, z_abs, z_max, z_min, z_lmax, z_lmin, z_sin, Int.cast_ofNat_Int, uI_I, uI_J, uL_I, uL_J, uA_I, uA_J, sI_eq, sI_ne, sL_eq, sL_ne, up_eq, up_ne, uL_eq, uL_ne, z_toInt, Int.reduceToNat] at q2
        refine wF (by decide) ?_
        refine wp_keys [0, 1, 2, 3, 4, 5] rfl rfl ?_
        exact fin _ T hT (Or.inr rfl) hne (fun h => absurd h (by decide)) (fun _ => e0 (by omega))
    · simp (disch := omega) only [z_i8, z_i16, z_of, z_ofN, z_lofN, z_0, z_1, z_m1, z_l0, z_l1, iZ_add, iZ_sub, iZ_mul, iZ_neg, lZ_add, lZ_sub, lZ_mul, lZ_neg, z_div, z_ldiv, z_l, z_i, z_lt, z_le, z_eq, z_llt, z_lle, z_leq, z_cgt, z_cge, z_clt, z_cle, z_ceq, z_cl, z_nat, Int.toNat_natCast, mm_I, mm_J, z_cln, z_abs, z_max, z_min, z_lmax, z_lmin, z_sin, Int.cast_ofNat_Int, uI_I, uI_J, uL_I, uL_J, uA_I, uA_J, sI_eq, sI_ne, sL_eq, sL_ne, up_eq, up_ne, uL_eq, uL_ne, z_toInt, Int.reduceToNat, g7] at q
      refine And.intro (fun q2 => ?_) (fun q2 => ?_)
      · simp (disch := omega) only [z_i8, z_i16, z_of, z_ofN, z_lofN, z_0, z_1, z_m1, z_l0, z_l1, iZ_add, iZ_sub, iZ_mul, iZ_neg, lZ_add, lZ_sub, lZ_mul, lZ_neg, z_div, z_ldiv, z_l, z_i, z_lt, z_le, z_eq, z_llt, z_lle, z_leq, z_cgt, z_cge, z_clt, z_cle, z_ceq, z_cl, z_nat, Int.toNat_natCast, mm_I, mm_J, z_cln, z_abs, z_max, z_min, z_lmax, z_lmin, z_sin, Int.cast_ofNat_Int, uI_I, uI_J, uL_I, uL_J, uA_I, uA_J, sI_eq, sI_ne, sL_eq, sL_ne, up_eq, up_ne, uL_eq, uL_ne, z_toInt, Int.reduceToNat] at q2
        refine wF (by decide) ?_
        refine wp_keys [0, 1, 2, 3, 4, 5] rfl rfl ?_
        exact fin _ T hT (Or.inr rfl) hne (fun h => absurd h (by decide)) (fun _ => e0 (by omega))
      · simp (disch := omega) only [z_i8, z_i16, z_of, z_ofN, z_lofN, z_0, z_1, z_m1, z_l0, z_l1, iZ_add, iZ_sub, iZ_mul, iZ_neg, lZ_add, lZ_sub, lZ_mul, lZ_neg, z_div, z_ldiv, z_l, z_i, z_lt, z_le, z_eq, z_llt, z_lle, z_leq, z_cgt, z_cge, z_clt, z_cle, z_ceq, z_cl, z_nat, Int.toNat_natCast, mm_I, mm_J, z_cln, z_abs, z_max, z_min, z_lmax, z_lmin, z_sin, Int.cast_ofNat_Int, uI_I, uI_J, uL_I, uL_J, uA_I, uA_J, sI_eq, sI_ne, sL_eq, sL_ne, up_eq, up_ne, uL_eq, uL_ne, z_toInt, Int.reduceToNat] at q2
        refine wt rfl ?_
        refine wp_keys [0, 1, 2, 3, 4, 5] rfl rfl ?_
        exact fin _ T hT (Or.inl rfl) hne (fun _ => e1 (by omega)) (fun h => absurd h (by decide))
  have g276 := gg 276
  refine wc (hs := [60]) 60 (by decide) ?_
  refine And.intro hin (And.intro (fun q => ?_) (fun q => ?_))
  · simp (disch := omega) only [z_i8, z_i16, z_of, z_ofN, z_lofN, z_0, z_1, z_m1, z_l0, z_l1, iZ_add, iZ_sub, iZ_mul, iZ_neg, lZ_add, lZ_sub, lZ_mul, lZ_neg, z_div, z_ldiv, z_l, z_i, z_lt, z_le, z_eq, z_llt, z_lle, z_leq, z_cgt, z_cge, z_clt, z_cle, z_ceq, z_cl, z_nat, Int.toNat_natCast, mm_I, mm_J, z_cln, z_abs, z_max, z_min, z_lmax, z_lmin, z_sin, Int.cast_ofNat_Int, uI_I, uI_J, uL_I, uL_J, uA_I, uA_J, sI_eq, sI_ne, sL_eq, sL_ne, up_eq, up_ne, uL_eq, uL_ne, z_toInt, Int.reduceToNat, g276] at q
    refine q_i hQ ?_
    unfold insZ
    rw [if_pos q]; rfl
  · simp (disch := omega) only [z_i8, z_i16, z_of, z_ofN, z_lofN, z_0, z_1, z_m1, z_l0, z_l1, iZ_add, iZ_sub, iZ_mul, iZ_neg, lZ_add, lZ_sub, lZ_mul, lZ_neg, z_div, z_ldiv, z_l, z_i, z_lt, z_le, z_eq, z_llt, z_lle, z_leq, z_cgt, z_cge, z_clt, z_cle, z_ceq, z_cl, z_nat, Int.toNat_natCast, mm_I, mm_J, z_cln, z_abs, z_max, z_min, z_lmax, z_lmin, z_sin, Int.cast_ofNat_Int, uI_I, uI_J, uL_I, uL_J, uA_I, uA_J, sI_eq, sI_ne, sL_eq, sL_ne, up_eq, up_ne, uL_eq, uL_ne, z_toInt, Int.reduceToNat, g276] at q
    refine And.intro (inL (by decide)) ?_
    have i0 : s = 0 → insZ (vI I) k s = vI I 270 k + max 0 (min (levZ (vI I) k) (vI I 271 k)) := fun h => by
      unfold insZ
      rw [if_neg q, if_pos h]
    have i1 : ¬ s = 0 → (0 < vI I 266 7 ↔ 0 < s) → insZ (vI I) k s = vI I 270 k + max 0 (min (levZ (vI I) k + tltZ (vI I) k) (vI I 271 k)) := fun h h2 => by
      unfold insZ
      rw [if_neg q, if_neg h, if_pos h2]
    have i2 : ¬ s = 0 → ¬ (0 < vI I 266 7 ↔ 0 < s) → insZ (vI I) k s = vI I 270 k + max 0 (min (levZ (vI I) k - tltZ (vI I) k) (vI I 271 k)) := fun h h2 => by
      unfold insZ
      rw [if_neg q, if_neg h, if_neg h2]
    have zero : (s = 0 ∨ vI I 266 7 = 0) → wp E (d + 1) 181 60 [(0, .ref 265), (1, .int (iZ k)), (2, .int (iZ s)), (3, .int (I 266 7)), (4, .int (iZ 0))] [] (mm I J A) Q := by
      intro h
      refine fin2 0 ⟨by omega, by omega⟩ q (fun h1 => ?_) (fun h1 => ?_)
      · by_cases hs0 : s = 0
        · rw [i0 hs0, Int.add_zero]
        · rw [i1 hs0 h1, tlt0 (by omega)]
      · by_cases hs0 : s = 0
        · rw [i0 hs0, Int.sub_zero]
        · rw [i2 hs0 h1, tlt0 (by omega)]
    refine And.intro (fun q2 => ?_) (fun q2 => ?_)
    · simp (disch := omega) only [z_i8, z_i16, z_of, z_ofN, z_lofN, z_0, z_1, z_m1, z_l0, z_l1, iZ_add, iZ_sub, iZ_mul, iZ_neg, lZ_add, lZ_sub, lZ_mul, lZ_neg, z_div, z_ldiv, z_l, z_i, z_lt, z_le, z_eq, z_llt, z_lle, z_leq, z_cgt, z_cge, z_clt, z_cle, z_ceq, z_cl, z_nat, Int.toNat_natCast, mm_I, mm_J, z_cln, z_abs, z_max, z_min, z_lmax, z_lmin, z_sin, Int.cast_ofNat_Int, uI_I, uI_J, uL_I, uL_J, uA_I, uA_J, sI_eq, sI_ne, sL_eq, sL_ne, up_eq, up_ne, uL_eq, uL_ne, z_toInt, Int.reduceToNat] at q2
      refine wp_keys [0, 1, 2, 3, 4] rfl rfl ?_
      exact zero (Or.inl q2)
    · simp (disch := omega) only [z_i8, z_i16, z_of, z_ofN, z_lofN, z_0, z_1, z_m1, z_l0, z_l1, iZ_add, iZ_sub, iZ_mul, iZ_neg, lZ_add, lZ_sub, lZ_mul, lZ_neg, z_div, z_ldiv, z_l, z_i, z_lt, z_le, z_eq, z_llt, z_lle, z_leq, z_cgt, z_cge, z_clt, z_cle, z_ceq, z_cl, z_nat, Int.toNat_natCast, mm_I, mm_J, z_cln, z_abs, z_max, z_min, z_lmax, z_lmin, z_sin, Int.cast_ofNat_Int, uI_I, uI_J, uL_I, uL_J, uA_I, uA_J, sI_eq, sI_ne, sL_eq, sL_ne, up_eq, up_ne, uL_eq, uL_ne, z_toInt, Int.reduceToNat] at q2
      refine And.intro (fun q3 => ?_) (fun q3 => ?_)
      · simp (disch := omega) only [z_i8, z_i16, z_of, z_ofN, z_lofN, z_0, z_1, z_m1, z_l0, z_l1, iZ_add, iZ_sub, iZ_mul, iZ_neg, lZ_add, lZ_sub, lZ_mul, lZ_neg, z_div, z_ldiv, z_l, z_i, z_lt, z_le, z_eq, z_llt, z_lle, z_leq, z_cgt, z_cge, z_clt, z_cle, z_ceq, z_cl, z_nat, Int.toNat_natCast, mm_I, mm_J, z_cln, z_abs, z_max, z_min, z_lmax, z_lmin, z_sin, Int.cast_ofNat_Int, uI_I, uI_J, uL_I, uL_J, uA_I, uA_J, sI_eq, sI_ne, sL_eq, sL_ne, up_eq, up_ne, uL_eq, uL_ne, z_toInt, Int.reduceToNat, g7] at q3
        refine wp_keys [0, 1, 2, 3, 4] rfl rfl ?_
        exact zero (Or.inr q3)
      · simp (disch := omega) only [z_i8, z_i16, z_of, z_ofN, z_lofN, z_0, z_1, z_m1, z_l0, z_l1, iZ_add, iZ_sub, iZ_mul, iZ_neg, lZ_add, lZ_sub, lZ_mul, lZ_neg, z_div, z_ldiv, z_l, z_i, z_lt, z_le, z_eq, z_llt, z_lle, z_leq, z_cgt, z_cge, z_clt, z_cle, z_ceq, z_cl, z_nat, Int.toNat_natCast, mm_I, mm_J, z_cln, z_abs, z_max, z_min, z_lmax, z_lmin, z_sin, Int.cast_ofNat_Int, uI_I, uI_J, uL_I, uL_J, uA_I, uA_J, sI_eq, sI_ne, sL_eq, sL_ne, up_eq, up_ne, uL_eq, uL_ne, z_toInt, Int.reduceToNat, g7] at q3
        have g272 := gg 272
        have g274 := gg 274
        refine And.intro hin (And.intro hin (And.intro ?_ ?_))
        · simp (disch := omega) only [z_i8, z_i16, z_of, z_ofN, z_lofN, z_0, z_1, z_m1, z_l0, z_l1, iZ_add, iZ_sub, iZ_mul, iZ_neg, lZ_add, lZ_sub, lZ_mul, lZ_neg, z_div, z_ldiv, z_l, z_i, z_lt, z_le, z_eq, z_llt, z_lle, z_leq, z_cgt, z_cge, z_clt, z_cle, z_ceq, z_cl, z_nat, Int.toNat_natCast, mm_I, mm_J, z_cln, z_abs, z_max, z_min, z_lmax, z_lmin, z_sin, Int.cast_ofNat_Int, uI_I, uI_J, uL_I, uL_J, uA_I, uA_J, sI_eq, sI_ne, sL_eq, sL_ne, up_eq, up_ne, uL_eq, uL_ne, z_toInt, Int.reduceToNat, g274]; omega
        refine And.intro rfl (m_withoutE (z := vI I 266 7) g7 ⟨by omega, by omega⟩ ?_)
        refine And.intro rfl (m_sineE rfl (by omega) (by omega) (And.intro (by decide) ?_))
        refine wp_keys [0, 1, 2, 3, 4] rfl rfl ?_
        have eT : I 272 (iZ (k : Int)).toNatClampNeg * iZ 5 / I 274 (iZ (k : Int)).toNatClampNeg * iZ (sinZ ((vI I 266 7).natAbs)) / iZ 1000 = iZ (tltZ (vI I) k) := by
          simp (disch := omega) only [z_i8, z_i16, z_of, z_ofN, z_lofN, z_0, z_1, z_m1, z_l0, z_l1, iZ_add, iZ_sub, iZ_mul, iZ_neg, lZ_add, lZ_sub, lZ_mul, lZ_neg, z_div, z_ldiv, z_l, z_i, z_lt, z_le, z_eq, z_llt, z_lle, z_leq, z_cgt, z_cge, z_clt, z_cle, z_ceq, z_cl, z_nat, Int.toNat_natCast, mm_I, mm_J, z_cln, z_abs, z_max, z_min, z_lmax, z_lmin, z_sin, Int.cast_ofNat_Int, uI_I, uI_J, uL_I, uL_J, uA_I, uA_J, sI_eq, sI_ne, sL_eq, sL_ne, up_eq, up_ne, uL_eq, uL_ne, z_toInt, Int.reduceToNat, g272, g274]
          rfl
        have := fin2 (tltZ (vI I) k) tb.2.2 q (i1 q2) (i2 q2)
        rw [← eT] at this
        exact this
set_option maxHeartbeats 4000000 in
theorem m_outsideAt {s : Int} {y : Int32} (hW : Wf (vI I)) (h25 : vI I 265 25 = 0) (hs : -1 ≤ s ∧ s ≤ 1) (ey : y = iZ s) (hQ : Q (some (.int (iZ (outZ (vI I) (vI I 266 7) s)))) (mm I J A)) : wpC E (d + 2) 182 [.ref 265, .int y] (mm I J A) Q := by
  have l := hW.1.2.2.2.2.2.2.1
  have ot := outT hW l
  have p := hW.1.2.2.2.2.2.1
  have b1 := hW.1.1
  have db := drB hW
  have sr := sinR (z := ((vI I 266 7).natAbs : Int)) (by omega) (by omega)
  have g7 : I 266 7 = iZ (vI I 266 7) := vI_eq I 266 7
  have g6 : I 266 6 = iZ (vI I 266 6) := vI_eq I 266 6
  have g1 : I 266 1 = iZ (vI I 266 1) := vI_eq I 266 1
  have dr : ∀ Q' : Option Value → am_M → Prop, Q' (some (.int (iZ (drZ (vI I))))) (mm I J A) → wpC E (d + 1) 162 [.ref 265] (mm I J A) Q' := fun Q' h => m_draft hW (by omega) (by rw [h25]; exact h)
  subst ey
  have eT : I 266 1 * iZ 5 * iZ (sinZ ((vI I 266 7).natAbs)) / iZ 1000 = iZ (vI I 266 1 * 5 * sinZ ((vI I 266 7).natAbs) / 1000) := by
    simp (disch := omega) only [z_i8, z_i16, z_of, z_ofN, z_lofN, z_0, z_1, z_m1, z_l0, z_l1, iZ_add, iZ_sub, iZ_mul, iZ_neg, lZ_add, lZ_sub, lZ_mul, lZ_neg, z_div, z_ldiv, z_l, z_i, z_lt, z_le, z_eq, z_llt, z_lle, z_leq, z_cgt, z_cge, z_clt, z_cle, z_ceq, z_cl, z_nat, Int.toNat_natCast, mm_I, mm_J, z_cln, z_abs, z_max, z_min, z_lmax, z_lmin, z_sin, Int.cast_ofNat_Int, uI_I, uI_J, uL_I, uL_J, uA_I, uA_J, sI_eq, sI_ne, sL_eq, sL_ne, up_eq, up_ne, uL_eq, uL_ne, z_toInt, Int.reduceToNat, g1]
  refine wc (hs := []) 60 (by decide) ?_
  refine And.intro (inL (by decide)) (And.intro (fun q => ?_) (fun q => ?_))
  · simp (disch := omega) only [z_i8, z_i16, z_of, z_ofN, z_lofN, z_0, z_1, z_m1, z_l0, z_l1, iZ_add, iZ_sub, iZ_mul, iZ_neg, lZ_add, lZ_sub, lZ_mul, lZ_neg, z_div, z_ldiv, z_l, z_i, z_lt, z_le, z_eq, z_llt, z_lle, z_leq, z_cgt, z_cge, z_clt, z_cle, z_ceq, z_cl, z_nat, Int.toNat_natCast, mm_I, mm_J, z_cln, z_abs, z_max, z_min, z_lmax, z_lmin, z_sin, Int.cast_ofNat_Int, uI_I, uI_J, uL_I, uL_J, uA_I, uA_J, sI_eq, sI_ne, sL_eq, sL_ne, up_eq, up_ne, uL_eq, uL_ne, z_toInt, Int.reduceToNat] at q
    refine And.intro rfl (dr _ ?_)
    refine And.intro (inL (by decide)) (And.intro (inL (by decide)) (And.intro (by decide) (q_i hQ ?_)))
    unfold outZ
    rw [if_pos q]
    simp (disch := omega) only [z_i8, z_i16, z_of, z_ofN, z_lofN, z_0, z_1, z_m1, z_l0, z_l1, iZ_add, iZ_sub, iZ_mul, iZ_neg, lZ_add, lZ_sub, lZ_mul, lZ_neg, z_div, z_ldiv, z_l, z_i, z_lt, z_le, z_eq, z_llt, z_lle, z_leq, z_cgt, z_cge, z_clt, z_cle, z_ceq, z_cl, z_nat, Int.toNat_natCast, mm_I, mm_J, z_cln, z_abs, z_max, z_min, z_lmax, z_lmin, z_sin, Int.cast_ofNat_Int, uI_I, uI_J, uL_I, uL_J, uA_I, uA_J, sI_eq, sI_ne, sL_eq, sL_ne, up_eq, up_ne, uL_eq, uL_ne, z_toInt, Int.reduceToNat, g6]
  · simp (disch := omega) only [z_i8, z_i16, z_of, z_ofN, z_lofN, z_0, z_1, z_m1, z_l0, z_l1, iZ_add, iZ_sub, iZ_mul, iZ_neg, lZ_add, lZ_sub, lZ_mul, lZ_neg, z_div, z_ldiv, z_l, z_i, z_lt, z_le, z_eq, z_llt, z_lle, z_leq, z_cgt, z_cge, z_clt, z_cle, z_ceq, z_cl, z_nat, Int.toNat_natCast, mm_I, mm_J, z_cln, z_abs, z_max, z_min, z_lmax, z_lmin, z_sin, Int.cast_ofNat_Int, uI_I, uI_J, uL_I, uL_J, uA_I, uA_J, sI_eq, sI_ne, sL_eq, sL_ne, up_eq, up_ne, uL_eq, uL_ne, z_toInt, Int.reduceToNat] at q
    refine And.intro (inL (by decide)) ?_
    refine And.intro rfl (m_withoutE (z := vI I 266 7) g7 ⟨by omega, by omega⟩ ?_)
    refine And.intro rfl (m_sineE rfl (by omega) (by omega) (And.intro (by decide) ?_))
    have o1 : (0 < vI I 266 7 ↔ 0 < s) → outZ (vI I) (vI I 266 7) s = drZ (vI I) + vI I 266 1 * 5 * sinZ ((vI I 266 7).natAbs) / 1000 := fun h => by
      unfold outZ
      rw [if_neg q, if_pos h]
    have o2 : ¬ (0 < vI I 266 7 ↔ 0 < s) → outZ (vI I) (vI I 266 7) s = drZ (vI I) - vI I 266 1 * 5 * sinZ ((vI I 266 7).natAbs) / 1000 := fun h => by
      unfold outZ
      rw [if_neg q, if_neg h]
    refine And.intro (fun q1 => ?_) (fun q1 => ?_)
    · simp (disch := omega) only [z_i8, z_i16, z_of, z_ofN, z_lofN, z_0, z_1, z_m1, z_l0, z_l1, iZ_add, iZ_sub, iZ_mul, iZ_neg, lZ_add, lZ_sub, lZ_mul, lZ_neg, z_div, z_ldiv, z_l, z_i, z_lt, z_le, z_eq, z_llt, z_lle, z_leq, z_cgt, z_cge, z_clt, z_cle, z_ceq, z_cl, z_nat, Int.toNat_natCast, mm_I, mm_J, z_cln, z_abs, z_max, z_min, z_lmax, z_lmin, z_sin, Int.cast_ofNat_Int, uI_I, uI_J, uL_I, uL_J, uA_I, uA_J, sI_eq, sI_ne, sL_eq, sL_ne, up_eq, up_ne, uL_eq, uL_ne, z_toInt, Int.reduceToNat, g7] at q1
      refine And.intro (fun q2 => ?_) (fun q2 => ?_)
      · simp (disch := omega) only [z_i8, z_i16, z_of, z_ofN, z_lofN, z_0, z_1, z_m1, z_l0, z_l1, iZ_add, iZ_sub, iZ_mul, iZ_neg, lZ_add, lZ_sub, lZ_mul, lZ_neg, z_div, z_ldiv, z_l, z_i, z_lt, z_le, z_eq, z_llt, z_lle, z_leq, z_cgt, z_cge, z_clt, z_cle, z_ceq, z_cl, z_nat, Int.toNat_natCast, mm_I, mm_J, z_cln, z_abs, z_max, z_min, z_lmax, z_lmin, z_sin, Int.cast_ofNat_Int, uI_I, uI_J, uL_I, uL_J, uA_I, uA_J, sI_eq, sI_ne, sL_eq, sL_ne, up_eq, up_ne, uL_eq, uL_ne, z_toInt, Int.reduceToNat] at q2
        refine wt rfl (And.intro rfl (dr _ (q_i hQ ?_)))
        rw [o1 (by omega), ← iZ_add, ← eT]; rfl
      · simp (disch := omega) only [z_i8, z_i16, z_of, z_ofN, z_lofN, z_0, z_1, z_m1, z_l0, z_l1, iZ_add, iZ_sub, iZ_mul, iZ_neg, lZ_add, lZ_sub, lZ_mul, lZ_neg, z_div, z_ldiv, z_l, z_i, z_lt, z_le, z_eq, z_llt, z_lle, z_leq, z_cgt, z_cge, z_clt, z_cle, z_ceq, z_cl, z_nat, Int.toNat_natCast, mm_I, mm_J, z_cln, z_abs, z_max, z_min, z_lmax, z_lmin, z_sin, Int.cast_ofNat_Int, uI_I, uI_J, uL_I, uL_J, uA_I, uA_J, sI_eq, sI_ne, sL_eq, sL_ne, up_eq, up_ne, uL_eq, uL_ne, z_toInt, Int.reduceToNat] at q2
        refine wF (by decide) (And.intro rfl (dr _ (q_i hQ ?_)))
        rw [o2 (by omega), ← iZ_sub, ← eT]; rfl
    · simp (disch := omega) only [z_i8, z_i16, z_of, z_ofN, z_lofN, z_0, z_1, z_m1, z_l0, z_l1, iZ_add, iZ_sub, iZ_mul, iZ_neg, lZ_add, lZ_sub, lZ_mul, lZ_neg, z_div, z_ldiv, z_l, z_i, z_lt, z_le, z_eq, z_llt, z_lle, z_leq, z_cgt, z_cge, z_clt, z_cle, z_ceq, z_cl, z_nat, Int.toNat_natCast, mm_I, mm_J, z_cln, z_abs, z_max, z_min, z_lmax, z_lmin, z_sin, Int.cast_ofNat_Int, uI_I, uI_J, uL_I, uL_J, uA_I, uA_J, sI_eq, sI_ne, sL_eq, sL_ne, up_eq, up_ne, uL_eq, uL_ne, z_toInt, Int.reduceToNat, g7] at q1
      refine And.intro (fun q2 => ?_) (fun q2 => ?_)
      · simp (disch := omega) only [z_i8, z_i16, z_of, z_ofN, z_lofN, z_0, z_1, z_m1, z_l0, z_l1, iZ_add, iZ_sub, iZ_mul, iZ_neg, lZ_add, lZ_sub, lZ_mul, lZ_neg, z_div, z_ldiv, z_l, z_i, z_lt, z_le, z_eq, z_llt, z_lle, z_leq, z_cgt, z_cge, z_clt, z_cle, z_ceq, z_cl, z_nat, Int.toNat_natCast, mm_I, mm_J, z_cln, z_abs, z_max, z_min, z_lmax, z_lmin, z_sin, Int.cast_ofNat_Int, uI_I, uI_J, uL_I, uL_J, uA_I, uA_J, sI_eq, sI_ne, sL_eq, sL_ne, up_eq, up_ne, uL_eq, uL_ne, z_toInt, Int.reduceToNat] at q2
        refine wF (by decide) (And.intro rfl (dr _ (q_i hQ ?_)))
        rw [o2 (by omega), ← iZ_sub, ← eT]; rfl
      · simp (disch := omega) only [z_i8, z_i16, z_of, z_ofN, z_lofN, z_0, z_1, z_m1, z_l0, z_l1, iZ_add, iZ_sub, iZ_mul, iZ_neg, lZ_add, lZ_sub, lZ_mul, lZ_neg, z_div, z_ldiv, z_l, z_i, z_lt, z_le, z_eq, z_llt, z_lle, z_leq, z_cgt, z_cge, z_clt, z_cle, z_ceq, z_cl, z_nat, Int.toNat_natCast, mm_I, mm_J, z_cln, z_abs, z_max, z_min, z_lmax, z_lmin, z_sin, Int.cast_ofNat_Int, uI_I, uI_J, uL_I, uL_J, uA_I, uA_J, sI_eq, sI_ne, sL_eq, sL_ne, up_eq, up_ne, uL_eq, uL_ne, z_toInt, Int.reduceToNat] at q2
        refine wt rfl (And.intro rfl (dr _ (q_i hQ ?_)))
        rw [o1 (by omega), ← iZ_add, ← eT]; rfl
theorem m_pours {k : Nat} {n : Int} {x y : Int32} (hW : Wf (vI I)) (hk : k < nP (vI I)) (hn : -100000000 ≤ n ∧ n ≤ 100000000) (ex : x = iZ k) (ey : y = iZ n) (hQ : ∀ I', vI I' = porZ (vI I) k n → Q none (mm I' J A)) : wpC E (d + 1) 218 [.ref 265, .int x, .int y] (mm I J A) Q := by
  have h12 := nP12 hW
  have hin : vp_in (iZ (k : Int)) 12 := z_in (by omega) (by omega) (by omega)
  have w := hW.2.2.1 k hk
  have cb := (capB w).2.2
  have w6 := w.2.2.2.2.2.2
  have hcl : (iZ (k : Int)).toNatClampNeg = k := z_cln (by omega)
  have gg : ∀ a, I a k = iZ (vI I a k) := fun a => vI_eq I a k
  have g276 := gg 276
  have g9 := I_nP hW.1
  subst ex; subst ey
  refine wc (hs := []) 40 (by decide) ?_
  refine And.intro (inL (by decide)) (wF (by ((try simp (disch := omega) only [z_i8, z_i16, z_of, z_ofN, z_lofN, z_0, z_1, z_m1, z_l0, z_l1, iZ_add, iZ_sub, iZ_mul, iZ_neg, lZ_add, lZ_sub, lZ_mul, lZ_neg, z_div, z_ldiv, z_l, z_i, z_lt, z_le, z_eq, z_llt, z_lle, z_leq, z_cgt, z_cge, z_clt, z_cle, z_ceq, z_cl, z_nat, Int.toNat_natCast, mm_I, mm_J, z_cln, z_abs, z_max, z_min, z_lmax, z_lmin, z_sin, Int.cast_ofNat_Int, uI_I, uI_J, uL_I, uL_J, uA_I, uA_J, sI_eq, sI_ne, sL_eq, sL_ne, up_eq, up_ne, uL_eq, uL_ne, z_toInt, Int.reduceToNat, g9]) <;> omega)) ?_)
  refine And.intro hin (And.intro rfl (m_capE rfl (by omega) w ?_))
  refine And.intro rfl (m_betweenE (z := vI I 276 k + n) (lo := 0) (hi := capZ (vI I) k) (by simp (disch := omega) only [z_i8, z_i16, z_of, z_ofN, z_lofN, z_0, z_1, z_m1, z_l0, z_l1, iZ_add, iZ_sub, iZ_mul, iZ_neg, lZ_add, lZ_sub, lZ_mul, lZ_neg, z_div, z_ldiv, z_l, z_i, z_lt, z_le, z_eq, z_llt, z_lle, z_leq, z_cgt, z_cge, z_clt, z_cle, z_ceq, z_cl, z_nat, Int.toNat_natCast, mm_I, mm_J, z_cln, z_abs, z_max, z_min, z_lmax, z_lmin, z_sin, Int.cast_ofNat_Int, uI_I, uI_J, uL_I, uL_J, uA_I, uA_J, sI_eq, sI_ne, sL_eq, sL_ne, up_eq, up_ne, uL_eq, uL_ne, z_toInt, Int.reduceToNat, g276]) rfl (by simp (disch := omega) only [z_i8, z_i16, z_of, z_ofN, z_lofN, z_0, z_1, z_m1, z_l0, z_l1, iZ_add, iZ_sub, iZ_mul, iZ_neg, lZ_add, lZ_sub, lZ_mul, lZ_neg, z_div, z_ldiv, z_l, z_i, z_lt, z_le, z_eq, z_llt, z_lle, z_leq, z_cgt, z_cge, z_clt, z_cle, z_ceq, z_cl, z_nat, Int.toNat_natCast, mm_I, mm_J, z_cln, z_abs, z_max, z_min, z_lmax, z_lmin, z_sin, Int.cast_ofNat_Int, uI_I, uI_J, uL_I, uL_J, uA_I, uA_J, sI_eq, sI_ne, sL_eq, sL_ne, up_eq, up_ne, uL_eq, uL_ne, z_toInt, Int.reduceToNat]) ⟨by omega, by omega⟩ ⟨by omega, by omega⟩ ⟨by omega, by omega⟩ (by omega) ?_)
  refine And.intro hin ?_
  refine hQ (setI I 276 (iZ (k : Int)).toNatClampNeg (lZ (max 0 (min (vI I 276 k + n) (capZ (vI I) k)))).toInt32) ?_
  rw [hcl]
  exact vI_setZ (by simp (disch := omega) only [z_i8, z_i16, z_of, z_ofN, z_lofN, z_0, z_1, z_m1, z_l0, z_l1, iZ_add, iZ_sub, iZ_mul, iZ_neg, lZ_add, lZ_sub, lZ_mul, lZ_neg, z_div, z_ldiv, z_l, z_i, z_lt, z_le, z_eq, z_llt, z_lle, z_leq, z_cgt, z_cge, z_clt, z_cle, z_ceq, z_cl, z_nat, Int.toNat_natCast, mm_I, mm_J, z_cln, z_abs, z_max, z_min, z_lmax, z_lmin, z_sin, Int.cast_ofNat_Int, uI_I, uI_J, uL_I, uL_J, uA_I, uA_J, sI_eq, sI_ne, sL_eq, sL_ne, up_eq, up_ne, uL_eq, uL_ne, z_toInt, Int.reduceToNat]) (by omega) (by omega)
theorem m_poursNo {k : Nat} {x y : Int32} (hW : Wf (vI I)) (hk : nP (vI I) ≤ k) (hk2 : k < 1000) (ex : x = iZ k) (hQ : Q none (mm I J A)) : wpC E d 218 [.ref 265, .int x, .int y] (mm I J A) Q := by
  have g9 := I_nP hW.1
  have h12 := nP12 hW
  subst ex
  refine wc (hs := []) 40 (by decide) ?_
  exact And.intro (inL (by decide)) (wt (by ((try simp (disch := omega) only [z_i8, z_i16, z_of, z_ofN, z_lofN, z_0, z_1, z_m1, z_l0, z_l1, iZ_add, iZ_sub, iZ_mul, iZ_neg, lZ_add, lZ_sub, lZ_mul, lZ_neg, z_div, z_ldiv, z_l, z_i, z_lt, z_le, z_eq, z_llt, z_lle, z_leq, z_cgt, z_cge, z_clt, z_cle, z_ceq, z_cl, z_nat, Int.toNat_natCast, mm_I, mm_J, z_cln, z_abs, z_max, z_min, z_lmax, z_lmin, z_sin, Int.cast_ofNat_Int, uI_I, uI_J, uL_I, uL_J, uA_I, uA_J, sI_eq, sI_ne, sL_eq, sL_ne, up_eq, up_ne, uL_eq, uL_ne, z_toInt, Int.reduceToNat, g9]) <;> omega)) hQ)
set_option maxHeartbeats 4000000 in
theorem m_crosses {a c : Nat} {m : Int} {x y z : Int32} (hW : Wf (vI I)) (ha : a < 12) (hc : c < 12) (hm : 0 ≤ m ∧ m ≤ 100000000) (ex : x = iZ a) (ey : y = iZ c) (ez : z = iZ m) (h1 : a < nP (vI I) ∧ c < nP (vI I) ∧ ¬ c = a → ∀ I', vI I' = crsV (vI I) a c m → Q none (mm I' J A)) (h0 : ¬ (a < nP (vI I) ∧ c < nP (vI I) ∧ ¬ c = a) → Q none (mm I J A)) : wpC E (d + 1) 219 [.ref 265, .int x, .int y, .int z] (mm I J A) Q := by
  have h12 := nP12 hW
  have g9 := I_nP hW.1
  have hina : vp_in (iZ (a : Int)) 12 := z_in (by omega) (by omega) (by omega)
  have hinc : vp_in (iZ (c : Int)) 12 := z_in (by omega) (by omega) (by omega)
  have cla : (iZ (a : Int)).toNatClampNeg = a := z_cln (by omega)
  have clc : (iZ (c : Int)).toNatClampNeg = c := z_cln (by omega)
  have ga : I 276 a = iZ (vI I 276 a) := vI_eq I 276 a
  have gc : I 276 c = iZ (vI I 276 c) := vI_eq I 276 c
  subst ex; subst ey; subst ez
  have tail : a < nP (vI I) → c < nP (vI I) → ¬ c = a → ∀ x4, x4 = iZ (crsZ (vI I) a c m) → wp E (d + 1) 219 86 [(0, .ref 265), (1, .int (iZ a)), (2, .int (iZ c)), (4, .int x4)] [] (mm I J A) Q := by
    intro q1 q2 q3 x4 e4
    have wa := hW.2.2.1 a q1
    have cba := (capB wa).2.2
    have wa6 := wa.2.2.2.2.2.2
    have wc' := hW.2.2.1 c q2
    have cbc := (capB wc').2.2
    have wc6 := wc'.2.2.2.2.2.2
    have r := crs_rng hW q1 q2 hm.1
    subst e4
    refine wf (hs := []) 40 86 (by decide) ?_
    refine And.intro hina (And.intro hina (And.intro hinc (And.intro hinc ?_)))
    refine h1 ⟨q1, q2, q3⟩ (setI (setI I 276 (iZ (a : Int)).toNatClampNeg (I 276 (iZ (a : Int)).toNatClampNeg - iZ (crsZ (vI I) a c m))) 276 (iZ (c : Int)).toNatClampNeg (setI I 276 (iZ (a : Int)).toNatClampNeg (I 276 (iZ (a : Int)).toNatClampNeg - iZ (crsZ (vI I) a c m)) 276 (iZ (c : Int)).toNatClampNeg + iZ (crsZ (vI I) a c m))) ?_
    have e1 : vI (setI I 276 a (I 276 a - iZ (crsZ (vI I) a c m))) = vset (vI I) 276 a (vI I 276 a - crsZ (vI I) a c m) := vI_setZ (by rw [vI_eq I 276 a]; exact iZ_sub _ _) (by omega) (by omega)
    rw [cla, clc]
    unfold crsV
    rw [← e1]
    refine vI_setZ ?_ (by omega) (by omega)
    rw [setI_at, if_neg (by omega), vI_eq I 276 c, iZ_add]
  have S50 : a < nP (vI I) → c < nP (vI I) → ¬ c = a → ∀ x4, x4 = iZ (min (vI I 276 a) m) → wp E (d + 1) 219 50 [(0, .ref 265), (1, .int (iZ a)), (2, .int (iZ c)), (3, .int (iZ m)), (4, .int x4)] [] (mm I J A) Q := by
    intro q1 q2 q3 x4 e4
    have wa := hW.2.2.1 a q1
    have cba := (capB wa).2.2
    have wa6 := wa.2.2.2.2.2.2
    have wc' := hW.2.2.1 c q2
    have cbc := (capB wc').2.2
    have wc6 := wc'.2.2.2.2.2.2
    subst e4
    refine wf (hs := [86]) 40 50 (by decide) ?_
    refine And.intro rfl (m_capE rfl hc wc' (And.intro hinc (And.intro (fun q => ?_) (fun q => ?_))))
    · simp (disch := omega) only [z_i8, z_i16, z_of, z_ofN, z_lofN, z_0, z_1, z_m1, z_l0, z_l1, iZ_add, iZ_sub, iZ_mul, iZ_neg, lZ_add, lZ_sub, lZ_mul, lZ_neg, z_div, z_ldiv, z_l, z_i, z_lt, z_le, z_eq, z_llt, z_lle, z_leq, z_cgt, z_cge, z_clt, z_cle, z_ceq, z_cl, z_nat, Int.toNat_natCast, mm_I, mm_J, z_cln, z_abs, z_max, z_min, z_lmax, z_lmin, z_sin, Int.cast_ofNat_Int, uI_I, uI_J, uL_I, uL_J, uA_I, uA_J, sI_eq, sI_ne, sL_eq, sL_ne, up_eq, up_ne, uL_eq, uL_ne, z_toInt, Int.reduceToNat, gc] at q
      refine wp_keys [0, 1, 2, 4] rfl rfl ?_
      refine tail q1 q2 q3 _ ?_
      congr 1
      unfold crsZ
      omega
    · simp (disch := omega) only [z_i8, z_i16, z_of, z_ofN, z_lofN, z_0, z_1, z_m1, z_l0, z_l1, iZ_add, iZ_sub, iZ_mul, iZ_neg, lZ_add, lZ_sub, lZ_mul, lZ_neg, z_div, z_ldiv, z_l, z_i, z_lt, z_le, z_eq, z_llt, z_lle, z_leq, z_cgt, z_cge, z_clt, z_cle, z_ceq, z_cl, z_nat, Int.toNat_natCast, mm_I, mm_J, z_cln, z_abs, z_max, z_min, z_lmax, z_lmin, z_sin, Int.cast_ofNat_Int, uI_I, uI_J, uL_I, uL_J, uA_I, uA_J, sI_eq, sI_ne, sL_eq, sL_ne, up_eq, up_ne, uL_eq, uL_ne, z_toInt, Int.reduceToNat, gc] at q
      refine And.intro rfl (m_capE rfl hc wc' (And.intro hinc ?_))
      refine wp_keys [0, 1, 2, 4] rfl rfl ?_
      refine tail q1 q2 q3 _ ?_
      show iZ (capZ (vI I) c) - I 276 (iZ (c : Int)).toNatClampNeg = _
      rw [clc, gc, iZ_sub]
      congr 1
      unfold crsZ
      omega
  refine wc (hs := [50]) 40 (by decide) ?_
  refine And.intro (inL (by decide)) (And.intro (fun q => ?_) (fun q => ?_))
  · simp (disch := omega) only [z_i8, z_i16, z_of, z_ofN, z_lofN, z_0, z_1, z_m1, z_l0, z_l1, iZ_add, iZ_sub, iZ_mul, iZ_neg, lZ_add, lZ_sub, lZ_mul, lZ_neg, z_div, z_ldiv, z_l, z_i, z_lt, z_le, z_eq, z_llt, z_lle, z_leq, z_cgt, z_cge, z_clt, z_cle, z_ceq, z_cl, z_nat, Int.toNat_natCast, mm_I, mm_J, z_cln, z_abs, z_max, z_min, z_lmax, z_lmin, z_sin, Int.cast_ofNat_Int, uI_I, uI_J, uL_I, uL_J, uA_I, uA_J, sI_eq, sI_ne, sL_eq, sL_ne, up_eq, up_ne, uL_eq, uL_ne, z_toInt, Int.reduceToNat, g9] at q
    exact h0 (by omega)
  · simp (disch := omega) only [z_i8, z_i16, z_of, z_ofN, z_lofN, z_0, z_1, z_m1, z_l0, z_l1, iZ_add, iZ_sub, iZ_mul, iZ_neg, lZ_add, lZ_sub, lZ_mul, lZ_neg, z_div, z_ldiv, z_l, z_i, z_lt, z_le, z_eq, z_llt, z_lle, z_leq, z_cgt, z_cge, z_clt, z_cle, z_ceq, z_cl, z_nat, Int.toNat_natCast, mm_I, mm_J, z_cln, z_abs, z_max, z_min, z_lmax, z_lmin, z_sin, Int.cast_ofNat_Int, uI_I, uI_J, uL_I, uL_J, uA_I, uA_J, sI_eq, sI_ne, sL_eq, sL_ne, up_eq, up_ne, uL_eq, uL_ne, z_toInt, Int.reduceToNat, g9] at q
    refine And.intro (inL (by decide)) (And.intro (fun q2 => ?_) (fun q2 => ?_))
    · simp (disch := omega) only [z_i8, z_i16, z_of, z_ofN, z_lofN, z_0, z_1, z_m1, z_l0, z_l1, iZ_add, iZ_sub, iZ_mul, iZ_neg, lZ_add, lZ_sub, lZ_mul, lZ_neg, z_div, z_ldiv, z_l, z_i, z_lt, z_le, z_eq, z_llt, z_lle, z_leq, z_cgt, z_cge, z_clt, z_cle, z_ceq, z_cl, z_nat, Int.toNat_natCast, mm_I, mm_J, z_cln, z_abs, z_max, z_min, z_lmax, z_lmin, z_sin, Int.cast_ofNat_Int, uI_I, uI_J, uL_I, uL_J, uA_I, uA_J, sI_eq, sI_ne, sL_eq, sL_ne, up_eq, up_ne, uL_eq, uL_ne, z_toInt, Int.reduceToNat, g9] at q2
      exact h0 (by omega)
    · simp (disch := omega) only [z_i8, z_i16, z_of, z_ofN, z_lofN, z_0, z_1, z_m1, z_l0, z_l1, iZ_add, iZ_sub, iZ_mul, iZ_neg, lZ_add, lZ_sub, lZ_mul, lZ_neg, z_div, z_ldiv, z_l, z_i, z_lt, z_le, z_eq, z_llt, z_lle, z_leq, z_cgt, z_cge, z_clt, z_cle, z_ceq, z_cl, z_nat, Int.toNat_natCast, mm_I, mm_J, z_cln, z_abs, z_max, z_min, z_lmax, z_lmin, z_sin, Int.cast_ofNat_Int, uI_I, uI_J, uL_I, uL_J, uA_I, uA_J, sI_eq, sI_ne, sL_eq, sL_ne, up_eq, up_ne, uL_eq, uL_ne, z_toInt, Int.reduceToNat, g9] at q2
      have wa := hW.2.2.1 a (by omega)
      have cba := (capB wa).2.2
      have wa6 := wa.2.2.2.2.2.2
      refine And.intro (fun q3 => ?_) (fun q3 => ?_)
      · simp (disch := omega) only [z_i8, z_i16, z_of, z_ofN, z_lofN, z_0, z_1, z_m1, z_l0, z_l1, iZ_add, iZ_sub, iZ_mul, iZ_neg, lZ_add, lZ_sub, lZ_mul, lZ_neg, z_div, z_ldiv, z_l, z_i, z_lt, z_le, z_eq, z_llt, z_lle, z_leq, z_cgt, z_cge, z_clt, z_cle, z_ceq, z_cl, z_nat, Int.toNat_natCast, mm_I, mm_J, z_cln, z_abs, z_max, z_min, z_lmax, z_lmin, z_sin, Int.cast_ofNat_Int, uI_I, uI_J, uL_I, uL_J, uA_I, uA_J, sI_eq, sI_ne, sL_eq, sL_ne, up_eq, up_ne, uL_eq, uL_ne, z_toInt, Int.reduceToNat] at q3
        exact h0 (by omega)
      · simp (disch := omega) only [z_i8, z_i16, z_of, z_ofN, z_lofN, z_0, z_1, z_m1, z_l0, z_l1, iZ_add, iZ_sub, iZ_mul, iZ_neg, lZ_add, lZ_sub, lZ_mul, lZ_neg, z_div, z_ldiv, z_l, z_i, z_lt, z_le, z_eq, z_llt, z_lle, z_leq, z_cgt, z_cge, z_clt, z_cle, z_ceq, z_cl, z_nat, Int.toNat_natCast, mm_I, mm_J, z_cln, z_abs, z_max, z_min, z_lmax, z_lmin, z_sin, Int.cast_ofNat_Int, uI_I, uI_J, uL_I, uL_J, uA_I, uA_J, sI_eq, sI_ne, sL_eq, sL_ne, up_eq, up_ne, uL_eq, uL_ne, z_toInt, Int.reduceToNat] at q3
        refine And.intro hina (And.intro (fun q4 => ?_) (fun q4 => ?_))
        · simp (disch := omega) only [z_i8, z_i16, z_of, z_ofN, z_lofN, z_0, z_1, z_m1, z_l0, z_l1, iZ_add, iZ_sub, iZ_mul, iZ_neg, lZ_add, lZ_sub, lZ_mul, lZ_neg, z_div, z_ldiv, z_l, z_i, z_lt, z_le, z_eq, z_llt, z_lle, z_leq, z_cgt, z_cge, z_clt, z_cle, z_ceq, z_cl, z_nat, Int.toNat_natCast, mm_I, mm_J, z_cln, z_abs, z_max, z_min, z_lmax, z_lmin, z_sin, Int.cast_ofNat_Int, uI_I, uI_J, uL_I, uL_J, uA_I, uA_J, sI_eq, sI_ne, sL_eq, sL_ne, up_eq, up_ne, uL_eq, uL_ne, z_toInt, Int.reduceToNat, ga] at q4
          refine wp_keys [0, 1, 2, 3, 4] rfl rfl ?_
          exact S50 (by omega) (by omega) (by omega) _ (by congr 1; omega)
        · simp (disch := omega) only [z_i8, z_i16, z_of, z_ofN, z_lofN, z_0, z_1, z_m1, z_l0, z_l1, iZ_add, iZ_sub, iZ_mul, iZ_neg, lZ_add, lZ_sub, lZ_mul, lZ_neg, z_div, z_ldiv, z_l, z_i, z_lt, z_le, z_eq, z_llt, z_lle, z_leq, z_cgt, z_cge, z_clt, z_cle, z_ceq, z_cl, z_nat, Int.toNat_natCast, mm_I, mm_J, z_cln, z_abs, z_max, z_min, z_lmax, z_lmin, z_sin, Int.cast_ofNat_Int, uI_I, uI_J, uL_I, uL_J, uA_I, uA_J, sI_eq, sI_ne, sL_eq, sL_ne, up_eq, up_ne, uL_eq, uL_ne, z_toInt, Int.reduceToNat, ga] at q4
          refine And.intro hina ?_
          refine wp_keys [0, 1, 2, 3, 4] rfl rfl ?_
          exact S50 (by omega) (by omega) (by omega) _ (((congrArg (I 276) cla).trans ga).trans (by congr 1; omega))
end M7
