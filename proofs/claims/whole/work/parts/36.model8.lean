/-! ===== the reference: what is asked, a code answered ===== -/
def AS (J : Nat → Nat → Int64) (v : am_V) : Prop := (∀ x : Nat, x < 12 → J 302 (x + 7) = lZ (wrdZ v x)) ∧ (∀ x : Nat, x < 7 → J 302 x = lZ (wrdZ v (x + 12)))
def M0 (I : Nat → Nat → Int32) (J : Nat → Nat → Int64) : Prop := vI I 265 25 = 0 ∧ vJ J 265 26 = 0
def ENT (c s n : Int) : Prop := (0 ≤ c ∧ c ≤ 11 → s = 1 ∧ n = c + 7) ∧ (12 ≤ c ∧ c ≤ 18 → s = 1 ∧ n = c - 12) ∧ (100 ≤ c → s = 0 ∧ n = c - 100) ∧ (24 ≤ c ∧ c ≤ 35 → s = smp c)
def JF (J J' : Nat → Nat → Int64) : Prop := ∀ a, a ≠ 302 → a ≠ 303 → J' a = J a
theorem M0_WM {I : Nat → Nat → Int32} {J : Nat → Nat → Int64} (hW : Wf (vI I)) (h : M0 I J) : WM I J := ⟨hW, by rw [h.1]; omega, by rw [h.1, h.2]; omega⟩
theorem M0_sM {I : Nat → Nat → Int32} {J : Nat → Nat → Int64} (h : M0 I J) : sM I J = stfZ (vI I) 0 0 := by unfold sM; rw [h.1, h.2]
theorem M0_tM {I : Nat → Nat → Int32} {J : Nat → Nat → Int64} {a : Int} (h : M0 I J) : tM I J a = trnZ (vI I) 0 0 a := by unfold tM; rw [h.1, h.2]
theorem vJ_eqJ {J J' : Nat → Nat → Int64} {a i : Nat} (h : J' a = J a) : vJ J' a i = vJ J a i := by unfold vJ; rw [h]
section M8
variable {E : Nat × (Nat → Int32)} {d : Nat} {I : Nat → Nat → Int32} {J : Nat → Nat → Int64} {A : Nat → Option Nat} {Q : Option Value → am_M → Prop} {M : am_M}
set_option maxHeartbeats 8000000 in
theorem m_asks (hW : Wf (vI I)) (h0 : M0 I J) (hQ : ∀ J', (∀ a, a ≠ 302 → J' a = J a) → AS J' (vI I) → Q none (mm I J' A)) : wpC E (d + 4) 217 [.ref 265] (mm I J A) Q := by
  have h12 := nP12 hW
  have g9 : I 266 9 = iZ (nP (vI I)) := by rw [iZ_nat]; exact I_nP hW.1
  have l := hW.1.2.2.2.2.2.2.1
  have db := drB hW
  have tt := totB hW (mw := 0) ⟨by omega, by omega⟩
  have sb := (stfB hW WW0.1 WW0.2).2
  have g7 : I 266 7 = iZ (vI I 266 7) := vI_eq I 266 7
  have g8 : (I 266 8).toInt64 = lZ (vI I 266 8) := IL 266 8
  have g6 : (I 266 6).toInt64 = lZ (vI I 266 6) := IL 266 6
  have L := lpU (σ := (Nat → Nat → Int64) × Int32) (fun _ s => wp E (d + 4) 217 118 [(0, .ref 265), (1, .int s.2)] [] (mm I s.1 A) Q) (fun i s => ((∀ a, a ≠ 302 → s.1 a = J a) ∧ (∀ x : Nat, x < 7 → s.1 302 x = lZ (wrdZ (vI I) (x + 12))) ∧ (∀ x : Nat, x < i → s.1 302 (x + 7) = lZ (wrdZ (vI I) x))) ∧ s.2 = iZ i) 12 ?_ ?_
  · have S54 : ∀ J2, (∀ a, a ≠ 302 → J2 a = J a) → J2 302 0 = lZ (wrdZ (vI I) 12) → J2 302 1 = lZ (wrdZ (vI I) 13) → wp E (d + 4) 217 54 [(0, .ref 265)] [] (mm I J2 A) Q := by
      intro J2 hF k0 k1
      have m0 : ∀ J3 : Nat → Nat → Int64, J3 265 = J2 265 → M0 I J3 := fun J3 h => ⟨h0.1, by rw [vJ_eqJ (h.trans (hF 265 (by decide)))]; exact h0.2⟩
      have w25 : 0 ≤ vI I 265 25 ∧ vI I 265 25 ≤ 200000 := by rw [h0.1]; omega
      have eD : (iZ (totZ (vI I) (vI I 265 25) / vI I 266 4)).toInt64 = lZ (drZ (vI I)) := by
        rw [h0.1]
        show (iZ (drZ (vI I))).toInt64 = _
        simp (disch := omega) only [z_i8, z_i16, z_of, z_ofN, z_lofN, z_0, z_1, z_m1, z_l0, z_l1, iZ_add, iZ_sub, iZ_mul, iZ_neg, lZ_add, lZ_sub, lZ_mul, lZ_neg, z_div, z_ldiv, z_l, z_i, z_lt, z_le, z_eq, z_llt, z_lle, z_leq, z_cgt, z_cge, z_clt, z_cle, z_ceq, z_cl, z_nat, Int.toNat_natCast, mm_I, mm_J, z_cln, z_abs, z_max, z_min, z_lmax, z_lmin, z_sin, Int.cast_ofNat_Int, uI_I, uI_J, uL_I, uL_J, uA_I, uA_J, sI_eq, sI_ne, sL_eq, sL_ne, up_eq, up_ne, uL_eq, uL_ne, z_toInt, Int.reduceToNat]
      have eT : (iZ (totZ (vI I) (vI I 265 25))).toInt64 = lZ (totZ (vI I) 0) := by
        rw [h0.1]
        simp (disch := omega) only [z_i8, z_i16, z_of, z_ofN, z_lofN, z_0, z_1, z_m1, z_l0, z_l1, iZ_add, iZ_sub, iZ_mul, iZ_neg, lZ_add, lZ_sub, lZ_mul, lZ_neg, z_div, z_ldiv, z_l, z_i, z_lt, z_le, z_eq, z_llt, z_lle, z_leq, z_cgt, z_cge, z_clt, z_cle, z_ceq, z_cl, z_nat, Int.toNat_natCast, mm_I, mm_J, z_cln, z_abs, z_max, z_min, z_lmax, z_lmin, z_sin, Int.cast_ofNat_Int, uI_I, uI_J, uL_I, uL_J, uA_I, uA_J, sI_eq, sI_ne, sL_eq, sL_ne, up_eq, up_ne, uL_eq, uL_ne, z_toInt, Int.reduceToNat]
      have eS : ∀ J3 : Nat → Nat → Int64, J3 265 = J2 265 → (iZ (sM I J3)).toInt64 = lZ (stfZ (vI I) 0 0) := fun J3 h => by
        rw [M0_sM (m0 J3 h)]
        simp (disch := omega) only [z_i8, z_i16, z_of, z_ofN, z_lofN, z_0, z_1, z_m1, z_l0, z_l1, iZ_add, iZ_sub, iZ_mul, iZ_neg, lZ_add, lZ_sub, lZ_mul, lZ_neg, z_div, z_ldiv, z_l, z_i, z_lt, z_le, z_eq, z_llt, z_lle, z_leq, z_cgt, z_cge, z_clt, z_cle, z_ceq, z_cl, z_nat, Int.toNat_natCast, mm_I, mm_J, z_cln, z_abs, z_max, z_min, z_lmax, z_lmin, z_sin, Int.cast_ofNat_Int, uI_I, uI_J, uL_I, uL_J, uA_I, uA_J, sI_eq, sI_ne, sL_eq, sL_ne, up_eq, up_ne, uL_eq, uL_ne, z_toInt, Int.reduceToNat]
      refine wf (hs := [118]) 80 54 (by decide) ?_
      refine And.intro (inL (by decide)) (And.intro (inL (by decide)) ?_)
      refine And.intro rfl (m_draft hW w25 (And.intro (inL (by decide)) ?_))
      refine And.intro (inL (by decide)) (And.intro (inL (by decide)) ?_)
      refine And.intro rfl (m_total hW.1 (And.intro (inL (by decide)) ?_))
      refine And.intro rfl (m_stiff (M0_WM hW (m0 _ rfl)) (And.intro (inL (by decide)) ?_))
      refine wp_keys [0, 1] rfl rfl ?_
      refine L 0 (_, _) (by omega) ⟨⟨fun a ha => ?_, fun x hx => ?_, fun x hx => by omega⟩, rfl⟩
      · dsimp only
        show setL (setL (setL (setL (setL J2 302 2 _) 302 3 _) 302 4 _) 302 5 _) 302 6 _ a = J a
        rw [← hF a ha]
        funext j
        rw [setL_at, if_neg (by omega), setL_at, if_neg (by omega), setL_at, if_neg (by omega), setL_at, if_neg (by omega), setL_at, if_neg (by omega)]
      · have hx' : x = 0 ∨ x = 1 ∨ x = 2 ∨ x = 3 ∨ x = 4 ∨ x = 5 ∨ x = 6 := by omega
        clear hx
        rcases hx' with rfl | rfl | rfl | rfl | rfl | rfl | rfl
        · exact k0
        · exact k1
        · exact g8
        · exact eD
        · exact g6
        · exact eT
        · exact eS _ rfl
    have e0 : (iZ ((vI I 266 7).natAbs : Int)).toInt64 = lZ (wrdZ (vI I) 12) := by
      show _ = lZ ((vI I 266 7).natAbs : Int)
      simp (disch := omega) only [z_i8, z_i16, z_of, z_ofN, z_lofN, z_0, z_1, z_m1, z_l0, z_l1, iZ_add, iZ_sub, iZ_mul, iZ_neg, lZ_add, lZ_sub, lZ_mul, lZ_neg, z_div, z_ldiv, z_l, z_i, z_lt, z_le, z_eq, z_llt, z_lle, z_leq, z_cgt, z_cge, z_clt, z_cle, z_ceq, z_cl, z_nat, Int.toNat_natCast, mm_I, mm_J, z_cln, z_abs, z_max, z_min, z_lmax, z_lmin, z_sin, Int.cast_ofNat_Int, uI_I, uI_J, uL_I, uL_J, uA_I, uA_J, sI_eq, sI_ne, sL_eq, sL_ne, up_eq, up_ne, uL_eq, uL_ne, z_toInt, Int.reduceToNat]
    have f2 : ∀ y : Int64, ∀ a, a ≠ 302 → setL (setL J 302 0 (iZ ((vI I 266 7).natAbs : Int)).toInt64) 302 1 y a = J a := fun y a ha => by
      funext j
      rw [setL_at, if_neg (by omega), setL_at, if_neg (by omega)]
    refine wc (hs := [54]) 40 (by decide) ?_
    refine And.intro (inL (by decide)) (And.intro rfl (m_withoutE (z := vI I 266 7) g7 ⟨by omega, by omega⟩ (And.intro (inL (by decide)) ?_)))
    refine And.intro (inL (by decide)) (And.intro (fun q => ?_) (fun q => ?_))
    · simp (disch := omega) only [z_i8, z_i16, z_of, z_ofN, z_lofN, z_0, z_1, z_m1, z_l0, z_l1, iZ_add, iZ_sub, iZ_mul, iZ_neg, lZ_add, lZ_sub, lZ_mul, lZ_neg, z_div, z_ldiv, z_l, z_i, z_lt, z_le, z_eq, z_llt, z_lle, z_leq, z_cgt, z_cge, z_clt, z_cle, z_ceq, z_cl, z_nat, Int.toNat_natCast, mm_I, mm_J, z_cln, z_abs, z_max, z_min, z_lmax, z_lmin, z_sin, Int.cast_ofNat_Int, uI_I, uI_J, uL_I, uL_J, uA_I, uA_J, sI_eq, sI_ne, sL_eq, sL_ne, up_eq, up_ne, uL_eq, uL_ne, z_toInt, Int.reduceToNat, g7] at q
      refine And.intro (inL (by decide)) (And.intro (fun q2 => ?_) (fun q2 => ?_))
      · simp (disch := omega) only [z_i8, z_i16, z_of, z_ofN, z_lofN, z_0, z_1, z_m1, z_l0, z_l1, iZ_add, iZ_sub, iZ_mul, iZ_neg, lZ_add, lZ_sub, lZ_mul, lZ_neg, z_div, z_ldiv, z_l, z_i, z_lt, z_le, z_eq, z_llt, z_lle, z_leq, z_cgt, z_cge, z_clt, z_cle, z_ceq, z_cl, z_nat, Int.toNat_natCast, mm_I, mm_J, z_cln, z_abs, z_max, z_min, z_lmax, z_lmin, z_sin, Int.cast_ofNat_Int, uI_I, uI_J, uL_I, uL_J, uA_I, uA_J, sI_eq, sI_ne, sL_eq, sL_ne, up_eq, up_ne, uL_eq, uL_ne, z_toInt, Int.reduceToNat, g7] at q2
        refine And.intro (inL (by decide)) (S54 _ (f2 _) e0 ?_)
        show (0 : Int64) = lZ (if 0 < vI I 266 7 then 1 else if vI I 266 7 < 0 then -1 else 0)
        rw [if_neg (by omega), if_neg (by omega)]; rfl
      · simp (disch := omega) only [z_i8, z_i16, z_of, z_ofN, z_lofN, z_0, z_1, z_m1, z_l0, z_l1, iZ_add, iZ_sub, iZ_mul, iZ_neg, lZ_add, lZ_sub, lZ_mul, lZ_neg, z_div, z_ldiv, z_l, z_i, z_lt, z_le, z_eq, z_llt, z_lle, z_leq, z_cgt, z_cge, z_clt, z_cle, z_ceq, z_cl, z_nat, Int.toNat_natCast, mm_I, mm_J, z_cln, z_abs, z_max, z_min, z_lmax, z_lmin, z_sin, Int.cast_ofNat_Int, uI_I, uI_J, uL_I, uL_J, uA_I, uA_J, sI_eq, sI_ne, sL_eq, sL_ne, up_eq, up_ne, uL_eq, uL_ne, z_toInt, Int.reduceToNat, g7] at q2
        refine And.intro (inL (by decide)) (S54 _ (f2 _) e0 ?_)
        show Int64.ofNat 18446744073709551615 = lZ (if 0 < vI I 266 7 then 1 else if vI I 266 7 < 0 then -1 else 0)
        rw [if_neg (by omega), if_pos (by omega)]; rfl
    · simp (disch := omega) only [z_i8, z_i16, z_of, z_ofN, z_lofN, z_0, z_1, z_m1, z_l0, z_l1, iZ_add, iZ_sub, iZ_mul, iZ_neg, lZ_add, lZ_sub, lZ_mul, lZ_neg, z_div, z_ldiv, z_l, z_i, z_lt, z_le, z_eq, z_llt, z_lle, z_leq, z_cgt, z_cge, z_clt, z_cle, z_ceq, z_cl, z_nat, Int.toNat_natCast, mm_I, mm_J, z_cln, z_abs, z_max, z_min, z_lmax, z_lmin, z_sin, Int.cast_ofNat_Int, uI_I, uI_J, uL_I, uL_J, uA_I, uA_J, sI_eq, sI_ne, sL_eq, sL_ne, up_eq, up_ne, uL_eq, uL_ne, z_toInt, Int.reduceToNat, g7] at q
      refine And.intro (inL (by decide)) (S54 _ (f2 _) e0 ?_)
      show (1 : Int64) = lZ (if 0 < vI I 266 7 then 1 else if vI I 266 7 < 0 then -1 else 0)
      rw [if_pos (by omega)]; rfl
  · rintro ⟨J', x⟩ ⟨⟨h1, h2, h3⟩, e⟩
    dsimp only at h1 h2 h3 e
    subst e
    refine wf (hs := [118]) 40 118 (by decide) (wt (by show iZ 12 ≤ iZ 12; decide) ?_)
    exact hQ J' h1 ⟨fun x hx => h3 x hx, h2⟩
  · rintro i ⟨J', x⟩ hi ⟨⟨h1, h2, h3⟩, e⟩ ih
    dsimp only at h1 h2 h3 e
    subst e
    have hcl : (iZ 7 + iZ (i : Int)).toNatClampNeg = i + 7 := by
      rw [iZ_add, show (7 : Int) + i = ((i + 7 : Nat) : Int) by omega]
      exact z_cln (by omega)
    have hin7 : vp_in (iZ 7 + iZ (i : Int)) 19 := by rw [iZ_add]; exact z_in (by omega) (by omega) (by omega)
    have hin : vp_in (iZ (i : Int)) 12 := z_in (by omega) (by omega) (by omega)
    have st : ∀ y : Int64, y = lZ (wrdZ (vI I) i) → (((∀ a, a ≠ 302 → setL J' 302 (iZ 7 + iZ (i : Int)).toNatClampNeg y a = J a) ∧ (∀ x : Nat, x < 7 → setL J' 302 (iZ 7 + iZ (i : Int)).toNatClampNeg y 302 x = lZ (wrdZ (vI I) (x + 12))) ∧ (∀ x : Nat, x < i + 1 → setL J' 302 (iZ 7 + iZ (i : Int)).toNatClampNeg y 302 (x + 7) = lZ (wrdZ (vI I) x)))) := by
      intro y hy
      rw [hcl]
      refine ⟨fun a ha => ?_, fun x hx => ?_, fun x hx => ?_⟩
      · rw [← h1 a ha]; funext j; rw [setL_at, if_neg (by omega)]
      · rw [setL_at, if_neg (by omega)]; exact h2 x hx
      · rw [setL_at]
        by_cases hxi : x = i
        · rw [if_pos ⟨rfl, by omega⟩, hxi]; exact hy
        · rw [if_neg (by omega)]; exact h3 x (by omega)
    refine wf (hs := [118]) 40 118 (by decide) (wF (by ((try simp (disch := omega) only [z_i8, z_i16, z_of, z_ofN, z_lofN, z_0, z_1, z_m1, z_l0, z_l1, iZ_add, iZ_sub, iZ_mul, iZ_neg, lZ_add, lZ_sub, lZ_mul, lZ_neg, z_div, z_ldiv, z_l, z_i, z_lt, z_le, z_eq, z_llt, z_lle, z_leq, z_cgt, z_cge, z_clt, z_cle, z_ceq, z_cl, z_nat, Int.toNat_natCast, mm_I, mm_J, z_cln, z_abs, z_max, z_min, z_lmax, z_lmin, z_sin, Int.cast_ofNat_Int, uI_I, uI_J, uL_I, uL_J, uA_I, uA_J, sI_eq, sI_ne, sL_eq, sL_ne, up_eq, up_ne, uL_eq, uL_ne, z_toInt, Int.reduceToNat]) <;> omega)) ?_)
    refine And.intro (inL (by decide)) (And.intro (fun q => ?_) (fun q => ?_))
    · simp (disch := omega) only [z_i8, z_i16, z_of, z_ofN, z_lofN, z_0, z_1, z_m1, z_l0, z_l1, iZ_add, iZ_sub, iZ_mul, iZ_neg, lZ_add, lZ_sub, lZ_mul, lZ_neg, z_div, z_ldiv, z_l, z_i, z_lt, z_le, z_eq, z_llt, z_lle, z_leq, z_cgt, z_cge, z_clt, z_cle, z_ceq, z_cl, z_nat, Int.toNat_natCast, mm_I, mm_J, z_cln, z_abs, z_max, z_min, z_lmax, z_lmin, z_sin, Int.cast_ofNat_Int, uI_I, uI_J, uL_I, uL_J, uA_I, uA_J, sI_eq, sI_ne, sL_eq, sL_ne, up_eq, up_ne, uL_eq, uL_ne, z_toInt, Int.reduceToNat, g9] at q
      refine And.intro hin7 ?_
      refine wp_keys [0, 1] rfl rfl ?_
      refine ih (setL J' 302 (iZ 7 + iZ (i : Int)).toNatClampNeg _, _) ⟨st _ ?_, iZ_add i 1⟩
      unfold wrdZ
      rw [if_pos (by omega), if_neg (by omega)]; rfl
    · simp (disch := omega) only [z_i8, z_i16, z_of, z_ofN, z_lofN, z_0, z_1, z_m1, z_l0, z_l1, iZ_add, iZ_sub, iZ_mul, iZ_neg, lZ_add, lZ_sub, lZ_mul, lZ_neg, z_div, z_ldiv, z_l, z_i, z_lt, z_le, z_eq, z_llt, z_lle, z_leq, z_cgt, z_cge, z_clt, z_cle, z_ceq, z_cl, z_nat, Int.toNat_natCast, mm_I, mm_J, z_cln, z_abs, z_max, z_min, z_lmax, z_lmin, z_sin, Int.cast_ofNat_Int, uI_I, uI_J, uL_I, uL_J, uA_I, uA_J, sI_eq, sI_ne, sL_eq, sL_ne, up_eq, up_ne, uL_eq, uL_ne, z_toInt, Int.reduceToNat, g9] at q
      refine And.intro hin (And.intro hin7 ?_)
      refine wp_keys [0, 1] rfl rfl ?_
      refine ih (setL J' 302 (iZ 7 + iZ (i : Int)).toNatClampNeg _, _) ⟨st _ ?_, iZ_add i 1⟩
      unfold wrdZ
      rw [if_pos (by omega), if_pos (by omega)]
      show (I 276 (iZ (i : Int)).toNatClampNeg).toInt64 = _
      rw [z_cln (by omega), IL]; rfl
set_option maxHeartbeats 8000000 in
theorem m_answerL {r to : Nat} {c : Nat → Int} {v : am_V} {x2 : Int32} (hr : r < 6) (hA : AS J v) (hto : to ≤ 300) (hE : ∀ k, k < to → ENT (c k) (vI I 291 (300 * r + k)) (vI I 292 (300 * r + k))) : ∀ (n i : Nat) (st : List Int64) (J' : Nat → Nat → Int64) (x4 x5 : Int32), i + n = to → (∀ a, a ≠ 303 → J' a = J a) → SK J' 303 st → st.length ≤ 60 → okN c n i st.length → x4 = iZ st.length → x5 = iZ i → (∀ J'', (∀ a, a ≠ 303 → J'' a = J a) → Q (some (.long ((evN (fun x => lZ (wrdZ v x)) c n i st).headD 0))) (mm I J'' A)) → wp E (d + 2) 216 6 [(0, .ref 265), (1, .int (iZ r)), (2, .int x2), (3, .int (iZ to)), (4, .int x4), (5, .int x5)] [] (mm I J' A) Q := by
  have put : ∀ (J' : Nat → Nat → Int64) (k : Nat) (y : Int64), (∀ a, a ≠ 303 → J' a = J a) → ∀ a, a ≠ 303 → setL J' 303 k y a = J a := fun J' k y h a ha => by
    rw [← h a ha]
    funext j
    rw [setL_at, if_neg (by omega)]
  intro n
  induction n with
  | zero =>
    intro i st J' x4 x5 hi hF hS hl hk e4 e5 hQ
    subst e4; subst e5
    have hk : st.length = 1 := hk
    obtain ⟨a, rfl⟩ : ∃ a, st = [a] := List.length_eq_one_iff.mp hk
    have h0 := hS 0 (by simp)
    refine wf (hs := [6]) 40 6 (by decide) ?_
    refine wt (by ((try simp (disch := omega) only [z_i8, z_i16, z_of, z_ofN, z_lofN, z_0, z_1, z_m1, z_l0, z_l1, iZ_add, iZ_sub, iZ_mul, iZ_neg, lZ_add, lZ_sub, lZ_mul, lZ_neg, z_div, z_ldiv, z_l, z_i, z_lt, z_le, z_eq, z_llt, z_lle, z_leq, z_cgt, z_cge, z_clt, z_cle, z_ceq, z_cl, z_nat, Int.toNat_natCast, mm_I, mm_J, z_cln, z_abs, z_max, z_min, z_lmax, z_lmin, z_sin, Int.cast_ofNat_Int, uI_I, uI_J, uL_I, uL_J, uA_I, uA_J, sI_eq, sI_ne, sL_eq, sL_ne, up_eq, up_ne, uL_eq, uL_ne, z_toInt, Int.reduceToNat]) <;> omega)) ?_
    refine And.intro (inL (by decide)) ?_
    refine q_l (hQ J' hF) ?_
    exact h0
  | succ n ih =>
    intro i st J' x4 x5 hi hF hS hl hk e4 e5 hQ
    subst e4; subst e5
    have hcs : (iZ (st.length : Int)).toNatClampNeg = st.length := z_cln (by omega)
    have q1 : ¬ iZ (to : Int) ≤ iZ (i : Int) := by ((try simp (disch := omega) only [z_i8, z_i16, z_of, z_ofN, z_lofN, z_0, z_1, z_m1, z_l0, z_l1, iZ_add, iZ_sub, iZ_mul, iZ_neg, lZ_add, lZ_sub, lZ_mul, lZ_neg, z_div, z_ldiv, z_l, z_i, z_lt, z_le, z_eq, z_llt, z_lle, z_leq, z_cgt, z_cge, z_clt, z_cle, z_ceq, z_cl, z_nat, Int.toNat_natCast, mm_I, mm_J, z_cln, z_abs, z_max, z_min, z_lmax, z_lmin, z_sin, Int.cast_ofNat_Int, uI_I, uI_J, uL_I, uL_J, uA_I, uA_J, sI_eq, sI_ne, sL_eq, sL_ne, up_eq, up_ne, uL_eq, uL_ne, z_toInt, Int.reduceToNat]) <;> omega)
    have eix : iZ 300 * iZ (r : Int) + iZ (i : Int) = iZ ((300 * r + i : Nat) : Int) := by rw [iZ_mul, iZ_add]; congr 1
    have hin : vp_in (iZ 300 * iZ (r : Int) + iZ (i : Int)) 1800 := by rw [eix]; exact z_in (by omega) (by omega) (by omega)
    have hix : (iZ 300 * iZ (r : Int) + iZ (i : Int)).toNatClampNeg = 300 * r + i := by rw [eix]; exact z_cln (by omega)
    have eS : I 291 (iZ 300 * iZ (r : Int) + iZ (i : Int)).toNatClampNeg = iZ (vI I 291 (300 * r + i)) := by rw [hix]; exact vI_eq I _ _
    have eN : I 292 (iZ 300 * iZ (r : Int) + iZ (i : Int)).toNatClampNeg = iZ (vI I 292 (300 * r + i)) := by rw [hix]; exact vI_eq I _ _
    have hent := hE i (by omega)
    have hA' : AS J' v := by unfold AS at hA ⊢; rw [hF 302 (by decide)]; exact hA
    have hev : ∀ s', s' = stpL (fun x => lZ (wrdZ v x)) (c i) st → evN (fun x => lZ (wrdZ v x)) c (n + 1) i st = evN (fun x => lZ (wrdZ v x)) c n (i + 1) s' := fun s' e => by rw [e]; rfl
    generalize vI I 291 (300 * r + i) = s at eS hent
    generalize vI I 292 (300 * r + i) = m at eN hent
    obtain ⟨t1, t2, t3, t4⟩ := hent
    rcases hk with ⟨hw, hk60, hk⟩ | ⟨hw, hk1, hk⟩ | ⟨hw, hk2, hk⟩
    · have hp5 : vp_in (iZ (st.length : Int)) 300 := z_in (by omega) (by omega) (by omega)
      rw [hev (lZ (wrdZ v (c i)) :: st) (by unfold stpL; rw [if_neg (by omega)])] at hQ
      generalize c i = x at hw hQ t1 t2 t3 t4
      by_cases h100 : 100 ≤ x
      · have hwd : wrdZ v x = x - 100 := by
          unfold wrdZ
          rw [if_neg (by omega), if_neg (by omega), if_neg (by omega), if_neg (by omega), if_neg (by omega), if_neg (by omega), if_neg (by omega), if_neg (by omega)]
        have q2 : I 291 (iZ 300 * iZ (r : Int) + iZ (i : Int)).toNatClampNeg = iZ 0 := by rw [eS, (t3 h100).1]
        have ev : (I 292 (iZ 300 * iZ (r : Int) + iZ (i : Int)).toNatClampNeg).toInt64 = lZ (wrdZ v x) := by
          rw [eN, hwd, (t3 h100).2]; simp (disch := omega) only [z_i8, z_i16, z_of, z_ofN, z_lofN, z_0, z_1, z_m1, z_l0, z_l1, iZ_add, iZ_sub, iZ_mul, iZ_neg, lZ_add, lZ_sub, lZ_mul, lZ_neg, z_div, z_ldiv, z_l, z_i, z_lt, z_le, z_eq, z_llt, z_lle, z_leq, z_cgt, z_cge, z_clt, z_cle, z_ceq, z_cl, z_nat, Int.toNat_natCast, mm_I, mm_J, z_cln, z_abs, z_max, z_min, z_lmax, z_lmin, z_sin, Int.cast_ofNat_Int, uI_I, uI_J, uL_I, uL_J, uA_I, uA_J, sI_eq, sI_ne, sL_eq, sL_ne, up_eq, up_ne, uL_eq, uL_ne, z_toInt, Int.reduceToNat]
        refine wf (hs := [6]) 60 6 (by decide) ?_
        refine wF q1 (And.intro hin (And.intro hin (wt q2 (wt q2 (And.intro hp5 ?_)))))
        refine wp_keys [0, 1, 2, 3, 4, 5] rfl rfl ?_
        refine ih (i + 1) (lZ (wrdZ v x) :: st) (setL J' 303 (iZ (st.length : Int)).toNatClampNeg _) _ _ (by omega) (put J' _ _ hF) (SK_putE hS hcs ev) ?_ hk (iZ_add _ 1) (iZ_add i 1) hQ
        simp only [List.length_cons]; omega
      · have hs1 : s = 1 ∧ ∃ k : Nat, m = k ∧ k < 19 ∧ J' 302 k = lZ (wrdZ v x) := by
          by_cases h11 : x ≤ 11
          · obtain ⟨a1, a2⟩ := t1 ⟨by omega, h11⟩
            refine ⟨a1, x.toNat + 7, by omega, by omega, ?_⟩
            have := hA'.1 x.toNat (by omega)
            rw [show ((x.toNat : Nat) : Int) = x by omega] at this
            exact this
          · obtain ⟨a1, a2⟩ := t2 ⟨by omega, by omega⟩
            refine ⟨a1, (x - 12).toNat, by omega, by omega, ?_⟩
            have := hA'.2 (x - 12).toNat (by omega)
            rw [show (((x - 12).toNat : Nat) : Int) + 12 = x by omega] at this
            exact this
        obtain ⟨rfl, k, rfl, hk19, hJ⟩ := hs1
        have q2 : ¬ I 291 (iZ 300 * iZ (r : Int) + iZ (i : Int)).toNatClampNeg = iZ 0 := by rw [eS]; decide
        have hin2 : vp_in (I 292 (iZ 300 * iZ (r : Int) + iZ (i : Int)).toNatClampNeg) 19 := by rw [eN]; exact z_in (by omega) (by omega) (by omega)
        have hJ2 : J' 302 (I 292 (iZ 300 * iZ (r : Int) + iZ (i : Int)).toNatClampNeg).toNatClampNeg = lZ (wrdZ v x) := by rw [eN, z_cln (by omega)]; exact hJ
        refine wf (hs := [6]) 60 6 (by decide) ?_
        refine wF q1 (And.intro hin (And.intro hin (wF q2 (wt eS (wF q2 (And.intro hin2 (And.intro hp5 ?_)))))))
        refine wp_keys [0, 1, 2, 3, 4, 5] rfl rfl ?_
        refine ih (i + 1) (lZ (wrdZ v x) :: st) (setL J' 303 (iZ (st.length : Int)).toNatClampNeg _) _ _ (by omega) (put J' _ _ hF) (SK_putE hS hcs hJ2) ?_ hk (iZ_add _ 1) (iZ_add i 1) hQ
        simp only [List.length_cons]; omega
    · cases st with
      | nil => simp at hk1
      | cons a st =>
        rw [hev ((1 - a) :: st) (by unfold stpL; rw [if_pos (by omega), if_pos hw])] at hQ
        obtain ⟨hS1, ha⟩ := SK_tl hS
        simp only [List.length_cons] at hl hk hcs
        have hcm : (iZ ((st.length + 1 : Nat) : Int) - iZ 1).toNatClampNeg = st.length := by
          rw [iZ_sub, show ((st.length + 1 : Nat) : Int) - 1 = (st.length : Int) by omega]
          exact z_cln (by omega)
        have hp5 : vp_in (iZ ((st.length + 1 : Nat) : Int) - iZ 1) 300 := by
          rw [iZ_sub]; exact z_in (by omega) (by omega) (by omega)
        have s9 : s = 9 := by rw [t4 (by omega), hw]; rfl
        subst s9
        have q2 : ¬ I 291 (iZ 300 * iZ (r : Int) + iZ (i : Int)).toNatClampNeg = iZ 0 := by rw [eS]; decide
        have q3 : ¬ I 291 (iZ 300 * iZ (r : Int) + iZ (i : Int)).toNatClampNeg = iZ 1 := by rw [eS]; decide
        refine wf (hs := [6]) 60 6 (by decide) ?_
        refine wF q1 (And.intro hin (And.intro hin (wF q2 (wF q3 (wt eS (And.intro hp5 (And.intro hp5 ?_)))))))
        refine wp_keys [0, 1, 2, 3, 4, 5] rfl rfl ?_
        refine ih (i + 1) ((1 - a) :: st) (setL J' 303 (iZ ((st.length + 1 : Nat) : Int) - iZ 1).toNatClampNeg _) _ _ (by omega) (put J' _ _ hF) (SK_putE hS1 hcm (congrArg (fun z => 1 - z) ((congrArg (J' _) hcm).trans ha))) ?_ hk rfl (iZ_add i 1) hQ
        simp only [List.length_cons]; omega
    · match st, hS, hl, hk2, hk, hcs, hev with
      | [], _, _, hk2, _, _, _ => simp at hk2
      | [_], _, _, hk2, _, _, _ => simp at hk2
      | b2 :: a :: st, hS, hl, hk2, hk, hcs, hev =>
        rw [hev (jnL (c i) a b2 :: st) (by unfold stpL; rw [if_pos (by omega), if_neg hw.2.2])] at hQ
        obtain ⟨hS1, hb2⟩ := SK_tl hS
        obtain ⟨hS2, ha⟩ := SK_tl hS1
        simp only [List.length_cons] at hl hk hcs hb2
        have hc1 : (iZ ((st.length + 1 + 1 : Nat) : Int) + iZ (-1)).toNatClampNeg = st.length + 1 := by
          rw [iZ_add, show ((st.length + 1 + 1 : Nat) : Int) + -1 = ((st.length + 1 : Nat) : Int) by omega]
          exact z_cln (by omega)
        have hc2 : (iZ ((st.length + 1 + 1 : Nat) : Int) + iZ (-1) - iZ 1).toNatClampNeg = st.length := by
          rw [iZ_add, iZ_sub, show ((st.length + 1 + 1 : Nat) : Int) + -1 - 1 = (st.length : Int) by omega]
          exact z_cln (by omega)
        have hp1 : vp_in (iZ ((st.length + 1 + 1 : Nat) : Int) + iZ (-1)) 300 := by
          rw [iZ_add]; exact z_in (by omega) (by omega) (by omega)
        have hp2 : vp_in (iZ ((st.length + 1 + 1 : Nat) : Int) + iZ (-1) - iZ 1) 300 := by
          rw [iZ_add, iZ_sub]; exact z_in (by omega) (by omega) (by omega)
        have hsm := t4 ⟨hw.1, hw.2.1⟩
        generalize c i = x at hw hQ t1 t2 t3 t4 hsm
        have hsr : (2 ≤ s ∧ s ≤ 14) ∧ s ≠ 9 := by rw [hsm]; unfold smp; omega
        have q2 : ¬ I 291 (iZ 300 * iZ (r : Int) + iZ (i : Int)).toNatClampNeg = iZ 0 := by rw [eS]; ((try simp (disch := omega) only [z_i8, z_i16, z_of, z_ofN, z_lofN, z_0, z_1, z_m1, z_l0, z_l1, iZ_add, iZ_sub, iZ_mul, iZ_neg, lZ_add, lZ_sub, lZ_mul, lZ_neg, z_div, z_ldiv, z_l, z_i, z_lt, z_le, z_eq, z_llt, z_lle, z_leq, z_cgt, z_cge, z_clt, z_cle, z_ceq, z_cl, z_nat, Int.toNat_natCast, mm_I, mm_J, z_cln, z_abs, z_max, z_min, z_lmax, z_lmin, z_sin, Int.cast_ofNat_Int, uI_I, uI_J, uL_I, uL_J, uA_I, uA_J, sI_eq, sI_ne, sL_eq, sL_ne, up_eq, up_ne, uL_eq, uL_ne, z_toInt, Int.reduceToNat]) <;> omega)
        have q3 : ¬ I 291 (iZ 300 * iZ (r : Int) + iZ (i : Int)).toNatClampNeg = iZ 1 := by rw [eS]; ((try simp (disch := omega) only [z_i8, z_i16, z_of, z_ofN, z_lofN, z_0, z_1, z_m1, z_l0, z_l1, iZ_add, iZ_sub, iZ_mul, iZ_neg, lZ_add, lZ_sub, lZ_mul, lZ_neg, z_div, z_ldiv, z_l, z_i, z_lt, z_le, z_eq, z_llt, z_lle, z_leq, z_cgt, z_cge, z_clt, z_cle, z_ceq, z_cl, z_nat, Int.toNat_natCast, mm_I, mm_J, z_cln, z_abs, z_max, z_min, z_lmax, z_lmin, z_sin, Int.cast_ofNat_Int, uI_I, uI_J, uL_I, uL_J, uA_I, uA_J, sI_eq, sI_ne, sL_eq, sL_ne, up_eq, up_ne, uL_eq, uL_ne, z_toInt, Int.reduceToNat]) <;> omega)
        have q4 : ¬ I 291 (iZ 300 * iZ (r : Int) + iZ (i : Int)).toNatClampNeg = iZ 9 := by rw [eS]; ((try simp (disch := omega) only [z_i8, z_i16, z_of, z_ofN, z_lofN, z_0, z_1, z_m1, z_l0, z_l1, iZ_add, iZ_sub, iZ_mul, iZ_neg, lZ_add, lZ_sub, lZ_mul, lZ_neg, z_div, z_ldiv, z_l, z_i, z_lt, z_le, z_eq, z_llt, z_lle, z_leq, z_cgt, z_cge, z_clt, z_cle, z_ceq, z_cl, z_nat, Int.toNat_natCast, mm_I, mm_J, z_cln, z_abs, z_max, z_min, z_lmax, z_lmin, z_sin, Int.cast_ofNat_Int, uI_I, uI_J, uL_I, uL_J, uA_I, uA_J, sI_eq, sI_ne, sL_eq, sL_ne, up_eq, up_ne, uL_eq, uL_ne, z_toInt, Int.reduceToNat]) <;> omega)
        rw [hsm] at eS
        refine wf (hs := [6]) 60 6 (by decide) ?_
        refine wF q1 (And.intro hin (And.intro hin (wF q2 (wF q3 (wF q4 (And.intro hp2 (And.intro hp1 ?_)))))))
        refine And.intro rfl (m_both hw eS (And.intro hp2 ?_))
        refine wp_keys [0, 1, 2, 3, 4, 5] rfl rfl ?_
        refine ih (i + 1) (jnL x a b2 :: st) (setL J' 303 (iZ ((st.length + 1 + 1 : Nat) : Int) + iZ (-1) - iZ 1).toNatClampNeg _) _ _ (by omega) (put J' _ _ hF) (SK_putE hS2 hc2 (congr (congrArg (jnL x) ((congrArg (J' _) hc2).trans ha)) ((congrArg (J' _) hc1).trans hb2))) ?_ hk ?_ (iZ_add i 1) hQ
        · simp only [List.length_cons]; omega
        · simp only [List.length_cons]
          rw [show ((st.length + 1 : Nat) : Int) = ((st.length + 1 + 1 : Nat) : Int) + -1 by omega]
          exact iZ_add _ _
theorem m_answer {r fr to : Nat} {c : Nat → Int} {v : am_V} {x y z : Int32} (hr : r < 6) (hA : AS J v) (hto : to ≤ 300) (hle : fr ≤ to) (hE : ∀ k, k < to → ENT (c k) (vI I 291 (300 * r + k)) (vI I 292 (300 * r + k))) (hok : okN c (to - fr) fr 0) (ex : x = iZ r) (ey : y = iZ fr) (ez : z = iZ to) (hQ : ∀ J', (∀ a, a ≠ 303 → J' a = J a) → Q (some (.long ((evN (fun x => lZ (wrdZ v x)) c (to - fr) fr []).headD 0))) (mm I J' A)) : wpC E (d + 2) 216 [.ref 265, .int x, .int y, .int z] (mm I J A) Q := by
  subst ex; subst ey; subst ez
  refine wc (hs := [6]) 20 (by decide) ?_
  refine wp_keys [0, 1, 2, 3, 4, 5] rfl rfl ?_
  exact m_answerL hr hA hto hE (to - fr) fr [] J _ _ (by omega) (fun _ _ => rfl) SK_nil (by simp) hok rfl rfl hQ
end M8
