/-! ===== the class: doors, ports, cargo ===== -/
theorem Wf_por {v : am_V} {k : Nat} {n : Int} (h : Wf v) (hk : k < nP v) : Wf (porZ v k n) := by
  have cb := (capB (h.2.2.1 k hk)).2.2
  exact Wf_set h ⟨by omega, by omega⟩
theorem por_ne {v : am_V} {k : Nat} {n : Int} {a i : Nat} (h : a ≠ 276) : porZ v k n a i = v a i := vset_na h
theorem dor_ne {v : am_V} {k : Nat} {a i : Nat} (h : a ≠ 276) : dorZ v k a i = v a i := by
  unfold dorZ
  split
  · exact por_ne h
  · rfl
theorem prt_ne {v : am_V} {k : Nat} {a i : Nat} (h : a ≠ 276) : prtZ v k a i = v a i := by
  unfold prtZ
  split
  · exact por_ne h
  · rfl
theorem Wf_dor {v : am_V} {k : Nat} (h : Wf v) (hk : WfD v k) : Wf (dorZ v k) := by
  unfold dorZ
  dsimp only
  split
  · exact Wf_por h (by have := hk.1; omega)
  · exact h
theorem Wf_prt {v : am_V} {k : Nat} (h : Wf v) (hk : WfO v k) : Wf (prtZ v k) := by
  unfold prtZ
  dsimp only
  split
  · exact Wf_por h (by have := hk.1; omega)
  · exact h
/-- all rows but one as they were: the holes too -/
theorem WfH_276 {v v' : am_V} (h : WfH v) (e : ∀ a i, a ≠ 276 → v' a i = v a i) : WfH v' := by
  have e1 : nD v' = nD v := by unfold nD; rw [e _ _ (by decide)]
  have e2 : nO v' = nO v := by unfold nO; rw [e _ _ (by decide)]
  have e3 : nL v' = nL v := by unfold nL; rw [e _ _ (by decide)]
  have e4 : nP v' = nP v := by unfold nP; rw [e _ _ (by decide)]
  unfold WfH WfD WfO WfN
  rw [e1, e2, e3, e4]
  refine ⟨fun k hk => ?_, fun k hk => ?_, fun k hk => ?_⟩
  · rw [e _ _ (by decide), e _ _ (by decide), e _ _ (by decide), e _ _ (by decide)]; exact h.1 k hk
  · rw [e _ _ (by decide), e _ _ (by decide), e _ _ (by decide), e _ _ (by decide)]; exact h.2.1 k hk
  · rw [e _ _ (by decide), e _ _ (by decide)]; exact h.2.2 k hk
def drsN (v : am_V) : Nat → am_V
  | 0 => v
  | n + 1 => dorZ (drsN v n) n
def ptsN (v : am_V) : Nat → am_V
  | 0 => v
  | n + 1 => prtZ (ptsN v n) n
def sldN (v : am_V) : Nat → am_V
  | 0 => v
  | n + 1 => if v 279 n < (v 266 7).natAbs then vset (sldN v n) 281 n (if 0 < v 266 7 then 1 else -1) else sldN v n
theorem drs_ne {v : am_V} {n a i : Nat} (h : a ≠ 276) : drsN v n a i = v a i := by
  induction n with
  | zero => rfl
  | succ n ih => exact (dor_ne h).trans ih
theorem pts_ne {v : am_V} {n a i : Nat} (h : a ≠ 276) : ptsN v n a i = v a i := by
  induction n with
  | zero => rfl
  | succ n ih => exact (prt_ne h).trans ih
theorem sld_ne {v : am_V} {n a i : Nat} (h : a ≠ 281) : sldN v n a i = v a i := by
  induction n with
  | zero => rfl
  | succ n ih =>
    unfold sldN
    split
    · rw [vset_na h]; exact ih
    · exact ih
theorem Wf_drs {v : am_V} {n : Nat} (h : Wf v) (hH : WfH v) (hn : n ≤ nD v) : Wf (drsN v n) ∧ WfH (drsN v n) := by
  induction n with
  | zero => exact ⟨h, hH⟩
  | succ n ih =>
    have i := ih (by omega)
    have e : nD (drsN v n) = nD v := by unfold nD; rw [drs_ne (by decide)]
    exact ⟨Wf_dor i.1 (i.2.1 n (by omega)), WfH_276 hH (fun a i h => drs_ne h)⟩
theorem Wf_pts {v : am_V} {n : Nat} (h : Wf v) (hH : WfH v) (hn : n ≤ nO v) : Wf (ptsN v n) ∧ WfH (ptsN v n) := by
  induction n with
  | zero => exact ⟨h, hH⟩
  | succ n ih =>
    have i := ih (by omega)
    have e : nO (ptsN v n) = nO v := by unfold nO; rw [pts_ne (by decide)]
    exact ⟨Wf_prt i.1 (i.2.2.1 n (by omega)), WfH_276 hH (fun a i h => pts_ne h)⟩
theorem Wf_281 {v : am_V} {k : Nat} {x : Int} (h : Wf v) (hx : -1 ≤ x ∧ x ≤ 1) : Wf (vset v 281 k x) := by
  refine ⟨h.1, h.2.1, h.2.2.1, fun j hj => ?_⟩
  obtain ⟨w1, w2, w3, w4, w5⟩ := h.2.2.2 j hj
  refine ⟨w1, w2, w3, w4, ?_⟩
  by_cases hjk : j = k
  · subst hjk; rw [vset_eq]; exact hx
  · rw [vset_ni hjk]; exact w5
theorem Wf_sld {v : am_V} {n : Nat} (h : Wf v) : Wf (sldN v n) := by
  induction n with
  | zero => exact h
  | succ n ih =>
    unfold sldN
    split
    · exact Wf_281 ih (by split <;> omega)
    · exact ih
theorem WfH_281 {v v' : am_V} (h : WfH v) (e : ∀ a i, a ≠ 281 → v' a i = v a i) : WfH v' := by
  have e1 : nD v' = nD v := by unfold nD; rw [e _ _ (by decide)]
  have e2 : nO v' = nO v := by unfold nO; rw [e _ _ (by decide)]
  have e3 : nL v' = nL v := by unfold nL; rw [e _ _ (by decide)]
  have e4 : nP v' = nP v := by unfold nP; rw [e _ _ (by decide)]
  unfold WfH WfD WfO WfN
  rw [e1, e2, e3, e4]
  refine ⟨fun k hk => ?_, fun k hk => ?_, fun k hk => ?_⟩
  · rw [e _ _ (by decide), e _ _ (by decide), e _ _ (by decide), e _ _ (by decide)]; exact h.1 k hk
  · rw [e _ _ (by decide), e _ _ (by decide), e _ _ (by decide), e _ _ (by decide)]; exact h.2.1 k hk
  · rw [e _ _ (by decide), e _ _ (by decide)]; exact h.2.2 k hk
section C8
variable {E : Nat × (Nat → Int32)} {d : Nat} {I : Nat → Nat → Int32} {J : Nat → Nat → Int64} {A : Nat → Option Nat} {Q : Option Value → am_M → Prop} {M : am_M} {β b : Nat} {v : am_V} {mw mu mom : Int}
theorem RS_slid {t : Int} {k : Nat} {x : Int} {y : Int32} (hy : y = iZ x) (hR : RSt I J b v t) : RSt (setI I (b + 19) k y) J b (vset v 281 k x) t := by
  subst hy
  obtain ⟨rs, ra, rp, ⟨rc0, rc⟩, rd, ro, rl⟩ := hR
  have g : ∀ j, j ≠ 19 → setI I (b + 19) k (iZ x) (b + j) = I (b + j) := fun j hj => by
    funext k
    rw [setI_at, if_neg (by omega)]
  have g0 : setI I (b + 19) k (iZ x) b = I b := g 0 (by decide)
  unfold RSt RSs RSp RSd RSo RSl
  unfold RSs at rs
  unfold RSp at rp
  unfold RSd at rd
  unfold RSo at ro
  unfold RSl at rl
  rw [g0, g 1 (by omega), g 2 (by omega), g 3 (by omega), g 4 (by omega), g 5 (by omega), g 6 (by omega), g 7 (by omega), g 8 (by omega), g 9 (by omega), g 10 (by omega), g 11 (by omega), g 13 (by omega), g 14 (by omega), g 20 (by omega), g 21 (by omega), g 22 (by omega), g 23 (by omega), g 24 (by omega), g 25 (by omega), g 26 (by omega), g 27 (by omega), g 28 (by omega), g 29 (by omega), g 30 (by omega), g 31 (by omega), g 32 (by omega)]
  refine ⟨rs, ra, rp, ⟨rc0, fun j hj => ?_⟩, rd, ro, rl⟩
  obtain ⟨u1, u2, u3, u4, u5⟩ := rc j hj
  unfold RSc
  rw [g 15 (by omega), g 16 (by omega), g 17 (by omega), g 18 (by omega)]
  refine ⟨u1, u2, u3, u4, ?_⟩
  rw [setI_at]
  by_cases hjk : j = k
  · subst hjk; rw [if_pos ⟨rfl, rfl⟩, vset_eq]
  · rw [if_neg (fun q => hjk q.2), vset_ni hjk]; exact u5
theorem RS_slidO {k : Nat} {x : Int} {y : Int32} (hy : y = iZ x) (hR : RS I J b v) : RS (setI I (b + 19) k y) J b (vset v 281 k x) := RS_slid hy hR
set_option maxHeartbeats 4000000 in
theorem c_giveWay {x : Int32} (hb : B5 b) (hR : RS I J b v) (hW : Wf v) (ex : x = iZ (v 266 7)) (hQ : ∀ I', RS I' J b (sldN v (nC v)) → Fr b I I' → Q none (mm I' J A)) : wpC E (d + 1) 16 [.ref (b + 14), .int x] (mm I J A) Q := by
  have hlc : nC v ≤ 6 := by have := hW.1.2.2.2.2.2.2.2.2.2.1; unfold nC; omega
  have l := hW.1.2.2.2.2.2.2.1
  subst ex
  have nCe : ∀ n, nC (sldN v n) = nC v := fun n => by unfold nC; rw [sld_ne (by decide)]
  rcases id hb with rfl | rfl | rfl | rfl | rfl
  · refine wc (hs := [2]) 40 (by decide) ?_
    refine wp_keys [0, 1, 2] rfl rfl ?_
    have L := lpU (σ := (Nat → Nat → Int32) × Int32) (fun _ s => wp E (d + 1) 16 2 [(0, .ref (1 + 14)), (1, .int (iZ (v 266 7))), (2, .int s.2)] [] (mm s.1 J A) Q) (fun i s => (RS s.1 J 1 (sldN v i) ∧ Fr 1 I s.1) ∧ s.2 = iZ i) (nC v) ?_ ?_
    · exact L 0 (_, _) (by omega) ⟨⟨hR, fun a _ => rfl⟩, rfl⟩
    · rintro ⟨I', x2⟩ ⟨⟨hR', hF⟩, e2⟩
      dsimp only at hR' hF e2
      subst e2
      have c0 : I' (1 + 14) 0 = iZ (nC v) := by have := hR'.2.2.2.1.1; rw [nCe] at this; exact this
      refine wf (hs := [2]) 40 2 (by decide) ?_
      refine wt (Int32.le_of_eq c0) ?_
      exact hQ I' hR' hF
    · rintro i ⟨I', x2⟩ hi ⟨⟨hR', hF⟩, e2⟩ ih
      dsimp only at hR' hF e2
      subst e2
      have c0 : I' (1 + 14) 0 = iZ (nC v) := by have := hR'.2.2.2.1.1; rw [nCe] at this; exact this
      have hin : vp_in (iZ (i : Int)) 6 := z_in (by omega) (by omega) (by omega)
      obtain ⟨u1, u2, u3, u4, u5⟩ := hR'.2.2.2.1.2 i (by rw [nCe]; exact hi)
      obtain ⟨w1, w2, w3, w4, w5⟩ := hW.2.2.2 i hi
      rw [sld_ne (by decide)] at u3
      refine wf (hs := [2]) 40 2 (by decide) ?_
      refine wF (by show ¬ I' (1 + 14) 0 ≤ iZ i; rw [c0]; simp (disch := omega) only [z_i8, z_i16, z_of, z_ofN, z_lofN, z_0, z_1, z_m1, z_l0, z_l1, iZ_add, iZ_sub, iZ_mul, iZ_neg, lZ_add, lZ_sub, lZ_mul, lZ_neg, z_div, z_ldiv, z_l, z_i, z_lt, z_le, z_eq, z_llt, z_lle, z_leq, z_cgt, z_cge, z_clt, z_cle, z_ceq, z_cl, z_nat, Int.toNat_natCast, mm_I, mm_J, z_cln, z_abs, z_max, z_min, z_lmax, z_lmin, z_sin, Int.cast_ofNat_Int, uI_I, uI_J, uL_I, uL_J, uA_I, uA_J, sI_eq, sI_ne, sL_eq, sL_ne, up_eq, up_ne, uL_eq, uL_ne]; omega) ?_
      simp only [Nat.reduceAdd] at u3
      refine And.intro hin (And.intro (fun q => ?_) (fun q => ?_))
      · simp (disch := omega) only [z_i8, z_i16, z_of, z_ofN, z_lofN, z_0, z_1, z_m1, z_l0, z_l1, iZ_add, iZ_sub, iZ_mul, iZ_neg, lZ_add, lZ_sub, lZ_mul, lZ_neg, z_div, z_ldiv, z_l, z_i, z_lt, z_le, z_eq, z_llt, z_lle, z_leq, z_cgt, z_cge, z_clt, z_cle, z_ceq, z_cl, z_nat, Int.toNat_natCast, mm_I, mm_J, z_cln, z_abs, z_max, z_min, z_lmax, z_lmin, z_sin, Int.cast_ofNat_Int, uI_I, uI_J, uL_I, uL_J, uA_I, uA_J, sI_eq, sI_ne, sL_eq, sL_ne, up_eq, up_ne, uL_eq, uL_ne, u3] at q
        refine wp_keys [0, 1, 2] rfl rfl ?_
        refine ih (_, _) ⟨⟨?_, hF⟩, iZ_add i 1⟩
        unfold sldN
        rw [if_neg (by omega)]
        exact hR'
      · simp (disch := omega) only [z_i8, z_i16, z_of, z_ofN, z_lofN, z_0, z_1, z_m1, z_l0, z_l1, iZ_add, iZ_sub, iZ_mul, iZ_neg, lZ_add, lZ_sub, lZ_mul, lZ_neg, z_div, z_ldiv, z_l, z_i, z_lt, z_le, z_eq, z_llt, z_lle, z_leq, z_cgt, z_cge, z_clt, z_cle, z_ceq, z_cl, z_nat, Int.toNat_natCast, mm_I, mm_J, z_cln, z_abs, z_max, z_min, z_lmax, z_lmin, z_sin, Int.cast_ofNat_Int, uI_I, uI_J, uL_I, uL_J, uA_I, uA_J, sI_eq, sI_ne, sL_eq, sL_ne, up_eq, up_ne, uL_eq, uL_ne, u3] at q
        have fr : ∀ y, Fr 1 I (setI I' (1 + 19) i y) := fun y a ha => by
          rw [← hF a ha]
          funext k
          rw [setI_at, if_neg (by omega)]
        have hc : (iZ (i : Int)).toNatClampNeg = i := z_cln (by omega)
        refine And.intro (fun q2 => ?_) (fun q2 => ?_)
        · simp (disch := omega) only [z_i8, z_i16, z_of, z_ofN, z_lofN, z_0, z_1, z_m1, z_l0, z_l1, iZ_add, iZ_sub, iZ_mul, iZ_neg, lZ_add, lZ_sub, lZ_mul, lZ_neg, z_div, z_ldiv, z_l, z_i, z_lt, z_le, z_eq, z_llt, z_lle, z_leq, z_cgt, z_cge, z_clt, z_cle, z_ceq, z_cl, z_nat, Int.toNat_natCast, mm_I, mm_J, z_cln, z_abs, z_max, z_min, z_lmax, z_lmin, z_sin, Int.cast_ofNat_Int, uI_I, uI_J, uL_I, uL_J, uA_I, uA_J, sI_eq, sI_ne, sL_eq, sL_ne, up_eq, up_ne, uL_eq, uL_ne] at q2
          refine And.intro hin ?_
          refine wp_keys [0, 1, 2] rfl rfl ?_
          refine ih (setI I' (1 + 19) (iZ (i : Int)).toNatClampNeg _, _) ⟨⟨?_, ?_⟩, iZ_add i 1⟩
          · rw [hc]
            unfold sldN
            rw [if_pos (by omega), if_neg (by omega)]
            exact RS_slidO rfl hR'
          · rw [hc]; exact fr _
        · simp (disch := omega) only [z_i8, z_i16, z_of, z_ofN, z_lofN, z_0, z_1, z_m1, z_l0, z_l1, iZ_add, iZ_sub, iZ_mul, iZ_neg, lZ_add, lZ_sub, lZ_mul, lZ_neg, z_div, z_ldiv, z_l, z_i, z_lt, z_le, z_eq, z_llt, z_lle, z_leq, z_cgt, z_cge, z_clt, z_cle, z_ceq, z_cl, z_nat, Int.toNat_natCast, mm_I, mm_J, z_cln, z_abs, z_max, z_min, z_lmax, z_lmin, z_sin, Int.cast_ofNat_Int, uI_I, uI_J, uL_I, uL_J, uA_I, uA_J, sI_eq, sI_ne, sL_eq, sL_ne, up_eq, up_ne, uL_eq, uL_ne] at q2
          refine And.intro hin ?_
          refine wp_keys [0, 1, 2] rfl rfl ?_
          refine ih (setI I' (1 + 19) (iZ (i : Int)).toNatClampNeg _, _) ⟨⟨?_, ?_⟩, iZ_add i 1⟩
          · rw [hc]
            unfold sldN
            rw [if_pos (by omega), if_pos (by omega)]
            exact RS_slidO rfl hR'
          · rw [hc]; exact fr _
  · refine wc (hs := [2]) 40 (by decide) ?_
    refine wp_keys [0, 1, 2] rfl rfl ?_
    have L := lpU (σ := (Nat → Nat → Int32) × Int32) (fun _ s => wp E (d + 1) 16 2 [(0, .ref (35 + 14)), (1, .int (iZ (v 266 7))), (2, .int s.2)] [] (mm s.1 J A) Q) (fun i s => (RS s.1 J 35 (sldN v i) ∧ Fr 35 I s.1) ∧ s.2 = iZ i) (nC v) ?_ ?_
    · exact L 0 (_, _) (by omega) ⟨⟨hR, fun a _ => rfl⟩, rfl⟩
    · rintro ⟨I', x2⟩ ⟨⟨hR', hF⟩, e2⟩
      dsimp only at hR' hF e2
      subst e2
      have c0 : I' (35 + 14) 0 = iZ (nC v) := by have := hR'.2.2.2.1.1; rw [nCe] at this; exact this
      refine wf (hs := [2]) 40 2 (by decide) ?_
      refine wt (Int32.le_of_eq c0) ?_
      exact hQ I' hR' hF
    · rintro i ⟨I', x2⟩ hi ⟨⟨hR', hF⟩, e2⟩ ih
      dsimp only at hR' hF e2
      subst e2
      have c0 : I' (35 + 14) 0 = iZ (nC v) := by have := hR'.2.2.2.1.1; rw [nCe] at this; exact this
      have hin : vp_in (iZ (i : Int)) 6 := z_in (by omega) (by omega) (by omega)
      obtain ⟨u1, u2, u3, u4, u5⟩ := hR'.2.2.2.1.2 i (by rw [nCe]; exact hi)
      obtain ⟨w1, w2, w3, w4, w5⟩ := hW.2.2.2 i hi
      rw [sld_ne (by decide)] at u3
      refine wf (hs := [2]) 40 2 (by decide) ?_
      refine wF (by show ¬ I' (35 + 14) 0 ≤ iZ i; rw [c0]; simp (disch := omega) only [z_i8, z_i16, z_of, z_ofN, z_lofN, z_0, z_1, z_m1, z_l0, z_l1, iZ_add, iZ_sub, iZ_mul, iZ_neg, lZ_add, lZ_sub, lZ_mul, lZ_neg, z_div, z_ldiv, z_l, z_i, z_lt, z_le, z_eq, z_llt, z_lle, z_leq, z_cgt, z_cge, z_clt, z_cle, z_ceq, z_cl, z_nat, Int.toNat_natCast, mm_I, mm_J, z_cln, z_abs, z_max, z_min, z_lmax, z_lmin, z_sin, Int.cast_ofNat_Int, uI_I, uI_J, uL_I, uL_J, uA_I, uA_J, sI_eq, sI_ne, sL_eq, sL_ne, up_eq, up_ne, uL_eq, uL_ne]; omega) ?_
      simp only [Nat.reduceAdd] at u3
      refine And.intro hin (And.intro (fun q => ?_) (fun q => ?_))
      · simp (disch := omega) only [z_i8, z_i16, z_of, z_ofN, z_lofN, z_0, z_1, z_m1, z_l0, z_l1, iZ_add, iZ_sub, iZ_mul, iZ_neg, lZ_add, lZ_sub, lZ_mul, lZ_neg, z_div, z_ldiv, z_l, z_i, z_lt, z_le, z_eq, z_llt, z_lle, z_leq, z_cgt, z_cge, z_clt, z_cle, z_ceq, z_cl, z_nat, Int.toNat_natCast, mm_I, mm_J, z_cln, z_abs, z_max, z_min, z_lmax, z_lmin, z_sin, Int.cast_ofNat_Int, uI_I, uI_J, uL_I, uL_J, uA_I, uA_J, sI_eq, sI_ne, sL_eq, sL_ne, up_eq, up_ne, uL_eq, uL_ne, u3] at q
        refine wp_keys [0, 1, 2] rfl rfl ?_
        refine ih (_, _) ⟨⟨?_, hF⟩, iZ_add i 1⟩
        unfold sldN
        rw [if_neg (by omega)]
        exact hR'
      · simp (disch := omega) only [z_i8, z_i16, z_of, z_ofN, z_lofN, z_0, z_1, z_m1, z_l0, z_l1, iZ_add, iZ_sub, iZ_mul, iZ_neg, lZ_add, lZ_sub, lZ_mul, lZ_neg, z_div, z_ldiv, z_l, z_i, z_lt, z_le, z_eq, z_llt, z_lle, z_leq, z_cgt, z_cge, z_clt, z_cle, z_ceq, z_cl, z_nat, Int.toNat_natCast, mm_I, mm_J, z_cln, z_abs, z_max, z_min, z_lmax, z_lmin, z_sin, Int.cast_ofNat_Int, uI_I, uI_J, uL_I, uL_J, uA_I, uA_J, sI_eq, sI_ne, sL_eq, sL_ne, up_eq, up_ne, uL_eq, uL_ne, u3] at q
        have fr : ∀ y, Fr 35 I (setI I' (35 + 19) i y) := fun y a ha => by
          rw [← hF a ha]
          funext k
          rw [setI_at, if_neg (by omega)]
        have hc : (iZ (i : Int)).toNatClampNeg = i := z_cln (by omega)
        refine And.intro (fun q2 => ?_) (fun q2 => ?_)
        · simp (disch := omega) only [z_i8, z_i16, z_of, z_ofN, z_lofN, z_0, z_1, z_m1, z_l0, z_l1, iZ_add, iZ_sub, iZ_mul, iZ_neg, lZ_add, lZ_sub, lZ_mul, lZ_neg, z_div, z_ldiv, z_l, z_i, z_lt, z_le, z_eq, z_llt, z_lle, z_leq, z_cgt, z_cge, z_clt, z_cle, z_ceq, z_cl, z_nat, Int.toNat_natCast, mm_I, mm_J, z_cln, z_abs, z_max, z_min, z_lmax, z_lmin, z_sin, Int.cast_ofNat_Int, uI_I, uI_J, uL_I, uL_J, uA_I, uA_J, sI_eq, sI_ne, sL_eq, sL_ne, up_eq, up_ne, uL_eq, uL_ne] at q2
          refine And.intro hin ?_
          refine wp_keys [0, 1, 2] rfl rfl ?_
          refine ih (setI I' (35 + 19) (iZ (i : Int)).toNatClampNeg _, _) ⟨⟨?_, ?_⟩, iZ_add i 1⟩
          · rw [hc]
            unfold sldN
            rw [if_pos (by omega), if_neg (by omega)]
            exact RS_slidO rfl hR'
          · rw [hc]; exact fr _
        · simp (disch := omega) only [z_i8, z_i16, z_of, z_ofN, z_lofN, z_0, z_1, z_m1, z_l0, z_l1, iZ_add, iZ_sub, iZ_mul, iZ_neg, lZ_add, lZ_sub, lZ_mul, lZ_neg, z_div, z_ldiv, z_l, z_i, z_lt, z_le, z_eq, z_llt, z_lle, z_leq, z_cgt, z_cge, z_clt, z_cle, z_ceq, z_cl, z_nat, Int.toNat_natCast, mm_I, mm_J, z_cln, z_abs, z_max, z_min, z_lmax, z_lmin, z_sin, Int.cast_ofNat_Int, uI_I, uI_J, uL_I, uL_J, uA_I, uA_J, sI_eq, sI_ne, sL_eq, sL_ne, up_eq, up_ne, uL_eq, uL_ne] at q2
          refine And.intro hin ?_
          refine wp_keys [0, 1, 2] rfl rfl ?_
          refine ih (setI I' (35 + 19) (iZ (i : Int)).toNatClampNeg _, _) ⟨⟨?_, ?_⟩, iZ_add i 1⟩
          · rw [hc]
            unfold sldN
            rw [if_pos (by omega), if_pos (by omega)]
            exact RS_slidO rfl hR'
          · rw [hc]; exact fr _
  · refine wc (hs := [2]) 40 (by decide) ?_
    refine wp_keys [0, 1, 2] rfl rfl ?_
    have L := lpU (σ := (Nat → Nat → Int32) × Int32) (fun _ s => wp E (d + 1) 16 2 [(0, .ref (68 + 14)), (1, .int (iZ (v 266 7))), (2, .int s.2)] [] (mm s.1 J A) Q) (fun i s => (RS s.1 J 68 (sldN v i) ∧ Fr 68 I s.1) ∧ s.2 = iZ i) (nC v) ?_ ?_
    · exact L 0 (_, _) (by omega) ⟨⟨hR, fun a _ => rfl⟩, rfl⟩
    · rintro ⟨I', x2⟩ ⟨⟨hR', hF⟩, e2⟩
      dsimp only at hR' hF e2
      subst e2
      have c0 : I' (68 + 14) 0 = iZ (nC v) := by have := hR'.2.2.2.1.1; rw [nCe] at this; exact this
      refine wf (hs := [2]) 40 2 (by decide) ?_
      refine wt (Int32.le_of_eq c0) ?_
      exact hQ I' hR' hF
    · rintro i ⟨I', x2⟩ hi ⟨⟨hR', hF⟩, e2⟩ ih
      dsimp only at hR' hF e2
      subst e2
      have c0 : I' (68 + 14) 0 = iZ (nC v) := by have := hR'.2.2.2.1.1; rw [nCe] at this; exact this
      have hin : vp_in (iZ (i : Int)) 6 := z_in (by omega) (by omega) (by omega)
      obtain ⟨u1, u2, u3, u4, u5⟩ := hR'.2.2.2.1.2 i (by rw [nCe]; exact hi)
      obtain ⟨w1, w2, w3, w4, w5⟩ := hW.2.2.2 i hi
      rw [sld_ne (by decide)] at u3
      refine wf (hs := [2]) 40 2 (by decide) ?_
      refine wF (by show ¬ I' (68 + 14) 0 ≤ iZ i; rw [c0]; simp (disch := omega) only [z_i8, z_i16, z_of, z_ofN, z_lofN, z_0, z_1, z_m1, z_l0, z_l1, iZ_add, iZ_sub, iZ_mul, iZ_neg, lZ_add, lZ_sub, lZ_mul, lZ_neg, z_div, z_ldiv, z_l, z_i, z_lt, z_le, z_eq, z_llt, z_lle, z_leq, z_cgt, z_cge, z_clt, z_cle, z_ceq, z_cl, z_nat, Int.toNat_natCast, mm_I, mm_J, z_cln, z_abs, z_max, z_min, z_lmax, z_lmin, z_sin, Int.cast_ofNat_Int, uI_I, uI_J, uL_I, uL_J, uA_I, uA_J, sI_eq, sI_ne, sL_eq, sL_ne, up_eq, up_ne, uL_eq, uL_ne]; omega) ?_
      simp only [Nat.reduceAdd] at u3
      refine And.intro hin (And.intro (fun q => ?_) (fun q => ?_))
      · simp (disch := omega) only [z_i8, z_i16, z_of, z_ofN, z_lofN, z_0, z_1, z_m1, z_l0, z_l1, iZ_add, iZ_sub, iZ_mul, iZ_neg, lZ_add, lZ_sub, lZ_mul, lZ_neg, z_div, z_ldiv, z_l, z_i, z_lt, z_le, z_eq, z_llt, z_lle, z_leq, z_cgt, z_cge, z_clt, z_cle, z_ceq, z_cl, z_nat, Int.toNat_natCast, mm_I, mm_J, z_cln, z_abs, z_max, z_min, z_lmax, z_lmin, z_sin, Int.cast_ofNat_Int, uI_I, uI_J, uL_I, uL_J, uA_I, uA_J, sI_eq, sI_ne, sL_eq, sL_ne, up_eq, up_ne, uL_eq, uL_ne, u3] at q
        refine wp_keys [0, 1, 2] rfl rfl ?_
        refine ih (_, _) ⟨⟨?_, hF⟩, iZ_add i 1⟩
        unfold sldN
        rw [if_neg (by omega)]
        exact hR'
      · simp (disch := omega) only [z_i8, z_i16, z_of, z_ofN, z_lofN, z_0, z_1, z_m1, z_l0, z_l1, iZ_add, iZ_sub, iZ_mul, iZ_neg, lZ_add, lZ_sub, lZ_mul, lZ_neg, z_div, z_ldiv, z_l, z_i, z_lt, z_le, z_eq, z_llt, z_lle, z_leq, z_cgt, z_cge, z_clt, z_cle, z_ceq, z_cl, z_nat, Int.toNat_natCast, mm_I, mm_J, z_cln, z_abs, z_max, z_min, z_lmax, z_lmin, z_sin, Int.cast_ofNat_Int, uI_I, uI_J, uL_I, uL_J, uA_I, uA_J, sI_eq, sI_ne, sL_eq, sL_ne, up_eq, up_ne, uL_eq, uL_ne, u3] at q
        have fr : ∀ y, Fr 68 I (setI I' (68 + 19) i y) := fun y a ha => by
          rw [← hF a ha]
          funext k
          rw [setI_at, if_neg (by omega)]
        have hc : (iZ (i : Int)).toNatClampNeg = i := z_cln (by omega)
        refine And.intro (fun q2 => ?_) (fun q2 => ?_)
        · simp (disch := omega) only [z_i8, z_i16, z_of, z_ofN, z_lofN, z_0, z_1, z_m1, z_l0, z_l1, iZ_add, iZ_sub, iZ_mul, iZ_neg, lZ_add, lZ_sub, lZ_mul, lZ_neg, z_div, z_ldiv, z_l, z_i, z_lt, z_le, z_eq, z_llt, z_lle, z_leq, z_cgt, z_cge, z_clt, z_cle, z_ceq, z_cl, z_nat, Int.toNat_natCast, mm_I, mm_J, z_cln, z_abs, z_max, z_min, z_lmax, z_lmin, z_sin, Int.cast_ofNat_Int, uI_I, uI_J, uL_I, uL_J, uA_I, uA_J, sI_eq, sI_ne, sL_eq, sL_ne, up_eq, up_ne, uL_eq, uL_ne] at q2
          refine And.intro hin ?_
          refine wp_keys [0, 1, 2] rfl rfl ?_
          refine ih (setI I' (68 + 19) (iZ (i : Int)).toNatClampNeg _, _) ⟨⟨?_, ?_⟩, iZ_add i 1⟩
          · rw [hc]
            unfold sldN
            rw [if_pos (by omega), if_neg (by omega)]
            exact RS_slidO rfl hR'
          · rw [hc]; exact fr _
        · simp (disch := omega) only [z_i8, z_i16, z_of, z_ofN, z_lofN, z_0, z_1, z_m1, z_l0, z_l1, iZ_add, iZ_sub, iZ_mul, iZ_neg, lZ_add, lZ_sub, lZ_mul, lZ_neg, z_div, z_ldiv, z_l, z_i, z_lt, z_le, z_eq, z_llt, z_lle, z_leq, z_cgt, z_cge, z_clt, z_cle, z_ceq, z_cl, z_nat, Int.toNat_natCast, mm_I, mm_J, z_cln, z_abs, z_max, z_min, z_lmax, z_lmin, z_sin, Int.cast_ofNat_Int, uI_I, uI_J, uL_I, uL_J, uA_I, uA_J, sI_eq, sI_ne, sL_eq, sL_ne, up_eq, up_ne, uL_eq, uL_ne] at q2
          refine And.intro hin ?_
          refine wp_keys [0, 1, 2] rfl rfl ?_
          refine ih (setI I' (68 + 19) (iZ (i : Int)).toNatClampNeg _, _) ⟨⟨?_, ?_⟩, iZ_add i 1⟩
          · rw [hc]
            unfold sldN
            rw [if_pos (by omega), if_pos (by omega)]
            exact RS_slidO rfl hR'
          · rw [hc]; exact fr _
  · refine wc (hs := [2]) 40 (by decide) ?_
    refine wp_keys [0, 1, 2] rfl rfl ?_
    have L := lpU (σ := (Nat → Nat → Int32) × Int32) (fun _ s => wp E (d + 1) 16 2 [(0, .ref (101 + 14)), (1, .int (iZ (v 266 7))), (2, .int s.2)] [] (mm s.1 J A) Q) (fun i s => (RS s.1 J 101 (sldN v i) ∧ Fr 101 I s.1) ∧ s.2 = iZ i) (nC v) ?_ ?_
    · exact L 0 (_, _) (by omega) ⟨⟨hR, fun a _ => rfl⟩, rfl⟩
    · rintro ⟨I', x2⟩ ⟨⟨hR', hF⟩, e2⟩
      dsimp only at hR' hF e2
      subst e2
      have c0 : I' (101 + 14) 0 = iZ (nC v) := by have := hR'.2.2.2.1.1; rw [nCe] at this; exact this
      refine wf (hs := [2]) 40 2 (by decide) ?_
      refine wt (Int32.le_of_eq c0) ?_
      exact hQ I' hR' hF
    · rintro i ⟨I', x2⟩ hi ⟨⟨hR', hF⟩, e2⟩ ih
      dsimp only at hR' hF e2
      subst e2
      have c0 : I' (101 + 14) 0 = iZ (nC v) := by have := hR'.2.2.2.1.1; rw [nCe] at this; exact this
      have hin : vp_in (iZ (i : Int)) 6 := z_in (by omega) (by omega) (by omega)
      obtain ⟨u1, u2, u3, u4, u5⟩ := hR'.2.2.2.1.2 i (by rw [nCe]; exact hi)
      obtain ⟨w1, w2, w3, w4, w5⟩ := hW.2.2.2 i hi
      rw [sld_ne (by decide)] at u3
      refine wf (hs := [2]) 40 2 (by decide) ?_
      refine wF (by show ¬ I' (101 + 14) 0 ≤ iZ i; rw [c0]; simp (disch := omega) only [z_i8, z_i16, z_of, z_ofN, z_lofN, z_0, z_1, z_m1, z_l0, z_l1, iZ_add, iZ_sub, iZ_mul, iZ_neg, lZ_add, lZ_sub, lZ_mul, lZ_neg, z_div, z_ldiv, z_l, z_i, z_lt, z_le, z_eq, z_llt, z_lle, z_leq, z_cgt, z_cge, z_clt, z_cle, z_ceq, z_cl, z_nat, Int.toNat_natCast, mm_I, mm_J, z_cln, z_abs, z_max, z_min, z_lmax, z_lmin, z_sin, Int.cast_ofNat_Int, uI_I, uI_J, uL_I, uL_J, uA_I, uA_J, sI_eq, sI_ne, sL_eq, sL_ne, up_eq, up_ne, uL_eq, uL_ne]; omega) ?_
      simp only [Nat.reduceAdd] at u3
      refine And.intro hin (And.intro (fun q => ?_) (fun q => ?_))
      · simp (disch := omega) only [z_i8, z_i16, z_of, z_ofN, z_lofN, z_0, z_1, z_m1, z_l0, z_l1, iZ_add, iZ_sub, iZ_mul, iZ_neg, lZ_add, lZ_sub, lZ_mul, lZ_neg, z_div, z_ldiv, z_l, z_i, z_lt, z_le, z_eq, z_llt, z_lle, z_leq, z_cgt, z_cge, z_clt, z_cle, z_ceq, z_cl, z_nat, Int.toNat_natCast, mm_I, mm_J, z_cln, z_abs, z_max, z_min, z_lmax, z_lmin, z_sin, Int.cast_ofNat_Int, uI_I, uI_J, uL_I, uL_J, uA_I, uA_J, sI_eq, sI_ne, sL_eq, sL_ne, up_eq, up_ne, uL_eq, uL_ne, u3] at q
        refine wp_keys [0, 1, 2] rfl rfl ?_
        refine ih (_, _) ⟨⟨?_, hF⟩, iZ_add i 1⟩
        unfold sldN
        rw [if_neg (by omega)]
        exact hR'
      · simp (disch := omega) only [z_i8, z_i16, z_of, z_ofN, z_lofN, z_0, z_1, z_m1, z_l0, z_l1, iZ_add, iZ_sub, iZ_mul, iZ_neg, lZ_add, lZ_sub, lZ_mul, lZ_neg, z_div, z_ldiv, z_l, z_i, z_lt, z_le, z_eq, z_llt, z_lle, z_leq, z_cgt, z_cge, z_clt, z_cle, z_ceq, z_cl, z_nat, Int.toNat_natCast, mm_I, mm_J, z_cln, z_abs, z_max, z_min, z_lmax, z_lmin, z_sin, Int.cast_ofNat_Int, uI_I, uI_J, uL_I, uL_J, uA_I, uA_J, sI_eq, sI_ne, sL_eq, sL_ne, up_eq, up_ne, uL_eq, uL_ne, u3] at q
        have fr : ∀ y, Fr 101 I (setI I' (101 + 19) i y) := fun y a ha => by
          rw [← hF a ha]
          funext k
          rw [setI_at, if_neg (by omega)]
        have hc : (iZ (i : Int)).toNatClampNeg = i := z_cln (by omega)
        refine And.intro (fun q2 => ?_) (fun q2 => ?_)
        · simp (disch := omega) only [z_i8, z_i16, z_of, z_ofN, z_lofN, z_0, z_1, z_m1, z_l0, z_l1, iZ_add, iZ_sub, iZ_mul, iZ_neg, lZ_add, lZ_sub, lZ_mul, lZ_neg, z_div, z_ldiv, z_l, z_i, z_lt, z_le, z_eq, z_llt, z_lle, z_leq, z_cgt, z_cge, z_clt, z_cle, z_ceq, z_cl, z_nat, Int.toNat_natCast, mm_I, mm_J, z_cln, z_abs, z_max, z_min, z_lmax, z_lmin, z_sin, Int.cast_ofNat_Int, uI_I, uI_J, uL_I, uL_J, uA_I, uA_J, sI_eq, sI_ne, sL_eq, sL_ne, up_eq, up_ne, uL_eq, uL_ne] at q2
          refine And.intro hin ?_
          refine wp_keys [0, 1, 2] rfl rfl ?_
          refine ih (setI I' (101 + 19) (iZ (i : Int)).toNatClampNeg _, _) ⟨⟨?_, ?_⟩, iZ_add i 1⟩
          · rw [hc]
            unfold sldN
            rw [if_pos (by omega), if_neg (by omega)]
            exact RS_slidO rfl hR'
          · rw [hc]; exact fr _
        · simp (disch := omega) only [z_i8, z_i16, z_of, z_ofN, z_lofN, z_0, z_1, z_m1, z_l0, z_l1, iZ_add, iZ_sub, iZ_mul, iZ_neg, lZ_add, lZ_sub, lZ_mul, lZ_neg, z_div, z_ldiv, z_l, z_i, z_lt, z_le, z_eq, z_llt, z_lle, z_leq, z_cgt, z_cge, z_clt, z_cle, z_ceq, z_cl, z_nat, Int.toNat_natCast, mm_I, mm_J, z_cln, z_abs, z_max, z_min, z_lmax, z_lmin, z_sin, Int.cast_ofNat_Int, uI_I, uI_J, uL_I, uL_J, uA_I, uA_J, sI_eq, sI_ne, sL_eq, sL_ne, up_eq, up_ne, uL_eq, uL_ne] at q2
          refine And.intro hin ?_
          refine wp_keys [0, 1, 2] rfl rfl ?_
          refine ih (setI I' (101 + 19) (iZ (i : Int)).toNatClampNeg _, _) ⟨⟨?_, ?_⟩, iZ_add i 1⟩
          · rw [hc]
            unfold sldN
            rw [if_pos (by omega), if_pos (by omega)]
            exact RS_slidO rfl hR'
          · rw [hc]; exact fr _
  · refine wc (hs := [2]) 40 (by decide) ?_
    refine wp_keys [0, 1, 2] rfl rfl ?_
    have L := lpU (σ := (Nat → Nat → Int32) × Int32) (fun _ s => wp E (d + 1) 16 2 [(0, .ref (134 + 14)), (1, .int (iZ (v 266 7))), (2, .int s.2)] [] (mm s.1 J A) Q) (fun i s => (RS s.1 J 134 (sldN v i) ∧ Fr 134 I s.1) ∧ s.2 = iZ i) (nC v) ?_ ?_
    · exact L 0 (_, _) (by omega) ⟨⟨hR, fun a _ => rfl⟩, rfl⟩
    · rintro ⟨I', x2⟩ ⟨⟨hR', hF⟩, e2⟩
      dsimp only at hR' hF e2
      subst e2
      have c0 : I' (134 + 14) 0 = iZ (nC v) := by have := hR'.2.2.2.1.1; rw [nCe] at this; exact this
      refine wf (hs := [2]) 40 2 (by decide) ?_
      refine wt (Int32.le_of_eq c0) ?_
      exact hQ I' hR' hF
    · rintro i ⟨I', x2⟩ hi ⟨⟨hR', hF⟩, e2⟩ ih
      dsimp only at hR' hF e2
      subst e2
      have c0 : I' (134 + 14) 0 = iZ (nC v) := by have := hR'.2.2.2.1.1; rw [nCe] at this; exact this
      have hin : vp_in (iZ (i : Int)) 6 := z_in (by omega) (by omega) (by omega)
      obtain ⟨u1, u2, u3, u4, u5⟩ := hR'.2.2.2.1.2 i (by rw [nCe]; exact hi)
      obtain ⟨w1, w2, w3, w4, w5⟩ := hW.2.2.2 i hi
      rw [sld_ne (by decide)] at u3
      refine wf (hs := [2]) 40 2 (by decide) ?_
      refine wF (by show ¬ I' (134 + 14) 0 ≤ iZ i; rw [c0]; simp (disch := omega) only [z_i8, z_i16, z_of, z_ofN, z_lofN, z_0, z_1, z_m1, z_l0, z_l1, iZ_add, iZ_sub, iZ_mul, iZ_neg, lZ_add, lZ_sub, lZ_mul, lZ_neg, z_div, z_ldiv, z_l, z_i, z_lt, z_le, z_eq, z_llt, z_lle, z_leq, z_cgt, z_cge, z_clt, z_cle, z_ceq, z_cl, z_nat, Int.toNat_natCast, mm_I, mm_J, z_cln, z_abs, z_max, z_min, z_lmax, z_lmin, z_sin, Int.cast_ofNat_Int, uI_I, uI_J, uL_I, uL_J, uA_I, uA_J, sI_eq, sI_ne, sL_eq, sL_ne, up_eq, up_ne, uL_eq, uL_ne]; omega) ?_
      simp only [Nat.reduceAdd] at u3
      refine And.intro hin (And.intro (fun q => ?_) (fun q => ?_))
      · simp (disch := omega) only [z_i8, z_i16, z_of, z_ofN, z_lofN, z_0, z_1, z_m1, z_l0, z_l1, iZ_add, iZ_sub, iZ_mul, iZ_neg, lZ_add, lZ_sub, lZ_mul, lZ_neg, z_div, z_ldiv, z_l, z_i, z_lt, z_le, z_eq, z_llt, z_lle, z_leq, z_cgt, z_cge, z_clt, z_cle, z_ceq, z_cl, z_nat, Int.toNat_natCast, mm_I, mm_J, z_cln, z_abs, z_max, z_min, z_lmax, z_lmin, z_sin, Int.cast_ofNat_Int, uI_I, uI_J, uL_I, uL_J, uA_I, uA_J, sI_eq, sI_ne, sL_eq, sL_ne, up_eq, up_ne, uL_eq, uL_ne, u3] at q
        refine wp_keys [0, 1, 2] rfl rfl ?_
        refine ih (_, _) ⟨⟨?_, hF⟩, iZ_add i 1⟩
        unfold sldN
        rw [if_neg (by omega)]
        exact hR'
      · simp (disch := omega) only [z_i8, z_i16, z_of, z_ofN, z_lofN, z_0, z_1, z_m1, z_l0, z_l1, iZ_add, iZ_sub, iZ_mul, iZ_neg, lZ_add, lZ_sub, lZ_mul, lZ_neg, z_div, z_ldiv, z_l, z_i, z_lt, z_le, z_eq, z_llt, z_lle, z_leq, z_cgt, z_cge, z_clt, z_cle, z_ceq, z_cl, z_nat, Int.toNat_natCast, mm_I, mm_J, z_cln, z_abs, z_max, z_min, z_lmax, z_lmin, z_sin, Int.cast_ofNat_Int, uI_I, uI_J, uL_I, uL_J, uA_I, uA_J, sI_eq, sI_ne, sL_eq, sL_ne, up_eq, up_ne, uL_eq, uL_ne, u3] at q
        have fr : ∀ y, Fr 134 I (setI I' (134 + 19) i y) := fun y a ha => by
          rw [← hF a ha]
          funext k
          rw [setI_at, if_neg (by omega)]
        have hc : (iZ (i : Int)).toNatClampNeg = i := z_cln (by omega)
        refine And.intro (fun q2 => ?_) (fun q2 => ?_)
        · simp (disch := omega) only [z_i8, z_i16, z_of, z_ofN, z_lofN, z_0, z_1, z_m1, z_l0, z_l1, iZ_add, iZ_sub, iZ_mul, iZ_neg, lZ_add, lZ_sub, lZ_mul, lZ_neg, z_div, z_ldiv, z_l, z_i, z_lt, z_le, z_eq, z_llt, z_lle, z_leq, z_cgt, z_cge, z_clt, z_cle, z_ceq, z_cl, z_nat, Int.toNat_natCast, mm_I, mm_J, z_cln, z_abs, z_max, z_min, z_lmax, z_lmin, z_sin, Int.cast_ofNat_Int, uI_I, uI_J, uL_I, uL_J, uA_I, uA_J, sI_eq, sI_ne, sL_eq, sL_ne, up_eq, up_ne, uL_eq, uL_ne] at q2
          refine And.intro hin ?_
          refine wp_keys [0, 1, 2] rfl rfl ?_
          refine ih (setI I' (134 + 19) (iZ (i : Int)).toNatClampNeg _, _) ⟨⟨?_, ?_⟩, iZ_add i 1⟩
          · rw [hc]
            unfold sldN
            rw [if_pos (by omega), if_neg (by omega)]
            exact RS_slidO rfl hR'
          · rw [hc]; exact fr _
        · simp (disch := omega) only [z_i8, z_i16, z_of, z_ofN, z_lofN, z_0, z_1, z_m1, z_l0, z_l1, iZ_add, iZ_sub, iZ_mul, iZ_neg, lZ_add, lZ_sub, lZ_mul, lZ_neg, z_div, z_ldiv, z_l, z_i, z_lt, z_le, z_eq, z_llt, z_lle, z_leq, z_cgt, z_cge, z_clt, z_cle, z_ceq, z_cl, z_nat, Int.toNat_natCast, mm_I, mm_J, z_cln, z_abs, z_max, z_min, z_lmax, z_lmin, z_sin, Int.cast_ofNat_Int, uI_I, uI_J, uL_I, uL_J, uA_I, uA_J, sI_eq, sI_ne, sL_eq, sL_ne, up_eq, up_ne, uL_eq, uL_ne] at q2
          refine And.intro hin ?_
          refine wp_keys [0, 1, 2] rfl rfl ?_
          refine ih (setI I' (134 + 19) (iZ (i : Int)).toNatClampNeg _, _) ⟨⟨?_, ?_⟩, iZ_add i 1⟩
          · rw [hc]
            unfold sldN
            rw [if_pos (by omega), if_pos (by omega)]
            exact RS_slidO rfl hR'
          · rw [hc]; exact fr _
theorem c_letIn {k : Nat} {x : Int32} (hb : B5 b) (hR : RS I J b v) (hW : Wf v) (hH : WfH v) (hk : k < nD v) (ex : x = iZ k) (hQ : ∀ I', RS I' J b (dorZ v k) → Fr b I I' → Q none (mm I' J A)) : wpC E (d + 4) 77 [.ref b, .int x] (mm I J A) Q := by
  have hn : nD v ≤ 12 := by have := hW.1.2.2.2.2.2.2.2.2.2.2.1; unfold nD; omega
  obtain ⟨q1, q2, q3, q4⟩ := hR.2.2.2.2.1.2 k hk
  obtain ⟨w1, w2, w3, w4⟩ := hH.1 k hk
  have h7 := hR.1.2.2.2.2.2.2.2.1
  have l := hW.1.2.2.2.2.2.2.1
  have hin : vp_in (iZ (k : Int)) 12 := z_in (by omega) (by omega) (by omega)
  have hp : (v 282 k).toNat < nP v := by omega
  have e282 : v 282 k = ((v 282 k).toNat : Int) := by omega
  have ib := insB (s := v 283 k) hW hp
  have ob := outB (s := v 283 k) hW l
  subst ex
  rcases id hb with rfl | rfl | rfl | rfl | rfl
  all_goals (
    simp only [Nat.reduceAdd] at q1 q2 q3 q4
    refine wc (hs := []) 60 (by decide) ?_
    refine And.intro hin (And.intro hin (And.intro hin (And.intro rfl (c_inner hb hR hW hp w2 ?_ ?_ ?_))))
    · simp (disch := omega) only [z_i8, z_i16, z_of, z_ofN, z_lofN, z_0, z_1, z_m1, z_l0, z_l1, iZ_add, iZ_sub, iZ_mul, iZ_neg, lZ_add, lZ_sub, lZ_mul, lZ_neg, z_div, z_ldiv, z_l, z_i, z_lt, z_le, z_eq, z_llt, z_lle, z_leq, z_cgt, z_cge, z_clt, z_cle, z_ceq, z_cl, z_nat, Int.toNat_natCast, mm_I, mm_J, z_cln, z_abs, z_max, z_min, z_lmax, z_lmin, z_sin, Int.cast_ofNat_Int, uI_I, uI_J, uL_I, uL_J, uA_I, uA_J, sI_eq, sI_ne, sL_eq, sL_ne, up_eq, up_ne, uL_eq, uL_ne, q1]
      rw [← e282]
    · simp (disch := omega) only [z_i8, z_i16, z_of, z_ofN, z_lofN, z_0, z_1, z_m1, z_l0, z_l1, iZ_add, iZ_sub, iZ_mul, iZ_neg, lZ_add, lZ_sub, lZ_mul, lZ_neg, z_div, z_ldiv, z_l, z_i, z_lt, z_le, z_eq, z_llt, z_lle, z_leq, z_cgt, z_cge, z_clt, z_cle, z_ceq, z_cl, z_nat, Int.toNat_natCast, mm_I, mm_J, z_cln, z_abs, z_max, z_min, z_lmax, z_lmin, z_sin, Int.cast_ofNat_Int, uI_I, uI_J, uL_I, uL_J, uA_I, uA_J, sI_eq, sI_ne, sL_eq, sL_ne, up_eq, up_ne, uL_eq, uL_ne, q2]
    refine And.intro rfl (c_outer hb hR hW l w2 ?_ ?_ ?_)
    · simp (disch := omega) only [z_i8, z_i16, z_of, z_ofN, z_lofN, z_0, z_1, z_m1, z_l0, z_l1, iZ_add, iZ_sub, iZ_mul, iZ_neg, lZ_add, lZ_sub, lZ_mul, lZ_neg, z_div, z_ldiv, z_l, z_i, z_lt, z_le, z_eq, z_llt, z_lle, z_leq, z_cgt, z_cge, z_clt, z_cle, z_ceq, z_cl, z_nat, Int.toNat_natCast, mm_I, mm_J, z_cln, z_abs, z_max, z_min, z_lmax, z_lmin, z_sin, Int.cast_ofNat_Int, uI_I, uI_J, uL_I, uL_J, uA_I, uA_J, sI_eq, sI_ne, sL_eq, sL_ne, up_eq, up_ne, uL_eq, uL_ne, q2]
    · simp (disch := omega) only [z_i8, z_i16, z_of, z_ofN, z_lofN, z_0, z_1, z_m1, z_l0, z_l1, iZ_add, iZ_sub, iZ_mul, iZ_neg, lZ_add, lZ_sub, lZ_mul, lZ_neg, z_div, z_ldiv, z_l, z_i, z_lt, z_le, z_eq, z_llt, z_lle, z_leq, z_cgt, z_cge, z_clt, z_cle, z_ceq, z_cl, z_nat, Int.toNat_natCast, mm_I, mm_J, z_cln, z_abs, z_max, z_min, z_lmax, z_lmin, z_sin, Int.cast_ofNat_Int, uI_I, uI_J, uL_I, uL_J, uA_I, uA_J, sI_eq, sI_ne, sL_eq, sL_ne, up_eq, up_ne, uL_eq, uL_ne, h7]
    refine And.intro (fun r => ?_) (fun r => ?_)
    · simp (disch := omega) only [z_i8, z_i16, z_of, z_ofN, z_lofN, z_0, z_1, z_m1, z_l0, z_l1, iZ_add, iZ_sub, iZ_mul, iZ_neg, lZ_add, lZ_sub, lZ_mul, lZ_neg, z_div, z_ldiv, z_l, z_i, z_lt, z_le, z_eq, z_llt, z_lle, z_leq, z_cgt, z_cge, z_clt, z_cle, z_ceq, z_cl, z_nat, Int.toNat_natCast, mm_I, mm_J, z_cln, z_abs, z_max, z_min, z_lmax, z_lmin, z_sin, Int.cast_ofNat_Int, uI_I, uI_J, uL_I, uL_J, uA_I, uA_J, sI_eq, sI_ne, sL_eq, sL_ne, up_eq, up_ne, uL_eq, uL_ne, q3] at r
      unfold dorZ at hQ
      dsimp only at hQ
      rw [if_neg (by omega)] at hQ
      exact hQ I hR (fun a _ => rfl)
    · simp (disch := omega) only [z_i8, z_i16, z_of, z_ofN, z_lofN, z_0, z_1, z_m1, z_l0, z_l1, iZ_add, iZ_sub, iZ_mul, iZ_neg, lZ_add, lZ_sub, lZ_mul, lZ_neg, z_div, z_ldiv, z_l, z_i, z_lt, z_le, z_eq, z_llt, z_lle, z_leq, z_cgt, z_cge, z_clt, z_cle, z_ceq, z_cl, z_nat, Int.toNat_natCast, mm_I, mm_J, z_cln, z_abs, z_max, z_min, z_lmax, z_lmin, z_sin, Int.cast_ofNat_Int, uI_I, uI_J, uL_I, uL_J, uA_I, uA_J, sI_eq, sI_ne, sL_eq, sL_ne, up_eq, up_ne, uL_eq, uL_ne, q3] at r
      have m := mulb (a := v 285 k) (b := outZ v (v 266 7) (v 283 k) - max (v 284 k) (insZ v (v 282 k).toNat (v 283 k))) (A := 200) (B := 3000000) (by omega) w4.2 (by omega) (by omega)
      have cb := (capB (hW.2.2.1 _ hp)).2.2
      have w6 := (hW.2.2.1 _ hp).2.2.2.2.2.2
      refine And.intro hin (And.intro (by decide) (And.intro rfl (c_add hb hR hW hp (n := v 285 k * (outZ v (v 266 7) (v 283 k) - max (v 284 k) (insZ v (v 282 k).toNat (v 283 k))) / 100) ⟨by omega, by omega⟩ ?_ ?_ ?_)))
      · simp (disch := omega) only [z_i8, z_i16, z_of, z_ofN, z_lofN, z_0, z_1, z_m1, z_l0, z_l1, iZ_add, iZ_sub, iZ_mul, iZ_neg, lZ_add, lZ_sub, lZ_mul, lZ_neg, z_div, z_ldiv, z_l, z_i, z_lt, z_le, z_eq, z_llt, z_lle, z_leq, z_cgt, z_cge, z_clt, z_cle, z_ceq, z_cl, z_nat, Int.toNat_natCast, mm_I, mm_J, z_cln, z_abs, z_max, z_min, z_lmax, z_lmin, z_sin, Int.cast_ofNat_Int, uI_I, uI_J, uL_I, uL_J, uA_I, uA_J, sI_eq, sI_ne, sL_eq, sL_ne, up_eq, up_ne, uL_eq, uL_ne, q1]
        rw [← e282]
      · simp (disch := omega) only [z_i8, z_i16, z_of, z_ofN, z_lofN, z_0, z_1, z_m1, z_l0, z_l1, iZ_add, iZ_sub, iZ_mul, iZ_neg, lZ_add, lZ_sub, lZ_mul, lZ_neg, z_div, z_ldiv, z_l, z_i, z_lt, z_le, z_eq, z_llt, z_lle, z_leq, z_cgt, z_cge, z_clt, z_cle, z_ceq, z_cl, z_nat, Int.toNat_natCast, mm_I, mm_J, z_cln, z_abs, z_max, z_min, z_lmax, z_lmin, z_sin, Int.cast_ofNat_Int, uI_I, uI_J, uL_I, uL_J, uA_I, uA_J, sI_eq, sI_ne, sL_eq, sL_ne, up_eq, up_ne, uL_eq, uL_ne, q3, q4]
      · intro I' hR' hF
        refine hQ I' ?_ hF
        unfold dorZ
        dsimp only
        rw [if_pos (by omega)]
        unfold porZ
        have e : max 0 (min (v 276 (v 282 k).toNat + v 285 k * (outZ v (v 266 7) (v 283 k) - max (v 284 k) (insZ v (v 282 k).toNat (v 283 k))) / 100) (capZ v (v 282 k).toNat)) = min (v 276 (v 282 k).toNat + v 285 k * (outZ v (v 266 7) (v 283 k) - max (v 284 k) (insZ v (v 282 k).toNat (v 283 k))) / 100) (capZ v (v 282 k).toNat) := by omega
        rw [e]
        exact hR')
theorem c_letOut {k : Nat} {x : Int32} (hb : B5 b) (hR : RS I J b v) (hW : Wf v) (hH : WfH v) (hk : k < nO v) (ex : x = iZ k) (hQ : ∀ I', RS I' J b (prtZ v k) → Fr b I I' → Q none (mm I' J A)) : wpC E (d + 4) 78 [.ref b, .int x] (mm I J A) Q := by
  have hn : nO v ≤ 12 := by have := hW.1.2.2.2.2.2.2.2.2.2.2.2.1; unfold nO; omega
  obtain ⟨q1, q2, q3, q4⟩ := hR.2.2.2.2.2.1.2 k hk
  obtain ⟨w1, w2, w3, w4⟩ := hH.2.1 k hk
  have h7 := hR.1.2.2.2.2.2.2.2.1
  have l := hW.1.2.2.2.2.2.2.1
  have hin : vp_in (iZ (k : Int)) 12 := z_in (by omega) (by omega) (by omega)
  have hp : (v 286 k).toNat < nP v := by omega
  have e282 : v 286 k = ((v 286 k).toNat : Int) := by omega
  have ib := insB (s := v 287 k) hW hp
  have ob := outB (s := v 287 k) hW l
  subst ex
  rcases id hb with rfl | rfl | rfl | rfl | rfl
  all_goals (
    simp only [Nat.reduceAdd] at q1 q2 q3 q4
    refine wc (hs := []) 60 (by decide) ?_
    refine And.intro hin (And.intro hin (And.intro hin (And.intro rfl (c_outer hb hR hW l w2 ?_ ?_ ?_))))
    · simp (disch := omega) only [z_i8, z_i16, z_of, z_ofN, z_lofN, z_0, z_1, z_m1, z_l0, z_l1, iZ_add, iZ_sub, iZ_mul, iZ_neg, lZ_add, lZ_sub, lZ_mul, lZ_neg, z_div, z_ldiv, z_l, z_i, z_lt, z_le, z_eq, z_llt, z_lle, z_leq, z_cgt, z_cge, z_clt, z_cle, z_ceq, z_cl, z_nat, Int.toNat_natCast, mm_I, mm_J, z_cln, z_abs, z_max, z_min, z_lmax, z_lmin, z_sin, Int.cast_ofNat_Int, uI_I, uI_J, uL_I, uL_J, uA_I, uA_J, sI_eq, sI_ne, sL_eq, sL_ne, up_eq, up_ne, uL_eq, uL_ne, q2]
    · simp (disch := omega) only [z_i8, z_i16, z_of, z_ofN, z_lofN, z_0, z_1, z_m1, z_l0, z_l1, iZ_add, iZ_sub, iZ_mul, iZ_neg, lZ_add, lZ_sub, lZ_mul, lZ_neg, z_div, z_ldiv, z_l, z_i, z_lt, z_le, z_eq, z_llt, z_lle, z_leq, z_cgt, z_cge, z_clt, z_cle, z_ceq, z_cl, z_nat, Int.toNat_natCast, mm_I, mm_J, z_cln, z_abs, z_max, z_min, z_lmax, z_lmin, z_sin, Int.cast_ofNat_Int, uI_I, uI_J, uL_I, uL_J, uA_I, uA_J, sI_eq, sI_ne, sL_eq, sL_ne, up_eq, up_ne, uL_eq, uL_ne, h7]
    refine And.intro rfl (c_inner hb hR hW hp w2 ?_ ?_ ?_)
    · simp (disch := omega) only [z_i8, z_i16, z_of, z_ofN, z_lofN, z_0, z_1, z_m1, z_l0, z_l1, iZ_add, iZ_sub, iZ_mul, iZ_neg, lZ_add, lZ_sub, lZ_mul, lZ_neg, z_div, z_ldiv, z_l, z_i, z_lt, z_le, z_eq, z_llt, z_lle, z_leq, z_cgt, z_cge, z_clt, z_cle, z_ceq, z_cl, z_nat, Int.toNat_natCast, mm_I, mm_J, z_cln, z_abs, z_max, z_min, z_lmax, z_lmin, z_sin, Int.cast_ofNat_Int, uI_I, uI_J, uL_I, uL_J, uA_I, uA_J, sI_eq, sI_ne, sL_eq, sL_ne, up_eq, up_ne, uL_eq, uL_ne, q1]
      rw [← e282]
    · simp (disch := omega) only [z_i8, z_i16, z_of, z_ofN, z_lofN, z_0, z_1, z_m1, z_l0, z_l1, iZ_add, iZ_sub, iZ_mul, iZ_neg, lZ_add, lZ_sub, lZ_mul, lZ_neg, z_div, z_ldiv, z_l, z_i, z_lt, z_le, z_eq, z_llt, z_lle, z_leq, z_cgt, z_cge, z_clt, z_cle, z_ceq, z_cl, z_nat, Int.toNat_natCast, mm_I, mm_J, z_cln, z_abs, z_max, z_min, z_lmax, z_lmin, z_sin, Int.cast_ofNat_Int, uI_I, uI_J, uL_I, uL_J, uA_I, uA_J, sI_eq, sI_ne, sL_eq, sL_ne, up_eq, up_ne, uL_eq, uL_ne, q2]
    refine And.intro (fun r => ?_) (fun r => ?_)
    · simp (disch := omega) only [z_i8, z_i16, z_of, z_ofN, z_lofN, z_0, z_1, z_m1, z_l0, z_l1, iZ_add, iZ_sub, iZ_mul, iZ_neg, lZ_add, lZ_sub, lZ_mul, lZ_neg, z_div, z_ldiv, z_l, z_i, z_lt, z_le, z_eq, z_llt, z_lle, z_leq, z_cgt, z_cge, z_clt, z_cle, z_ceq, z_cl, z_nat, Int.toNat_natCast, mm_I, mm_J, z_cln, z_abs, z_max, z_min, z_lmax, z_lmin, z_sin, Int.cast_ofNat_Int, uI_I, uI_J, uL_I, uL_J, uA_I, uA_J, sI_eq, sI_ne, sL_eq, sL_ne, up_eq, up_ne, uL_eq, uL_ne, q3] at r
      unfold prtZ at hQ
      dsimp only at hQ
      rw [if_neg (by omega)] at hQ
      exact hQ I hR (fun a _ => rfl)
    · simp (disch := omega) only [z_i8, z_i16, z_of, z_ofN, z_lofN, z_0, z_1, z_m1, z_l0, z_l1, iZ_add, iZ_sub, iZ_mul, iZ_neg, lZ_add, lZ_sub, lZ_mul, lZ_neg, z_div, z_ldiv, z_l, z_i, z_lt, z_le, z_eq, z_llt, z_lle, z_leq, z_cgt, z_cge, z_clt, z_cle, z_ceq, z_cl, z_nat, Int.toNat_natCast, mm_I, mm_J, z_cln, z_abs, z_max, z_min, z_lmax, z_lmin, z_sin, Int.cast_ofNat_Int, uI_I, uI_J, uL_I, uL_J, uA_I, uA_J, sI_eq, sI_ne, sL_eq, sL_ne, up_eq, up_ne, uL_eq, uL_ne, q3] at r
      have m := mulb (a := v 289 k) (b := insZ v (v 286 k).toNat (v 287 k) - max (v 288 k) (outZ v (v 266 7) (v 287 k))) (A := 200) (B := 3000000) (by omega) w4.2 (by omega) (by omega)
      have cb := (capB (hW.2.2.1 _ hp)).2.2
      have w6 := (hW.2.2.1 _ hp).2.2.2.2.2.2
      refine And.intro hin (And.intro (by decide) (And.intro rfl (c_remove hb hR hW hp (n := v 289 k * (insZ v (v 286 k).toNat (v 287 k) - max (v 288 k) (outZ v (v 266 7) (v 287 k))) / 100) ⟨by omega, by omega⟩ ?_ ?_ ?_)))
      · simp (disch := omega) only [z_i8, z_i16, z_of, z_ofN, z_lofN, z_0, z_1, z_m1, z_l0, z_l1, iZ_add, iZ_sub, iZ_mul, iZ_neg, lZ_add, lZ_sub, lZ_mul, lZ_neg, z_div, z_ldiv, z_l, z_i, z_lt, z_le, z_eq, z_llt, z_lle, z_leq, z_cgt, z_cge, z_clt, z_cle, z_ceq, z_cl, z_nat, Int.toNat_natCast, mm_I, mm_J, z_cln, z_abs, z_max, z_min, z_lmax, z_lmin, z_sin, Int.cast_ofNat_Int, uI_I, uI_J, uL_I, uL_J, uA_I, uA_J, sI_eq, sI_ne, sL_eq, sL_ne, up_eq, up_ne, uL_eq, uL_ne, q1]
        rw [← e282]
      · simp (disch := omega) only [z_i8, z_i16, z_of, z_ofN, z_lofN, z_0, z_1, z_m1, z_l0, z_l1, iZ_add, iZ_sub, iZ_mul, iZ_neg, lZ_add, lZ_sub, lZ_mul, lZ_neg, z_div, z_ldiv, z_l, z_i, z_lt, z_le, z_eq, z_llt, z_lle, z_leq, z_cgt, z_cge, z_clt, z_cle, z_ceq, z_cl, z_nat, Int.toNat_natCast, mm_I, mm_J, z_cln, z_abs, z_max, z_min, z_lmax, z_lmin, z_sin, Int.cast_ofNat_Int, uI_I, uI_J, uL_I, uL_J, uA_I, uA_J, sI_eq, sI_ne, sL_eq, sL_ne, up_eq, up_ne, uL_eq, uL_ne, q3, q4]
      · intro I' hR' hF
        refine hQ I' ?_ hF
        unfold prtZ
        dsimp only
        rw [if_pos (by omega)]
        unfold porZ
        have e : max 0 (min (v 276 (v 286 k).toNat + -(v 289 k * (insZ v (v 286 k).toNat (v 287 k) - max (v 288 k) (outZ v (v 266 7) (v 287 k))) / 100)) (capZ v (v 286 k).toNat)) = max (v 276 (v 286 k).toNat - v 289 k * (insZ v (v 286 k).toNat (v 287 k) - max (v 288 k) (outZ v (v 266 7) (v 287 k))) / 100) 0 := by omega
        rw [e]
        exact hR')
end C8
