/-! ===== leaves ===== -/
section LVS
variable {E : Nat × (Nat → Int32)} {d : Nat} {I I1 : Nat → Nat → Int32} {J J1 : Nat → Nat → Int64} {A A1 : Nat → Option Nat} {Q : Option Value → am_M → Prop} {M : am_M}
theorem Fr_trans {b : Nat} {I' I'' : Nat → Nat → Int32} (h : Fr b I I') (h' : Fr b I' I'') : Fr b I I'' := fun a ha => (h' a ha).trans (h a ha)
/-- poured back: the view as it was -/
theorem c_pourB {v : am_V} {p : Nat} {w : Int} {x y : Int32} (hR : RS I J 1 (vset v 276 p w)) (hW : Wf v) (hp : p < nP v) (hw : 0 ≤ w ∧ w ≤ capZ v p) (ey : y = iZ p) (ex : x = iZ (v 276 p)) (hQ : ∀ I', RS I' J 1 v → Fr 1 I I' → Q none (mm I' J A)) : wpC E (d + 2) 71 [.ref 1, .int y, .int x] (mm I J A) Q := by
  have w6 := (hW.2.2.1 p hp).2.2.2.2.2.2
  refine c_pour (b := 1) (v := vset v 276 p w) (p := p) (n := v 276 p) (Or.inl rfl) hR (Wf_set hW hw) hp w6 ey ex (fun I' hR' hF => hQ I' ?_ hF)
  rw [vset_back] at hR'
  exact hR'
theorem m_drain {p : Nat} {was : Int32} {x2 x4 : Int32} (hW : Wf (vI I)) (hH : WfH (vI I)) (h0 : M0 I J) (hp : p < nP (vI I)) (hQ : ∀ I', vI I' = drnN (vI I) p (nO (vI I)) → ∀ x5, wp E (d + 4) 252 88 [(0, .ref 265), (1, .int (iZ p)), (2, .int x2), (3, .int was), (4, .int x4), (5, .int x5)] [] (mm I' J A) Q) : wp E (d + 4) 252 53 [(0, .ref 265), (1, .int (iZ p)), (2, .int x2), (3, .int was), (4, .int x4), (5, .int (iZ 0))] [] (mm I J A) Q := by
  have h12 := nP12 hW
  have no := nO_at hW
  have L := lpU (σ := (Nat → Nat → Int32) × Int32) (fun _ s => wp E (d + 4) 252 53 [(0, .ref 265), (1, .int (iZ p)), (2, .int x2), (3, .int was), (4, .int x4), (5, .int s.2)] [] (mm s.1 J A) Q) (fun i s => vI s.1 = drnN (vI I) p i ∧ s.2 = iZ i) (nO (vI I)) ?_ ?_
  · exact L 0 (I, _) (by omega) ⟨rfl, rfl⟩
  · rintro ⟨I', y⟩ ⟨e, ey⟩
    dsimp only at e ey
    subst ey
    obtain ⟨w, -, ed⟩ := drn_one (n := nO (vI I)) hW hp
    have g12 : I' 266 12 = iZ (nO (vI I) : Int) := by
      rw [vI_eq I' 266 12, e, ed, vset_na (by decide), no.1]
    exact wf (hs := [53, 88]) 20 53 (by decide) (And.intro (inL (by decide)) (wt (Int32.le_of_eq g12) (hQ I' e _)))
  · rintro i ⟨I', y⟩ hi ⟨e, ey⟩ ih
    dsimp only at e ey
    subst ey
    obtain ⟨w, hw, ed⟩ := drn_one (n := i) hW hp
    have wi := drn_W (n := i) hW hH hp
    rw [← e] at wi
    have g12 : ¬ I' 266 12 ≤ iZ (i : Int) := by
      have : I' 266 12 = iZ (nO (vI I) : Int) := by rw [vI_eq I' 266 12, e, ed, vset_na (by decide), no.1]
      rw [this]; ((try simp (disch := omega) only [z_i8, z_i16, z_of, z_ofN, z_lofN, z_0, z_1, z_m1, z_l0, z_l1, iZ_add, iZ_sub, iZ_mul, iZ_neg, lZ_add, lZ_sub, lZ_mul, lZ_neg, z_div, z_ldiv, z_l, z_i, z_lt, z_le, z_eq, z_llt, z_lle, z_leq, z_cgt, z_cge, z_clt, z_cle, z_ceq, z_cl, z_nat, Int.toNat_natCast, mm_I, mm_J, z_cln, z_abs, z_max, z_min, z_lmax, z_lmin, z_sin, Int.cast_ofNat_Int, uI_I, uI_J, uL_I, uL_J, uA_I, uA_J, sI_eq, sI_ne, sL_eq, sL_ne, up_eq, up_ne, uL_eq, uL_ne, z_toInt, Int.reduceToNat]) <;> omega)
    have e286 : I' 286 i = iZ (vI I 286 i) := by rw [vI_eq I' 286 i, e, ed, vset_na (by decide)]
    have b286 := (hH.2.1 i hi).1
    have nO' : nO (vI I') = nO (vI I) := by rw [e, ed]; rfl
    have m0 : M0 I' J := M0_eq h0 (vI_cell (fun k => by rw [e, ed, vset_na (by decide)])) rfl
    have es : drnN (vI I) p (i + 1) = if vI I 286 i = p then prtZ (drnN (vI I) p i) i else drnN (vI I) p i := rfl
    refine wf (hs := [53, 88]) 40 53 (by decide) (And.intro (inL (by decide)) (wF g12 (And.intro (z_in (by omega) (by omega) (by omega)) (And.intro (fun q => ?_) (fun q => ?_)))))
    · simp (disch := omega) only [z_i8, z_i16, z_of, z_ofN, z_lofN, z_0, z_1, z_m1, z_l0, z_l1, iZ_add, iZ_sub, iZ_mul, iZ_neg, lZ_add, lZ_sub, lZ_mul, lZ_neg, z_div, z_ldiv, z_l, z_i, z_lt, z_le, z_eq, z_llt, z_lle, z_leq, z_cgt, z_cge, z_clt, z_cle, z_ceq, z_cl, z_nat, Int.toNat_natCast, mm_I, mm_J, z_cln, z_abs, z_max, z_min, z_lmax, z_lmin, z_sin, Int.cast_ofNat_Int, uI_I, uI_J, uL_I, uL_J, uA_I, uA_J, sI_eq, sI_ne, sL_eq, sL_ne, up_eq, up_ne, uL_eq, uL_ne, z_toInt, Int.reduceToNat, e286] at q
      refine And.intro rfl (m_portGoes wi.1 (wi.2.2.1 i (by omega)) m0 (by omega) rfl (fun I2 e2 => ?_))
      refine wp_keys [0, 1, 2, 3, 4, 5] rfl rfl ?_
      refine ih (I2, _) ⟨?_, iZ_add i 1⟩
      dsimp only
      rw [es, if_pos q, e2, e]
    · simp (disch := omega) only [z_i8, z_i16, z_of, z_ofN, z_lofN, z_0, z_1, z_m1, z_l0, z_l1, iZ_add, iZ_sub, iZ_mul, iZ_neg, lZ_add, lZ_sub, lZ_mul, lZ_neg, z_div, z_ldiv, z_l, z_i, z_lt, z_le, z_eq, z_llt, z_lle, z_leq, z_cgt, z_cge, z_clt, z_cle, z_ceq, z_cl, z_nat, Int.toNat_natCast, mm_I, mm_J, z_cln, z_abs, z_max, z_min, z_lmax, z_lmin, z_sin, Int.cast_ofNat_Int, uI_I, uI_J, uL_I, uL_J, uA_I, uA_J, sI_eq, sI_ne, sL_eq, sL_ne, up_eq, up_ne, uL_eq, uL_ne, z_toInt, Int.reduceToNat, e286] at q
      refine wp_keys [0, 1, 2, 3, 4, 5] rfl rfl ?_
      refine ih (I', _) ⟨?_, iZ_add i 1⟩
      dsimp only
      rw [es, if_neg q]
      exact e
def GLv (I : Nat → Nat → Int32) (k n : Int) : Prop := PG I k ∧ 0 ≤ n ∧ n ≤ 99999
theorem m_leaves {k n : Int} (hV : Vm I) (h0 : M0 I J) (hk : -2147483648 ≤ k ∧ k ≤ 2147483647) (hn : -2147483648 ≤ n ∧ n ≤ 2147483647) (h1 : GLv I k n → Q (some (.int (iZ (lvsZ k.toNat n 401 0 (vI I))))) (mm I J A)) (hno : ¬ GLv I k n → Q (some (.int (iZ (-1)))) (mm I J A)) : wpC E (d + 4) 252 [.ref 265, .int (iZ k), .int (iZ n)] (mm I J A) Q := by
  refine wc (hs := [32]) 40 (by decide) (And.intro rfl (m_isPlaceZ hV hk rfl (fun p => wF (by decide) ?_) (fun p => wt rfl (hno fun q => p q.1))))
  refine And.intro rfl (mW (z := n) (lo := 0) (hi := 99999) (z_l (by omega) (by omega)) rfl rfl hn (by omega) (by omega) (fun g => wF (by decide) ?_) (fun g => wt rfl (hno fun q => g q.2)))
  have H := h1 ⟨p, g⟩
  have hW : Wf (vI I) := (hV p.1).1
  have hH : WfH (vI I) := (hV p.1).2
  have h12 := nP12 hW
  obtain ⟨κ, hκ, rfl⟩ : ∃ κ : Nat, κ < nP (vI I) ∧ k = κ := ⟨k.toNat, by have := p.2.2; have q : k < nP (vI I) := this; have := p.2.1; omega, by have := p.2.1; omega⟩
  rw [Int.toNat_natCast] at H
  have hin : vp_in (iZ (κ : Int)) 12 := z_in (by omega) (by omega) (by omega)
  have hcl : (iZ (κ : Int)).toNatClampNeg = κ := z_cln (by omega)
  have cb := (capB (hW.2.2.1 κ hκ)).2.2
  have w6 := (hW.2.2.1 κ hκ).2.2.2.2.2.2
  have ends : ∀ (I' : Nat → Nat → Int32) (w r : Int) (x4 x5 : Int32), vI I' = vset (vI I) 276 κ w → (x4 = iZ 401 ∧ r = -2 ∨ x4 = iZ r ∧ 0 ≤ r ∧ r ≤ 400) → Q (some (.int (iZ r))) (mm I J A) → wp E (d + 4) 252 94 [(0, .ref 265), (1, .int (iZ κ)), (2, .int (iZ n)), (3, .int (I 276 (iZ (κ : Int)).toNatClampNeg)), (4, .int x4)] [] (mm I' J A) Q := by
    intro I' w r x4 x5 e hr hQ
    have eI : setI I' 276 (iZ (κ : Int)).toNatClampNeg (I 276 (iZ (κ : Int)).toNatClampNeg) = I := by
      refine vI_inj ?_
      rw [hcl, vI_setZ (z := vI I 276 κ) (vI_eq I 276 κ) (by omega) (by omega), e, vset_back]
    rw [← eI] at hQ
    refine wf (hs := []) 30 94 (by decide) (And.intro hin ?_)
    rcases hr with ⟨rfl, rfl⟩ | ⟨rfl, r1, r2⟩
    · exact wF (by decide) hQ
    · exact wt (by ((try simp (disch := omega) only [z_i8, z_i16, z_of, z_ofN, z_lofN, z_0, z_1, z_m1, z_l0, z_l1, iZ_add, iZ_sub, iZ_mul, iZ_neg, lZ_add, lZ_sub, lZ_mul, lZ_neg, z_div, z_ldiv, z_l, z_i, z_lt, z_le, z_eq, z_llt, z_lle, z_leq, z_cgt, z_cge, z_clt, z_cle, z_ceq, z_cl, z_nat, Int.toNat_natCast, mm_I, mm_J, z_cln, z_abs, z_max, z_min, z_lmax, z_lmin, z_sin, Int.cast_ofNat_Int, uI_I, uI_J, uL_I, uL_J, uA_I, uA_J, sI_eq, sI_ne, sL_eq, sL_ne, up_eq, up_ne, uL_eq, uL_ne, z_toInt, Int.reduceToNat]) <;> omega)) hQ
  have L : ∀ (m i : Nat) (I' : Nat → Nat → Int32) (w : Int) (x4 : Int32), i + m = 401 → vI I' = vset (vI I) 276 κ w → 0 ≤ w ∧ w ≤ capZ (vI I) κ → x4 = iZ i → Q (some (.int (iZ (lvsZ κ n m i (vI I'))))) (mm I J A) → wp E (d + 4) 252 32 [(0, .ref 265), (1, .int (iZ κ)), (2, .int (iZ n)), (3, .int (I 276 (iZ (κ : Int)).toNatClampNeg)), (4, .int x4)] [] (mm I' J A) Q := by
    intro m
    induction m with
    | zero =>
      intro i I' w x4 hi e hw e4 hQ
      subst e4
      have : i = 401 := by omega
      subst this
      refine wf (hs := [32, 94]) 40 32 (by decide) (And.intro hin (And.intro (fun q => ?_) (fun q => ?_)))
      · exact ends I' w (-2) _ (iZ 0) e (Or.inl ⟨rfl, rfl⟩) hQ
      · exact wt (by decide) (ends I' w (-2) _ (iZ 0) e (Or.inl ⟨rfl, rfl⟩) hQ)
    | succ m ih =>
      intro i I' w x4 hi e hw e4 hQ
      subst e4
      have ew : I' 276 κ = iZ w := by rw [vI_eq I' 276 κ, e, vset_eq]
      have ev : vI I' 276 κ = w := by rw [e, vset_eq]
      unfold lvsZ at hQ
      rw [ev] at hQ
      refine wf (hs := [32, 53, 94]) 40 32 (by decide) (And.intro hin (And.intro (fun q => ?_) (fun q => ?_)))
      · simp (disch := omega) only [z_i8, z_i16, z_of, z_ofN, z_lofN, z_0, z_1, z_m1, z_l0, z_l1, iZ_add, iZ_sub, iZ_mul, iZ_neg, lZ_add, lZ_sub, lZ_mul, lZ_neg, z_div, z_ldiv, z_l, z_i, z_lt, z_le, z_eq, z_llt, z_lle, z_leq, z_cgt, z_cge, z_clt, z_cle, z_ceq, z_cl, z_nat, Int.toNat_natCast, mm_I, mm_J, z_cln, z_abs, z_max, z_min, z_lmax, z_lmin, z_sin, Int.cast_ofNat_Int, uI_I, uI_J, uL_I, uL_J, uA_I, uA_J, sI_eq, sI_ne, sL_eq, sL_ne, up_eq, up_ne, uL_eq, uL_ne, z_toInt, Int.reduceToNat, ew] at q
        rw [if_pos q] at hQ
        exact ends I' w i _ (iZ 0) e (Or.inr ⟨rfl, by omega, by omega⟩) hQ
      · simp (disch := omega) only [z_i8, z_i16, z_of, z_ofN, z_lofN, z_0, z_1, z_m1, z_l0, z_l1, iZ_add, iZ_sub, iZ_mul, iZ_neg, lZ_add, lZ_sub, lZ_mul, lZ_neg, z_div, z_ldiv, z_l, z_i, z_lt, z_le, z_eq, z_llt, z_lle, z_leq, z_cgt, z_cge, z_clt, z_cle, z_ceq, z_cl, z_nat, Int.toNat_natCast, mm_I, mm_J, z_cln, z_abs, z_max, z_min, z_lmax, z_lmin, z_sin, Int.cast_ofNat_Int, uI_I, uI_J, uL_I, uL_J, uA_I, uA_J, sI_eq, sI_ne, sL_eq, sL_ne, up_eq, up_ne, uL_eq, uL_ne, z_toInt, Int.reduceToNat, ew] at q
        rw [if_neg (by omega)] at hQ
        refine wF (by ((try simp (disch := omega) only [z_i8, z_i16, z_of, z_ofN, z_lofN, z_0, z_1, z_m1, z_l0, z_l1, iZ_add, iZ_sub, iZ_mul, iZ_neg, lZ_add, lZ_sub, lZ_mul, lZ_neg, z_div, z_ldiv, z_l, z_i, z_lt, z_le, z_eq, z_llt, z_lle, z_leq, z_cgt, z_cge, z_clt, z_cle, z_ceq, z_cl, z_nat, Int.toNat_natCast, mm_I, mm_J, z_cln, z_abs, z_max, z_min, z_lmax, z_lmin, z_sin, Int.cast_ofNat_Int, uI_I, uI_J, uL_I, uL_J, uA_I, uA_J, sI_eq, sI_ne, sL_eq, sL_ne, up_eq, up_ne, uL_eq, uL_ne, z_toInt, Int.reduceToNat]) <;> omega)) ?_
        have hW' : Wf (vI I') := by rw [e]; exact Wf_set hW hw
        have hH' : WfH (vI I') := by rw [e]; exact WfH_276 hH (fun a i q => vset_na q)
        have m0 : M0 I' J := M0_eq h0 (vI_cell (fun k => by rw [e, vset_na (by decide)])) rfl
        have hκ' : κ < nP (vI I') := by rw [e]; exact hκ
        refine wp_keys [0, 1, 2, 3, 4, 5] rfl rfl ?_
        refine m_drain hW' hH' m0 hκ' (fun I2 e2 x5 => ?_)
        refine wf (hs := [32]) 20 88 (by decide) ?_
        refine wp_keys [0, 1, 2, 3, 4] rfl rfl ?_
        obtain ⟨w2, hw2, ed⟩ := drn_one (n := nO (vI I')) hW' hκ'
        have e3 : vI I2 = vset (vI I) 276 κ w2 := by rw [e2, ed, e, vset_two]
        refine ih (i + 1) I2 w2 _ (by omega) e3 ?_ (iZ_add i 1) ?_
        · have : capZ (vI I') κ = capZ (vI I) κ := by rw [e]; rfl
          omega
        · rw [e2]; exact hQ
  refine And.intro hin ?_
  refine wp_keys [0, 1, 2, 3, 4] rfl rfl ?_
  exact L 401 0 I (vI I 276 κ) (iZ 0) (by omega) vset_id.symm w6 rfl H
theorem op_leaves {k n : Int} (h : Inv I J) (hk : -2147483648 ≤ k ∧ k ≤ 2147483647) (hn : -2147483648 ≤ n ∧ n ≤ 2147483647) : wpC E (d + 6) 127 [.ref 0, .int (iZ k), .int (iZ n)] (mm I J A) (QI E (d + 6) 252 [.int (iZ k), .int (iZ n)]) := by
  have F : ¬ GLv I k n → QI E (d + 6) 252 [.int (iZ k), .int (iZ n)] (some (.int (iZ (-1)))) (mm I J A) := fun q => rd_mk h FS_refl (m_leaves (Vs_m h.1) h.2.2.2.2.1 hk hn (fun p => absurd p q) (fun _ => ⟨rfl, rfl⟩))
  refine wc (hs := [40]) 40 (by decide) (And.intro rfl (c_hasPlace h.1 hk rfl (fun p => wF (by decide) ?_) (fun p => wt rfl (F fun q => p q.1))))
  refine And.intro rfl (cW (z := n) (lo := 0) (hi := 99999) rfl rfl rfl hn (by omega) (by omega) (fun g => wF (by decide) ?_) (fun g => wt rfl (F fun q => g q.2)))
  have hg : GLv I k n := ⟨p, g⟩
  obtain ⟨hW, hH, hR, h8⟩ := Vs_on h.1 p.1
  have h12 := nP12 hW
  obtain ⟨κ, hκ, rfl⟩ : ∃ κ : Nat, κ < nP (vC I) ∧ k = κ := ⟨k.toNat, by have := p.2; omega, by have := p.2.1; omega⟩
  have hin : vp_in (iZ (κ : Int)) 12 := z_in (by omega) (by omega) (by omega)
  have hcl : (iZ (κ : Int)).toNatClampNeg = κ := z_cln (by omega)
  have cb := (capB (hW.2.2.1 κ hκ)).2.2
  have w6 := (hW.2.2.1 κ hκ).2.2.2.2.2.2
  have e11 : I 11 (iZ (κ : Int)).toNatClampNeg = iZ (vC I 276 κ) := by rw [hcl]; exact (hR.2.2.1.2.1 κ hκ).2.2.2.2.2.2.2.1
  obtain ⟨RES, hRES⟩ : ∃ R, R = lvsZ κ n 401 0 (vC I) := ⟨_, rfl⟩
  have ends : ∀ (I' : Nat → Nat → Int32) (w : Int) (x5 : Int32), RS I' J 1 (vset (vC I) 276 κ w) → Fr 1 I I' → 0 ≤ w ∧ w ≤ capZ (vC I) κ → wp E (d + 6) 127 87 [(0, .ref 0), (1, .int (iZ κ)), (2, .int (iZ n)), (3, .int (I 11 (iZ (κ : Int)).toNatClampNeg)), (4, .int (iZ RES)), (5, .int x5)] [] (mm I' J A) (QI E (d + 6) 252 [.int (iZ (κ : Int)), .int (iZ n)]) := by
    intro I' w x5 hR' hF' hw
    refine wf (hs := []) 30 87 (by decide) (And.intro rfl (c_pourB hR' hW hκ hw rfl e11 (fun I2 hR2 hF2 => ?_)))
    have hF := Fr_FV (J := J) (Fr_trans hF' hF2)
    refine rv_mk h p.1 hF hR2 (m_leaves (FV_m hF (Vs_m h.1)) (M0_FV hF h.2.2.2.2.1) hk hn (fun _ => ⟨?_, J, JF_refl, rfl⟩) (fun q => absurd ⟨(FV_PG hF).mpr p, g⟩ q))
    have : ∀ (m i : Nat) (v : am_V), lvsZ κ n m i (cutV v) = lvsZ κ n m i v := by
      have dc : ∀ (v : am_V) (m : Nat), drnN (cutV v) κ m = cutV (drnN v κ m) := by
        intro v m
        induction m with
        | zero => rfl
        | succ m ih =>
          show (if v 286 m = κ then prtZ (drnN (cutV v) κ m) m else drnN (cutV v) κ m) = cutV (if v 286 m = κ then prtZ (drnN v κ m) m else drnN v κ m)
          rw [ih]
          split
          · exact prt_cut
          · rfl
      intro m
      induction m with
      | zero => intro i v; rfl
      | succ m ih =>
        intro i v
        show (if v 276 κ ≤ n then (i : Int) else lvsZ κ n m (i + 1) (drnN (cutV v) κ (nO v))) = (if v 276 κ ≤ n then (i : Int) else lvsZ κ n m (i + 1) (drnN v κ (nO v)))
        rw [dc, ih]
    have e : lvsZ κ n 401 0 (vI I2) = lvsZ κ n 401 0 (vC I) := by
      rw [← this 401 0 (vI I2), ← FV_vC hF]
      rfl
    rw [Int.toNat_natCast, e, hRES]
  have L : ∀ (m i : Nat) (I' : Nat → Nat → Int32) (w : Int) (x5 : Int32), i + m = 401 → RS I' J 1 (vset (vC I) 276 κ w) → Fr 1 I I' → 0 ≤ w ∧ w ≤ capZ (vC I) κ → x5 = iZ i → lvsZ κ n m i (vset (vC I) 276 κ w) = RES → wp E (d + 6) 127 40 [(0, .ref 0), (1, .int (iZ κ)), (2, .int (iZ n)), (3, .int (I 11 (iZ (κ : Int)).toNatClampNeg)), (4, .int (iZ (-2))), (5, .int x5)] [] (mm I' J A) (QI E (d + 6) 252 [.int (iZ (κ : Int)), .int (iZ n)]) := by
    intro m
    induction m with
    | zero =>
      intro i I' w x5 hi hR' hF' hw e5 he
      subst e5
      have : i = 401 := by omega
      subst this
      have he : (-2 : Int) = RES := he
      have := ends I' w (iZ (401 : Nat)) hR' hF' hw
      rw [← he] at this
      exact wf (hs := [40, 87]) 30 40 (by decide) (wt (by decide) this)
    | succ m ih =>
      intro i I' w x5 hi hR' hF' hw e5 he
      subst e5
      have ew : I' 11 κ = iZ w := by
        have : I' 11 κ = iZ (vset (vC I) 276 κ w 276 κ) := (hR'.2.2.1.2.1 κ hκ).2.2.2.2.2.2.2.1
        rw [vset_eq] at this; exact this
      unfold lvsZ at he
      rw [vset_eq] at he
      refine wf (hs := [40, 87]) 60 40 (by decide) (wF (by ((try simp (disch := omega) only [z_i8, z_i16, z_of, z_ofN, z_lofN, z_0, z_1, z_m1, z_l0, z_l1, iZ_add, iZ_sub, iZ_mul, iZ_neg, lZ_add, lZ_sub, lZ_mul, lZ_neg, z_div, z_ldiv, z_l, z_i, z_lt, z_le, z_eq, z_llt, z_lle, z_leq, z_cgt, z_cge, z_clt, z_cle, z_ceq, z_cl, z_nat, Int.toNat_natCast, mm_I, mm_J, z_cln, z_abs, z_max, z_min, z_lmax, z_lmin, z_sin, Int.cast_ofNat_Int, uI_I, uI_J, uL_I, uL_J, uA_I, uA_J, sI_eq, sI_ne, sL_eq, sL_ne, up_eq, up_ne, uL_eq, uL_ne, z_toInt, Int.reduceToNat]) <;> omega)) (wF (by decide) (And.intro hin (And.intro (fun q => ?_) (fun q => ?_)))))
      · simp (disch := omega) only [z_i8, z_i16, z_of, z_ofN, z_lofN, z_0, z_1, z_m1, z_l0, z_l1, iZ_add, iZ_sub, iZ_mul, iZ_neg, lZ_add, lZ_sub, lZ_mul, lZ_neg, z_div, z_ldiv, z_l, z_i, z_lt, z_le, z_eq, z_llt, z_lle, z_leq, z_cgt, z_cge, z_clt, z_cle, z_ceq, z_cl, z_nat, Int.toNat_natCast, mm_I, mm_J, z_cln, z_abs, z_max, z_min, z_lmax, z_lmin, z_sin, Int.cast_ofNat_Int, uI_I, uI_J, uL_I, uL_J, uA_I, uA_J, sI_eq, sI_ne, sL_eq, sL_ne, up_eq, up_ne, uL_eq, uL_ne, z_toInt, Int.reduceToNat, ew] at q
        rw [if_neg (by omega)] at he
        have hW' := Wf_set (p := κ) hW hw
        have hH' : WfH (vset (vC I) 276 κ w) := WfH_276 hH (fun a i q => vset_na q)
        refine And.intro rfl (c_drain hR' hW' hH' hκ rfl (fun I2 hR2 hF2 => ?_))
        refine wp_keys [0, 1, 2, 3, 4, 5] rfl rfl ?_
        obtain ⟨w2, hw2, ed⟩ := drn_one (n := nO (vset (vC I) 276 κ w)) hW' hκ
        rw [ed, vset_two] at hR2
        rw [ed, vset_two] at he
        exact ih (i + 1) I2 w2 _ (by omega) hR2 (Fr_trans hF' hF2) hw2 (iZ_add i 1) he
      · simp (disch := omega) only [z_i8, z_i16, z_of, z_ofN, z_lofN, z_0, z_1, z_m1, z_l0, z_l1, iZ_add, iZ_sub, iZ_mul, iZ_neg, lZ_add, lZ_sub, lZ_mul, lZ_neg, z_div, z_ldiv, z_l, z_i, z_lt, z_le, z_eq, z_llt, z_lle, z_leq, z_cgt, z_cge, z_clt, z_cle, z_ceq, z_cl, z_nat, Int.toNat_natCast, mm_I, mm_J, z_cln, z_abs, z_max, z_min, z_lmax, z_lmin, z_sin, Int.cast_ofNat_Int, uI_I, uI_J, uL_I, uL_J, uA_I, uA_J, sI_eq, sI_ne, sL_eq, sL_ne, up_eq, up_ne, uL_eq, uL_ne, z_toInt, Int.reduceToNat, ew] at q
        rw [if_pos (by omega)] at he
        refine wp_keys [0, 1, 2, 3, 4, 5] rfl rfl ?_
        have := ends I' w (iZ i + 1) hR' hF' hw
        rw [← he] at this
        refine wf (hs := [87]) 30 40 (by decide) (And.intro (fun q2 => this) (fun q2 => wt ?_ this))
        show iZ 0 ≤ iZ (i : Int)
        ((try simp (disch := omega) only [z_i8, z_i16, z_of, z_ofN, z_lofN, z_0, z_1, z_m1, z_l0, z_l1, iZ_add, iZ_sub, iZ_mul, iZ_neg, lZ_add, lZ_sub, lZ_mul, lZ_neg, z_div, z_ldiv, z_l, z_i, z_lt, z_le, z_eq, z_llt, z_lle, z_leq, z_cgt, z_cge, z_clt, z_cle, z_ceq, z_cl, z_nat, Int.toNat_natCast, mm_I, mm_J, z_cln, z_abs, z_max, z_min, z_lmax, z_lmin, z_sin, Int.cast_ofNat_Int, uI_I, uI_J, uL_I, uL_J, uA_I, uA_J, sI_eq, sI_ne, sL_eq, sL_ne, up_eq, up_ne, uL_eq, uL_ne, z_toInt, Int.reduceToNat]) <;> omega)
  refine And.intro hin ?_
  refine wp_keys [0, 1, 2, 3, 4, 5] rfl rfl ?_
  exact L 401 0 I (vC I 276 κ) (iZ 0) (by omega) (by rw [vset_id]; exact hR) (fun _ _ => rfl) w6 rfl (by rw [vset_id, hRES])
end LVS
