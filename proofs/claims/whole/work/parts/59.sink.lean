/-! ===== sinks, parts ===== -/
theorem loll_iff {v : am_V} {mw mu : Int} : rstZ (trnZ v mw mu 0) 1 = 0 ↔ upsZ v mw mu 1 < 0 := by
  have t1 : trnZ v mw mu 0 1 = upsZ v mw mu 1 := by
    unfold trnZ
    simp
  have t0 : trnZ v mw mu 0 0 = 0 := by
    unfold trnZ
    simp
  unfold rstZ
  rw [t1]
  by_cases h : 0 < upsZ v mw mu 1
  · rw [if_pos h]
    have := (wlk_1 (t := trnZ v mw mu 0) 120 1).1
    omega
  · rw [if_neg h]
    by_cases h2 : upsZ v mw mu 1 < 0
    · have e1 : wlkZ (trnZ v mw mu 0) (-1) 120 1 = wlkZ (trnZ v mw mu 0) (-1) 119 (1 + -1) := by
        show (if 0 < trnZ v mw mu 0 1 * -1 ∧ ¬ (1 : Int) = -1 * 60 then _ else _) = _
        rw [if_pos ⟨by omega, by omega⟩]
      have e2 : wlkZ (trnZ v mw mu 0) (-1) 119 (1 + -1) = 0 := wlk_no (by show ¬ (0 < trnZ v mw mu 0 0 * -1 ∧ _); omega) 119
      rw [e1, e2]
      exact ⟨fun _ => h2, fun _ => rfl⟩
    · have e1 : wlkZ (trnZ v mw mu 0) (-1) 120 1 = 1 := wlk_no (by omega) 120
      rw [e1]
      omega
def hunZ (v : am_V) (p : Nat) (h : Int) : Int := capZ v p * h / 100
theorem hunB {v : am_V} {p : Nat} {h : Int} (hW : WfP v p) (h0 : 0 ≤ h ∧ h ≤ 100) : (0 ≤ capZ v p * h ∧ capZ v p * h ≤ 7992000) ∧ 0 ≤ hunZ v p h ∧ hunZ v p h ≤ capZ v p := by
  have cb := (capB hW).2.2
  have m := mulb (a := capZ v p) (b := h) (A := 79920) (B := 100) cb.1 cb.2 h0.1 h0.2
  have m2 := mulb (a := capZ v p) (b := h) (A := capZ v p) (B := 100) cb.1 (by omega) h0.1 h0.2
  unfold hunZ
  omega
def snkZ (v : am_V) (p : Nat) : Nat → Nat → Int
  | 0, _ => -2
  | m + 1, h => if 0 ≤ upsZ (vset v 276 p (hunZ v p h)) 0 0 1 then h else snkZ v p m (h + 1)
def prsZ (v : am_V) (p : Nat) : Nat → Nat → Int
  | 0, _ => -2
  | m + 1, n => if upsZ (vset v 274 p n) 0 0 1 < 0 then n else prsZ v p m (n + 1)
section SNK
variable {E : Nat × (Nat → Int32)} {d : Nat} {I I1 : Nat → Nat → Int32} {J J1 : Nat → Nat → Int64} {A A1 : Nat → Option Nat} {Q : Option Value → am_M → Prop} {M : am_M}
theorem c_hund {v : am_V} {p h : Nat} {x y : Int32} (hR : RS I J 1 v) (hW : Wf v) (hp : p < nP v) (hh : h ≤ 100) (ex : x = iZ p) (ey : y = iZ h) (hQ : Q (some (.int (iZ (hunZ v p h)))) (mm I J A)) : wpC E d 32 [.ref 3, .int x, .int y] (mm I J A) Q := by
  subst ex; subst ey
  have h12 := nP12 hW
  have hb := hunB (h := h) (hW.2.2.1 p hp) ⟨by omega, by omega⟩
  have cb := (capB (hW.2.2.1 p hp)).2.2
  have q7 : I 10 p = iZ (capZ v p) := (hR.2.2.1.2.1 p hp).2.2.2.2.2.2.1
  refine wc (hs := []) 20 (by decide) (And.intro (z_in (by omega) (by omega) (by omega)) (And.intro (by decide) (q_i hQ ?_)))
  simp (disch := omega) only [z_i8, z_i16, z_of, z_ofN, z_lofN, z_0, z_1, z_m1, z_l0, z_l1, iZ_add, iZ_sub, iZ_mul, iZ_neg, lZ_add, lZ_sub, lZ_mul, lZ_neg, z_div, z_ldiv, z_l, z_i, z_lt, z_le, z_eq, z_llt, z_lle, z_leq, z_cgt, z_cge, z_clt, z_cle, z_ceq, z_cl, z_nat, Int.toNat_natCast, mm_I, mm_J, z_cln, z_abs, z_max, z_min, z_lmax, z_lmin, z_sin, Int.cast_ofNat_Int, uI_I, uI_J, uL_I, uL_J, uA_I, uA_J, sI_eq, sI_ne, sL_eq, sL_ne, up_eq, up_ne, uL_eq, uL_ne, z_toInt, Int.reduceToNat, q7]
  rfl
/-- the vessel's water at p set to so many hundredths, the balance taken -/
theorem vC_cut {F : am_V → Int} (hF : ∀ v, F (cutV v) = F v) (v : am_V) : F (cutV v) = F v := hF v
theorem snk_cut {v : am_V} {p : Nat} : ∀ (m h : Nat), snkZ (cutV v) p m h = snkZ v p m h := by
  intro m
  induction m with
  | zero => intro h; rfl
  | succ m ih =>
    intro h
    show (if 0 ≤ upsZ (vset (cutV v) 276 p (hunZ v p h)) 0 0 1 then (h : Int) else snkZ (cutV v) p m (h + 1)) = (if 0 ≤ upsZ (vset v 276 p (hunZ v p h)) 0 0 1 then (h : Int) else snkZ v p m (h + 1))
    rw [ih, ← cut_set (by omega)]
    rfl
theorem prs_cut {v : am_V} {p : Nat} : ∀ (m h : Nat), prsZ (cutV v) p m h = prsZ v p m h := by
  intro m
  induction m with
  | zero => intro h; rfl
  | succ m ih =>
    intro h
    show (if upsZ (vset (cutV v) 274 p h) 0 0 1 < 0 then (h : Int) else prsZ (cutV v) p m (h + 1)) = (if upsZ (vset v 274 p h) 0 0 1 < 0 then (h : Int) else prsZ v p m (h + 1))
    rw [ih, ← cut_set (by omega)]
    rfl
theorem m_sinks {k : Int} (hV : Vm I) (h0 : M0 I J) (hk : -2147483648 ≤ k ∧ k ≤ 2147483647) (h1 : PG I k → Q (some (.int (iZ (snkZ (vC I) k.toNat 101 0)))) (mm I J A)) (hn : ¬ PG I k → Q (some (.int (iZ (-1)))) (mm I J A)) : wpC E (d + 6) 230 [.ref 265, .int (iZ k)] (mm I J A) Q := by
  refine wc (hs := [23]) 40 (by decide) (And.intro rfl (m_isPlaceZ hV hk rfl (fun p => wF (by decide) ?_) (fun p => wt rfl (hn p))))
  have H := h1 p
  have hW : Wf (vI I) := (hV p.1).1
  have h12 := nP12 hW
  obtain ⟨κ, hκ, rfl⟩ : ∃ κ : Nat, κ < nP (vI I) ∧ k = κ := ⟨k.toNat, by have := p.2.2; have q : k < nP (vI I) := this; have := p.2.1; omega, by have := p.2.1; omega⟩
  rw [Int.toNat_natCast] at H
  have H : Q (some (.int (iZ (snkZ (vI I) κ 101 0)))) (mm I J A) := by rw [← snk_cut]; exact H
  have hin : vp_in (iZ (κ : Int)) 12 := z_in (by omega) (by omega) (by omega)
  have hcl : (iZ (κ : Int)).toNatClampNeg = κ := z_cln (by omega)
  have wP := hW.2.2.1 κ hκ
  have cb := (capB wP).2.2
  have w6 := wP.2.2.2.2.2.2
  have ends : ∀ (I' : Nat → Nat → Int32) (w r : Int) (x4 : Int32), vI I' = vset (vI I) 276 κ w → Q (some (.int (iZ r))) (mm I J A) → wp E (d + 6) 230 74 [(0, .ref 265), (1, .int (iZ κ)), (2, .int (I 276 (iZ (κ : Int)).toNatClampNeg)), (3, .int (iZ r)), (4, .int x4)] [] (mm I' J A) Q := by
    intro I' w r x4 e hQ
    have eI : setI I' 276 (iZ (κ : Int)).toNatClampNeg (I 276 (iZ (κ : Int)).toNatClampNeg) = I := by
      refine vI_inj ?_
      rw [hcl, vI_setZ (z := vI I 276 κ) (vI_eq I 276 κ) (by omega) (by omega), e, vset_back]
    rw [← eI] at hQ
    exact wf (hs := []) 30 74 (by decide) (And.intro hin hQ)
  have L : ∀ (m h : Nat) (I' : Nat → Nat → Int32) (w : Int) (x4 : Int32), h + m = 101 → vI I' = vset (vI I) 276 κ w → 0 ≤ w ∧ w ≤ capZ (vI I) κ → x4 = iZ h → Q (some (.int (iZ (snkZ (vI I) κ m h)))) (mm I J A) → wp E (d + 6) 230 23 [(0, .ref 265), (1, .int (iZ κ)), (2, .int (I 276 (iZ (κ : Int)).toNatClampNeg)), (3, .int (iZ (-2))), (4, .int x4)] [] (mm I' J A) Q := by
    intro m
    induction m with
    | zero =>
      intro h I' w x4 hi e hw e4 hQ
      subst e4
      exact wf (hs := [23, 74]) 40 23 (by decide) (wt (by ((try simp (disch := omega) only [z_i8, z_i16, z_of, z_ofN, z_lofN, z_0, z_1, z_m1, z_l0, z_l1, iZ_add, iZ_sub, iZ_mul, iZ_neg, lZ_add, lZ_sub, lZ_mul, lZ_neg, z_div, z_ldiv, z_l, z_i, z_lt, z_le, z_eq, z_llt, z_lle, z_leq, z_cgt, z_cge, z_clt, z_cle, z_ceq, z_cl, z_nat, Int.toNat_natCast, mm_I, mm_J, z_cln, z_abs, z_max, z_min, z_lmax, z_lmin, z_sin, Int.cast_ofNat_Int, uI_I, uI_J, uL_I, uL_J, uA_I, uA_J, sI_eq, sI_ne, sL_eq, sL_ne, up_eq, up_ne, uL_eq, uL_ne, z_toInt, Int.reduceToNat]) <;> omega)) (ends I' w (-2) _ e hQ))
    | succ m ih =>
      intro h I' w x4 hi e hw e4 hQ
      subst e4
      have hb := hunB (h := h) wP ⟨by omega, by omega⟩
      have ec : capZ (vI I') κ = capZ (vI I) κ := by rw [e]; rfl
      have wP' : WfP (vI I') κ := by rw [e]; exact (Wf_set (p := κ) hW hw).2.2.1 κ hκ
      have ev : iZ (capZ (vI I') κ) * iZ (h : Int) / iZ 100 = iZ (hunZ (vI I) κ h) := by
        rw [ec]; simp (disch := omega) only [z_i8, z_i16, z_of, z_ofN, z_lofN, z_0, z_1, z_m1, z_l0, z_l1, iZ_add, iZ_sub, iZ_mul, iZ_neg, lZ_add, lZ_sub, lZ_mul, lZ_neg, z_div, z_ldiv, z_l, z_i, z_lt, z_le, z_eq, z_llt, z_lle, z_leq, z_cgt, z_cge, z_clt, z_cle, z_ceq, z_cl, z_nat, Int.toNat_natCast, mm_I, mm_J, z_cln, z_abs, z_max, z_min, z_lmax, z_lmin, z_sin, Int.cast_ofNat_Int, uI_I, uI_J, uL_I, uL_J, uA_I, uA_J, sI_eq, sI_ne, sL_eq, sL_ne, up_eq, up_ne, uL_eq, uL_ne, z_toInt, Int.reduceToNat]; rfl
      have e2 : vI (setI I' 276 (iZ (κ : Int)).toNatClampNeg (iZ (capZ (vI I') κ) * iZ (h : Int) / iZ 100)) = vset (vI I) 276 κ (hunZ (vI I) κ h) := by
        rw [hcl, vI_setZ (z := hunZ (vI I) κ h) ev (by omega) (by omega), e, vset_two]
      obtain ⟨I2, hI2⟩ : ∃ I2, I2 = setI I' 276 (iZ (κ : Int)).toNatClampNeg (iZ (capZ (vI I') κ) * iZ (h : Int) / iZ 100) := ⟨_, rfl⟩
      rw [← hI2] at e2
      have hW2 : Wf (vI I2) := by rw [e2]; exact Wf_set hW hb.2
      have m0 : M0 I2 J := M0_eq h0 (vI_cell (fun k => by rw [e2, vset_na (by decide)])) rfl
      have ml := m_loll (E := E) (d := d) (A := A) (Q := fun r M => r = some (.int (iZ (rstZ (trnZ (vI I2) 0 0 0) 1))) ∧ M = mm I2 J A) (M0_WM hW2 m0) ⟨by rw [M0_tM m0], rfl⟩
      have rr := rst_rng (t := trnZ (vI I2) 0 0 0) (z := 1) (by omega)
      have li := loll_iff (v := vI I2) (mw := 0) (mu := 0)
      rw [hI2] at ml
      refine wf (hs := [23, 74]) 60 23 (by decide) (wF (by ((try simp (disch := omega) only [z_i8, z_i16, z_of, z_ofN, z_lofN, z_0, z_1, z_m1, z_l0, z_l1, iZ_add, iZ_sub, iZ_mul, iZ_neg, lZ_add, lZ_sub, lZ_mul, lZ_neg, z_div, z_ldiv, z_l, z_i, z_lt, z_le, z_eq, z_llt, z_lle, z_leq, z_cgt, z_cge, z_clt, z_cle, z_ceq, z_cl, z_nat, Int.toNat_natCast, mm_I, mm_J, z_cln, z_abs, z_max, z_min, z_lmax, z_lmin, z_sin, Int.cast_ofNat_Int, uI_I, uI_J, uL_I, uL_J, uA_I, uA_J, sI_eq, sI_ne, sL_eq, sL_ne, up_eq, up_ne, uL_eq, uL_ne, z_toInt, Int.reduceToNat]) <;> omega)) (wt rfl (And.intro rfl (m_capE rfl (by omega) wP' (And.intro (by decide) (And.intro hin (And.intro rfl (wpC_mono ml (fun r M hh => ?_)))))))))
      obtain ⟨rfl, rfl⟩ := hh
      rw [← hI2]
      generalize hrs : rstZ (trnZ (vI I2) 0 0 0) 1 = rs at rr li ⊢
      unfold snkZ at hQ
      refine And.intro (fun q => ?_) (fun q => ?_)
      · simp (disch := omega) only [z_i8, z_i16, z_of, z_ofN, z_lofN, z_0, z_1, z_m1, z_l0, z_l1, iZ_add, iZ_sub, iZ_mul, iZ_neg, lZ_add, lZ_sub, lZ_mul, lZ_neg, z_div, z_ldiv, z_l, z_i, z_lt, z_le, z_eq, z_llt, z_lle, z_leq, z_cgt, z_cge, z_clt, z_cle, z_ceq, z_cl, z_nat, Int.toNat_natCast, mm_I, mm_J, z_cln, z_abs, z_max, z_min, z_lmax, z_lmin, z_sin, Int.cast_ofNat_Int, uI_I, uI_J, uL_I, uL_J, uA_I, uA_J, sI_eq, sI_ne, sL_eq, sL_ne, up_eq, up_ne, uL_eq, uL_ne, z_toInt, Int.reduceToNat] at q
        have := li.mp q
        rw [e2] at this
        rw [if_neg (by omega)] at hQ
        refine wp_keys [0, 1, 2, 3, 4] rfl rfl ?_
        exact ih (h + 1) I2 _ _ (by omega) e2 hb.2 (iZ_add h 1) hQ
      · simp (disch := omega) only [z_i8, z_i16, z_of, z_ofN, z_lofN, z_0, z_1, z_m1, z_l0, z_l1, iZ_add, iZ_sub, iZ_mul, iZ_neg, lZ_add, lZ_sub, lZ_mul, lZ_neg, z_div, z_ldiv, z_l, z_i, z_lt, z_le, z_eq, z_llt, z_lle, z_leq, z_cgt, z_cge, z_clt, z_cle, z_ceq, z_cl, z_nat, Int.toNat_natCast, mm_I, mm_J, z_cln, z_abs, z_max, z_min, z_lmax, z_lmin, z_sin, Int.cast_ofNat_Int, uI_I, uI_J, uL_I, uL_J, uA_I, uA_J, sI_eq, sI_ne, sL_eq, sL_ne, up_eq, up_ne, uL_eq, uL_ne, z_toInt, Int.reduceToNat] at q
        have : ¬ upsZ (vI I2) 0 0 1 < 0 := fun y => q (li.mpr y)
        rw [e2] at this
        rw [if_pos (by omega)] at hQ
        refine wp_keys [0, 1, 2, 3, 4] rfl rfl ?_
        have E1 := ends I2 _ h (iZ h + 1) e2 hQ
        refine wf (hs := [74]) 40 23 (by decide) (And.intro (fun _ => E1) (fun _ => wF ?_ E1))
        show ¬ iZ (h : Int) = iZ (-2)
        ((try simp (disch := omega) only [z_i8, z_i16, z_of, z_ofN, z_lofN, z_0, z_1, z_m1, z_l0, z_l1, iZ_add, iZ_sub, iZ_mul, iZ_neg, lZ_add, lZ_sub, lZ_mul, lZ_neg, z_div, z_ldiv, z_l, z_i, z_lt, z_le, z_eq, z_llt, z_lle, z_leq, z_cgt, z_cge, z_clt, z_cle, z_ceq, z_cl, z_nat, Int.toNat_natCast, mm_I, mm_J, z_cln, z_abs, z_max, z_min, z_lmax, z_lmin, z_sin, Int.cast_ofNat_Int, uI_I, uI_J, uL_I, uL_J, uA_I, uA_J, sI_eq, sI_ne, sL_eq, sL_ne, up_eq, up_ne, uL_eq, uL_ne, z_toInt, Int.reduceToNat]) <;> omega)
  refine And.intro hin ?_
  refine wp_keys [0, 1, 2, 3, 4] rfl rfl ?_
  exact L 101 0 I (vI I 276 κ) (iZ 0) (by omega) vset_id.symm w6 rfl H
theorem op_sinks {k : Int} (h : Inv I J) (hk : -2147483648 ≤ k ∧ k ≤ 2147483647) : wpC E (d + 7) 109 [.ref 0, .int (iZ k)] (mm I J A) (QI E (d + 7) 230 [.int (iZ k)]) := by
  have F : ¬ PG I k → QI E (d + 7) 230 [.int (iZ k)] (some (.int (iZ (-1)))) (mm I J A) := fun q => rd_mk h FS_refl (m_sinks (Vs_m h.1) h.2.2.2.2.1 hk (fun p => absurd p q) (fun _ => ⟨rfl, rfl⟩))
  refine wc (hs := [29]) 40 (by decide) (And.intro rfl (c_hasPlace h.1 hk rfl (fun p => wF (by decide) ?_) (fun p => wt rfl (F p))))
  obtain ⟨hW, hH, hR, h8⟩ := Vs_on h.1 p.1
  have h12 := nP12 hW
  obtain ⟨κ, hκ, rfl⟩ : ∃ κ : Nat, κ < nP (vC I) ∧ k = κ := ⟨k.toNat, by have := p.2; omega, by have := p.2.1; omega⟩
  have hin : vp_in (iZ (κ : Int)) 12 := z_in (by omega) (by omega) (by omega)
  have hcl : (iZ (κ : Int)).toNatClampNeg = κ := z_cln (by omega)
  have wP := hW.2.2.1 κ hκ
  have w6 := wP.2.2.2.2.2.2
  have e11 : I 11 (iZ (κ : Int)).toNatClampNeg = iZ (vC I 276 κ) := by rw [hcl]; exact (hR.2.2.1.2.1 κ hκ).2.2.2.2.2.2.2.1
  obtain ⟨RES, hRES⟩ : ∃ R, R = snkZ (vC I) κ 101 0 := ⟨_, rfl⟩
  have ends : ∀ (I' : Nat → Nat → Int32) (J' : Nat → Nat → Int64) (A' : Nat → Option Nat) (w : Int) (x4 : Int32), RS I' J' 1 (vset (vC I) 276 κ w) → FV I J I' J' → 0 ≤ w ∧ w ≤ capZ (vC I) κ → wp E (d + 7) 109 91 [(0, .ref 0), (1, .int (iZ κ)), (2, .int (I 11 (iZ (κ : Int)).toNatClampNeg)), (3, .int (iZ RES)), (4, .int x4)] [] (mm I' J' A') (QI E (d + 7) 230 [.int (iZ (κ : Int))]) := by
    intro I' J' A' w x4 hR' hF' hw
    refine wf (hs := []) 30 91 (by decide) (And.intro rfl (c_pourB hR' hW hκ hw rfl e11 (fun I2 hR2 hF2 => ?_)))
    have hF := FV_trans hF' (Fr_FV (J := J') hF2)
    refine rv_mk h p.1 hF hR2 (m_sinks (FV_m hF (Vs_m h.1)) (M0_FV hF h.2.2.2.2.1) hk (fun _ => ⟨?_, J', JF_refl, rfl⟩) (fun q => absurd ((FV_PG hF).mpr p) q))
    rw [Int.toNat_natCast, FV_vC hF, hRES]
  have L : ∀ (m h' : Nat) (I' : Nat → Nat → Int32) (J' : Nat → Nat → Int64) (A' : Nat → Option Nat) (w : Int) (x4 : Int32), h' + m = 101 → RS I' J' 1 (vset (vC I) 276 κ w) → FV I J I' J' → 0 ≤ w ∧ w ≤ capZ (vC I) κ → x4 = iZ h' → snkZ (vC I) κ m h' = RES → wp E (d + 7) 109 29 [(0, .ref 0), (1, .int (iZ κ)), (2, .int (I 11 (iZ (κ : Int)).toNatClampNeg)), (3, .int (iZ (-2))), (4, .int x4)] [] (mm I' J' A') (QI E (d + 7) 230 [.int (iZ (κ : Int))]) := by
    intro m
    induction m with
    | zero =>
      intro h' I' J' A' w x4 hi hR' hF' hw e4 he
      subst e4
      have he : (-2 : Int) = RES := he
      have := ends I' J' A' w (iZ h') hR' hF' hw
      rw [← he] at this
      exact wf (hs := [29, 91]) 30 29 (by decide) (wt (by ((try simp (disch := omega) only [z_i8, z_i16, z_of, z_ofN, z_lofN, z_0, z_1, z_m1, z_l0, z_l1, iZ_add, iZ_sub, iZ_mul, iZ_neg, lZ_add, lZ_sub, lZ_mul, lZ_neg, z_div, z_ldiv, z_l, z_i, z_lt, z_le, z_eq, z_llt, z_lle, z_leq, z_cgt, z_cge, z_clt, z_cle, z_ceq, z_cl, z_nat, Int.toNat_natCast, mm_I, mm_J, z_cln, z_abs, z_max, z_min, z_lmax, z_lmin, z_sin, Int.cast_ofNat_Int, uI_I, uI_J, uL_I, uL_J, uA_I, uA_J, sI_eq, sI_ne, sL_eq, sL_ne, up_eq, up_ne, uL_eq, uL_ne, z_toInt, Int.reduceToNat]) <;> omega)) this)
    | succ m ih =>
      intro h' I' J' A' w x4 hi hR' hF' hw e4 he
      subst e4
      have hb := hunB (h := h') wP ⟨by omega, by omega⟩
      have hW' := Wf_set (p := κ) hW hw
      have ec : hunZ (vset (vC I) 276 κ w) κ h' = hunZ (vC I) κ h' := rfl
      unfold snkZ at he
      refine wf (hs := [29, 91]) 60 29 (by decide) (wF (by ((try simp (disch := omega) only [z_i8, z_i16, z_of, z_ofN, z_lofN, z_0, z_1, z_m1, z_l0, z_l1, iZ_add, iZ_sub, iZ_mul, iZ_neg, lZ_add, lZ_sub, lZ_mul, lZ_neg, z_div, z_ldiv, z_l, z_i, z_lt, z_le, z_eq, z_llt, z_lle, z_leq, z_cgt, z_cge, z_clt, z_cle, z_ceq, z_cl, z_nat, Int.toNat_natCast, mm_I, mm_J, z_cln, z_abs, z_max, z_min, z_lmax, z_lmin, z_sin, Int.cast_ofNat_Int, uI_I, uI_J, uL_I, uL_J, uA_I, uA_J, sI_eq, sI_ne, sL_eq, sL_ne, up_eq, up_ne, uL_eq, uL_ne, z_toInt, Int.reduceToNat]) <;> omega)) (wF (by decide) (And.intro rfl (c_hund hR' hW' hκ (by omega) rfl rfl ?_))))
      rw [ec]
      refine And.intro rfl (c_pour (b := 1) (p := κ) (n := hunZ (vC I) κ h') (Or.inl rfl) hR' hW' hκ hb.2 rfl rfl (fun I2 hR2 hF2 => ?_))
      rw [vset_two] at hR2
      have hW2 := Wf_set (p := κ) hW hb.2
      refine And.intro rfl (c_takeV hW2 hR2 (fun I3 J3 A3 hB hR3 hF3 => ?_))
      have hF := FV_trans (FV_trans hF' (Fr_FV (J := J') hF2)) (FS_FV hF3)
      refine And.intro rfl (c_lolls (Or.inl ⟨rfl, rfl⟩) hB hW2 WW0 (fun q => wF (by decide) ?_) (fun q => wt rfl ?_))
      · rw [if_pos q] at he
        refine wp_keys [0, 1, 2, 3, 4] rfl rfl ?_
        have E1 := ends I3 J3 A3 _ (iZ h' + 1) hR3 hF hb.2
        rw [← he] at E1
        refine wf (hs := [91]) 30 29 (by decide) (And.intro (fun _ => E1) (fun _ => wt ?_ E1))
        show iZ 0 ≤ iZ (h' : Int)
        ((try simp (disch := omega) only [z_i8, z_i16, z_of, z_ofN, z_lofN, z_0, z_1, z_m1, z_l0, z_l1, iZ_add, iZ_sub, iZ_mul, iZ_neg, lZ_add, lZ_sub, lZ_mul, lZ_neg, z_div, z_ldiv, z_l, z_i, z_lt, z_le, z_eq, z_llt, z_lle, z_leq, z_cgt, z_cge, z_clt, z_cle, z_ceq, z_cl, z_nat, Int.toNat_natCast, mm_I, mm_J, z_cln, z_abs, z_max, z_min, z_lmax, z_lmin, z_sin, Int.cast_ofNat_Int, uI_I, uI_J, uL_I, uL_J, uA_I, uA_J, sI_eq, sI_ne, sL_eq, sL_ne, up_eq, up_ne, uL_eq, uL_ne, z_toInt, Int.reduceToNat]) <;> omega)
      · rw [if_neg (by omega)] at he
        refine wp_keys [0, 1, 2, 3, 4] rfl rfl ?_
        exact ih (h' + 1) I3 J3 A3 _ _ (by omega) hR3 hF hb.2 (iZ_add h' 1) he
  refine And.intro hin ?_
  refine wp_keys [0, 1, 2, 3, 4] rfl rfl ?_
  exact L 101 0 I J A (vC I 276 κ) (iZ 0) (by omega) (by rw [vset_id]; exact hR) FV_refl w6 rfl hRES.symm
theorem m_parts {k : Int} (hV : Vm I) (h0 : M0 I J) (hk : -2147483648 ≤ k ∧ k ≤ 2147483647) (h1 : PG I k → Q (some (.int (iZ (prsZ (vC I) k.toNat 9 1)))) (mm I J A)) (hn : ¬ PG I k → Q (some (.int (iZ (-1)))) (mm I J A)) : wpC E (d + 6) 231 [.ref 265, .int (iZ k)] (mm I J A) Q := by
  refine wc (hs := [23]) 40 (by decide) (And.intro rfl (m_isPlaceZ hV hk rfl (fun p => wF (by decide) ?_) (fun p => wt rfl (hn p))))
  have H := h1 p
  have hW : Wf (vI I) := (hV p.1).1
  have h12 := nP12 hW
  obtain ⟨κ, hκ, rfl⟩ : ∃ κ : Nat, κ < nP (vI I) ∧ k = κ := ⟨k.toNat, by have := p.2.2; have q : k < nP (vI I) := this; have := p.2.1; omega, by have := p.2.1; omega⟩
  rw [Int.toNat_natCast] at H
  have H : Q (some (.int (iZ (prsZ (vI I) κ 9 1)))) (mm I J A) := by rw [← prs_cut]; exact H
  have hin : vp_in (iZ (κ : Int)) 12 := z_in (by omega) (by omega) (by omega)
  have hcl : (iZ (κ : Int)).toNatClampNeg = κ := z_cln (by omega)
  have w4 := (hW.2.2.1 κ hκ).2.2.2.2.1
  have ends : ∀ (I' : Nat → Nat → Int32) (w r : Int) (x4 : Int32), vI I' = vset (vI I) 274 κ w → Q (some (.int (iZ r))) (mm I J A) → wp E (d + 6) 231 65 [(0, .ref 265), (1, .int (iZ κ)), (2, .int (I 274 (iZ (κ : Int)).toNatClampNeg)), (3, .int (iZ r)), (4, .int x4)] [] (mm I' J A) Q := by
    intro I' w r x4 e hQ
    have eI : setI I' 274 (iZ (κ : Int)).toNatClampNeg (I 274 (iZ (κ : Int)).toNatClampNeg) = I := by
      refine vI_inj ?_
      rw [hcl, vI_setZ (z := vI I 274 κ) (vI_eq I 274 κ) (by omega) (by omega), e, vset_back]
    rw [← eI] at hQ
    exact wf (hs := []) 30 65 (by decide) (And.intro hin hQ)
  have L : ∀ (m h : Nat) (I' : Nat → Nat → Int32) (w : Int) (x4 : Int32), h + m = 10 → 1 ≤ h → vI I' = vset (vI I) 274 κ w → x4 = iZ h → Q (some (.int (iZ (prsZ (vI I) κ m h)))) (mm I J A) → wp E (d + 6) 231 23 [(0, .ref 265), (1, .int (iZ κ)), (2, .int (I 274 (iZ (κ : Int)).toNatClampNeg)), (3, .int (iZ (-2))), (4, .int x4)] [] (mm I' J A) Q := by
    intro m
    induction m with
    | zero =>
      intro h I' w x4 hi h1 e e4 hQ
      subst e4
      exact wf (hs := [23, 65]) 40 23 (by decide) (wt (by ((try simp (disch := omega) only [z_i8, z_i16, z_of, z_ofN, z_lofN, z_0, z_1, z_m1, z_l0, z_l1, iZ_add, iZ_sub, iZ_mul, iZ_neg, lZ_add, lZ_sub, lZ_mul, lZ_neg, z_div, z_ldiv, z_l, z_i, z_lt, z_le, z_eq, z_llt, z_lle, z_leq, z_cgt, z_cge, z_clt, z_cle, z_ceq, z_cl, z_nat, Int.toNat_natCast, mm_I, mm_J, z_cln, z_abs, z_max, z_min, z_lmax, z_lmin, z_sin, Int.cast_ofNat_Int, uI_I, uI_J, uL_I, uL_J, uA_I, uA_J, sI_eq, sI_ne, sL_eq, sL_ne, up_eq, up_ne, uL_eq, uL_ne, z_toInt, Int.reduceToNat]) <;> omega)) (ends I' w (-2) _ e hQ))
    | succ m ih =>
      intro h I' w x4 hi h1 e e4 hQ
      subst e4
      have e2 : vI (setI I' 274 (iZ (κ : Int)).toNatClampNeg (iZ (h : Int))) = vset (vI I) 274 κ h := by
        rw [hcl, vI_setZ (z := (h : Int)) rfl (by omega) (by omega), e, vset_two]
      obtain ⟨I2, hI2⟩ : ∃ I2, I2 = setI I' 274 (iZ (κ : Int)).toNatClampNeg (iZ (h : Int)) := ⟨_, rfl⟩
      rw [← hI2] at e2
      have hW2 : Wf (vI I2) := by rw [e2]; exact WfP_274 hW ⟨by omega, by omega⟩
      have m0 : M0 I2 J := M0_eq h0 (vI_cell (fun k => by rw [e2, vset_na (by decide)])) rfl
      have ml := m_loll (E := E) (d := d) (A := A) (Q := fun r M => r = some (.int (iZ (rstZ (trnZ (vI I2) 0 0 0) 1))) ∧ M = mm I2 J A) (M0_WM hW2 m0) ⟨by rw [M0_tM m0], rfl⟩
      have rr := rst_rng (t := trnZ (vI I2) 0 0 0) (z := 1) (by omega)
      have li := loll_iff (v := vI I2) (mw := 0) (mu := 0)
      rw [hI2] at ml
      refine wf (hs := [23, 65]) 60 23 (by decide) (wF (by ((try simp (disch := omega) only [z_i8, z_i16, z_of, z_ofN, z_lofN, z_0, z_1, z_m1, z_l0, z_l1, iZ_add, iZ_sub, iZ_mul, iZ_neg, lZ_add, lZ_sub, lZ_mul, lZ_neg, z_div, z_ldiv, z_l, z_i, z_lt, z_le, z_eq, z_llt, z_lle, z_leq, z_cgt, z_cge, z_clt, z_cle, z_ceq, z_cl, z_nat, Int.toNat_natCast, mm_I, mm_J, z_cln, z_abs, z_max, z_min, z_lmax, z_lmin, z_sin, Int.cast_ofNat_Int, uI_I, uI_J, uL_I, uL_J, uA_I, uA_J, sI_eq, sI_ne, sL_eq, sL_ne, up_eq, up_ne, uL_eq, uL_ne, z_toInt, Int.reduceToNat]) <;> omega)) (wt rfl (And.intro hin (And.intro rfl (wpC_mono ml (fun r M hh => ?_))))))
      obtain ⟨rfl, rfl⟩ := hh
      rw [← hI2]
      generalize hrs : rstZ (trnZ (vI I2) 0 0 0) 1 = rs at rr li ⊢
      unfold prsZ at hQ
      refine And.intro (fun q => ?_) (fun q => ?_)
      · simp (disch := omega) only [z_i8, z_i16, z_of, z_ofN, z_lofN, z_0, z_1, z_m1, z_l0, z_l1, iZ_add, iZ_sub, iZ_mul, iZ_neg, lZ_add, lZ_sub, lZ_mul, lZ_neg, z_div, z_ldiv, z_l, z_i, z_lt, z_le, z_eq, z_llt, z_lle, z_leq, z_cgt, z_cge, z_clt, z_cle, z_ceq, z_cl, z_nat, Int.toNat_natCast, mm_I, mm_J, z_cln, z_abs, z_max, z_min, z_lmax, z_lmin, z_sin, Int.cast_ofNat_Int, uI_I, uI_J, uL_I, uL_J, uA_I, uA_J, sI_eq, sI_ne, sL_eq, sL_ne, up_eq, up_ne, uL_eq, uL_ne, z_toInt, Int.reduceToNat] at q
        have := li.mp q
        rw [e2] at this
        rw [if_pos (by omega)] at hQ
        refine wp_keys [0, 1, 2, 3, 4] rfl rfl ?_
        have E1 := ends I2 _ h (iZ h + 1) e2 hQ
        refine wf (hs := [65]) 40 23 (by decide) (And.intro (fun _ => E1) (fun _ => wF ?_ E1))
        show ¬ iZ (h : Int) = iZ (-2)
        ((try simp (disch := omega) only [z_i8, z_i16, z_of, z_ofN, z_lofN, z_0, z_1, z_m1, z_l0, z_l1, iZ_add, iZ_sub, iZ_mul, iZ_neg, lZ_add, lZ_sub, lZ_mul, lZ_neg, z_div, z_ldiv, z_l, z_i, z_lt, z_le, z_eq, z_llt, z_lle, z_leq, z_cgt, z_cge, z_clt, z_cle, z_ceq, z_cl, z_nat, Int.toNat_natCast, mm_I, mm_J, z_cln, z_abs, z_max, z_min, z_lmax, z_lmin, z_sin, Int.cast_ofNat_Int, uI_I, uI_J, uL_I, uL_J, uA_I, uA_J, sI_eq, sI_ne, sL_eq, sL_ne, up_eq, up_ne, uL_eq, uL_ne, z_toInt, Int.reduceToNat]) <;> omega)
      · simp (disch := omega) only [z_i8, z_i16, z_of, z_ofN, z_lofN, z_0, z_1, z_m1, z_l0, z_l1, iZ_add, iZ_sub, iZ_mul, iZ_neg, lZ_add, lZ_sub, lZ_mul, lZ_neg, z_div, z_ldiv, z_l, z_i, z_lt, z_le, z_eq, z_llt, z_lle, z_leq, z_cgt, z_cge, z_clt, z_cle, z_ceq, z_cl, z_nat, Int.toNat_natCast, mm_I, mm_J, z_cln, z_abs, z_max, z_min, z_lmax, z_lmin, z_sin, Int.cast_ofNat_Int, uI_I, uI_J, uL_I, uL_J, uA_I, uA_J, sI_eq, sI_ne, sL_eq, sL_ne, up_eq, up_ne, uL_eq, uL_ne, z_toInt, Int.reduceToNat] at q
        have : ¬ upsZ (vI I2) 0 0 1 < 0 := fun y => q (li.mpr y)
        rw [e2] at this
        rw [if_neg (by omega)] at hQ
        refine wp_keys [0, 1, 2, 3, 4] rfl rfl ?_
        exact ih (h + 1) I2 _ _ (by omega) (by omega) e2 (iZ_add h 1) hQ
  refine And.intro hin ?_
  refine wp_keys [0, 1, 2, 3, 4] rfl rfl ?_
  exact L 9 1 I (vI I 274 κ) (iZ 1) (by omega) (by omega) vset_id.symm rfl H
theorem op_parts {k : Int} (h : Inv I J) (hk : -2147483648 ≤ k ∧ k ≤ 2147483647) : wpC E (d + 7) 110 [.ref 0, .int (iZ k)] (mm I J A) (QI E (d + 7) 231 [.int (iZ k)]) := by
  have F : ¬ PG I k → QI E (d + 7) 231 [.int (iZ k)] (some (.int (iZ (-1)))) (mm I J A) := fun q => rd_mk h FS_refl (m_parts (Vs_m h.1) h.2.2.2.2.1 hk (fun p => absurd p q) (fun _ => ⟨rfl, rfl⟩))
  refine wc (hs := [29]) 40 (by decide) (And.intro rfl (c_hasPlace h.1 hk rfl (fun p => wF (by decide) ?_) (fun p => wt rfl (F p))))
  obtain ⟨hW, hH, hR, h8⟩ := Vs_on h.1 p.1
  have h12 := nP12 hW
  obtain ⟨κ, hκ, rfl⟩ : ∃ κ : Nat, κ < nP (vC I) ∧ k = κ := ⟨k.toNat, by have := p.2; omega, by have := p.2.1; omega⟩
  have hin : vp_in (iZ (κ : Int)) 12 := z_in (by omega) (by omega) (by omega)
  have hcl : (iZ (κ : Int)).toNatClampNeg = κ := z_cln (by omega)
  have w4 := (hW.2.2.1 κ hκ).2.2.2.2.1
  have e8 : I 8 (iZ (κ : Int)).toNatClampNeg = iZ (vC I 274 κ) := by rw [hcl]; exact (hR.2.2.1.2.1 κ hκ).2.2.2.2.1
  obtain ⟨RES, hRES⟩ : ∃ R, R = prsZ (vC I) κ 9 1 := ⟨_, rfl⟩
  have ends : ∀ (I' : Nat → Nat → Int32) (J' : Nat → Nat → Int64) (A' : Nat → Option Nat) (w : Int) (x4 : Int32), RS I' J' 1 (vset (vC I) 274 κ w) → FV I J I' J' → 1 ≤ w ∧ w ≤ 9 → wp E (d + 7) 110 83 [(0, .ref 0), (1, .int (iZ κ)), (2, .int (I 8 (iZ (κ : Int)).toNatClampNeg)), (3, .int (iZ RES)), (4, .int x4)] [] (mm I' J' A') (QI E (d + 7) 231 [.int (iZ (κ : Int))]) := by
    intro I' J' A' w x4 hR' hF' hw
    refine wf (hs := []) 30 83 (by decide) (And.intro rfl (c_partV (v := vset (vC I) 274 κ w) (p := κ) (n := vC I 274 κ) hR' (WfP_274 hW hw) hκ w4 rfl e8 (fun I2 J2 hR2 hF2 => ?_)))
    rw [vset_back] at hR2
    have hF := FV_trans hF' hF2
    refine rv_mk h p.1 hF hR2 (m_parts (FV_m hF (Vs_m h.1)) (M0_FV hF h.2.2.2.2.1) hk (fun _ => ⟨?_, J2, JF_refl, rfl⟩) (fun q => absurd ((FV_PG hF).mpr p) q))
    rw [Int.toNat_natCast, FV_vC hF, hRES]
  have L : ∀ (m h' : Nat) (I' : Nat → Nat → Int32) (J' : Nat → Nat → Int64) (A' : Nat → Option Nat) (w : Int) (x4 : Int32), h' + m = 10 → 1 ≤ h' → RS I' J' 1 (vset (vC I) 274 κ w) → FV I J I' J' → 1 ≤ w ∧ w ≤ 9 → x4 = iZ h' → prsZ (vC I) κ m h' = RES → wp E (d + 7) 110 29 [(0, .ref 0), (1, .int (iZ κ)), (2, .int (I 8 (iZ (κ : Int)).toNatClampNeg)), (3, .int (iZ (-2))), (4, .int x4)] [] (mm I' J' A') (QI E (d + 7) 231 [.int (iZ (κ : Int))]) := by
    intro m
    induction m with
    | zero =>
      intro h' I' J' A' w x4 hi h1 hR' hF' hw e4 he
      subst e4
      have he : (-2 : Int) = RES := he
      have := ends I' J' A' w (iZ h') hR' hF' hw
      rw [← he] at this
      exact wf (hs := [29, 83]) 30 29 (by decide) (wt (by ((try simp (disch := omega) only [z_i8, z_i16, z_of, z_ofN, z_lofN, z_0, z_1, z_m1, z_l0, z_l1, iZ_add, iZ_sub, iZ_mul, iZ_neg, lZ_add, lZ_sub, lZ_mul, lZ_neg, z_div, z_ldiv, z_l, z_i, z_lt, z_le, z_eq, z_llt, z_lle, z_leq, z_cgt, z_cge, z_clt, z_cle, z_ceq, z_cl, z_nat, Int.toNat_natCast, mm_I, mm_J, z_cln, z_abs, z_max, z_min, z_lmax, z_lmin, z_sin, Int.cast_ofNat_Int, uI_I, uI_J, uL_I, uL_J, uA_I, uA_J, sI_eq, sI_ne, sL_eq, sL_ne, up_eq, up_ne, uL_eq, uL_ne, z_toInt, Int.reduceToNat]) <;> omega)) this)
    | succ m ih =>
      intro h' I' J' A' w x4 hi h1 hR' hF' hw e4 he
      subst e4
      have hW' := WfP_274 (p := κ) hW hw
      unfold prsZ at he
      refine wf (hs := [29, 83]) 60 29 (by decide) (wF (by ((try simp (disch := omega) only [z_i8, z_i16, z_of, z_ofN, z_lofN, z_0, z_1, z_m1, z_l0, z_l1, iZ_add, iZ_sub, iZ_mul, iZ_neg, lZ_add, lZ_sub, lZ_mul, lZ_neg, z_div, z_ldiv, z_l, z_i, z_lt, z_le, z_eq, z_llt, z_lle, z_leq, z_cgt, z_cge, z_clt, z_cle, z_ceq, z_cl, z_nat, Int.toNat_natCast, mm_I, mm_J, z_cln, z_abs, z_max, z_min, z_lmax, z_lmin, z_sin, Int.cast_ofNat_Int, uI_I, uI_J, uL_I, uL_J, uA_I, uA_J, sI_eq, sI_ne, sL_eq, sL_ne, up_eq, up_ne, uL_eq, uL_ne, z_toInt, Int.reduceToNat]) <;> omega)) (wF (by decide) (And.intro rfl (c_partV (v := vset (vC I) 274 κ w) (p := κ) (n := (h' : Int)) hR' hW' hκ ⟨by omega, by omega⟩ rfl rfl (fun I2 J2 hR2 hF2 => ?_)))))
      rw [vset_two] at hR2
      have hW2 := WfP_274 (p := κ) (n := (h' : Int)) hW ⟨by omega, by omega⟩
      refine And.intro rfl (c_takeV hW2 hR2 (fun I3 J3 A3 hB hR3 hF3 => ?_))
      have hF := FV_trans (FV_trans hF' hF2) (FS_FV hF3)
      refine And.intro rfl (c_lolls (Or.inl ⟨rfl, rfl⟩) hB hW2 WW0 (fun q => wF (by decide) ?_) (fun q => wt rfl ?_))
      · rw [if_neg (by omega)] at he
        refine wp_keys [0, 1, 2, 3, 4] rfl rfl ?_
        exact ih (h' + 1) I3 J3 A3 _ _ (by omega) (by omega) hR3 hF ⟨by omega, by omega⟩ (iZ_add h' 1) he
      · rw [if_pos (by omega)] at he
        refine wp_keys [0, 1, 2, 3, 4] rfl rfl ?_
        have E1 := ends I3 J3 A3 _ (iZ h' + 1) hR3 hF ⟨by omega, by omega⟩
        rw [← he] at E1
        refine wf (hs := [83]) 30 29 (by decide) (And.intro (fun _ => E1) (fun _ => wt ?_ E1))
        show iZ 0 ≤ iZ (h' : Int)
        ((try simp (disch := omega) only [z_i8, z_i16, z_of, z_ofN, z_lofN, z_0, z_1, z_m1, z_l0, z_l1, iZ_add, iZ_sub, iZ_mul, iZ_neg, lZ_add, lZ_sub, lZ_mul, lZ_neg, z_div, z_ldiv, z_l, z_i, z_lt, z_le, z_eq, z_llt, z_lle, z_leq, z_cgt, z_cge, z_clt, z_cle, z_ceq, z_cl, z_nat, Int.toNat_natCast, mm_I, mm_J, z_cln, z_abs, z_max, z_min, z_lmax, z_lmin, z_sin, Int.cast_ofNat_Int, uI_I, uI_J, uL_I, uL_J, uA_I, uA_J, sI_eq, sI_ne, sL_eq, sL_ne, up_eq, up_ne, uL_eq, uL_ne, z_toInt, Int.reduceToNat]) <;> omega)
  refine And.intro hin ?_
  refine wp_keys [0, 1, 2, 3, 4] rfl rfl ?_
  exact L 9 1 I J A (vC I 274 κ) (iZ 1) (by omega) (by omega) (by rw [vset_id]; exact hR) FV_refl w4 rfl hRES.symm
end SNK
