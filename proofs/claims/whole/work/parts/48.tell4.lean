/-! ===== doors and ports told to both ===== -/
section OP5
variable {E : Nat × (Nat → Int32)} {d : Nat} {I : Nat → Nat → Int32} {J : Nat → Nat → Int64} {A : Nat → Option Nat} {Q : Option Value → am_M → Prop} {M : am_M}
def hVD (v : am_V) (k : Nat) (a b c e : Int) : am_V := vset (vset (vset (vset (vset v 282 k a) 283 k b) 284 k c) 285 k e) 266 11 (k + 1)
def hMD (I : Nat → Nat → Int32) (k : Nat) (a b c e : Int) : Nat → Nat → Int32 := setI (setI (setI (setI (setI I 282 k (iZ a)) 283 k (iZ b)) 284 k (iZ c)) 285 k (iZ e)) 266 11 (iZ (k + 1 : Nat))
def hCD (I : Nat → Nat → Int32) (k : Nat) (a b c e : Int) : Nat → Nat → Int32 := setI (setI (setI (setI (setI I 22 k (iZ a)) 23 k (iZ b)) 24 k (iZ c)) 25 k (iZ e)) 21 0 (iZ (k + 1 : Nat))
theorem nD_at {v : am_V} (h : Wf v) : v 266 11 = nD v ∧ nD v ≤ 12 := by
  have h1 := h.1.2.2.2.2.2.2.2.2.2.2.1
  have h2 := h.1.2.2.2.2.2.2.2.2.2.2.2.1
  unfold nD; omega
theorem hD_n {v : am_V} {k : Nat} {a b c e : Int} : nD (hVD v k a b c e) = k + 1 := by
  show (vset _ 266 11 ((k : Int) + 1) 266 11).toNat = _
  rw [vset_eq]; omega
theorem hD_at {v : am_V} {k : Nat} {a b c e : Int} (j : Nat) : hVD v k a b c e 282 j = (if j = k then a else v 282 j) ∧ hVD v k a b c e 283 j = (if j = k then b else v 283 j) ∧ hVD v k a b c e 284 j = (if j = k then c else v 284 j) ∧ hVD v k a b c e 285 j = (if j = k then e else v 285 j) := by
  refine ⟨?_, ?_, ?_, ?_⟩ <;> simp [hVD, vset]
theorem hD_ot {v : am_V} {k : Nat} {a b c e : Int} {x j : Nat} (h : x < 282 ∨ 285 < x) (h' : ¬ (x = 266 ∧ j = 11)) : hVD v k a b c e x j = v x j := by
  unfold hVD vset
  rw [if_neg h', if_neg (by omega), if_neg (by omega), if_neg (by omega), if_neg (by omega)]
theorem hD_W {v : am_V} {a b c e : Int} (hH : WfH v) (ha : 0 ≤ a ∧ a < nP v) (hb : -1 ≤ b ∧ b ≤ 1) (hc : 0 ≤ c ∧ c ≤ 3000) (he : 1 ≤ e ∧ e ≤ 200) : ∀ j, j < nD (hVD v (nD v) a b c e) → WfD (hVD v (nD v) a b c e) j := by
  intro j hj
  rw [hD_n] at hj
  obtain ⟨e1, e2, e3, e4⟩ := hD_at (v := v) (k := nD v) (a := a) (b := b) (c := c) (e := e) j
  unfold WfD
  rw [e1, e2, e3, e4]
  show (_ ∧ _ < (nP v : Int)) ∧ _
  by_cases hjk : j = nD v
  · rw [if_pos hjk, if_pos hjk, if_pos hjk, if_pos hjk]; exact ⟨ha, hb, hc, he⟩
  · rw [if_neg hjk, if_neg hjk, if_neg hjk, if_neg hjk]
    first | exact hH.1 j (by omega) | exact hH.2.1 j (by omega)
theorem RD_h {v : am_V} {a b c e : Int} (h : RPd I 1 v) : RPd (hCD I (nD v) a b c e) 1 (hVD v (nD v) a b c e) := by
  refine ⟨?_, fun j hj => ?_⟩
  · rw [hD_n]
    unfold hCD
    rw [setI_at, if_pos ⟨rfl, rfl⟩]
  · rw [hD_n] at hj
    obtain ⟨e1, e2, e3, e4⟩ := hD_at (v := v) (k := nD v) (a := a) (b := b) (c := c) (e := e) j
    unfold RSd
    rw [e1, e2, e3, e4]
    unfold hCD
    simp only [setI_at]
    by_cases hjk : j = nD v
    · simp [hjk]
    · have := h.2 j (by omega)
      unfold RSd at this
      simp [hjk]
      simpa using this
theorem m_holeD {a b c e : Int} (hV : Vm I) (ra : -2147483648 ≤ a ∧ a ≤ 2147483647) (rb : -2147483648 ≤ b ∧ b ≤ 2147483647) (rc : -2147483648 ≤ c ∧ c ≤ 2147483647) (re : -2147483648 ≤ e ∧ e ≤ 2147483647) (h1 : GH I a b c e → nD (vC I) < 12 → Q (some (.int (iZ (nD (vC I) : Int)))) (mm (hMD I (nD (vC I)) a b c e) J A)) (h0 : ¬ (GH I a b c e ∧ nD (vC I) < 12) → Q (some (.int (iZ (-1)))) (mm I J A)) : wpC E (d + 3) 155 [.ref 265, .int (iZ a), .int (iZ b), .int (iZ c), .int (iZ e)] (mm I J A) Q := by
  refine wc (hs := []) 100 (by decide) ?_
  refine And.intro (inL (by decide)) (And.intro (fun q => ?_) (fun q => ?_))
  · refine h0 fun r => ?_
    have hW := (hV r.1.1.1).1
    have h6 := nD_at hW
    have e10 : I 266 11 = iZ (nD (vC I) : Int) := (vI_eq I 266 11).trans (congrArg iZ (nD_at hW).1)
    have q : I 266 11 = iZ 12 := q
    rw [e10] at q
    have := r.2
    simp (disch := omega) only [z_i8, z_i16, z_of, z_ofN, z_lofN, z_0, z_1, z_m1, z_l0, z_l1, iZ_add, iZ_sub, iZ_mul, iZ_neg, lZ_add, lZ_sub, lZ_mul, lZ_neg, z_div, z_ldiv, z_l, z_i, z_lt, z_le, z_eq, z_llt, z_lle, z_leq, z_cgt, z_cge, z_clt, z_cle, z_ceq, z_cl, z_nat, Int.toNat_natCast, mm_I, mm_J, z_cln, z_abs, z_max, z_min, z_lmax, z_lmin, z_sin, Int.cast_ofNat_Int, uI_I, uI_J, uL_I, uL_J, uA_I, uA_J, sI_eq, sI_ne, sL_eq, sL_ne, up_eq, up_ne, uL_eq, uL_ne, z_toInt, Int.reduceToNat] at q
    omega
  · refine And.intro rfl (m_isHole hV ra rb rc re (fun g => wF (by decide) ?_) (fun g => wt rfl (h0 fun r => g r.1)))
    have hW := (hV g.1.1).1
    have h6 := (nD_at hW).2
    have e10 : I 266 11 = iZ (nD (vC I) : Int) := (vI_eq I 266 11).trans (congrArg iZ (nD_at hW).1)
    have q : ¬ I 266 11 = iZ 12 := q
    rw [e10] at q
    simp (disch := omega) only [z_i8, z_i16, z_of, z_ofN, z_lofN, z_0, z_1, z_m1, z_l0, z_l1, iZ_add, iZ_sub, iZ_mul, iZ_neg, lZ_add, lZ_sub, lZ_mul, lZ_neg, z_div, z_ldiv, z_l, z_i, z_lt, z_le, z_eq, z_llt, z_lle, z_leq, z_cgt, z_cge, z_clt, z_cle, z_ceq, z_cl, z_nat, Int.toNat_natCast, mm_I, mm_J, z_cln, z_abs, z_max, z_min, z_lmax, z_lmin, z_sin, Int.cast_ofNat_Int, uI_I, uI_J, uL_I, uL_J, uA_I, uA_J, sI_eq, sI_ne, sL_eq, sL_ne, up_eq, up_ne, uL_eq, uL_ne, z_toInt, Int.reduceToNat] at q
    have hin : vp_in (I 266 11) 12 := by rw [e10]; exact z_in (by omega) (by omega) (by omega)
    have hcl : (I 266 11).toNatClampNeg = nD (vC I) := by rw [e10]; exact z_cln (by omega)
    refine And.intro hin (And.intro hin (And.intro hin (And.intro hin (And.intro (inL (by decide)) (And.intro (inL (by decide)) ?_)))))
    have := h1 g (by omega)
    unfold hMD at this
    rw [← e10, ← hcl] at this
    refine q_i (y := I 266 11) ?_ rfl
    have e11 : ∀ X : Nat → Nat → Int32, X 266 11 = I 266 11 → X 266 11 + Int32.ofInt 1 = iZ (((I 266 11).toNatClampNeg + 1 : Nat) : Int) := fun X hX => by rw [hX, hcl, e10]; exact iZ_add _ 1
    rw [← e11 (setI (setI (setI (setI I 282 (I 266 11).toNatClampNeg (iZ a)) 283 (I 266 11).toNatClampNeg (iZ b)) 284 (I 266 11).toNatClampNeg (iZ c)) 285 (I 266 11).toNatClampNeg (iZ e)) rfl] at this
    exact this
theorem c_hAddD {k : Nat} {a b c e : Int} (hk : k < 12) (h0 : I 21 0 = iZ k) (hQ : Q (some (.int (iZ k))) (mm (hCD I k a b c e) J A)) : wpC E d 22 [.ref 21, .int (iZ a), .int (iZ b), .int (iZ c), .int (iZ e)] (mm I J A) Q := by
  have hin : vp_in (I 21 0) 12 := by rw [h0]; exact z_in (by omega) (by omega) (by omega)
  have hcl : (I 21 0).toNatClampNeg = k := by rw [h0]; exact z_cln (by omega)
  refine wc (hs := []) 60 (by decide) ?_
  refine And.intro hin (And.intro hin (And.intro hin (And.intro hin ?_)))
  refine q_i (y := iZ k) ?_ h0
  unfold hCD at hQ
  have e11 : ∀ X : Nat → Nat → Int32, X 21 0 = I 21 0 → X 21 0 + Int32.ofInt 1 = iZ ((k + 1 : Nat) : Int) := fun X hX => by rw [hX, h0]; exact iZ_add _ 1
  rw [← e11 (setI (setI (setI (setI I 22 k (iZ a)) 23 k (iZ b)) 24 k (iZ c)) 25 k (iZ e)) rfl, ← hcl] at hQ
  rw [← hcl]
  exact hQ
theorem hCD_out {k : Nat} {a b c e : Int} {x : Nat} (h : x < 21 ∨ 25 < x) : hCD I k a b c e x = I x := by
  funext j
  unfold hCD
  simp only [setI_at]
  rw [if_neg (by omega), if_neg (by omega), if_neg (by omega), if_neg (by omega), if_neg (by omega)]
theorem op_holeD {a b c e : Int} (h : Inv I J) (ra : -2147483648 ≤ a ∧ a ≤ 2147483647) (rb : -2147483648 ≤ b ∧ b ≤ 2147483647) (rc : -2147483648 ≤ c ∧ c ≤ 2147483647) (re : -2147483648 ≤ e ∧ e ≤ 2147483647) : wpC E (d + 3) 89 [.ref 0, .int (iZ a), .int (iZ b), .int (iZ c), .int (iZ e)] (mm I J A) (QI E (d + 3) 155 [.int (iZ a), .int (iZ b), .int (iZ c), .int (iZ e)]) := by
  have hV := h.1
  have F : ¬ (GH I a b c e ∧ nD (vC I) < 12) → QI E (d + 3) 155 [.int (iZ a), .int (iZ b), .int (iZ c), .int (iZ e)] (some (.int (iZ (-1)))) (mm I J A) := fun q => QI_mk (m_holeD (Vs_m hV) ra rb rc re (fun p1 p2 => absurd ⟨p1, p2⟩ q) (fun _ => ⟨rfl, I, J, A, rfl, h⟩))
  refine wc (hs := []) 20 (by decide) (And.intro rfl ?_)
  refine wc (hs := []) 60 (by decide) ?_
  refine And.intro rfl (c_hasPlace hV ra rfl (fun p => wF (by decide) ?_) (fun p => wt rfl (F fun q => p q.1.1)))
  obtain ⟨hW, hH, hR, h8⟩ := Vs_on hV p.1
  have h12 := (nD_at hW).2
  have p2 := p.2
  have e15 : I 21 0 = iZ (nD (vC I) : Int) := by
    first | exact hR.2.2.2.2.1.1 | exact hR.2.2.2.2.2.1.1
  refine And.intro (fun q => ?_) (fun q => ?_)
  · simp (disch := omega) only [z_i8, z_i16, z_of, z_ofN, z_lofN, z_0, z_1, z_m1, z_l0, z_l1, iZ_add, iZ_sub, iZ_mul, iZ_neg, lZ_add, lZ_sub, lZ_mul, lZ_neg, z_div, z_ldiv, z_l, z_i, z_lt, z_le, z_eq, z_llt, z_lle, z_leq, z_cgt, z_cge, z_clt, z_cle, z_ceq, z_cl, z_nat, Int.toNat_natCast, mm_I, mm_J, z_cln, z_abs, z_max, z_min, z_lmax, z_lmin, z_sin, Int.cast_ofNat_Int, uI_I, uI_J, uL_I, uL_J, uA_I, uA_J, sI_eq, sI_ne, sL_eq, sL_ne, up_eq, up_ne, uL_eq, uL_ne, z_toInt, Int.reduceToNat, e15] at q
    exact F fun r => by have := r.2; omega
  · simp (disch := omega) only [z_i8, z_i16, z_of, z_ofN, z_lofN, z_0, z_1, z_m1, z_l0, z_l1, iZ_add, iZ_sub, iZ_mul, iZ_neg, lZ_add, lZ_sub, lZ_mul, lZ_neg, z_div, z_ldiv, z_l, z_i, z_lt, z_le, z_eq, z_llt, z_lle, z_leq, z_cgt, z_cge, z_clt, z_cle, z_ceq, z_cl, z_nat, Int.toNat_natCast, mm_I, mm_J, z_cln, z_abs, z_max, z_min, z_lmax, z_lmin, z_sin, Int.cast_ofNat_Int, uI_I, uI_J, uL_I, uL_J, uA_I, uA_J, sI_eq, sI_ne, sL_eq, sL_ne, up_eq, up_ne, uL_eq, uL_ne, z_toInt, Int.reduceToNat, e15] at q
    refine And.intro rfl (cW (z := b) (lo := -1) (hi := 1) rfl rfl rfl rb (by omega) (by omega) (fun g1 => wF (by decide) ?_) (fun g => wt rfl (F fun r => g r.1.2.1)))
    refine And.intro rfl (cW (z := c) (lo := 0) (hi := 3000) rfl rfl rfl rc (by omega) (by omega) (fun g2 => wF (by decide) ?_) (fun g => wt rfl (F fun r => g r.1.2.2.1)))
    refine And.intro rfl (cW (z := e) (lo := 1) (hi := 200) rfl rfl rfl re (by omega) (by omega) (fun g3 => wF (by decide) ?_) (fun g => wt rfl (F fun r => g r.1.2.2.2)))
    suffices fin : QI E (d + 3) 155 [.int (iZ a), .int (iZ b), .int (iZ c), .int (iZ e)] (some (.int (iZ (nD (vC I) : Int)))) (mm (hCD I (nD (vC I)) a b c e) J A) from And.intro rfl (c_hAddD (k := nD (vC I)) (by omega) e15 fin)
    have hF : FV I J (hCD I (nD (vC I)) a b c e) J := fun x hx hy => ⟨hCD_out (by omega), rfl⟩
    have hv := FV_vC hF
    have hg : GH I a b c e := ⟨p, g1, g2, g3⟩
    refine QI_mk (m_holeD (FV_m hF (Vs_m hV)) ra rb rc re (fun p1 p2 => ?_) (fun q => absurd ⟨by rw [FV_GH hF]; exact hg, by rw [hv]; omega⟩ q))
    rw [hv]
    have hw := hD_W (v := vC I) (a := a) (b := b) (c := c) (e := e) hH p.2 g1 g2 g3
    refine ⟨rfl, _, J, A, rfl, Inv_upd (v := hVD (vC I) (nD (vC I)) a b c e) h hF ?_ JF_refl ?_ ?_ (vC_0 p.1) ?_ ?_ h8⟩
    · intro x hx
      funext j
      unfold hMD
      simp only [setI_at]
      rw [if_neg (by omega), if_neg (by omega), if_neg (by omega), if_neg (by omega), if_neg (by omega)]
    · obtain ⟨r0, ra', rp, rc', rd, ro, rl⟩ := id hR
      have oo : ∀ x, (x < 21 ∨ 25 < x) → hCD I (nD (vC I)) a b c e x = I x := fun x h2 => hCD_out h2
      refine RS_of ?_ (RPa_eq ra' (oo _ (by omega)) (fun i => rfl)) (RPp_eq rp (fun j h1 h2 => oo _ (by omega)) rfl rfl (fun a i h1 h2 => hD_ot (by omega) (by omega))) (RPc_eq rc' (fun j h1 h2 => oo _ (by omega)) rfl (fun a i h1 h2 => hD_ot (by omega) (by omega))) ?_ ?_ (RPl_eq rl (fun j h1 h2 => oo _ (by omega)) rfl (fun a i h1 h2 => hD_ot (by omega) (by omega)))
      · unfold RSs
        rw [hCD_out (by omega)]
        exact r0
      · first | exact RD_h rd | exact RPd_eq rd (fun j h1 h2 => oo _ (by omega)) rfl (fun a i h1 h2 => hD_ot (by omega) (by omega))
      · first | exact RPo_eq ro (fun j h1 h2 => oo _ (by omega)) rfl (fun a i h1 h2 => hD_ot (by omega) (by omega)) | exact RO_h ro
    · unfold hMD hVD
      rw [vC_set (z := ((nD (vC I) + 1 : Nat) : Int)) (by omega) rfl (by omega) (by omega), vC_set (z := e) (by omega) rfl (by omega) (by omega), vC_set (z := c) (by omega) rfl (by omega) (by omega), vC_set (z := b) (by omega) rfl (by omega) (by omega), vC_set (z := a) (by omega) rfl (by omega) (by omega), hv]
      rfl
    · obtain ⟨⟨w1, w2, w3, w4, w5, w6, w7, w8, w9, w10, w11, w12, w13⟩, wl, wp, wc⟩ := id hW
      have ws : 0 ≤ hVD (vC I) (nD (vC I)) a b c e 266 11 ∧ hVD (vC I) (nD (vC I)) a b c e 266 11 ≤ 12 := by
        show 0 ≤ vset _ 266 11 ((nD (vC I) : Int) + 1) 266 11 ∧ vset _ 266 11 ((nD (vC I) : Int) + 1) 266 11 ≤ 12
        rw [vset_eq]; omega
      first | exact ⟨⟨w1, w2, w3, w4, w5, w6, w7, w8, w9, w10, ws, w12, w13⟩, wl, wp, wc⟩ | exact ⟨⟨w1, w2, w3, w4, w5, w6, w7, w8, w9, w10, w11, ws, w13⟩, wl, wp, wc⟩
    · first | exact ⟨hw, hH.2.1, hH.2.2⟩ | exact ⟨hH.1, hw, hH.2.2⟩
def hVO (v : am_V) (k : Nat) (a b c e : Int) : am_V := vset (vset (vset (vset (vset v 286 k a) 287 k b) 288 k c) 289 k e) 266 12 (k + 1)
def hMO (I : Nat → Nat → Int32) (k : Nat) (a b c e : Int) : Nat → Nat → Int32 := setI (setI (setI (setI (setI I 286 k (iZ a)) 287 k (iZ b)) 288 k (iZ c)) 289 k (iZ e)) 266 12 (iZ (k + 1 : Nat))
def hCO (I : Nat → Nat → Int32) (k : Nat) (a b c e : Int) : Nat → Nat → Int32 := setI (setI (setI (setI (setI I 27 k (iZ a)) 28 k (iZ b)) 29 k (iZ c)) 30 k (iZ e)) 26 0 (iZ (k + 1 : Nat))
theorem nO_at {v : am_V} (h : Wf v) : v 266 12 = nO v ∧ nO v ≤ 12 := by
  have h1 := h.1.2.2.2.2.2.2.2.2.2.2.1
  have h2 := h.1.2.2.2.2.2.2.2.2.2.2.2.1
  unfold nO; omega
theorem hO_n {v : am_V} {k : Nat} {a b c e : Int} : nO (hVO v k a b c e) = k + 1 := by
  show (vset _ 266 12 ((k : Int) + 1) 266 12).toNat = _
  rw [vset_eq]; omega
theorem hO_at {v : am_V} {k : Nat} {a b c e : Int} (j : Nat) : hVO v k a b c e 286 j = (if j = k then a else v 286 j) ∧ hVO v k a b c e 287 j = (if j = k then b else v 287 j) ∧ hVO v k a b c e 288 j = (if j = k then c else v 288 j) ∧ hVO v k a b c e 289 j = (if j = k then e else v 289 j) := by
  refine ⟨?_, ?_, ?_, ?_⟩ <;> simp [hVO, vset]
theorem hO_ot {v : am_V} {k : Nat} {a b c e : Int} {x j : Nat} (h : x < 286 ∨ 289 < x) (h' : ¬ (x = 266 ∧ j = 12)) : hVO v k a b c e x j = v x j := by
  unfold hVO vset
  rw [if_neg h', if_neg (by omega), if_neg (by omega), if_neg (by omega), if_neg (by omega)]
theorem hO_W {v : am_V} {a b c e : Int} (hH : WfH v) (ha : 0 ≤ a ∧ a < nP v) (hb : -1 ≤ b ∧ b ≤ 1) (hc : 0 ≤ c ∧ c ≤ 3000) (he : 1 ≤ e ∧ e ≤ 200) : ∀ j, j < nO (hVO v (nO v) a b c e) → WfO (hVO v (nO v) a b c e) j := by
  intro j hj
  rw [hO_n] at hj
  obtain ⟨e1, e2, e3, e4⟩ := hO_at (v := v) (k := nO v) (a := a) (b := b) (c := c) (e := e) j
  unfold WfO
  rw [e1, e2, e3, e4]
  show (_ ∧ _ < (nP v : Int)) ∧ _
  by_cases hjk : j = nO v
  · rw [if_pos hjk, if_pos hjk, if_pos hjk, if_pos hjk]; exact ⟨ha, hb, hc, he⟩
  · rw [if_neg hjk, if_neg hjk, if_neg hjk, if_neg hjk]
    first | exact hH.1 j (by omega) | exact hH.2.1 j (by omega)
theorem RO_h {v : am_V} {a b c e : Int} (h : RPo I 1 v) : RPo (hCO I (nO v) a b c e) 1 (hVO v (nO v) a b c e) := by
  refine ⟨?_, fun j hj => ?_⟩
  · rw [hO_n]
    unfold hCO
    rw [setI_at, if_pos ⟨rfl, rfl⟩]
  · rw [hO_n] at hj
    obtain ⟨e1, e2, e3, e4⟩ := hO_at (v := v) (k := nO v) (a := a) (b := b) (c := c) (e := e) j
    unfold RSo
    rw [e1, e2, e3, e4]
    unfold hCO
    simp only [setI_at]
    by_cases hjk : j = nO v
    · simp [hjk]
    · have := h.2 j (by omega)
      unfold RSo at this
      simp [hjk]
      simpa using this
theorem m_holeO {a b c e : Int} (hV : Vm I) (ra : -2147483648 ≤ a ∧ a ≤ 2147483647) (rb : -2147483648 ≤ b ∧ b ≤ 2147483647) (rc : -2147483648 ≤ c ∧ c ≤ 2147483647) (re : -2147483648 ≤ e ∧ e ≤ 2147483647) (h1 : GH I a b c e → nO (vC I) < 12 → Q (some (.int (iZ (nO (vC I) : Int)))) (mm (hMO I (nO (vC I)) a b c e) J A)) (h0 : ¬ (GH I a b c e ∧ nO (vC I) < 12) → Q (some (.int (iZ (-1)))) (mm I J A)) : wpC E (d + 3) 156 [.ref 265, .int (iZ a), .int (iZ b), .int (iZ c), .int (iZ e)] (mm I J A) Q := by
  refine wc (hs := []) 100 (by decide) ?_
  refine And.intro (inL (by decide)) (And.intro (fun q => ?_) (fun q => ?_))
  · refine h0 fun r => ?_
    have hW := (hV r.1.1.1).1
    have h6 := nD_at hW
    have e10 : I 266 12 = iZ (nO (vC I) : Int) := (vI_eq I 266 12).trans (congrArg iZ (nO_at hW).1)
    have q : I 266 12 = iZ 12 := q
    rw [e10] at q
    have := r.2
    simp (disch := omega) only [z_i8, z_i16, z_of, z_ofN, z_lofN, z_0, z_1, z_m1, z_l0, z_l1, iZ_add, iZ_sub, iZ_mul, iZ_neg, lZ_add, lZ_sub, lZ_mul, lZ_neg, z_div, z_ldiv, z_l, z_i, z_lt, z_le, z_eq, z_llt, z_lle, z_leq, z_cgt, z_cge, z_clt, z_cle, z_ceq, z_cl, z_nat, Int.toNat_natCast, mm_I, mm_J, z_cln, z_abs, z_max, z_min, z_lmax, z_lmin, z_sin, Int.cast_ofNat_Int, uI_I, uI_J, uL_I, uL_J, uA_I, uA_J, sI_eq, sI_ne, sL_eq, sL_ne, up_eq, up_ne, uL_eq, uL_ne, z_toInt, Int.reduceToNat] at q
    omega
  · refine And.intro rfl (m_isHole hV ra rb rc re (fun g => wF (by decide) ?_) (fun g => wt rfl (h0 fun r => g r.1)))
    have hW := (hV g.1.1).1
    have h6 := (nO_at hW).2
    have e10 : I 266 12 = iZ (nO (vC I) : Int) := (vI_eq I 266 12).trans (congrArg iZ (nO_at hW).1)
    have q : ¬ I 266 12 = iZ 12 := q
    rw [e10] at q
    simp (disch := omega) only [z_i8, z_i16, z_of, z_ofN, z_lofN, z_0, z_1, z_m1, z_l0, z_l1, iZ_add, iZ_sub, iZ_mul, iZ_neg, lZ_add, lZ_sub, lZ_mul, lZ_neg, z_div, z_ldiv, z_l, z_i, z_lt, z_le, z_eq, z_llt, z_lle, z_leq, z_cgt, z_cge, z_clt, z_cle, z_ceq, z_cl, z_nat, Int.toNat_natCast, mm_I, mm_J, z_cln, z_abs, z_max, z_min, z_lmax, z_lmin, z_sin, Int.cast_ofNat_Int, uI_I, uI_J, uL_I, uL_J, uA_I, uA_J, sI_eq, sI_ne, sL_eq, sL_ne, up_eq, up_ne, uL_eq, uL_ne, z_toInt, Int.reduceToNat] at q
    have hin : vp_in (I 266 12) 12 := by rw [e10]; exact z_in (by omega) (by omega) (by omega)
    have hcl : (I 266 12).toNatClampNeg = nO (vC I) := by rw [e10]; exact z_cln (by omega)
    refine And.intro hin (And.intro hin (And.intro hin (And.intro hin (And.intro (inL (by decide)) (And.intro (inL (by decide)) ?_)))))
    have := h1 g (by omega)
    unfold hMO at this
    rw [← e10, ← hcl] at this
    refine q_i (y := I 266 12) ?_ rfl
    have e11 : ∀ X : Nat → Nat → Int32, X 266 12 = I 266 12 → X 266 12 + Int32.ofInt 1 = iZ (((I 266 12).toNatClampNeg + 1 : Nat) : Int) := fun X hX => by rw [hX, hcl, e10]; exact iZ_add _ 1
    rw [← e11 (setI (setI (setI (setI I 286 (I 266 12).toNatClampNeg (iZ a)) 287 (I 266 12).toNatClampNeg (iZ b)) 288 (I 266 12).toNatClampNeg (iZ c)) 289 (I 266 12).toNatClampNeg (iZ e)) rfl] at this
    exact this
theorem c_hAddO {k : Nat} {a b c e : Int} (hk : k < 12) (h0 : I 26 0 = iZ k) (hQ : Q (some (.int (iZ k))) (mm (hCO I k a b c e) J A)) : wpC E d 22 [.ref 26, .int (iZ a), .int (iZ b), .int (iZ c), .int (iZ e)] (mm I J A) Q := by
  have hin : vp_in (I 26 0) 12 := by rw [h0]; exact z_in (by omega) (by omega) (by omega)
  have hcl : (I 26 0).toNatClampNeg = k := by rw [h0]; exact z_cln (by omega)
  refine wc (hs := []) 60 (by decide) ?_
  refine And.intro hin (And.intro hin (And.intro hin (And.intro hin ?_)))
  refine q_i (y := iZ k) ?_ h0
  unfold hCO at hQ
  have e11 : ∀ X : Nat → Nat → Int32, X 26 0 = I 26 0 → X 26 0 + Int32.ofInt 1 = iZ ((k + 1 : Nat) : Int) := fun X hX => by rw [hX, h0]; exact iZ_add _ 1
  rw [← e11 (setI (setI (setI (setI I 27 k (iZ a)) 28 k (iZ b)) 29 k (iZ c)) 30 k (iZ e)) rfl, ← hcl] at hQ
  rw [← hcl]
  exact hQ
theorem hCO_out {k : Nat} {a b c e : Int} {x : Nat} (h : x < 26 ∨ 30 < x) : hCO I k a b c e x = I x := by
  funext j
  unfold hCO
  simp only [setI_at]
  rw [if_neg (by omega), if_neg (by omega), if_neg (by omega), if_neg (by omega), if_neg (by omega)]
theorem op_holeO {a b c e : Int} (h : Inv I J) (ra : -2147483648 ≤ a ∧ a ≤ 2147483647) (rb : -2147483648 ≤ b ∧ b ≤ 2147483647) (rc : -2147483648 ≤ c ∧ c ≤ 2147483647) (re : -2147483648 ≤ e ∧ e ≤ 2147483647) : wpC E (d + 3) 90 [.ref 0, .int (iZ a), .int (iZ b), .int (iZ c), .int (iZ e)] (mm I J A) (QI E (d + 3) 156 [.int (iZ a), .int (iZ b), .int (iZ c), .int (iZ e)]) := by
  have hV := h.1
  have F : ¬ (GH I a b c e ∧ nO (vC I) < 12) → QI E (d + 3) 156 [.int (iZ a), .int (iZ b), .int (iZ c), .int (iZ e)] (some (.int (iZ (-1)))) (mm I J A) := fun q => QI_mk (m_holeO (Vs_m hV) ra rb rc re (fun p1 p2 => absurd ⟨p1, p2⟩ q) (fun _ => ⟨rfl, I, J, A, rfl, h⟩))
  refine wc (hs := []) 20 (by decide) (And.intro rfl ?_)
  refine wc (hs := []) 60 (by decide) ?_
  refine And.intro rfl (c_hasPlace hV ra rfl (fun p => wF (by decide) ?_) (fun p => wt rfl (F fun q => p q.1.1)))
  obtain ⟨hW, hH, hR, h8⟩ := Vs_on hV p.1
  have h12 := (nO_at hW).2
  have p2 := p.2
  have e15 : I 26 0 = iZ (nO (vC I) : Int) := by
    first | exact hR.2.2.2.2.1.1 | exact hR.2.2.2.2.2.1.1
  refine And.intro (fun q => ?_) (fun q => ?_)
  · simp (disch := omega) only [z_i8, z_i16, z_of, z_ofN, z_lofN, z_0, z_1, z_m1, z_l0, z_l1, iZ_add, iZ_sub, iZ_mul, iZ_neg, lZ_add, lZ_sub, lZ_mul, lZ_neg, z_div, z_ldiv, z_l, z_i, z_lt, z_le, z_eq, z_llt, z_lle, z_leq, z_cgt, z_cge, z_clt, z_cle, z_ceq, z_cl, z_nat, Int.toNat_natCast, mm_I, mm_J, z_cln, z_abs, z_max, z_min, z_lmax, z_lmin, z_sin, Int.cast_ofNat_Int, uI_I, uI_J, uL_I, uL_J, uA_I, uA_J, sI_eq, sI_ne, sL_eq, sL_ne, up_eq, up_ne, uL_eq, uL_ne, z_toInt, Int.reduceToNat, e15] at q
    exact F fun r => by have := r.2; omega
  · simp (disch := omega) only [z_i8, z_i16, z_of, z_ofN, z_lofN, z_0, z_1, z_m1, z_l0, z_l1, iZ_add, iZ_sub, iZ_mul, iZ_neg, lZ_add, lZ_sub, lZ_mul, lZ_neg, z_div, z_ldiv, z_l, z_i, z_lt, z_le, z_eq, z_llt, z_lle, z_leq, z_cgt, z_cge, z_clt, z_cle, z_ceq, z_cl, z_nat, Int.toNat_natCast, mm_I, mm_J, z_cln, z_abs, z_max, z_min, z_lmax, z_lmin, z_sin, Int.cast_ofNat_Int, uI_I, uI_J, uL_I, uL_J, uA_I, uA_J, sI_eq, sI_ne, sL_eq, sL_ne, up_eq, up_ne, uL_eq, uL_ne, z_toInt, Int.reduceToNat, e15] at q
    refine And.intro rfl (cW (z := b) (lo := -1) (hi := 1) rfl rfl rfl rb (by omega) (by omega) (fun g1 => wF (by decide) ?_) (fun g => wt rfl (F fun r => g r.1.2.1)))
    refine And.intro rfl (cW (z := c) (lo := 0) (hi := 3000) rfl rfl rfl rc (by omega) (by omega) (fun g2 => wF (by decide) ?_) (fun g => wt rfl (F fun r => g r.1.2.2.1)))
    refine And.intro rfl (cW (z := e) (lo := 1) (hi := 200) rfl rfl rfl re (by omega) (by omega) (fun g3 => wF (by decide) ?_) (fun g => wt rfl (F fun r => g r.1.2.2.2)))
    suffices fin : QI E (d + 3) 156 [.int (iZ a), .int (iZ b), .int (iZ c), .int (iZ e)] (some (.int (iZ (nO (vC I) : Int)))) (mm (hCO I (nO (vC I)) a b c e) J A) from And.intro rfl (c_hAddO (k := nO (vC I)) (by omega) e15 fin)
    have hF : FV I J (hCO I (nO (vC I)) a b c e) J := fun x hx hy => ⟨hCO_out (by omega), rfl⟩
    have hv := FV_vC hF
    have hg : GH I a b c e := ⟨p, g1, g2, g3⟩
    refine QI_mk (m_holeO (FV_m hF (Vs_m hV)) ra rb rc re (fun p1 p2 => ?_) (fun q => absurd ⟨by rw [FV_GH hF]; exact hg, by rw [hv]; omega⟩ q))
    rw [hv]
    have hw := hO_W (v := vC I) (a := a) (b := b) (c := c) (e := e) hH p.2 g1 g2 g3
    refine ⟨rfl, _, J, A, rfl, Inv_upd (v := hVO (vC I) (nO (vC I)) a b c e) h hF ?_ JF_refl ?_ ?_ (vC_0 p.1) ?_ ?_ h8⟩
    · intro x hx
      funext j
      unfold hMO
      simp only [setI_at]
      rw [if_neg (by omega), if_neg (by omega), if_neg (by omega), if_neg (by omega), if_neg (by omega)]
    · obtain ⟨r0, ra', rp, rc', rd, ro, rl⟩ := id hR
      have oo : ∀ x, (x < 26 ∨ 30 < x) → hCO I (nO (vC I)) a b c e x = I x := fun x h2 => hCO_out h2
      refine RS_of ?_ (RPa_eq ra' (oo _ (by omega)) (fun i => rfl)) (RPp_eq rp (fun j h1 h2 => oo _ (by omega)) rfl rfl (fun a i h1 h2 => hO_ot (by omega) (by omega))) (RPc_eq rc' (fun j h1 h2 => oo _ (by omega)) rfl (fun a i h1 h2 => hO_ot (by omega) (by omega))) ?_ ?_ (RPl_eq rl (fun j h1 h2 => oo _ (by omega)) rfl (fun a i h1 h2 => hO_ot (by omega) (by omega)))
      · unfold RSs
        rw [hCO_out (by omega)]
        exact r0
      · first | exact RD_h rd | exact RPd_eq rd (fun j h1 h2 => oo _ (by omega)) rfl (fun a i h1 h2 => hO_ot (by omega) (by omega))
      · first | exact RPo_eq ro (fun j h1 h2 => oo _ (by omega)) rfl (fun a i h1 h2 => hO_ot (by omega) (by omega)) | exact RO_h ro
    · unfold hMO hVO
      rw [vC_set (z := ((nO (vC I) + 1 : Nat) : Int)) (by omega) rfl (by omega) (by omega), vC_set (z := e) (by omega) rfl (by omega) (by omega), vC_set (z := c) (by omega) rfl (by omega) (by omega), vC_set (z := b) (by omega) rfl (by omega) (by omega), vC_set (z := a) (by omega) rfl (by omega) (by omega), hv]
      rfl
    · obtain ⟨⟨w1, w2, w3, w4, w5, w6, w7, w8, w9, w10, w11, w12, w13⟩, wl, wp, wc⟩ := id hW
      have ws : 0 ≤ hVO (vC I) (nO (vC I)) a b c e 266 12 ∧ hVO (vC I) (nO (vC I)) a b c e 266 12 ≤ 12 := by
        show 0 ≤ vset _ 266 12 ((nO (vC I) : Int) + 1) 266 12 ∧ vset _ 266 12 ((nO (vC I) : Int) + 1) 266 12 ≤ 12
        rw [vset_eq]; omega
      first | exact ⟨⟨w1, w2, w3, w4, w5, w6, w7, w8, w9, w10, ws, w12, w13⟩, wl, wp, wc⟩ | exact ⟨⟨w1, w2, w3, w4, w5, w6, w7, w8, w9, w10, w11, ws, w13⟩, wl, wp, wc⟩
    · first | exact ⟨hw, hH.2.1, hH.2.2⟩ | exact ⟨hH.1, hw, hH.2.2⟩
end OP5
