/-! ===== place, ship told to both ===== -/
section OP7
variable {E : Nat × (Nat → Int32)} {d : Nat} {I : Nat → Nat → Int32} {J : Nat → Nat → Int64} {A : Nat → Option Nat} {Q : Option Value → am_M → Prop} {M : am_M}
def pcV (v : am_V) (k : Nat) (b0 d0 br ln wl of : Int) : am_V := vset (vset (vset (vset (vset (vset (vset (vset v 270 k b0) 271 k d0) 272 k br) 273 k ln) 274 k wl) 275 k of) 276 k 0) 266 9 (k + 1)
def pcM (I : Nat → Nat → Int32) (k : Nat) (b0 d0 br ln wl of : Int) : Nat → Nat → Int32 := setI (setI (setI (setI (setI (setI (setI (setI I 270 k (iZ b0)) 271 k (iZ d0)) 272 k (iZ br)) 273 k (iZ ln)) 274 k (iZ wl)) 275 k (iZ of)) 276 k (iZ 0)) 266 9 (iZ (k + 1 : Nat))
def pcC (I : Nat → Nat → Int32) (k : Nat) (b0 d0 br ln : Int) : Nat → Nat → Int32 := setI (setI (setI (setI (setI (setI I 4 k (iZ b0)) 5 k (iZ d0)) 6 k (iZ br)) 7 k (iZ ln)) 10 k (iZ (br * ln * d0 / 10000))) 3 0 (iZ (k + 1 : Nat))
def GP (b0 d0 br ln wl of : Int) : Prop := (0 ≤ b0 ∧ b0 ≤ 2000) ∧ (1 ≤ d0 ∧ d0 ≤ 999) ∧ (1 ≤ br ∧ br ≤ 400) ∧ (1 ≤ ln ∧ ln ≤ 2000) ∧ (1 ≤ wl ∧ wl ≤ 9) ∧ (-200 ≤ of ∧ of ≤ 200)
theorem pc_n {v : am_V} {k : Nat} {b0 d0 br ln wl of : Int} : nP (pcV v k b0 d0 br ln wl of) = k + 1 := by
  show (vset _ 266 9 ((k : Int) + 1) 266 9).toNat = _
  rw [vset_eq]; omega
theorem pc_at {v : am_V} {k : Nat} {b0 d0 br ln wl of : Int} (j : Nat) : pcV v k b0 d0 br ln wl of 270 j = (if j = k then b0 else v 270 j) ∧ pcV v k b0 d0 br ln wl of 271 j = (if j = k then d0 else v 271 j) ∧ pcV v k b0 d0 br ln wl of 272 j = (if j = k then br else v 272 j) ∧ pcV v k b0 d0 br ln wl of 273 j = (if j = k then ln else v 273 j) ∧ pcV v k b0 d0 br ln wl of 274 j = (if j = k then wl else v 274 j) ∧ pcV v k b0 d0 br ln wl of 275 j = (if j = k then of else v 275 j) ∧ pcV v k b0 d0 br ln wl of 276 j = (if j = k then 0 else v 276 j) := by
  refine ⟨?_, ?_, ?_, ?_, ?_, ?_, ?_⟩ <;> simp [pcV, vset]
theorem pc_ot {v : am_V} {k : Nat} {b0 d0 br ln wl of : Int} {x j : Nat} (h : x < 270 ∨ 276 < x) (h' : ¬ (x = 266 ∧ j = 9)) : pcV v k b0 d0 br ln wl of x j = v x j := by
  unfold pcV vset
  rw [if_neg h', if_neg (by omega), if_neg (by omega), if_neg (by omega), if_neg (by omega), if_neg (by omega), if_neg (by omega), if_neg (by omega)]
theorem pc_Wf {v : am_V} {b0 d0 br ln wl of : Int} (h : Wf v) (hH : WfH v) (hk : nP v < 12) (hg : GP b0 d0 br ln wl of) : Wf (pcV v (nP v) b0 d0 br ln wl of) ∧ WfH (pcV v (nP v) b0 d0 br ln wl of) := by
  obtain ⟨⟨w1, w2, w3, w4, w5, w6, w7, w8, w9, w10, w11, w12, w13⟩, wl', wp, wc⟩ := id h
  obtain ⟨t1, t2, t3, t4, t5, t6⟩ := hg
  refine ⟨⟨⟨w1, w2, w3, w4, w5, w6, w7, w8, ?_, w10, w11, w12, w13⟩, wl', fun j hj => ?_, wc⟩, fun j hj => ?_, fun j hj => ?_, hH.2.2⟩
  · show 0 ≤ vset _ 266 9 ((nP v : Int) + 1) 266 9 ∧ vset _ 266 9 ((nP v : Int) + 1) 266 9 ≤ 12
    rw [vset_eq]; omega
  · rw [pc_n] at hj
    obtain ⟨e1, e2, e3, e4, e5, e6, e7⟩ := pc_at (v := v) (k := nP v) (b0 := b0) (d0 := d0) (br := br) (ln := ln) (wl := wl) (of := of) j
    unfold WfP capZ
    rw [e1, e2, e3, e4, e5, e6, e7]
    by_cases hjk : j = nP v
    · rw [if_pos hjk, if_pos hjk, if_pos hjk, if_pos hjk, if_pos hjk, if_pos hjk, if_pos hjk]
      refine ⟨t1, t2, t3, t4, t5, t6, by omega, ?_⟩
      have a := mulb (a := br) (b := ln) (A := 400) (B := 2000) (by omega) t3.2 (by omega) t4.2
      have b := mulb (b := d0) (B := 999) a.1 a.2 (by omega) t2.2
      exact Int.ediv_nonneg b.1 (by omega)
    · rw [if_neg hjk, if_neg hjk, if_neg hjk, if_neg hjk, if_neg hjk, if_neg hjk, if_neg hjk]
      exact wp j (by omega)
  · have := hH.1 j hj
    unfold WfD at this ⊢
    rw [pc_n]
    refine ⟨⟨this.1.1, ?_⟩, this.2⟩
    have q := this.1.2
    show v 282 j < _
    omega
  · have := hH.2.1 j hj
    unfold WfO at this ⊢
    rw [pc_n]
    refine ⟨⟨this.1.1, ?_⟩, this.2⟩
    have q := this.1.2
    show v 286 j < _
    omega
theorem pc_tot {v : am_V} {b0 d0 br ln wl of : Int} : totZ (pcV v (nP v) b0 d0 br ln wl of) 0 = totZ v 0 := by
  unfold totZ
  rw [pc_n]
  show v 266 2 + 0 + sm (nC v) (fun k => v 277 k) + (sm (nP v) (fun k => pcV v (nP v) b0 d0 br ln wl of 276 k) + pcV v (nP v) b0 d0 br ln wl of 276 (nP v)) = _
  rw [(pc_at (nP v)).2.2.2.2.2.2, if_pos rfl]
  have : sm (nP v) (fun k => pcV v (nP v) b0 d0 br ln wl of 276 k) = sm (nP v) (fun k => v 276 k) := sm_congr (fun k hk => by rw [(pc_at k).2.2.2.2.2.2, if_neg (by omega)])
  rw [this]
  omega
set_option maxHeartbeats 1000000 in
theorem m_place {b0 d0 br ln wl of : Int} (hV : Vm I) (r1 : -2147483648 ≤ b0 ∧ b0 ≤ 2147483647) (r2 : -2147483648 ≤ d0 ∧ d0 ≤ 2147483647) (r3 : -2147483648 ≤ br ∧ br ≤ 2147483647) (r4 : -2147483648 ≤ ln ∧ ln ≤ 2147483647) (r5 : -2147483648 ≤ wl ∧ wl ≤ 2147483647) (r6 : -2147483648 ≤ of ∧ of ≤ 2147483647) (h1 : I 266 0 = 1 → nP (vC I) < 12 ∧ GP b0 d0 br ln wl of → Q (some (.int (iZ (nP (vC I) : Int)))) (mm (pcM I (nP (vC I)) b0 d0 br ln wl of) J A)) (h0 : ¬ (I 266 0 = 1 ∧ nP (vC I) < 12 ∧ GP b0 d0 br ln wl of) → Q (some (.int (iZ (-1)))) (mm I J A)) : wpC E (d + 2) 148 [.ref 265, .int (iZ b0), .int (iZ d0), .int (iZ br), .int (iZ ln), .int (iZ wl), .int (iZ of)] (mm I J A) Q := by
  refine wc (hs := []) 120 (by decide) ?_
  refine And.intro (inL (by decide)) (And.intro rfl (m_isShip (fun p => wF (by decide) ?_) (fun p => wt rfl (h0 fun q => p q.1))))
  have hW := (hV p).1
  have h12 := nP12 hW
  have e10 : I 266 9 = iZ (nP (vC I) : Int) := (vI_eq I 266 9).trans (congrArg iZ (nP_c hW))
  have F : ¬ (nP (vC I) < 12 ∧ GP b0 d0 br ln wl of) → Q (some (.int (iZ (-1)))) (mm I J A) := fun q => h0 fun r => q r.2
  unfold GP at F
  refine And.intro (fun q => ?_) (fun q => ?_)
  · have q : I 266 9 = iZ 12 := q
    rw [e10] at q
    simp (disch := omega) only [z_i8, z_i16, z_of, z_ofN, z_lofN, z_0, z_1, z_m1, z_l0, z_l1, iZ_add, iZ_sub, iZ_mul, iZ_neg, lZ_add, lZ_sub, lZ_mul, lZ_neg, z_div, z_ldiv, z_l, z_i, z_lt, z_le, z_eq, z_llt, z_lle, z_leq, z_cgt, z_cge, z_clt, z_cle, z_ceq, z_cl, z_nat, Int.toNat_natCast, mm_I, mm_J, z_cln, z_abs, z_max, z_min, z_lmax, z_lmin, z_sin, Int.cast_ofNat_Int, uI_I, uI_J, uL_I, uL_J, uA_I, uA_J, sI_eq, sI_ne, sL_eq, sL_ne, up_eq, up_ne, uL_eq, uL_ne, z_toInt, Int.reduceToNat] at q
    exact F (by omega)
  · have q : ¬ I 266 9 = iZ 12 := q
    rw [e10] at q
    simp (disch := omega) only [z_i8, z_i16, z_of, z_ofN, z_lofN, z_0, z_1, z_m1, z_l0, z_l1, iZ_add, iZ_sub, iZ_mul, iZ_neg, lZ_add, lZ_sub, lZ_mul, lZ_neg, z_div, z_ldiv, z_l, z_i, z_lt, z_le, z_eq, z_llt, z_lle, z_leq, z_cgt, z_cge, z_clt, z_cle, z_ceq, z_cl, z_nat, Int.toNat_natCast, mm_I, mm_J, z_cln, z_abs, z_max, z_min, z_lmax, z_lmin, z_sin, Int.cast_ofNat_Int, uI_I, uI_J, uL_I, uL_J, uA_I, uA_J, sI_eq, sI_ne, sL_eq, sL_ne, up_eq, up_ne, uL_eq, uL_ne, z_toInt, Int.reduceToNat] at q
    refine And.intro rfl (mW (z := b0) (lo := 0) (hi := 2000) (z_l (by omega) (by omega)) rfl rfl (by omega) (by omega) (by omega) (fun g => wF (by decide) ?_) (fun g => wt rfl (F (by omega))))
    refine And.intro rfl (mW (z := d0) (lo := 1) (hi := 999) (z_l (by omega) (by omega)) rfl rfl (by omega) (by omega) (by omega) (fun g => wF (by decide) ?_) (fun g => wt rfl (F (by omega))))
    refine And.intro rfl (mW (z := br) (lo := 1) (hi := 400) (z_l (by omega) (by omega)) rfl rfl (by omega) (by omega) (by omega) (fun g => wF (by decide) ?_) (fun g => wt rfl (F (by omega))))
    refine And.intro rfl (mW (z := ln) (lo := 1) (hi := 2000) (z_l (by omega) (by omega)) rfl rfl (by omega) (by omega) (by omega) (fun g => wF (by decide) ?_) (fun g => wt rfl (F (by omega))))
    refine And.intro rfl (mW (z := wl) (lo := 1) (hi := 9) (z_l (by omega) (by omega)) rfl rfl (by omega) (by omega) (by omega) (fun g => wF (by decide) ?_) (fun g => wt rfl (F (by omega))))
    refine And.intro rfl (mW (z := of) (lo := -200) (hi := 200) (z_l (by omega) (by omega)) (by decide +kernel) rfl (by omega) (by omega) (by omega) (fun g => wF (by decide) ?_) (fun g => wt rfl (F (by omega))))
    have hin : vp_in (I 266 9) 12 := by rw [e10]; exact z_in (by omega) (by omega) (by omega)
    have hcl : (I 266 9).toNatClampNeg = nP (vC I) := by rw [e10]; exact z_cln (by omega)
    refine And.intro hin (And.intro hin (And.intro hin (And.intro hin (And.intro hin (And.intro hin (And.intro hin (And.intro (inL (by decide)) (And.intro (inL (by decide)) ?_))))))))
    have := h1 p ⟨by omega, by unfold GP; omega⟩
    unfold pcM at this
    rw [← e10, ← hcl] at this
    refine q_i (y := I 266 9) ?_ rfl
    have e11 : ∀ X : Nat → Nat → Int32, X 266 9 = I 266 9 → X 266 9 + Int32.ofInt 1 = iZ (((I 266 9).toNatClampNeg + 1 : Nat) : Int) := fun X hX => by rw [hX, hcl, e10]; exact iZ_add _ 1
    rw [← e11 (setI (setI (setI (setI (setI (setI (setI I 270 (I 266 9).toNatClampNeg (iZ b0)) 271 (I 266 9).toNatClampNeg (iZ d0)) 272 (I 266 9).toNatClampNeg (iZ br)) 273 (I 266 9).toNatClampNeg (iZ ln)) 274 (I 266 9).toNatClampNeg (iZ wl)) 275 (I 266 9).toNatClampNeg (iZ of)) 276 (I 266 9).toNatClampNeg (iZ 0)) rfl] at this
    exact this
theorem c_plAdd {k : Nat} {b0 d0 br ln : Int} (hk : k < 12) (h0 : I 3 0 = iZ k) (rd : 1 ≤ d0 ∧ d0 ≤ 999) (rb : 1 ≤ br ∧ br ≤ 400) (rl : 1 ≤ ln ∧ ln ≤ 2000) (hQ : Q (some (.int (iZ k))) (mm (pcC I k b0 d0 br ln) J A)) : wpC E d 29 [.ref 3, .int (iZ b0), .int (iZ d0), .int (iZ br), .int (iZ ln)] (mm I J A) Q := by
  have hin : vp_in (I 3 0) 12 := by rw [h0]; exact z_in (by omega) (by omega) (by omega)
  have hcl : (I 3 0).toNatClampNeg = k := by rw [h0]; exact z_cln (by omega)
  have m1 := mulb (a := br) (b := ln) (A := 400) (B := 2000) (by omega) rb.2 (by omega) rl.2
  have m2 := mulb (b := d0) (B := 999) m1.1 m1.2 (by omega) rd.2
  refine wc (hs := []) 60 (by decide) ?_
  refine And.intro hin (And.intro hin (And.intro hin (And.intro hin (And.intro (by decide) (And.intro hin ?_)))))
  refine q_i (y := iZ k) ?_ h0
  unfold pcC at hQ
  have e11 : ∀ X : Nat → Nat → Int32, X 3 0 = I 3 0 → X 3 0 + Int32.ofInt 1 = iZ ((k + 1 : Nat) : Int) := fun X hX => by rw [hX, h0]; exact iZ_add _ 1
  have ec : iZ br * iZ ln * iZ d0 / iZ 10000 = iZ (br * ln * d0 / 10000) := by simp (disch := omega) only [z_i8, z_i16, z_of, z_ofN, z_lofN, z_0, z_1, z_m1, z_l0, z_l1, iZ_add, iZ_sub, iZ_mul, iZ_neg, lZ_add, lZ_sub, lZ_mul, lZ_neg, z_div, z_ldiv, z_l, z_i, z_lt, z_le, z_eq, z_llt, z_lle, z_leq, z_cgt, z_cge, z_clt, z_cle, z_ceq, z_cl, z_nat, Int.toNat_natCast, mm_I, mm_J, z_cln, z_abs, z_max, z_min, z_lmax, z_lmin, z_sin, Int.cast_ofNat_Int, uI_I, uI_J, uL_I, uL_J, uA_I, uA_J, sI_eq, sI_ne, sL_eq, sL_ne, up_eq, up_ne, uL_eq, uL_ne, z_toInt, Int.reduceToNat]
  rw [← e11 (setI (setI (setI (setI (setI I 4 k (iZ b0)) 5 k (iZ d0)) 6 k (iZ br)) 7 k (iZ ln)) 10 k (iZ (br * ln * d0 / 10000))) rfl, ← ec, ← hcl] at hQ
  rw [← hcl]
  exact hQ
set_option maxHeartbeats 2000000 in
theorem op_place {b0 d0 br ln wl of : Int} (h : Inv I J) (r1 : -2147483648 ≤ b0 ∧ b0 ≤ 2147483647) (r2 : -2147483648 ≤ d0 ∧ d0 ≤ 2147483647) (r3 : -2147483648 ≤ br ∧ br ≤ 2147483647) (r4 : -2147483648 ≤ ln ∧ ln ≤ 2147483647) (r5 : -2147483648 ≤ wl ∧ wl ≤ 2147483647) (r6 : -2147483648 ≤ of ∧ of ≤ 2147483647) : wpC E (d + 3) 85 [.ref 0, .int (iZ b0), .int (iZ d0), .int (iZ br), .int (iZ ln), .int (iZ wl), .int (iZ of)] (mm I J A) (QI E (d + 3) 148 [.int (iZ b0), .int (iZ d0), .int (iZ br), .int (iZ ln), .int (iZ wl), .int (iZ of)]) := by
  have F' : ¬ (I 266 0 = 1 ∧ nP (vC I) < 12 ∧ GP b0 d0 br ln wl of) → QI E (d + 3) 148 [.int (iZ b0), .int (iZ d0), .int (iZ br), .int (iZ ln), .int (iZ wl), .int (iZ of)] (some (.int (iZ (-1)))) (mm I J A) := fun q => QI_mk (m_place (Vs_m h.1) r1 r2 r3 r4 r5 r6 (fun p1 p2 => absurd ⟨p1, p2⟩ q) (fun _ => ⟨rfl, I, J, A, rfl, h⟩))
  rcases h.1 with ⟨g0, g1⟩ | ⟨g0, hW, hH, hR, h8⟩
  · refine wc (hs := []) 40 (by decide) (wt g1 (F' fun q => ?_))
    rw [q.1] at g0; cases g0
  · have F : ¬ (nP (vC I) < 12 ∧ GP b0 d0 br ln wl of) → QI E (d + 3) 148 [.int (iZ b0), .int (iZ d0), .int (iZ br), .int (iZ ln), .int (iZ wl), .int (iZ of)] (some (.int (iZ (-1)))) (mm I J A) := fun q => F' fun r => q r.2
    unfold GP at F
    have b1 : ¬ I 1 0 = 0 := by have : I 1 0 = 1 := hR.1.1; rw [this]; decide
    have h12 := nP12 hW
    have e15 : I 3 0 = iZ (nP (vC I) : Int) := hR.2.2.1.1
    refine wc (hs := []) 120 (by decide) (wF b1 (And.intro (fun q => ?_) (fun q => ?_)))
    · simp (disch := omega) only [z_i8, z_i16, z_of, z_ofN, z_lofN, z_0, z_1, z_m1, z_l0, z_l1, iZ_add, iZ_sub, iZ_mul, iZ_neg, lZ_add, lZ_sub, lZ_mul, lZ_neg, z_div, z_ldiv, z_l, z_i, z_lt, z_le, z_eq, z_llt, z_lle, z_leq, z_cgt, z_cge, z_clt, z_cle, z_ceq, z_cl, z_nat, Int.toNat_natCast, mm_I, mm_J, z_cln, z_abs, z_max, z_min, z_lmax, z_lmin, z_sin, Int.cast_ofNat_Int, uI_I, uI_J, uL_I, uL_J, uA_I, uA_J, sI_eq, sI_ne, sL_eq, sL_ne, up_eq, up_ne, uL_eq, uL_ne, z_toInt, Int.reduceToNat, e15] at q
      refine And.intro rfl (cW (z := b0) (lo := 0) (hi := 2000) rfl rfl rfl (by omega) (by omega) (by omega) (fun g => wF (by decide) ?_) (fun g => wt rfl (F (by omega))))
      refine And.intro rfl (cW (z := d0) (lo := 1) (hi := 999) rfl rfl rfl (by omega) (by omega) (by omega) (fun g => wF (by decide) ?_) (fun g => wt rfl (F (by omega))))
      refine And.intro rfl (cW (z := br) (lo := 1) (hi := 400) rfl rfl rfl (by omega) (by omega) (by omega) (fun g => wF (by decide) ?_) (fun g => wt rfl (F (by omega))))
      refine And.intro rfl (cW (z := ln) (lo := 1) (hi := 2000) rfl rfl rfl (by omega) (by omega) (by omega) (fun g => wF (by decide) ?_) (fun g => wt rfl (F (by omega))))
      refine And.intro rfl (cW (z := wl) (lo := 1) (hi := 9) rfl rfl rfl (by omega) (by omega) (by omega) (fun g => wF (by decide) ?_) (fun g => wt rfl (F (by omega))))
      refine And.intro rfl (cW (z := of) (lo := -200) (hi := 200) rfl rfl rfl (by omega) (by omega) (by omega) (fun g => wF (by decide) ?_) (fun g => wt rfl (F (by omega))))
      have hg : GP b0 d0 br ln wl of := by unfold GP; omega
      have hw2 := pc_Wf hW hH (by omega) hg
      generalize hkk : nP (vC I) = k at *
      have hin : vp_in (iZ (k : Int)) 12 := z_in (by omega) (by omega) (by omega)
      have hcl : (iZ (k : Int)).toNatClampNeg = k := z_cln (by omega)
      have wz : I 11 k = iZ 0 := hR.2.2.1.2.2 k (by omega) (by omega)
      have m1 := mulb (a := br) (b := ln) (A := 400) (B := 2000) (by omega) hg.2.2.1.2 (by omega) hg.2.2.2.1.2
      have m2 := mulb (b := d0) (B := 999) m1.1 m1.2 (by omega) hg.2.1.2
      have m3 := Int.ediv_nonneg (a := br * ln * d0) (b := 10000) m2.1 (by omega)
      obtain ⟨IX, hIX⟩ : ∃ IX, IX = setI (pcC I k b0 d0 br ln) 9 k (iZ of) := ⟨_, rfl⟩
      have IXat : ∀ a j, IX a j = if a = 9 ∧ j = k then iZ of else if a = 3 ∧ j = 0 then iZ (k + 1 : Nat) else if a = 10 ∧ j = k then iZ (br * ln * d0 / 10000) else if a = 7 ∧ j = k then iZ ln else if a = 6 ∧ j = k then iZ br else if a = 5 ∧ j = k then iZ d0 else if a = 4 ∧ j = k then iZ b0 else I a j := fun a j => by
        rw [hIX]
        unfold pcC
        simp only [setI_at]
      suffices fin : ∀ B4 : Int, B4 = 5 * br * min 0 (br * ln * d0 / 10000 - 0) / wl → QI E (d + 3) 148 [.int (iZ b0), .int (iZ d0), .int (iZ br), .int (iZ ln), .int (iZ wl), .int (iZ of)] (some (.int (iZ (k : Int)))) (mm (holdI (setI IX 8 k (iZ wl)) 1 k 0 (min d0 (0 * 10000 / (br * ln))) B4) (setL J 13 k (lZ (ln * br * br * br / (1200 * wl * wl)))) A) by
        have cp := c_part (E := E) (d := d) (I := IX) (J := J) (A := A) (p := k) (n := wl) (D := d0) (B := br) (L := ln) (C := br * ln * d0 / 10000) (w := 0) (x := iZ wl) (y := iZ k) (Q := fun r M => r = none ∧ QI E (d + 3) 148 [.int (iZ b0), .int (iZ d0), .int (iZ br), .int (iZ ln), .int (iZ wl), .int (iZ of)] (some (.int (iZ (k : Int)))) M) (by omega) (by rw [IXat]; simp) (by rw [IXat]; simp) (by rw [IXat]; simp) (by rw [IXat]; simp) (by rw [IXat]; simpa using wz) hg.2.1 hg.2.2.1 hg.2.2.2.1 hg.2.2.2.2.1 (by omega) (by omega) rfl rfl ⟨rfl, fin _ rfl⟩
        have cp' : wpC E (d + 2) 30 [.ref 3, .int (iZ k), .int (iZ wl)] (mm (setI (pcC I k b0 d0 br ln) 9 (iZ (k : Int)).toNatClampNeg (iZ of)) J A) (fun r M => r = none ∧ QI E (d + 3) 148 [.int (iZ b0), .int (iZ d0), .int (iZ br), .int (iZ ln), .int (iZ wl), .int (iZ of)] (some (.int (iZ (k : Int)))) M) := by
          rw [hcl, ← hIX]; exact cp
        refine And.intro rfl (c_plAdd (k := k) (by omega) e15 hg.2.1 hg.2.2.1 hg.2.2.2.1 (And.intro hin (And.intro rfl (wpC_mono cp' (fun r M hh => ?_)))))
        obtain ⟨rfl, hh⟩ := hh
        exact hh
      intro B4 hB4
      have row : ∀ a, a ≠ 3 → a ≠ 4 → a ≠ 5 → a ≠ 6 → a ≠ 7 → a ≠ 8 → a ≠ 9 → a ≠ 10 → a ≠ 11 → a ≠ 12 → a ≠ 14 → holdI (setI IX 8 k (iZ wl)) 1 k 0 (min d0 (0 * 10000 / (br * ln))) B4 a = I a := fun a h3 h4 h5 h6 h7 h8 h9 h10 h11 h12 h14 => by
        rw [holdI_row (by omega) (by omega) (by omega)]
        funext j
        rw [setI_at, if_neg (by omega), IXat, if_neg (by omega), if_neg (by omega), if_neg (by omega), if_neg (by omega), if_neg (by omega), if_neg (by omega), if_neg (by omega)]
      have hF : FV I J (holdI (setI IX 8 k (iZ wl)) 1 k 0 (min d0 (0 * 10000 / (br * ln))) B4) (setL J 13 k (lZ (ln * br * br * br / (1200 * wl * wl)))) := fun a ha hb => ⟨row a (by omega) (by omega) (by omega) (by omega) (by omega) (by omega) (by omega) (by omega) (by omega) (by omega) (by omega), by
        funext j
        rw [setL_at, if_neg (by omega)]⟩
      have hv := FV_vC hF
      refine QI_mk (m_place (FV_m hF (Vs_m h.1)) r1 r2 r3 r4 r5 r6 (fun p1 p2 => ?_) (fun q => absurd ⟨by rw [(hF 266 (by omega) (by omega)).1]; exact g0, by rw [hv, hkk]; omega, hg⟩ q))
      rw [hv, hkk]
      have hr : RS (holdI (setI IX 8 k (iZ wl)) 1 k 0 (min d0 (0 * 10000 / (br * ln))) B4) (setL J 13 k (lZ (ln * br * br * br / (1200 * wl * wl)))) 1 (pcV (vC I) k b0 d0 br ln wl of) := by
        obtain ⟨r0, ra', rp, rc', rd, ro, rl⟩ := id hR
        have rr : ∀ a, 15 ≤ a → holdI (setI IX 8 k (iZ wl)) 1 k 0 (min d0 (0 * 10000 / (br * ln))) B4 a = I a := fun a h => row a (by omega) (by omega) (by omega) (by omega) (by omega) (by omega) (by omega) (by omega) (by omega) (by omega) (by omega)
        refine RS_of ?_ (RPa_eq ra' (row 2 (by omega) (by omega) (by omega) (by omega) (by omega) (by omega) (by omega) (by omega) (by omega) (by omega) (by omega)) (fun i => rfl)) (RPp_one (p := k) rp ?_ ?_ ?_ ?_ ?_ ?_ ?_) (RPc_eq rc' (fun j h1 h2 => rr _ (by omega)) rfl (fun a i h1 h2 => pc_ot (by omega) (by omega))) (RPd_eq rd (fun j h1 h2 => rr _ (by omega)) rfl (fun a i h1 h2 => pc_ot (by omega) (by omega))) (RPo_eq ro (fun j h1 h2 => rr _ (by omega)) rfl (fun a i h1 h2 => pc_ot (by omega) (by omega))) (RPl_eq rl (fun j h1 h2 => rr _ (by omega)) rfl (fun a i h1 h2 => pc_ot (by omega) (by omega)))
        · have et : totZ (pcV (vC I) k b0 d0 br ln wl of) 0 = totZ (vC I) 0 := by rw [← hkk]; exact pc_tot
          unfold RSs
          rw [row 1 (by omega) (by omega) (by omega) (by omega) (by omega) (by omega) (by omega) (by omega) (by omega) (by omega) (by omega), et]
          exact r0
        · intro j i h1 h2 h3
          rw [holdI_ne h3, setI_at, if_neg (by omega), IXat, if_neg (by omega), if_neg (by omega), if_neg (by omega), if_neg (by omega), if_neg (by omega), if_neg (by omega), if_neg (by omega)]
        · intro i h3
          rw [setL_at, if_neg (by omega)]
        · intro a i h1 h2 h3
          obtain ⟨e1, e2, e3, e4, e5, e6, e7⟩ := pc_at (v := vC I) (k := k) (b0 := b0) (d0 := d0) (br := br) (ln := ln) (wl := wl) (of := of) i
          have hc : a = 270 ∨ a = 271 ∨ a = 272 ∨ a = 273 ∨ a = 274 ∨ a = 275 ∨ a = 276 := by omega
          rcases hc with rfl | rfl | rfl | rfl | rfl | rfl | rfl
          · rw [e1, if_neg h3]
          · rw [e2, if_neg h3]
          · rw [e3, if_neg h3]
          · rw [e4, if_neg h3]
          · rw [e5, if_neg h3]
          · rw [e6, if_neg h3]
          · rw [e7, if_neg h3]
        · intro i hi hne
          rw [pc_n] at hi
          omega
        · intro i hi
          rw [pc_n] at hi
          omega
        · rw [pc_n]
          show holdI _ 1 k _ _ _ 3 0 = _
          rw [holdI_row (by omega) (by omega) (by omega), setI_at, if_neg (by omega), IXat, if_neg (by omega), if_pos ⟨rfl, rfl⟩]
        · intro _
          obtain ⟨e1, e2, e3, e4, e5, e6, e7⟩ := pc_at (v := vC I) (k := k) (b0 := b0) (d0 := d0) (br := br) (ln := ln) (wl := wl) (of := of) k
          rw [if_pos rfl] at e1 e2 e3 e4 e5 e6 e7
          unfold RSp capZ levZ sprZ blkZ capZ
          rw [e1, e2, e3, e4, e5, e6, e7]
          have f : ∀ a, a ≠ 8 → a ≠ 11 → a ≠ 12 → a ≠ 14 → holdI (setI IX 8 k (iZ wl)) 1 k 0 (min d0 (0 * 10000 / (br * ln))) B4 a k = IX a k := fun a h8 h11 h12 h14 => by
            rw [holdI_row (by omega) (by omega) (by omega), setI_at, if_neg (by omega)]
          refine ⟨?_, ?_, ?_, ?_, ?_, ?_, ?_, ?_, ?_, ?_, ?_⟩
          · rw [f 4 (by omega) (by omega) (by omega) (by omega), IXat]; simp
          · rw [f 5 (by omega) (by omega) (by omega) (by omega), IXat]; simp
          · rw [f 6 (by omega) (by omega) (by omega) (by omega), IXat]; simp
          · rw [f 7 (by omega) (by omega) (by omega) (by omega), IXat]; simp
          · show holdI _ 1 k _ _ _ 8 k = _
            rw [holdI_row (by omega) (by omega) (by omega), setI_at, if_pos ⟨rfl, rfl⟩]
          · rw [f 9 (by omega) (by omega) (by omega) (by omega), IXat]; simp
          · rw [f 10 (by omega) (by omega) (by omega) (by omega), IXat]; simp
          · rw [holdI_at, if_neg (by omega), if_neg (by omega), if_pos ⟨rfl, rfl⟩]
          · rw [holdI_at, if_neg (by omega), if_pos ⟨rfl, rfl⟩]
          · rw [setL_at, if_pos ⟨rfl, rfl⟩]
          · rw [holdI_at, if_pos ⟨rfl, rfl⟩, hB4]
      refine ⟨rfl, _, _, A, rfl, Inv_upd (v := pcV (vC I) k b0 d0 br ln wl of) h hF ?_ JF_refl hr ?_ (vC_0 g0) hw2.1 hw2.2 h8⟩
      · intro x hx
        funext j
        unfold pcM
        simp only [setI_at]
        rw [if_neg (by omega), if_neg (by omega), if_neg (by omega), if_neg (by omega), if_neg (by omega), if_neg (by omega), if_neg (by omega), if_neg (by omega)]
      · unfold pcM pcV
        rw [vC_set (z := ((k + 1 : Nat) : Int)) (by omega) rfl (by omega) (by omega), vC_set (z := 0) (by omega) rfl (by omega) (by omega), vC_set (z := of) (by omega) rfl (by omega) (by omega), vC_set (z := wl) (by omega) rfl (by omega) (by omega), vC_set (z := ln) (by omega) rfl (by omega) (by omega), vC_set (z := br) (by omega) rfl (by omega) (by omega), vC_set (z := d0) (by omega) rfl (by omega) (by omega), vC_set (z := b0) (by omega) rfl (by omega) (by omega), hv]
        rfl
    · simp (disch := omega) only [z_i8, z_i16, z_of, z_ofN, z_lofN, z_0, z_1, z_m1, z_l0, z_l1, iZ_add, iZ_sub, iZ_mul, iZ_neg, lZ_add, lZ_sub, lZ_mul, lZ_neg, z_div, z_ldiv, z_l, z_i, z_lt, z_le, z_eq, z_llt, z_lle, z_leq, z_cgt, z_cge, z_clt, z_cle, z_ceq, z_cl, z_nat, Int.toNat_natCast, mm_I, mm_J, z_cln, z_abs, z_max, z_min, z_lmax, z_lmin, z_sin, Int.cast_ofNat_Int, uI_I, uI_J, uL_I, uL_J, uA_I, uA_J, sI_eq, sI_ne, sL_eq, sL_ne, up_eq, up_ne, uL_eq, uL_ne, z_toInt, Int.reduceToNat, e15] at q
      exact F (by omega)
end OP7
