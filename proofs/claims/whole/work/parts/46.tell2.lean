/-! ===== sets, cargo, loads, holes told to both ===== -/
section OP3
variable {E : Nat × (Nat → Int32)} {d : Nat} {I : Nat → Nat → Int32} {J : Nat → Nat → Int64} {A : Nat → Option Nat} {Q : Option Value → am_M → Prop} {M : am_M}
def GS (w n : Int) (j : Nat) : Prop := (w = 0 ∧ j = 5 ∧ -99999 ≤ n ∧ n ≤ 99999) ∨ (w = 1 ∧ j = 6 ∧ 0 ≤ n ∧ n ≤ 99) ∨ (w = 2 ∧ j = 7 ∧ -60 ≤ n ∧ n ≤ 60)
theorem m_sets {w n : Int} (hw : -2147483648 ≤ w ∧ w ≤ 2147483647) (hn : -2147483648 ≤ n ∧ n ≤ 2147483647) (h1 : I 266 0 = 1 → ∀ j : Nat, GS w n j → Q (some (.int (I 266 j))) (mm (setI I 266 j (iZ n)) J A)) (h0 : ¬ (I 266 0 = 1 ∧ ∃ j, GS w n j) → Q (some (.int (iZ (-1000000)))) (mm I J A)) : wpC E (d + 2) 157 [.ref 265, .int (iZ w), .int (iZ n)] (mm I J A) Q := by
  refine wc (hs := []) 60 (by decide) ?_
  refine And.intro rfl (m_isShip (fun p => wF (by decide) ?_) (fun p => wt rfl (h0 fun q => p q.1)))
  have F : ¬ (∃ j, GS w n j) → Q (some (.int (iZ (-1000000)))) (mm I J A) := fun q => h0 fun r => q r.2
  refine And.intro rfl (mW (z := w) (lo := 0) (hi := 2) (z_l (by omega) (by omega)) rfl rfl hw (by omega) (by omega) (fun g => wF (by decide) ?_) (fun g => wt rfl (F (by unfold GS; rintro ⟨j, q⟩; omega))))
  have hc : w = 0 ∨ w = 1 ∨ w = 2 := by omega
  rcases hc with rfl | rfl | rfl
  · refine wt rfl (wt rfl (And.intro rfl (mW (z := n) (lo := -99999) (hi := 99999) (z_l (by omega) (by omega)) (by decide +kernel) rfl hn (by omega) (by omega) (fun g => wF (by decide) ?_) (fun g => wt rfl (F (by unfold GS; rintro ⟨j, q⟩; omega))))))
    exact wt rfl (And.intro (inL (by decide)) (And.intro (inL (by decide)) (h1 p 5 (Or.inl ⟨rfl, rfl, g⟩))))
  · refine wF (by decide) (wt rfl (wF (by decide) (wt rfl (And.intro rfl (mW (z := n) (lo := 0) (hi := 99) (z_l (by omega) (by omega)) rfl rfl hn (by omega) (by omega) (fun g => wF (by decide) ?_) (fun g => wt rfl (F (by unfold GS; rintro ⟨j, q⟩; omega))))))))
    exact wF (by decide) (wt rfl (And.intro (inL (by decide)) (And.intro (inL (by decide)) (h1 p 6 (Or.inr (Or.inl ⟨rfl, rfl, g⟩))))))
  · refine wF (by decide) (wF (by decide) (wF (by decide) (wF (by decide) (And.intro rfl (mW (z := n) (lo := -60) (hi := 60) (z_l (by omega) (by omega)) (by decide +kernel) rfl hn (by omega) (by omega) (fun g => wF (by decide) ?_) (fun g => wt rfl (F (by unfold GS; rintro ⟨j, q⟩; omega))))))))
    exact wF (by decide) (wF (by decide) (And.intro (inL (by decide)) (And.intro (inL (by decide)) (h1 p 7 (Or.inr (Or.inr ⟨rfl, rfl, g⟩))))))
theorem op_sets {w n : Int} (h : Inv I J) (hw : -2147483648 ≤ w ∧ w ≤ 2147483647) (hn : -2147483648 ≤ n ∧ n ≤ 2147483647) : wpC E (d + 3) 92 [.ref 0, .int (iZ w), .int (iZ n)] (mm I J A) (QI E (d + 3) 157 [.int (iZ w), .int (iZ n)]) := by
  have F' : ¬ (I 266 0 = 1 ∧ ∃ j, GS w n j) → QI E (d + 3) 157 [.int (iZ w), .int (iZ n)] (some (.int (iZ (-1000000)))) (mm I J A) := fun q => QI_mk (m_sets hw hn (fun p1 j p2 => absurd ⟨p1, j, p2⟩ q) (fun _ => ⟨rfl, I, J, A, rfl, h⟩))
  rcases h.1 with ⟨g0, g1⟩ | ⟨g0, hW, hH, hR, h8⟩
  · refine wc (hs := []) 40 (by decide) (wt g1 (F' fun q => ?_))
    rw [q.1] at g0; cases g0
  · have F : ¬ (∃ j, GS w n j) → QI E (d + 3) 157 [.int (iZ w), .int (iZ n)] (some (.int (iZ (-1000000)))) (mm I J A) := fun q => F' fun r => q r.2
    have b1 : ¬ I 1 0 = 0 := by have : I 1 0 = 1 := hR.1.1; rw [this]; decide
    have G : ∀ j, GS w n j → QI E (d + 3) 157 [.int (iZ w), .int (iZ n)] (some (.int (I 1 j))) (mm (setI I 1 j (iZ n)) J A) := by
      intro j hj
      have hR1 := RS_sc (b := 1) (j := j) (z := n) (by unfold GS at hj; omega) rfl hR
      have hF := Fr_FV (J := J) (Fr_set (b := 1) (I := I) (j := j) (x := iZ n))
      have e : I 1 j = I 266 j := by
        have ej : I 1 j = iZ (vC I 266 j) := by
          obtain ⟨⟨r0, r1, r2, r3, r4, r5, r6, r7, r8, r9⟩, -⟩ := hR
          rcases hj with ⟨-, rfl, -⟩ | ⟨-, rfl, -⟩ | ⟨-, rfl, -⟩
          · exact r5
          · exact r6
          · exact r7
        rw [ej]; exact (vI_eq I 266 j).symm
      rw [e]
      refine QI_mk (m_sets hw hn (fun p1 j' p2 => ?_) (fun q => absurd ⟨g0, j, hj⟩ q))
      have : j' = j := by unfold GS at hj p2; omega
      subst this
      refine ⟨rfl, _, J, A, rfl, Inv_upd h hF (FM_set (by omega)) JF_refl hR1 ?_ ?_ ?_ ?_ ?_⟩
      · rw [vC_set (z := n) (by omega) rfl (by omega) (by omega), FV_vC hF]
      · rw [vset_ni (by unfold GS at hj; omega)]; exact vC_0 g0
      · exact Wf_sc hW (by unfold GS at hj; omega)
      · exact WfH_sc hH (by unfold GS at hj; omega)
      · rw [vset_ni (by unfold GS at hj; omega)]; exact h8
    refine wc (hs := []) 60 (by decide) (wF b1 ?_)
    by_cases hw0 : w = 0
    · subst hw0
      refine wt rfl (And.intro rfl (cW (z := n) (lo := -99999) (hi := 99999) rfl rfl rfl hn (by omega) (by omega) (fun g => wF (by decide) (G 5 (Or.inl ⟨rfl, rfl, g⟩))) (fun g => wt rfl (wF (by decide) (wF (by decide) (F (by unfold GS; rintro ⟨j, q⟩; omega)))))))
    · refine wF (by show ¬ iZ w = iZ 0; ((try simp (disch := omega) only [z_i8, z_i16, z_of, z_ofN, z_lofN, z_0, z_1, z_m1, z_l0, z_l1, iZ_add, iZ_sub, iZ_mul, iZ_neg, lZ_add, lZ_sub, lZ_mul, lZ_neg, z_div, z_ldiv, z_l, z_i, z_lt, z_le, z_eq, z_llt, z_lle, z_leq, z_cgt, z_cge, z_clt, z_cle, z_ceq, z_cl, z_nat, Int.toNat_natCast, mm_I, mm_J, z_cln, z_abs, z_max, z_min, z_lmax, z_lmin, z_sin, Int.cast_ofNat_Int, uI_I, uI_J, uL_I, uL_J, uA_I, uA_J, sI_eq, sI_ne, sL_eq, sL_ne, up_eq, up_ne, uL_eq, uL_ne, z_toInt, Int.reduceToNat]) <;> omega)) ?_
      by_cases hw1 : w = 1
      · subst hw1
        refine wt rfl (And.intro rfl (cW (z := n) (lo := 0) (hi := 99) rfl rfl rfl hn (by omega) (by omega) (fun g => wF (by decide) (G 6 (Or.inr (Or.inl ⟨rfl, rfl, g⟩)))) (fun g => wt rfl (wF (by decide) (F (by unfold GS; rintro ⟨j, q⟩; omega))))))
      · refine wF (by show ¬ iZ w = iZ 1; ((try simp (disch := omega) only [z_i8, z_i16, z_of, z_ofN, z_lofN, z_0, z_1, z_m1, z_l0, z_l1, iZ_add, iZ_sub, iZ_mul, iZ_neg, lZ_add, lZ_sub, lZ_mul, lZ_neg, z_div, z_ldiv, z_l, z_i, z_lt, z_le, z_eq, z_llt, z_lle, z_leq, z_cgt, z_cge, z_clt, z_cle, z_ceq, z_cl, z_nat, Int.toNat_natCast, mm_I, mm_J, z_cln, z_abs, z_max, z_min, z_lmax, z_lmin, z_sin, Int.cast_ofNat_Int, uI_I, uI_J, uL_I, uL_J, uA_I, uA_J, sI_eq, sI_ne, sL_eq, sL_ne, up_eq, up_ne, uL_eq, uL_ne, z_toInt, Int.reduceToNat]) <;> omega)) ?_
        by_cases hw2 : w = 2
        · subst hw2
          exact wt rfl (And.intro rfl (cW (z := n) (lo := -60) (hi := 60) rfl rfl rfl hn (by omega) (by omega) (fun g => wF (by decide) (G 7 (Or.inr (Or.inr ⟨rfl, rfl, g⟩)))) (fun g => wt rfl (F (by unfold GS; rintro ⟨j, q⟩; omega)))))
        · exact wF (by show ¬ iZ w = iZ 2; ((try simp (disch := omega) only [z_i8, z_i16, z_of, z_ofN, z_lofN, z_0, z_1, z_m1, z_l0, z_l1, iZ_add, iZ_sub, iZ_mul, iZ_neg, lZ_add, lZ_sub, lZ_mul, lZ_neg, z_div, z_ldiv, z_l, z_i, z_lt, z_le, z_eq, z_llt, z_lle, z_leq, z_cgt, z_cge, z_clt, z_cle, z_ceq, z_cl, z_nat, Int.toNat_natCast, mm_I, mm_J, z_cln, z_abs, z_max, z_min, z_lmax, z_lmin, z_sin, Int.cast_ofNat_Int, uI_I, uI_J, uL_I, uL_J, uA_I, uA_J, sI_eq, sI_ne, sL_eq, sL_ne, up_eq, up_ne, uL_eq, uL_ne, z_toInt, Int.reduceToNat]) <;> omega)) (F (by unfold GS; rintro ⟨j, q⟩; omega))
/-- a thing more of its kind: so many rows from a on, the count at c -/
def cgV (v : am_V) (k : Nat) (a b c e : Int) : am_V := vset (vset (vset (vset (vset (vset v 277 k a) 278 k b) 279 k c) 280 k e) 281 k 0) 266 10 (k + 1)
theorem nC_at {v : am_V} (h : Wf v) : v 266 10 = nC v := by
  have := h.1.2.2.2.2.2.2.2.2.2.1
  unfold nC; omega
theorem cg_nC {v : am_V} {k : Nat} {a b c e : Int} : nC (cgV v k a b c e) = k + 1 := by
  show (vset _ 266 10 ((k : Int) + 1) 266 10).toNat = _
  rw [vset_eq]; omega
theorem cg_at {v : am_V} {k : Nat} {a b c e : Int} (j : Nat) : cgV v k a b c e 277 j = (if j = k then a else v 277 j) ∧ cgV v k a b c e 278 j = (if j = k then b else v 278 j) ∧ cgV v k a b c e 279 j = (if j = k then c else v 279 j) ∧ cgV v k a b c e 280 j = (if j = k then e else v 280 j) ∧ cgV v k a b c e 281 j = (if j = k then 0 else v 281 j) := by
  refine ⟨?_, ?_, ?_, ?_, ?_⟩ <;> simp [cgV, vset]
theorem cg_ot {v : am_V} {k : Nat} {a b c e : Int} {x j : Nat} (h : x < 277 ∨ 281 < x) (h' : ¬ (x = 266 ∧ j = 10)) : cgV v k a b c e x j = v x j := by
  unfold cgV vset
  rw [if_neg h', if_neg (by omega), if_neg (by omega), if_neg (by omega), if_neg (by omega), if_neg (by omega)]
theorem Wf_cg {v : am_V} {a b c e : Int} (h : Wf v) (hk : nC v < 6) (ha : 1 ≤ a ∧ a ≤ 9999) (hb : 0 ≤ b ∧ b ≤ 3000) (hc : 1 ≤ c ∧ c ≤ 60) (he : 0 ≤ e ∧ e ≤ 200) : Wf (cgV v (nC v) a b c e) := by
  obtain ⟨⟨w1, w2, w3, w4, w5, w6, w7, w8, w9, w10, w11, w12, w13⟩, wl, wp, wc⟩ := id h
  refine ⟨⟨w1, w2, w3, w4, w5, w6, w7, w8, w9, ?_, w11, w12, w13⟩, wl, wp, fun j hj => ?_⟩
  · show 0 ≤ vset _ 266 10 ((nC v : Int) + 1) 266 10 ∧ vset _ 266 10 ((nC v : Int) + 1) 266 10 ≤ 6
    rw [vset_eq]; omega
  · rw [cg_nC] at hj
    obtain ⟨e1, e2, e3, e4, e5⟩ := cg_at (v := v) (k := nC v) (a := a) (b := b) (c := c) (e := e) j
    unfold WfC
    rw [e1, e2, e3, e4, e5]
    by_cases hjk : j = nC v
    · rw [if_pos hjk, if_pos hjk, if_pos hjk, if_pos hjk, if_pos hjk]
      exact ⟨ha, hb, hc, he, by omega, by omega⟩
    · rw [if_neg hjk, if_neg hjk, if_neg hjk, if_neg hjk, if_neg hjk]
      exact wc j (by omega)
theorem tot_cg {v : am_V} {a b c e : Int} : totZ (cgV v (nC v) a b c e) 0 = totZ v 0 + a := by
  unfold totZ
  rw [cg_nC]
  show v 266 2 + 0 + (sm (nC v) (fun k => cgV v (nC v) a b c e 277 k) + cgV v (nC v) a b c e 277 (nC v)) + sm (nP v) (fun k => v 276 k) = _
  rw [(cg_at (nC v)).1, if_pos rfl]
  have : sm (nC v) (fun k => cgV v (nC v) a b c e 277 k) = sm (nC v) (fun k => v 277 k) := sm_congr (fun k hk => by rw [(cg_at k).1, if_neg (by omega)])
  rw [this]
  omega
def GC (a b c e : Int) : Prop := (1 ≤ a ∧ a ≤ 9999) ∧ (0 ≤ b ∧ b ≤ 3000) ∧ (1 ≤ c ∧ c ≤ 60) ∧ (0 ≤ e ∧ e ≤ 200)
def cgM (I : Nat → Nat → Int32) (k : Nat) (a b c e : Int) : Nat → Nat → Int32 := setI (setI (setI (setI (setI (setI I 277 k (iZ a)) 278 k (iZ b)) 279 k (iZ c)) 280 k (iZ e)) 281 k (iZ 0)) 266 10 (iZ (k + 1 : Nat))
set_option maxHeartbeats 1000000 in
theorem m_cargo {a b c e : Int} (hV : Vm I) (ra : -2147483648 ≤ a ∧ a ≤ 2147483647) (rb : -2147483648 ≤ b ∧ b ≤ 2147483647) (rc : -2147483648 ≤ c ∧ c ≤ 2147483647) (re : -2147483648 ≤ e ∧ e ≤ 2147483647) (h1 : I 266 0 = 1 → nC (vC I) < 6 ∧ GC a b c e → Q (some (.int (iZ (nC (vC I) : Int)))) (mm (cgM I (nC (vC I)) a b c e) J A)) (h0 : ¬ (I 266 0 = 1 ∧ nC (vC I) < 6 ∧ GC a b c e) → Q (some (.int (iZ (-1)))) (mm I J A)) : wpC E (d + 2) 153 [.ref 265, .int (iZ a), .int (iZ b), .int (iZ c), .int (iZ e)] (mm I J A) Q := by
  refine wc (hs := []) 100 (by decide) ?_
  refine And.intro (inL (by decide)) (And.intro rfl (m_isShip (fun p => wF (by decide) ?_) (fun p => wt rfl (h0 fun q => p q.1))))
  have hW := (hV p).1
  have h6 := nC6 hW
  have e10 : I 266 10 = iZ (nC (vC I) : Int) := (vI_eq I 266 10).trans (congrArg iZ (nC_at hW))
  have F : ¬ (nC (vC I) < 6 ∧ GC a b c e) → Q (some (.int (iZ (-1)))) (mm I J A) := fun q => h0 fun r => q r.2
  unfold GC at F
  refine And.intro (fun q => ?_) (fun q => ?_)
  · have q : I 266 10 = iZ 6 := q
    rw [e10] at q
    simp (disch := omega) only [z_i8, z_i16, z_of, z_ofN, z_lofN, z_0, z_1, z_m1, z_l0, z_l1, iZ_add, iZ_sub, iZ_mul, iZ_neg, lZ_add, lZ_sub, lZ_mul, lZ_neg, z_div, z_ldiv, z_l, z_i, z_lt, z_le, z_eq, z_llt, z_lle, z_leq, z_cgt, z_cge, z_clt, z_cle, z_ceq, z_cl, z_nat, Int.toNat_natCast, mm_I, mm_J, z_cln, z_abs, z_max, z_min, z_lmax, z_lmin, z_sin, Int.cast_ofNat_Int, uI_I, uI_J, uL_I, uL_J, uA_I, uA_J, sI_eq, sI_ne, sL_eq, sL_ne, up_eq, up_ne, uL_eq, uL_ne, z_toInt, Int.reduceToNat] at q
    exact F (by omega)
  · have q : ¬ I 266 10 = iZ 6 := q
    rw [e10] at q
    simp (disch := omega) only [z_i8, z_i16, z_of, z_ofN, z_lofN, z_0, z_1, z_m1, z_l0, z_l1, iZ_add, iZ_sub, iZ_mul, iZ_neg, lZ_add, lZ_sub, lZ_mul, lZ_neg, z_div, z_ldiv, z_l, z_i, z_lt, z_le, z_eq, z_llt, z_lle, z_leq, z_cgt, z_cge, z_clt, z_cle, z_ceq, z_cl, z_nat, Int.toNat_natCast, mm_I, mm_J, z_cln, z_abs, z_max, z_min, z_lmax, z_lmin, z_sin, Int.cast_ofNat_Int, uI_I, uI_J, uL_I, uL_J, uA_I, uA_J, sI_eq, sI_ne, sL_eq, sL_ne, up_eq, up_ne, uL_eq, uL_ne, z_toInt, Int.reduceToNat] at q
    refine And.intro rfl (mW (z := a) (lo := 1) (hi := 9999) (z_l (by omega) (by omega)) rfl rfl (by omega) (by omega) (by omega) (fun g => wF (by decide) ?_) (fun g => wt rfl (F (by omega))))
    refine And.intro rfl (mW (z := b) (lo := 0) (hi := 3000) (z_l (by omega) (by omega)) rfl rfl (by omega) (by omega) (by omega) (fun g => wF (by decide) ?_) (fun g => wt rfl (F (by omega))))
    refine And.intro rfl (mW (z := c) (lo := 1) (hi := 60) (z_l (by omega) (by omega)) rfl rfl (by omega) (by omega) (by omega) (fun g => wF (by decide) ?_) (fun g => wt rfl (F (by omega))))
    refine And.intro rfl (mW (z := e) (lo := 0) (hi := 200) (z_l (by omega) (by omega)) rfl rfl (by omega) (by omega) (by omega) (fun g => wF (by decide) ?_) (fun g => wt rfl (F (by omega))))
    have hin : vp_in (I 266 10) 6 := by rw [e10]; exact z_in (by omega) (by omega) (by omega)
    have hcl : (I 266 10).toNatClampNeg = nC (vC I) := by rw [e10]; exact z_cln (by omega)
    refine And.intro hin (And.intro hin (And.intro hin (And.intro hin (And.intro hin (And.intro (inL (by decide)) (And.intro (inL (by decide)) ?_))))))
    have := h1 p ⟨by omega, by unfold GC; omega⟩
    unfold cgM at this
    rw [← e10, ← hcl] at this
    refine q_i (y := I 266 10) ?_ rfl
    have e11 : ∀ X : Nat → Nat → Int32, X 266 10 = I 266 10 → X 266 10 + Int32.ofInt 1 = iZ (((I 266 10).toNatClampNeg + 1 : Nat) : Int) := fun X hX => by rw [hX, hcl, e10]; exact iZ_add _ 1
    rw [← e11 (setI (setI (setI (setI (setI I 277 (I 266 10).toNatClampNeg (iZ a)) 278 (I 266 10).toNatClampNeg (iZ b)) 279 (I 266 10).toNatClampNeg (iZ c)) 280 (I 266 10).toNatClampNeg (iZ e)) 281 (I 266 10).toNatClampNeg (iZ 0)) rfl] at this
    exact this
end OP3
