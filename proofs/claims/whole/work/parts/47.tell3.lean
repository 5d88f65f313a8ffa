/-! ===== cargo, loads, doors, ports ===== -/
section OP4
variable {E : Nat × (Nat → Int32)} {d : Nat} {I : Nat → Nat → Int32} {J : Nat → Nat → Int64} {A : Nat → Option Nat} {Q : Option Value → am_M → Prop} {M : am_M}
def cgC (I : Nat → Nat → Int32) (k : Nat) (a b c e : Int) : Nat → Nat → Int32 := setI (setI (setI (setI (setI (setI I 16 k (iZ a)) 17 k (iZ b)) 18 k (iZ c)) 19 k (iZ e)) 20 k (iZ 0)) 15 0 (iZ (k + 1 : Nat))
theorem c_cgAdd {k : Nat} {a b c e : Int} (hk : k < 6) (h0 : I 15 0 = iZ k) (hQ : Q (some (.int (iZ k))) (mm (cgC I k a b c e) J A)) : wpC E d 15 [.ref 15, .int (iZ a), .int (iZ b), .int (iZ c), .int (iZ e)] (mm I J A) Q := by
  have hin : vp_in (I 15 0) 6 := by rw [h0]; exact z_in (by omega) (by omega) (by omega)
  have hcl : (I 15 0).toNatClampNeg = k := by rw [h0]; exact z_cln (by omega)
  refine wc (hs := []) 60 (by decide) ?_
  refine And.intro hin (And.intro hin (And.intro hin (And.intro hin (And.intro hin ?_))))
  refine q_i (y := iZ k) ?_ h0
  unfold cgC at hQ
  have e11 : ∀ X : Nat → Nat → Int32, X 15 0 = I 15 0 → X 15 0 + Int32.ofInt 1 = iZ ((k + 1 : Nat) : Int) := fun X hX => by rw [hX, h0]; exact iZ_add _ 1
  rw [← e11 (setI (setI (setI (setI (setI I 16 k (iZ a)) 17 k (iZ b)) 18 k (iZ c)) 19 k (iZ e)) 20 k (iZ 0)) rfl, ← hcl] at hQ
  rw [← hcl]
  exact hQ
theorem cgC_out {k : Nat} {a b c e : Int} {x : Nat} (h : x < 15 ∨ 20 < x) : cgC I k a b c e x = I x := by
  funext j
  unfold cgC
  simp only [setI_at]
  rw [if_neg (by omega), if_neg (by omega), if_neg (by omega), if_neg (by omega), if_neg (by omega), if_neg (by omega)]
theorem RPc_cg {v : am_V} {a b c e : Int} (h : RPc I 1 v) : RPc (cgC I (nC v) a b c e) 1 (cgV v (nC v) a b c e) := by
  refine ⟨?_, fun j hj => ?_⟩
  · rw [cg_nC]
    unfold cgC
    rw [setI_at, if_pos ⟨rfl, rfl⟩]
  · rw [cg_nC] at hj
    obtain ⟨e1, e2, e3, e4, e5⟩ := cg_at (v := v) (k := nC v) (a := a) (b := b) (c := c) (e := e) j
    unfold RSc
    rw [e1, e2, e3, e4, e5]
    unfold cgC
    simp only [setI_at]
    by_cases hjk : j = nC v
    · simp [hjk]
    · have := h.2 j (by omega)
      unfold RSc at this
      simp [hjk]
      simpa using this
theorem op_cargo {a b c e : Int} (h : Inv I J) (ra : -2147483648 ≤ a ∧ a ≤ 2147483647) (rb : -2147483648 ≤ b ∧ b ≤ 2147483647) (rc : -2147483648 ≤ c ∧ c ≤ 2147483647) (re : -2147483648 ≤ e ∧ e ≤ 2147483647) : wpC E (d + 3) 88 [.ref 0, .int (iZ a), .int (iZ b), .int (iZ c), .int (iZ e)] (mm I J A) (QI E (d + 3) 153 [.int (iZ a), .int (iZ b), .int (iZ c), .int (iZ e)]) := by
  have F' : ¬ (I 266 0 = 1 ∧ nC (vC I) < 6 ∧ GC a b c e) → QI E (d + 3) 153 [.int (iZ a), .int (iZ b), .int (iZ c), .int (iZ e)] (some (.int (iZ (-1)))) (mm I J A) := fun q => QI_mk (m_cargo (Vs_m h.1) ra rb rc re (fun p1 p2 => absurd ⟨p1, p2⟩ q) (fun _ => ⟨rfl, I, J, A, rfl, h⟩))
  rcases h.1 with ⟨g0, g1⟩ | ⟨g0, hW, hH, hR, h8⟩
  · refine wc (hs := []) 40 (by decide) (wt g1 (F' fun q => ?_))
    rw [q.1] at g0; cases g0
  · have F : ¬ (nC (vC I) < 6 ∧ GC a b c e) → QI E (d + 3) 153 [.int (iZ a), .int (iZ b), .int (iZ c), .int (iZ e)] (some (.int (iZ (-1)))) (mm I J A) := fun q => F' fun r => q r.2
    unfold GC at F
    have b1 : ¬ I 1 0 = 0 := by have : I 1 0 = 1 := hR.1.1; rw [this]; decide
    have h6 := nC6 hW
    have e15 : I 15 0 = iZ (nC (vC I) : Int) := hR.2.2.2.1.1
    have e9 : I 1 9 = iZ (totZ (vC I) 0) := hR.1.2.2.2.2.2.2.2.2.2
    refine wc (hs := []) 80 (by decide) (wF b1 (And.intro (fun q => ?_) (fun q => ?_)))
    · simp (disch := omega) only [z_i8, z_i16, z_of, z_ofN, z_lofN, z_0, z_1, z_m1, z_l0, z_l1, iZ_add, iZ_sub, iZ_mul, iZ_neg, lZ_add, lZ_sub, lZ_mul, lZ_neg, z_div, z_ldiv, z_l, z_i, z_lt, z_le, z_eq, z_llt, z_lle, z_leq, z_cgt, z_cge, z_clt, z_cle, z_ceq, z_cl, z_nat, Int.toNat_natCast, mm_I, mm_J, z_cln, z_abs, z_max, z_min, z_lmax, z_lmin, z_sin, Int.cast_ofNat_Int, uI_I, uI_J, uL_I, uL_J, uA_I, uA_J, sI_eq, sI_ne, sL_eq, sL_ne, up_eq, up_ne, uL_eq, uL_ne, z_toInt, Int.reduceToNat, e15] at q
      refine And.intro rfl (cW (z := a) (lo := 1) (hi := 9999) rfl rfl rfl (by omega) (by omega) (by omega) (fun g => wF (by decide) ?_) (fun g => wt rfl (F (by omega))))
      refine And.intro rfl (cW (z := b) (lo := 0) (hi := 3000) rfl rfl rfl (by omega) (by omega) (by omega) (fun g => wF (by decide) ?_) (fun g => wt rfl (F (by omega))))
      refine And.intro rfl (cW (z := c) (lo := 1) (hi := 60) rfl rfl rfl (by omega) (by omega) (by omega) (fun g => wF (by decide) ?_) (fun g => wt rfl (F (by omega))))
      refine And.intro rfl (cW (z := e) (lo := 0) (hi := 200) rfl rfl rfl (by omega) (by omega) (by omega) (fun g => wF (by decide) ?_) (fun g => wt rfl (F (by omega))))
      have hg : GC a b c e := by unfold GC; omega
      suffices fin : QI E (d + 3) 153 [.int (iZ a), .int (iZ b), .int (iZ c), .int (iZ e)] (some (.int (iZ (nC (vC I) : Int)))) (mm (cgC (setI I 1 9 (I 1 9 + iZ a)) (nC (vC I)) a b c e) J A) from And.intro rfl (c_cgAdd (k := nC (vC I)) (by omega) e15 fin)
      have hF : FV I J (cgC (setI I 1 9 (I 1 9 + iZ a)) (nC (vC I)) a b c e) J := fun x hx hy => ⟨by
        rw [cgC_out (by omega)]
        funext j
        rw [setI_at, if_neg (by omega)], rfl⟩
      have hv := FV_vC hF
      refine QI_mk (m_cargo (FV_m hF (Vs_m h.1)) ra rb rc re (fun p1 p2 => ?_) (fun q => absurd ⟨?_, ?_, hg⟩ q))
      · rw [hv]
        refine ⟨rfl, _, J, A, rfl, Inv_upd (v := cgV (vC I) (nC (vC I)) a b c e) h hF ?_ JF_refl ?_ ?_ (vC_0 g0) (Wf_cg hW (by omega) hg.1 hg.2.1 hg.2.2.1 hg.2.2.2) hH h8⟩
        · intro x hx
          funext j
          unfold cgM
          simp only [setI_at]
          rw [if_neg (by omega), if_neg (by omega), if_neg (by omega), if_neg (by omega), if_neg (by omega), if_neg (by omega)]
        · obtain ⟨r0, ra', rp, rc', rd, ro, rl⟩ := id hR
          have o9 : ∀ x, x ≠ 1 → setI I 1 9 (I 1 9 + iZ a) x = I x := fun x hx => by funext j; rw [setI_at, if_neg (by omega)]
          have oo : ∀ x, x ≠ 1 → (x < 15 ∨ 20 < x) → cgC (setI I 1 9 (I 1 9 + iZ a)) (nC (vC I)) a b c e x = I x := fun x h1 h2 => (cgC_out h2).trans (o9 x h1)
          refine RS_of ?_ (RPa_eq ra' (oo _ (by omega) (by omega)) (fun i => rfl)) (RPp_eq rp (fun j h1 h2 => oo _ (by omega) (by omega)) rfl rfl (fun a i h1 h2 => cg_ot (by omega) (by omega))) (RPc_cg (RPc_eq rc' (fun j h1 h2 => o9 _ (by omega)) rfl (fun _ _ _ _ => rfl))) (RPd_eq rd (fun j h1 h2 => oo _ (by omega) (by omega)) rfl (fun a i h1 h2 => cg_ot (by omega) (by omega))) (RPo_eq ro (fun j h1 h2 => oo _ (by omega) (by omega)) rfl (fun a i h1 h2 => cg_ot (by omega) (by omega))) (RPl_eq rl (fun j h1 h2 => oo _ (by omega) (by omega)) rfl (fun a i h1 h2 => cg_ot (by omega) (by omega)))
          unfold RSs
          rw [cgC_out (by omega)]
          obtain ⟨s0, s1, s2, s3, s4, s5, s6, s7, s8, s9⟩ := r0
          refine ⟨s0, s1, s2, s3, s4, s5, s6, s7, s8, ?_⟩
          rw [setI_at, if_pos ⟨rfl, rfl⟩, tot_cg, e9, iZ_add]
        · unfold cgM cgV
          rw [vC_set (z := ((nC (vC I) + 1 : Nat) : Int)) (by omega) rfl (by omega) (by omega), vC_set (z := 0) (by omega) rfl (by omega) (by omega), vC_set (z := e) (by omega) rfl (by omega) (by omega), vC_set (z := c) (by omega) rfl (by omega) (by omega), vC_set (z := b) (by omega) rfl (by omega) (by omega), vC_set (z := a) (by omega) rfl (by omega) (by omega), hv]
          rfl
      · rw [(hF 266 (by omega) (by omega)).1]; exact g0
      · rw [hv]; omega
    · simp (disch := omega) only [z_i8, z_i16, z_of, z_ofN, z_lofN, z_0, z_1, z_m1, z_l0, z_l1, iZ_add, iZ_sub, iZ_mul, iZ_neg, lZ_add, lZ_sub, lZ_mul, lZ_neg, z_div, z_ldiv, z_l, z_i, z_lt, z_le, z_eq, z_llt, z_lle, z_leq, z_cgt, z_cge, z_clt, z_cle, z_ceq, z_cl, z_nat, Int.toNat_natCast, mm_I, mm_J, z_cln, z_abs, z_max, z_min, z_lmax, z_lmin, z_sin, Int.cast_ofNat_Int, uI_I, uI_J, uL_I, uL_J, uA_I, uA_J, sI_eq, sI_ne, sL_eq, sL_ne, up_eq, up_ne, uL_eq, uL_ne, z_toInt, Int.reduceToNat, e15] at q
      exact F (by omega)
/-! loads -/
def ldV (v : am_V) (k : Nat) (a b : Int) : am_V := vset (vset (vset v 268 k a) 269 k b) 266 13 (k + 1)
def ldM (I : Nat → Nat → Int32) (k : Nat) (a b : Int) : Nat → Nat → Int32 := setI (setI (setI I 268 k (iZ a)) 269 k (iZ b)) 266 13 (iZ (k + 1 : Nat))
def ldC (I : Nat → Nat → Int32) (k : Nat) (a b : Int) : Nat → Nat → Int32 := setI (setI (setI I 32 k (iZ a)) 33 k (iZ b)) 31 0 (iZ (k + 1 : Nat))
theorem nL_at {v : am_V} (h : Wf v) : v 266 13 = nL v ∧ nL v ≤ 6 := by
  have := h.1.2.2.2.2.2.2.2.2.2.2.2.2
  unfold nL; omega
theorem ld_nL {v : am_V} {k : Nat} {a b : Int} : nL (ldV v k a b) = k + 1 := by
  show (vset _ 266 13 ((k : Int) + 1) 266 13).toNat = _
  rw [vset_eq]; omega
theorem ld_at {v : am_V} {k : Nat} {a b : Int} (j : Nat) : ldV v k a b 268 j = (if j = k then a else v 268 j) ∧ ldV v k a b 269 j = (if j = k then b else v 269 j) := by
  refine ⟨?_, ?_⟩ <;> simp [ldV, vset]
theorem ld_ot {v : am_V} {k : Nat} {a b : Int} {x j : Nat} (h : x ≠ 268 ∧ x ≠ 269) (h' : ¬ (x = 266 ∧ j = 13)) : ldV v k a b x j = v x j := by
  unfold ldV vset
  rw [if_neg h', if_neg (by omega), if_neg (by omega)]
theorem Wf_ld {v : am_V} {a b : Int} (h : Wf v) (hH : WfH v) (hk : nL v < 6) (ha : 1 ≤ a ∧ a ≤ 9999) (hb : 0 ≤ b ∧ b ≤ 3000) : Wf (ldV v (nL v) a b) ∧ WfH (ldV v (nL v) a b) := by
  obtain ⟨⟨w1, w2, w3, w4, w5, w6, w7, w8, w9, w10, w11, w12, w13⟩, wl, wp, wc⟩ := id h
  refine ⟨⟨⟨w1, w2, w3, w4, w5, w6, w7, w8, w9, w10, w11, w12, ?_⟩, wl, wp, wc⟩, hH.1, hH.2.1, fun j hj => ?_⟩
  · show 0 ≤ vset _ 266 13 ((nL v : Int) + 1) 266 13 ∧ vset _ 266 13 ((nL v : Int) + 1) 266 13 ≤ 6
    rw [vset_eq]; omega
  · rw [ld_nL] at hj
    obtain ⟨e1, e2⟩ := ld_at (v := v) (k := nL v) (a := a) (b := b) j
    unfold WfN
    rw [e1, e2]
    by_cases hjk : j = nL v
    · rw [if_pos hjk, if_pos hjk]; exact ⟨ha, hb⟩
    · rw [if_neg hjk, if_neg hjk]; exact hH.2.2 j (by omega)
theorem RPl_ld {v : am_V} {a b : Int} (h : RPl I 1 v) : RPl (ldC I (nL v) a b) 1 (ldV v (nL v) a b) := by
  refine ⟨?_, fun j hj => ?_⟩
  · rw [ld_nL]
    unfold ldC
    rw [setI_at, if_pos ⟨rfl, rfl⟩]
  · rw [ld_nL] at hj
    obtain ⟨e1, e2⟩ := ld_at (v := v) (k := nL v) (a := a) (b := b) j
    unfold RSl
    rw [e1, e2]
    unfold ldC
    simp only [setI_at]
    by_cases hjk : j = nL v
    · simp [hjk]
    · have := h.2 j (by omega)
      unfold RSl at this
      simp [hjk]
      simpa using this
def GL (a b : Int) : Prop := (1 ≤ a ∧ a ≤ 9999) ∧ (0 ≤ b ∧ b ≤ 3000)
theorem m_load {a b : Int} (hV : Vm I) (ra : -2147483648 ≤ a ∧ a ≤ 2147483647) (rb : -2147483648 ≤ b ∧ b ≤ 2147483647) (h1 : I 266 0 = 1 → nL (vC I) < 6 ∧ GL a b → Q (some (.int (iZ (nL (vC I) : Int)))) (mm (ldM I (nL (vC I)) a b) J A)) (h0 : ¬ (I 266 0 = 1 ∧ nL (vC I) < 6 ∧ GL a b) → Q (some (.int (iZ (-1)))) (mm I J A)) : wpC E (d + 2) 242 [.ref 265, .int (iZ a), .int (iZ b)] (mm I J A) Q := by
  refine wc (hs := []) 100 (by decide) ?_
  refine And.intro (inL (by decide)) (And.intro rfl (m_isShip (fun p => wF (by decide) ?_) (fun p => wt rfl (h0 fun q => p q.1))))
  have hW := (hV p).1
  have h6 := (nL_at hW).2
  have e10 : I 266 13 = iZ (nL (vC I) : Int) := (vI_eq I 266 13).trans (congrArg iZ (nL_at hW).1)
  have F : ¬ (nL (vC I) < 6 ∧ GL a b) → Q (some (.int (iZ (-1)))) (mm I J A) := fun q => h0 fun r => q r.2
  unfold GL at F
  refine And.intro (fun q => ?_) (fun q => ?_)
  · have q : I 266 13 = iZ 6 := q
    rw [e10] at q
    simp (disch := omega) only [z_i8, z_i16, z_of, z_ofN, z_lofN, z_0, z_1, z_m1, z_l0, z_l1, iZ_add, iZ_sub, iZ_mul, iZ_neg, lZ_add, lZ_sub, lZ_mul, lZ_neg, z_div, z_ldiv, z_l, z_i, z_lt, z_le, z_eq, z_llt, z_lle, z_leq, z_cgt, z_cge, z_clt, z_cle, z_ceq, z_cl, z_nat, Int.toNat_natCast, mm_I, mm_J, z_cln, z_abs, z_max, z_min, z_lmax, z_lmin, z_sin, Int.cast_ofNat_Int, uI_I, uI_J, uL_I, uL_J, uA_I, uA_J, sI_eq, sI_ne, sL_eq, sL_ne, up_eq, up_ne, uL_eq, uL_ne, z_toInt, Int.reduceToNat] at q
    exact F (by omega)
  · have q : ¬ I 266 13 = iZ 6 := q
    rw [e10] at q
    simp (disch := omega) only [z_i8, z_i16, z_of, z_ofN, z_lofN, z_0, z_1, z_m1, z_l0, z_l1, iZ_add, iZ_sub, iZ_mul, iZ_neg, lZ_add, lZ_sub, lZ_mul, lZ_neg, z_div, z_ldiv, z_l, z_i, z_lt, z_le, z_eq, z_llt, z_lle, z_leq, z_cgt, z_cge, z_clt, z_cle, z_ceq, z_cl, z_nat, Int.toNat_natCast, mm_I, mm_J, z_cln, z_abs, z_max, z_min, z_lmax, z_lmin, z_sin, Int.cast_ofNat_Int, uI_I, uI_J, uL_I, uL_J, uA_I, uA_J, sI_eq, sI_ne, sL_eq, sL_ne, up_eq, up_ne, uL_eq, uL_ne, z_toInt, Int.reduceToNat] at q
    refine And.intro rfl (mW (z := a) (lo := 1) (hi := 9999) (z_l (by omega) (by omega)) rfl rfl (by omega) (by omega) (by omega) (fun g => wF (by decide) ?_) (fun g => wt rfl (F (by omega))))
    refine And.intro rfl (mW (z := b) (lo := 0) (hi := 3000) (z_l (by omega) (by omega)) rfl rfl (by omega) (by omega) (by omega) (fun g => wF (by decide) ?_) (fun g => wt rfl (F (by omega))))
    have hin : vp_in (I 266 13) 6 := by rw [e10]; exact z_in (by omega) (by omega) (by omega)
    have hcl : (I 266 13).toNatClampNeg = nL (vC I) := by rw [e10]; exact z_cln (by omega)
    refine And.intro hin (And.intro hin (And.intro (inL (by decide)) (And.intro (inL (by decide)) ?_)))
    have := h1 p ⟨by omega, by unfold GL; omega⟩
    unfold ldM at this
    rw [← e10, ← hcl] at this
    refine q_i (y := I 266 13) ?_ rfl
    have e11 : ∀ X : Nat → Nat → Int32, X 266 13 = I 266 13 → X 266 13 + Int32.ofInt 1 = iZ (((I 266 13).toNatClampNeg + 1 : Nat) : Int) := fun X hX => by rw [hX, hcl, e10]; exact iZ_add _ 1
    rw [← e11 (setI (setI I 268 (I 266 13).toNatClampNeg (iZ a)) 269 (I 266 13).toNatClampNeg (iZ b)) rfl] at this
    exact this
theorem c_ldAdd {k : Nat} {a b : Int} (hk : k < 6) (h0 : I 31 0 = iZ k) (hQ : Q (some (.int (iZ k))) (mm (ldC I k a b) J A)) : wpC E d 19 [.ref 31, .int (iZ a), .int (iZ b)] (mm I J A) Q := by
  have hin : vp_in (I 31 0) 6 := by rw [h0]; exact z_in (by omega) (by omega) (by omega)
  have hcl : (I 31 0).toNatClampNeg = k := by rw [h0]; exact z_cln (by omega)
  refine wc (hs := []) 60 (by decide) ?_
  refine And.intro hin (And.intro hin ?_)
  refine q_i (y := iZ k) ?_ h0
  unfold ldC at hQ
  have e11 : ∀ X : Nat → Nat → Int32, X 31 0 = I 31 0 → X 31 0 + Int32.ofInt 1 = iZ ((k + 1 : Nat) : Int) := fun X hX => by rw [hX, h0]; exact iZ_add _ 1
  rw [← e11 (setI (setI I 32 k (iZ a)) 33 k (iZ b)) rfl, ← hcl] at hQ
  rw [← hcl]
  exact hQ
theorem ldC_out {k : Nat} {a b : Int} {x : Nat} (h : x < 31 ∨ 33 < x) : ldC I k a b x = I x := by
  funext j
  unfold ldC
  simp only [setI_at]
  rw [if_neg (by omega), if_neg (by omega), if_neg (by omega)]
theorem op_load {a b : Int} (h : Inv I J) (ra : -2147483648 ≤ a ∧ a ≤ 2147483647) (rb : -2147483648 ≤ b ∧ b ≤ 2147483647) : wpC E (d + 3) 117 [.ref 0, .int (iZ a), .int (iZ b)] (mm I J A) (QI E (d + 3) 242 [.int (iZ a), .int (iZ b)]) := by
  have F' : ¬ (I 266 0 = 1 ∧ nL (vC I) < 6 ∧ GL a b) → QI E (d + 3) 242 [.int (iZ a), .int (iZ b)] (some (.int (iZ (-1)))) (mm I J A) := fun q => QI_mk (m_load (Vs_m h.1) ra rb (fun p1 p2 => absurd ⟨p1, p2⟩ q) (fun _ => ⟨rfl, I, J, A, rfl, h⟩))
  rcases h.1 with ⟨g0, g1⟩ | ⟨g0, hW, hH, hR, h8⟩
  · refine wc (hs := []) 40 (by decide) (wt g1 (F' fun q => ?_))
    rw [q.1] at g0; cases g0
  · have F : ¬ (nL (vC I) < 6 ∧ GL a b) → QI E (d + 3) 242 [.int (iZ a), .int (iZ b)] (some (.int (iZ (-1)))) (mm I J A) := fun q => F' fun r => q r.2
    unfold GL at F
    have b1 : ¬ I 1 0 = 0 := by have : I 1 0 = 1 := hR.1.1; rw [this]; decide
    have h6 := (nL_at hW).2
    have e15 : I 31 0 = iZ (nL (vC I) : Int) := hR.2.2.2.2.2.2.1
    refine wc (hs := []) 80 (by decide) (wF b1 (And.intro (fun q => ?_) (fun q => ?_)))
    · simp (disch := omega) only [z_i8, z_i16, z_of, z_ofN, z_lofN, z_0, z_1, z_m1, z_l0, z_l1, iZ_add, iZ_sub, iZ_mul, iZ_neg, lZ_add, lZ_sub, lZ_mul, lZ_neg, z_div, z_ldiv, z_l, z_i, z_lt, z_le, z_eq, z_llt, z_lle, z_leq, z_cgt, z_cge, z_clt, z_cle, z_ceq, z_cl, z_nat, Int.toNat_natCast, mm_I, mm_J, z_cln, z_abs, z_max, z_min, z_lmax, z_lmin, z_sin, Int.cast_ofNat_Int, uI_I, uI_J, uL_I, uL_J, uA_I, uA_J, sI_eq, sI_ne, sL_eq, sL_ne, up_eq, up_ne, uL_eq, uL_ne, z_toInt, Int.reduceToNat, e15] at q
      exact F (by omega)
    · simp (disch := omega) only [z_i8, z_i16, z_of, z_ofN, z_lofN, z_0, z_1, z_m1, z_l0, z_l1, iZ_add, iZ_sub, iZ_mul, iZ_neg, lZ_add, lZ_sub, lZ_mul, lZ_neg, z_div, z_ldiv, z_l, z_i, z_lt, z_le, z_eq, z_llt, z_lle, z_leq, z_cgt, z_cge, z_clt, z_cle, z_ceq, z_cl, z_nat, Int.toNat_natCast, mm_I, mm_J, z_cln, z_abs, z_max, z_min, z_lmax, z_lmin, z_sin, Int.cast_ofNat_Int, uI_I, uI_J, uL_I, uL_J, uA_I, uA_J, sI_eq, sI_ne, sL_eq, sL_ne, up_eq, up_ne, uL_eq, uL_ne, z_toInt, Int.reduceToNat, e15] at q
      refine And.intro rfl (cW (z := a) (lo := 1) (hi := 9999) rfl rfl rfl (by omega) (by omega) (by omega) (fun g => wF (by decide) ?_) (fun g => wt rfl (F (by omega))))
      refine And.intro rfl (cW (z := b) (lo := 0) (hi := 3000) rfl rfl rfl (by omega) (by omega) (by omega) (fun g => wF (by decide) ?_) (fun g => wt rfl (F (by omega))))
      have hg : GL a b := by unfold GL; omega
      suffices fin : QI E (d + 3) 242 [.int (iZ a), .int (iZ b)] (some (.int (iZ (nL (vC I) : Int)))) (mm (ldC I (nL (vC I)) a b) J A) from And.intro rfl (c_ldAdd (k := nL (vC I)) (by omega) e15 fin)
      have hF : FV I J (ldC I (nL (vC I)) a b) J := fun x hx hy => ⟨ldC_out (by omega), rfl⟩
      have hv := FV_vC hF
      have hw2 := Wf_ld hW hH (by omega) hg.1 hg.2
      refine QI_mk (m_load (FV_m hF (Vs_m h.1)) ra rb (fun p1 p2 => ?_) (fun q => absurd ⟨?_, ?_, hg⟩ q))
      · rw [hv]
        refine ⟨rfl, _, J, A, rfl, Inv_upd (v := ldV (vC I) (nL (vC I)) a b) h hF ?_ JF_refl ?_ ?_ (vC_0 g0) hw2.1 hw2.2 h8⟩
        · intro x hx
          funext j
          unfold ldM
          simp only [setI_at]
          rw [if_neg (by omega), if_neg (by omega), if_neg (by omega)]
        · obtain ⟨r0, ra', rp, rc', rd, ro, rl⟩ := id hR
          have oo : ∀ x, (x < 31 ∨ 33 < x) → ldC I (nL (vC I)) a b x = I x := fun x h2 => ldC_out h2
          refine RS_of ?_ (RPa_eq ra' (oo _ (by omega)) (fun i => rfl)) (RPp_eq rp (fun j h1 h2 => oo _ (by omega)) rfl rfl (fun a i h1 h2 => ld_ot (by omega) (by omega))) (RPc_eq rc' (fun j h1 h2 => oo _ (by omega)) rfl (fun a i h1 h2 => ld_ot (by omega) (by omega))) (RPd_eq rd (fun j h1 h2 => oo _ (by omega)) rfl (fun a i h1 h2 => ld_ot (by omega) (by omega))) (RPo_eq ro (fun j h1 h2 => oo _ (by omega)) rfl (fun a i h1 h2 => ld_ot (by omega) (by omega))) (RPl_ld rl)
          unfold RSs
          rw [ldC_out (by omega)]
          exact r0
        · unfold ldM ldV
          rw [vC_set (z := ((nL (vC I) + 1 : Nat) : Int)) (by omega) rfl (by omega) (by omega), vC_set (z := b) (by omega) rfl (by omega) (by omega), vC_set (z := a) (by omega) rfl (by omega) (by omega), hv]
          rfl
      · rw [(hF 266 (by omega) (by omega)).1]; exact g0
      · rw [hv]; omega
/-! doors and ports -/
def GH (I : Nat → Nat → Int32) (a b c e : Int) : Prop := PG I a ∧ (-1 ≤ b ∧ b ≤ 1) ∧ (0 ≤ c ∧ c ≤ 3000) ∧ (1 ≤ e ∧ e ≤ 200)
theorem m_isHole {a b c e : Int} (hV : Vm I) (ra : -2147483648 ≤ a ∧ a ≤ 2147483647) (rb : -2147483648 ≤ b ∧ b ≤ 2147483647) (rc : -2147483648 ≤ c ∧ c ≤ 2147483647) (re : -2147483648 ≤ e ∧ e ≤ 2147483647) (h1 : GH I a b c e → Q (some (.int 1)) (mm I J A)) (h0 : ¬ GH I a b c e → Q (some (.int 0)) (mm I J A)) : wpC E (d + 2) 154 [.ref 265, .int (iZ a), .int (iZ b), .int (iZ c), .int (iZ e)] (mm I J A) Q := by
  refine wc (hs := []) 60 (by decide) ?_
  refine And.intro rfl (m_isPlaceZ hV ra rfl (fun p => wF (by decide) ?_) (fun p => wt rfl (And.intro rfl (h0 fun q => p q.1))))
  refine And.intro rfl (mW (z := b) (lo := -1) (hi := 1) (z_l (by omega) (by omega)) (by decide +kernel) rfl rb (by omega) (by omega) (fun g2 => wF (by decide) ?_) (fun g => wt rfl (And.intro rfl (h0 fun q => g q.2.1))))
  refine And.intro rfl (mW (z := c) (lo := 0) (hi := 3000) (z_l (by omega) (by omega)) rfl rfl rc (by omega) (by omega) (fun g3 => wF (by decide) ?_) (fun g => wt rfl (And.intro rfl (h0 fun q => g q.2.2.1))))
  exact And.intro rfl (mW (z := e) (lo := 1) (hi := 200) (z_l (by omega) (by omega)) rfl rfl re (by omega) (by omega) (fun g4 => wF (by decide) (And.intro rfl (h1 ⟨p, g2, g3, g4⟩))) (fun g => wt rfl (And.intro rfl (h0 fun q => g q.2.2.2))))
theorem FV_GH {I' : Nat → Nat → Int32} {J' : Nat → Nat → Int64} {a b c e : Int} (h : FV I J I' J') : GH I' a b c e = GH I a b c e := by
  unfold GH
  rw [FV_PG h]
end OP4
