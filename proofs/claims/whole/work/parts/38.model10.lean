/-! ===== the reference: a round, rounds ===== -/
theorem wlk_no {t : Int → Int} {way z : Int} (h : ¬ (0 < t z * way ∧ ¬ z = way * 60)) (m : Nat) : wlkZ t way m z = z := by
  cases m with
  | zero => rfl
  | succ m => unfold wlkZ; rw [if_neg h]
theorem wlk_add {t : Int → Int} {way : Int} : ∀ (n m : Nat) (z : Int), wlkZ t way (n + m) z = wlkZ t way m (wlkZ t way n z) := by
  intro n
  induction n with
  | zero => intro m z; rw [Nat.zero_add]; rfl
  | succ n ih =>
    intro m z
    rw [show n + 1 + m = (n + m) + 1 by omega]
    show (if _ then _ else _) = wlkZ t way m (if _ then _ else _)
    split
    · exact ih m (z + way)
    · rename_i h
      exact (wlk_no h m).symm
theorem wlk_1 {t : Int → Int} : ∀ (n : Nat) (z : Int), (z ≤ wlkZ t 1 n z ∧ wlkZ t 1 n z ≤ z + n) ∧ (wlkZ t 1 n z < z + n → ∀ m, wlkZ t 1 m (wlkZ t 1 n z) = wlkZ t 1 n z) := by
  intro n
  induction n with
  | zero => intro z; exact ⟨⟨by show z ≤ z; omega, by show z ≤ _; omega⟩, fun h => by have : z < z + (0 : Nat) := h; omega⟩
  | succ n ih =>
    intro z
    by_cases h : 0 < t z * 1 ∧ ¬ z = 1 * 60
    · have e : wlkZ t 1 (n + 1) z = wlkZ t 1 n (z + 1) := if_pos h
      have := ih (z + 1)
      rw [e]
      refine ⟨by omega, fun h => this.2 (by omega)⟩
    · rw [wlk_no h (n + 1)]
      exact ⟨by omega, fun _ m => wlk_no h m⟩
theorem wlk_2 {t : Int → Int} : ∀ (n : Nat) (z : Int), (wlkZ t (-1) n z ≤ z ∧ z - n ≤ wlkZ t (-1) n z) ∧ (z - n < wlkZ t (-1) n z → ∀ m, wlkZ t (-1) m (wlkZ t (-1) n z) = wlkZ t (-1) n z) := by
  intro n
  induction n with
  | zero => intro z; exact ⟨⟨by show z ≤ z; omega, by show _ ≤ z; omega⟩, fun h => by have : z - (0 : Nat) < z := h; omega⟩
  | succ n ih =>
    intro z
    by_cases h : 0 < t z * (-1) ∧ ¬ z = (-1) * 60
    · have e : wlkZ t (-1) (n + 1) z = wlkZ t (-1) n (z + -1) := if_pos h
      have := ih (z + -1)
      rw [e]
      refine ⟨by omega, fun h => this.2 (by omega)⟩
    · rw [wlk_no h (n + 1)]
      exact ⟨by omega, fun _ m => wlk_no h m⟩
theorem wk3 {t : Int → Int} {z : Int} : z + max (-3) (min (rstZ t z - z) 3) = wkN t 3 z := by
  unfold rstZ wkN
  split
  · have e := wlk_add (t := t) (way := 1) 3 117 z
    have a := wlk_1 (t := t) 3 z
    have b := wlk_1 (t := t) 117 (wlkZ t 1 3 z)
    rw [show (120 : Nat) = 3 + 117 from rfl, e]
    by_cases h : wlkZ t 1 3 z < z + (3 : Nat)
    · rw [a.2 h]; omega
    · omega
  · have e := wlk_add (t := t) (way := -1) 3 117 z
    have a := wlk_2 (t := t) 3 z
    have b := wlk_2 (t := t) 117 (wlkZ t (-1) 3 z)
    rw [show (120 : Nat) = 3 + 117 from rfl, e]
    by_cases h : z - (3 : Nat) < wlkZ t (-1) 3 z
    · rw [a.2 h]; omega
    · omega
theorem sld_succ {v : am_V} {n : Nat} : sldN v (n + 1) = if v 279 n < (v 266 7).natAbs then vset (sldN v n) 281 n (if 0 < v 266 7 then 1 else -1) else sldN v n := rfl
theorem setI_same {I : Nat → Nat → Int32} {a i : Nat} : setI I a i (I a i) = I := by
  funext a' i'
  rw [setI_at]
  split
  · rename_i h; rw [h.1, h.2]
  · rfl
section M10
variable {E : Nat × (Nat → Int32)} {d : Nat} {I : Nat → Nat → Int32} {J : Nat → Nat → Int64} {A : Nat → Option Nat} {Q : Option Value → am_M → Prop} {M : am_M}
theorem m_restFromE {z : Int} {x : Int32} (ex : x = iZ z) (h : WM I J) (hz : -60 ≤ z ∧ z ≤ 60) (hQ : Q (some (.int (iZ (rstZ (tM I J (asdZ (vI I))) z)))) (mm I J A)) : wpC E (d + 5) 168 [.ref 265, .int x] (mm I J A) Q := by
  subst ex; exact m_restFrom h hz hQ
set_option maxHeartbeats 8000000 in
theorem m_goesBy {r : Nat} {g : Nat → Nat → Int} {x : Int32} (hW : Wf (vI I)) (hH : WfH (vI I)) (h0 : M0 I J) (hr : r < 6) (hg : WfG g) (hm : MG I r g) (h8 : vI I 266 8 < 99999) (ex : x = iZ r) (hQ : ∀ I' J', vI I' = rndZ g (vI I) → JF J J' → Q none (mm I' J' A)) : wpC E (d + 6) 223 [.ref 265, .int x] (mm I J A) Q := by
  subst ex
  have w := Wf_rd (v := vI I) hW hH hg
  have r8 := hW.1.2.2.2.2.2.2.2.1
  have bump : ∀ I' : Nat → Nat → Int32, vI I' 266 8 = vI I 266 8 → vI (setI I' 266 8 (I' 266 8 + Int32.ofInt 1)) = vset (vI I') 266 8 (vI I' 266 8 + 1) := fun I' e => vI_setZ (by rw [vI_eq I' 266 8]; exact iZ_add _ 1) (by omega) (by omega)
  by_cases hov : vI I 266 7 = 60 ∨ vI I 266 7 = -60
  · refine wc (hs := []) 40 (by decide) ?_
    refine And.intro rfl (m_isOver hW.1 (fun _ => ?_) (fun h => absurd hov h))
    refine wF (by decide) (And.intro (inL (by decide)) (And.intro (inL (by decide)) ?_))
    refine hQ (setI I 266 8 (I 266 8 + Int32.ofInt 1)) J ?_ JF_refl
    rw [bump I rfl]
    unfold rndZ
    rw [if_pos hov]
  · have S143 : ∀ I4 J4, vI I4 = rd4 (rd3 (rd2 (rd1 g (vI I)))) → JF J J4 → wp E (d + 6) 223 143 [(0, .ref 265), (2, .int (iZ (vI I 266 7)))] [] (mm I4 J4 A) Q := by
      intro I4 J4 e hJ
      have w4 := w.2.2.2
      rw [← e] at w4
      have e7 : vI I4 266 7 = vI I 266 7 := by rw [e]; exact rd14_sc (by decide) (by decide)
      have e8 : vI I4 266 8 = vI I 266 8 := by rw [e]; exact rd14_sc (by decide) (by decide)
      have ne265 : ∀ k, vI I4 265 k = vI I 265 k := fun k => by
        rw [e]
        unfold rd4 rd3 rd2 rd1
        rw [sld_ne (by decide), pts_ne (by decide), drs_ne (by decide), cls_ne (by decide) (by decide)]
      have m0 : M0 I4 J4 := M0_eq h0 (vI_cell ne265) (hJ 265 (by decide) (by decide))
      have l := w4.1.1.2.2.2.2.2.2.1
      have rr := rst_rng (t := trnZ (vI I4) 0 0 (asdZ (vI I4))) (z := vI I 266 7) (by omega)
      refine wf (hs := []) 60 143 (by decide) ?_
      refine And.intro rfl (m_restFromE rfl (M0_WM w4.1 m0) (by omega) ?_)
      rw [M0_tM m0]
      refine And.intro rfl (m_betweenE (z := rstZ (trnZ (vI I4) 0 0 (asdZ (vI I4))) (vI I 266 7) - vI I 266 7) (lo := -3) (hi := 3) (by simp (disch := omega) only [z_i8, z_i16, z_of, z_ofN, z_lofN, z_0, z_1, z_m1, z_l0, z_l1, iZ_add, iZ_sub, iZ_mul, iZ_neg, lZ_add, lZ_sub, lZ_mul, lZ_neg, z_div, z_ldiv, z_l, z_i, z_lt, z_le, z_eq, z_llt, z_lle, z_leq, z_cgt, z_cge, z_clt, z_cle, z_ceq, z_cl, z_nat, Int.toNat_natCast, mm_I, mm_J, z_cln, z_abs, z_max, z_min, z_lmax, z_lmin, z_sin, Int.cast_ofNat_Int, uI_I, uI_J, uL_I, uL_J, uA_I, uA_J, sI_eq, sI_ne, sL_eq, sL_ne, up_eq, up_ne, uL_eq, uL_ne, z_toInt, Int.reduceToNat]) (by decide +kernel) rfl ⟨by omega, by omega⟩ ⟨by omega, by omega⟩ ⟨by omega, by omega⟩ (by omega) (And.intro (inL (by decide)) (And.intro (inL (by decide)) (And.intro (inL (by decide)) ?_))))
      have wr := wkN_rng (t := trnZ (vI I4) 0 0 (asdZ (vI I4))) (n := 3) (z := vI I 266 7) (by omega)
      have ev : iZ (vI I 266 7) + (lZ (max (-3) (min (rstZ (trnZ (vI I4) 0 0 (asdZ (vI I4))) (vI I 266 7) - vI I 266 7) 3))).toInt32 = iZ (wkN (trnZ (vI I4) 0 0 (asdZ (vI I4))) 3 (vI I 266 7)) := by
        rw [← wk3]; simp (disch := omega) only [z_i8, z_i16, z_of, z_ofN, z_lofN, z_0, z_1, z_m1, z_l0, z_l1, iZ_add, iZ_sub, iZ_mul, iZ_neg, lZ_add, lZ_sub, lZ_mul, lZ_neg, z_div, z_ldiv, z_l, z_i, z_lt, z_le, z_eq, z_llt, z_lle, z_leq, z_cgt, z_cge, z_clt, z_cle, z_ceq, z_cl, z_nat, Int.toNat_natCast, mm_I, mm_J, z_cln, z_abs, z_max, z_min, z_lmax, z_lmin, z_sin, Int.cast_ofNat_Int, uI_I, uI_J, uL_I, uL_J, uA_I, uA_J, sI_eq, sI_ne, sL_eq, sL_ne, up_eq, up_ne, uL_eq, uL_ne, z_toInt, Int.reduceToNat]
      have ef : vI (setI I4 266 7 (iZ (vI I 266 7) + (lZ (max (-3) (min (rstZ (trnZ (vI I4) 0 0 (asdZ (vI I4))) (vI I 266 7) - vI I 266 7) 3))).toInt32)) = vset (vI I4) 266 7 (wkN (trnZ (vI I4) 0 0 (asdZ (vI I4))) 3 (vI I 266 7)) := vI_setZ ev (by omega) (by omega)
      generalize iZ (vI I 266 7) + (lZ (max (-3) (min (rstZ (trnZ (vI I4) 0 0 (asdZ (vI I4))) (vI I 266 7) - vI I 266 7) 3))).toInt32 = y at ef
      refine hQ (setI (setI I4 266 7 y) 266 8 (setI I4 266 7 y 266 8 + Int32.ofInt 1)) J4 ?_ hJ
      rw [bump _ (by rw [ef]; exact e8), ef]
      unfold rndZ
      rw [if_neg hov, ← e]
      unfold rd5
      rw [e7]
      rfl
    have S79 : ∀ I3 J3, vI I3 = rd3 (rd2 (rd1 g (vI I))) → JF J J3 → wp E (d + 6) 223 79 [(0, .ref 265)] [] (mm I3 J3 A) Q := by
      intro I3 J3 e hJ
      have w3 := w.2.2.1
      rw [← e] at w3
      have e7 : vI I3 266 7 = vI I 266 7 := by rw [e, rd3_sc, rd2_sc, rd1_sc (by decide) (by decide)]
      have lc := w3.1.1.2.2.2.2.2.2.2.2.2.1
      have nc : nC (vI I3) ≤ 6 := by unfold nC; omega
      have l := w3.1.1.2.2.2.2.2.2.1
      have L := lpU (σ := (Nat → Nat → Int32) × Int32) (fun _ s => wp E (d + 6) 223 89 [(0, .ref 265), (2, .int (iZ (vI I 266 7))), (3, .int s.2)] [] (mm s.1 J3 A) Q) (fun i s => vI s.1 = sldN (vI I3) i ∧ s.2 = iZ i) (nC (vI I3)) ?_ ?_
      · refine wf (hs := [89]) 40 79 (by decide) ?_
        refine And.intro (inL (by decide)) ?_
        refine wp_keys [0, 2, 3] rfl rfl ?_
        have := L 0 (I3, iZ 0) (by omega) ⟨rfl, rfl⟩
        rw [← e7, ← vI_eq I3 266 7] at this
        exact this
      · rintro ⟨I', x⟩ ⟨e', ex⟩
        dsimp only at e' ex
        subst ex
        have g10 : I' 266 10 = iZ (nC (vI I3) : Int) := by
          rw [vI_eq I' 266 10, e', sld_ne (by decide)]
          congr 1
          unfold nC; omega
        refine wf (hs := [89, 143]) 40 89 (by decide) (And.intro (inL (by decide)) (wt (Int32.le_of_eq g10) ?_))
        refine wp_keys [0, 2] rfl rfl ?_
        refine S143 I' J3 ?_ hJ
        rw [e', e]; rfl
      · rintro i ⟨I', x⟩ hi ⟨e', ex⟩ ih
        dsimp only at e' ex
        subst ex
        have g10 : ¬ I' 266 10 ≤ iZ (i : Int) := by
          have : I' 266 10 = iZ (nC (vI I3) : Int) := by
            rw [vI_eq I' 266 10, e', sld_ne (by decide)]
            congr 1
            unfold nC; omega
          rw [this]; ((try simp (disch := omega) only [z_i8, z_i16, z_of, z_ofN, z_lofN, z_0, z_1, z_m1, z_l0, z_l1, iZ_add, iZ_sub, iZ_mul, iZ_neg, lZ_add, lZ_sub, lZ_mul, lZ_neg, z_div, z_ldiv, z_l, z_i, z_lt, z_le, z_eq, z_llt, z_lle, z_leq, z_cgt, z_cge, z_clt, z_cle, z_ceq, z_cl, z_nat, Int.toNat_natCast, mm_I, mm_J, z_cln, z_abs, z_max, z_min, z_lmax, z_lmin, z_sin, Int.cast_ofNat_Int, uI_I, uI_J, uL_I, uL_J, uA_I, uA_J, sI_eq, sI_ne, sL_eq, sL_ne, up_eq, up_ne, uL_eq, uL_ne, z_toInt, Int.reduceToNat]) <;> omega)
        have hin : vp_in (iZ (i : Int)) 6 := z_in (by omega) (by omega) (by omega)
        have hcl : (iZ (i : Int)).toNatClampNeg = i := z_cln (by omega)
        have g279 : I' 279 i = iZ (vI I3 279 i) := by rw [vI_eq I' 279 i, e', sld_ne (by decide)]
        have b279 := (w3.1.2.2.2 i hi).2.2.1
        refine wf (hs := [89, 143]) 40 89 (by decide) (And.intro (inL (by decide)) (wF g10 ?_))
        refine And.intro rfl (m_withoutE rfl ⟨by omega, by omega⟩ (And.intro hin (And.intro (fun q => ?_) (fun q => ?_))))
        · simp (disch := omega) only [z_i8, z_i16, z_of, z_ofN, z_lofN, z_0, z_1, z_m1, z_l0, z_l1, iZ_add, iZ_sub, iZ_mul, iZ_neg, lZ_add, lZ_sub, lZ_mul, lZ_neg, z_div, z_ldiv, z_l, z_i, z_lt, z_le, z_eq, z_llt, z_lle, z_leq, z_cgt, z_cge, z_clt, z_cle, z_ceq, z_cl, z_nat, Int.toNat_natCast, mm_I, mm_J, z_cln, z_abs, z_max, z_min, z_lmax, z_lmin, z_sin, Int.cast_ofNat_Int, uI_I, uI_J, uL_I, uL_J, uA_I, uA_J, sI_eq, sI_ne, sL_eq, sL_ne, up_eq, up_ne, uL_eq, uL_ne, z_toInt, Int.reduceToNat, g279] at q
          refine And.intro hin (And.intro hin ?_)
          refine wp_keys [0, 2, 3] rfl rfl ?_
          refine ih (setI I' 281 (iZ (i : Int)).toNatClampNeg (I' 281 (iZ (i : Int)).toNatClampNeg), _) ⟨?_, iZ_add i 1⟩
          dsimp only
          rw [setI_same, e']
          rw [sld_succ, if_neg (by omega)]
        · simp (disch := omega) only [z_i8, z_i16, z_of, z_ofN, z_lofN, z_0, z_1, z_m1, z_l0, z_l1, iZ_add, iZ_sub, iZ_mul, iZ_neg, lZ_add, lZ_sub, lZ_mul, lZ_neg, z_div, z_ldiv, z_l, z_i, z_lt, z_le, z_eq, z_llt, z_lle, z_leq, z_cgt, z_cge, z_clt, z_cle, z_ceq, z_cl, z_nat, Int.toNat_natCast, mm_I, mm_J, z_cln, z_abs, z_max, z_min, z_lmax, z_lmin, z_sin, Int.cast_ofNat_Int, uI_I, uI_J, uL_I, uL_J, uA_I, uA_J, sI_eq, sI_ne, sL_eq, sL_ne, up_eq, up_ne, uL_eq, uL_ne, z_toInt, Int.reduceToNat, g279] at q
          refine And.intro (fun q2 => ?_) (fun q2 => ?_)
          · simp (disch := omega) only [z_i8, z_i16, z_of, z_ofN, z_lofN, z_0, z_1, z_m1, z_l0, z_l1, iZ_add, iZ_sub, iZ_mul, iZ_neg, lZ_add, lZ_sub, lZ_mul, lZ_neg, z_div, z_ldiv, z_l, z_i, z_lt, z_le, z_eq, z_llt, z_lle, z_leq, z_cgt, z_cge, z_clt, z_cle, z_ceq, z_cl, z_nat, Int.toNat_natCast, mm_I, mm_J, z_cln, z_abs, z_max, z_min, z_lmax, z_lmin, z_sin, Int.cast_ofNat_Int, uI_I, uI_J, uL_I, uL_J, uA_I, uA_J, sI_eq, sI_ne, sL_eq, sL_ne, up_eq, up_ne, uL_eq, uL_ne, z_toInt, Int.reduceToNat] at q2
            refine And.intro hin ?_
            refine wp_keys [0, 2, 3] rfl rfl ?_
            refine ih (setI I' 281 (iZ (i : Int)).toNatClampNeg _, _) ⟨?_, iZ_add i 1⟩
            dsimp only
            rw [hcl]
            rw [sld_succ, if_pos (by omega), if_neg (by omega), ← e']
            exact vI_setZ rfl (by omega) (by omega)
          · simp (disch := omega) only [z_i8, z_i16, z_of, z_ofN, z_lofN, z_0, z_1, z_m1, z_l0, z_l1, iZ_add, iZ_sub, iZ_mul, iZ_neg, lZ_add, lZ_sub, lZ_mul, lZ_neg, z_div, z_ldiv, z_l, z_i, z_lt, z_le, z_eq, z_llt, z_lle, z_leq, z_cgt, z_cge, z_clt, z_cle, z_ceq, z_cl, z_nat, Int.toNat_natCast, mm_I, mm_J, z_cln, z_abs, z_max, z_min, z_lmax, z_lmin, z_sin, Int.cast_ofNat_Int, uI_I, uI_J, uL_I, uL_J, uA_I, uA_J, sI_eq, sI_ne, sL_eq, sL_ne, up_eq, up_ne, uL_eq, uL_ne, z_toInt, Int.reduceToNat] at q2
            refine And.intro hin ?_
            refine wp_keys [0, 2, 3] rfl rfl ?_
            refine ih (setI I' 281 (iZ (i : Int)).toNatClampNeg _, _) ⟨?_, iZ_add i 1⟩
            dsimp only
            rw [hcl]
            rw [sld_succ, if_pos (by omega), if_pos (by omega), ← e']
            exact vI_setZ rfl (by omega) (by omega)
    have S57 : ∀ I2 J2, vI I2 = rd2 (rd1 g (vI I)) → JF J J2 → wp E (d + 6) 223 57 [(0, .ref 265), (2, .int (iZ 0))] [] (mm I2 J2 A) Q := by
      intro I2 J2 e hJ
      have w2 := w.2.1
      rw [← e] at w2
      have lo := w2.1.1.2.2.2.2.2.2.2.2.2.2.2.1
      have nc : nO (vI I2) ≤ 12 := by unfold nO; omega
      have L := lpU (σ := (Nat → Nat → Int32) × Int32) (fun _ s => wp E (d + 6) 223 57 [(0, .ref 265), (2, .int s.2)] [] (mm s.1 J2 A) Q) (fun i s => vI s.1 = ptsN (vI I2) i ∧ s.2 = iZ i) (nO (vI I2)) ?_ ?_
      · exact L 0 (I2, _) (by omega) ⟨rfl, rfl⟩
      · rintro ⟨I', x⟩ ⟨e', ex⟩
        dsimp only at e' ex
        subst ex
        have g12 : I' 266 12 = iZ (nO (vI I2) : Int) := by
          rw [vI_eq I' 266 12, e', pts_ne (by decide)]
          congr 1
          unfold nO; omega
        refine wf (hs := [57, 79]) 40 57 (by decide) (And.intro (inL (by decide)) (wt (Int32.le_of_eq g12) ?_))
        refine wp_keys [0] rfl rfl ?_
        refine S79 I' J2 ?_ hJ
        rw [e', e]; rfl
      · rintro i ⟨I', x⟩ hi ⟨e', ex⟩ ih
        dsimp only at e' ex
        subst ex
        have g12 : ¬ I' 266 12 ≤ iZ (i : Int) := by
          have : I' 266 12 = iZ (nO (vI I2) : Int) := by
            rw [vI_eq I' 266 12, e', pts_ne (by decide)]
            congr 1
            unfold nO; omega
          rw [this]; ((try simp (disch := omega) only [z_i8, z_i16, z_of, z_ofN, z_lofN, z_0, z_1, z_m1, z_l0, z_l1, iZ_add, iZ_sub, iZ_mul, iZ_neg, lZ_add, lZ_sub, lZ_mul, lZ_neg, z_div, z_ldiv, z_l, z_i, z_lt, z_le, z_eq, z_llt, z_lle, z_leq, z_cgt, z_cge, z_clt, z_cle, z_ceq, z_cl, z_nat, Int.toNat_natCast, mm_I, mm_J, z_cln, z_abs, z_max, z_min, z_lmax, z_lmin, z_sin, Int.cast_ofNat_Int, uI_I, uI_J, uL_I, uL_J, uA_I, uA_J, sI_eq, sI_ne, sL_eq, sL_ne, up_eq, up_ne, uL_eq, uL_ne, z_toInt, Int.reduceToNat]) <;> omega)
        have wi := Wf_pts (n := i) w2.1 w2.2 (by omega)
        rw [← e'] at wi
        have hnO : nO (vI I') = nO (vI I2) := by unfold nO; rw [e', pts_ne (by decide)]
        have ne265 : ∀ k, vI I' 265 k = vI I 265 k := fun k => by
          rw [e', pts_ne (by decide), e]
          unfold rd2 rd1
          rw [drs_ne (by decide), cls_ne (by decide) (by decide)]
        have m0 : M0 I' J2 := M0_eq h0 (vI_cell ne265) (hJ 265 (by decide) (by decide))
        refine wf (hs := [57, 79]) 40 57 (by decide) (And.intro (inL (by decide)) (wF g12 ?_))
        refine And.intro rfl (m_portGoes wi.1 (wi.2.2.1 i (by omega)) m0 (by omega) rfl (fun I2' e2 => ?_))
        refine wp_keys [0, 2] rfl rfl ?_
        refine ih (I2', _) ⟨?_, iZ_add i 1⟩
        dsimp only
        rw [e2, e']; rfl
    have k0 := hg.1
    have eq24 : iZ 12 * iZ (r : Int) = iZ ((12 * r + 0 : Nat) : Int) := by rw [iZ_mul]; congr 1
    have L := lpU (σ := ((Nat → Nat → Int32) × (Nat → Nat → Int64)) × Int32) (fun _ s => wp E (d + 6) 223 24 [(0, .ref 265), (1, .int (iZ r)), (2, .int s.2)] [] (mm s.1.1 s.1.2 A) Q) (fun i s => (vI s.1.1 = clsN g (vI I) i ∧ JF J s.1.2) ∧ s.2 = iZ ((12 * r + i : Nat) : Int)) (g 0 0).toNat ?_ ?_
    · refine wc (hs := [24]) 40 (by decide) ?_
      refine And.intro rfl (m_isOver hW.1 (fun h => absurd h hov) (fun _ => ?_))
      refine wt rfl ?_
      refine wp_keys [0, 1, 2] rfl rfl ?_
      exact L 0 ((I, J), _) (by omega) ⟨⟨rfl, JF_refl⟩, eq24⟩
    · rintro ⟨⟨I', J'⟩, x⟩ ⟨⟨e', hJ⟩, ex⟩
      dsimp only at e' hJ ex
      subst ex
      have g293 : iZ 12 * iZ (r : Int) + I' 293 (iZ (r : Int)).toNatClampNeg = iZ ((12 * r + (g 0 0).toNat : Nat) : Int) := by
        rw [z_cln (by omega), vI_eq I' 293 r, e', cls_ne (by decide) (by decide), hm.1, iZ_mul, iZ_add]
        congr 1
        omega
      have wi := Wf_cls (n := (g 0 0).toNat) hW hH hg.2
      rw [← e'] at wi
      have ne265 : ∀ k, vI I' 265 k = vI I 265 k := fun k => by rw [e', cls_ne (by decide) (by decide)]
      have m0 : M0 I' J' := M0_eq h0 (vI_cell ne265) (hJ 265 (by decide) (by decide))
      refine wf (hs := [24, 57]) 40 24 (by decide) (And.intro (z_in (by omega) (by omega) (by omega)) (wt (Int32.le_of_eq g293) ?_))
      refine And.intro rfl (m_doorsGo wi.1 wi.2 m0 (fun I2 e2 => ?_))
      refine wp_keys [0, 2] rfl rfl ?_
      refine S57 I2 J' ?_ hJ
      rw [e2, e']; rfl
    · rintro i ⟨⟨I', J'⟩, x⟩ hi ⟨⟨e', hJ⟩, ex⟩ ih
      dsimp only at e' hJ ex
      subst ex
      have g293 : iZ 12 * iZ (r : Int) + I' 293 (iZ (r : Int)).toNatClampNeg = iZ ((12 * r + (g 0 0).toNat : Nat) : Int) := by
        rw [z_cln (by omega), vI_eq I' 293 r, e', cls_ne (by decide) (by decide), hm.1, iZ_mul, iZ_add]
        congr 1
        omega
      have c0 : ¬ iZ 12 * iZ (r : Int) + I' 293 (iZ (r : Int)).toNatClampNeg ≤ iZ ((12 * r + i : Nat) : Int) := by
        rw [g293]; ((try simp (disch := omega) only [z_i8, z_i16, z_of, z_ofN, z_lofN, z_0, z_1, z_m1, z_l0, z_l1, iZ_add, iZ_sub, iZ_mul, iZ_neg, lZ_add, lZ_sub, lZ_mul, lZ_neg, z_div, z_ldiv, z_l, z_i, z_lt, z_le, z_eq, z_llt, z_lle, z_leq, z_cgt, z_cge, z_clt, z_cle, z_ceq, z_cl, z_nat, Int.toNat_natCast, mm_I, mm_J, z_cln, z_abs, z_max, z_min, z_lmax, z_lmin, z_sin, Int.cast_ofNat_Int, uI_I, uI_J, uL_I, uL_J, uA_I, uA_J, sI_eq, sI_ne, sL_eq, sL_ne, up_eq, up_ne, uL_eq, uL_ne, z_toInt, Int.reduceToNat]) <;> omega)
      have wi := Wf_cls (n := i) hW hH (fun j hj => hg.2 j (by omega))
      rw [← e'] at wi
      have ne265 : ∀ k, vI I' 265 k = vI I 265 k := fun k => by rw [e', cls_ne (by decide) (by decide)]
      have m0 : M0 I' J' := M0_eq h0 (vI_cell ne265) (hJ 265 (by decide) (by decide))
      have mg := MGi_eq (I' := I') (hm.2 i hi) (fun a h1 h2 => vI_cell (fun k => by rw [e', cls_ne (by omega) (by omega)]))
      refine wf (hs := [24, 57]) 40 24 (by decide) (And.intro (z_in (by omega) (by omega) (by omega)) (wF c0 ?_))
      refine And.intro rfl (m_does wi.1 m0 hr (by omega) (hg.2 i hi) mg rfl rfl (fun I2 J2 e2 hJ2 => ?_))
      refine wp_keys [0, 1, 2] rfl rfl ?_
      refine ih ((I2, J2), _) ⟨⟨?_, JF_trans hJ hJ2⟩, ?_⟩
      · dsimp only
        rw [e2, e']; rfl
      · exact (iZ_add _ 1)
end M10
