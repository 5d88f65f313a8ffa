/-! ===== parts of a ship, one by one ===== -/
def RPp (I : Nat → Nat → Int32) (J : Nat → Nat → Int64) (b : Nat) (v : am_V) : Prop := I (b + 2) 0 = iZ (nP v) ∧ (∀ k, k < nP v → RSp I J b v k) ∧ (∀ k, nP v ≤ k → k < 12 → I (b + 10) k = iZ 0)
def RPc (I : Nat → Nat → Int32) (b : Nat) (v : am_V) : Prop := I (b + 14) 0 = iZ (nC v) ∧ ∀ k, k < nC v → RSc I b v k
def RPd (I : Nat → Nat → Int32) (b : Nat) (v : am_V) : Prop := I (b + 20) 0 = iZ (nD v) ∧ ∀ k, k < nD v → RSd I b v k
def RPo (I : Nat → Nat → Int32) (b : Nat) (v : am_V) : Prop := I (b + 25) 0 = iZ (nO v) ∧ ∀ k, k < nO v → RSo I b v k
def RPl (I : Nat → Nat → Int32) (b : Nat) (v : am_V) : Prop := I (b + 30) 0 = iZ (nL v) ∧ ∀ k, k < nL v → RSl I b v k
def RPa (I : Nat → Nat → Int32) (b : Nat) (v : am_V) : Prop := ∀ n : Nat, n ≤ 60 → I (b + 1) n = iZ (armZ v n)
section RP
variable {I I' : Nat → Nat → Int32} {J J' : Nat → Nat → Int64} {b : Nat} {v v' : am_V} {t : Int}
theorem RS_of (h0 : RSs I b v (totZ v 0)) (ha : RPa I b v) (hp : RPp I J b v) (hc : RPc I b v) (hd : RPd I b v) (ho : RPo I b v) (hl : RPl I b v) : RS I J b v := ⟨h0, ha, hp, hc, hd, ho, hl⟩
theorem RPa_eq (h : RPa I b v) (e : I' (b + 1) = I (b + 1)) (ev : ∀ i, v' 267 i = v 267 i) : RPa I' b v' := by
  intro n hn
  rw [e, h n hn]
  unfold armZ
  simp only [ev]
theorem RPp_eq (h : RPp I J b v) (e : ∀ j, 2 ≤ j → j ≤ 13 → I' (b + j) = I (b + j)) (eJ : J' (b + 12) = J (b + 12)) (e9 : v' 266 9 = v 266 9) (ev : ∀ a i, 270 ≤ a → a ≤ 276 → v' a i = v a i) : RPp I' J' b v' := by
  have en : nP v' = nP v := by unfold nP; rw [e9]
  unfold RPp RSp capZ levZ sprZ blkZ capZ at h ⊢
  rw [en, eJ, e 2 (by omega) (by omega), e 3 (by omega) (by omega), e 4 (by omega) (by omega), e 5 (by omega) (by omega), e 6 (by omega) (by omega), e 7 (by omega) (by omega), e 8 (by omega) (by omega), e 9 (by omega) (by omega), e 10 (by omega) (by omega), e 11 (by omega) (by omega), e 13 (by omega) (by omega)]
  refine ⟨h.1, fun k hk => ?_, h.2.2⟩
  rw [ev 270 k (by omega) (by omega), ev 271 k (by omega) (by omega), ev 272 k (by omega) (by omega), ev 273 k (by omega) (by omega), ev 274 k (by omega) (by omega), ev 275 k (by omega) (by omega), ev 276 k (by omega) (by omega)]
  exact h.2.1 k hk
theorem RPc_eq (h : RPc I b v) (e : ∀ j, 14 ≤ j → j ≤ 19 → I' (b + j) = I (b + j)) (e9 : v' 266 10 = v 266 10) (ev : ∀ a i, 277 ≤ a → a ≤ 281 → v' a i = v a i) : RPc I' b v' := by
  have en : nC v' = nC v := by unfold nC; rw [e9]
  unfold RPc RSc at h ⊢
  rw [en, e 14 (by omega) (by omega), e 15 (by omega) (by omega), e 16 (by omega) (by omega), e 17 (by omega) (by omega), e 18 (by omega) (by omega), e 19 (by omega) (by omega)]
  refine ⟨h.1, fun k hk => ?_⟩
  rw [ev 277 k (by omega) (by omega), ev 278 k (by omega) (by omega), ev 279 k (by omega) (by omega), ev 280 k (by omega) (by omega), ev 281 k (by omega) (by omega)]
  exact h.2 k hk
theorem RPd_eq (h : RPd I b v) (e : ∀ j, 20 ≤ j → j ≤ 24 → I' (b + j) = I (b + j)) (e9 : v' 266 11 = v 266 11) (ev : ∀ a i, 282 ≤ a → a ≤ 285 → v' a i = v a i) : RPd I' b v' := by
  have en : nD v' = nD v := by unfold nD; rw [e9]
  unfold RPd RSd at h ⊢
  rw [en, e 20 (by omega) (by omega), e 21 (by omega) (by omega), e 22 (by omega) (by omega), e 23 (by omega) (by omega), e 24 (by omega) (by omega)]
  refine ⟨h.1, fun k hk => ?_⟩
  rw [ev 282 k (by omega) (by omega), ev 283 k (by omega) (by omega), ev 284 k (by omega) (by omega), ev 285 k (by omega) (by omega)]
  exact h.2 k hk
theorem RPo_eq (h : RPo I b v) (e : ∀ j, 25 ≤ j → j ≤ 29 → I' (b + j) = I (b + j)) (e9 : v' 266 12 = v 266 12) (ev : ∀ a i, 286 ≤ a → a ≤ 289 → v' a i = v a i) : RPo I' b v' := by
  have en : nO v' = nO v := by unfold nO; rw [e9]
  unfold RPo RSo at h ⊢
  rw [en, e 25 (by omega) (by omega), e 26 (by omega) (by omega), e 27 (by omega) (by omega), e 28 (by omega) (by omega), e 29 (by omega) (by omega)]
  refine ⟨h.1, fun k hk => ?_⟩
  rw [ev 286 k (by omega) (by omega), ev 287 k (by omega) (by omega), ev 288 k (by omega) (by omega), ev 289 k (by omega) (by omega)]
  exact h.2 k hk
theorem RPl_eq (h : RPl I b v) (e : ∀ j, 30 ≤ j → j ≤ 32 → I' (b + j) = I (b + j)) (e9 : v' 266 13 = v 266 13) (ev : ∀ a i, 268 ≤ a → a ≤ 269 → v' a i = v a i) : RPl I' b v' := by
  have en : nL v' = nL v := by unfold nL; rw [e9]
  unfold RPl RSl at h ⊢
  rw [en, e 30 (by omega) (by omega), e 31 (by omega) (by omega), e 32 (by omega) (by omega)]
  refine ⟨h.1, fun k hk => ?_⟩
  rw [ev 268 k (by omega) (by omega), ev 269 k (by omega) (by omega)]
  exact h.2 k hk
/-- one place told anew: its row in every array, the count perhaps -/
theorem RPp_one {p : Nat} (h : RPp I J b v) (hI : ∀ j k, 3 ≤ j → j ≤ 13 → k ≠ p → I' (b + j) k = I (b + j) k) (hJ : ∀ k, k ≠ p → J' (b + 12) k = J (b + 12) k) (hv : ∀ a k, 270 ≤ a → a ≤ 276 → k ≠ p → v' a k = v a k) (hn : ∀ k, k < nP v' → k ≠ p → k < nP v) (hn2 : ∀ k, nP v' ≤ k → nP v ≤ k ∧ k ≠ p) (hs : I' (b + 2) 0 = iZ (nP v')) (hP : p < nP v' → RSp I' J' b v' p) : RPp I' J' b v' := by
  refine ⟨hs, fun k hk => ?_, fun k hk hk2 => ?_⟩
  · by_cases hkp : k = p
    · subst hkp; exact hP hk
    · have := h.2.1 k (hn k hk hkp)
      unfold RSp capZ levZ sprZ blkZ capZ at this ⊢
      rw [hI 3 k (by omega) (by omega) hkp, hI 4 k (by omega) (by omega) hkp, hI 5 k (by omega) (by omega) hkp, hI 6 k (by omega) (by omega) hkp, hI 7 k (by omega) (by omega) hkp, hI 8 k (by omega) (by omega) hkp, hI 9 k (by omega) (by omega) hkp, hI 10 k (by omega) (by omega) hkp, hI 11 k (by omega) (by omega) hkp, hI 13 k (by omega) (by omega) hkp, hJ k hkp, hv 270 k (by omega) (by omega) hkp, hv 271 k (by omega) (by omega) hkp, hv 272 k (by omega) (by omega) hkp, hv 273 k (by omega) (by omega) hkp, hv 274 k (by omega) (by omega) hkp, hv 275 k (by omega) (by omega) hkp, hv 276 k (by omega) (by omega) hkp]
      exact this
  · have := hn2 k hk
    rw [hI 10 k (by omega) (by omega) this.2]
    exact h.2.2 k this.1 hk2
end RP
section OP2
variable {E : Nat × (Nat → Int32)} {d : Nat} {I : Nat → Nat → Int32} {J : Nat → Nat → Int64} {A : Nat → Option Nat} {Q : Option Value → am_M → Prop} {M : am_M}
set_option maxHeartbeats 4000000 in
theorem c_part {p : Nat} {n D B L C w : Int} {x y : Int32} (hp : p < 12) (hD : I 5 p = iZ D) (hB : I 6 p = iZ B) (hL : I 7 p = iZ L) (hC : I 10 p = iZ C) (hw : I 11 p = iZ w) (rD : 1 ≤ D ∧ D ≤ 999) (rB : 1 ≤ B ∧ B ≤ 400) (rL : 1 ≤ L ∧ L ≤ 2000) (rn : 1 ≤ n ∧ n ≤ 9) (rC : 0 ≤ C ∧ C ≤ 79920) (rw' : 0 ≤ w ∧ w ≤ C) (ey : y = iZ p) (ex : x = iZ n) (hQ : Q none (mm (holdI (setI I 8 p (iZ n)) 1 p w (min D (w * 10000 / (B * L))) (5 * B * min w (C - w) / n)) (setL J 13 p (lZ (L * B * B * B / (1200 * n * n)))) A)) : wpC E (d + 2) 30 [.ref 3, .int y, .int x] (mm I J A) Q := by
  subst ex; subst ey
  have hin : vp_in (iZ (p : Int)) 12 := z_in (by omega) (by omega) (by omega)
  have hcl : (iZ (p : Int)).toNatClampNeg = p := z_cln (by omega)
  have m1 := mulb (a := B) (b := B) (A := 400) (B := 400) (by omega) rB.2 (by omega) rB.2
  have m2 := mulb (b := B) (B := 400) m1.1 m1.2 (by omega) rB.2
  have m3 := mulb (a := L) (A := 2000) (by omega) rL.2 m2.1 m2.2
  have m4 := mulb (a := 1200 * n) (b := n) (A := 10800) (B := 9) (by omega) (by omega) (by omega) rn.2
  have m5 : 1200 * 1 ≤ 1200 * n * n := Int.mul_le_mul (by omega) rn.1 (by omega) (by omega)
  have e1 : (I 7 (iZ (p : Int)).toNatClampNeg).toInt64 * ((I 6 (iZ (p : Int)).toNatClampNeg).toInt64 * (I 6 (iZ (p : Int)).toNatClampNeg).toInt64 * (I 6 (iZ (p : Int)).toNatClampNeg).toInt64) = lZ (L * (B * B * B)) := by
    rw [hcl, hB, hL]; simp (disch := omega) only [z_i8, z_i16, z_of, z_ofN, z_lofN, z_0, z_1, z_m1, z_l0, z_l1, iZ_add, iZ_sub, iZ_mul, iZ_neg, lZ_add, lZ_sub, lZ_mul, lZ_neg, z_div, z_ldiv, z_l, z_i, z_lt, z_le, z_eq, z_llt, z_lle, z_leq, z_cgt, z_cge, z_clt, z_cle, z_ceq, z_cl, z_nat, Int.toNat_natCast, mm_I, mm_J, z_cln, z_abs, z_max, z_min, z_lmax, z_lmin, z_sin, Int.cast_ofNat_Int, uI_I, uI_J, uL_I, uL_J, uA_I, uA_J, sI_eq, sI_ne, sL_eq, sL_ne, up_eq, up_ne, uL_eq, uL_ne, z_toInt, Int.reduceToNat]
  have e2 : lZ 1200 * (iZ n).toInt64 * (iZ n).toInt64 = lZ (1200 * n * n) := by simp (disch := omega) only [z_i8, z_i16, z_of, z_ofN, z_lofN, z_0, z_1, z_m1, z_l0, z_l1, iZ_add, iZ_sub, iZ_mul, iZ_neg, lZ_add, lZ_sub, lZ_mul, lZ_neg, z_div, z_ldiv, z_l, z_i, z_lt, z_le, z_eq, z_llt, z_lle, z_leq, z_cgt, z_cge, z_clt, z_cle, z_ceq, z_cl, z_nat, Int.toNat_natCast, mm_I, mm_J, z_cln, z_abs, z_max, z_min, z_lmax, z_lmin, z_sin, Int.cast_ofNat_Int, uI_I, uI_J, uL_I, uL_J, uA_I, uA_J, sI_eq, sI_ne, sL_eq, sL_ne, up_eq, up_ne, uL_eq, uL_ne, z_toInt, Int.reduceToNat]
  have e3 : L * (B * B * B) = L * B * B * B := by rw [← Int.mul_assoc, ← Int.mul_assoc]
  refine wc (hs := []) 80 (by decide) ?_
  refine And.intro hin (And.intro hin (And.intro hin (And.intro hin (And.intro hin (And.intro rfl (c_downE (a := L * (B * B * B)) (b := 1200 * n * n) e1 e2 ⟨by omega, by omega⟩ ⟨by omega, by omega⟩ (And.intro hin (And.intro hin ?_))))))))
  refine And.intro rfl (c_hold (b := 1) (p := p) (n := w) (D := D) (B := B) (L := L) (W := n) (C := C) (Or.inl rfl) hp ?_ ?_ ?_ ?_ ?_ rD rB rL rn rC rw' rfl ?_ ?_)
  · exact hD
  · exact hB
  · exact hL
  · show setI I 8 (iZ (p : Int)).toNatClampNeg (iZ n) 8 p = _
    rw [hcl, setI_at, if_pos ⟨rfl, rfl⟩]
  · exact hC
  · show I 11 (iZ (p : Int)).toNatClampNeg = _
    rw [hcl]; exact hw
  · rw [e3]
    rw [← hcl] at hQ
    have : ∀ M1 : am_M, M1 = mm (holdI (setI I 8 (iZ (p : Int)).toNatClampNeg (iZ n)) 1 p w (min D (w * 10000 / (B * L))) (5 * B * min w (C - w) / n)) (setL J 13 (iZ (p : Int)).toNatClampNeg (lZ (L * B * B * B / (1200 * n * n)))) A → Q none M1 := fun M1 e => by
      rw [e]
      rw [hcl] at hQ ⊢
      exact hQ
    exact this _ rfl
theorem WfP_274 {v : am_V} {p : Nat} {n : Int} (h : Wf v) (hn : 1 ≤ n ∧ n ≤ 9) : Wf (vset v 274 p n) := by
  refine ⟨h.1, h.2.1, fun k hk => ?_, h.2.2.2⟩
  obtain ⟨w0, w1, w2, w3, w4, w5, w6⟩ := h.2.2.1 k hk
  refine ⟨w0, w1, w2, w3, ?_, w5, w6⟩
  by_cases hkp : k = p
  · subst hkp; rw [vset_eq]; exact hn
  · rw [vset_ni hkp]; exact w4
theorem WfH_274 {v : am_V} {p : Nat} {n : Int} (h : WfH v) : WfH (vset v 274 p n) := h
theorem c_partV {p : Nat} {n : Int} {v : am_V} {x y : Int32} (hR : RS I J 1 v) (hW : Wf v) (hp : p < nP v) (hn : 1 ≤ n ∧ n ≤ 9) (ey : y = iZ p) (ex : x = iZ n) (hQ : ∀ I' J', RS I' J' 1 (vset v 274 p n) → FV I J I' J' → Q none (mm I' J' A)) : wpC E (d + 2) 30 [.ref 3, .int y, .int x] (mm I J A) Q := by
  have h12 := nP12 hW
  have w := hW.2.2.1 p hp
  have cb := (capB w).2.2
  obtain ⟨w0, w1, w2, w3, w4, w5, w6⟩ := w
  obtain ⟨q1, q2, q3, q4, q5, q6, q7, q8, q9, q10, q11⟩ := id (hR.2.2.1.2.1 p hp)
  refine c_part (p := p) (by omega) q2 q3 q4 q7 q8 w1 w2 w3 hn cb w6 ey ex (hQ _ _ ?_ ?_)
  · obtain ⟨r0, ra, rp, rc, rd, ro, rl⟩ := id hR
    have row : ∀ a, a ≠ 8 → a ≠ 11 → a ≠ 12 → a ≠ 14 → holdI (setI I 8 p (iZ n)) 1 p (v 276 p) (min (v 271 p) (v 276 p * 10000 / (v 272 p * v 273 p))) (5 * v 272 p * min (v 276 p) (capZ v p - v 276 p) / n) a = I a := fun a h1 h2 h3 h4 => by
      rw [holdI_row (by omega) (by omega) (by omega)]
      funext k
      rw [setI_at, if_neg (by omega)]
    refine RS_of ?_ (RPa_eq ra (row _ (by omega) (by omega) (by omega) (by omega)) (fun i => vset_na (by decide))) (RPp_one (p := p) rp ?_ ?_ ?_ ?_ ?_ ?_ ?_) (RPc_eq rc (fun j h1 h2 => row _ (by omega) (by omega) (by omega) (by omega)) rfl (fun a i h1 h2 => vset_na (by omega))) (RPd_eq rd (fun j h1 h2 => row _ (by omega) (by omega) (by omega) (by omega)) rfl (fun a i h1 h2 => vset_na (by omega))) (RPo_eq ro (fun j h1 h2 => row _ (by omega) (by omega) (by omega) (by omega)) rfl (fun a i h1 h2 => vset_na (by omega))) (RPl_eq rl (fun j h1 h2 => row _ (by omega) (by omega) (by omega) (by omega)) rfl (fun a i h1 h2 => vset_na (by omega)))
    · unfold RSs
      rw [row 1 (by omega) (by omega) (by omega) (by omega)]
      exact r0
    · intro j k h1 h2 h3
      rw [holdI_ne h3, setI_at, if_neg (by omega)]
    · intro k h3
      rw [setL_at, if_neg (by omega)]
    · intro a k h1 h2 h3
      by_cases ha : a = 274
      · subst ha; exact vset_ni h3
      · exact vset_na ha
    · intro k hk _; exact hk
    · intro k hk
      have hk : nP v ≤ k := hk
      exact ⟨hk, by omega⟩
    · rw [row 3 (by omega) (by omega) (by omega) (by omega)]
      exact rp.1
    · intro _
      have f : ∀ a, a ≠ 8 → a ≠ 11 → a ≠ 12 → a ≠ 14 → holdI (setI I 8 p (iZ n)) 1 p (v 276 p) (min (v 271 p) (v 276 p * 10000 / (v 272 p * v 273 p))) (5 * v 272 p * min (v 276 p) (capZ v p - v 276 p) / n) a p = I a p := fun a h1 h2 h3 h4 => by rw [row a h1 h2 h3 h4]
      refine ⟨(f 4 (by omega) (by omega) (by omega) (by omega)).trans q1, (f 5 (by omega) (by omega) (by omega) (by omega)).trans q2, (f 6 (by omega) (by omega) (by omega) (by omega)).trans q3, (f 7 (by omega) (by omega) (by omega) (by omega)).trans q4, ?_, (f 9 (by omega) (by omega) (by omega) (by omega)).trans q6, (f 10 (by omega) (by omega) (by omega) (by omega)).trans q7, ?_, ?_, ?_, ?_⟩
      · rw [vset_eq]
        show holdI _ 1 p _ _ _ 8 p = _
        rw [holdI_row (by omega) (by omega) (by omega), setI_at, if_pos ⟨rfl, rfl⟩]
      · rw [holdI_at, if_neg (by omega), if_neg (by omega), if_pos ⟨rfl, rfl⟩]; rfl
      · rw [holdI_at, if_neg (by omega), if_pos ⟨rfl, rfl⟩]; rfl
      · rw [setL_at, if_pos ⟨rfl, rfl⟩]
        show _ = lZ (v 273 p * v 272 p * v 272 p * v 272 p / (1200 * vset v 274 p n 274 p * vset v 274 p n 274 p))
        rw [vset_eq]
      · rw [holdI_at, if_pos ⟨rfl, rfl⟩]
        show _ = iZ (5 * v 272 p * min (v 276 p) (capZ v p - v 276 p) / vset v 274 p n 274 p)
        rw [vset_eq]
  · intro a ha hb
    refine ⟨?_, ?_⟩
    · rw [holdI_row (by omega) (by omega) (by omega)]
      funext k
      rw [setI_at, if_neg (by omega)]
    · funext k
      rw [setL_at, if_neg (by omega)]
theorem m_walls {k n : Int} (hV : Vm I) (hk : -2147483648 ≤ k ∧ k ≤ 2147483647) (hn : -2147483648 ≤ n ∧ n ≤ 2147483647) (h1 : PG I k → 1 ≤ n ∧ n ≤ 9 → Q (some (.int (iZ (vC I 274 k.toNat)))) (mm (setI I 274 k.toNat (iZ n)) J A)) (h0 : ¬ (PG I k ∧ 1 ≤ n ∧ n ≤ 9) → Q (some (.int (iZ (-1)))) (mm I J A)) : wpC E (d + 2) 152 [.ref 265, .int (iZ k), .int (iZ n)] (mm I J A) Q := by
  refine wc (hs := []) 40 (by decide) ?_
  refine And.intro rfl (m_isPlaceZ hV hk rfl (fun p => wF (by decide) ?_) (fun p => wt rfl (h0 fun q => p q.1)))
  obtain ⟨hW, -⟩ := hV p.1
  have h12 := nP12 hW
  have p2 := p.2
  have hin : vp_in (iZ k) 12 := z_in (by omega) (by omega) (by omega)
  have hcl : (iZ k).toNatClampNeg = k.toNat := z_cl (by omega) (by omega)
  refine And.intro rfl (mW (z := n) (lo := 1) (hi := 9) (z_l (by omega) (by omega)) rfl rfl hn (by omega) (by omega) (fun g => wF (by decide) ?_) (fun g => wt rfl (h0 fun q => g q.2)))
  refine And.intro hin (And.intro hin ?_)
  have := h1 p g
  rw [← hcl] at this
  refine q_i this ?_
  rw [hcl]
  exact vI_eq I 274 k.toNat
theorem op_walls {k n : Int} (h : Inv I J) (hk : -2147483648 ≤ k ∧ k ≤ 2147483647) (hn : -2147483648 ≤ n ∧ n ≤ 2147483647) : wpC E (d + 3) 87 [.ref 0, .int (iZ k), .int (iZ n)] (mm I J A) (QI E (d + 3) 152 [.int (iZ k), .int (iZ n)]) := by
  have hV := h.1
  have F : ¬ (PG I k ∧ 1 ≤ n ∧ n ≤ 9) → QI E (d + 3) 152 [.int (iZ k), .int (iZ n)] (some (.int (iZ (-1)))) (mm I J A) := fun q => QI_mk (m_walls (Vs_m hV) hk hn (fun p1 p2 => absurd ⟨p1, p2⟩ q) (fun _ => ⟨rfl, I, J, A, rfl, h⟩))
  refine wc (hs := []) 40 (by decide) ?_
  refine And.intro rfl (c_hasPlace hV hk rfl (fun p => wF (by decide) ?_) (fun p => wt rfl (F fun q => p q.1)))
  obtain ⟨hW, hH, hR, h8⟩ := Vs_on hV p.1
  have h12 := nP12 hW
  have p2 := p.2
  have hp : k.toNat < nP (vC I) := by omega
  have hin : vp_in (iZ k) 12 := z_in (by omega) (by omega) (by omega)
  have hcl : (iZ k).toNatClampNeg = k.toNat := z_cl (by omega) (by omega)
  obtain ⟨q1, q2, q3, q4, q5, q6, q7, q8, q9, q10, q11⟩ := id (hR.2.2.1.2.1 k.toNat hp)
  refine And.intro rfl (cW (z := n) (lo := 1) (hi := 9) rfl rfl rfl hn (by omega) (by omega) (fun g => wF (by decide) ?_) (fun g => wt rfl (F fun q => g q.2)))
  refine And.intro hin (And.intro rfl (c_partV (v := vC I) (p := k.toNat) (n := n) hR hW hp g (by congr 1; omega) rfl (fun I1 J1 hR1 hF => ?_)))
  have e8 : I 8 (iZ k).toNatClampNeg = iZ (vC I 274 k.toNat) := by rw [hcl]; exact q5
  show QI E (d + 3) 152 [.int (iZ k), .int (iZ n)] (some (.int (I 8 (iZ k).toNatClampNeg))) (mm I1 J1 A)
  rw [e8]
  have hv := FV_vC hF
  refine QI_mk (m_walls (FV_m hF (Vs_m hV)) hk hn (fun p1 p2 => ?_) (fun q => absurd ⟨(FV_PG hF).mpr p, g⟩ q))
  rw [hv]
  refine ⟨rfl, _, J1, A, rfl, Inv_upd h hF (FM_set (by omega)) JF_refl hR1 ?_ (vC_0 p.1) (WfP_274 hW g) (WfH_274 hH) h8⟩
  rw [vC_set (z := n) (by omega) rfl (by omega) (by omega), hv]
end OP2
