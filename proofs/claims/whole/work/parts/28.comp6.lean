/-! ===== the class: water poured ===== -/
def vset (v : am_V) (a i : Nat) (x : Int) : am_V := fun a' i' => if a' = a ∧ i' = i then x else v a' i'
theorem vset_eq {v : am_V} {a i : Nat} {x : Int} : vset v a i x a i = x := if_pos ⟨rfl, rfl⟩
theorem vset_ni {v : am_V} {a i j : Nat} {x : Int} (h : j ≠ i) : vset v a i x a j = v a j := if_neg (fun q => h q.2)
theorem vset_na {v : am_V} {a i c j : Nat} {x : Int} (h : c ≠ a) : vset v a i x c j = v c j := if_neg (fun q => h q.1)
theorem holdI_at {I : Nat → Nat → Int32} {b p : Nat} {n lv bk : Int} (a k : Nat) : holdI I b p n lv bk a k = if a = b + 13 ∧ k = p then iZ bk else if a = b + 11 ∧ k = p then iZ lv else if a = b + 10 ∧ k = p then iZ n else I a k := by
  unfold holdI
  rw [setI_at, setI_at, setI_at]
theorem holdI_row {I : Nat → Nat → Int32} {b p : Nat} {n lv bk : Int} {a : Nat} (h1 : a ≠ b + 10) (h2 : a ≠ b + 11) (h3 : a ≠ b + 13) : holdI I b p n lv bk a = I a := by
  funext k
  rw [holdI_at, if_neg (fun q => h3 q.1), if_neg (fun q => h2 q.1), if_neg (fun q => h1 q.1)]
theorem holdI_ne {I : Nat → Nat → Int32} {b p : Nat} {n lv bk : Int} {a k : Nat} (h : k ≠ p) : holdI I b p n lv bk a k = I a k := by
  rw [holdI_at, if_neg (fun q => h q.2), if_neg (fun q => h q.2), if_neg (fun q => h q.2)]
theorem lev_ne {v : am_V} {p k : Nat} {n : Int} (h : k ≠ p) : levZ (vset v 276 p n) k = levZ v k := by
  show min (v 271 k) (vset v 276 p n 276 k * 10000 / (v 272 k * v 273 k)) = _
  rw [vset_ni h]; rfl
theorem blk_ne {v : am_V} {p k : Nat} {n : Int} (h : k ≠ p) : blkZ (vset v 276 p n) k = blkZ v k := by
  show 5 * v 272 k * min (vset v 276 p n 276 k) (capZ v k - vset v 276 p n 276 k) / v 274 k = _
  rw [vset_ni h]; rfl
theorem lev_eq {v : am_V} {p : Nat} {n : Int} : levZ (vset v 276 p n) p = min (v 271 p) (n * 10000 / (v 272 p * v 273 p)) := by
  show min (v 271 p) (vset v 276 p n 276 p * 10000 / (v 272 p * v 273 p)) = _
  rw [vset_eq]
theorem blk_eq {v : am_V} {p : Nat} {n : Int} : blkZ (vset v 276 p n) p = 5 * v 272 p * min n (capZ v p - n) / v 274 p := by
  show 5 * v 272 p * min (vset v 276 p n 276 p) (capZ v p - vset v 276 p n 276 p) / v 274 p = _
  rw [vset_eq]
theorem RS_hold {I : Nat → Nat → Int32} {J : Nat → Nat → Int64} {b p : Nat} {v : am_V} {t n : Int} (hR : RSt I J b v t) (hp : p < nP v) : RSt (holdI I b p n (levZ (vset v 276 p n) p) (blkZ (vset v 276 p n) p)) J b (vset v 276 p n) t := by
  obtain ⟨⟨r0, r1, r2, r3, r4, r5, r6, r7, r8, r9⟩, ra, ⟨rp0, rp, rz⟩, ⟨rc0, rc⟩, ⟨rd0, rd⟩, ⟨ro0, ro⟩, ⟨rl0, rl⟩⟩ := hR
  have g : ∀ j, j ≠ 10 → j ≠ 11 → j ≠ 13 → holdI I b p n (levZ (vset v 276 p n) p) (blkZ (vset v 276 p n) p) (b + j) = I (b + j) := fun j h1 h2 h3 => holdI_row (by omega) (by omega) (by omega)
  have g0 := g 0 (by decide) (by decide) (by decide)
  rw [Nat.add_zero] at g0
  refine ⟨?_, fun n hn => ?_, ⟨?_, fun k hk => ?_, fun k hk hk2 => ?_⟩, ⟨?_, fun k hk => ?_⟩, ⟨?_, fun k hk => ?_⟩, ⟨?_, fun k hk => ?_⟩, ⟨?_, fun k hk => ?_⟩⟩
  · unfold RSs
    rw [g0]
    exact ⟨r0, r1, r2, r3, r4, r5, r6, r7, r8, r9⟩
  · rw [g 1 (by decide) (by decide) (by decide)]; exact ra n hn
  · rw [g 2 (by decide) (by decide) (by decide)]; exact rp0
  · have hk : k < nP v := hk
    obtain ⟨q1, q2, q3, q4, q5, q6, q7, q8, q9, q10, q11⟩ := rp k hk
    unfold RSp
    rw [g 3 (by decide) (by decide) (by decide), g 4 (by decide) (by decide) (by decide), g 5 (by decide) (by decide) (by decide), g 6 (by decide) (by decide) (by decide), g 7 (by decide) (by decide) (by decide), g 8 (by decide) (by decide) (by decide), g 9 (by decide) (by decide) (by decide)]
    by_cases hkp : k = p
    · subst hkp
      refine ⟨q1, q2, q3, q4, q5, q6, q7, ?_, ?_, q10, ?_⟩
      · rw [holdI_at, if_neg (by omega), if_neg (by omega), if_pos ⟨rfl, rfl⟩, vset_eq]
      · rw [holdI_at, if_neg (by omega), if_pos ⟨rfl, rfl⟩]
      · rw [holdI_at, if_pos ⟨rfl, rfl⟩]
    · refine ⟨q1, q2, q3, q4, q5, q6, q7, ?_, ?_, q10, ?_⟩
      · rw [holdI_ne hkp, vset_ni hkp]; exact q8
      · rw [holdI_ne hkp, lev_ne hkp]; exact q9
      · rw [holdI_ne hkp, blk_ne hkp]; exact q11
  · have hk : nP v ≤ k := hk
    rw [holdI_ne (by omega)]; exact rz k hk hk2
  · rw [g 14 (by decide) (by decide) (by decide)]; exact rc0
  · unfold RSc
    rw [g 15 (by decide) (by decide) (by decide), g 16 (by decide) (by decide) (by decide), g 17 (by decide) (by decide) (by decide), g 18 (by decide) (by decide) (by decide), g 19 (by decide) (by decide) (by decide)]
    exact rc k hk
  · rw [g 20 (by decide) (by decide) (by decide)]; exact rd0
  · unfold RSd
    rw [g 21 (by decide) (by decide) (by decide), g 22 (by decide) (by decide) (by decide), g 23 (by decide) (by decide) (by decide), g 24 (by decide) (by decide) (by decide)]
    exact rd k hk
  · rw [g 25 (by decide) (by decide) (by decide)]; exact ro0
  · unfold RSo
    rw [g 26 (by decide) (by decide) (by decide), g 27 (by decide) (by decide) (by decide), g 28 (by decide) (by decide) (by decide), g 29 (by decide) (by decide) (by decide)]
    exact ro k hk
  · rw [g 30 (by decide) (by decide) (by decide)]; exact rl0
  · unfold RSl
    rw [g 31 (by decide) (by decide) (by decide), g 32 (by decide) (by decide) (by decide)]
    exact rl k hk
theorem sm_set {n p : Nat} {f g : Nat → Int} (hp : p < n) (h : ∀ k, k ≠ p → g k = f k) : sm n g = sm n f - f p + g p := by
  induction n with
  | zero => omega
  | succ n ih =>
    show sm n g + g n = sm n f + f n - f p + g p
    by_cases hn : p = n
    · subst hn
      have : sm p g = sm p f := sm_congr (fun k hk => h k (by omega))
      omega
    · have := ih (by omega)
      have := h n (by omega)
      omega
theorem tot_set {v : am_V} {p : Nat} {n mw : Int} (hp : p < nP v) : totZ (vset v 276 p n) mw = totZ v mw + n - v 276 p := by
  have := sm_set (n := nP v) (p := p) (f := fun k => v 276 k) (g := fun k => vset v 276 p n 276 k) hp (fun k hk => vset_ni hk)
  rw [vset_eq] at this
  show v 266 2 + mw + sm (nC v) (fun k => v 277 k) + sm (nP v) (fun k => vset v 276 p n 276 k) = _
  rw [this]
  unfold totZ
  omega
theorem Wf_set {v : am_V} {p : Nat} {n : Int} (h : Wf v) (hn : 0 ≤ n ∧ n ≤ capZ v p) : Wf (vset v 276 p n) := by
  refine ⟨h.1, h.2.1, fun k hk => ?_, h.2.2.2⟩
  obtain ⟨w0, w1, w2, w3, w4, w5, w6⟩ := h.2.2.1 k hk
  refine ⟨w0, w1, w2, w3, w4, w5, ?_⟩
  show 0 ≤ vset v 276 p n 276 k ∧ vset v 276 p n 276 k ≤ capZ v k
  by_cases hkp : k = p
  · subst hkp; rw [vset_eq]; exact hn
  · rw [vset_ni hkp]; exact w6
/-- nothing beside the ship is touched -/
def Fr (b : Nat) (I I' : Nat → Nat → Int32) : Prop := ∀ a, a < b ∨ b + 33 ≤ a → I' a = I a
theorem Fr_hold {I I' : Nat → Nat → Int32} {b p : Nat} {n lv bk : Int} (h : Fr b I I') : Fr b I (holdI I' b p n lv bk) := fun a ha => by
  rw [holdI_row (by omega) (by omega) (by omega)]; exact h a ha
section C6
variable {E : Nat × (Nat → Int32)} {d : Nat} {I : Nat → Nat → Int32} {J : Nat → Nat → Int64} {A : Nat → Option Nat} {Q : Option Value → am_M → Prop} {M : am_M} {β b : Nat} {v : am_V} {mw mu mom : Int}
theorem RS_tot {t t' : Int} {x : Int32} (hx : x = iZ t') (hR : RSt I J b v t) : RSt (setI I b 9 x) J b v t' := by
  subst hx
  have g : ∀ j, j ≠ 0 → setI I b 9 (iZ t') (b + j) = I (b + j) := fun j hj => by
    funext k
    rw [setI_at, if_neg (by omega)]
  have g0 : ∀ k, k ≠ 9 → setI I b 9 (iZ t') b k = I b k := fun k hk => by rw [setI_at, if_neg (by omega)]
  have g9 : setI I b 9 (iZ t') b 9 = iZ t' := by rw [setI_at, if_pos ⟨rfl, rfl⟩]
  unfold RSt RSs RSp RSc RSd RSo RSl at hR ⊢
  rw [g0 0 (by decide), g0 1 (by decide), g0 2 (by decide), g0 3 (by decide), g0 4 (by decide), g0 5 (by decide), g0 6 (by decide), g0 7 (by decide), g0 8 (by decide), g9, g 1 (by omega), g 2 (by omega), g 3 (by omega), g 4 (by omega), g 5 (by omega), g 6 (by omega), g 7 (by omega), g 8 (by omega), g 9 (by omega), g 10 (by omega), g 11 (by omega), g 13 (by omega), g 14 (by omega), g 15 (by omega), g 16 (by omega), g 17 (by omega), g 18 (by omega), g 19 (by omega), g 20 (by omega), g 21 (by omega), g 22 (by omega), g 23 (by omega), g 24 (by omega), g 25 (by omega), g 26 (by omega), g 27 (by omega), g 28 (by omega), g 29 (by omega), g 30 (by omega), g 31 (by omega), g 32 (by omega)]
  obtain ⟨⟨r0, r1, r2, r3, r4, r5, r6, r7, r8, r9⟩, rest⟩ := hR
  exact ⟨⟨r0, r1, r2, r3, r4, r5, r6, r7, r8, rfl⟩, rest⟩
theorem nP12 (h : Wf v) : nP v ≤ 12 := by have := h.1.2.2.2.2.2.2.2.2.1; unfold nP; omega
theorem c_pour {p : Nat} {n : Int} {x y : Int32} (hb : B5 b) (hR : RS I J b v) (hW : Wf v) (hp : p < nP v) (hn : 0 ≤ n ∧ n ≤ capZ v p) (ey : y = iZ p) (ex : x = iZ n) (hQ : ∀ I', RS I' J b (vset v 276 p n) → Fr b I I' → Q none (mm I' J A)) : wpC E (d + 2) 71 [.ref b, .int y, .int x] (mm I J A) Q := by
  have h12 := nP12 hW
  have hin : vp_in (iZ (p : Int)) 12 := z_in (by omega) (by omega) (by omega)
  have w := hW.2.2.1 p hp
  have cb := (capB w).2.2
  obtain ⟨w0, w1, w2, w3, w4, w5, w6⟩ := w
  have tt := totB hW (mw := 0) ⟨by omega, by omega⟩
  have h9 := hR.1.2.2.2.2.2.2.2.2.2
  obtain ⟨q1, q2, q3, q4, q5, q6, q7, q8, q9, q10, q11⟩ := id (hR.2.2.1.2.1 p hp)
  have key : ∀ (x : Int32) (Q' : Option Value → am_M → Prop), x = iZ (totZ (vset v 276 p n) 0) → (∀ M, Q none M → Q' none M) → wpC E (d + 1) 31 [.ref (b + 2), .int (iZ p), .int (iZ n)] (mm (setI I b 9 x) J A) Q' := by
    intro x Q' hx hQQ
    have hT := RS_tot hx hR
    obtain ⟨u1, u2, u3, u4, u5, u6, u7, u8, u9, u10, u11⟩ := id (hT.2.2.1.2.1 p hp)
    refine c_hold hb (by omega) u2 u3 u4 u5 u7 w1 w2 w3 w4 cb hn rfl rfl (hQQ _ ?_)
    have fin := hQ _ (RS_hold (n := n) hT hp) (Fr_hold (fun a ha => by
      funext k
      rw [setI_at, if_neg (by omega)]))
    rw [lev_eq, blk_eq] at fin
    exact fin
  subst ex; subst ey
  rcases id hb with rfl | rfl | rfl | rfl | rfl
  all_goals (
    refine wc (hs := []) 40 (by decide) ?_
    refine And.intro hin ?_
    refine And.intro rfl (key _ _ ?_ (fun M h => h))
    simp only [Nat.reduceAdd] at q8
    rw [tot_set hp]
    simp (disch := omega) only [z_i8, z_i16, z_of, z_ofN, z_lofN, z_0, z_1, z_m1, z_l0, z_l1, iZ_add, iZ_sub, iZ_mul, iZ_neg, lZ_add, lZ_sub, lZ_mul, lZ_neg, z_div, z_ldiv, z_l, z_i, z_lt, z_le, z_eq, z_llt, z_lle, z_leq, z_cgt, z_cge, z_clt, z_cle, z_ceq, z_cl, z_nat, Int.toNat_natCast, mm_I, mm_J, z_cln, z_abs, z_max, z_min, z_lmax, z_lmin, z_sin, Int.cast_ofNat_Int, uI_I, uI_J, uL_I, uL_J, uA_I, uA_J, sI_eq, sI_ne, sL_eq, sL_ne, up_eq, up_ne, uL_eq, uL_ne, h9, q8]
    omega)
theorem c_add {p : Nat} {n : Int} {x y : Int32} (hb : B5 b) (hR : RS I J b v) (hW : Wf v) (hp : p < nP v) (hn : 0 ≤ n ∧ n ≤ 100000000) (ey : y = iZ p) (ex : x = iZ n) (hQ : ∀ I', RS I' J b (vset v 276 p (min (v 276 p + n) (capZ v p))) → Fr b I I' → Q none (mm I' J A)) : wpC E (d + 3) 72 [.ref b, .int y, .int x] (mm I J A) Q := by
  have h12 := nP12 hW
  have hin : vp_in (iZ (p : Int)) 12 := z_in (by omega) (by omega) (by omega)
  have w := hW.2.2.1 p hp
  have cb := (capB w).2.2
  obtain ⟨w0, w1, w2, w3, w4, w5, w6⟩ := w
  obtain ⟨q1, q2, q3, q4, q5, q6, q7, q8, q9, q10, q11⟩ := id (hR.2.2.1.2.1 p hp)
  subst ex; subst ey
  rcases id hb with rfl | rfl | rfl | rfl | rfl
  all_goals (
    refine wc (hs := []) 40 (by decide) ?_
    refine And.intro hin (And.intro hin (And.intro rfl (c_pour hb hR hW hp (n := min (v 276 p + n) (capZ v p)) ⟨by omega, by omega⟩ rfl ?_ hQ)))
    simp only [Nat.reduceAdd] at q8 q7
    simp (disch := omega) only [z_i8, z_i16, z_of, z_ofN, z_lofN, z_0, z_1, z_m1, z_l0, z_l1, iZ_add, iZ_sub, iZ_mul, iZ_neg, lZ_add, lZ_sub, lZ_mul, lZ_neg, z_div, z_ldiv, z_l, z_i, z_lt, z_le, z_eq, z_llt, z_lle, z_leq, z_cgt, z_cge, z_clt, z_cle, z_ceq, z_cl, z_nat, Int.toNat_natCast, mm_I, mm_J, z_cln, z_abs, z_max, z_min, z_lmax, z_lmin, z_sin, Int.cast_ofNat_Int, uI_I, uI_J, uL_I, uL_J, uA_I, uA_J, sI_eq, sI_ne, sL_eq, sL_ne, up_eq, up_ne, uL_eq, uL_ne, q7, q8])
theorem c_remove {p : Nat} {n : Int} {x y : Int32} (hb : B5 b) (hR : RS I J b v) (hW : Wf v) (hp : p < nP v) (hn : 0 ≤ n ∧ n ≤ 100000000) (ey : y = iZ p) (ex : x = iZ n) (hQ : ∀ I', RS I' J b (vset v 276 p (max (v 276 p - n) 0)) → Fr b I I' → Q none (mm I' J A)) : wpC E (d + 3) 73 [.ref b, .int y, .int x] (mm I J A) Q := by
  have h12 := nP12 hW
  have hin : vp_in (iZ (p : Int)) 12 := z_in (by omega) (by omega) (by omega)
  have w := hW.2.2.1 p hp
  have cb := (capB w).2.2
  obtain ⟨w0, w1, w2, w3, w4, w5, w6⟩ := w
  obtain ⟨q1, q2, q3, q4, q5, q6, q7, q8, q9, q10, q11⟩ := id (hR.2.2.1.2.1 p hp)
  subst ex; subst ey
  rcases id hb with rfl | rfl | rfl | rfl | rfl
  all_goals (
    refine wc (hs := []) 40 (by decide) ?_
    refine And.intro hin (And.intro rfl (c_pour hb hR hW hp (n := max (v 276 p - n) 0) ⟨by omega, by omega⟩ rfl ?_ hQ))
    simp only [Nat.reduceAdd] at q8 q7
    simp (disch := omega) only [z_i8, z_i16, z_of, z_ofN, z_lofN, z_0, z_1, z_m1, z_l0, z_l1, iZ_add, iZ_sub, iZ_mul, iZ_neg, lZ_add, lZ_sub, lZ_mul, lZ_neg, z_div, z_ldiv, z_l, z_i, z_lt, z_le, z_eq, z_llt, z_lle, z_leq, z_cgt, z_cge, z_clt, z_cle, z_ceq, z_cl, z_nat, Int.toNat_natCast, mm_I, mm_J, z_cln, z_abs, z_max, z_min, z_lmax, z_lmin, z_sin, Int.cast_ofNat_Int, uI_I, uI_J, uL_I, uL_J, uA_I, uA_J, sI_eq, sI_ne, sL_eq, sL_ne, up_eq, up_ne, uL_eq, uL_ne, q7, q8])
def crsZ (v : am_V) (a c : Nat) (m : Int) : Int := min m (min (v 276 a) (capZ v c - v 276 c))
theorem c_cross {a c : Nat} {m : Int} {x y z : Int32} (hb : B5 b) (hR : RS I J b v) (hW : Wf v) (ha : a < nP v) (hc : c < nP v) (hac : a ≠ c) (hm : 0 ≤ m ∧ m ≤ 100000000) (ex : x = iZ a) (ey : y = iZ c) (ez : z = iZ m) (hQ : ∀ I', RS I' J b (vset (vset v 276 a (v 276 a - crsZ v a c m)) 276 c (v 276 c + crsZ v a c m)) → Fr b I I' → Q none (mm I' J A)) : wpC E (d + 3) 74 [.ref b, .int x, .int y, .int z] (mm I J A) Q := by
  have h12 := nP12 hW
  have hina : vp_in (iZ (a : Int)) 12 := z_in (by omega) (by omega) (by omega)
  have hinc : vp_in (iZ (c : Int)) 12 := z_in (by omega) (by omega) (by omega)
  have wa := hW.2.2.1 a ha
  have cba := (capB wa).2.2
  obtain ⟨w0, w1, w2, w3, w4, w5, w6⟩ := wa
  have wc' := hW.2.2.1 c hc
  have cbc := (capB wc').2.2
  obtain ⟨x0, x1, x2, x3, x4, x5, x6⟩ := wc'
  obtain ⟨q1, q2, q3, q4, q5, q6, q7, q8, q9, q10, q11⟩ := id (hR.2.2.1.2.1 a ha)
  obtain ⟨u1, u2, u3, u4, u5, u6, u7, u8, u9, u10, u11⟩ := id (hR.2.2.1.2.1 c hc)
  have hg : crsZ v a c m = min m (min (v 276 a) (capZ v c - v 276 c)) := rfl
  have rg : 0 ≤ crsZ v a c m ∧ crsZ v a c m ≤ v 276 a ∧ crsZ v a c m ≤ capZ v c - v 276 c := by omega
  generalize hgg : crsZ v a c m = g at hQ rg hg
  have ev : vset v 276 a (v 276 a - g) 276 c = v 276 c := vset_ni (Ne.symm hac)
  subst ex; subst ey; subst ez
  rcases id hb with rfl | rfl | rfl | rfl | rfl
  all_goals (
    refine wc (hs := []) 60 (by decide) ?_
    refine And.intro hinc (And.intro hinc (And.intro hina (And.intro hina (And.intro rfl (c_pour hb hR hW ha (n := v 276 a - g) ⟨by omega, by omega⟩ rfl ?_ ?_)))))
    · simp only [Nat.reduceAdd] at q8 u7 u8
      simp (disch := omega) only [z_i8, z_i16, z_of, z_ofN, z_lofN, z_0, z_1, z_m1, z_l0, z_l1, iZ_add, iZ_sub, iZ_mul, iZ_neg, lZ_add, lZ_sub, lZ_mul, lZ_neg, z_div, z_ldiv, z_l, z_i, z_lt, z_le, z_eq, z_llt, z_lle, z_leq, z_cgt, z_cge, z_clt, z_cle, z_ceq, z_cl, z_nat, Int.toNat_natCast, mm_I, mm_J, z_cln, z_abs, z_max, z_min, z_lmax, z_lmin, z_sin, Int.cast_ofNat_Int, uI_I, uI_J, uL_I, uL_J, uA_I, uA_J, sI_eq, sI_ne, sL_eq, sL_ne, up_eq, up_ne, uL_eq, uL_ne, q8, u7, u8, ← hg]
    · intro I' hR' hF
      obtain ⟨t1, t2, t3, t4, t5, t6, t7, t8, t9, t10, t11⟩ := id (hR'.2.2.1.2.1 c hc)
      rw [ev] at t8
      refine And.intro hinc (And.intro rfl (c_pour hb hR' (Wf_set hW ⟨by omega, by omega⟩) hc (n := v 276 c + g) ⟨by omega, by show _ ≤ capZ v c; omega⟩ rfl ?_ ?_))
      · simp only [Nat.reduceAdd] at q8 u7 u8 t8
        simp (disch := omega) only [z_i8, z_i16, z_of, z_ofN, z_lofN, z_0, z_1, z_m1, z_l0, z_l1, iZ_add, iZ_sub, iZ_mul, iZ_neg, lZ_add, lZ_sub, lZ_mul, lZ_neg, z_div, z_ldiv, z_l, z_i, z_lt, z_le, z_eq, z_llt, z_lle, z_leq, z_cgt, z_cge, z_clt, z_cle, z_ceq, z_cl, z_nat, Int.toNat_natCast, mm_I, mm_J, z_cln, z_abs, z_max, z_min, z_lmax, z_lmin, z_sin, Int.cast_ofNat_Int, uI_I, uI_J, uL_I, uL_J, uA_I, uA_J, sI_eq, sI_ne, sL_eq, sL_ne, up_eq, up_ne, uL_eq, uL_ne, q8, u7, u8, t8, ← hg]
      · intro I'' hR'' hF'
        exact hQ I'' hR'' (fun r hr => (hF' r hr).trans (hF r hr)))
end C6
