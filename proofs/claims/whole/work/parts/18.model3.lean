/-! ===== the reference: up, runs, turn ===== -/
theorem levB {v : am_V} {k : Nat} (h : WfP v k) : 0 ≤ levZ v k ∧ levZ v k ≤ 999 := by
  obtain ⟨c1, c2, c3⟩ := capB h
  obtain ⟨h0, h1, h2, h3, h4, h5, h6⟩ := h
  have e3 : 0 ≤ v 276 k * 10000 / (v 272 k * v 273 k) := Int.ediv_nonneg (by omega) (by omega)
  unfold levZ
  omega
theorem sprB {v : am_V} {k : Nat} (h : WfP v k) : (0 ≤ v 273 k * v 272 k * v 272 k * v 272 k ∧ v 273 k * v 272 k * v 272 k * v 272 k ≤ 128000000000) ∧ (1200 ≤ 1200 * v 274 k * v 274 k ∧ 1200 * v 274 k * v 274 k ≤ 97200) ∧ 0 ≤ sprZ v k ∧ sprZ v k ≤ 128000000000 := by
  obtain ⟨h0, h1, h2, h3, h4, h5, h6⟩ := h
  have a := mulb (a := v 273 k) (b := v 272 k) (A := 2000) (B := 400) (by omega) h3.2 (by omega) h2.2
  have b := mulb (b := v 272 k) (B := 400) a.1 a.2 (by omega) h2.2
  have c := mulb (b := v 272 k) (B := 400) b.1 b.2 (by omega) h2.2
  have e := mulb (a := 1200 * v 274 k) (b := v 274 k) (A := 10800) (B := 9) (by omega) (by omega) (by omega) h4.2
  have e' : 1200 * 1 ≤ 1200 * v 274 k * v 274 k := Int.mul_le_mul (by omega) h4.1 (by omega) (by omega)
  refine ⟨⟨c.1, by omega⟩, ⟨by omega, by omega⟩, Int.ediv_nonneg c.1 (by omega), ?_⟩
  exact Int.le_trans (Int.ediv_le_self _ c.1) (by omega)
theorem blkB {v : am_V} {k : Nat} (h : WfP v k) : (0 ≤ 5 * v 272 k * min (v 276 k) (capZ v k - v 276 k) ∧ 5 * v 272 k * min (v 276 k) (capZ v k - v 276 k) ≤ 159840000) ∧ 0 ≤ blkZ v k ∧ blkZ v k ≤ 159840000 := by
  obtain ⟨c1, c2, c3⟩ := capB h
  obtain ⟨h0, h1, h2, h3, h4, h5, h6⟩ := h
  have a := mulb (a := 5 * v 272 k) (b := min (v 276 k) (capZ v k - v 276 k)) (A := 2000) (B := 79920) (by omega) (by omega) (by omega) (by omega)
  refine ⟨⟨a.1, by omega⟩, Int.ediv_nonneg a.1 (by omega), ?_⟩
  exact Int.le_trans (Int.ediv_le_self _ a.1) (by omega)
theorem sinR {z : Int} (h0 : 0 ≤ z) (h1 : z ≤ 90) : 0 ≤ sinZ z ∧ sinZ z ≤ 1000 := by
  obtain ⟨b0, b1⟩ := sinB h0 h1
  have b2 : 4000 * z * (180 - z) = 4000 * (z * (180 - z)) := Int.mul_assoc _ _ _
  unfold sinZ
  rw [b2]
  refine ⟨Int.ediv_nonneg (by omega) (by omega), ?_⟩
  have : 4000 * (z * (180 - z)) ≤ 1000 * (40500 - z * (180 - z)) := by omega
  exact Int.ediv_le_of_le_mul (by omega) this
theorem runB {v : am_V} {k : Nat} {z : Int} (h : WfP v k) (h0 : 0 ≤ z) (h1 : z ≤ 90) : (0 ≤ sprZ v k * sinZ z ∧ sprZ v k * sinZ z ≤ 128000000000000) ∧ 0 ≤ runZ v k z ∧ runZ v k z ≤ 159840000 := by
  have a := (sprB h).2.2
  have b := sinR h0 h1
  have c := mulb a.1 a.2 b.1 b.2
  have e := (blkB h).2
  refine ⟨⟨c.1, by omega⟩, ?_, ?_⟩
  · unfold runZ
    have := Int.ediv_nonneg (a := sprZ v k * sinZ z) (b := 1000) c.1 (by omega)
    omega
  · unfold runZ
    omega
theorem rnsB {v : am_V} {z : Int} (h : Wf v) (h0 : 0 ≤ z) (h1 : z ≤ 90) : 0 ≤ rnsZ v z ∧ rnsZ v z ≤ 1918080000 := by
  have hn : nP v ≤ 12 := by
    have := h.1.2.2.2.2.2.2.2.2.1
    unfold nP; omega
  refine ⟨sm_nn fun k hk => (runB (h.2.2.1 k hk) h0 h1).2.1, ?_⟩
  have := sm_le (n := nP v) (f := fun k => runZ v k z) (B := 159840000) (fun k hk => (runB (h.2.2.1 k hk) h0 h1).2.2)
  unfold rnsZ
  have h2 : (nP v : Int) * 159840000 ≤ 12 * 159840000 := Int.mul_le_mul_of_nonneg_right (by omega) (by omega)
  omega
theorem upB {v : am_V} {mu : Int} (h : Wf v) (hm : 0 ≤ mu ∧ mu ≤ 1000000000) : 0 ≤ upZ v mu ∧ upZ v mu ≤ 10000000000 := by
  have hS := h.1
  have hn : nP v ≤ 12 := by
    have := hS.2.2.2.2.2.2.2.2.1
    unfold nP; omega
  have hc : nC v ≤ 6 := by
    have := hS.2.2.2.2.2.2.2.2.2.1
    unfold nC; omega
  have a := mulb (a := v 266 2) (b := v 266 3) (A := 99999) (B := 3000) (by have := hS.2.1; omega) hS.2.1.2 (by have := hS.2.2.1; omega) hS.2.2.1.2
  have pc : ∀ k, k < nC v → 0 ≤ v 277 k * v 278 k ∧ v 277 k * v 278 k ≤ 9999 * 3000 := fun k hk => by
    obtain ⟨w1, w2, -⟩ := h.2.2.2 k hk
    exact mulb (by omega) w1.2 w2.1 w2.2
  have pp : ∀ k, k < nP v → 0 ≤ v 276 k * (v 270 k + levZ v k / 2) ∧ v 276 k * (v 270 k + levZ v k / 2) ≤ 79920 * 2499 := fun k hk => by
    have w := h.2.2.1 k hk
    have l := levB w
    have cb := (capB w).2.2
    obtain ⟨w0, w1, w2, w3, w4, w5, w6⟩ := w
    exact mulb w6.1 (by omega) (by omega) (by omega)
  have s1 := sm_nn (n := nC v) (f := fun k => v 277 k * v 278 k) (fun k hk => (pc k hk).1)
  have s2 := sm_le (n := nC v) (f := fun k => v 277 k * v 278 k) (fun k hk => (pc k hk).2)
  have s3 := sm_nn (n := nP v) (f := fun k => v 276 k * (v 270 k + levZ v k / 2)) (fun k hk => (pp k hk).1)
  have s4 := sm_le (n := nP v) (f := fun k => v 276 k * (v 270 k + levZ v k / 2)) (fun k hk => (pp k hk).2)
  have h2 : (nC v : Int) * (9999 * 3000) ≤ 6 * (9999 * 3000) := Int.mul_le_mul_of_nonneg_right (by omega) (by omega)
  have h3 : (nP v : Int) * (79920 * 2499) ≤ 12 * (79920 * 2499) := Int.mul_le_mul_of_nonneg_right (by omega) (by omega)
  unfold upZ
  omega
theorem totB {v : am_V} {mw : Int} (h : Wf v) (hm : 0 ≤ mw ∧ mw ≤ 200000) : 1 ≤ totZ v mw ∧ totZ v mw ≤ 2000000 := by
  have hS := h.1
  have hn : nP v ≤ 12 := by
    have := hS.2.2.2.2.2.2.2.2.1
    unfold nP; omega
  have hc : nC v ≤ 6 := by
    have := hS.2.2.2.2.2.2.2.2.2.1
    unfold nC; omega
  have s1 := sm_nn (n := nC v) (f := fun k => v 277 k) (fun k hk => by have := (h.2.2.2 k hk).1; omega)
  have s2 := sm_le (n := nC v) (f := fun k => v 277 k) (B := 9999) (fun k hk => (h.2.2.2 k hk).1.2)
  have s3 := sm_nn (n := nP v) (f := fun k => v 276 k) (fun k hk => (h.2.2.1 k hk).2.2.2.2.2.2.1)
  have s4 := sm_le (n := nP v) (f := fun k => v 276 k) (B := 79920) (fun k hk => by
    have w := h.2.2.1 k hk
    have cb := (capB w).2.2
    have := w.2.2.2.2.2.2.2
    omega)
  have := hS.2.1
  unfold totZ
  omega
section M3
variable {E : Nat × (Nat → Int32)} {d : Nat} {I : Nat → Nat → Int32} {J : Nat → Nat → Int64} {A : Nat → Option Nat} {Q : Option Value → am_M → Prop} {M : am_M}
theorem m_draft (h : Wf (vI I)) (hm : 0 ≤ vI I 265 25 ∧ vI I 265 25 ≤ 200000) (hQ : Q (some (.int (iZ (totZ (vI I) (vI I 265 25) / vI I 266 4)))) (mm I J A)) : wpC E (d + 1) 162 [.ref 265] (mm I J A) Q := by
  have t := totB h hm
  have k := h.1.2.2.2.1
  refine wc (hs := []) 20 (by decide) ?_
  refine And.intro rfl (m_total h.1 ?_)
  refine And.intro (inL (by decide)) (And.intro ?_ ?_)
  · intro q
    have q : iZ (vI I 266 4) = iZ 0 := by rw [← vI_eq]; exact q
    rw [iZ_eq ⟨by omega, by omega⟩ ⟨by omega, by omega⟩] at q
    omega
  · refine q_i hQ ?_
    show iZ _ / I 266 4 = _
    rw [vI_eq I 266 4, iZ_div ⟨by omega, by omega⟩ ⟨by omega, by omega⟩, Int.tdiv_eq_ediv_of_nonneg (by omega)]
theorem m_runs {k : Nat} {z : Int} (hk : k < 12) (hW : WfP (vI I) k) (h0 : 0 ≤ z) (h1 : z ≤ 90) (hQ : Q (some (.long (lZ (runZ (vI I) k z)))) (mm I J A)) : wpC E (d + 1) 163 [.ref 265, .int (nI k), .int (iZ z)] (mm I J A) Q := by
  have hin : vp_in (nI k) 12 := vp_in_nI hk (by omega)
  have hc : (nI k).toNatClampNeg = k := nIc (by omega)
  obtain ⟨p1, p2, p3⟩ := sprB hW
  obtain ⟨b1, b2⟩ := blkB hW
  obtain ⟨r1, r2⟩ := runB hW h0 h1
  have s := sinR h0 h1
  obtain ⟨c1, c2, c3⟩ := capB hW
  obtain ⟨w0, w1, w2, w3, w4, w5, w6⟩ := id hW
  have g : ∀ a, I a (nI k).toNatClampNeg = iZ (vI I a k) := fun a => by rw [hc]; exact vI_eq I a k
  have gL : ∀ a, (I a (nI k).toNatClampNeg).toInt64 = lZ (vI I a k) := fun a => by rw [hc]; exact IL a k
  have e1 : lZ 1200 * (I 274 (nI k).toNatClampNeg).toInt64 * (I 274 (nI k).toNatClampNeg).toInt64 = lZ (1200 * vI I 274 k * vI I 274 k) := by rw [gL, lZ_mul, lZ_mul]
  have e2 : (I 273 (nI k).toNatClampNeg).toInt64 * (I 272 (nI k).toNatClampNeg).toInt64 * (I 272 (nI k).toNatClampNeg).toInt64 * (I 272 (nI k).toNatClampNeg).toInt64 / (lZ 1200 * (I 274 (nI k).toNatClampNeg).toInt64 * (I 274 (nI k).toNatClampNeg).toInt64) = lZ (sprZ (vI I) k) := by
    rw [e1, gL, gL, lZ_mul, lZ_mul, lZ_mul, lZ_div ⟨by omega, by omega⟩ ⟨by omega, by omega⟩, Int.tdiv_eq_ediv_of_nonneg p1.1]; rfl
  have e3 : lZ (sprZ (vI I) k) * (iZ (sinZ z)).toInt64 / lZ 1000 = lZ (sprZ (vI I) k * sinZ z / 1000) := by
    rw [iZ_l ⟨by omega, by omega⟩, lZ_mul, lZ_div ⟨by omega, by omega⟩ ⟨by omega, by omega⟩, Int.tdiv_eq_ediv_of_nonneg r1.1]
  refine wc (hs := []) 100 (by decide) ?_
  refine And.intro hin (And.intro hin (And.intro hin (And.intro hin (And.intro hin (And.intro hin (And.intro ?_ (And.intro rfl (m_sine h0 h1 ?_))))))))
  · intro q
    have q : lZ (1200 * vI I 274 k * vI I 274 k) = lZ 0 := by rw [← e1]; exact q
    rw [lZ_eq ⟨by omega, by omega⟩ ⟨by omega, by omega⟩] at q
    omega
  refine And.intro (by decide) (And.intro rfl (m_cap hk hW ?_))
  refine And.intro hin (And.intro hin (And.intro hin ?_))
  have e4 : iZ (capZ (vI I) k) - I 276 (nI k).toNatClampNeg = iZ (capZ (vI I) k - vI I 276 k) := by rw [g, iZ_sub]
  have hd0 : ¬ (I 274 (nI k).toNatClampNeg).toInt64 = 0 := by
    intro q
    have q : lZ (vI I 274 k) = lZ 0 := by rw [← gL]; exact q
    rw [lZ_eq ⟨by omega, by omega⟩ ⟨by omega, by omega⟩] at q
    omega
  have fin : ∀ y : Int32, y = iZ (min (vI I 276 k) (capZ (vI I) k - vI I 276 k)) → lZ 5 * (I 272 (nI k).toNatClampNeg).toInt64 * y.toInt64 / (I 274 (nI k).toNatClampNeg).toInt64 = lZ (blkZ (vI I) k) := by
    intro y hy
    rw [hy, iZ_l ⟨by omega, by omega⟩, gL, gL, lZ_mul, lZ_mul, lZ_div ⟨by omega, by omega⟩ ⟨by omega, by omega⟩, Int.tdiv_eq_ediv_of_nonneg b1.1]; rfl
  have rng1 : rL (sprZ (vI I) k * sinZ z / 1000) := by
    have := Int.ediv_nonneg (a := sprZ (vI I) k * sinZ z) (b := 1000) r1.1 (by omega)
    exact ⟨by omega, by omega⟩
  have ends : ∀ (x y : Int64), x = lZ (sprZ (vI I) k * sinZ z / 1000) → y = lZ (blkZ (vI I) k) → (0 ≤ lg_cmp x y → y = lZ (runZ (vI I) k z)) ∧ (¬ 0 ≤ lg_cmp x y → x = lZ (runZ (vI I) k z)) := by
    intro x y hx hy
    have cmp : 0 ≤ lg_cmp x y ↔ blkZ (vI I) k ≤ sprZ (vI I) k * sinZ z / 1000 := by
      rw [lg_cmp_ge, hx, hy, lZ_le ⟨by omega, by omega⟩ rng1]
    rw [cmp]
    refine ⟨fun q => ?_, fun q => ?_⟩
    · rw [hy]; unfold runZ; rw [Int.min_eq_right q]
    · rw [hx]; unfold runZ; rw [Int.min_eq_left (by omega)]
  refine And.intro (fun q => ?_) (fun q => ?_)
  · have q : iZ (capZ (vI I) k) - I 276 (nI k).toNatClampNeg ≤ I 276 (nI k).toNatClampNeg := q
    rw [e4, g, iZ_le ⟨by omega, by omega⟩ ⟨by omega, by omega⟩] at q
    refine And.intro hin (And.intro hd0 ?_)
    have f := fin (iZ (capZ (vI I) k) - I 276 (nI k).toNatClampNeg) (by rw [e4, Int.min_eq_right q])
    refine And.intro (fun r => ?_) (fun r => ?_)
    · exact q_l hQ ((ends _ _ (by rw [← e3, ← e2]; rfl) f).1 r)
    · exact q_l hQ ((ends _ _ (by rw [← e3, ← e2]; rfl) f).2 r)
  · have q : ¬ iZ (capZ (vI I) k) - I 276 (nI k).toNatClampNeg ≤ I 276 (nI k).toNatClampNeg := q
    rw [e4, g, iZ_le ⟨by omega, by omega⟩ ⟨by omega, by omega⟩] at q
    refine And.intro hin (And.intro hin (And.intro hd0 ?_))
    have f := fin (I 276 (nI k).toNatClampNeg) (by rw [g, Int.min_eq_left (by omega)])
    refine And.intro (fun r => ?_) (fun r => ?_)
    · exact q_l hQ ((ends _ _ (by rw [← e3, ← e2]; rfl) f).1 r)
    · exact q_l hQ ((ends _ _ (by rw [← e3, ← e2]; rfl) f).2 r)
end M3
