/-! ===== plan: both ===== -/
section OPPLAN
variable {E : Nat × (Nat → Int32)} {d t r n : Nat} {I I9 : Nat → Nat → Int32} {J : Nat → Nat → Int64} {A : Nat → Option Nat} {Q : Option Value → am_M → Prop} {T : Nat → Int}
theorem Inv_pl (h : Inv I J) (hC : ∀ a, (1 ≤ a ∧ a < 168) ∨ (266 ≤ a ∧ a ≤ 289) ∨ (304 ≤ a ∧ a ≤ 305) → I9 a = I a) (hT : I9 0 5 = iZ 0) (hT2 : I9 265 27 = iZ 0) (h25 : I9 265 25 = I 265 25) (h36 : I9 265 36 = I 265 36) (hP : Pn I9) : Inv I9 J := by
  obtain ⟨hV, hI, hT', hP', m0, h19⟩ := h
  have ev : vC I9 = vC I := vC_eq (fun a h1 h2 => hC a (by omega))
  refine ⟨?_, fun k hk => ?_, ⟨0, by omega, hT, hT2, fun i hi => absurd hi (Nat.not_lt_zero i)⟩, hP, ⟨by have := m0.1; unfold vI at this ⊢; rw [h25]; exact this, m0.2⟩, by rw [h36]; exact h19⟩
  · unfold Vs
    rw [ev, hC 266 (by omega), hC 1 (by omega)]
    rcases hV with h | ⟨g1, g2, g3, g4, g5⟩
    · exact Or.inl h
    · exact Or.inr ⟨g1, g2, g3, RS_eq (fun a q1 q2 => ⟨hC a (by omega), rfl⟩) g4, g5⟩
  · exact Im_eq hk (hI k hk) (hC 305 (by omega)) (imV_eq (hC 304 (by omega))) (fun a q1 q2 => ⟨hC a (by omega), rfl⟩) (fun q => by rw [hC 266 (by omega)]; exact q)
theorem MG_fp {r' : Nat} {g : Nat → Nat → Int} (hr : r' < r) (hg : WfG g) (h : MG I r' g) (e0 : I9 293 r' = I 293 r') (e1 : ∀ j, j < 300 * r → I9 291 j = I 291 j ∧ I9 292 j = I 292 j) (e2 : ∀ a j, 294 ≤ a → a ≤ 300 → j < 12 * r → I9 a j = I a j) : MG I9 r' g := by
  refine ⟨by have := h.1; unfold vI at this ⊢; rw [e0]; exact this, fun i hi => ?_⟩
  have w := hg.2 i hi
  have b12 := hg.1.2
  have f : ∀ a, 294 ≤ a → a ≤ 300 → vI I9 a (12 * r' + i) = vI I a (12 * r' + i) := fun a q1 q2 => by
    unfold vI
    rw [e2 a _ q1 q2 (by omega)]
  obtain ⟨h1, h2, h3, h4, h5, h6, h7, h8⟩ := h.2 i hi
  have w6 := w.2.2.2.2.2.1
  refine ⟨by rw [f 294 (by omega) (by omega)]; exact h1, fun q => by rw [f 295 (by omega) (by omega)]; exact h2 q, fun q => by rw [f 296 (by omega) (by omega)]; exact h3 q, fun q => by rw [f 297 (by omega) (by omega)]; exact h4 q, by rw [f 298 (by omega) (by omega)]; exact h5, by rw [f 299 (by omega) (by omega)]; exact h6, by rw [f 300 (by omega) (by omega)]; exact h7, fun k hk => ?_⟩
  have := h8 k hk
  have ee := e1 (300 * r' + k) (by omega)
  unfold vI at this ⊢
  rw [ee.1, ee.2]; exact this
/-- a row of the plan kept -/
def GRw (g : Nat → Nat → Int) (j : Nat) (rc : Nat → Int) : Prop := g 1 j = rc 1 ∧ (rc 1 = 19 ∨ rc 1 = 20 ∨ rc 1 = 21 → g 2 j = rc 2) ∧ (rc 1 = 21 → g 3 j = rc 3) ∧ (rc 1 ≠ 22 → g 4 j = rc 4) ∧ g 5 j = rc 5 ∧ g 6 j = rc 6 ∧ g 7 j = rc 7
theorem new_wfi {g : Nat → Nat → Int} {L : List Int} {rc : Nat → Int} {j : Nat} (hL : L.length ≤ 300) (h8 : ∀ k, k < L.length → g 8 k = L.getD k 0) (hg : GRw g j rc) (hw : RWf L rc) : WfGi g j := by
  obtain ⟨a1, a2, a3, a4, a5, a6, a7⟩ := hg
  obtain ⟨b1, b2, b3, b4, b5, b6, b7, b8⟩ := hw
  unfold WfGi
  rw [a1, a5, a6, a7]
  refine ⟨b1, fun q => by rw [a2 q]; exact b2 q, fun q => by rw [a3 q]; exact b3 q, fun q => by rw [a4 q]; exact b4 q, fun q => by rw [a4 (by omega)]; exact b5 q, by omega, fun q => okN_congr _ _ _ (fun k q1 q2 => (h8 k (by omega)).symm) (b7 q), fun q => okN_congr _ _ _ (fun k q1 q2 => (h8 k (by omega)).symm) (b8 q)⟩
theorem new_mgi {g : Nat → Nat → Int} {L : List Int} {rc : Nat → Int} {j : Nat} (hL : L.length ≤ 300) (h8 : ∀ k, k < L.length → g 8 k = L.getD k 0) (hg : GRw g j rc) (hw : RWf L rc) (hR : RRi I9 (12 * r + j) rc) (hE : ∀ k, k < L.length → ENT (L.getD k 0) (vI I9 291 (300 * r + k)) (vI I9 292 (300 * r + k))) : MGi I9 r g j := by
  obtain ⟨a1, a2, a3, a4, a5, a6, a7⟩ := hg
  obtain ⟨b1, b2, b3, b4, b5, b6, b7, b8⟩ := hw
  obtain ⟨k, k5, c1, c2, c3, c4, c5, c6, c7⟩ := hR
  have ck := (ctx_cd k k5).1
  have tm : tmp (rc 1) = k := by
    rw [c1, ck]
    have hc : k = 0 ∨ k = 1 ∨ k = 2 ∨ k = 3 ∨ k = 4 := by omega
    rcases hc with rfl | rfl | rfl | rfl | rfl <;> rfl
  have rk : rc 1 = (if k = 3 then 16 else if k = 4 then 22 else 19 + (k : Int)) := by
    rw [c1, ck]
    have hc : k = 0 ∨ k = 1 ∨ k = 2 ∨ k = 3 ∨ k = 4 := by omega
    rcases hc with rfl | rfl | rfl | rfl | rfl <;> rfl
  have vz : ∀ {a i : Nat} {z : Int}, I9 a i = iZ z → -1000000 ≤ z → z ≤ 1000000 → vI I9 a i = z := fun {a i z} q q1 q2 => by
    unfold vI
    rw [q]; exact z_toInt (by omega) (by omega)
  unfold MGi
  rw [a1, a5, a6, a7, tm]
  refine ⟨vz c2 (by omega) (by omega), fun q => ?_, fun q => ?_, fun q => ?_, vz c5 (by omega) (by omega), vz c6 (by omega) (by omega), vz c7 (by omega) (by omega), fun i hi => ?_⟩
  · have b := b2 q
    rw [a2 q]
    have k3 : k < 3 := by
      rcases Nat.lt_or_ge k 3 with w | w
      · exact w
      · exfalso
        have : k = 3 ∨ k = 4 := by omega
        rcases this with rfl | rfl
        · have rk : rc 1 = 16 := rk
          omega
        · have rk : rc 1 = 22 := rk
          omega
    exact vz (c3 k3).1 (by omega) (by omega)
  · have b := b3 q
    rw [a3 q]
    have k3 : k < 3 := by
      rcases Nat.lt_or_ge k 3 with w | w
      · exact w
      · exfalso
        have : k = 3 ∨ k = 4 := by omega
        rcases this with rfl | rfl
        · have rk : rc 1 = 16 := rk
          omega
        · have rk : rc 1 = 22 := rk
          omega
    exact vz (c3 k3).2 (by omega) (by omega)
  · have b := b4 q
    rw [a4 q]
    have k4 : k ≠ 4 := fun w => by
      subst w
      exact q rk
    exact vz (c4 k4) (by omega) (by omega)
  · rw [h8 i (by omega)]
    exact hE i (by omega)
end OPPLAN
