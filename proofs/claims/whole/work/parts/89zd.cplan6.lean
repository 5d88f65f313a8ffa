section CPLAN6
variable {E : Nat × (Nat → Int32)} {d t r n : Nat} {I : Nat → Nat → Int32} {J : Nat → Nat → Int64} {A : Nat → Option Nat} {Q : Option Value → am_M → Prop} {T : Nat → Int}
theorem plF_out {a : Nat} (h : a < t ∨ t + 8 < a) : plF I t n a = I a := by
  unfold plF
  rw [cp_out (by omega), cp_out (by omega), cp_out (by omega), cp_out (by omega), cp_out (by omega), cp_out (by omega), cp_out (by omega), cp_out (by omega)]
  unfold plC
  funext j
  rw [setI_at, if_neg (by omega), setI_at, if_neg (by omega)]
theorem plC_out {a : Nat} (h : a ≠ t) : plC I t a = I a := by
  unfold plC
  funext j
  rw [setI_at, if_neg (by omega), setI_at, if_neg (by omega)]
theorem plF_0 : plF I t n t 0 = I 224 0 := by
  unfold plF
  rw [cp_out (by omega), cp_out (by omega), cp_out (by omega), cp_out (by omega), cp_out (by omega), cp_out (by omega), cp_out (by omega), cp_out (by omega)]
  unfold plC
  rw [setI_at, if_neg (by omega), setI_at, if_pos ⟨rfl, rfl⟩]
theorem plF_8 {j : Nat} (ht : t + 8 < 222) (hj : j < n) : plF I t n (t + 8) j = I 232 j := by
  unfold plF
  rw [cp_in hj, cp_out (by omega), cp_out (by omega), cp_out (by omega), cp_out (by omega), cp_out (by omega), cp_out (by omega), cp_out (by omega), plC_out (by omega)]
theorem plF_row {k j : Nat} (ht : t + 8 < 222) (hk : 1 ≤ k ∧ k ≤ 7) (hj : j < 12) : plF I t n (t + k) j = I (224 + k) j := by
  have hc : k = 1 ∨ k = 2 ∨ k = 3 ∨ k = 4 ∨ k = 5 ∨ k = 6 ∨ k = 7 := by omega
  unfold plF
  rcases hc with rfl | rfl | rfl | rfl | rfl | rfl | rfl
  · rw [cp_out (by omega), cp_out (by omega), cp_out (by omega), cp_out (by omega), cp_out (by omega), cp_out (by omega), cp_out (by omega), cp_in hj, plC_out (by omega)]
  · rw [cp_out (by omega), cp_out (by omega), cp_out (by omega), cp_out (by omega), cp_out (by omega), cp_out (by omega), cp_in hj, cp_out (by omega), plC_out (by omega)]
  · rw [cp_out (by omega), cp_out (by omega), cp_out (by omega), cp_out (by omega), cp_out (by omega), cp_in hj, cp_out (by omega), cp_out (by omega), plC_out (by omega)]
  · rw [cp_out (by omega), cp_out (by omega), cp_out (by omega), cp_out (by omega), cp_in hj, cp_out (by omega), cp_out (by omega), cp_out (by omega), plC_out (by omega)]
  · rw [cp_out (by omega), cp_out (by omega), cp_out (by omega), cp_in hj, cp_out (by omega), cp_out (by omega), cp_out (by omega), cp_out (by omega), plC_out (by omega)]
  · rw [cp_out (by omega), cp_out (by omega), cp_in hj, cp_out (by omega), cp_out (by omega), cp_out (by omega), cp_out (by omega), cp_out (by omega), plC_out (by omega)]
  · rw [cp_out (by omega), cp_in hj, cp_out (by omega), cp_out (by omega), cp_out (by omega), cp_out (by omega), cp_out (by omega), cp_out (by omega), plC_out (by omega)]
theorem c_plan41 (hr : r < 6) (hn : n ≤ 400) (h3 : I 0 3 = iZ r) (h8 : I 224 8 = iZ n) (hQ : Q (some (.int (iZ r))) (mm (setI (plF I (168 + 9 * r) n) 0 3 (iZ (r + 1 : Nat))) J A)) : wp E (d + 27) 96 41 [(0, .ref 0)] [] (mm I J A) Q := by
  have hin : vp_in (I 0 3) 6 := by rw [h3]; exact z_in (by omega) (by omega) (by omega)
  have cl : (I 0 3).toNatClampNeg = r := by rw [h3]; exact z_cln (by omega)
  have p3 : plF I (168 + 9 * r) n 0 3 = iZ r := by rw [plF_out (by omega)]; exact h3
  have e31 : plF I (168 + 9 * r) n 0 3 + iZ 1 = iZ ((r + 1 : Nat) : Int) := by rw [p3]; exact iZ_add r 1
  have e32 : iZ ((r + 1 : Nat) : Int) - iZ 1 = iZ r := by rw [iZ_sub]; congr 1; omega
  have H2 : Q (some (.int (plF I (168 + 9 * r) n 0 3 + iZ 1 - iZ 1))) (mm (setI (plF I (168 + 9 * r) n) 0 3 (plF I (168 + 9 * r) n 0 3 + iZ 1)) J A) := by rw [e31, e32]; exact hQ
  have hc : r = 0 ∨ r = 1 ∨ r = 2 ∨ r = 3 ∨ r = 4 ∨ r = 5 := by omega
  have hl : am_rl am_R0 167 (I 0 3).toNatClampNeg = some (168 + 9 * r) := by
    rw [cl]
    rcases hc with rfl | rfl | rfl | rfl | rfl | rfl <;> rfl
  clear hQ
  rcases hc with rfl | rfl | rfl | rfl | rfl | rfl
  all_goals exact wf (hs := []) 40 41 (by decide) (And.intro hin ⟨_, hl, And.intro rfl (c_cpPl (d := d + 25) (by omega) hn h8 H2)⟩)
end CPLAN6
