/-! ===== the reference: its small methods ===== -/
section M1
variable {E : Nat × (Nat → Int32)} {d : Nat} {I : Nat → Nat → Int32} {J : Nat → Nat → Int64} {A : Nat → Option Nat} {Q : Option Value → am_M → Prop} {M : am_M}
theorem inL {i : Int32} {n : Nat} (h : (decide (i < 0) || Nat.ble n i.toNatClampNeg) = false) : vp_in i n := by
  rw [Bool.or_eq_false_iff] at h
  intro q
  rcases q with q | q
  · exact absurd q (of_decide_eq_false h.1)
  · rw [Nat.ble_eq_true_of_le q] at h
    cases h.2
theorem q_i {x y : Int32} (h : Q (some (.int y)) M) (e : x = y) : Q (some (.int x)) M := e ▸ h
theorem q_l {x y : Int64} (h : Q (some (.long y)) M) (e : x = y) : Q (some (.long x)) M := e ▸ h
/-- in(v, low, high) -/
theorem m_in {a b c : Int64} (h1 : b ≤ a ∧ a ≤ c → Q (some (.int 1)) M) (h0 : ¬ (b ≤ a ∧ a ≤ c) → Q (some (.int 0)) M) : wpC E d 139 [.long a, .long b, .long c] M Q := by
  refine wc (hs := []) 30 (by decide) ?_
  refine And.intro (fun q => ?_) (fun q => ?_)
  · refine And.intro rfl (h0 fun r => ?_)
    have := (lg_cmp_lt a b).mp q
    exact absurd this (Int64.not_lt.mpr r.1)
  · refine And.intro (fun q2 => ?_) (fun q2 => ?_)
    · refine And.intro rfl (h0 fun r => ?_)
      have := (lg_cmp_gt a c).mp q2
      exact absurd this (Int64.not_lt.mpr r.2)
    · refine And.intro rfl (h1 ⟨?_, ?_⟩)
      · exact Int64.not_lt.mp fun r => q ((lg_cmp_lt a b).mpr r)
      · exact Int64.not_lt.mp fun r => q2 ((lg_cmp_gt a c).mpr r)
theorem m_isShip (h1 : I 266 0 = 1 → Q (some (.int 1)) (mm I J A)) (h0 : ¬ I 266 0 = 1 → Q (some (.int 0)) (mm I J A)) : wpC E d 143 [.ref 265] (mm I J A) Q := by
  refine wc (hs := []) 30 (by decide) ?_
  refine And.intro (inL (by decide)) ?_
  refine And.intro (fun q => ?_) (fun q => ?_)
  · exact And.intro rfl (h1 q)
  · exact And.intro rfl (h0 q)
theorem m_cap {k : Nat} (hk : k < 12) (hW : WfP (vI I) k) (hQ : Q (some (.int (iZ (capZ (vI I) k)))) (mm I J A)) : wpC E d 149 [.ref 265, .int (nI k)] (mm I J A) Q := by
  have hin : vp_in (nI k) 12 := vp_in_nI hk (by omega)
  refine wc (hs := []) 40 (by decide) ?_
  refine And.intro hin (And.intro hin (And.intro hin (And.intro (by decide) ?_)))
  refine q_i hQ ?_
  obtain ⟨c1, c2, c3⟩ := capB hW
  show (I 272 (nI k).toNatClampNeg * I 273 (nI k).toNatClampNeg * I 271 (nI k).toNatClampNeg) / iZ 10000 = _
  rw [nIc (by omega), vI_eq I 272, vI_eq I 273, vI_eq I 271, iZ_mul, iZ_mul, iZ_div ⟨by omega, by omega⟩ ⟨by omega, by omega⟩, Int.tdiv_eq_ediv_of_nonneg c1.1]
  rfl
theorem m_level {k : Nat} (hk : k < 12) (hW : WfP (vI I) k) (hQ : Q (some (.int (iZ (levZ (vI I) k)))) (mm I J A)) : wpC E d 150 [.ref 265, .int (nI k)] (mm I J A) Q := by
  have hin : vp_in (nI k) 12 := vp_in_nI hk (by omega)
  obtain ⟨c1, c2, c3⟩ := capB hW
  obtain ⟨h0, h1, h2, h3, h4, h5, h6⟩ := id hW
  have hc : (nI k).toNatClampNeg = k := nIc (by omega)
  have e1 : (I 272 (nI k).toNatClampNeg * I 273 (nI k).toNatClampNeg).toInt64 = lZ (vI I 272 k * vI I 273 k) := by
    rw [hc, vI_eq I 272, vI_eq I 273, iZ_mul, iZ_l ⟨by omega, by omega⟩]
  have e2 : (I 276 (nI k).toNatClampNeg).toInt64 * lZ 10000 = lZ (vI I 276 k * 10000) := by
    rw [hc, vI_eq I 276, iZ_l ⟨by omega, by omega⟩, lZ_mul]
  have e3 : 0 ≤ vI I 276 k * 10000 / (vI I 272 k * vI I 273 k) := Int.ediv_nonneg (by omega) (by omega)
  have e4 : vI I 276 k * 10000 / (vI I 272 k * vI I 273 k) ≤ vI I 276 k * 10000 := Int.ediv_le_self _ (by omega)
  have e5 : ((I 276 (nI k).toNatClampNeg).toInt64 * lZ 10000 / (I 272 (nI k).toNatClampNeg * I 273 (nI k).toNatClampNeg).toInt64).toInt32 = iZ (vI I 276 k * 10000 / (vI I 272 k * vI I 273 k)) := by
    rw [e1, e2, lZ_div ⟨by omega, by omega⟩ ⟨by omega, by omega⟩, Int.tdiv_eq_ediv_of_nonneg (by omega), lZ_i ⟨by omega, by omega⟩]
  refine wc (hs := []) 60 (by decide) ?_
  refine And.intro hin (And.intro hin (And.intro hin (And.intro ?_ ?_)))
  · intro q
    have q : lZ (vI I 272 k * vI I 273 k) = lZ 0 := by rw [← e1]; exact q
    have := (lZ_eq ⟨by omega, by omega⟩ ⟨by omega, by omega⟩).mp q
    omega
  · refine And.intro hin ?_
    have e6 : I 271 (nI k).toNatClampNeg = iZ (vI I 271 k) := by rw [hc]; exact vI_eq I 271 k
    refine And.intro (fun q => ?_) (fun q => ?_)
    · refine q_i hQ (e5.trans ?_)
      have q : iZ (vI I 276 k * 10000 / (vI I 272 k * vI I 273 k)) ≤ iZ (vI I 271 k) := by rw [← e5, ← e6]; exact q
      have := (iZ_le ⟨by omega, by omega⟩ ⟨by omega, by omega⟩).mp q
      unfold levZ
      rw [Int.min_eq_right this]
    · refine And.intro hin ?_
      refine q_i hQ (e6.trans ?_)
      have q : ¬ iZ (vI I 276 k * 10000 / (vI I 272 k * vI I 273 k)) ≤ iZ (vI I 271 k) := by rw [← e5, ← e6]; exact q
      rw [iZ_le ⟨by omega, by omega⟩ ⟨by omega, by omega⟩] at q
      unfold levZ
      rw [Int.min_eq_left (by omega)]
theorem sinB {z : Int} (h0 : 0 ≤ z) (h1 : z ≤ 90) : 0 ≤ z * (180 - z) ∧ z * (180 - z) ≤ 8100 := by
  refine ⟨Int.mul_nonneg h0 (by omega), ?_⟩
  have h2 : 0 ≤ (90 - z) * (90 - z) := Int.mul_nonneg (by omega) (by omega)
  have h3 : (90 - z) * (90 - z) = 8100 - z * (180 - z) := by
    rw [Int.sub_mul, Int.mul_sub, Int.mul_sub, Int.mul_sub]
    omega
  omega
theorem m_sine {z : Int} (h0 : 0 ≤ z) (h1 : z ≤ 90) (hQ : Q (some (.int (iZ (sinZ z)))) M) : wpC E d 158 [.int (iZ z)] M Q := by
  obtain ⟨b0, b1⟩ := sinB h0 h1
  have e : iZ 40500 - iZ z * (iZ 180 - iZ z) = iZ (40500 - z * (180 - z)) := by rw [iZ_sub, iZ_mul, iZ_sub]
  have b2 : 4000 * z * (180 - z) = 4000 * (z * (180 - z)) := Int.mul_assoc _ _ _
  refine wc (hs := []) 40 (by decide) ?_
  refine And.intro ?_ ?_
  · intro q
    have q : iZ (40500 - z * (180 - z)) = iZ 0 := by rw [← e]; exact q
    have := (iZ_eq ⟨by omega, by omega⟩ ⟨by omega, by omega⟩).mp q
    omega
  · refine q_i hQ ?_
    show iZ 4000 * iZ z * (iZ 180 - iZ z) / (iZ 40500 - iZ z * (iZ 180 - iZ z)) = _
    rw [e, iZ_mul, iZ_sub, iZ_mul, iZ_div ⟨by omega, by omega⟩ ⟨by omega, by omega⟩, Int.tdiv_eq_ediv_of_nonneg (by omega)]
    rfl
theorem I_nP (h : WfS (vI I)) : I 266 9 = nI (nP (vI I)) := by
  rw [vI_eq I 266 9, ← iZ_nat]
  unfold nP
  have := h.2.2.2.2.2.2.2.2.1
  rw [Int.toNat_of_nonneg this.1]
theorem I_nC (h : WfS (vI I)) : I 266 10 = nI (nC (vI I)) := by
  rw [vI_eq I 266 10, ← iZ_nat]
  unfold nC
  have := h.2.2.2.2.2.2.2.2.2.1
  rw [Int.toNat_of_nonneg this.1]
theorem nP_le (h : WfS (vI I)) : nP (vI I) ≤ 12 := by
  have := h.2.2.2.2.2.2.2.2.1
  unfold nP
  omega
theorem nC_le (h : WfS (vI I)) : nC (vI I) ≤ 6 := by
  have := h.2.2.2.2.2.2.2.2.2.1
  unfold nC
  omega
theorem m_tot2 (h : WfS (vI I)) : ∀ (n i : Nat) (s : Int) (x1 x2 : Int32), i + n = nP (vI I) → x1 = iZ s → x2 = nI i → Q (some (.int (iZ (s + (sm (nP (vI I)) (fun k => vI I 276 k) - sm i (fun k => vI I 276 k)))))) (mm I J A) → wp E d 160 42 [(0, .ref 265), (1, .int x1), (2, .int x2)] [] (mm I J A) Q := by
  have hle := nP_le h
  intro n
  induction n with
  | zero =>
    intro i s x1 x2 hi e1 e2 hQ
    refine wf (hs := [42]) 40 42 (by decide) ?_
    refine And.intro (inL (by decide)) (wt ?_ ?_)
    · show I 266 9 ≤ x2
      rw [I_nP h, e2, ← hi]; exact Int32.le_refl _
    · refine q_i hQ ?_
      rw [e1]
      congr 1
      have : i = nP (vI I) := by omega
      rw [this]
      omega
  | succ n ih =>
    intro i s x1 x2 hi e1 e2 hQ
    refine wf (hs := [42]) 40 42 (by decide) ?_
    refine And.intro (inL (by decide)) (wF ?_ ?_)
    · show ¬ I 266 9 ≤ x2
      rw [I_nP h, e2]
      exact nI_ge (by omega) (by omega)
    · refine And.intro (by rw [e2]; exact vp_in_nI (by omega) (by omega)) ?_
      refine wp_pick [2, 1, 0] [2, 1, 0] [0, 1, 2] rfl rfl (by decide) (by decide) ?_
      refine ih (i + 1) (s + vI I 276 i) _ _ (by omega) ?_ ?_ ?_
      · show x1 + I 276 x2.toNatClampNeg = _
        rw [e1, e2, nIc (by omega), vI_eq I 276, iZ_add]
      · show x2 + 1 = _
        rw [e2]; exact nI_1 i
      · have : s + vI I 276 i + (sm (nP (vI I)) (fun k => vI I 276 k) - sm (i + 1) (fun k => vI I 276 k)) = s + (sm (nP (vI I)) (fun k => vI I 276 k) - sm i (fun k => vI I 276 k)) := by
          show s + vI I 276 i + (_ - (sm i (fun k => vI I 276 k) + vI I 276 i)) = _
          omega
        rw [this]; exact hQ
end M1
