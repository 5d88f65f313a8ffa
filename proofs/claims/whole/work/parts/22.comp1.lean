/-! ===== the class: its static helpers ===== -/
section C1
variable {E : Nat × (Nat → Int32)} {d : Nat} {I : Nat → Nat → Int32} {J : Nat → Nat → Int64} {A : Nat → Option Nat} {Q : Option Value → am_M → Prop} {M : am_M}
theorem c_within {x a b : Int32} (h1 : a ≤ x ∧ x ≤ b → Q (some (.int 1)) M) (h0 : ¬ (a ≤ x ∧ x ≤ b) → Q (some (.int 0)) M) : wpC E d 135 [.int x, .int a, .int b] M Q := by
  refine wc (hs := []) 20 (by decide) ?_
  refine And.intro (fun q => ?_) (fun q => ?_)
  · exact And.intro rfl (h0 fun r => absurd q (Int32.not_lt.mpr r.1))
  · refine And.intro (fun r => ?_) (fun r => ?_)
    · exact And.intro rfl (h0 fun y => absurd r (Int32.not_lt.mpr y.2))
    · exact And.intro rfl (h1 ⟨Int32.not_lt.mp q, Int32.not_lt.mp r⟩)
theorem c_down {a b : Int} (ha : -9000000000000000000 ≤ a ∧ a ≤ 9000000000000000000) (hb : 0 < b ∧ b ≤ 9000000000000000000) (hQ : Q (some (.long (lZ (a / b)))) M) : wpC E d 137 [.long (lZ a), .long (lZ b)] M Q := by
  have ra : rL a := ⟨by omega, by omega⟩
  have rb : rL b := ⟨by omega, by omega⟩
  have hne : ¬ lZ b = 0 := by
    intro q
    have := (lZ_eq rb (b := 0) ⟨by omega, by omega⟩).mp q
    omega
  have e : lZ a - lZ a / lZ b * lZ b = lZ (a - a.tdiv b * b) := by rw [lZ_div ra rb, lZ_mul, lZ_sub]
  have hm : rL (a - a.tdiv b * b) := by
    have h1 := Int.tmod_add_mul_tdiv a b
    have h2 : b * a.tdiv b = a.tdiv b * b := Int.mul_comm _ _
    have h3 : (a.tmod b).natAbs ≤ a.natAbs := by rw [Int.natAbs_tmod]; exact Nat.mod_le _ _
    unfold rL
    omega
  refine wc (hs := []) 30 (by decide) ?_
  refine wt ?_ ?_
  · show 0 < lg_cmp (lZ b) (lZ 0)
    rw [lg_cmp_gt, lZ_lt ⟨by omega, by omega⟩ rb]; exact hb.1
  refine And.intro hne ?_
  refine And.intro (fun q => ?_) (fun q => ?_)
  · have q := (lg_cmp_ge _ _).mp q
    have q : lZ 0 ≤ lZ (a - a.tdiv b * b) := by rw [← e]; exact q
    rw [lZ_le ⟨by omega, by omega⟩ hm] at q
    refine And.intro hne ?_
    refine q_l hQ ?_
    show lZ a / lZ b = _
    rw [lZ_div ra rb, ← tdiv_floor hb.1, if_neg (by omega)]
  · have q : ¬ lZ 0 ≤ lZ (a - a.tdiv b * b) := fun y => q ((lg_cmp_ge _ _).mpr (by rw [← e] at y; exact y))
    rw [lZ_le ⟨by omega, by omega⟩ hm] at q
    refine And.intro hne ?_
    refine q_l hQ ?_
    show lZ a / lZ b - lZ 1 = _
    rw [lZ_div ra rb, ← tdiv_floor hb.1, if_pos (by omega), lZ_sub]
theorem c_downE {x y : Int64} {a b : Int} (ex : x = lZ a) (ey : y = lZ b) (ha : -9000000000000000000 ≤ a ∧ a ≤ 9000000000000000000) (hb : 0 < b ∧ b ≤ 9000000000000000000) (hQ : Q (some (.long (lZ (a / b)))) M) : wpC E d 137 [.long x, .long y] M Q := by
  subst ex; subst ey; exact c_down ha hb hQ
/-- the root by its bits: t holds the bits above, the rest is below 2 b -/
theorem c_rootL {n : Int} (hn : 0 ≤ n ∧ n ≤ 60000000) (hQ : Q (some (.int (iZ (sqI n)))) M) : ∀ (k : Nat) (t : Int) (x2 x3 : Int32), k ≤ 13 → 0 ≤ t → t ≤ 8192 - (2 ^ k : Nat) → x2 = iZ t → x3 = iZ ((2 ^ k : Nat) / 2 : Nat) → t * t ≤ n → n < (t + (2 ^ k : Nat)) * (t + (2 ^ k : Nat)) → wp E d 136 6 [(0, .long (lZ n)), (2, .int x2), (3, .int x3)] [] M Q := by
  intro k
  induction k with
  | zero =>
    intro t x2 x3 _ h0 h1 e2 e3 hl hr
    subst e2; subst e3
    refine wf (hs := [6]) 40 6 (by decide) ?_
    refine wt (by decide) ?_
    refine q_i hQ ?_
    rw [sqI_eq hn.1 (by omega) h0 hl (by simpa using hr)]
  | succ k ih =>
    intro t x2 x3 hk h0 h1 e2 e3 hl hr
    have hp : (2 ^ (k + 1) : Nat) = 2 * 2 ^ k := by rw [Nat.pow_succ]; omega
    have hle : 2 ^ k ≤ 2 ^ 12 := Nat.pow_le_pow_right (by omega) (by omega)
    have hpos : 0 < 2 ^ k := Nat.pow_pos (by omega)
    have hx3 : x3 = iZ ((2 ^ k : Nat) : Int) := by rw [e3, hp]; congr 2; omega
    subst e2
    subst hx3
    rw [hp] at hr h1
    generalize hb : (2 ^ k : Nat) = b at *
    have key : 0 < lg_cmp ((iZ t + iZ (b : Int)).toInt64 * (iZ t + iZ (b : Int)).toInt64) (lZ n) ↔ n < (t + b) * (t + b) := by
      have m := mulb (a := t + b) (b := t + b) (A := 8192) (B := 8192) (by omega) (by omega) (by omega) (by omega)
      rw [lg_cmp_gt, iZ_add, iZ_l ⟨by omega, by omega⟩, lZ_mul, lZ_lt ⟨by omega, by omega⟩ ⟨by omega, by omega⟩]
    have hsh : iZ (b : Int) >>> (iZ 1 &&& 31) = iZ ((b / 2 : Nat) : Int) := by
      rw [iZ_nat, iZ_nat]
      exact pk_shrN (n := b) (by omega) _ 1 (by decide)
    refine wf (hs := [6]) 40 6 (by decide) ?_
    refine wF ?_ ?_
    · show ¬ iZ (b : Int) ≤ iZ 0
      rw [iZ_le ⟨by omega, by omega⟩ ⟨by omega, by omega⟩]; omega
    · refine And.intro (fun q => ?_) (fun q => ?_)
      · have q := key.mp q
        refine wp_pick [2, 3, 0] [3, 4, 0, 2] [0, 2, 3] rfl rfl (by decide) (by decide) ?_
        exact ih t _ _ (by omega) h0 (by omega) rfl hsh hl q
      · have q : ¬ n < (t + b) * (t + b) := fun y => q (key.mpr y)
        refine wp_pick [3, 1, 0] [3, 2, 4, 0] [0, 2, 3] rfl rfl (by decide) (by decide) ?_
        refine ih (t + b) _ _ (by omega) (by omega) (by omega) (iZ_add t b) hsh (by omega) ?_
        have : t + (b : Int) + (b : Int) = t + ((2 * b : Nat) : Int) := by omega
        rw [this]; exact hr
theorem c_root {n : Int} (hn : 0 ≤ n ∧ n ≤ 60000000) (hQ : Q (some (.int (iZ (sqI n)))) M) : wpC E d 136 [.long (lZ n)] M Q := by
  refine wc (hs := [6]) 20 (by decide) ?_
  refine wp_pick [2, 1, 0] [3, 2, 0] [0, 2, 3] rfl rfl (by decide) (by decide) ?_
  exact c_rootL hn hQ 13 0 _ _ (by omega) (by omega) (by decide) rfl rfl (by omega) (by
    show n < (0 + ((8192 : Nat) : Int)) * (0 + ((8192 : Nat) : Int))
    omega)
set_option maxRecDepth 10000 in
theorem sinT : (List.range 91).all (fun j => decide (am_sin j = iZ (sinZ j))) = true := by decide +kernel
theorem sin_at {j : Nat} (h : j ≤ 90) : am_sin j = iZ (sinZ j) := of_decide_eq_true (List.all_eq_true.mp sinT j (List.mem_range.mpr (by omega)))
end C1
