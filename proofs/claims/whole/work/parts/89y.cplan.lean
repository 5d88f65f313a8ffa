/-! ===== the class keeps a plan read ===== -/
def plC (I : Nat → Nat → Int32) (t : Nat) : Nat → Nat → Int32 := setI (setI I t 0 (I 224 0)) t 8 (setI I t 0 (I 224 0) 224 8)
section CPLAN
variable {E : Nat × (Nat → Int32)} {d t : Nat} {I : Nat → Nat → Int32} {J : Nat → Nat → Int64} {A : Nat → Option Nat} {Q : Option Value → am_M → Prop}
set_option maxHeartbeats 8000000 in
theorem c_cpPl1 (ht : t = 168 ∨ t = 177 ∨ t = 186 ∨ t = 195 ∨ t = 204 ∨ t = 213) (hQ : wp E (d + 1) 37 121 [(0, .ref t), (1, .ref 224)] [] (mm (cpI (cpI (cpI (cpI (cpI (cpI (cpI (plC I t) 225 (t + 1) 0 0 12) 226 (t + 2) 0 0 12) 227 (t + 3) 0 0 12) 228 (t + 4) 0 0 12) 229 (t + 5) 0 0 12) 230 (t + 6) 0 0 12) 231 (t + 7) 0 0 12) J A) Q) : wpC E (d + 1) 37 [.ref t, .ref 224] (mm I J A) Q := by
  unfold plC at hQ
  rcases ht with rfl | rfl | rfl | rfl | rfl | rfl
  all_goals (
    refine wc (hs := [121]) 120 (by decide) ?_
    refine And.intro (Nat.succ_pos _) (And.intro cA (And.intro cB ?_))
    refine And.intro (Nat.succ_pos _) (And.intro cA (And.intro cB ?_))
    refine And.intro (Nat.succ_pos _) (And.intro cA (And.intro cB ?_))
    refine And.intro (Nat.succ_pos _) (And.intro cA (And.intro cB ?_))
    refine And.intro (Nat.succ_pos _) (And.intro cA (And.intro cB ?_))
    refine And.intro (Nat.succ_pos _) (And.intro cA (And.intro cB ?_))
    exact And.intro (Nat.succ_pos _) (And.intro cA (And.intro cB hQ)))
end CPLAN
