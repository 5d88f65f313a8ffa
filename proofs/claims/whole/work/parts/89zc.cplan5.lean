def plF (I : Nat → Nat → Int32) (t n : Nat) : Nat → Nat → Int32 := cpI (cpI (cpI (cpI (cpI (cpI (cpI (cpI (plC I t) 225 (t + 1) 0 0 12) 226 (t + 2) 0 0 12) 227 (t + 3) 0 0 12) 228 (t + 4) 0 0 12) 229 (t + 5) 0 0 12) 230 (t + 6) 0 0 12) 231 (t + 7) 0 0 12) 232 (t + 8) 0 0 n
section CPLAN5
variable {E : Nat × (Nat → Int32)} {d t r n : Nat} {I : Nat → Nat → Int32} {J : Nat → Nat → Int64} {A : Nat → Option Nat} {Q : Option Value → am_M → Prop} {T : Nat → Int}
theorem c_cpPl (ht : t = 168 ∨ t = 177 ∨ t = 186 ∨ t = 195 ∨ t = 204 ∨ t = 213) (hn : n ≤ 400) (h8 : I 224 8 = iZ n) (hQ : Q none (mm (plF I t n) J A)) : wpC E (d + 1) 37 [.ref t, .ref 224] (mm I J A) Q := by
  refine c_cpPl1 ht (c_cpPl2 ht hn ?_ hQ)
  rw [cp_out (by omega), cp_out (by omega), cp_out (by omega), cp_out (by omega), cp_out (by omega), cp_out (by omega), cp_out (by omega)]
  unfold plC
  rw [setI_at, if_neg (by omega), setI_at, if_neg (by omega)]; exact h8
end CPLAN5
