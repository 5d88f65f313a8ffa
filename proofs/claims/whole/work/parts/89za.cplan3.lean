section CPLAN3
variable {E : Nat × (Nat → Int32)} {d t r n : Nat} {I : Nat → Nat → Int32} {J : Nat → Nat → Int64} {A : Nat → Option Nat} {Q : Option Value → am_M → Prop} {T : Nat → Int}
/-- a fault's number, out of the reference's own run -/
theorem rd_err (hT : TM I T t) (hr : r < 6) (h31 : I 265 31 = iZ r) (h36 : I 265 36 = iZ 19) : ∀ e, rdZ T t = .error e → 0 < e ∧ e ≤ 1000000 := by
  have W : wpC (0, fun _ => 0) (0 + 12) 212 [.ref 265] (mm I (fun _ _ => 0) (fun _ => none)) (fun _ _ => ∀ e, rdZ T t = .error e → 0 < e ∧ e ≤ 1000000) := m_plan (d := 0) hT hr h31 h36 (fun s' acc I1 I' q' hv _ _ _ _ _ _ e he => by rw [hv] at he; cases he) (fun e I1 I' n hv he _ _ e' he' => by rw [hv] at he'; cases he'; exact he)
  obtain ⟨_, _, _, _, h⟩ := W
  exact h
theorem c_plan6 (h3 : I 0 3 = iZ 6) (hQ : Q (some (.int (iZ (-1)))) (mm I J A)) : wpC E (d + 27) 96 [.ref 0] (mm I J A) Q := by
  have c6 : ¬ I 0 3 < iZ 6 := by rw [h3]; decide
  exact wc (hs := [27]) 60 (by decide) (wF c6 hQ)
end CPLAN3
