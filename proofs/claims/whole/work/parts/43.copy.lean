/-! ===== the class: a ship copied ===== -/
def DS (t f : Nat) : Prop := (t = 1 ∧ (f = 35 ∨ f = 68 ∨ f = 101 ∨ f = 134)) ∨ (f = 1 ∧ (t = 35 ∨ t = 68 ∨ t = 101 ∨ t = 134))
def cgI (I : Nat → Nat → Int32) (t f m n : Nat) : Nat → Nat → Int32 := fun a j => if (a = t ∧ j = 0) ∨ (t < a ∧ a ≤ t + m ∧ j < n) then I (f + (a - t)) j else I a j
theorem cg_0 {I : Nat → Nat → Int32} {t f n : Nat} : setI I t 0 (I f 0) = cgI I t f 0 n := by
  funext a j
  rw [setI_at]
  unfold cgI
  (repeat' split) <;> first | rfl | (exfalso; omega) | skip
  rename_i h _
  rw [h.1, h.2, show f + (t - t) = f by omega]
theorem cg_step {I : Nat → Nat → Int32} {t f m m' n : Nat} (hm : m' = m + 1) (h : f + m' < t ∨ t + m' < f) : cgI I t f m' n = cpI (cgI I t f m n) (f + m') (t + m') 0 0 n := by
  subst hm
  funext a j
  rw [cpI_at]
  unfold cgI
  by_cases h1 : a = t + (m + 1) ∧ 0 ≤ j ∧ j < 0 + n
  · rw [if_pos h1, if_pos (by omega), if_neg (by omega)]
    congr 1 <;> omega
  · rw [if_neg h1]
    by_cases h2 : (a = t ∧ j = 0) ∨ (t < a ∧ a ≤ t + m ∧ j < n)
    · rw [if_pos h2, if_pos (by omega)]
    · rw [if_neg h2, if_neg (by omega)]
theorem cg_out {I : Nat → Nat → Int32} {t f m n a : Nat} (h : a < t ∨ t + m < a) : cgI I t f m n a = I a := by
  funext j
  unfold cgI
  rw [if_neg (by omega)]
theorem cg_in0 {I : Nat → Nat → Int32} {t f m n : Nat} : cgI I t f m n t 0 = I f 0 := by
  unfold cgI
  rw [if_pos (Or.inl ⟨rfl, rfl⟩)]
  congr 1; omega
theorem cg_in {I : Nat → Nat → Int32} {t f m n i j : Nat} (h1 : 1 ≤ i) (h2 : i ≤ m) (h3 : j < n) : cgI I t f m n (t + i) j = I (f + i) j := by
  unfold cgI
  rw [if_pos (by omega)]
  congr 1; omega
theorem cp_out {I : Nat → Nat → Int32} {a b sp dp n a' : Nat} (h : a' ≠ b) : cpI I a b sp dp n a' = I a' := sI_ne h
theorem cp_in {I : Nat → Nat → Int32} {a b n j : Nat} (h : j < n) : cpI I a b 0 0 n b j = I a j := by
  rw [cpI_at, if_pos (by omega)]
  congr 1; omega
def scI (I : Nat → Nat → Int32) (t f : Nat) : Nat → Nat → Int32 :=
  let M0 := setI I t 0 (I f 0)
  let M1 := setI M0 t 1 (M0 f 1)
  let M2 := setI M1 t 2 (M1 f 2)
  let M3 := setI M2 t 3 (M2 f 3)
  let M4 := setI M3 t 4 (M3 f 4)
  let M5 := setI M4 t 5 (M4 f 5)
  let M6 := setI M5 t 6 (M5 f 6)
  let M7 := setI M6 t 7 (M6 f 7)
  let M8 := setI M7 t 8 (M7 f 8)
  setI M8 t 9 (M8 f 9)
theorem sc_out {I : Nat → Nat → Int32} {t f a : Nat} (h : a ≠ t) : scI I t f a = I a := by
  funext j
  unfold scI
  simp only [setI_at, h, false_and, if_false]
theorem sc_in {I : Nat → Nat → Int32} {t f j : Nat} (hn : f ≠ t) (h : j < 10) : scI I t f t j = I f j := by
  have hc : j = 0 ∨ j = 1 ∨ j = 2 ∨ j = 3 ∨ j = 4 ∨ j = 5 ∨ j = 6 ∨ j = 7 ∨ j = 8 ∨ j = 9 := by omega
  clear h
  unfold scI
  simp only [setI_at, hn, false_and, if_false, true_and]
  rcases hc with rfl | rfl | rfl | rfl | rfl | rfl | rfl | rfl | rfl | rfl <;> simp
def cyI (I : Nat → Nat → Int32) (t f : Nat) : Nat → Nat → Int32 :=
  cgI (cgI (cgI (cgI (cpI (cgI (cpI (scI I t f) (f + 1) (t + 1) 0 0 61) (t + 2) (f + 2) 9 12) (f + 13) (t + 13) 0 0 12) (t + 14) (f + 14) 5 6) (t + 20) (f + 20) 4 12) (t + 25) (f + 25) 4 12) (t + 30) (f + 30) 2 6
theorem cy_out {I : Nat → Nat → Int32} {t f a : Nat} (h : a < t ∨ t + 33 ≤ a) : cyI I t f a = I a := by
  unfold cyI
  rw [cg_out (by omega), cg_out (by omega), cg_out (by omega), cg_out (by omega), cp_out (by omega), cg_out (by omega), cp_out (by omega), sc_out (by omega)]
theorem RS_cy {I : Nat → Nat → Int32} {J : Nat → Nat → Int64} {t f : Nat} {v : am_V} (hd : f + 33 ≤ t ∨ t + 33 ≤ f) (hR : RS I J f v) (hP : nP v ≤ 12) (hC : nC v ≤ 6) (hD : nD v ≤ 12) (hO : nO v ≤ 12) (hL : nL v ≤ 6) : RS (cyI I t f) (cpL J (f + 12) (t + 12) 0 0 12) t v := by
  obtain ⟨⟨r0, r1, r2, r3, r4, r5, r6, r7, r8, r9⟩, ra, ⟨rp0, rp, rz⟩, ⟨rc0, rc⟩, ⟨rd0, rd⟩, ⟨ro0, ro⟩, ⟨rl0, rl⟩⟩ := hR
  have s0 : ∀ j, j < 10 → cyI I t f t j = I f j := fun j hj => by
    unfold cyI
    rw [cg_out (by omega), cg_out (by omega), cg_out (by omega), cg_out (by omega), cp_out (by omega), cg_out (by omega), cp_out (by omega), sc_in (by omega) hj]
  have s1 : ∀ j, j < 61 → cyI I t f (t + 1) j = I (f + 1) j := fun j hj => by
    unfold cyI
    rw [cg_out (by omega), cg_out (by omega), cg_out (by omega), cg_out (by omega), cp_out (by omega), cg_out (by omega), cp_in hj, sc_out (by omega)]
  have s2 : cyI I t f (t + 2) 0 = I (f + 2) 0 := by
    unfold cyI
    rw [cg_out (by omega), cg_out (by omega), cg_out (by omega), cg_out (by omega), cp_out (by omega), cg_in0, cp_out (by omega), sc_out (by omega)]
  have s3 : ∀ i j, 1 ≤ i → i ≤ 9 → j < 12 → cyI I t f (t + 2 + i) j = I (f + 2 + i) j := fun i j h1 h2 hj => by
    unfold cyI
    rw [cg_out (by omega), cg_out (by omega), cg_out (by omega), cg_out (by omega), cp_out (by omega), cg_in h1 h2 hj, cp_out (by omega), sc_out (by omega)]
  have s13 : ∀ j, j < 12 → cyI I t f (t + 13) j = I (f + 13) j := fun j hj => by
    unfold cyI
    rw [cg_out (by omega), cg_out (by omega), cg_out (by omega), cg_out (by omega), cp_in hj, cg_out (by omega), cp_out (by omega), sc_out (by omega)]
  have s14 : cyI I t f (t + 14) 0 = I (f + 14) 0 := by
    unfold cyI
    rw [cg_out (by omega), cg_out (by omega), cg_out (by omega), cg_in0, cp_out (by omega), cg_out (by omega), cp_out (by omega), sc_out (by omega)]
  have s15 : ∀ i j, 1 ≤ i → i ≤ 5 → j < 6 → cyI I t f (t + 14 + i) j = I (f + 14 + i) j := fun i j h1 h2 hj => by
    unfold cyI
    rw [cg_out (by omega), cg_out (by omega), cg_out (by omega), cg_in h1 h2 hj, cp_out (by omega), cg_out (by omega), cp_out (by omega), sc_out (by omega)]
  have s20 : cyI I t f (t + 20) 0 = I (f + 20) 0 := by
    unfold cyI
    rw [cg_out (by omega), cg_out (by omega), cg_in0, cg_out (by omega), cp_out (by omega), cg_out (by omega), cp_out (by omega), sc_out (by omega)]
  have s21 : ∀ i j, 1 ≤ i → i ≤ 4 → j < 12 → cyI I t f (t + 20 + i) j = I (f + 20 + i) j := fun i j h1 h2 hj => by
    unfold cyI
    rw [cg_out (by omega), cg_out (by omega), cg_in h1 h2 hj, cg_out (by omega), cp_out (by omega), cg_out (by omega), cp_out (by omega), sc_out (by omega)]
  have s25 : cyI I t f (t + 25) 0 = I (f + 25) 0 := by
    unfold cyI
    rw [cg_out (by omega), cg_in0, cg_out (by omega), cg_out (by omega), cp_out (by omega), cg_out (by omega), cp_out (by omega), sc_out (by omega)]
  have s26 : ∀ i j, 1 ≤ i → i ≤ 4 → j < 12 → cyI I t f (t + 25 + i) j = I (f + 25 + i) j := fun i j h1 h2 hj => by
    unfold cyI
    rw [cg_out (by omega), cg_in h1 h2 hj, cg_out (by omega), cg_out (by omega), cp_out (by omega), cg_out (by omega), cp_out (by omega), sc_out (by omega)]
  have s30 : cyI I t f (t + 30) 0 = I (f + 30) 0 := by
    unfold cyI
    rw [cg_in0, cg_out (by omega), cg_out (by omega), cg_out (by omega), cp_out (by omega), cg_out (by omega), cp_out (by omega), sc_out (by omega)]
  have s31 : ∀ i j, 1 ≤ i → i ≤ 2 → j < 6 → cyI I t f (t + 30 + i) j = I (f + 30 + i) j := fun i j h1 h2 hj => by
    unfold cyI
    rw [cg_in h1 h2 hj, cg_out (by omega), cg_out (by omega), cg_out (by omega), cp_out (by omega), cg_out (by omega), cp_out (by omega), sc_out (by omega)]
  have sj : ∀ j, j < 12 → cpL J (f + 12) (t + 12) 0 0 12 (t + 12) j = J (f + 12) j := fun j hj => by
    unfold cpL
    rw [sL_eq, pk_cpy_in (by omega) (by omega)]
    congr 1; omega
  refine ⟨⟨?_, ?_, ?_, ?_, ?_, ?_, ?_, ?_, ?_, ?_⟩, fun n hn => ?_, ⟨?_, fun k hk => ?_, fun k hk hk2 => ?_⟩, ⟨?_, fun k hk => ?_⟩, ⟨?_, fun k hk => ?_⟩, ⟨?_, fun k hk => ?_⟩, ⟨?_, fun k hk => ?_⟩⟩
  · exact (s0 0 (by omega)).trans r0
  · exact (s0 1 (by omega)).trans r1
  · exact (s0 2 (by omega)).trans r2
  · exact (s0 3 (by omega)).trans r3
  · exact (s0 4 (by omega)).trans r4
  · exact (s0 5 (by omega)).trans r5
  · exact (s0 6 (by omega)).trans r6
  · exact (s0 7 (by omega)).trans r7
  · exact (s0 8 (by omega)).trans r8
  · exact (s0 9 (by omega)).trans r9
  · exact (s1 n (by omega)).trans (ra n hn)
  · exact s2.trans rp0
  · obtain ⟨p1, p2, p3, p4, p5, p6, p7, p8, p9, p10, p11⟩ := rp k hk
    have hk : k < 12 := by omega
    exact ⟨(s3 1 k (by omega) (by omega) hk).trans p1, (s3 2 k (by omega) (by omega) hk).trans p2, (s3 3 k (by omega) (by omega) hk).trans p3, (s3 4 k (by omega) (by omega) hk).trans p4, (s3 5 k (by omega) (by omega) hk).trans p5, (s3 6 k (by omega) (by omega) hk).trans p6, (s3 7 k (by omega) (by omega) hk).trans p7, (s3 8 k (by omega) (by omega) hk).trans p8, (s3 9 k (by omega) (by omega) hk).trans p9, (sj k hk).trans p10, (s13 k hk).trans p11⟩
  · exact (s3 8 k (by omega) (by omega) hk2).trans (rz k hk hk2)
  · exact s14.trans rc0
  · obtain ⟨p1, p2, p3, p4, p5⟩ := rc k hk
    have hk : k < 6 := by omega
    exact ⟨(s15 1 k (by omega) (by omega) hk).trans p1, (s15 2 k (by omega) (by omega) hk).trans p2, (s15 3 k (by omega) (by omega) hk).trans p3, (s15 4 k (by omega) (by omega) hk).trans p4, (s15 5 k (by omega) (by omega) hk).trans p5⟩
  · exact s20.trans rd0
  · obtain ⟨p1, p2, p3, p4⟩ := rd k hk
    have hk : k < 12 := by omega
    exact ⟨(s21 1 k (by omega) (by omega) hk).trans p1, (s21 2 k (by omega) (by omega) hk).trans p2, (s21 3 k (by omega) (by omega) hk).trans p3, (s21 4 k (by omega) (by omega) hk).trans p4⟩
  · exact s25.trans ro0
  · obtain ⟨p1, p2, p3, p4⟩ := ro k hk
    have hk : k < 12 := by omega
    exact ⟨(s26 1 k (by omega) (by omega) hk).trans p1, (s26 2 k (by omega) (by omega) hk).trans p2, (s26 3 k (by omega) (by omega) hk).trans p3, (s26 4 k (by omega) (by omega) hk).trans p4⟩
  · exact s30.trans rl0
  · obtain ⟨p1, p2⟩ := rl k hk
    have hk : k < 6 := by omega
    exact ⟨(s31 1 k (by omega) (by omega) hk).trans p1, (s31 2 k (by omega) (by omega) hk).trans p2⟩
section C14
variable {E : Nat × (Nat → Int32)} {d : Nat} {I : Nat → Nat → Int32} {J : Nat → Nat → Int64} {A : Nat → Option Nat} {Q : Option Value → am_M → Prop} {M : am_M} {t f : Nat} {v : am_V}
theorem cA : am_cat [] ≤ 8 ∧ ¬ (iZ 0 : Int32) < 0 ∧ ¬ (iZ 0 : Int32) < 0 ∧ ¬ (iZ 12 : Int32) < 0 := by decide
theorem cB : (iZ 0 : Int32).toNatClampNeg + (iZ 12 : Int32).toNatClampNeg ≤ 12 ∧ (iZ 0 : Int32).toNatClampNeg + (iZ 12 : Int32).toNatClampNeg ≤ 12 := by decide
theorem cC : am_cat [] ≤ 8 ∧ ¬ (iZ 0 : Int32) < 0 ∧ ¬ (iZ 0 : Int32) < 0 ∧ ¬ (iZ 6 : Int32) < 0 := by decide
theorem cD : (iZ 0 : Int32).toNatClampNeg + (iZ 6 : Int32).toNatClampNeg ≤ 6 ∧ (iZ 0 : Int32).toNatClampNeg + (iZ 6 : Int32).toNatClampNeg ≤ 6 := by decide
theorem cE : am_cat [] ≤ 8 ∧ ¬ (iZ 0 : Int32) < 0 ∧ ¬ (iZ 0 : Int32) < 0 ∧ ¬ (iZ 61 : Int32) < 0 := by decide
theorem cF : (iZ 0 : Int32).toNatClampNeg + (iZ 61 : Int32).toNatClampNeg ≤ 61 ∧ (iZ 0 : Int32).toNatClampNeg + (iZ 61 : Int32).toNatClampNeg ≤ 61 := by decide
set_option maxHeartbeats 8000000 in
theorem c_cpL (hd : DS t f) (hQ : Q none (mm (cgI I (t + 30) (f + 30) 2 6) J A)) : wpC E (d + 1) 20 [.ref (t + 30), .ref (f + 30)] (mm I J A) Q := by
  have hs : f + 33 ≤ t ∨ t + 33 ≤ f := by unfold DS at hd; omega
  rw [cg_step (m := 1) rfl (by omega), cg_step (m := 0) rfl (by omega), ← cg_0] at hQ
  rcases hd with ⟨rfl, rfl | rfl | rfl | rfl⟩ | ⟨rfl, rfl | rfl | rfl | rfl⟩ <;> exact wc (hs := []) 60 (by decide) (And.intro (Nat.succ_pos _) (And.intro cC (And.intro cD (And.intro (Nat.succ_pos _) (And.intro cC (And.intro cD hQ))))))
set_option maxHeartbeats 8000000 in
theorem c_cpC (hd : DS t f) (hQ : Q none (mm (cgI I (t + 14) (f + 14) 5 6) J A)) : wpC E (d + 1) 17 [.ref (t + 14), .ref (f + 14)] (mm I J A) Q := by
  have hs : f + 33 ≤ t ∨ t + 33 ≤ f := by unfold DS at hd; omega
  rw [cg_step (m := 4) rfl (by omega), cg_step (m := 3) rfl (by omega), cg_step (m := 2) rfl (by omega), cg_step (m := 1) rfl (by omega), cg_step (m := 0) rfl (by omega), ← cg_0] at hQ
  rcases hd with ⟨rfl, rfl | rfl | rfl | rfl⟩ | ⟨rfl, rfl | rfl | rfl | rfl⟩
  all_goals (
    refine wc (hs := []) 60 (by decide) ?_
    refine And.intro (Nat.succ_pos _) (And.intro cC (And.intro cD ?_))
    refine And.intro (Nat.succ_pos _) (And.intro cC (And.intro cD ?_))
    refine And.intro (Nat.succ_pos _) (And.intro cC (And.intro cD ?_))
    refine And.intro (Nat.succ_pos _) (And.intro cC (And.intro cD ?_))
    exact And.intro (Nat.succ_pos _) (And.intro cC (And.intro cD hQ)))
set_option maxHeartbeats 8000000 in
theorem c_cpO {o : Nat} (hd : DS t f) (ho : o = 20 ∨ o = 25) (hQ : Q none (mm (cgI I (t + o) (f + o) 4 12) J A)) : wpC E (d + 1) 23 [.ref (t + o), .ref (f + o)] (mm I J A) Q := by
  have hs : f + 33 ≤ t ∨ t + 33 ≤ f := by unfold DS at hd; omega
  rw [cg_step (m := 3) rfl (by omega), cg_step (m := 2) rfl (by omega), cg_step (m := 1) rfl (by omega), cg_step (m := 0) rfl (by omega), ← cg_0] at hQ
  rcases ho with rfl | rfl
  all_goals (
    rcases hd with ⟨rfl, rfl | rfl | rfl | rfl⟩ | ⟨rfl, rfl | rfl | rfl | rfl⟩
    all_goals (
      refine wc (hs := []) 60 (by decide) ?_
      refine And.intro (Nat.succ_pos _) (And.intro cA (And.intro cB ?_))
      refine And.intro (Nat.succ_pos _) (And.intro cA (And.intro cB ?_))
      refine And.intro (Nat.succ_pos _) (And.intro cA (And.intro cB ?_))
      exact And.intro (Nat.succ_pos _) (And.intro cA (And.intro cB hQ))))
set_option maxHeartbeats 8000000 in
theorem c_cpP (hd : DS t f) (hQ : Q none (mm (cpI (cgI I (t + 2) (f + 2) 9 12) (f + 13) (t + 13) 0 0 12) (cpL J (f + 12) (t + 12) 0 0 12) A)) : wpC E (d + 1) 35 [.ref (t + 2), .ref (f + 2)] (mm I J A) Q := by
  have hs : f + 33 ≤ t ∨ t + 33 ≤ f := by unfold DS at hd; omega
  rw [cg_step (m := 8) rfl (by omega), cg_step (m := 7) rfl (by omega), cg_step (m := 6) rfl (by omega), cg_step (m := 5) rfl (by omega), cg_step (m := 4) rfl (by omega), cg_step (m := 3) rfl (by omega), cg_step (m := 2) rfl (by omega), cg_step (m := 1) rfl (by omega), cg_step (m := 0) rfl (by omega), ← cg_0] at hQ
  rcases hd with ⟨rfl, rfl | rfl | rfl | rfl⟩ | ⟨rfl, rfl | rfl | rfl | rfl⟩
  all_goals (
    refine wc (hs := []) 120 (by decide) ?_
    refine And.intro (Nat.succ_pos _) (And.intro cA (And.intro cB ?_))
    refine And.intro (Nat.succ_pos _) (And.intro cA (And.intro cB ?_))
    refine And.intro (Nat.succ_pos _) (And.intro cA (And.intro cB ?_))
    refine And.intro (Nat.succ_pos _) (And.intro cA (And.intro cB ?_))
    refine And.intro (Nat.succ_pos _) (And.intro cA (And.intro cB ?_))
    refine And.intro (Nat.succ_pos _) (And.intro cA (And.intro cB ?_))
    refine And.intro (Nat.succ_pos _) (And.intro cA (And.intro cB ?_))
    refine And.intro (Nat.succ_pos _) (And.intro cA (And.intro cB ?_))
    refine And.intro (Nat.succ_pos _) (And.intro cA (And.intro cB ?_))
    refine And.intro (Nat.succ_pos _) (And.intro cA (And.intro cB ?_))
    exact And.intro (Nat.succ_pos _) (And.intro cA (And.intro cB hQ)))
set_option maxHeartbeats 8000000 in
theorem c_copy (hd : DS t f) (hR : RS I J f v) (hW : Wf v) (hQ : ∀ I' J', RS I' J' t v → FR t (t + 33) I J I' J' → Q none (mm I' J' A)) : wpC E (d + 2) 81 [.ref t, .ref f] (mm I J A) Q := by
  have hs : f + 33 ≤ t ∨ t + 33 ≤ f := by unfold DS at hd; omega
  have hD : nD v ≤ 12 := by have := hW.1.2.2.2.2.2.2.2.2.2.2.1; unfold nD; omega
  have hO : nO v ≤ 12 := by have := hW.1.2.2.2.2.2.2.2.2.2.2.2.1; unfold nO; omega
  have hL : nL v ≤ 6 := by have := hW.1.2.2.2.2.2.2.2.2.2.2.2.2; unfold nL; omega
  have fin := hQ (cyI I t f) (cpL J (f + 12) (t + 12) 0 0 12) (RS_cy hs hR (nP12 hW) (nC6 hW) hD hO hL) (fun a ha => ⟨cy_out ha, by
    funext j
    unfold cpL
    rw [sL_ne (by omega)]⟩)
  have P : ∀ I1 J1 Q', Q' none (mm (cpI (cgI I1 (t + 2) (f + 2) 9 12) (f + 13) (t + 13) 0 0 12) (cpL J1 (f + 12) (t + 12) 0 0 12) A) → wpC E (d + 1) 35 [.ref (t + 2), .ref (f + 2)] (mm I1 J1 A) Q' := fun I1 J1 Q' h => c_cpP hd h
  have C : ∀ I1 J1 Q', Q' none (mm (cgI I1 (t + 14) (f + 14) 5 6) J1 A) → wpC E (d + 1) 17 [.ref (t + 14), .ref (f + 14)] (mm I1 J1 A) Q' := fun I1 J1 Q' h => c_cpC hd h
  have O1 : ∀ I1 J1 Q', Q' none (mm (cgI I1 (t + 20) (f + 20) 4 12) J1 A) → wpC E (d + 1) 23 [.ref (t + 20), .ref (f + 20)] (mm I1 J1 A) Q' := fun I1 J1 Q' h => c_cpO hd (Or.inl rfl) h
  have O2 : ∀ I1 J1 Q', Q' none (mm (cgI I1 (t + 25) (f + 25) 4 12) J1 A) → wpC E (d + 1) 23 [.ref (t + 25), .ref (f + 25)] (mm I1 J1 A) Q' := fun I1 J1 Q' h => c_cpO hd (Or.inr rfl) h
  have L : ∀ I1 J1 Q', Q' none (mm (cgI I1 (t + 30) (f + 30) 2 6) J1 A) → wpC E (d + 1) 20 [.ref (t + 30), .ref (f + 30)] (mm I1 J1 A) Q' := fun I1 J1 Q' h => c_cpL hd h
  have tail : wp E (d + 2) 81 8 [(0, .ref t), (1, .ref f)] [] (mm (setI I t 0 (I f 0)) J A) Q := by
    rcases hd with ⟨rfl, rfl | rfl | rfl | rfl⟩ | ⟨rfl, rfl | rfl | rfl | rfl⟩
    all_goals (
      refine wf (hs := []) 120 8 (by decide) ?_
      refine And.intro (Nat.succ_pos _) (And.intro cE (And.intro cF ?_))
      refine And.intro rfl (P _ _ _ (And.intro rfl (C _ _ _ (And.intro rfl (O1 _ _ _ (And.intro rfl (O2 _ _ _ (And.intro rfl (L _ _ _ ?_)))))))))
      exact fin)
  have hb1 : I f 0 = 1 := hR.1.1
  rw [hb1] at tail
  have h5 : wp E (d + 2) 81 5 [(0, .ref t), (1, .ref f)] [.int 1, .ref t] (mm I J A) Q := by
    rcases hd with ⟨rfl, rfl | rfl | rfl | rfl⟩ | ⟨rfl, rfl | rfl | rfl | rfl⟩ <;> exact wf (hs := [8]) 5 5 (by decide) tail
  rw [← hb1] at h5
  rcases hd with ⟨rfl, rfl | rfl | rfl | rfl⟩ | ⟨rfl, rfl | rfl | rfl | rfl⟩ <;> exact wc (hs := [5]) 10 (by decide) h5
end C14
