/-! ===== the reference: sums over places and cargo as longs; what turns her ===== -/
section M4
variable {E : Nat × (Nat → Int32)} {d : Nat} {I : Nat → Nat → Int32} {J : Nat → Nat → Int64} {A : Nat → Option Nat} {Q : Option Value → am_M → Prop} {M : am_M}
theorem m_allRuns {z : Int} (h : Wf (vI I)) (h0 : 0 ≤ z) (h1 : z ≤ 90) (hQ : Q (some (.long (lZ (rnsZ (vI I) z)))) (mm I J A)) : wpC E (d + 2) 164 [.ref 265, .int (iZ z)] (mm I J A) Q := by
  have hle := nP_le h.1
  refine wc (hs := [5]) 40 (by decide) ?_
  refine wp_pick [2, 3, 1, 0] [4, 2, 0, 1] [0, 1, 2, 4] rfl rfl (by decide) (by decide) ?_
  refine lpU (σ := Int64 × Int32) (fun _ s => wp E (d + 2) 164 5 [(0, .ref 265), (1, .int (iZ z)), (2, .long s.1), (4, .int s.2)] [] (mm I J A) Q) (fun i s => s.1 = lZ (sm i (fun k => runZ (vI I) k z)) ∧ s.2 = nI i) (nP (vI I)) ?_ ?_ 0 (0, 0) (by omega) ⟨rfl, rfl⟩
  · rintro ⟨x1, x2⟩ ⟨e1, e2⟩
    dsimp only at e1 e2
    refine wf (hs := [5]) 40 5 (by decide) ?_
    refine And.intro (inL (by decide)) (wt ?_ ?_)
    · show I 266 9 ≤ x2
      rw [I_nP h.1, e2]; exact Int32.le_refl _
    · exact q_l hQ e1
  · rintro i ⟨x1, x2⟩ hi ⟨e1, e2⟩ ih
    dsimp only at e1 e2
    refine wf (hs := [5]) 40 5 (by decide) ?_
    refine And.intro (inL (by decide)) (wF ?_ ?_)
    · show ¬ I 266 9 ≤ x2
      rw [I_nP h.1, e2]; exact nI_ge hi (by omega)
    · subst e2
      refine And.intro rfl (m_runs (by omega) (h.2.2.1 i hi) h0 h1 ?_)
      refine wp_pick [2, 3, 1, 0] [4, 2, 0, 1] [0, 1, 2, 4] rfl rfl (by decide) (by decide) ?_
      refine ih (x1 + lZ (runZ (vI I) i z), nI i + 1) ⟨?_, nI_1 i⟩
      show x1 + lZ _ = _
      rw [e1, lZ_add]; rfl
theorem m_asideNow (h : Wf (vI I)) (hQ : Q (some (.long (lZ (asdZ (vI I))))) (mm I J A)) : wpC E d 165 [.ref 265] (mm I J A) Q := by
  have hle := nP_le h.1
  have hlc := nC_le h.1
  refine wc (hs := [14, 54]) 60 (by decide) ?_
  refine And.intro (inL (by decide)) ?_
  refine wp_pick [2, 1, 0] [3, 1, 0] [0, 1, 3] rfl rfl (by decide) (by decide) ?_
  refine lpU (σ := Int64 × Int32) (fun _ s => wp E d 165 14 [(0, .ref 265), (1, .long s.1), (3, .int s.2)] [] (mm I J A) Q) (fun i s => s.1 = lZ (vI I 266 5 * 10 + sm i (fun k => vI I 276 k * vI I 275 k * 10)) ∧ s.2 = nI i) (nP (vI I)) ?_ ?_ 0 ((I 266 5).toInt64 * lZ 10, 0) (by omega) ⟨?_, rfl⟩
  · rintro ⟨x1, x2⟩ ⟨e1, e2⟩
    dsimp only at e1 e2
    refine wf (hs := [14, 54]) 60 14 (by decide) ?_
    refine And.intro (inL (by decide)) (wt ?_ ?_)
    · show I 266 9 ≤ x2
      rw [I_nP h.1, e2]; exact Int32.le_refl _
    · refine wp_pick [1, 2, 0] [3, 0, 1] [0, 1, 3] rfl rfl (by decide) (by decide) ?_
      refine lpU (σ := Int64 × Int32) (fun _ s => wp E d 165 54 [(0, .ref 265), (1, .long s.1), (3, .int s.2)] [] (mm I J A) Q) (fun i s => s.1 = lZ (vI I 266 5 * 10 + sm (nP (vI I)) (fun k => vI I 276 k * vI I 275 k * 10) + sm i (fun k => vI I 277 k * vI I 281 k * vI I 280 k * 10)) ∧ s.2 = nI i) (nC (vI I)) ?_ ?_ 0 (x1, 0) (by omega) ⟨?_, rfl⟩
      · rintro ⟨x1, x2⟩ ⟨e1, e2⟩
        dsimp only at e1 e2
        refine wf (hs := [14, 54]) 60 54 (by decide) ?_
        refine And.intro (inL (by decide)) (wt ?_ ?_)
        · show I 266 10 ≤ x2
          rw [I_nC h.1, e2]; exact Int32.le_refl _
        · exact q_l hQ e1
      · rintro i ⟨x1, x2⟩ hi ⟨e1, e2⟩ ih
        dsimp only at e1 e2
        subst e2
        have hin : vp_in (nI i) 6 := vp_in_nI (by omega) (by omega)
        refine wf (hs := [14, 54]) 60 54 (by decide) ?_
        refine And.intro (inL (by decide)) (wF ?_ ?_)
        · show ¬ I 266 10 ≤ nI i
          rw [I_nC h.1]; exact nI_ge hi (by omega)
        · refine And.intro hin (And.intro hin (And.intro hin ?_))
          refine wp_pick [2, 1, 0] [3, 1, 0] [0, 1, 3] rfl rfl (by decide) (by decide) ?_
          refine ih (x1 + (I 277 (nI i).toNatClampNeg * I 281 (nI i).toNatClampNeg * I 280 (nI i).toNatClampNeg).toInt64 * lZ 10, nI i + 1) ⟨?_, nI_1 i⟩
          obtain ⟨w1, w2, w3, w4, w5⟩ := h.2.2.2 i hi
          have p1 := mula (a := vI I 281 i) (b := vI I 277 i) (A := 1) (B := 9999) w5.1 w5.2 (by omega) w1.2 (by omega)
          have p2 : vI I 281 i * vI I 277 i = vI I 277 i * vI I 281 i := Int.mul_comm _ _
          have p3 := mula (a := vI I 277 i * vI I 281 i) (b := vI I 280 i) (A := 9999) (B := 200) (by omega) (by omega) w4.1 w4.2 (by omega)
          show x1 + (I 277 (nI i).toNatClampNeg * I 281 (nI i).toNatClampNeg * I 280 (nI i).toNatClampNeg).toInt64 * lZ 10 = _
          rw [e1, nIc (by omega), vI_eq I 277, vI_eq I 281, vI_eq I 280, iZ_mul, iZ_mul, iZ_l ⟨by omega, by omega⟩, lZ_mul, lZ_add]
          congr 1
          show _ = _ + (sm i (fun k => vI I 277 k * vI I 281 k * vI I 280 k * 10) + vI I 277 i * vI I 281 i * vI I 280 i * 10)
          omega
      · show x1 = lZ (_ + 0)
        rw [e1, Int.add_zero]
  · rintro i ⟨x1, x2⟩ hi ⟨e1, e2⟩ ih
    dsimp only at e1 e2
    subst e2
    have hin : vp_in (nI i) 12 := vp_in_nI (by omega) (by omega)
    refine wf (hs := [14, 54]) 60 14 (by decide) ?_
    refine And.intro (inL (by decide)) (wF ?_ ?_)
    · show ¬ I 266 9 ≤ nI i
      rw [I_nP h.1]; exact nI_ge hi (by omega)
    · refine And.intro hin (And.intro hin ?_)
      refine wp_pick [2, 1, 0] [3, 1, 0] [0, 1, 3] rfl rfl (by decide) (by decide) ?_
      refine ih (x1 + (I 276 (nI i).toNatClampNeg * I 275 (nI i).toNatClampNeg).toInt64 * lZ 10, nI i + 1) ⟨?_, nI_1 i⟩
      have w := h.2.2.1 i hi
      have cb := (capB w).2.2
      obtain ⟨w0, w1, w2, w3, w4, w5, w6⟩ := w
      have p1 := mula (a := vI I 275 i) (b := vI I 276 i) (A := 200) (B := 79920) w5.1 w5.2 w6.1 (by omega) (by omega)
      have p2 : vI I 275 i * vI I 276 i = vI I 276 i * vI I 275 i := Int.mul_comm _ _
      show x1 + (I 276 (nI i).toNatClampNeg * I 275 (nI i).toNatClampNeg).toInt64 * lZ 10 = _
      rw [e1, nIc (by omega), vI_eq I 276, vI_eq I 275, iZ_mul, iZ_l ⟨by omega, by omega⟩, lZ_mul, lZ_add]
      congr 1
      show _ = _ + (sm i (fun k => vI I 276 k * vI I 275 k * 10) + vI I 276 i * vI I 275 i * 10)
      omega
  · show (I 266 5).toInt64 * lZ 10 = lZ (_ + 0)
    rw [IL, lZ_mul, Int.add_zero]
theorem m_upward (h : Wf (vI I)) (hQ : Q (some (.long (lZ (upZ (vI I) (vJ J 265 26))))) (mm I J A)) : wpC E (d + 1) 161 [.ref 265] (mm I J A) Q := by
  have hle := nP_le h.1
  have hlc := nC_le h.1
  refine wc (hs := [23, 60]) 60 (by decide) ?_
  refine And.intro (inL (by decide)) (And.intro (inL (by decide)) ?_)
  refine wp_pick [2, 1, 0] [3, 1, 0] [0, 1, 3] rfl rfl (by decide) (by decide) ?_
  refine lpU (σ := Int64 × Int32) (fun _ s => wp E (d + 1) 161 23 [(0, .ref 265), (1, .long s.1), (3, .int s.2)] [] (mm I J A) Q) (fun i s => s.1 = lZ (vI I 266 2 * vI I 266 3 + vJ J 265 26 + sm i (fun k => vI I 277 k * vI I 278 k)) ∧ s.2 = nI i) (nC (vI I)) ?_ ?_ 0 ((I 266 2).toInt64 * (I 266 3).toInt64 + J 265 26, 0) (by omega) ⟨?_, rfl⟩
  · rintro ⟨x1, x2⟩ ⟨e1, e2⟩
    dsimp only at e1 e2
    refine wf (hs := [23, 60]) 60 23 (by decide) ?_
    refine And.intro (inL (by decide)) (wt ?_ ?_)
    · show I 266 10 ≤ x2
      rw [I_nC h.1, e2]; exact Int32.le_refl _
    · refine wp_pick [1, 2, 0] [3, 0, 1] [0, 1, 3] rfl rfl (by decide) (by decide) ?_
      refine lpU (σ := Int64 × Int32) (fun _ s => wp E (d + 1) 161 60 [(0, .ref 265), (1, .long s.1), (3, .int s.2)] [] (mm I J A) Q) (fun i s => s.1 = lZ (vI I 266 2 * vI I 266 3 + vJ J 265 26 + sm (nC (vI I)) (fun k => vI I 277 k * vI I 278 k) + sm i (fun k => vI I 276 k * (vI I 270 k + levZ (vI I) k / 2))) ∧ s.2 = nI i) (nP (vI I)) ?_ ?_ 0 (x1, 0) (by omega) ⟨?_, rfl⟩
      · rintro ⟨x1, x2⟩ ⟨e1, e2⟩
        dsimp only at e1 e2
        refine wf (hs := [23, 60]) 60 60 (by decide) ?_
        refine And.intro (inL (by decide)) (wt ?_ ?_)
        · show I 266 9 ≤ x2
          rw [I_nP h.1, e2]; exact Int32.le_refl _
        · exact q_l hQ e1
      · rintro i ⟨x1, x2⟩ hi ⟨e1, e2⟩ ih
        dsimp only at e1 e2
        subst e2
        have hin : vp_in (nI i) 12 := vp_in_nI (by omega) (by omega)
        have w := h.2.2.1 i hi
        refine wf (hs := [23, 60]) 60 60 (by decide) ?_
        refine And.intro (inL (by decide)) (wF ?_ ?_)
        · show ¬ I 266 9 ≤ nI i
          rw [I_nP h.1]; exact nI_ge hi (by omega)
        · refine And.intro hin (And.intro hin (And.intro rfl (m_level (by omega) w (And.intro (by decide) ?_))))
          refine wp_pick [2, 1, 0] [3, 1, 0] [0, 1, 3] rfl rfl (by decide) (by decide) ?_
          refine ih (x1 + (I 276 (nI i).toNatClampNeg).toInt64 * (I 270 (nI i).toNatClampNeg + iZ (levZ (vI I) i) / iZ 2).toInt64, nI i + 1) ⟨?_, nI_1 i⟩
          have l := levB w
          obtain ⟨w0, w1, w2, w3, w4, w5, w6⟩ := w
          show x1 + (I 276 (nI i).toNatClampNeg).toInt64 * (I 270 (nI i).toNatClampNeg + iZ (levZ (vI I) i) / iZ 2).toInt64 = _
          rw [e1, nIc (by omega), IL, vI_eq I 270, iZ_div ⟨by omega, by omega⟩ ⟨by omega, by omega⟩, Int.tdiv_eq_ediv_of_nonneg l.1, iZ_add, iZ_l ⟨by omega, by omega⟩, lZ_mul, lZ_add]
          congr 1
          show _ = _ + (sm i (fun k => vI I 276 k * (vI I 270 k + levZ (vI I) k / 2)) + vI I 276 i * (vI I 270 i + levZ (vI I) i / 2))
          omega
      · show x1 = lZ (_ + 0)
        rw [e1, Int.add_zero]
  · rintro i ⟨x1, x2⟩ hi ⟨e1, e2⟩ ih
    dsimp only at e1 e2
    subst e2
    have hin : vp_in (nI i) 6 := vp_in_nI (by omega) (by omega)
    refine wf (hs := [23, 60]) 60 23 (by decide) ?_
    refine And.intro (inL (by decide)) (wF ?_ ?_)
    · show ¬ I 266 10 ≤ nI i
      rw [I_nC h.1]; exact nI_ge hi (by omega)
    · refine And.intro hin (And.intro hin ?_)
      refine wp_pick [2, 1, 0] [3, 1, 0] [0, 1, 3] rfl rfl (by decide) (by decide) ?_
      refine ih (x1 + (I 277 (nI i).toNatClampNeg).toInt64 * (I 278 (nI i).toNatClampNeg).toInt64, nI i + 1) ⟨?_, nI_1 i⟩
      show x1 + (I 277 (nI i).toNatClampNeg).toInt64 * (I 278 (nI i).toNatClampNeg).toInt64 = _
      rw [e1, nIc (by omega), IL, IL, lZ_mul, lZ_add]
      congr 1
      show _ = _ + (sm i (fun k => vI I 277 k * vI I 278 k) + vI I 277 i * vI I 278 i)
      omega
  · show (I 266 2).toInt64 * (I 266 3).toInt64 + J 265 26 = lZ (_ + 0)
    rw [IL, IL, lZ_mul, vJ_eq J, lZ_add, Int.add_zero]
end M4
