/-! ===== image, back told to both ===== -/
section IMG
variable {E : Nat × (Nat → Int32)} {d : Nat} {I I1 : Nat → Nat → Int32} {J J1 : Nat → Nat → Int64} {A A1 : Nat → Option Nat} {Q : Option Value → am_M → Prop} {M : am_M}
theorem Im_ne {I' : Nat → Nat → Int32} {J' : Nat → Nat → Int64} {k j : Nat} (hk : k < 4) (h : Im I J k) (h1 : I' 305 k = I 305 k) (h2 : imV I' k = imV I k) (h3 : ∀ a, 35 + 33 * k ≤ a → a < 35 + 33 * k + 33 → I' a = I a ∧ J' a = J a) (h4 : I 266 0 = 1 → I' 266 0 = 1) : Im I' J' k := by
  unfold Im at h ⊢
  rw [h1, h2, (h3 (35 + 33 * k) (by omega) (by omega)).1]
  rcases h with h | ⟨g1, g2, g3, g4, g5⟩
  · exact Or.inl h
  · exact Or.inr ⟨g1, g2, g3, RS_eq (fun a q1 q2 => h3 a (by omega) (by omega)) g4, g5.1, g5.2.1, h4 g5.2.2⟩
theorem op_image {k : Int} (h : Inv I J) (hz : ZO (mm I J A)) (hk : -2147483648 ≤ k ∧ k ≤ 2147483647) : wpC E (d + 3) 130 [.ref 0, .int (iZ k)] (mm I J A) (QI E (d + 3) 228 [.int (iZ k)]) := by
  have F : ¬ (I 266 0 = 1 ∧ 0 ≤ k ∧ k ≤ 3) → QI E (d + 3) 228 [.int (iZ k)] (some (.int (iZ (-1)))) (mm I J A) := fun q => by
    refine rd_mk h FS_refl (wc (hs := []) 40 (by decide) ?_)
    refine And.intro rfl (mW (z := k) (lo := 0) (hi := 3) (z_l (by omega) (by omega)) rfl rfl hk (by omega) (by omega) (fun g => wF (by decide) ?_) (fun g => wt rfl ⟨rfl, rfl⟩))
    exact And.intro rfl (m_isShip (fun p => absurd ⟨p, g⟩ q) (fun p => wt rfl ⟨rfl, rfl⟩))
  rcases h.1 with ⟨g0, g1⟩ | ⟨g0, hW, hH, hR, h8⟩
  · exact wc (hs := []) 20 (by decide) (wt g1 (F fun q => by rw [q.1] at g0; cases g0))
  · have b1 : ¬ I 1 0 = 0 := by have : I 1 0 = 1 := hR.1.1; rw [this]; decide
    refine wc (hs := []) 40 (by decide) (wF b1 ?_)
    refine And.intro rfl (cW (z := k) (lo := 0) (hi := 3) rfl rfl rfl hk (by omega) (by omega) (fun g => wF (by decide) ?_) (fun g => wt rfl (F fun q => g q.2)))
    obtain ⟨κ, hκ, rfl⟩ : ∃ κ : Nat, κ < 4 ∧ k = κ := ⟨k.toNat, by omega, by omega⟩
    have cc := wpC_zo hz (c_copy (E := E) (d := d) (A := A) (t := 35 + 33 * κ) (f := 1) (Q := fun r M => r = none ∧ ∃ I1 J1, M = mm I1 J1 A ∧ RS I1 J1 (35 + 33 * κ) (vC I) ∧ FR (35 + 33 * κ) (35 + 33 * κ + 33) I J I1 J1) (by unfold DS; omega) hR hW (fun I1 J1 q1 q2 => ⟨rfl, I1, J1, rfl, q1, q2⟩))
    have fin : ∀ I1 J1, RS I1 J1 (35 + 33 * κ) (vC I) → FR (35 + 33 * κ) (35 + 33 * κ + 33) I J I1 J1 → ZO (mm I1 J1 A) → QI E (d + 3) 228 [.int (iZ (κ : Int))] (some (.int (I1 1 8))) (mm I1 J1 A) := by
      intro I1 J1 hR1 hF1 hz1
      have hv : vC I1 = vC I := vC_eq (fun a h1 h2 => (hF1 a (by omega)).1)
      have e8 : I1 1 8 = iZ (vC I 266 8) := by rw [(hF1 1 (by omega)).1]; exact hR.1.2.2.2.2.2.2.2.2.1
      have g01 : I1 266 0 = 1 := by rw [(hF1 266 (by omega)).1]; exact g0
      rw [e8]
      refine QI_mk (wc (hs := []) 60 (by decide) ?_)
      refine And.intro rfl (mW (z := (κ : Int)) (lo := 0) (hi := 3) (z_l (by omega) (by omega)) rfl rfl hk (by omega) (by omega) (fun _ => wF (by decide) ?_) (fun q => absurd g q))
      refine And.intro rfl (m_isShip (fun p => wF (by decide) ?_) (fun p => absurd g01 p))
      have cl : (iZ (κ : Int)).toNatClampNeg = κ := z_cln (by omega)
      have hin : vp_in (iZ (κ : Int)) 4 := z_in (by omega) (by omega) (by omega)
      have hz2 : ZO (mm (setI I1 305 κ 1) J1 A) := by
        have := zo_ia (j := iZ (κ : Int)) (x := 1) hz1 (a := 305) (t := 3) (n := 4) rfl hin
        rw [cl] at this
        exact this
      have cf := m_carriesF (E := E) (d := d + 1) (I := setI I1 305 κ 1) (J := J1) (A := A) (k := κ) (x := iZ κ) (Q := fun r M => r = none ∧ ∃ I2, M = mm I2 J1 A ∧ I2 266 8 = iZ (vC I 266 8) ∧ Inv I2 J1) (by omega) rfl hz2 (fun I2 i1 i2 i3 i4 => ?_)
      · rw [← cl] at cf
        rw [cl] at cf
        refine And.intro hin (And.intro rfl ?_)
        have cf' : wpC E (d + 2) 227 [.ref 265, .int (iZ (κ : Int)), .int 0] (mm (setI I1 305 (iZ (κ : Int)).toNatClampNeg (vp_nar .boolean (iZ 1))) J1 A) (fun r M => r = none ∧ ∃ I2, M = mm I2 J1 A ∧ I2 266 8 = iZ (vC I 266 8) ∧ Inv I2 J1) := by
          rw [cl]; exact cf
        refine wpC_mono cf' (fun r M hh => ?_)
        obtain ⟨rfl, I2, rfl, e2, hI2⟩ := hh
        exact And.intro (inL (by decide)) ⟨congrArg (fun x => some (Value.int x)) e2, I2, J1, A, rfl, hI2⟩
      · have b305 : ∀ a, a ≠ 305 → setI I1 305 κ 1 a = I1 a := fun a ha => by funext j; rw [setI_at, if_neg (by omega)]
        have ee : ∀ a, (a < 35 + 33 * κ ∨ 35 + 33 * κ + 33 ≤ a) → a ≠ 304 → a ≠ 265 → a ≠ 305 → I2 a = I a ∧ J1 a = J a := fun a q1 q2 q3 q4 => ⟨(i3 a q2 q3).trans ((b305 a q4).trans (hF1 a q1).1), (hF1 a q1).2⟩
        have v2 : vC (setI I1 305 κ 1) = vC I := (vC_eq (fun a h1 h2 => b305 a (by omega))).trans hv
        have v3 : vC I2 = vC I := (vC_eq (I := setI I1 305 κ 1) (fun a h1 h2 => i3 a (by omega) (by omega))).trans v2
        have e5 : ∀ j, j ≠ 53 → j ≠ 54 → I2 265 j = I 265 j := fun j q1 q2 => by
          rw [i4 j q1 q2, b305 265 (by omega), (hF1 265 (by omega)).1]
        refine ⟨rfl, I2, rfl, ?_, ?_, ?_, ?_, ?_, ?_, ?_⟩
        · have : vI I2 266 8 = vC I 266 8 := by rw [← v3]; rfl
          rw [vI_eq I2 266 8, this]
        · unfold Vs
          rw [v3]
          exact Or.inr ⟨by rw [(ee 266 (by omega) (by omega) (by omega) (by omega)).1]; exact g0, hW, hH, RS_eq (fun a q1 q2 => ee a (by omega) (by omega) (by omega) (by omega)) hR, h8⟩
        · intro k' hk'
          by_cases hkk : k' = κ
          · subst hkk
            unfold Im
            rw [i1, v2]
            refine Or.inr ⟨?_, hW, hH, RS_eq (fun a q1 q2 => ⟨(i3 a (by omega) (by omega)).trans (b305 a (by omega)), rfl⟩) hR1, h8, vC_0 g0, by rw [(ee 266 (by omega) (by omega) (by omega) (by omega)).1]; exact g0⟩
            rw [i3 305 (by omega) (by omega), setI_at, if_pos ⟨rfl, rfl⟩]
          · refine Im_ne (j := 0) hk' (h.2.1 k' hk') ?_ ?_ (fun a q1 q2 => ee a (by omega) (by omega) (by omega) (by omega)) (fun q => by rw [(ee 266 (by omega) (by omega) (by omega) (by omega)).1]; exact q)
            · rw [i3 305 (by omega) (by omega), setI_at, if_neg (by omega), (hF1 305 (by omega)).1]
            · rw [i2 k' (by omega) hkk]
              refine imV_eq ?_
              rw [b305 304 (by omega), (hF1 304 (by omega)).1]
        · exact Tp_eq h.2.2.1 (by rw [(ee 0 (by omega) (by omega) (by omega) (by omega)).1]) (e5 27 (by omega) (by omega)) (ee 222 (by omega) (by omega) (by omega) (by omega)).1 (ee 290 (by omega) (by omega) (by omega) (by omega)).1
        · exact Pn_eq h.2.2.2.1 (by rw [(ee 0 (by omega) (by omega) (by omega) (by omega)).1]) (e5 31 (by omega) (by omega)) (fun a q => (ee a (by omega) (by omega) (by omega) (by omega)).1)
        · have m0 := h.2.2.2.2.1
          unfold M0 vI vJ at m0 ⊢
          rw [e5 25 (by omega) (by omega), (hF1 265 (by omega)).2]
          exact m0
        · rw [e5 36 (by omega) (by omega)]; exact h.2.2.2.2.2
    have hc : κ = 0 ∨ κ = 1 ∨ κ = 2 ∨ κ = 3 := by omega
    rcases hc with rfl | rfl | rfl | rfl
    all_goals (
      refine And.intro (inL (by decide)) ⟨_, rfl, ?_⟩
      refine And.intro rfl (wpC_mono cc (fun r M hh => ?_))
      obtain ⟨⟨rfl, I1, J1, rfl, hR1, hF1⟩, hz1⟩ := hh
      exact fin I1 J1 hR1 hF1 hz1)
theorem op_back {k : Int} (h : Inv I J) (hz : ZO (mm I J A)) (hk : -2147483648 ≤ k ∧ k ≤ 2147483647) : wpC E (d + 3) 131 [.ref 0, .int (iZ k)] (mm I J A) (QI E (d + 3) 229 [.int (iZ k)]) := by
  by_cases hr : 0 ≤ k ∧ k ≤ 3
  · obtain ⟨κ, hκ, rfl⟩ : ∃ κ : Nat, κ < 4 ∧ k = κ := ⟨k.toNat, by omega, by omega⟩
    have cl : (iZ (κ : Int)).toNatClampNeg = κ := z_cln (by omega)
    have hin : vp_in (iZ (κ : Int)) 4 := z_in (by omega) (by omega) (by omega)
    rcases h.2.1 κ hκ with ⟨e1, e2⟩ | ⟨e1, hW, hH, hR, h8, h0, -⟩
    · have F : QI E (d + 3) 229 [.int (iZ (κ : Int))] (some (.int (iZ (-1)))) (mm I J A) := by
        refine rd_mk h FS_refl (wc (hs := []) 40 (by decide) ?_)
        refine And.intro rfl (mW (z := (κ : Int)) (lo := 0) (hi := 3) (z_l (by omega) (by omega)) rfl rfl hk (by omega) (by omega) (fun g => wF (by decide) ?_) (fun q => absurd hr q))
        refine And.intro hin (wt ?_ ⟨rfl, rfl⟩)
        show I 305 (iZ (κ : Int)).toNatClampNeg = 0
        rw [cl]; exact e1
      refine wc (hs := []) 40 (by decide) (And.intro rfl ?_)
      refine wc (hs := []) 40 (by decide) (And.intro rfl (cW (z := (κ : Int)) (lo := 0) (hi := 3) rfl rfl rfl hk (by omega) (by omega) (fun g => wF (by decide) ?_) (fun q => absurd hr q)))
      have hc : κ = 0 ∨ κ = 1 ∨ κ = 2 ∨ κ = 3 := by omega
      rcases hc with rfl | rfl | rfl | rfl
      all_goals (
        refine And.intro (inL (by decide)) ⟨_, rfl, wt e2 (And.intro rfl (wt rfl F))⟩)
    · have cc := wpC_zo hz (c_copy (E := E) (d := d) (A := A) (t := 1) (f := 35 + 33 * κ) (Q := fun r M => r = none ∧ ∃ I1 J1, M = mm I1 J1 A ∧ RS I1 J1 1 (imV I κ) ∧ FR 1 34 I J I1 J1) (by unfold DS; omega) hR hW (fun I1 J1 q1 q2 => ⟨rfl, I1, J1, rfl, q1, q2⟩))
      have fin : ∀ I1 J1, RS I1 J1 1 (imV I κ) → FR 1 34 I J I1 J1 → ZO (mm I1 J1 A) → QI E (d + 3) 229 [.int (iZ (κ : Int))] (some (.int (I1 1 8))) (mm I1 J1 A) := by
        intro I1 J1 hR1 hF1 hz1
        have e8 : I1 1 8 = iZ (imV I κ 266 8) := hR1.1.2.2.2.2.2.2.2.2.1
        rw [e8]
        refine QI_mk (wc (hs := []) 60 (by decide) ?_)
        refine And.intro rfl (mW (z := (κ : Int)) (lo := 0) (hi := 3) (z_l (by omega) (by omega)) rfl rfl hk (by omega) (by omega) (fun _ => wF (by decide) ?_) (fun q => absurd hr q))
        refine And.intro hin (wF ?_ ?_)
        · show ¬ I1 305 (iZ (κ : Int)).toNatClampNeg = 0
          rw [cl, (hF1 305 (by omega)).1, e1]; decide
        refine And.intro rfl (m_carriesB (k := κ) (by omega) rfl hz1 (fun I2 i1 i3 i4 => And.intro (inL (by decide)) ?_))
        have iv : imV I1 κ = imV I κ := imV_eq (hF1 304 (by omega)).1
        rw [iv] at i1
        have ee : ∀ a, (a < 1 ∨ 34 ≤ a) → (a < 266 ∨ 289 < a) → a ≠ 265 → I2 a = I a ∧ J1 a = J a := fun a q1 q2 q3 => ⟨(i3 a q2 q3).trans (hF1 a q1).1, (hF1 a q1).2⟩
        have e5 : ∀ j, j ≠ 53 → j ≠ 54 → I2 265 j = I 265 j := fun j q1 q2 => by
          rw [i4 j q1 q2, (hF1 265 (by omega)).1]
        have s : ∀ j, vI I2 266 j = imV I κ 266 j := fun j => by rw [← i1]; rfl
        refine ⟨congrArg (fun x => some (Value.int x)) ((vI_eq I2 266 8).trans (congrArg iZ (s 8))), I2, J1, A, rfl, ?_, ?_, ?_, ?_, ?_, ?_⟩
        · unfold Vs
          rw [i1]
          refine Or.inr ⟨?_, hW, hH, RS_eq (fun a q1 q2 => ⟨i3 a (by omega) (by omega), rfl⟩) hR1, h8⟩
          rw [vI_eq I2 266 0, s 0, h0]; rfl
        · intro k' hk'
          exact Im_eq hk' (h.2.1 k' hk') (ee 305 (by omega) (by omega) (by omega)).1 (imV_eq (ee 304 (by omega) (by omega) (by omega)).1) (fun a q1 q2 => ee a (by omega) (by omega) (by omega)) (fun _ => by rw [vI_eq I2 266 0, s 0, h0]; rfl)
        · exact Tp_eq h.2.2.1 (by rw [(ee 0 (by omega) (by omega) (by omega)).1]) (e5 27 (by omega) (by omega)) (ee 222 (by omega) (by omega) (by omega)).1 (ee 290 (by omega) (by omega) (by omega)).1
        · exact Pn_eq h.2.2.2.1 (by rw [(ee 0 (by omega) (by omega) (by omega)).1]) (e5 31 (by omega) (by omega)) (fun a q => (ee a (by omega) (by omega) (by omega)).1)
        · have m0 := h.2.2.2.2.1
          unfold M0 vI vJ at m0 ⊢
          rw [e5 25 (by omega) (by omega), (hF1 265 (by omega)).2]
          exact m0
        · rw [e5 36 (by omega) (by omega)]; exact h.2.2.2.2.2
      have e2 : ¬ I (35 + 33 * κ) 0 = 0 := by have : I (35 + 33 * κ) 0 = 1 := hR.1.1; rw [this]; decide
      refine wc (hs := []) 40 (by decide) (And.intro rfl ?_)
      refine wc (hs := []) 40 (by decide) (And.intro rfl (cW (z := (κ : Int)) (lo := 0) (hi := 3) rfl rfl rfl hk (by omega) (by omega) (fun g => wF (by decide) ?_) (fun q => absurd hr q)))
      have hc : κ = 0 ∨ κ = 1 ∨ κ = 2 ∨ κ = 3 := by omega
      rcases hc with rfl | rfl | rfl | rfl
      all_goals (
        refine And.intro (inL (by decide)) ⟨_, rfl, wF e2 (And.intro rfl (wF (by decide) ?_))⟩
        refine And.intro (inL (by decide)) ⟨_, rfl, ?_⟩
        refine And.intro rfl (wpC_mono cc (fun r M hh => ?_))
        obtain ⟨⟨rfl, I1, J1, rfl, hR1, hF1⟩, hz1⟩ := hh
        exact fin I1 J1 hR1 hF1 hz1)
  · have F : QI E (d + 3) 229 [.int (iZ k)] (some (.int (iZ (-1)))) (mm I J A) := by
      refine rd_mk h FS_refl (wc (hs := []) 40 (by decide) ?_)
      exact And.intro rfl (mW (z := k) (lo := 0) (hi := 3) (z_l (by omega) (by omega)) rfl rfl hk (by omega) (by omega) (fun g => absurd g hr) (fun q => wt rfl ⟨rfl, rfl⟩))
    refine wc (hs := []) 40 (by decide) (And.intro rfl ?_)
    exact wc (hs := []) 40 (by decide) (And.intro rfl (cW (z := k) (lo := 0) (hi := 3) rfl rfl rfl hk (by omega) (by omega) (fun g => absurd g hr) (fun q => wt rfl (And.intro rfl (wt rfl F)))))
end IMG
