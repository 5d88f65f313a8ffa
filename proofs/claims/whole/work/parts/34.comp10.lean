/-! ===== a round ===== -/
noncomputable section
def clZ (g : Nat → Nat → Int) (v : am_V) (i : Nat) : am_V := @ite _ (tstZ g v i) (Classical.propDecidable _) (doZ g v i) v
def clsN (g : Nat → Nat → Int) (v : am_V) : Nat → am_V
  | 0 => v
  | n + 1 => clZ g (clsN g v n) n
def rd1 (g : Nat → Nat → Int) (v : am_V) : am_V := clsN g v (g 0 0).toNat
def rd2 (v : am_V) : am_V := drsN v (nD v)
def rd3 (v : am_V) : am_V := ptsN v (nO v)
def rd4 (v : am_V) : am_V := sldN v (nC v)
def rd5 (v : am_V) : am_V := vset (vset v 266 7 (wkN (trnZ v 0 0 (asdZ v)) 3 (v 266 7))) 266 8 (v 266 8 + 1)
def rndZ (g : Nat → Nat → Int) (v : am_V) : am_V := if v 266 7 = 60 ∨ v 266 7 = -60 then vset v 266 8 (v 266 8 + 1) else rd5 (rd4 (rd3 (rd2 (rd1 g v))))
end
theorem clZ_pos {g : Nat → Nat → Int} {v : am_V} {i : Nat} (h : tstZ g v i) : clZ g v i = doZ g v i := if_pos h
theorem clZ_neg {g : Nat → Nat → Int} {v : am_V} {i : Nat} (h : ¬ tstZ g v i) : clZ g v i = v := if_neg h
theorem Wf_cl {g : Nat → Nat → Int} {v : am_V} {i : Nat} (h : Wf v) (hH : WfH v) (hg : WfGi g i) : Wf (clZ g v i) ∧ WfH (clZ g v i) := by
  by_cases q : tstZ g v i
  · rw [clZ_pos q]; exact Wf_do h hH hg
  · rw [clZ_neg q]; exact ⟨h, hH⟩
theorem Wf_cls {g : Nat → Nat → Int} {v : am_V} {n : Nat} (h : Wf v) (hH : WfH v) (hg : ∀ i, i < n → WfGi g i) : Wf (clsN g v n) ∧ WfH (clsN g v n) := by
  induction n with
  | zero => exact ⟨h, hH⟩
  | succ n ih =>
    have i := ih (fun i hi => hg i (by omega))
    exact Wf_cl i.1 i.2 (hg n (by omega))
theorem cls_sc {g : Nat → Nat → Int} {v : am_V} {n k : Nat} (h : k ≠ 5) (h' : k ≠ 6) : clsN g v n 266 k = v 266 k := by
  induction n with
  | zero => rfl
  | succ n ih =>
    show clZ g (clsN g v n) n 266 k = _
    by_cases q : tstZ g (clsN g v n) n
    · rw [clZ_pos q, do_sc h h']; exact ih
    · rw [clZ_neg q]; exact ih
theorem rd1_sc {g : Nat → Nat → Int} {v : am_V} {k : Nat} (h : k ≠ 5) (h' : k ≠ 6) : rd1 g v 266 k = v 266 k := cls_sc h h'
theorem rd2_sc {v : am_V} {k : Nat} : rd2 v 266 k = v 266 k := drs_ne (by decide)
theorem rd3_sc {v : am_V} {k : Nat} : rd3 v 266 k = v 266 k := pts_ne (by decide)
theorem rd4_sc {v : am_V} {k : Nat} : rd4 v 266 k = v 266 k := sld_ne (by decide)
theorem rd14_sc {g : Nat → Nat → Int} {v : am_V} {k : Nat} (h : k ≠ 5) (h' : k ≠ 6) : rd4 (rd3 (rd2 (rd1 g v))) 266 k = v 266 k := by
  rw [rd4_sc, rd3_sc, rd2_sc, rd1_sc h h']
theorem Wf_rd {g : Nat → Nat → Int} {v : am_V} (h : Wf v) (hH : WfH v) (hg : WfG g) : (Wf (rd1 g v) ∧ WfH (rd1 g v)) ∧ (Wf (rd2 (rd1 g v)) ∧ WfH (rd2 (rd1 g v))) ∧ (Wf (rd3 (rd2 (rd1 g v))) ∧ WfH (rd3 (rd2 (rd1 g v)))) ∧ (Wf (rd4 (rd3 (rd2 (rd1 g v)))) ∧ WfH (rd4 (rd3 (rd2 (rd1 g v))))) := by
  have a1 := Wf_cls (n := (g 0 0).toNat) h hH hg.2
  have a2 := Wf_drs a1.1 a1.2 (Nat.le_refl _)
  have a3 := Wf_pts a2.1 a2.2 (Nat.le_refl _)
  exact ⟨a1, a2, a3, Wf_sld a3.1, WfH_281 a3.2 (fun a i h => sld_ne h)⟩
theorem wkN_rng {t : Int → Int} {n : Nat} {z : Int} (h : -60 ≤ z ∧ z ≤ 60) : -60 ≤ wkN t n z ∧ wkN t n z ≤ 60 := by
  unfold wkN
  split
  · exact wlk_rng (Or.inl rfl) _ _ h
  · exact wlk_rng (Or.inr rfl) _ _ h
theorem Wf_rd5 {v : am_V} (h : Wf v) (hH : WfH v) (hr : v 266 8 < 99999) : Wf (rd5 v) ∧ WfH (rd5 v) := by
  have r8 := h.1.2.2.2.2.2.2.2.1
  have r7 := h.1.2.2.2.2.2.2.1
  refine ⟨Wf_sc (Wf_sc h (Or.inr (Or.inr (Or.inl ⟨rfl, wkN_rng r7⟩)))) (Or.inr (Or.inr (Or.inr ⟨rfl, by omega, by omega⟩))), WfH_sc (WfH_sc hH (by omega)) (by omega)⟩
theorem Wf_rnd {g : Nat → Nat → Int} {v : am_V} (h : Wf v) (hH : WfH v) (hg : WfG g) (hr : v 266 8 < 99999) : Wf (rndZ g v) ∧ WfH (rndZ g v) := by
  have r8 := h.1.2.2.2.2.2.2.2.1
  unfold rndZ
  split
  · exact ⟨Wf_sc h (Or.inr (Or.inr (Or.inr ⟨rfl, by omega, by omega⟩))), WfH_sc hH (by omega)⟩
  · have w := (Wf_rd h hH hg).2.2.2
    exact Wf_rd5 w.1 w.2 (by rw [rd14_sc (by decide) (by decide)]; exact hr)
theorem rnd_8 {g : Nat → Nat → Int} {v : am_V} : rndZ g v 266 8 = v 266 8 + 1 := by
  unfold rndZ
  split
  · exact vset_eq
  · show rd4 (rd3 (rd2 (rd1 g v))) 266 8 + 1 = _
    rw [rd14_sc (by decide) (by decide)]
section C12
variable {E : Nat × (Nat → Int32)} {d : Nat} {I : Nat → Nat → Int32} {J : Nat → Nat → Int64} {A : Nat → Option Nat} {Q : Option Value → am_M → Prop} {M : am_M} {β b : Nat} {v : am_V} {mw mu mom : Int}
theorem plV_F2 {ρ π : Nat} {I' : Nat → Nat → Int32} {J' : Nat → Nat → Int64} (hr : RhS ρ b) (hp : PP π) (h : F2 ρ b I J I' J') : plV I' π 0 = plV I π 0 ∧ plV I' π 1 = plV I π 1 ∧ plV I' π 2 = plV I π 2 ∧ plV I' π 3 = plV I π 3 ∧ plV I' π 4 = plV I π 4 ∧ plV I' π 5 = plV I π 5 ∧ plV I' π 6 = plV I π 6 ∧ plV I' π 7 = plV I π 7 ∧ plV I' π 8 = plV I π 8 := by
  have k : ∀ j, j < 9 → plV I' π j = plV I π j := fun j hj => by
    funext i
    unfold plV vI
    rw [(h (π + j) (by unfold RhS B5 at hr; unfold PP at hp; omega) (by unfold RhS at hr; unfold PP at hp; omega)).1]
  exact ⟨k 0 (by omega), k 1 (by omega), k 2 (by omega), k 3 (by omega), k 4 (by omega), k 5 (by omega), k 6 (by omega), k 7 (by omega), k 8 (by omega)⟩
/-- a plan's rows alone count -/
def Ge (g g' : Nat → Nat → Int) : Prop := g' 0 = g 0 ∧ g' 1 = g 1 ∧ g' 2 = g 2 ∧ g' 3 = g 3 ∧ g' 4 = g 4 ∧ g' 5 = g 5 ∧ g' 6 = g 6 ∧ g' 7 = g 7 ∧ g' 8 = g 8
theorem Ge_gi {g g' : Nat → Nat → Int} {i : Nat} (h : Ge g g') (hg : WfGi g i) : WfGi g' i := by
  obtain ⟨e0, e1, e2, e3, e4, e5, e6, e7, e8⟩ := h
  unfold WfGi
  rw [e1, e2, e3, e4, e5, e6, e7, e8]
  exact hg
theorem Ge_ts {g g' : Nat → Nat → Int} {i : Nat} (h : Ge g g') : tstZ g' v i = tstZ g v i := by
  obtain ⟨e0, e1, e2, e3, e4, e5, e6, e7, e8⟩ := h
  unfold tstZ segL
  rw [e6, e7, e8]
theorem Ge_do {g g' : Nat → Nat → Int} {i : Nat} (h : Ge g g') : doZ g' v i = doZ g v i := by
  obtain ⟨e0, e1, e2, e3, e4, e5, e6, e7, e8⟩ := h
  unfold doZ segL
  rw [e1, e2, e3, e4, e5, e6, e8]
set_option maxHeartbeats 8000000 in
theorem c_go {ρ π : Nat} (hr : RhS ρ b) (hp : PP π) (hR : RS I J b v) (hW : Wf v) (hH : WfH v) (hg : WfG (plV I π)) (h8 : v 266 8 < 99999) (hQ : ∀ I' J' A', RS I' J' b (rndZ (plV I π) v) → F2 ρ b I J I' J' → Q none (mm I' J' A')) : wpC E (d + 5) 59 [.ref ρ, .ref b, .ref π] (mm I J A) Q := by
  have hb := RhS_B5 hr
  have hbs := RhS_BS hr
  have rr : ρ = 240 ∨ ρ = 255 := by unfold RhS at hr; omega
  have pe : ∀ I' J', F2 ρ b I J I' J' → Ge (plV I π) (plV I' π) := fun I' J' h => plV_F2 hr hp h
  have w := Wf_rd (v := v) hW hH hg
  generalize hpl : plV I π = g at hg hQ pe w
  have g00 : ∀ I' J', F2 ρ b I J I' J' → I' π 0 = iZ (g 0 0) := fun I' J' h => by
    have := (pe I' J' h).1
    rw [← this]; exact vI_eq I' _ _
  have w4 := w.2.2.2
  have l4 := w4.1.1.2.2.2.2.2.2.1
  have r8 := hW.1.2.2.2.2.2.2.2.1
  have ab := asdB w4.1
  have over : v 266 7 = 60 ∨ v 266 7 = -60 → wp E (d + 5) 59 123 [(0, .ref ρ), (1, .ref b), (2, .ref π)] [] (mm I J A) Q := by
    intro h
    have e8 := hR.1.2.2.2.2.2.2.2.2.1
    have ev : I b 8 + Int32.ofInt 1 = iZ (v 266 8 + 1) := by rw [e8]; exact iZ_add _ _
    have fin := hQ (setI I b 8 (I b 8 + Int32.ofInt 1)) J A (by unfold rndZ; rw [if_pos h]; exact RS_sc (by omega) ev hR) (Fr_F2 Fr_set)
    rcases id hb with rfl | rfl | rfl | rfl | rfl <;> exact wf (hs := []) 20 123 (by decide) fin
  by_cases hov : v 266 7 = 60 ∨ v 266 7 = -60
  · refine wc (hs := [123]) 20 (by decide) ?_
    refine And.intro ?_ (c_isOver hb hR hW (fun _ => ?_) (fun h => absurd hov h))
    · rcases id hb with rfl | rfl | rfl | rfl | rfl <;> rfl
    · refine wF (by decide) ?_
      exact over hov
  · have S88 : ∀ I1 J1 A1 x3, RS I1 J1 b (rd3 (rd2 (rd1 g v))) → F2 ρ b I J I1 J1 → wp E (d + 5) 59 88 [(0, .ref ρ), (1, .ref b), (2, .ref π), (3, .int x3)] [] (mm I1 J1 A1) Q := by
      intro I1 J1 A1 x3 hR1 hF1
      have e7 := hR1.1.2.2.2.2.2.2.2.1
      have key : ∀ I2, RS I2 J1 b (rd4 (rd3 (rd2 (rd1 g v)))) → Fr b I1 I2 → wp E (d + 5) 59 99 [(0, .ref ρ), (1, .ref b), (2, .ref π), (3, .int x3)] [] (mm I2 J1 A1) Q := by
        intro I2 hR2 hF2
        have key2 : ∀ I3 J3 A3, RB I3 J3 A3 (ρ + 1) b (rd4 (rd3 (rd2 (rd1 g v)))) 0 0 (asdZ (rd4 (rd3 (rd2 (rd1 g v))))) → FB (ρ + 1) I2 J1 A1 I3 J3 A3 → wp E (d + 5) 59 107 [(0, .ref ρ), (1, .ref b), (2, .ref π), (3, .int x3)] [] (mm I3 J3 A3) Q := by
          intro I3 J3 A3 hRB hFB
          have hF3 := F2_trans (F2_trans hF1 (Fr_F2 (ρ := ρ) (J := J1) hF2)) (FR_F2 (b := b) (FB_FR hFB))
          have hR3 := RS_FR hr (FB_FR hFB) hR2
          have e7' := hR3.1.2.2.2.2.2.2.2.1
          obtain ⟨Z, hZ⟩ : ∃ Z, Z = wkN (trnZ (rd4 (rd3 (rd2 (rd1 g v)))) 0 0 (asdZ (rd4 (rd3 (rd2 (rd1 g v)))))) 3 (rd4 (rd3 (rd2 (rd1 g v))) 266 7) := ⟨_, rfl⟩
          have hRz := RS_sc (j := 7) (z := Z) (by omega) rfl hR3
          have e8 : setI I3 b 7 (iZ Z) b 8 = iZ (rd4 (rd3 (rd2 (rd1 g v))) 266 8) := hRz.1.2.2.2.2.2.2.2.2.1
          have fin := hQ (setI (setI I3 b 7 (iZ Z)) b 8 (setI I3 b 7 (iZ Z) b 8 + Int32.ofInt 1)) J3 A3 (by
            unfold rndZ
            rw [if_neg hov]
            unfold rd5
            rw [← hZ]
            exact RS_sc (j := 8) (z := rd4 (rd3 (rd2 (rd1 g v))) 266 8 + 1) (by omega) (by rw [e8]; exact iZ_add _ 1) hRz) (F2_trans hF3 (Fr_F2 (fun a ha => by
              funext k
              rw [setI_at, if_neg (by omega), setI_at, if_neg (by omega)])))
          have rc := c_restFrom (E := E) (d := d + 1) (z := rd4 (rd3 (rd2 (rd1 g v))) 266 7) (N := 3) (x := I3 b 7) (y := iZ 3) (Q := fun r M => r = some (.int (iZ Z)) ∧ M = mm I3 J3 A3) hbs hRB w4.1 WW0 ⟨by omega, by omega⟩ (by omega) l4 e7' rfl ⟨by rw [hZ], rfl⟩
          rcases id rr with rfl | rfl
          all_goals (
            rcases id hb with rfl | rfl | rfl | rfl | rfl
            all_goals (
              refine wf (hs := []) 30 107 (by decide) ?_
              refine And.intro rfl (wpC_mono rc (fun r M1 h => ?_))
              obtain ⟨rfl, rfl⟩ := h
              exact fin))
        rcases id rr with rfl | rfl
        all_goals (
          refine wf (hs := [107]) 20 99 (by decide) ?_
          refine And.intro rfl (c_take hbs w4.1 hR2 (fun I3 J3 A3 hRB hFB => ?_))
          exact key2 I3 J3 A3 hRB hFB)
      have gw := c_giveWay (E := E) (d := d + 3) (A := A1) (x := I1 b 7) (Q := fun r M => r = none ∧ wp E (d + 5) 59 99 [(0, .ref ρ), (1, .ref b), (2, .ref π), (3, .int x3)] [] M Q) hb hR1 w.2.2.1.1 e7 (fun I2 hR2 hF2 => ⟨rfl, key I2 hR2 hF2⟩)
      rcases id hb with rfl | rfl | rfl | rfl | rfl
      all_goals (
        refine wf (hs := [99]) 20 88 (by decide) ?_
        refine And.intro rfl (wpC_mono gw (fun r M1 h => ?_))
        obtain ⟨rfl, h⟩ := h
        exact h)
    have n3 : nO (rd2 (rd1 g v)) ≤ 12 := by have := w.2.1.1.1.2.2.2.2.2.2.2.2.2.2.2.1; unfold nO; omega
    have n2 : nD (rd1 g v) ≤ 12 := by have := w.1.1.1.2.2.2.2.2.2.2.2.2.2.1; unfold nD; omega
    have S66 : ∀ I1 J1 A1, RS I1 J1 b (rd2 (rd1 g v)) → F2 ρ b I J I1 J1 → wp E (d + 5) 59 66 [(0, .ref ρ), (1, .ref b), (2, .ref π), (3, .int (iZ 0))] [] (mm I1 J1 A1) Q := by
      intro I1 J1 A1 hR1 hF1
      have ne : ∀ i, nO (ptsN (rd2 (rd1 g v)) i) = nO (rd2 (rd1 g v)) := fun i => by unfold nO; rw [pts_ne (by decide)]
      have L := lpU (σ := (Nat → Nat → Int32) × Int32) (fun _ s => wp E (d + 5) 59 66 [(0, .ref ρ), (1, .ref b), (2, .ref π), (3, .int s.2)] [] (mm s.1 J1 A1) Q) (fun i s => (RS s.1 J1 b (ptsN (rd2 (rd1 g v)) i) ∧ F2 ρ b I J s.1 J1) ∧ s.2 = iZ i) (nO (rd2 (rd1 g v))) ?_ ?_
      · exact L 0 (I1, _) (by omega) ⟨⟨hR1, hF1⟩, rfl⟩
      · rintro ⟨I', x3⟩ ⟨⟨hR', hF'⟩, e3⟩
        dsimp only at hR' hF' e3
        subst e3
        have c0 : I' (b + 25) 0 ≤ iZ (nO (rd2 (rd1 g v)) : Int) := by have := hR'.2.2.2.2.2.1.1; rw [ne] at this; exact Int32.le_of_eq this
        have go := S88 I' J1 A1 (iZ (nO (rd2 (rd1 g v)) : Int)) hR' hF'
        rcases id hb with rfl | rfl | rfl | rfl | rfl
        all_goals (
          refine wf (hs := [66, 88]) 20 66 (by decide) ?_
          exact wt c0 go)
      · rintro i ⟨I', x3⟩ hi ⟨⟨hR', hF'⟩, e3⟩ ih
        dsimp only at hR' hF' e3
        subst e3
        have wi := Wf_pts (n := i) w.2.1.1 w.2.1.2 (by omega)
        have c0 : ¬ I' (b + 25) 0 ≤ iZ (i : Int) := by
          have := hR'.2.2.2.2.2.1.1
          rw [ne] at this
          rw [this]; ((try simp (disch := omega) only [z_i8, z_i16, z_of, z_ofN, z_lofN, z_0, z_1, z_m1, z_l0, z_l1, iZ_add, iZ_sub, iZ_mul, iZ_neg, lZ_add, lZ_sub, lZ_mul, lZ_neg, z_div, z_ldiv, z_l, z_i, z_lt, z_le, z_eq, z_llt, z_lle, z_leq, z_cgt, z_cge, z_clt, z_cle, z_ceq, z_cl, z_nat, Int.toNat_natCast, mm_I, mm_J, z_cln, z_abs, z_max, z_min, z_lmax, z_lmin, z_sin, Int.cast_ofNat_Int, uI_I, uI_J, uL_I, uL_J, uA_I, uA_J, sI_eq, sI_ne, sL_eq, sL_ne, up_eq, up_ne, uL_eq, uL_ne, z_toInt]) <;> omega)
        have lo := c_letOut (E := E) (d := d) (A := A1) (k := i) (x := iZ i) (Q := fun r M => r = none ∧ ∃ I2, M = mm I2 J1 A1 ∧ RS I2 J1 b (ptsN (rd2 (rd1 g v)) (i + 1)) ∧ F2 ρ b I J I2 J1) hb hR' wi.1 wi.2 (by rw [ne]; exact hi) rfl (fun I2 hR2 hF2 => ⟨rfl, I2, rfl, hR2, F2_trans hF' (Fr_F2 hF2)⟩)
        rcases id hb with rfl | rfl | rfl | rfl | rfl
        all_goals (
          refine wf (hs := [66, 88]) 20 66 (by decide) ?_
          refine wF c0 (And.intro rfl (wpC_mono lo (fun r M1 h => ?_)))
          obtain ⟨rfl, I2, rfl, hR2, hF2⟩ := h
          refine wp_keys [0, 1, 2, 3] rfl rfl ?_
          exact ih (I2, _) ⟨⟨hR2, hF2⟩, iZ_add i 1⟩)
    have S42 : ∀ I1 J1 A1, RS I1 J1 b (rd1 g v) → F2 ρ b I J I1 J1 → wp E (d + 5) 59 42 [(0, .ref ρ), (1, .ref b), (2, .ref π), (3, .int (iZ 0))] [] (mm I1 J1 A1) Q := by
      intro I1 J1 A1 hR1 hF1
      have ne : ∀ i, nD (drsN (rd1 g v) i) = nD (rd1 g v) := fun i => by unfold nD; rw [drs_ne (by decide)]
      have L := lpU (σ := (Nat → Nat → Int32) × Int32) (fun _ s => wp E (d + 5) 59 42 [(0, .ref ρ), (1, .ref b), (2, .ref π), (3, .int s.2)] [] (mm s.1 J1 A1) Q) (fun i s => (RS s.1 J1 b (drsN (rd1 g v) i) ∧ F2 ρ b I J s.1 J1) ∧ s.2 = iZ i) (nD (rd1 g v)) ?_ ?_
      · exact L 0 (I1, _) (by omega) ⟨⟨hR1, hF1⟩, rfl⟩
      · rintro ⟨I', x3⟩ ⟨⟨hR', hF'⟩, e3⟩
        dsimp only at hR' hF' e3
        subst e3
        have c0 : I' (b + 20) 0 ≤ iZ (nD (rd1 g v) : Int) := by have := hR'.2.2.2.2.1.1; rw [ne] at this; exact Int32.le_of_eq this
        have go := S66 I' J1 A1 hR' hF'
        rcases id hb with rfl | rfl | rfl | rfl | rfl
        all_goals (
          refine wf (hs := [42, 66]) 20 42 (by decide) ?_
          refine wt c0 ?_
          refine wp_keys [0, 1, 2, 3] rfl rfl ?_
          exact go)
      · rintro i ⟨I', x3⟩ hi ⟨⟨hR', hF'⟩, e3⟩ ih
        dsimp only at hR' hF' e3
        subst e3
        have wi := Wf_drs (n := i) w.1.1 w.1.2 (by omega)
        have c0 : ¬ I' (b + 20) 0 ≤ iZ (i : Int) := by
          have := hR'.2.2.2.2.1.1
          rw [ne] at this
          rw [this]; ((try simp (disch := omega) only [z_i8, z_i16, z_of, z_ofN, z_lofN, z_0, z_1, z_m1, z_l0, z_l1, iZ_add, iZ_sub, iZ_mul, iZ_neg, lZ_add, lZ_sub, lZ_mul, lZ_neg, z_div, z_ldiv, z_l, z_i, z_lt, z_le, z_eq, z_llt, z_lle, z_leq, z_cgt, z_cge, z_clt, z_cle, z_ceq, z_cl, z_nat, Int.toNat_natCast, mm_I, mm_J, z_cln, z_abs, z_max, z_min, z_lmax, z_lmin, z_sin, Int.cast_ofNat_Int, uI_I, uI_J, uL_I, uL_J, uA_I, uA_J, sI_eq, sI_ne, sL_eq, sL_ne, up_eq, up_ne, uL_eq, uL_ne, z_toInt]) <;> omega)
        have lo := c_letIn (E := E) (d := d) (A := A1) (k := i) (x := iZ i) (Q := fun r M => r = none ∧ ∃ I2, M = mm I2 J1 A1 ∧ RS I2 J1 b (drsN (rd1 g v) (i + 1)) ∧ F2 ρ b I J I2 J1) hb hR' wi.1 wi.2 (by rw [ne]; exact hi) rfl (fun I2 hR2 hF2 => ⟨rfl, I2, rfl, hR2, F2_trans hF' (Fr_F2 hF2)⟩)
        rcases id hb with rfl | rfl | rfl | rfl | rfl
        all_goals (
          refine wf (hs := [42, 66]) 20 42 (by decide) ?_
          refine wF c0 (And.intro rfl (wpC_mono lo (fun r M1 h => ?_)))
          obtain ⟨rfl, I2, rfl, hR2, hF2⟩ := h
          refine wp_keys [0, 1, 2, 3] rfl rfl ?_
          exact ih (I2, _) ⟨⟨hR2, hF2⟩, iZ_add i 1⟩)
    have S9 : wp E (d + 5) 59 9 [(0, .ref ρ), (1, .ref b), (2, .ref π), (3, .int (iZ 0))] [] (mm I J A) Q := by
      have k0 := hg.1
      have L := lpU (σ := ((Nat → Nat → Int32) × (Nat → Nat → Int64) × (Nat → Option Nat)) × Int32) (fun _ s => wp E (d + 5) 59 9 [(0, .ref ρ), (1, .ref b), (2, .ref π), (3, .int s.2)] [] (mm s.1.1 s.1.2.1 s.1.2.2) Q) (fun i s => (RS s.1.1 s.1.2.1 b (clsN g v i) ∧ F2 ρ b I J s.1.1 s.1.2.1) ∧ s.2 = iZ i) (g 0 0).toNat ?_ ?_
      · exact L 0 ((I, J, A), _) (by omega) ⟨⟨hR, F2_refl⟩, rfl⟩
      · rintro ⟨⟨I', J', A'⟩, x3⟩ ⟨⟨hR', hF'⟩, e3⟩
        dsimp only at hR' hF' e3
        subst e3
        have c0 : I' π 0 ≤ iZ ((g 0 0).toNat : Int) := by
          rw [g00 I' J' hF']; ((try simp (disch := omega) only [z_i8, z_i16, z_of, z_ofN, z_lofN, z_0, z_1, z_m1, z_l0, z_l1, iZ_add, iZ_sub, iZ_mul, iZ_neg, lZ_add, lZ_sub, lZ_mul, lZ_neg, z_div, z_ldiv, z_l, z_i, z_lt, z_le, z_eq, z_llt, z_lle, z_leq, z_cgt, z_cge, z_clt, z_cle, z_ceq, z_cl, z_nat, Int.toNat_natCast, mm_I, mm_J, z_cln, z_abs, z_max, z_min, z_lmax, z_lmin, z_sin, Int.cast_ofNat_Int, uI_I, uI_J, uL_I, uL_J, uA_I, uA_J, sI_eq, sI_ne, sL_eq, sL_ne, up_eq, up_ne, uL_eq, uL_ne, z_toInt]) <;> omega)
        have go := S42 I' J' A' hR' hF'
        rcases id hp with rfl | rfl | rfl | rfl | rfl | rfl
        all_goals (
          refine wf (hs := [9, 42]) 20 9 (by decide) ?_
          refine wt c0 ?_
          refine wp_keys [0, 1, 2, 3] rfl rfl ?_
          exact go)
      · rintro i ⟨⟨I', J', A'⟩, x3⟩ hi ⟨⟨hR', hF'⟩, e3⟩ ih
        dsimp only at hR' hF' e3
        subst e3
        have wi := Wf_cls (n := i) hW hH (fun j hj => hg.2 j (by omega))
        have c0 : ¬ I' π 0 ≤ iZ (i : Int) := by
          rw [g00 I' J' hF']; ((try simp (disch := omega) only [z_i8, z_i16, z_of, z_ofN, z_lofN, z_0, z_1, z_m1, z_l0, z_l1, iZ_add, iZ_sub, iZ_mul, iZ_neg, lZ_add, lZ_sub, lZ_mul, lZ_neg, z_div, z_ldiv, z_l, z_i, z_lt, z_le, z_eq, z_llt, z_lle, z_leq, z_cgt, z_cge, z_clt, z_cle, z_ceq, z_cl, z_nat, Int.toNat_natCast, mm_I, mm_J, z_cln, z_abs, z_max, z_min, z_lmax, z_lmin, z_sin, Int.cast_ofNat_Int, uI_I, uI_J, uL_I, uL_J, uA_I, uA_J, sI_eq, sI_ne, sL_eq, sL_ne, up_eq, up_ne, uL_eq, uL_ne, z_toInt]) <;> omega)
        have ge := pe I' J' hF'
        have nx : ∀ I2 J2 A2, RS I2 J2 b (clsN g v (i + 1)) → F2 ρ b I J I2 J2 → wp E (d + 5) 59 34 [(0, .ref ρ), (1, .ref b), (2, .ref π), (3, .int (iZ i))] [] (mm I2 J2 A2) Q := by
          intro I2 J2 A2 hR2 hF2
          refine wf (hs := [9]) 20 34 (by decide) ?_
          refine wp_keys [0, 1, 2, 3] rfl rfl ?_
          exact ih ((I2, J2, A2), _) ⟨⟨hR2, hF2⟩, iZ_add i 1⟩
        have ap := c_applies (E := E) (d := d) (A := A') (x := iZ i) (Q := fun r M => ∃ I2 J2 A2, M = mm I2 J2 A2 ∧ F2 ρ b I J I2 J2 ∧ RS I2 J2 b (clsN g v i) ∧ ((tstZ g (clsN g v i) i ∧ r = some (.int 1)) ∨ (¬ tstZ g (clsN g v i) i ∧ r = some (.int 0)))) hr hp hR' wi.1 (by omega) (Ge_gi ge (hg.2 i hi)) rfl
          (fun h I2 J2 A2 hF2 => ⟨I2, J2, A2, rfl, F2_trans hF' (FR_F2 hF2), RS_FR hr hF2 hR', Or.inl ⟨by rw [← Ge_ts ge]; exact h, rfl⟩⟩)
          (fun h I2 J2 A2 hF2 => ⟨I2, J2, A2, rfl, F2_trans hF' (FR_F2 hF2), RS_FR hr hF2 hR', Or.inr ⟨by rw [← Ge_ts ge]; exact h, rfl⟩⟩)
        have ac : ∀ I2 J2 A2, RS I2 J2 b (clsN g v i) → F2 ρ b I J I2 J2 → tstZ g (clsN g v i) i → wpC E (d + 4) 61 [.ref ρ, .ref b, .ref π, .int (iZ i)] (mm I2 J2 A2) (fun r M => r = none ∧ wp E (d + 5) 59 34 [(0, .ref ρ), (1, .ref b), (2, .ref π), (3, .int (iZ i))] [] M Q) := by
          intro I2 J2 A2 hR2 hF2 ht
          have ge2 := pe I2 J2 hF2
          refine c_act hr hp hR2 wi.1 (by omega) (Ge_gi ge2 (hg.2 i hi)) rfl (fun I3 J3 A3 hR3 hF3 => ⟨rfl, nx I3 J3 A3 ?_ (F2_trans hF2 hF3)⟩)
          show RS I3 J3 b (clZ g (clsN g v i) i)
          rw [clZ_pos ht, ← Ge_do ge2]
          exact hR3
        rcases id hp with rfl | rfl | rfl | rfl | rfl | rfl
        all_goals (
          rcases id rr with rfl | rfl
          all_goals (
            refine wf (hs := [9, 34, 42]) 20 9 (by decide) ?_
            refine wF c0 (And.intro rfl (wpC_mono ap (fun r M1 h => ?_)))
            obtain ⟨I2, J2, A2, rfl, hF2, hR2, h | h⟩ := h
            · obtain ⟨ht, rfl⟩ := h
              refine wF (by decide) ?_
              refine And.intro rfl (wpC_mono (ac I2 J2 A2 hR2 hF2 ht) (fun r M1 h => ?_))
              obtain ⟨rfl, h⟩ := h
              exact h
            · obtain ⟨ht, rfl⟩ := h
              refine wt rfl ?_
              refine nx I2 J2 A2 ?_ hF2
              show RS I2 J2 b (clZ g (clsN g v i) i)
              rw [clZ_neg ht]
              exact hR2))
    refine wc (hs := [9]) 20 (by decide) ?_
    refine And.intro ?_ (c_isOver hb hR hW (fun h => absurd h hov) (fun _ => ?_))
    · rcases id hb with rfl | rfl | rfl | rfl | rfl <;> rfl
    · refine wt rfl ?_
      refine wp_keys [0, 1, 2, 3] rfl rfl ?_
      exact S9
end C12
