/-! ===== a round: what a clause does; the class ===== -/
def crsV (v : am_V) (a c : Nat) (m : Int) : am_V := vset (vset v 276 a (v 276 a - crsZ v a c m)) 276 c (v 276 c + crsZ v a c m)
def doZ (g : Nat → Nat → Int) (v : am_V) (i : Nat) : am_V :=
  if g 1 i = 16 then vset v 266 6 (g 4 i)
  else if g 1 i = 22 then vset v 266 5 (max (-99999) (min (segL g v (g 5 i) (g 6 i)).toInt 99999))
  else if g 1 i = 19 then (if g 2 i < nP v then porZ v (g 2 i).toNat (-(g 4 i)) else v)
  else if g 1 i = 20 then (if g 2 i < nP v then porZ v (g 2 i).toNat (g 4 i) else v)
  else if g 2 i < nP v ∧ g 3 i < nP v ∧ ¬ g 3 i = g 2 i then crsV v (g 2 i).toNat (g 3 i).toNat (g 4 i) else v
theorem Wf_sc {v : am_V} {j : Nat} {z : Int} (h : Wf v) (hj : (j = 5 ∧ -99999 ≤ z ∧ z ≤ 99999) ∨ (j = 6 ∧ 0 ≤ z ∧ z ≤ 99) ∨ (j = 7 ∧ -60 ≤ z ∧ z ≤ 60) ∨ (j = 8 ∧ 0 ≤ z ∧ z ≤ 99999)) : Wf (vset v 266 j z) := by
  obtain ⟨⟨w1, w2, w3, w4, w5, w6, w7, w8, w9, w10, w11, w12, w13⟩, wl, wp, wc⟩ := h
  rcases hj with ⟨rfl, hz⟩ | ⟨rfl, hz⟩ | ⟨rfl, hz⟩ | ⟨rfl, hz⟩
  · exact ⟨⟨w1, w2, w3, w4, hz, w6, w7, w8, w9, w10, w11, w12, w13⟩, wl, wp, wc⟩
  · exact ⟨⟨w1, w2, w3, w4, w5, hz, w7, w8, w9, w10, w11, w12, w13⟩, wl, wp, wc⟩
  · exact ⟨⟨w1, w2, w3, w4, w5, w6, hz, w8, w9, w10, w11, w12, w13⟩, wl, wp, wc⟩
  · exact ⟨⟨w1, w2, w3, w4, w5, w6, w7, hz, w9, w10, w11, w12, w13⟩, wl, wp, wc⟩
theorem WfH_sc {v : am_V} {j : Nat} {z : Int} (h : WfH v) (hj : j = 5 ∨ j = 6 ∨ j = 7 ∨ j = 8) : WfH (vset v 266 j z) := by
  rcases hj with rfl | rfl | rfl | rfl <;> exact h
theorem crs_rng {v : am_V} {a c : Nat} {m : Int} (h : Wf v) (ha : a < nP v) (hc : c < nP v) (hm : 0 ≤ m) : 0 ≤ crsZ v a c m ∧ crsZ v a c m ≤ v 276 a ∧ crsZ v a c m ≤ capZ v c - v 276 c := by
  have w6 := (h.2.2.1 a ha).2.2.2.2.2.2
  have x6 := (h.2.2.1 c hc).2.2.2.2.2.2
  unfold crsZ
  omega
theorem Wf_crs {v : am_V} {a c : Nat} {m : Int} (h : Wf v) (ha : a < nP v) (hc : c < nP v) (hm : 0 ≤ m) : Wf (crsV v a c m) := by
  have r := crs_rng h ha hc hm
  have w6 := (h.2.2.1 a ha).2.2.2.2.2.2
  have x6 := (h.2.2.1 c hc).2.2.2.2.2.2
  refine Wf_set (Wf_set h ⟨by omega, by omega⟩) ⟨by omega, ?_⟩
  show _ ≤ capZ v c
  omega
theorem Wf_do {g : Nat → Nat → Int} {v : am_V} {i : Nat} (h : Wf v) (hH : WfH v) (hg : WfGi g i) : Wf (doZ g v i) ∧ WfH (doZ g v i) := by
  obtain ⟨k1, k2, k3, k4, k5, k6, k7, k8⟩ := hg
  unfold doZ
  split
  · rename_i q
    exact ⟨Wf_sc h (Or.inr (Or.inl ⟨rfl, by omega, by omega⟩)), WfH_sc hH (by omega)⟩
  · split
    · exact ⟨Wf_sc h (Or.inl ⟨rfl, by omega, by omega⟩), WfH_sc hH (by omega)⟩
    · split
      · split
        · rename_i q1 q2 q3 q4
          have := k2 (Or.inl q3)
          exact ⟨Wf_por h (by omega), WfH_276 hH (fun a i q => por_ne q)⟩
        · exact ⟨h, hH⟩
      · split
        · split
          · rename_i q1 q2 q3 q4 q5
            have := k2 (Or.inr (Or.inl q4))
            exact ⟨Wf_por h (by omega), WfH_276 hH (fun a i q => por_ne q)⟩
          · exact ⟨h, hH⟩
        · split
          · rename_i q1 q2 q3 q4 q5
            have e21 : g 1 i = 21 := by omega
            have := k2 (Or.inr (Or.inr e21))
            have := k3 e21
            exact ⟨Wf_crs h (by omega) (by omega) (by have := k4 (by omega); omega), WfH_276 hH (fun a i q => by unfold crsV; rw [vset_na q, vset_na q])⟩
          · exact ⟨h, hH⟩
theorem do_ne {g : Nat → Nat → Int} {v : am_V} {i a k : Nat} (h : a ≠ 276) (h' : a ≠ 266) : doZ g v i a k = v a k := by
  unfold doZ
  split
  · exact vset_na h'
  · split
    · exact vset_na h'
    · split
      · split
        · exact por_ne h
        · rfl
      · split
        · split
          · exact por_ne h
          · rfl
        · split
          · unfold crsV; rw [vset_na h, vset_na h]
          · rfl
theorem do_sc {g : Nat → Nat → Int} {v : am_V} {i k : Nat} (h : k ≠ 5) (h' : k ≠ 6) : doZ g v i 266 k = v 266 k := by
  unfold doZ
  split
  · exact vset_ni h'
  · split
    · exact vset_ni h
    · split
      · split
        · exact por_ne (by decide)
        · rfl
      · split
        · split
          · exact por_ne (by decide)
          · rfl
        · split
          · unfold crsV; rw [vset_na (by decide), vset_na (by decide)]
          · rfl
section C11
variable {E : Nat × (Nat → Int32)} {d : Nat} {I : Nat → Nat → Int32} {J : Nat → Nat → Int64} {A : Nat → Option Nat} {Q : Option Value → am_M → Prop} {M : am_M} {β b : Nat} {v : am_V} {mw mu mom : Int}
theorem RS_sc {j : Nat} {z : Int} {x : Int32} (hj : j = 5 ∨ j = 6 ∨ j = 7 ∨ j = 8) (hx : x = iZ z) (hR : RS I J b v) : RS (setI I b j x) J b (vset v 266 j z) := by
  subst hx
  have g : ∀ i, i ≠ 0 → setI I b j (iZ z) (b + i) = I (b + i) := fun i hi => by
    funext k
    rw [setI_at, if_neg (by omega)]
  have g0 : ∀ k, k ≠ j → setI I b j (iZ z) b k = I b k := fun k hk => by rw [setI_at, if_neg (by omega)]
  have gj : setI I b j (iZ z) b j = iZ z := by rw [setI_at, if_pos ⟨rfl, rfl⟩]
  obtain ⟨⟨r0, r1, r2, r3, r4, r5, r6, r7, r8, r9⟩, ra, rp, rc, rd, ro, rl⟩ := hR
  unfold RSp at rp
  unfold RSc at rc
  unfold RSd at rd
  unfold RSo at ro
  unfold RSl at rl
  unfold RS RSt RSp RSc RSd RSo RSl
  rw [g 1 (by omega), g 2 (by omega), g 3 (by omega), g 4 (by omega), g 5 (by omega), g 6 (by omega), g 7 (by omega), g 8 (by omega), g 9 (by omega), g 10 (by omega), g 11 (by omega), g 13 (by omega), g 14 (by omega), g 15 (by omega), g 16 (by omega), g 17 (by omega), g 18 (by omega), g 19 (by omega), g 20 (by omega), g 21 (by omega), g 22 (by omega), g 23 (by omega), g 24 (by omega), g 25 (by omega), g 26 (by omega), g 27 (by omega), g 28 (by omega), g 29 (by omega), g 30 (by omega), g 31 (by omega), g 32 (by omega)]
  unfold RSs
  rcases hj with rfl | rfl | rfl | rfl
  · rw [g0 0 (by decide), g0 1 (by decide), g0 2 (by decide), g0 3 (by decide), g0 4 (by decide), g0 6 (by decide), g0 7 (by decide), g0 8 (by decide), g0 9 (by decide), gj]
    exact ⟨⟨r0, r1, r2, r3, r4, rfl, r6, r7, r8, r9⟩, ra, rp, rc, rd, ro, rl⟩
  · rw [g0 0 (by decide), g0 1 (by decide), g0 2 (by decide), g0 3 (by decide), g0 4 (by decide), g0 5 (by decide), g0 7 (by decide), g0 8 (by decide), g0 9 (by decide), gj]
    exact ⟨⟨r0, r1, r2, r3, r4, r5, rfl, r7, r8, r9⟩, ra, rp, rc, rd, ro, rl⟩
  · rw [g0 0 (by decide), g0 1 (by decide), g0 2 (by decide), g0 3 (by decide), g0 4 (by decide), g0 5 (by decide), g0 6 (by decide), g0 8 (by decide), g0 9 (by decide), gj]
    exact ⟨⟨r0, r1, r2, r3, r4, r5, r6, rfl, r8, r9⟩, ra, rp, rc, rd, ro, rl⟩
  · rw [g0 0 (by decide), g0 1 (by decide), g0 2 (by decide), g0 3 (by decide), g0 4 (by decide), g0 5 (by decide), g0 6 (by decide), g0 7 (by decide), g0 9 (by decide), gj]
    exact ⟨⟨r0, r1, r2, r3, r4, r5, r6, r7, rfl, r9⟩, ra, rp, rc, rd, ro, rl⟩
theorem Fr_set {j : Nat} {x : Int32} : Fr b I (setI I b j x) := fun a ha => by
  funext k
  rw [setI_at, if_neg (by omega)]
set_option maxHeartbeats 8000000 in
theorem c_act {ρ π i : Nat} {x : Int32} (hr : RhS ρ b) (hp : PP π) (hR : RS I J b v) (hW : Wf v) (hi : i < 12) (hg : WfGi (plV I π) i) (ex : x = iZ i) (hQ : ∀ I' J' A', RS I' J' b (doZ (plV I π) v i) → F2 ρ b I J I' J' → Q none (mm I' J' A')) : wpC E (d + 4) 61 [.ref ρ, .ref b, .ref π, .int x] (mm I J A) Q := by
  have hb := RhS_B5 hr
  have h12 := nP12 hW
  have hcl : (iZ (i : Int)).toNatClampNeg = i := z_cln (by omega)
  have hin : vp_in (iZ (i : Int)) 12 := z_in (by omega) (by omega) (by omega)
  have hC := PP_PC hp
  have rr : ρ = 240 ∨ ρ = 255 := by unfold RhS at hr; omega
  have gg : ∀ j, I (π + j) (iZ (i : Int)).toNatClampNeg = iZ (plV I π j i) := fun j => by rw [hcl]; exact vI_eq I _ _
  have rg : ∀ j, -2147483648 ≤ plV I π j i ∧ plV I π j i ≤ 2147483647 := fun j => rI_of _
  have cc : plV I π 1 i = 22 → ∀ (Q' : Option Value → am_M → Prop), (∀ I' J' A', FR ρ (ρ + 6) I J I' J' → Q' (some (.long (segL (plV I π) v (plV I π 5 i) (plV I π 6 i)))) (mm I' J' A')) → wpC E (d + 3) 62 [.ref ρ, .ref b, .ref (π + 8), .int (I (π + 5) (iZ (i : Int)).toNatClampNeg), .int (I (π + 6) (iZ (i : Int)).toNatClampNeg)] (mm I J A) Q' := by
    intro h22 Q' hQ'
    obtain ⟨k1, k2, k3, k4, k5, k6, k7, k8⟩ := hg
    refine c_compute (fr := (plV I π 5 i).toNat) (to := (plV I π 6 i).toNat) hr hC hR hW (by omega) (by omega) (k7 h22) ?_ ?_ hQ'
    · rw [gg 5]; congr 1; omega
    · rw [gg 6]; congr 1; omega
  have np0 : I (b + 2) 0 = iZ (nP v) := hR.2.2.1.1
  subst ex
  generalize hpl : plV I π = g at hg hQ gg rg cc
  obtain ⟨k1, k2, k3, k4, k5, k6, k7, k8⟩ := hg
  have r1 := rg 1; have r2 := rg 2; have r3 := rg 3; have r4 := rg 4
  have B16 : g 1 i = 16 → ∀ x5 x6 x7 : Int32, wp E (d + 4) 61 92 [(0, .ref ρ), (1, .ref b), (2, .ref π), (3, .int (iZ i)), (4, .int (iZ (g 4 i))), (5, .int x5), (6, .int x6), (7, .int x7)] [] (mm I J A) Q := by
    intro h x5 x6 x7
    have fin := hQ (setI I b 6 (iZ (g 4 i))) J A (by unfold doZ; rw [if_pos h]; exact RS_sc (by omega) rfl hR) (Fr_F2 Fr_set)
    rcases id hb with rfl | rfl | rfl | rfl | rfl <;> exact wf (hs := []) 20 92 (by decide) fin
  have B22 : g 1 i = 22 → ∀ x4 x5 x6 x7 : Int32, wp E (d + 4) 61 101 [(0, .ref ρ), (1, .ref b), (2, .ref π), (3, .int (iZ i)), (4, .int x4), (5, .int x5), (6, .int x6), (7, .int x7)] [] (mm I J A) Q := by
    intro h x4 x5 x6 x7
    have tail : ∀ I' J' A', FR ρ (ρ + 6) I J I' J' → wp E (d + 4) 61 124 [(0, .ref ρ), (1, .ref b), (2, .ref π), (3, .int (iZ i)), (8, .long (segL g v (g 5 i) (g 6 i)))] [] (mm I' J' A') Q := by
      intro I' J' A' hF
      generalize hS : segL g v (g 5 i) (g 6 i) = S
      have sr := rL_of S
      unfold rL at sr
      have eS : S = lZ S.toInt := (lZ_of S).symm
      have e1 : Int64.ofNat 18446744073709451617 = lZ (-99999) := by decide +kernel
      have ev : ((if (if Int64.ofNat 99999 < S then Int64.ofNat 99999 else S) < Int64.ofNat 18446744073709451617 then Int64.ofNat 18446744073709451617 else (if Int64.ofNat 99999 < S then Int64.ofNat 99999 else S))).toInt32 = iZ (max (-99999) (min S.toInt 99999)) := by
        rw [e1, eS]
        show (if (if lZ 99999 < lZ S.toInt then lZ 99999 else lZ S.toInt) < lZ (-99999) then lZ (-99999) else (if lZ 99999 < lZ S.toInt then lZ 99999 else lZ S.toInt)).toInt32 = iZ (max (-99999) (min (lZ S.toInt).toInt 99999))
        rw [← eS]
        rw [eS]
        have : (lZ S.toInt).toInt = S.toInt := lZ_toInt sr
        rw [this]
        simp (disch := omega) only [z_i8, z_i16, z_of, z_ofN, z_lofN, z_0, z_1, z_m1, z_l0, z_l1, iZ_add, iZ_sub, iZ_mul, iZ_neg, lZ_add, lZ_sub, lZ_mul, lZ_neg, z_div, z_ldiv, z_l, z_i, z_lt, z_le, z_eq, z_llt, z_lle, z_leq, z_cgt, z_cge, z_clt, z_cle, z_ceq, z_cl, z_nat, Int.toNat_natCast, mm_I, mm_J, z_cln, z_abs, z_max, z_min, z_lmax, z_lmin, z_sin, Int.cast_ofNat_Int, uI_I, uI_J, uL_I, uL_J, uA_I, uA_J, sI_eq, sI_ne, sL_eq, sL_ne, up_eq, up_ne, uL_eq, uL_ne, z_toInt]
      have fin := hQ (setI I' b 5 (iZ (max (-99999) (min S.toInt 99999)))) J' A' (by
        unfold doZ
        rw [if_neg (by omega), if_pos h, hS]
        exact RS_sc (by omega) rfl (RS_FR hr hF hR)) (F2_trans (FR_F2 hF) (Fr_F2 Fr_set))
      rw [← ev] at fin
      rcases id hb with rfl | rfl | rfl | rfl | rfl <;> exact wf (hs := []) 20 124 (by decide) fin
    rcases id hp with rfl | rfl | rfl | rfl | rfl | rfl
    all_goals (
      rcases id rr with rfl | rfl
      all_goals (
        refine wf (hs := [124]) 20 101 (by decide) ?_
        refine And.intro hin (And.intro hin (And.intro rfl (cc h _ (fun I' J' A' hF => ?_))))
        refine wp_keys [0, 1, 2, 3, 8] rfl rfl ?_
        exact tail I' J' A' hF))
  have ee : ∀ {v1 v2 : am_V} {I' : Nat → Nat → Int32} {J' : Nat → Nat → Int64}, v1 = v2 → RS I' J' b v1 → RS I' J' b v2 := fun e h => e ▸ h
  have B19 : g 1 i = 19 → ∀ x6 x7 : Int32, (g 2 i < nP v → x7 = iZ 1) → (¬ g 2 i < nP v → x7 = iZ 0) → wp E (d + 4) 61 146 [(0, .ref ρ), (1, .ref b), (2, .ref π), (3, .int (iZ i)), (4, .int (iZ (g 4 i))), (5, .int (iZ (g 2 i))), (6, .int x6), (7, .int x7)] [] (mm I J A) Q := by
    intro h x6 x7 h1 h0
    have k := k2 (Or.inl h)
    have k' := k4 (by omega)
    by_cases hlt : g 2 i < nP v
    · rw [h1 hlt]
      have hw := (hW.2.2.1 (g 2 i).toNat (by omega)).2.2.2.2.2.2
      refine wf (hs := []) 20 146 (by decide) (wF (by decide) ?_)
      refine And.intro ?_ (c_remove (p := (g 2 i).toNat) (n := g 4 i) hb hR hW (by omega) ⟨by omega, by omega⟩ (by congr 1; omega) rfl (fun I' hR' hF => ?_))
      · rcases id hb with rfl | rfl | rfl | rfl | rfl <;> rfl
      · refine hQ I' J A (ee ?_ hR') (Fr_F2 hF)
        unfold doZ
        rw [if_neg (by omega), if_neg (by omega), if_pos h, if_pos hlt]
        unfold porZ
        congr 1
        omega
    · rw [h0 hlt]
      refine wf (hs := []) 20 146 (by decide) (wt rfl ?_)
      refine hQ I J A (ee ?_ hR) F2_refl
      unfold doZ
      rw [if_neg (by omega), if_neg (by omega), if_pos h, if_neg hlt]
  have B20 : g 1 i = 20 → ∀ x6 x7 : Int32, (g 2 i < nP v → x7 = iZ 1) → (¬ g 2 i < nP v → x7 = iZ 0) → wp E (d + 4) 61 162 [(0, .ref ρ), (1, .ref b), (2, .ref π), (3, .int (iZ i)), (4, .int (iZ (g 4 i))), (5, .int (iZ (g 2 i))), (6, .int x6), (7, .int x7)] [] (mm I J A) Q := by
    intro h x6 x7 h1 h0
    have k := k2 (Or.inr (Or.inl h))
    have k' := k4 (by omega)
    by_cases hlt : g 2 i < nP v
    · rw [h1 hlt]
      have hw := (hW.2.2.1 (g 2 i).toNat (by omega)).2.2.2.2.2.2
      refine wf (hs := []) 20 162 (by decide) (wF (by decide) ?_)
      refine And.intro ?_ (c_add (p := (g 2 i).toNat) (n := g 4 i) hb hR hW (by omega) ⟨by omega, by omega⟩ (by congr 1; omega) rfl (fun I' hR' hF => ?_))
      · rcases id hb with rfl | rfl | rfl | rfl | rfl <;> rfl
      · refine hQ I' J A (ee ?_ hR') (Fr_F2 hF)
        unfold doZ
        rw [if_neg (by omega), if_neg (by omega), if_neg (by omega), if_pos h, if_pos hlt]
        unfold porZ
        congr 1
        omega
    · rw [h0 hlt]
      refine wf (hs := []) 20 162 (by decide) (wt rfl ?_)
      refine hQ I J A (ee ?_ hR) F2_refl
      unfold doZ
      rw [if_neg (by omega), if_neg (by omega), if_neg (by omega), if_pos h, if_neg hlt]
  have B21 : g 1 i = 21 → ∀ x7 : Int32, (g 2 i < nP v → x7 = iZ 1) → (¬ g 2 i < nP v → x7 = iZ 0) → wp E (d + 4) 61 178 [(0, .ref ρ), (1, .ref b), (2, .ref π), (3, .int (iZ i)), (4, .int (iZ (g 4 i))), (5, .int (iZ (g 2 i))), (6, .int (iZ (g 3 i))), (7, .int x7)] [] (mm I J A) Q := by
    intro h x7 h1 h0
    have k := k2 (Or.inr (Or.inr h))
    have k3' := k3 h
    have k' := k4 (by omega)
    have doe : (g 2 i < nP v ∧ g 3 i < nP v ∧ ¬ g 3 i = g 2 i → doZ g v i = crsV v (g 2 i).toNat (g 3 i).toNat (g 4 i)) ∧ (¬ (g 2 i < nP v ∧ g 3 i < nP v ∧ ¬ g 3 i = g 2 i) → doZ g v i = v) := by
      refine ⟨fun q => ?_, fun q => ?_⟩
      · unfold doZ
        rw [if_neg (by omega), if_neg (by omega), if_neg (by omega), if_neg (by omega), if_pos q]
      · unfold doZ
        rw [if_neg (by omega), if_neg (by omega), if_neg (by omega), if_neg (by omega), if_neg q]
    by_cases hlt : g 2 i < nP v
    · rw [h1 hlt]
      have np1 : iZ (nP v) ≤ iZ (g 3 i) ↔ (nP v : Int) ≤ g 3 i := z_le (by omega) (by omega) (by omega) (by omega)
      have eq1 : iZ (g 3 i) = iZ (g 2 i) ↔ g 3 i = g 2 i := z_eq (by omega) (by omega) (by omega) (by omega)
      have X : g 3 i < nP v ∧ ¬ g 3 i = g 2 i → wpC E (d + 3) 74 [.ref b, .int (iZ (g 2 i)), .int (iZ (g 3 i)), .int (iZ (g 4 i))] (mm I J A) (fun r M1 => r = none ∧ Q none M1) := fun q =>
        c_cross (a := (g 2 i).toNat) (c := (g 3 i).toNat) (m := g 4 i) hb hR hW (by omega) (by omega) (by omega) ⟨by omega, by omega⟩ (by congr 1; omega) (by congr 1; omega) rfl (fun I' hR' hF => ⟨rfl, hQ I' J A (by rw [doe.1 ⟨hlt, q.1, q.2⟩]; exact hR') (Fr_F2 hF)⟩)
      rcases id hb with rfl | rfl | rfl | rfl | rfl
      all_goals (
        simp only [Nat.reduceAdd] at np0
        refine wf (hs := []) 20 178 (by decide) (wF (by decide) ?_)
        refine And.intro (fun q => ?_) (fun q => ?_)
        · have q : I _ 0 ≤ iZ (g 3 i) := q
          rw [np0, np1] at q
          exact hQ I J A (by rw [doe.2 (by omega)]; exact hR) F2_refl
        · have q : ¬ I _ 0 ≤ iZ (g 3 i) := q
          rw [np0, np1] at q
          refine And.intro (fun q2 => ?_) (fun q2 => ?_)
          · have q2 := eq1.mp q2
            exact hQ I J A (by rw [doe.2 (by omega)]; exact hR) F2_refl
          · have q2 : ¬ g 3 i = g 2 i := fun y => q2 (eq1.mpr y)
            exact And.intro rfl (wpC_mono (X ⟨by omega, q2⟩) (fun r M1 h => by rw [h.1]; exact h.2)))
    · rw [h0 hlt]
      refine wf (hs := []) 20 178 (by decide) (wt rfl ?_)
      exact hQ I J A (by rw [doe.2 (by omega)]; exact hR) F2_refl
  have S43 : ∀ x7 : Int32, (g 2 i < nP v → x7 = iZ 1) → (¬ g 2 i < nP v → x7 = iZ 0) → wp E (d + 4) 61 43 [(0, .ref ρ), (1, .ref b), (2, .ref π), (3, .int (iZ i)), (4, .int (iZ (g 4 i))), (5, .int (iZ (g 2 i))), (6, .int (iZ (g 3 i))), (7, .int x7)] [] (mm I J A) Q := by
    intro x7 h1 h0
    have g1 := gg 1
    have t1 : (I (π + 1) (iZ (i : Int)).toNatClampNeg).toInt = g 1 i := by rw [g1]; exact z_toInt (by omega) (by omega)
    rcases id hp with rfl | rfl | rfl | rfl | rfl | rfl
    all_goals (
      simp only [Nat.reduceAdd] at t1
      refine wf (hs := [92, 101, 146, 162, 178]) 20 43 (by decide) (And.intro hin ?_)
      rcases k1 with h | h | h | h | h
      · refine wtb 0 (t1.trans h) rfl rfl (B16 h _ _ _)
      · refine wtb 3 (t1.trans h) rfl rfl (B19 h _ _ h1 h0)
      · refine wtb 4 (t1.trans h) rfl rfl (B20 h _ _ h1 h0)
      · refine wtb 5 (t1.trans h) rfl rfl (B21 h _ h1 h0)
      · refine wtb 6 (t1.trans h) rfl rfl (B22 h _ _ _ _))
  have S24 : wp E (d + 4) 61 24 [(0, .ref ρ), (1, .ref b), (2, .ref π), (3, .int (iZ i)), (4, .int (iZ (g 4 i))), (5, .int (iZ (g 2 i))), (6, .int (iZ (g 3 i)))] [] (mm I J A) Q := by
    have np1 : iZ (nP v) ≤ iZ (g 2 i) ↔ (nP v : Int) ≤ g 2 i := z_le (by omega) (by omega) (by omega) (by omega)
    rcases id hb with rfl | rfl | rfl | rfl | rfl
    all_goals (
      simp only [Nat.reduceAdd] at np0
      refine wf (hs := [43]) 20 24 (by decide) (And.intro (fun q => ?_) (fun q => ?_))
      · have q : I _ 0 ≤ iZ (g 2 i) := q
        rw [np0, np1] at q
        refine wp_keys [0, 1, 2, 3, 4, 5, 6, 7] rfl rfl ?_
        exact S43 _ (fun h => by omega) (fun _ => rfl)
      · have q : ¬ I _ 0 ≤ iZ (g 2 i) := q
        rw [np0, np1] at q
        refine wp_keys [0, 1, 2, 3, 4, 5, 6, 7] rfl rfl ?_
        exact S43 _ (fun _ => rfl) (fun h => by omega))
  have g4 := gg 4
  have g2 := gg 2
  have g3 := gg 3
  rw [← g4, ← g2, ← g3] at S24
  rcases id hp with rfl | rfl | rfl | rfl | rfl | rfl
  all_goals (
    refine wc (hs := [24]) 20 (by decide) ?_
    refine And.intro hin (And.intro hin (And.intro hin ?_))
    refine wp_keys [0, 1, 2, 3, 4, 5, 6] rfl rfl ?_
    exact S24)
end C11
