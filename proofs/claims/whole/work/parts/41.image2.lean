/-! ===== the reference: images laid and gone back to ===== -/
section M12
variable {E : Nat × (Nat → Int32)} {d : Nat} {I : Nat → Nat → Int32} {J : Nat → Nat → Int64} {A : Nat → Option Nat} {Q : Option Value → am_M → Prop} {M : am_M}
set_option maxHeartbeats 8000000 in
theorem m_carriesF {k : Nat} {x : Int32} (hk : k < 5) (ex : x = iZ k) (hz : ZO (mm I J A)) (hQ : ∀ I', imV I' k = vC I → (∀ k', k' < 5 → k' ≠ k → imV I' k' = imV I k') → (∀ b, b ≠ 304 → b ≠ 265 → I' b = I b) → (∀ j, j ≠ 53 → j ≠ 54 → I' 265 j = I 265 j) → Q none (mm I' J A)) : wpC E (d + 1) 227 [.ref 265, .int x, .int 0] (mm I J A) Q := by
  subst ex
  obtain ⟨I0, hI0⟩ : ∃ I0, I0 = setI (setI I 265 53 (iZ 250 * iZ (k : Int))) 265 54 0 := ⟨_, rfl⟩
  have e53 : I0 265 53 = iZ ((250 * k : Nat) : Int) := by
    rw [hI0, setI_at, if_neg (by omega), setI_at, if_pos ⟨rfl, rfl⟩, iZ_mul]
    congr 1
  have e54 : I0 265 54 = iZ 0 := by rw [hI0, setI_at, if_pos ⟨rfl, rfl⟩]; rfl
  have eb : ∀ b, b ≠ 265 → I0 b = I b := fun b hb => by
    funext j
    rw [hI0, setI_at, if_neg (by omega), setI_at, if_neg (by omega)]
  have fin : Q none (mm (chF I0 crl (250 * k)) J A) := by
    refine hQ _ ?_ ?_ ?_ ?_
    · funext a i
      unfold imV vC cutV
      by_cases h : 266 ≤ a ∧ a ≤ 289
      · rw [if_pos h, if_pos h]
        by_cases hi : i < lnA a
        · rw [if_pos hi]
          obtain ⟨l1, l2, hl, ht, -, -⟩ := crl_at h
          have := chF_3 l1 l2 a I0 (250 * k) i (by omega) (by omega) hi
          rw [← hl, ht] at this
          unfold vI
          rw [this, eb a (by omega)]
        · rw [if_neg hi]
          exact (zo_ship hz h (by omega)).symm
      · rw [if_neg h, if_neg h]
    · intro k' hk' hne
      funext a i
      unfold imV
      by_cases h : 266 ≤ a ∧ a ≤ 289
      · rw [if_pos h, if_pos h]
        by_cases hi : i < lnA a
        · rw [if_pos hi, if_pos hi]
          have := ofA_le h hi
          unfold vI
          rw [chF_2 _ _ _ _ (by rw [tot_crl]; omega), eb 304 (by omega)]
        · rw [if_neg hi, if_neg hi]
      · rw [if_neg h, if_neg h]
    · intro b h1 h2
      funext j
      rw [chF_1 _ _ _ _ _ h1 (fun q => absurd q h2), eb b h2]
    · intro j h1 h2
      rw [chF_1 _ _ _ _ _ (by omega) (fun _ => h1), hI0, setI_at, if_neg (by omega), setI_at, if_neg (by omega)]
  have l266 : lnA 266 = 14 := rfl
  have l267 : lnA 267 = 13 := rfl
  have l268 : lnA 268 = 6 := rfl
  have l269 : lnA 269 = 6 := rfl
  have l270 : lnA 270 = 12 := rfl
  have l271 : lnA 271 = 12 := rfl
  have l272 : lnA 272 = 12 := rfl
  have l273 : lnA 273 = 12 := rfl
  have l274 : lnA 274 = 12 := rfl
  have l275 : lnA 275 = 12 := rfl
  have l276 : lnA 276 = 12 := rfl
  have l277 : lnA 277 = 6 := rfl
  have l278 : lnA 278 = 6 := rfl
  have l279 : lnA 279 = 6 := rfl
  have l280 : lnA 280 = 6 := rfl
  have l281 : lnA 281 = 6 := rfl
  have l282 : lnA 282 = 12 := rfl
  have l283 : lnA 283 = 12 := rfl
  have l284 : lnA 284 = 12 := rfl
  have l285 : lnA 285 = 12 := rfl
  have l286 : lnA 286 = 12 := rfl
  have l287 : lnA 287 = 12 := rfl
  have l288 : lnA 288 = 12 := rfl
  have l289 : lnA 289 = 12 := rfl
  refine wc (hs := []) 130 (by decide) ?_
  have st : ∀ (Q' : Option Value → am_M → Prop), wpC E d 226 [.ref 265, .ref 266] (mm I0 J A) Q' → wpC E d 226 [.ref 265, .ref 266] (mm (setI (setI I 265 53 (iZ 250 * iZ (k : Int))) 265 54 0) J A) Q' := fun Q' h => by rw [← hI0]; exact h
  refine And.intro rfl (st _ (m_carryF (by omega) (by omega) e53 e54 ?_))
  clear st
  refine And.intro rfl (m_carryF (a := 267) (by omega) (by omega) rfl e54 ?_)
  refine And.intro rfl (m_carryF (a := 270) (by omega) (by omega) rfl e54 ?_)
  refine And.intro rfl (m_carryF (a := 271) (by omega) (by omega) rfl e54 ?_)
  refine And.intro rfl (m_carryF (a := 272) (by omega) (by omega) rfl e54 ?_)
  refine And.intro rfl (m_carryF (a := 273) (by omega) (by omega) rfl e54 ?_)
  refine And.intro rfl (m_carryF (a := 274) (by omega) (by omega) rfl e54 ?_)
  refine And.intro rfl (m_carryF (a := 275) (by omega) (by omega) rfl e54 ?_)
  refine And.intro rfl (m_carryF (a := 276) (by omega) (by omega) rfl e54 ?_)
  refine And.intro rfl (m_carryF (a := 277) (by omega) (by omega) rfl e54 ?_)
  refine And.intro rfl (m_carryF (a := 278) (by omega) (by omega) rfl e54 ?_)
  refine And.intro rfl (m_carryF (a := 279) (by omega) (by omega) rfl e54 ?_)
  refine And.intro rfl (m_carryF (a := 280) (by omega) (by omega) rfl e54 ?_)
  refine And.intro rfl (m_carryF (a := 281) (by omega) (by omega) rfl e54 ?_)
  refine And.intro rfl (m_carryF (a := 282) (by omega) (by omega) rfl e54 ?_)
  refine And.intro rfl (m_carryF (a := 283) (by omega) (by omega) rfl e54 ?_)
  refine And.intro rfl (m_carryF (a := 284) (by omega) (by omega) rfl e54 ?_)
  refine And.intro rfl (m_carryF (a := 285) (by omega) (by omega) rfl e54 ?_)
  refine And.intro rfl (m_carryF (a := 286) (by omega) (by omega) rfl e54 ?_)
  refine And.intro rfl (m_carryF (a := 287) (by omega) (by omega) rfl e54 ?_)
  refine And.intro rfl (m_carryF (a := 288) (by omega) (by omega) rfl e54 ?_)
  refine And.intro rfl (m_carryF (a := 289) (by omega) (by omega) rfl e54 ?_)
  refine And.intro rfl (m_carryF (a := 268) (by omega) (by omega) rfl e54 ?_)
  refine And.intro rfl (m_carryF (a := 269) (by omega) (by omega) rfl e54 ?_)
  exact fin
set_option maxHeartbeats 8000000 in
theorem m_carriesB {k : Nat} {x : Int32} (hk : k < 5) (ex : x = iZ k) (hz : ZO (mm I J A)) (hQ : ∀ I', vC I' = imV I k → (∀ b, (b < 266 ∨ 289 < b) → b ≠ 265 → I' b = I b) → (∀ j, j ≠ 53 → j ≠ 54 → I' 265 j = I 265 j) → Q none (mm I' J A)) : wpC E (d + 1) 227 [.ref 265, .int x, .int 1] (mm I J A) Q := by
  subst ex
  obtain ⟨I0, hI0⟩ : ∃ I0, I0 = setI (setI I 265 53 (iZ 250 * iZ (k : Int))) 265 54 1 := ⟨_, rfl⟩
  have e53 : I0 265 53 = iZ ((250 * k : Nat) : Int) := by
    rw [hI0, setI_at, if_neg (by omega), setI_at, if_pos ⟨rfl, rfl⟩, iZ_mul]
    congr 1
  have e54 : I0 265 54 = iZ 1 := by rw [hI0, setI_at, if_pos ⟨rfl, rfl⟩]; rfl
  have eb : ∀ b, b ≠ 265 → I0 b = I b := fun b hb => by
    funext j
    rw [hI0, setI_at, if_neg (by omega), setI_at, if_neg (by omega)]
  have mem : ∀ b, b ∈ crl → 266 ≤ b ∧ b ≤ 289 := by decide
  have fin : Q none (mm (chB I0 crl (250 * k)) J A) := by
    refine hQ _ ?_ ?_ ?_
    · funext a i
      unfold imV vC cutV
      by_cases h : 266 ≤ a ∧ a ≤ 289
      · rw [if_pos h, if_pos h]
        by_cases hi : i < lnA a
        · rw [if_pos hi]
          obtain ⟨l1, l2, hl, ht, h304, hn⟩ := crl_at h
          have := chB_3 l1 l2 a I0 (250 * k) i h304 (by omega) hn hi
          rw [← hl, ht] at this
          unfold vI
          rw [this, eb 304 (by omega)]
        · rw [if_neg hi]
          unfold vI
          rw [chB_1 _ _ _ _ _ (Or.inr (by omega)) (fun q => by omega), eb a (by omega)]
          exact zo_ship hz h (by omega)
      · rw [if_neg h, if_neg h]
    · intro b h1 h2
      funext j
      rw [chB_1 _ _ _ _ _ (Or.inl (fun q => by have := mem b q; omega)) (fun q => absurd q h2), eb b h2]
    · intro j h1 h2
      rw [chB_1 _ _ _ _ _ (Or.inl (fun q => by have := mem 265 q; omega)) (fun _ => h1), hI0, setI_at, if_neg (by omega), setI_at, if_neg (by omega)]
  have l266 : lnA 266 = 14 := rfl
  have l267 : lnA 267 = 13 := rfl
  have l268 : lnA 268 = 6 := rfl
  have l269 : lnA 269 = 6 := rfl
  have l270 : lnA 270 = 12 := rfl
  have l271 : lnA 271 = 12 := rfl
  have l272 : lnA 272 = 12 := rfl
  have l273 : lnA 273 = 12 := rfl
  have l274 : lnA 274 = 12 := rfl
  have l275 : lnA 275 = 12 := rfl
  have l276 : lnA 276 = 12 := rfl
  have l277 : lnA 277 = 6 := rfl
  have l278 : lnA 278 = 6 := rfl
  have l279 : lnA 279 = 6 := rfl
  have l280 : lnA 280 = 6 := rfl
  have l281 : lnA 281 = 6 := rfl
  have l282 : lnA 282 = 12 := rfl
  have l283 : lnA 283 = 12 := rfl
  have l284 : lnA 284 = 12 := rfl
  have l285 : lnA 285 = 12 := rfl
  have l286 : lnA 286 = 12 := rfl
  have l287 : lnA 287 = 12 := rfl
  have l288 : lnA 288 = 12 := rfl
  have l289 : lnA 289 = 12 := rfl
  refine wc (hs := []) 130 (by decide) ?_
  have st : ∀ (Q' : Option Value → am_M → Prop), wpC E d 226 [.ref 265, .ref 266] (mm I0 J A) Q' → wpC E d 226 [.ref 265, .ref 266] (mm (setI (setI I 265 53 (iZ 250 * iZ (k : Int))) 265 54 1) J A) Q' := fun Q' h => by rw [← hI0]; exact h
  refine And.intro rfl (st _ (m_carryB (by omega) (by omega) e53 e54 ?_))
  clear st
  refine And.intro rfl (m_carryB (a := 267) (by omega) (by omega) rfl e54 ?_)
  refine And.intro rfl (m_carryB (a := 270) (by omega) (by omega) rfl e54 ?_)
  refine And.intro rfl (m_carryB (a := 271) (by omega) (by omega) rfl e54 ?_)
  refine And.intro rfl (m_carryB (a := 272) (by omega) (by omega) rfl e54 ?_)
  refine And.intro rfl (m_carryB (a := 273) (by omega) (by omega) rfl e54 ?_)
  refine And.intro rfl (m_carryB (a := 274) (by omega) (by omega) rfl e54 ?_)
  refine And.intro rfl (m_carryB (a := 275) (by omega) (by omega) rfl e54 ?_)
  refine And.intro rfl (m_carryB (a := 276) (by omega) (by omega) rfl e54 ?_)
  refine And.intro rfl (m_carryB (a := 277) (by omega) (by omega) rfl e54 ?_)
  refine And.intro rfl (m_carryB (a := 278) (by omega) (by omega) rfl e54 ?_)
  refine And.intro rfl (m_carryB (a := 279) (by omega) (by omega) rfl e54 ?_)
  refine And.intro rfl (m_carryB (a := 280) (by omega) (by omega) rfl e54 ?_)
  refine And.intro rfl (m_carryB (a := 281) (by omega) (by omega) rfl e54 ?_)
  refine And.intro rfl (m_carryB (a := 282) (by omega) (by omega) rfl e54 ?_)
  refine And.intro rfl (m_carryB (a := 283) (by omega) (by omega) rfl e54 ?_)
  refine And.intro rfl (m_carryB (a := 284) (by omega) (by omega) rfl e54 ?_)
  refine And.intro rfl (m_carryB (a := 285) (by omega) (by omega) rfl e54 ?_)
  refine And.intro rfl (m_carryB (a := 286) (by omega) (by omega) rfl e54 ?_)
  refine And.intro rfl (m_carryB (a := 287) (by omega) (by omega) rfl e54 ?_)
  refine And.intro rfl (m_carryB (a := 288) (by omega) (by omega) rfl e54 ?_)
  refine And.intro rfl (m_carryB (a := 289) (by omega) (by omega) rfl e54 ?_)
  refine And.intro rfl (m_carryB (a := 268) (by omega) (by omega) rfl e54 ?_)
  refine And.intro rfl (m_carryB (a := 269) (by omega) (by omega) rfl e54 ?_)
  exact fin
end M12
/-! ===== a round sees the ship's rows alone ===== -/
theorem cut_set {v : am_V} {a i : Nat} {x : Int} (h : 266 ≤ a ∧ a ≤ 289) : cutV (vset v a i x) = vset (cutV v) a i x := by
  funext a' i'
  unfold cutV vset
  by_cases h1 : a' = a ∧ i' = i
  · rw [if_pos h1, if_pos h1, if_pos (by omega)]
  · rw [if_neg h1, if_neg h1]
theorem por_cut {v : am_V} {k : Nat} {n : Int} : porZ (cutV v) k n = cutV (porZ v k n) := (cut_set (by omega)).symm
theorem dor_cut {v : am_V} {k : Nat} : dorZ (cutV v) k = cutV (dorZ v k) := by
  unfold dorZ
  dsimp only
  show (if 0 < outZ v (v 266 7) (v 283 k) - max (v 284 k) (insZ v (v 282 k).toNat (v 283 k)) then porZ (cutV v) (v 282 k).toNat (v 285 k * (outZ v (v 266 7) (v 283 k) - max (v 284 k) (insZ v (v 282 k).toNat (v 283 k))) / 100) else cutV v) = _
  split
  · exact por_cut
  · rfl
theorem prt_cut {v : am_V} {k : Nat} : prtZ (cutV v) k = cutV (prtZ v k) := by
  unfold prtZ
  dsimp only
  show (if 0 < insZ v (v 286 k).toNat (v 287 k) - max (v 288 k) (outZ v (v 266 7) (v 287 k)) then porZ (cutV v) (v 286 k).toNat (-(v 289 k * (insZ v (v 286 k).toNat (v 287 k) - max (v 288 k) (outZ v (v 266 7) (v 287 k))) / 100)) else cutV v) = _
  split
  · exact por_cut
  · rfl
theorem drs_cut {v : am_V} {n : Nat} : drsN (cutV v) n = cutV (drsN v n) := by
  induction n with
  | zero => rfl
  | succ n ih =>
    show dorZ (drsN (cutV v) n) n = cutV (dorZ (drsN v n) n)
    rw [ih]; exact dor_cut
theorem pts_cut {v : am_V} {n : Nat} : ptsN (cutV v) n = cutV (ptsN v n) := by
  induction n with
  | zero => rfl
  | succ n ih =>
    show prtZ (ptsN (cutV v) n) n = cutV (prtZ (ptsN v n) n)
    rw [ih]; exact prt_cut
theorem sld_cut {v : am_V} {n : Nat} : sldN (cutV v) n = cutV (sldN v n) := by
  induction n with
  | zero => rfl
  | succ n ih =>
    rw [sld_succ, sld_succ, ih]
    show (if v 279 n < (v 266 7).natAbs then vset (cutV (sldN v n)) 281 n (if 0 < v 266 7 then 1 else -1) else cutV (sldN v n)) = _
    split
    · exact (cut_set (by omega)).symm
    · rfl
theorem seg_cut {g : Nat → Nat → Int} {v : am_V} {a b : Int} : segL g (cutV v) a b = segL g v a b := rfl
theorem do_cut {g : Nat → Nat → Int} {v : am_V} {i : Nat} : doZ g (cutV v) i = cutV (doZ g v i) := by
  unfold doZ
  rw [seg_cut]
  show (if g 1 i = 16 then vset (cutV v) 266 6 (g 4 i) else if g 1 i = 22 then vset (cutV v) 266 5 (max (-99999) (min (segL g v (g 5 i) (g 6 i)).toInt 99999)) else if g 1 i = 19 then (if g 2 i < nP v then porZ (cutV v) (g 2 i).toNat (-(g 4 i)) else cutV v) else if g 1 i = 20 then (if g 2 i < nP v then porZ (cutV v) (g 2 i).toNat (g 4 i) else cutV v) else if g 2 i < nP v ∧ g 3 i < nP v ∧ ¬ g 3 i = g 2 i then vset (vset (cutV v) 276 (g 2 i).toNat (v 276 (g 2 i).toNat - crsZ v (g 2 i).toNat (g 3 i).toNat (g 4 i))) 276 (g 3 i).toNat (v 276 (g 3 i).toNat + crsZ v (g 2 i).toNat (g 3 i).toNat (g 4 i)) else cutV v) = _
  split
  · exact (cut_set (by omega)).symm
  · split
    · exact (cut_set (by omega)).symm
    · split
      · split
        · exact por_cut
        · rfl
      · split
        · split
          · exact por_cut
          · rfl
        · split
          · unfold crsV
            rw [cut_set (by omega), cut_set (by omega)]
          · rfl
theorem cl_cut {g : Nat → Nat → Int} {v : am_V} {i : Nat} : clZ g (cutV v) i = cutV (clZ g v i) := by
  have e : tstZ g (cutV v) i = tstZ g v i := rfl
  by_cases q : tstZ g v i
  · rw [clZ_pos q, clZ_pos (e ▸ q)]; exact do_cut
  · rw [clZ_neg q, clZ_neg (e ▸ q)]
theorem cls_cut {g : Nat → Nat → Int} {v : am_V} {n : Nat} : clsN g (cutV v) n = cutV (clsN g v n) := by
  induction n with
  | zero => rfl
  | succ n ih =>
    show clZ g (clsN g (cutV v) n) n = cutV (clZ g (clsN g v n) n)
    rw [ih]; exact cl_cut
theorem rd5_cut {v : am_V} : rd5 (cutV v) = cutV (rd5 v) := by
  unfold rd5
  rw [cut_set (by omega), cut_set (by omega)]
  rfl
theorem rnd_cut {g : Nat → Nat → Int} {v : am_V} : rndZ g (cutV v) = cutV (rndZ g v) := by
  unfold rndZ
  show (if v 266 7 = 60 ∨ v 266 7 = -60 then vset (cutV v) 266 8 (v 266 8 + 1) else rd5 (rd4 (rd3 (rd2 (rd1 g (cutV v)))))) = _
  split
  · exact (cut_set (by omega)).symm
  · have e1 : rd1 g (cutV v) = cutV (rd1 g v) := cls_cut
    have e2 : ∀ w, rd2 (cutV w) = cutV (rd2 w) := fun w => drs_cut (v := w) (n := nD w)
    have e3 : ∀ w, rd3 (cutV w) = cutV (rd3 w) := fun w => pts_cut (v := w) (n := nO w)
    have e4 : ∀ w, rd4 (cutV w) = cutV (rd4 w) := fun w => sld_cut (v := w) (n := nC w)
    rw [e1, e2, e3, e4, rd5_cut]
