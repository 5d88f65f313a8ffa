/-! ===== the class: a balance that was taken, and what it answers ===== -/
def BS (β b : Nat) : Prop := (β = 236 ∧ b = 1) ∨ (β = 247 ∧ b = 1) ∨ (β = 256 ∧ b = 1) ∨ (β = 241 ∧ b = 1) ∨ (β = 241 ∧ b = 35) ∨ (β = 241 ∧ b = 68) ∨ (β = 241 ∧ b = 101) ∨ (β = 241 ∧ b = 134)
def RB (I : Nat → Nat → Int32) (J : Nat → Nat → Int64) (A : Nat → Option Nat) (β b : Nat) (v : am_V) (mw mu mom : Int) : Prop :=
  A β = some (b + 1) ∧ I β 1 = iZ (v 266 1) ∧ J β 2 = lZ (totZ v mw) ∧ J β 3 = lZ (upZ v mu) ∧ J β 4 = lZ mom
  ∧ (∃ l : Nat, l ≤ 12 ∧ I β 5 = nI l ∧ (∀ i, i < l → (0 ≤ vJ J (β + 2) i ∧ vJ J (β + 2) i ≤ 128000000000) ∧ (0 ≤ vJ J (β + 3) i ∧ vJ J (β + 3) i ≤ 159840000)) ∧ ∀ z : Int, 0 ≤ z → z ≤ 90 → sm l (fun i => min (vJ J (β + 2) i * sinZ z / 1000) (vJ J (β + 3) i)) = rnsZ v z)
  ∧ ∀ n : Nat, n ≤ 60 → I (b + 1) n = iZ (armZ v n)
/-- weights more than told: in their bounds -/
def WW (mw mu : Int) : Prop := (0 ≤ mw ∧ mw ≤ 200000) ∧ (0 ≤ mu ∧ mu ≤ 3000 * mw)
theorem absZ {z : Int} (h : -2147483647 ≤ z ∧ z ≤ 2147483647) : (if 0 ≤ iZ z then iZ z else 0 - iZ z) = iZ z.natAbs := by
  have k : (0 : Int32) ≤ iZ z ↔ 0 ≤ z := iZ_le (a := 0) ⟨by omega, by omega⟩ ⟨by omega, by omega⟩
  split
  · rename_i q; have q := k.mp q; congr 1; omega
  · rename_i q
    have q : ¬ 0 ≤ z := fun y => q (k.mpr y)
    show iZ 0 - iZ z = _
    rw [iZ_sub]; congr 1; omega
section C2
variable {E : Nat × (Nat → Int32)} {d : Nat} {I : Nat → Nat → Int32} {J : Nat → Nat → Int64} {A : Nat → Option Nat} {Q : Option Value → am_M → Prop} {M : am_M} {β b : Nat} {v : am_V} {mw mu mom : Int}
set_option maxHeartbeats 4000000 in
theorem c_upsetting {n : Nat} {x : Int32} (hb : BS β b) (h : RB I J A β b v mw mu mom) (hW : Wf v) (hm : WW mw mu) (hn : n ≤ 60) (ex : x = iZ n) (hQ : Q (some (.long (lZ (upsZ v mw mu n)))) (mm I J A)) : wpC E (d + 1) 3 [.ref β, .int x] (mm I J A) Q := by
  obtain ⟨hA, h1, h2, h3, h4, ⟨l, hl, h5, h6, h7⟩, h8⟩ := h
  subst ex
  have hc : (iZ (n : Int)).toNatClampNeg = n := by rw [iZ_nat]; exact nIc (by omega)
  have hin : vp_in (iZ (n : Int)) 61 := iZ_in (by omega) (by omega) (by omega)
  have hin2 : vp_in (iZ (n : Int)) 91 := iZ_in (by omega) (by omega) (by omega)
  have sr := sinR (z := (n : Int)) (by omega) (by omega)
  have ub := upB hW (mu := mu) ⟨hm.2.1, by have := hm.1; have := hm.2; omega⟩
  have ue := mulb ub.1 ub.2 sr.1 sr.2
  have tt := totB hW hm.1
  have ar := armB (v := v) (n := n) hW.2.1 hn
  have es : (am_sin (iZ (n : Int)).toNatClampNeg).toInt64 = lZ (sinZ n) := by rw [hc, sin_at (by omega), iZ_l ⟨by omega, by omega⟩]
  have e1 : J β 3 * (am_sin (iZ (n : Int)).toNatClampNeg).toInt64 / lZ 1000 - J β 2 * (I (b + 1) (iZ (n : Int)).toNatClampNeg).toInt64 = lZ (upZ v mu * sinZ n / 1000 - totZ v mw * armZ v n) := by
    rw [es, hc, h8 n hn, h3, h2, iZ_l ⟨by omega, by omega⟩, lZ_mul, lZ_mul, lZ_div ⟨by omega, by omega⟩ ⟨by omega, by omega⟩, Int.tdiv_eq_ediv_of_nonneg ue.1, lZ_sub]
  have fin : lZ (upZ v mu * sinZ n / 1000 - totZ v mw * armZ v n + sm l (fun i => min (vJ J (β + 2) i * sinZ n / 1000) (vJ J (β + 3) i))) = lZ (upsZ v mw mu n) := by
    rw [h7 n (by omega) (by omega)]
    congr 1
    unfold upsZ
    omega
  have step : ∀ (i : Nat) (x4 : Int64), i < l → x4 = lZ (upZ v mu * sinZ n / 1000 - totZ v mw * armZ v n + sm i (fun i => min (vJ J (β + 2) i * sinZ n / 1000) (vJ J (β + 3) i))) → x4 + (if J (β + 3) (nI i).toNatClampNeg < J (β + 2) (nI i).toNatClampNeg * (am_sin (iZ (n : Int)).toNatClampNeg).toInt64 / lZ 1000 then J (β + 3) (nI i).toNatClampNeg else J (β + 2) (nI i).toNatClampNeg * (am_sin (iZ (n : Int)).toNatClampNeg).toInt64 / lZ 1000) = lZ (upZ v mu * sinZ n / 1000 - totZ v mw * armZ v n + sm (i + 1) (fun i => min (vJ J (β + 2) i * sinZ n / 1000) (vJ J (β + 3) i))) := by
    intro i x4 hi e4
    obtain ⟨k1, k2⟩ := h6 i hi
    have m := mulb k1.1 k1.2 sr.1 sr.2
    have f1 : J (β + 2) (nI i).toNatClampNeg * (am_sin (iZ (n : Int)).toNatClampNeg).toInt64 / lZ 1000 = lZ (vJ J (β + 2) i * sinZ n / 1000) := by
      rw [es, nIc (by omega), vJ_eq J, lZ_mul, lZ_div ⟨by omega, by omega⟩ ⟨by omega, by omega⟩, Int.tdiv_eq_ediv_of_nonneg m.1]
    have m2 := Int.ediv_nonneg (a := vJ J (β + 2) i * sinZ n) (b := 1000) m.1 (by omega)
    rw [f1, nIc (by omega), vJ_eq J (β + 3) i, e4]
    have f2 : (if lZ (vJ J (β + 3) i) < lZ (vJ J (β + 2) i * sinZ n / 1000) then lZ (vJ J (β + 3) i) else lZ (vJ J (β + 2) i * sinZ n / 1000)) = lZ (min (vJ J (β + 2) i * sinZ n / 1000) (vJ J (β + 3) i)) := by
      have kk : lZ (vJ J (β + 3) i) < lZ (vJ J (β + 2) i * sinZ n / 1000) ↔ vJ J (β + 3) i < vJ J (β + 2) i * sinZ n / 1000 := lZ_lt ⟨by omega, by omega⟩ ⟨by omega, by omega⟩
      split
      · rename_i q; have q := kk.mp q; congr 1; omega
      · rename_i q; have q : ¬ vJ J (β + 3) i < vJ J (β + 2) i * sinZ n / 1000 := fun y => q (kk.mpr y)
        congr 1; omega
    rw [f2, lZ_add]
    congr 1
    show _ = _ + (sm i (fun i => min (vJ J (β + 2) i * sinZ n / 1000) (vJ J (β + 3) i)) + min (vJ J (β + 2) i * sinZ n / 1000) (vJ J (β + 3) i))
    omega
  generalize (fun i => min (vJ J (β + 2) i * sinZ (n : Int) / 1000) (vJ J (β + 3) i)) = g at fin step
  rcases hb with ⟨rfl, rfl⟩ | ⟨rfl, rfl⟩ | ⟨rfl, rfl⟩ | ⟨rfl, rfl⟩ | ⟨rfl, rfl⟩ | ⟨rfl, rfl⟩ | ⟨rfl, rfl⟩ | ⟨rfl, rfl⟩
  all_goals (
    refine wc (hs := [35]) 60 (by decide) ?_
    refine And.intro hin2 (And.intro (by decide) (And.intro rfl ⟨_, hA, And.intro hin ?_⟩))
    refine wp_pick [3, 4, 2, 1, 0] [6, 4, 2, 0, 1] [0, 1, 2, 4, 6] rfl rfl (by decide) (by decide) ?_
    refine lpU (σ := Int64 × Int32) (fun _ s => wp E (d + 1) 3 35 [(0, .ref _), (1, .int (iZ (n : Int))), (2, .long (am_sin (iZ (n : Int)).toNatClampNeg).toInt64), (4, .long s.1), (6, .int s.2)] [] (mm I J A) Q) (fun i s => s.1 = lZ (upZ v mu * sinZ n / 1000 - totZ v mw * armZ v n + sm i g) ∧ s.2 = nI i) l ?_ ?_ 0 (_, 0) (by omega) ⟨e1.trans (by congr 1; exact (Int.add_zero _).symm), rfl⟩
    · rintro ⟨x1, x2⟩ ⟨g1, g2⟩
      dsimp only at g1 g2
      subst g2
      refine wf (hs := [35]) 60 35 (by decide) ?_
      refine wt ?_ ?_
      · show I _ 5 ≤ nI l
        rw [h5]; exact Int32.le_refl _
      · exact q_l hQ (g1.trans fin)
    · rintro i ⟨x1, x2⟩ hi ⟨g1, g2⟩ ih
      dsimp only at g1 g2
      subst g2
      have hi12 : vp_in (nI i) 12 := vp_in_nI (by omega) (by omega)
      refine wf (hs := [35]) 60 35 (by decide) ?_
      refine wF ?_ ?_
      · show ¬ I _ 5 ≤ nI i
        rw [h5]; exact nI_ge hi (by omega)
      · refine And.intro hi12 (And.intro (by decide) (And.intro hi12 ?_))
        refine wp_pick [2, 3, 4, 1, 0] [6, 4, 0, 1, 2] [0, 1, 2, 4, 6] rfl rfl (by decide) (by decide) ?_
        exact ih (_, nI i + 1) ⟨step i x1 hi g1, nI_1 i⟩)
end C2
