/-! ===== the reference: sums, levers, what turns her ===== -/
/-- a loop that counts up -/
theorem lpU {σ : Type} (W I : Nat → σ → Prop) (N : Nat) (hx : ∀ s, I N s → W N s) (hs : ∀ i s, i < N → I i s → (∀ s', I (i + 1) s' → W (i + 1) s') → W i s) : ∀ i s, i ≤ N → I i s → W i s := by
  have key : ∀ n i s, i + n = N → I i s → W i s := by
    intro n
    induction n with
    | zero => intro i s h hi; have : i = N := by omega
              subst this; exact hx s hi
    | succ n ih => intro i s h hi; exact hs i s (by omega) hi (fun s' h' => ih (i + 1) s' (by omega) h')
  intro i s h hi
  exact key (N - i) i s (by omega) hi
theorem rL_rI {z : Int} (h : rI z) : rL z := ⟨by have := h.1; omega, by have := h.2; omega⟩
theorem xL (x : Int32) : x.toInt64 = lZ x.toInt := by
  rw [← Int64.toInt_inj, Int32.toInt_toInt64, lZ_toInt (rL_rI (rI_of x))]
def vJ (J : Nat → Nat → Int64) : am_V := fun a i => (J a i).toInt
theorem vJ_eq (J : Nat → Nat → Int64) (a i : Nat) : J a i = lZ (vJ J a i) := (lZ_of (J a i)).symm
section M2
variable {E : Nat × (Nat → Int32)} {d : Nat} {I : Nat → Nat → Int32} {J : Nat → Nat → Int64} {A : Nat → Option Nat} {Q : Option Value → am_M → Prop} {M : am_M}
theorem IL (a i : Nat) : (I a i).toInt64 = lZ (vI I a i) := xL _
theorem m_without {z : Int} (h : -2147483647 ≤ z ∧ z ≤ 2147483647) (hQ : Q (some (.int (iZ z.natAbs))) M) : wpC E d 142 [.int (iZ z)] M Q := by
  refine wc (hs := []) 20 (by decide) ?_
  refine And.intro (fun q => ?_) (fun q => ?_)
  · refine q_i hQ ?_
    have q : iZ 0 ≤ iZ z := q
    rw [iZ_le ⟨by omega, by omega⟩ ⟨by omega, by omega⟩] at q
    congr 1; omega
  · refine q_i hQ ?_
    have q : ¬ iZ 0 ≤ iZ z := q
    rw [iZ_le ⟨by omega, by omega⟩ ⟨by omega, by omega⟩] at q
    show -iZ z = _
    rw [iZ_neg]; congr 1; omega
theorem m_between {z lo hi : Int} (h1 : rL z) (h2 : rL lo) (h3 : rL hi) (h : lo ≤ hi) (hQ : Q (some (.long (lZ (max lo (min z hi))))) M) : wpC E d 140 [.long (lZ z), .long (lZ lo), .long (lZ hi)] M Q := by
  refine wc (hs := []) 20 (by decide) ?_
  refine And.intro (fun q => ?_) (fun q => ?_)
  · have q := (lg_cmp_ge _ _).mp q
    rw [lZ_le h2 h1] at q
    refine And.intro (fun r => ?_) (fun r => ?_)
    · have r := (lg_cmp_le _ _).mp r
      rw [lZ_le h1 h3] at r
      refine q_l hQ ?_
      congr 1; omega
    · have r : ¬ lZ z ≤ lZ hi := fun y => r ((lg_cmp_le _ _).mpr y)
      rw [lZ_le h1 h3] at r
      refine q_l hQ ?_
      congr 1; omega
  · have q : ¬ lZ lo ≤ lZ z := fun y => q ((lg_cmp_ge _ _).mpr y)
    rw [lZ_le h2 h1] at q
    refine q_l hQ ?_
    congr 1; omega
/-- floor of a by b -/
theorem tdiv_floor {a b : Int} (hb : 0 < b) : (if a - a.tdiv b * b < 0 then a.tdiv b - 1 else a.tdiv b) = a / b := by
  have h1 := Int.tmod_add_mul_tdiv a b
  have h2 : a - a.tdiv b * b = a.tmod b := by
    have : b * a.tdiv b = a.tdiv b * b := Int.mul_comm _ _
    omega
  rw [h2]
  by_cases ha : 0 ≤ a
  · rw [if_neg (by have := Int.tmod_nonneg b ha; omega), Int.tdiv_eq_ediv_of_nonneg ha]
  · have h3 := Int.emod_add_mul_ediv a b
    have h4 := Int.emod_nonneg a (show b ≠ 0 by omega)
    have h5 := Int.emod_lt_of_pos a hb
    have h6 : a.tmod b ≤ 0 := by
      have := Int.tmod_nonneg b (show 0 ≤ -a by omega)
      rw [Int.neg_tmod] at this
      omega
    have h7 : -b < a.tmod b := by
      have := Int.tmod_lt_of_pos (-a) hb
      rw [Int.neg_tmod] at this
      omega
    have h8 : b * a.tdiv b + a.tmod b = b * (a / b) + a % b := by omega
    split
    · rename_i hlt
      have h9 : b * (a.tdiv b - 1 - a / b) = a % b - a.tmod b - b := by rw [Int.mul_sub, Int.mul_sub]; omega
      have h10 : -b < b * (a.tdiv b - 1 - a / b) := by omega
      have h11 : b * (a.tdiv b - 1 - a / b) < b := by omega
      have h12 : a.tdiv b - 1 - a / b = 0 := by
        rcases Int.lt_trichotomy (a.tdiv b - 1 - a / b) 0 with z | z | z
        · have : b * (a.tdiv b - 1 - a / b) ≤ b * (-1) := Int.mul_le_mul_of_nonneg_left (by omega) (by omega)
          omega
        · exact z
        · have : b * 1 ≤ b * (a.tdiv b - 1 - a / b) := Int.mul_le_mul_of_nonneg_left (by omega) (by omega)
          omega
      omega
    · rename_i hlt
      have h9 : b * (a.tdiv b - a / b) = a % b - a.tmod b := by rw [Int.mul_sub]; omega
      have h12 : a.tdiv b - a / b = 0 := by
        rcases Int.lt_trichotomy (a.tdiv b - a / b) 0 with z | z | z
        · have : b * (a.tdiv b - a / b) ≤ b * (-1) := Int.mul_le_mul_of_nonneg_left (by omega) (by omega)
          omega
        · exact z
        · have : b * 1 ≤ b * (a.tdiv b - a / b) := Int.mul_le_mul_of_nonneg_left (by omega) (by omega)
          omega
      omega
theorem m_floor {a b : Int} (ha : -9000000000000000000 ≤ a ∧ a ≤ 9000000000000000000) (hb : 0 < b ∧ b ≤ 9000000000000000000) (hQ : Q (some (.long (lZ (a / b)))) M) : wpC E d 141 [.long (lZ a), .long (lZ b)] M Q := by
  have ra : rL a := ⟨by omega, by omega⟩
  have rb : rL b := ⟨by omega, by omega⟩
  have hne : ¬ lZ b = 0 := by
    intro q
    have := (lZ_eq rb (b := 0) ⟨by omega, by omega⟩).mp q
    omega
  have e : lZ a - lZ a / lZ b * lZ b = lZ (a - a.tdiv b * b) := by rw [lZ_div ra rb, lZ_mul, lZ_sub]
  have hm : rL (a - a.tdiv b * b) := by
    have h1 := Int.tmod_add_mul_tdiv a b
    have h2 : b * a.tdiv b = a.tdiv b * b := Int.mul_comm _ _
    have h3 : (a.tmod b).natAbs ≤ a.natAbs := by rw [Int.natAbs_tmod]; exact Nat.mod_le _ _
    unfold rL
    omega
  refine wc (hs := []) 30 (by decide) ?_
  refine And.intro hne ?_
  refine And.intro (fun q => ?_) (fun q => ?_)
  · have q := (lg_cmp_ge _ _).mp q
    have q : lZ 0 ≤ lZ (a - a.tdiv b * b) := by rw [← e]; exact q
    rw [lZ_le ⟨by omega, by omega⟩ hm] at q
    refine And.intro hne ?_
    refine q_l hQ ?_
    show lZ a / lZ b = _
    rw [lZ_div ra rb, ← tdiv_floor hb.1, if_neg (by omega)]
  · have q : ¬ lZ 0 ≤ lZ (a - a.tdiv b * b) := fun y => q ((lg_cmp_ge _ _).mpr (by rw [← e] at y; exact y))
    rw [lZ_le ⟨by omega, by omega⟩ hm] at q
    refine And.intro hne ?_
    refine q_l hQ ?_
    show lZ a / lZ b - lZ 1 = _
    rw [lZ_div ra rb, ← tdiv_floor hb.1, if_pos (by omega), lZ_sub]
/-- a place's number -/
def IP (I : Nat → Nat → Int32) (x : Int32) : Prop := I 266 0 = 1 ∧ 0 ≤ x.toInt ∧ x.toInt < vI I 266 9
theorem m_isPlace {x : Int32} (hS : I 266 0 = 1 → WfS (vI I)) (h1 : IP I x → Q (some (.int 1)) (mm I J A)) (h0 : ¬ IP I x → Q (some (.int 0)) (mm I J A)) : wpC E (d + 1) 144 [.ref 265, .int x] (mm I J A) Q := by
  refine wc (hs := []) 40 (by decide) ?_
  refine And.intro rfl (m_isShip (fun q => ?_) (fun q => ?_))
  · refine wF (by decide) (And.intro (inL (by decide)) (And.intro rfl ?_))
    have hs := (hS q).2.2.2.2.2.2.2.2.1
    have e1 : (I 266 9 - iZ 1).toInt64 = lZ (vI I 266 9 - 1) := by rw [vI_eq I 266 9, iZ_sub, iZ_l ⟨by omega, by omega⟩]
    have r := rI_of x
    have key : (lZ 0 ≤ x.toInt64 ∧ x.toInt64 ≤ (I 266 9 - iZ 1).toInt64) ↔ (0 ≤ x.toInt ∧ x.toInt < vI I 266 9) := by
      rw [e1, xL, lZ_le ⟨by omega, by omega⟩ (rL_rI r), lZ_le (rL_rI r) ⟨by omega, by omega⟩]
      omega
    refine m_in (fun y => ?_) (fun y => ?_)
    · refine wF (by decide) (And.intro rfl (h1 ⟨q, key.mp y⟩))
    · refine wt rfl (And.intro rfl (h0 fun z => y (key.mpr z.2)))
  · refine wt rfl (And.intro rfl (h0 fun z => q z.1))
theorem m_leverAt {n : Nat} (hn : n ≤ 60) (hW : WfL (vI I)) (hQ : Q (some (.int (iZ (armZ (vI I) n)))) (mm I J A)) : wpC E d 159 [.ref 265, .int (nI n)] (mm I J A) Q := by
  have e1 : nI n / nI 5 = nI (n / 5) := pk_div (by omega) (by omega) (by omega)
  have e2 : nI n - nI n / nI 5 * nI 5 = nI (n % 5) := pk_rem (by omega) (by omega) (by omega)
  refine wc (hs := []) 60 (by decide) ?_
  refine And.intro (by decide) ?_
  refine And.intro (fun q => ?_) (fun q => ?_)
  · have q : nI n / nI 5 = nI 12 := q
    rw [e1, nI_eq (by omega) (by omega)] at q
    refine And.intro (inL (by decide)) ?_
    refine q_i hQ ?_
    show I 267 12 = _
    unfold armZ
    rw [if_pos q]; exact vI_eq I 267 12
  · have q : ¬ nI n / nI 5 = nI 12 := q
    rw [e1, nI_eq (by omega) (by omega)] at q
    have hb := hW.2 (n / 5) (by omega)
    have hc := hW.2 (n / 5 + 1) (by omega)
    refine And.intro ?_ (And.intro (by decide) (And.intro ?_ (And.intro (by decide) (And.intro (by decide) ?_))))
    · show vp_in (nI n / nI 5) 13
      rw [e1]; exact vp_in_nI (by omega) (by omega)
    · show vp_in (nI n / nI 5 + nI 1) 13
      rw [e1, nI_add]; exact vp_in_nI (by omega) (by omega)
    · refine q_i hQ ?_
      show (I 267 (nI n / nI 5).toNatClampNeg * (nI 5 - (nI n - nI n / nI 5 * nI 5)) + I 267 (nI n / nI 5 + nI 1).toNatClampNeg * (nI n - nI n / nI 5 * nI 5)) / iZ 5 = _
      have b1 := mulb (a := vI I 267 (n / 5)) (b := 5 - ((n % 5 : Nat) : Int)) (A := 3000) (B := 5) hb.1 hb.2 (by omega) (by omega)
      have b2 := mulb (a := vI I 267 (n / 5 + 1)) (b := ((n % 5 : Nat) : Int)) (A := 3000) (B := 5) hc.1 hc.2 (by omega) (by omega)
      rw [e2, e1, nI_add, nIc (by omega), nIc (by omega), vI_eq I 267 (n / 5), vI_eq I 267 (n / 5 + 1), show nI 5 = iZ 5 from rfl, ← iZ_nat (n % 5), iZ_sub, iZ_mul, iZ_mul, iZ_add, iZ_div ⟨by omega, by omega⟩ ⟨by omega, by omega⟩, Int.tdiv_eq_ediv_of_nonneg (by omega)]
      unfold armZ
      rw [if_neg q]
theorem m_total (h : WfS (vI I)) (hQ : Q (some (.int (iZ (totZ (vI I) (vI I 265 25))))) (mm I J A)) : wpC E d 160 [.ref 265] (mm I J A) Q := by
  have hle := nC_le h
  refine wc (hs := [14, 42]) 60 (by decide) ?_
  refine And.intro (inL (by decide)) ?_
  refine wp_pick [2, 1, 0] [2, 1, 0] [0, 1, 2] rfl rfl (by decide) (by decide) ?_
  refine lpU (σ := Int32 × Int32) (fun _ s => wp E d 160 14 [(0, .ref 265), (1, .int s.1), (2, .int s.2)] [] (mm I J A) Q) (fun i s => s.1 = iZ (vI I 266 2 + vI I 265 25 + sm i (fun k => vI I 277 k)) ∧ s.2 = nI i) (nC (vI I)) ?_ ?_ 0 (I 266 2 + I 265 25, 0) (by omega) ⟨?_, rfl⟩
  · rintro ⟨x1, x2⟩ ⟨e1, e2⟩
    dsimp only at e1 e2
    refine wf (hs := [14, 42]) 60 14 (by decide) ?_
    refine And.intro (inL (by decide)) (wt ?_ ?_)
    · show I 266 10 ≤ x2
      rw [I_nC h, e2]; exact Int32.le_refl _
    · refine wp_pick [1, 2, 0] [2, 0, 1] [0, 1, 2] rfl rfl (by decide) (by decide) ?_
      refine m_tot2 h (nP (vI I)) 0 _ _ _ (by omega) e1 rfl ?_
      refine q_i hQ ?_
      congr 1
      unfold totZ
      show _ + (_ - 0) = _
      omega
  · rintro i ⟨x1, x2⟩ hi ⟨e1, e2⟩ ih
    dsimp only at e1 e2
    refine wf (hs := [14, 42]) 60 14 (by decide) ?_
    refine And.intro (inL (by decide)) (wF ?_ ?_)
    · show ¬ I 266 10 ≤ x2
      rw [I_nC h, e2]; exact nI_ge hi (by omega)
    · refine And.intro (by rw [e2]; exact vp_in_nI (by omega) (by omega)) ?_
      refine wp_pick [2, 1, 0] [2, 1, 0] [0, 1, 2] rfl rfl (by decide) (by decide) ?_
      refine ih (x1 + I 277 x2.toNatClampNeg, x2 + 1) ⟨?_, ?_⟩
      · show x1 + I 277 x2.toNatClampNeg = _
        rw [e1, e2, nIc (by omega), vI_eq I 277, iZ_add]
        congr 1
        show _ = _ + (sm i (fun k => vI I 277 k) + vI I 277 i)
        omega
      · show x2 + 1 = _
        rw [e2]; exact nI_1 i
  · show I 266 2 + I 265 25 = iZ (_ + 0)
    rw [vI_eq I 266 2, vI_eq I 265 25, iZ_add, Int.add_zero]
end M2
