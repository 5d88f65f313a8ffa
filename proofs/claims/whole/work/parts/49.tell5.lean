/-! ===== form, place, ship told to both ===== -/
section OP6
variable {E : Nat × (Nat → Int32)} {d : Nat} {I : Nat → Nat → Int32} {J : Nat → Nat → Int64} {A : Nat → Option Nat} {Q : Option Value → am_M → Prop} {M : am_M}
def mid (f : Nat → Int) (lo r : Nat) : Int := (f lo * (5 - (r : Int)) + f (lo + 5) * (r : Int)) / 5
/-- the arms between two told ones, up to the r-th -/
def fbI (I : Nat → Nat → Int32) (lo : Nat) (f : Nat → Int) (r : Nat) : Nat → Nat → Int32 := fun a j => if a = 2 ∧ lo < j ∧ j < lo + r then iZ (mid f lo (j - lo)) else I a j
theorem c_fillB {lo : Nat} {f : Nat → Int} {x : Int32} (hlo : lo ≤ 55) (ex : x = iZ lo) (h0 : I 2 lo = iZ (f lo)) (h5 : I 2 (lo + 5) = iZ (f (lo + 5))) (r0 : 0 ≤ f lo ∧ f lo ≤ 3000) (r5 : 0 ≤ f (lo + 5) ∧ f (lo + 5) ≤ 3000) (hQ : Q none (mm (fbI I lo f 5) J A)) : wpC E d 68 [.ref 1, .int x] (mm I J A) Q := by
  subst ex
  have st : ∀ (n r : Nat) (y : Int32), r + n = 5 → 1 ≤ r → y = iZ r → wp E d 68 2 [(0, .ref 1), (1, .int (iZ lo)), (2, .int y)] [] (mm (fbI I lo f r) J A) Q := by
    intro n
    induction n with
    | zero =>
      intro r y hr h1 ey
      subst ey
      have : r = 5 := by omega
      subst this
      exact wf (hs := [2]) 20 2 (by decide) (wt (by decide) hQ)
    | succ n ih =>
      intro r y hr h1 ey
      subst ey
      have hin0 : vp_in (iZ (lo : Int)) 61 := z_in (by omega) (by omega) (by omega)
      have hin5 : vp_in (iZ (lo : Int) + iZ 5) 61 := by rw [iZ_add]; exact z_in (by omega) (by omega) (by omega)
      have hinr : vp_in (iZ (lo : Int) + iZ (r : Int)) 61 := by rw [iZ_add]; exact z_in (by omega) (by omega) (by omega)
      have c0 : (iZ (lo : Int)).toNatClampNeg = lo := z_cln (by omega)
      have c5 : (iZ (lo : Int) + iZ 5).toNatClampNeg = lo + 5 := by rw [iZ_add, z_cl (by omega) (by omega)]; omega
      have cr : (iZ (lo : Int) + iZ (r : Int)).toNatClampNeg = lo + r := by rw [iZ_add, z_cl (by omega) (by omega)]; omega
      have m1 := mulb (a := f lo) (b := 5 - (r : Int)) (A := 3000) (B := 5) r0.1 r0.2 (by omega) (by omega)
      have m2 := mulb (a := f (lo + 5)) (b := (r : Int)) (A := 3000) (B := 5) r5.1 r5.2 (by omega) (by omega)
      have g0 : fbI I lo f r 2 lo = iZ (f lo) := by unfold fbI; rw [if_neg (by omega)]; exact h0
      have g5 : fbI I lo f r 2 (lo + 5) = iZ (f (lo + 5)) := by unfold fbI; rw [if_neg (by omega)]; exact h5
      have ev : (fbI I lo f r 2 (iZ (lo : Int)).toNatClampNeg * (iZ 5 - iZ (r : Int)) + fbI I lo f r 2 (iZ (lo : Int) + iZ 5).toNatClampNeg * iZ (r : Int)) / iZ 5 = iZ (mid f lo r) := by
        rw [c0, c5, g0, g5]
        simp (disch := omega) only [z_i8, z_i16, z_of, z_ofN, z_lofN, z_0, z_1, z_m1, z_l0, z_l1, iZ_add, iZ_sub, iZ_mul, iZ_neg, lZ_add, lZ_sub, lZ_mul, lZ_neg, z_div, z_ldiv, z_l, z_i, z_lt, z_le, z_eq, z_llt, z_lle, z_leq, z_cgt, z_cge, z_clt, z_cle, z_ceq, z_cl, z_nat, Int.toNat_natCast, mm_I, mm_J, z_cln, z_abs, z_max, z_min, z_lmax, z_lmin, z_sin, Int.cast_ofNat_Int, uI_I, uI_J, uL_I, uL_J, uA_I, uA_J, sI_eq, sI_ne, sL_eq, sL_ne, up_eq, up_ne, uL_eq, uL_ne, z_toInt, Int.reduceToNat]
        rfl
      have e : setI (fbI I lo f r) 2 (iZ (lo : Int) + iZ (r : Int)).toNatClampNeg ((fbI I lo f r 2 (iZ (lo : Int)).toNatClampNeg * (iZ 5 - iZ (r : Int)) + fbI I lo f r 2 (iZ (lo : Int) + iZ 5).toNatClampNeg * iZ (r : Int)) / iZ 5) = fbI I lo f (r + 1) := by
        rw [ev, cr]
        funext a j
        rw [setI_at]
        unfold fbI
        by_cases h1 : a = 2 ∧ j = lo + r
        · rw [if_pos h1, if_pos (by omega), h1.2, show lo + r - lo = r by omega]
        · rw [if_neg h1]
          by_cases h2 : a = 2 ∧ lo < j ∧ j < lo + r
          · rw [if_pos h2, if_pos (by omega)]
          · rw [if_neg h2, if_neg (by omega)]
      have nx := ih (r + 1) (iZ r + 1) (by omega) (by omega) (iZ_add r 1)
      rw [← e] at nx
      refine wf (hs := [2]) 40 2 (by decide) (wF (by ((try simp (disch := omega) only [z_i8, z_i16, z_of, z_ofN, z_lofN, z_0, z_1, z_m1, z_l0, z_l1, iZ_add, iZ_sub, iZ_mul, iZ_neg, lZ_add, lZ_sub, lZ_mul, lZ_neg, z_div, z_ldiv, z_l, z_i, z_lt, z_le, z_eq, z_llt, z_lle, z_leq, z_cgt, z_cge, z_clt, z_cle, z_ceq, z_cl, z_nat, Int.toNat_natCast, mm_I, mm_J, z_cln, z_abs, z_max, z_min, z_lmax, z_lmin, z_sin, Int.cast_ofNat_Int, uI_I, uI_J, uL_I, uL_J, uA_I, uA_J, sI_eq, sI_ne, sL_eq, sL_ne, up_eq, up_ne, uL_eq, uL_ne, z_toInt, Int.reduceToNat]) <;> omega)) (And.intro hin0 (And.intro hin5 (And.intro (by decide) (And.intro hinr ?_)))))
      refine wp_keys [0, 1, 2] rfl rfl ?_
      exact nx
  refine wc (hs := [2]) 20 (by decide) ?_
  refine wp_keys [0, 1, 2] rfl rfl ?_
  have e1 : fbI I lo f 1 = I := by
    funext a j
    unfold fbI
    rw [if_neg (by omega)]
  have := st 4 1 (iZ 1) (by omega) (by omega) rfl
  rw [e1] at this
  exact this
def shI (I : Nat → Nat → Int32) (k : Nat) (f : Nat → Int) : Nat → Nat → Int32 := fun a j => if a = 2 ∧ 5 * k - 5 < j ∧ j < 5 * k + 5 ∧ j ≤ 60 then (if j < 5 * k then iZ (mid f (5 * k - 5) (j - (5 * k - 5))) else if j = 5 * k then iZ (f (5 * k)) else iZ (mid f (5 * k) (j - 5 * k))) else I a j
theorem c_shape {k : Nat} {n : Int} {f : Nat → Int} (hk : 1 ≤ k ∧ k ≤ 12) (hn : 0 ≤ n ∧ n ≤ 3000) (hf : f (5 * k) = n) (h0 : ∀ q, q ≤ 12 → q ≠ k → I 2 (5 * q) = iZ (f (5 * q))) (r0 : ∀ q, q ≤ 12 → 0 ≤ f (5 * q) ∧ f (5 * q) ≤ 3000) (hQ : Q none (mm (shI I k f) J A)) : wpC E (d + 1) 67 [.ref 1, .int (iZ k), .int (iZ n)] (mm I J A) Q := by
  have i0 : vp_in (iZ 5 * iZ (k : Int)) 61 := by rw [iZ_mul]; exact z_in (by omega) (by omega) (by omega)
  have c0 : (iZ 5 * iZ (k : Int)).toNatClampNeg = 5 * k := by rw [iZ_mul, z_cl (by omega) (by omega)]; omega
  have g0 := h0 (k - 1) (by omega) (by omega)
  have r1 := r0 (k - 1) (by omega)
  have rk := r0 k (by omega)
  have e51 : 5 * (k - 1) = 5 * k - 5 := by omega
  rw [e51] at g0 r1
  obtain ⟨I1, hI1⟩ : ∃ I1, I1 = setI I 2 (iZ 5 * iZ (k : Int)).toNatClampNeg (iZ n) := ⟨_, rfl⟩
  have I1at : ∀ j, I1 2 j = if j = 5 * k then iZ n else I 2 j := fun j => by
    rw [hI1, setI_at, c0]
    by_cases h : j = 5 * k
    · rw [if_pos ⟨rfl, h⟩, if_pos h]
    · rw [if_neg (fun q => h q.2), if_neg h]
  have ex1 : iZ 5 * iZ (k : Int) - iZ 5 = iZ ((5 * k - 5 : Nat) : Int) := by rw [iZ_mul, iZ_sub]; congr 1; omega
  have ex2 : iZ 5 * iZ (k : Int) = iZ ((5 * k : Nat) : Int) := by rw [iZ_mul]; congr 1
  have s55 : 5 * k - 5 + 5 = 5 * k := by omega
  have A1 : ∀ Q', Q' none (mm (fbI I1 (5 * k - 5) f 5) J A) → wpC E d 68 [.ref 1, .int (iZ 5 * iZ (k : Int) - iZ 5)] (mm I1 J A) Q' := fun Q' h => c_fillB (lo := 5 * k - 5) (f := f) (by omega) ex1 (by rw [I1at, if_neg (by omega)]; exact g0) (by rw [s55, I1at, if_pos rfl, hf]) r1 (by rw [s55]; exact rk) h
  refine wc (hs := []) 40 (by decide) (And.intro i0 (And.intro rfl ?_))
  show wpC E d 68 [.ref 1, .int (iZ 5 * iZ (k : Int) - iZ 5)] (mm (setI I 2 (iZ 5 * iZ (k : Int)).toNatClampNeg (iZ n)) J A) _
  rw [← hI1]
  refine A1 _ ?_
  by_cases h12 : k = 12
  · refine wt (by show iZ 60 ≤ iZ 5 * iZ (k : Int); rw [iZ_mul]; ((try simp (disch := omega) only [z_i8, z_i16, z_of, z_ofN, z_lofN, z_0, z_1, z_m1, z_l0, z_l1, iZ_add, iZ_sub, iZ_mul, iZ_neg, lZ_add, lZ_sub, lZ_mul, lZ_neg, z_div, z_ldiv, z_l, z_i, z_lt, z_le, z_eq, z_llt, z_lle, z_leq, z_cgt, z_cge, z_clt, z_cle, z_ceq, z_cl, z_nat, Int.toNat_natCast, mm_I, mm_J, z_cln, z_abs, z_max, z_min, z_lmax, z_lmin, z_sin, Int.cast_ofNat_Int, uI_I, uI_J, uL_I, uL_J, uA_I, uA_J, sI_eq, sI_ne, sL_eq, sL_ne, up_eq, up_ne, uL_eq, uL_ne, z_toInt, Int.reduceToNat]) <;> omega)) ?_
    have : fbI I1 (5 * k - 5) f 5 = shI I k f := by
      funext a j
      unfold fbI shI
      by_cases h1 : a = 2 ∧ 5 * k - 5 < j ∧ j < 5 * k - 5 + 5
      · rw [if_pos h1, if_pos (by omega), if_pos (by omega)]
      · rw [if_neg h1]
        by_cases h2 : a = 2 ∧ j = 5 * k
        · rw [if_pos (by omega), if_neg (by omega), if_pos h2.2, h2.1, I1at, if_pos h2.2, hf]
        · rw [if_neg (by omega), hI1, setI_at, c0, if_neg h2]
    rw [this]; exact hQ
  · refine wF (by show ¬ iZ 60 ≤ iZ 5 * iZ (k : Int); rw [iZ_mul]; ((try simp (disch := omega) only [z_i8, z_i16, z_of, z_ofN, z_lofN, z_0, z_1, z_m1, z_l0, z_l1, iZ_add, iZ_sub, iZ_mul, iZ_neg, lZ_add, lZ_sub, lZ_mul, lZ_neg, z_div, z_ldiv, z_l, z_i, z_lt, z_le, z_eq, z_llt, z_lle, z_leq, z_cgt, z_cge, z_clt, z_cle, z_ceq, z_cl, z_nat, Int.toNat_natCast, mm_I, mm_J, z_cln, z_abs, z_max, z_min, z_lmax, z_lmin, z_sin, Int.cast_ofNat_Int, uI_I, uI_J, uL_I, uL_J, uA_I, uA_J, sI_eq, sI_ne, sL_eq, sL_ne, up_eq, up_ne, uL_eq, uL_ne, z_toInt, Int.reduceToNat]) <;> omega)) ?_
    have g5 := h0 (k + 1) (by omega) (by omega)
    have r5 := r0 (k + 1) (by omega)
    have e5 : 5 * (k + 1) = 5 * k + 5 := by omega
    rw [e5] at g5 r5
    refine And.intro rfl (c_fillB (lo := 5 * k) (f := f) (by omega) ex2 ?_ ?_ rk r5 ?_)
    · unfold fbI; rw [if_neg (by omega), I1at, if_pos rfl, hf]
    · unfold fbI; rw [if_neg (by omega), I1at, if_neg (by omega)]; exact g5
    · have : fbI (fbI I1 (5 * k - 5) f 5) (5 * k) f 5 = shI I k f := by
        funext a j
        unfold fbI shI
        by_cases h0 : a = 2 ∧ 5 * k < j ∧ j < 5 * k + 5
        · rw [if_pos h0, if_pos (by omega), if_neg (by omega), if_neg (by omega)]
        · rw [if_neg h0]
          by_cases h1 : a = 2 ∧ 5 * k - 5 < j ∧ j < 5 * k - 5 + 5
          · rw [if_pos h1, if_pos (by omega), if_pos (by omega)]
          · rw [if_neg h1]
            by_cases h2 : a = 2 ∧ j = 5 * k
            · rw [if_pos (by omega), if_neg (by omega), if_pos h2.2, h2.1, I1at, if_pos h2.2, hf]
            · rw [if_neg (by omega), hI1, setI_at, c0, if_neg h2]
      rw [this]; exact hQ
theorem arm_mid {v : am_V} {q r : Nat} (hq : q < 12) (hr : r < 5) : armZ v (5 * q + r) = (v 267 q * (5 - (r : Int)) + v 267 (q + 1) * (r : Int)) / 5 := by
  unfold armZ
  rw [show (5 * q + r) / 5 = q by omega, show (5 * q + r) % 5 = r by omega, if_neg (by omega)]
theorem arm_0 {v : am_V} {q : Nat} (hq : q ≤ 12) : armZ v (5 * q) = v 267 q := by
  unfold armZ
  rw [show (5 * q) / 5 = q by omega, show (5 * q) % 5 = 0 by omega]
  split
  · rename_i h; rw [h]
  · simp
theorem m_form {k n : Int} (hk : -2147483648 ≤ k ∧ k ≤ 2147483647) (hn : -2147483648 ≤ n ∧ n ≤ 2147483647) (h1 : I 266 0 = 1 → (1 ≤ k ∧ k ≤ 12) ∧ (0 ≤ n ∧ n ≤ 3000) → Q (some (.int (I 267 k.toNat))) (mm (setI I 267 k.toNat (iZ n)) J A)) (h0 : ¬ (I 266 0 = 1 ∧ (1 ≤ k ∧ k ≤ 12) ∧ (0 ≤ n ∧ n ≤ 3000)) → Q (some (.int (iZ (-1)))) (mm I J A)) : wpC E (d + 2) 147 [.ref 265, .int (iZ k), .int (iZ n)] (mm I J A) Q := by
  refine wc (hs := []) 40 (by decide) ?_
  refine And.intro rfl (m_isShip (fun p => wF (by decide) ?_) (fun p => wt rfl (h0 fun q => p q.1)))
  have F : ¬ ((1 ≤ k ∧ k ≤ 12) ∧ (0 ≤ n ∧ n ≤ 3000)) → Q (some (.int (iZ (-1)))) (mm I J A) := fun q => h0 fun r => q r.2
  refine And.intro rfl (mW (z := k) (lo := 1) (hi := 12) (z_l (by omega) (by omega)) rfl rfl (by omega) (by omega) (by omega) (fun g => wF (by decide) ?_) (fun g => wt rfl (F (by omega))))
  refine And.intro rfl (mW (z := n) (lo := 0) (hi := 3000) (z_l (by omega) (by omega)) rfl rfl (by omega) (by omega) (by omega) (fun g => wF (by decide) ?_) (fun g => wt rfl (F (by omega))))
  have hin : vp_in (iZ k) 13 := z_in (by omega) (by omega) (by omega)
  have hcl : (iZ k).toNatClampNeg = k.toNat := z_cl (by omega) (by omega)
  refine And.intro hin (And.intro hin ?_)
  have := h1 p ⟨by omega, by omega⟩
  rw [← hcl] at this
  exact this
theorem Wf_267 {v : am_V} {k : Nat} {n : Int} (h : Wf v) (hk : 1 ≤ k) (hn : 0 ≤ n ∧ n ≤ 3000) : Wf (vset v 267 k n) := by
  refine ⟨h.1, ⟨?_, fun q hq => ?_⟩, h.2.2.1, h.2.2.2⟩
  · rw [vset_ni (by omega)]; exact h.2.1.1
  · by_cases hqk : q = k
    · subst hqk; rw [vset_eq]; exact hn
    · rw [vset_ni hqk]; exact h.2.1.2 q hq
theorem op_form {k n : Int} (h : Inv I J) (hk : -2147483648 ≤ k ∧ k ≤ 2147483647) (hn : -2147483648 ≤ n ∧ n ≤ 2147483647) : wpC E (d + 3) 84 [.ref 0, .int (iZ k), .int (iZ n)] (mm I J A) (QI E (d + 3) 147 [.int (iZ k), .int (iZ n)]) := by
  have F' : ¬ (I 266 0 = 1 ∧ (1 ≤ k ∧ k ≤ 12) ∧ (0 ≤ n ∧ n ≤ 3000)) → QI E (d + 3) 147 [.int (iZ k), .int (iZ n)] (some (.int (iZ (-1)))) (mm I J A) := fun q => QI_mk (m_form hk hn (fun p1 p2 => absurd ⟨p1, p2⟩ q) (fun _ => ⟨rfl, I, J, A, rfl, h⟩))
  rcases h.1 with ⟨g0, g1⟩ | ⟨g0, hW, hH, hR, h8⟩
  · refine wc (hs := []) 40 (by decide) (wt g1 (F' fun q => ?_))
    rw [q.1] at g0; cases g0
  · have F : ¬ ((1 ≤ k ∧ k ≤ 12) ∧ (0 ≤ n ∧ n ≤ 3000)) → QI E (d + 3) 147 [.int (iZ k), .int (iZ n)] (some (.int (iZ (-1)))) (mm I J A) := fun q => F' fun r => q r.2
    have b1 : ¬ I 1 0 = 0 := by have : I 1 0 = 1 := hR.1.1; rw [this]; decide
    refine wc (hs := []) 60 (by decide) (wF b1 ?_)
    refine And.intro rfl (cW (z := k) (lo := 1) (hi := 12) rfl rfl rfl (by omega) (by omega) (by omega) (fun g => wF (by decide) ?_) (fun g => wt rfl (F (by omega))))
    refine And.intro rfl (cW (z := n) (lo := 0) (hi := 3000) rfl rfl rfl (by omega) (by omega) (by omega) (fun g => wF (by decide) ?_) (fun g => wt rfl (F (by omega))))
    have ra : ∀ m : Nat, m ≤ 60 → I 2 m = iZ (armZ (vC I) m) := hR.2.1
    have i0 : vp_in (iZ 5 * iZ k) 61 := by rw [iZ_mul]; exact z_in (by omega) (by omega) (by omega)
    have c0 : (iZ 5 * iZ k).toNatClampNeg = 5 * k.toNat := by rw [iZ_mul, z_cl (by omega) (by omega)]; omega
    have ek : iZ k = iZ (k.toNat : Int) := by congr 1; omega
    have hW2 := Wf_267 (k := k.toNat) (n := n) hW (by omega) (by omega)
    have ew : I 2 (iZ 5 * iZ k).toNatClampNeg = I 267 k.toNat := by
      rw [c0, ra _ (by omega), arm_0 (by omega)]
      exact (vI_eq I 267 k.toNat).symm
    suffices fin : QI E (d + 3) 147 [.int (iZ k), .int (iZ n)] (some (.int (I 2 (iZ 5 * iZ k).toNatClampNeg))) (mm (shI I k.toNat (armZ (vset (vC I) 267 k.toNat n))) J A) by
      refine And.intro i0 (And.intro rfl ?_)
      show wpC E (d + 2) 67 [.ref 1, .int (iZ k), .int (iZ n)] (mm I J A) _
      rw [ek] at fin ⊢
      refine c_shape (k := k.toNat) (n := n) (f := armZ (vset (vC I) 267 k.toNat n)) (by omega) (by omega) ?_ ?_ ?_ fin
      · rw [arm_0 (by omega), vset_eq]
      · intro q hq hne
        rw [ra _ (by omega), arm_0 (by omega), arm_0 (by omega), vset_ni hne]
      · intro q hq
        exact armB hW2.2.1 (by omega)
    rw [ew]
    have hF : FV I J (shI I k.toNat (armZ (vset (vC I) 267 k.toNat n))) J := fun a ha hb => ⟨by
      funext j
      unfold shI
      rw [if_neg (by omega)], rfl⟩
    have hv := FV_vC hF
    have e267 : I 267 k.toNat = shI I k.toNat (armZ (vset (vC I) 267 k.toNat n)) 267 k.toNat := by rw [(hF 267 (by omega) (by omega)).1]
    rw [e267]
    refine QI_mk (m_form hk hn (fun p1 p2 => ?_) (fun q => absurd ⟨by rw [(hF 266 (by omega) (by omega)).1]; exact g0, by omega, by omega⟩ q))
    refine ⟨rfl, _, J, A, rfl, Inv_upd (v := vset (vC I) 267 k.toNat n) h hF (FM_set (by omega)) JF_refl ?_ ?_ (vC_0 g0) hW2 hH h8⟩
    · obtain ⟨r0, -, rp, rc', rd, ro, rl⟩ := id hR
      have oo : ∀ x, x ≠ 2 → shI I k.toNat (armZ (vset (vC I) 267 k.toNat n)) x = I x := fun x hx => by
        funext j
        unfold shI
        rw [if_neg (by omega)]
      refine RS_of ?_ ?_ (RPp_eq rp (fun j h1 h2 => oo _ (by omega)) rfl rfl (fun a i h1 h2 => vset_na (by omega))) (RPc_eq rc' (fun j h1 h2 => oo _ (by omega)) rfl (fun a i h1 h2 => vset_na (by omega))) (RPd_eq rd (fun j h1 h2 => oo _ (by omega)) rfl (fun a i h1 h2 => vset_na (by omega))) (RPo_eq ro (fun j h1 h2 => oo _ (by omega)) rfl (fun a i h1 h2 => vset_na (by omega))) (RPl_eq rl (fun j h1 h2 => oo _ (by omega)) rfl (fun a i h1 h2 => vset_na (by omega)))
      · unfold RSs
        rw [oo 1 (by omega)]
        exact r0
      · intro m hm
        show shI I k.toNat (armZ (vset (vC I) 267 k.toNat n)) 2 m = _
        unfold shI
        by_cases h1 : 5 * k.toNat - 5 < m ∧ m < 5 * k.toNat + 5
        · rw [if_pos (by omega)]
          by_cases h2 : m < 5 * k.toNat
          · rw [if_pos h2]
            congr 1
            have e1 := arm_mid (v := vset (vC I) 267 k.toNat n) (q := k.toNat - 1) (r := m - (5 * k.toNat - 5)) (by omega) (by omega)
            rw [show 5 * (k.toNat - 1) + (m - (5 * k.toNat - 5)) = m by omega] at e1
            rw [e1]
            unfold mid
            rw [show 5 * k.toNat - 5 = 5 * (k.toNat - 1) by omega, arm_0 (by omega), show 5 * (k.toNat - 1) + 5 = 5 * (k.toNat - 1 + 1) by omega, arm_0 (by omega)]
          · rw [if_neg h2]
            by_cases h3 : m = 5 * k.toNat
            · rw [if_pos h3, h3]
            · rw [if_neg h3]
              congr 1
              have e1 := arm_mid (v := vset (vC I) 267 k.toNat n) (q := k.toNat) (r := m - 5 * k.toNat) (by omega) (by omega)
              rw [show 5 * k.toNat + (m - 5 * k.toNat) = m by omega] at e1
              rw [e1]
              unfold mid
              rw [arm_0 (by omega), show 5 * k.toNat + 5 = 5 * (k.toNat + 1) by omega, arm_0 (by omega)]
        · rw [if_neg (by omega), ra m hm]
          congr 1
          unfold armZ
          by_cases h12 : m / 5 = 12
          · rw [if_pos h12, if_pos h12, vset_ni (by omega)]
          · rw [if_neg h12, if_neg h12, vset_ni (show m / 5 ≠ k.toNat by omega)]
            by_cases hq : m / 5 + 1 = k.toNat
            · have : m % 5 = 0 := by omega
              rw [this]; simp
            · rw [vset_ni hq]
    · rw [vC_set (z := n) (by omega) rfl (by omega) (by omega), hv]
end OP6
