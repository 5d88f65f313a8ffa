/-! ===== best in the class, and told to both ===== -/
def BE (I0 : Nat → Nat → Int32) (J0 : Nat → Nat → Int64) (P n r : Nat) (a : Int × Nat) (I : Nat → Nat → Int32) (J : Nat → Nat → Int64) : Prop := F3 1 I0 J0 I J ∧ I 254 1 = iZ P ∧ I 254 2 = iZ n ∧ I 254 3 = iZ r ∧ I 254 6 = iZ a.1 ∧ (0 ≤ a.1 ∧ a.1 ≤ 61) ∧ (a.1 < 61 → DG P n a.2 I 262)
theorem BE_eq {I0 I I' : Nat → Nat → Int32} {J0 J J' : Nat → Nat → Int64} {P n r : Nat} {a : Int × Nat} (h : BE I0 J0 P n r a I J) (hF : F3 1 I J I' J') (h1 : I' 254 = I 254) (h2 : I' 262 = I 262) : BE I0 J0 P n r a I' J' := by
  obtain ⟨f, e1, e2, e3, e6, ha, hd⟩ := h
  refine ⟨F3_trans f hF, by rw [h1]; exact e1, by rw [h1]; exact e2, by rw [h1]; exact e3, by rw [h1]; exact e6, ha, fun q => ?_⟩
  unfold DG
  rw [h2]
  exact hd q
theorem KP_row {I I' : Nat → Nat → Int32} {r f : Nat} {v : am_V} (hP : nP v ≤ 12) (hC : nC v ≤ 6) (h : ∀ j, f ≤ j → j < f + 47 → I' r j = I r j) (k : KP I r f v) : KP I' r f v := by
  obtain ⟨k1, k2, k3, k4, k5, k6, k7, k8⟩ := k
  refine ⟨fun k hk => ?_, fun k h1 h2 => ?_, fun k hk => ?_, ?_, ?_, ?_, ?_, ?_⟩
  · rw [h _ (by omega) (by omega), h _ (by omega) (by omega), h _ (by omega) (by omega)]; exact k1 k hk
  · rw [h _ (by omega) (by omega)]; exact k2 k h1 h2
  · rw [h _ (by omega) (by omega)]; exact k3 k hk
  · rw [h _ (by omega) (by omega)]; exact k4
  · rw [h _ (by omega) (by omega)]; exact k5
  · rw [h _ (by omega) (by omega)]; exact k6
  · rw [h _ (by omega) (by omega)]; exact k7
  · rw [h _ (by omega) (by omega)]; exact k8
section BEST3
variable {E : Nat × (Nat → Int32)} {d : Nat} {I I0 I1 : Nat → Nat → Int32} {J J0 J1 : Nat → Nat → Int64} {A A1 : Nat → Option Nat} {Q : Option Value → am_M → Prop} {M : am_M} {v w : am_V} {b : Nat}
theorem c_bestI {P n r s p : Nat} {a : Int × Nat} {W w4 : Int} (hB : BE I0 J0 P n r a I J) (hR : RS I J 1 w) (hS : SS v w) (hW : Wf w) (hH : WfH w) (hp : p < 6) (hG : WfG (plV I0 (168 + 9 * p))) (hr : r ≤ 10) (hw : 0 ≤ W ∧ W ≤ 60) (h8 : w 266 8 + r ≤ 99999) (hQ : ∀ I' J' A' u W' x7, BE I0 J0 P n r a I' J' → RS I' J' 1 u → SS v u → Wf u → WfH u → (0 ≤ W' ∧ W' ≤ 60) → I' 261 = I 261 → I' 263 = I 263 → (W' < a.1 → W' = wrN (plV I0 (168 + 9 * p)) r w W ∧ u = rnN (plV I0 (168 + 9 * p)) r w) → (¬ W' < a.1 → a.1 ≤ wrN (plV I0 (168 + 9 * p)) r w W) → wp E (d + 6) 13 90 [(0, .ref 254), (1, .ref 1), (2, .ref 167), (3, .int (iZ s)), (4, .int (iZ w4)), (5, .int (iZ p)), (6, .int (iZ W')), (7, .int x7)] [] (mm I' J' A') Q) : wp E (d + 6) 13 40 [(0, .ref 254), (1, .ref 1), (2, .ref 167), (3, .int (iZ s)), (4, .int (iZ w4)), (5, .int (iZ p)), (6, .int (iZ W)), (7, .int (iZ 0))] [] (mm I J A) Q := by
  obtain ⟨g, eg⟩ : ∃ g, g = plV I0 (168 + 9 * p) := ⟨_, rfl⟩
  obtain ⟨RU, hU⟩ : ∃ R, R = rnN g r w := ⟨_, rfl⟩
  obtain ⟨RW, hRW⟩ : ∃ R, R = wrN g r w W := ⟨_, rfl⟩
  rw [← eg, ← hU, ← hRW] at hQ
  have hg : WfG g := by rw [eg]; exact hG
  have L : ∀ (k i : Nat) I' J' A' u W' x6 x7, i + k = r → BE I0 J0 P n r a I' J' → RS I' J' 1 u → SS v u → Wf u → WfH u → (0 ≤ W' ∧ W' ≤ 60) → I' 261 = I 261 → I' 263 = I 263 → u 266 8 + k ≤ 99999 → wrN g k u W' = RW → rnN g k u = RU → x6 = iZ W' → x7 = iZ i → wp E (d + 6) 13 40 [(0, .ref 254), (1, .ref 1), (2, .ref 167), (3, .int (iZ s)), (4, .int (iZ w4)), (5, .int (iZ p)), (6, .int x6), (7, .int x7)] [] (mm I' J' A') Q := by
    intro k
    induction k with
    | zero =>
      intro i I' J' A' u W' x6 x7 hi hB hR hS hW hH hw e1 e3 h8 h1 h2 e6 e7
      subst e6; subst e7
      have h1 : W' = RW := h1
      have h2 : u = RU := h2
      have H := hQ I' J' A' u W' (iZ (i : Int)) hB hR hS hW hH hw e1 e3 (fun _ => ⟨h1, h2⟩) (fun q => by omega)
      have c3 : I' 254 3 ≤ iZ (i : Int) := by rw [hB.2.2.2.1]; ((try simp (disch := omega) only [z_i8, z_i16, z_of, z_ofN, z_lofN, z_0, z_1, z_m1, z_l0, z_l1, iZ_add, iZ_sub, iZ_mul, iZ_neg, lZ_add, lZ_sub, lZ_mul, lZ_neg, z_div, z_ldiv, z_l, z_i, z_lt, z_le, z_eq, z_llt, z_lle, z_leq, z_cgt, z_cge, z_clt, z_cle, z_ceq, z_cl, z_nat, Int.toNat_natCast, mm_I, mm_J, z_cln, z_abs, z_max, z_min, z_lmax, z_lmin, z_sin, Int.cast_ofNat_Int, uI_I, uI_J, uL_I, uL_J, uA_I, uA_J, sI_eq, sI_ne, sL_eq, sL_ne, up_eq, up_ne, uL_eq, uL_ne, z_toInt, Int.reduceToNat]) <;> omega)
      exact wf (hs := [40, 90]) 20 40 (by decide) (wt c3 H)
    | succ k ih =>
      intro i I' J' A' u W' x6 x7 hi hB hR hS hW hH hw e1 e3 h8 h1 h2 e6 e7
      subst e6; subst e7
      have c3 : ¬ I' 254 3 ≤ iZ (i : Int) := by rw [hB.2.2.2.1]; ((try simp (disch := omega) only [z_i8, z_i16, z_of, z_ofN, z_lofN, z_0, z_1, z_m1, z_l0, z_l1, iZ_add, iZ_sub, iZ_mul, iZ_neg, lZ_add, lZ_sub, lZ_mul, lZ_neg, z_div, z_ldiv, z_l, z_i, z_lt, z_le, z_eq, z_llt, z_lle, z_leq, z_cgt, z_cge, z_clt, z_cle, z_ceq, z_cl, z_nat, Int.toNat_natCast, mm_I, mm_J, z_cln, z_abs, z_max, z_min, z_lmax, z_lmin, z_sin, Int.cast_ofNat_Int, uI_I, uI_J, uL_I, uL_J, uA_I, uA_J, sI_eq, sI_ne, sL_eq, sL_ne, up_eq, up_ne, uL_eq, uL_ne, z_toInt, Int.reduceToNat]) <;> omega)
      have a61 := hB.2.2.2.2.2.1
      have ge := Ge_F3 (r := p) (Or.inl rfl) hp hB.1
      have go := c_go (E := E) (d := d) (A := A') (ρ := 255) (π := 168 + 9 * p) (Q := fun q M => q = none ∧ ∃ I2 J2 A2, M = mm I2 J2 A2 ∧ RS I2 J2 1 (rndZ g u) ∧ F2 255 1 I' J' I2 J2) (Or.inr ⟨rfl, rfl⟩) (by unfold PP; omega) hR hW hH (Ge_G ge hG) (by omega) (fun I2 J2 A2 q1 q2 => ⟨rfl, I2, J2, A2, rfl, by rw [Ge_rnd ge, ← eg] at q1; exact q1, q2⟩)
      by_cases q : W' < a.1
      · have c6 : ¬ I' 254 6 ≤ iZ W' := by rw [hB.2.2.2.2.1]; ((try simp (disch := omega) only [z_i8, z_i16, z_of, z_ofN, z_lofN, z_0, z_1, z_m1, z_l0, z_l1, iZ_add, iZ_sub, iZ_mul, iZ_neg, lZ_add, lZ_sub, lZ_mul, lZ_neg, z_div, z_ldiv, z_l, z_i, z_lt, z_le, z_eq, z_llt, z_lle, z_leq, z_cgt, z_cge, z_clt, z_cle, z_ceq, z_cl, z_nat, Int.toNat_natCast, mm_I, mm_J, z_cln, z_abs, z_max, z_min, z_lmax, z_lmin, z_sin, Int.cast_ofNat_Int, uI_I, uI_J, uL_I, uL_J, uA_I, uA_J, sI_eq, sI_ne, sL_eq, sL_ne, up_eq, up_ne, uL_eq, uL_ne, z_toInt, Int.reduceToNat]) <;> omega)
        have w2 := Wf_rnd hW hH hg (by omega)
        have ll := lean_le w2.1
        have nx : ∀ I2 J2 A2 x6, RS I2 J2 1 (rndZ g u) → F2 255 1 I' J' I2 J2 → x6 = iZ (max W' ((rndZ g u 266 7).natAbs : Int)) → wp E (d + 6) 13 40 [(0, .ref 254), (1, .ref 1), (2, .ref 167), (3, .int (iZ s)), (4, .int (iZ w4)), (5, .int (iZ p)), (6, .int x6), (7, .int (iZ (i : Int) + 1))] [] (mm I2 J2 A2) Q := fun I2 J2 A2 x6 hR2 hF2 e6 => ih (i + 1) I2 J2 A2 _ _ x6 _ (by omega) (BE_eq hB (fun a p1 p2 => hF2 a p1 (by omega)) (hF2 254 (by omega) (by omega)).1 (hF2 262 (by omega) (by omega)).1) hR2 (SS_trans hS SS_rnd) w2.1 w2.2 (by omega) ((hF2 261 (by omega) (by omega)).1.trans e1) ((hF2 263 (by omega) (by omega)).1.trans e3) (by rw [rnd_8]; omega) h1 h2 e6 (iZ_add i 1)
        have hc : p = 0 ∨ p = 1 ∨ p = 2 ∨ p = 3 ∨ p = 4 ∨ p = 5 := by omega
        clear ih hQ h1 h2 eg hG ge
        rcases hc with rfl | rfl | rfl | rfl | rfl | rfl
        all_goals (
          refine wf (hs := [40, 90]) 60 40 (by decide) (wF c3 (wF c6 (And.intro (inL (by decide)) ⟨_, rfl, And.intro rfl (wpC_mono go (fun q M hh => ?_))⟩)))
          obtain ⟨rfl, I2, J2, A2, rfl, hR2, hF2⟩ := hh
          refine wp_keys [0, 1, 2, 3, 4, 5, 6, 7] rfl rfl ?_
          refine nx I2 J2 A2 _ hR2 hF2 ?_
          have e7 : I2 1 7 = iZ (rndZ g u 266 7) := hR2.1.2.2.2.2.2.2.2.1
          simp (disch := omega) only [z_i8, z_i16, z_of, z_ofN, z_lofN, z_0, z_1, z_m1, z_l0, z_l1, iZ_add, iZ_sub, iZ_mul, iZ_neg, lZ_add, lZ_sub, lZ_mul, lZ_neg, z_div, z_ldiv, z_l, z_i, z_lt, z_le, z_eq, z_llt, z_lle, z_leq, z_cgt, z_cge, z_clt, z_cle, z_ceq, z_cl, z_nat, Int.toNat_natCast, mm_I, mm_J, z_cln, z_abs, z_max, z_min, z_lmax, z_lmin, z_sin, Int.cast_ofNat_Int, uI_I, uI_J, uL_I, uL_J, uA_I, uA_J, sI_eq, sI_ne, sL_eq, sL_ne, up_eq, up_ne, uL_eq, uL_ne, z_toInt, Int.reduceToNat, e7])
      · have c6 : I' 254 6 ≤ iZ W' := by rw [hB.2.2.2.2.1]; ((try simp (disch := omega) only [z_i8, z_i16, z_of, z_ofN, z_lofN, z_0, z_1, z_m1, z_l0, z_l1, iZ_add, iZ_sub, iZ_mul, iZ_neg, lZ_add, lZ_sub, lZ_mul, lZ_neg, z_div, z_ldiv, z_l, z_i, z_lt, z_le, z_eq, z_llt, z_lle, z_leq, z_cgt, z_cge, z_clt, z_cle, z_ceq, z_cl, z_nat, Int.toNat_natCast, mm_I, mm_J, z_cln, z_abs, z_max, z_min, z_lmax, z_lmin, z_sin, Int.cast_ofNat_Int, uI_I, uI_J, uL_I, uL_J, uA_I, uA_J, sI_eq, sI_ne, sL_eq, sL_ne, up_eq, up_ne, uL_eq, uL_ne, z_toInt, Int.reduceToNat]) <;> omega)
        have := wrN_ge (g := g) (k + 1) u W'
        exact wf (hs := [40, 90]) 20 40 (by decide) (wF c3 (wt c6 (hQ I' J' A' u W' _ hB hR hS hW hH hw e1 e3 (fun x => absurd x q) (fun _ => by omega))))
  exact L r 0 I J A w W _ _ (by omega) hB hR hS hW hH hw rfl rfl h8 hRW.symm hU.symm rfl rfl
theorem c_bestLeaf {P n r s p c : Nat} {a : Int × Nat} {W w4 : Int} {x7 : Int32} (hB : BE I0 J0 P n r a I J) (hR : RS I J 1 w) (hs : s + 1 = n) (hn : n ≤ 4) (hP : P ≤ 6) (hp : p < P) (hD : DG P s c I 261) (hw : 0 ≤ W ∧ W ≤ 60) (hQ : ∀ I', BE I0 J0 P n r (W, c * P + p) I' J → RS I' J 1 w → I' 263 = I 263 → (∀ j, j < s → I' 261 j = I 261 j) → wp E (d + 6) 13 165 [(0, .ref 254), (1, .ref 1), (2, .ref 167), (3, .int (iZ s)), (4, .int (iZ w4)), (5, .int (iZ p)), (6, .int (iZ W)), (7, .int x7)] [] (mm I' J A) Q) : wp E (d + 6) 13 99 [(0, .ref 254), (1, .ref 1), (2, .ref 167), (3, .int (iZ s)), (4, .int (iZ w4)), (5, .int (iZ p)), (6, .int (iZ W)), (7, .int x7)] [] (mm I J A) Q := by
  have cl : (iZ (s : Int)).toNatClampNeg = s := z_cln (by omega)
  obtain ⟨f, e1, e2, e3, e6, ha, hd⟩ := hB
  have at1 : ∀ a' j, cpI (setI (setI I 261 s (iZ p)) 254 6 (iZ W)) 261 262 0 0 4 a' j = if a' = 262 ∧ j < 4 then (if j = s then iZ p else I 261 j) else if a' = 254 ∧ j = 6 then iZ W else if a' = 261 ∧ j = s then iZ p else I a' j := fun a' j => by
    rw [cpI_at]
    by_cases q : a' = 262 ∧ j < 4
    · rw [if_pos (by omega), if_pos q, show 0 + (j - 0) = j by omega, setI_at, if_neg (by omega), setI_at]
      by_cases q2 : j = s
      · rw [if_pos ⟨rfl, q2⟩, if_pos q2]
      · rw [if_neg (fun x => q2 x.2), if_neg q2]
    · rw [if_neg (by omega), if_neg q, setI_at, setI_at]
  have hI : ∀ a', a' ≠ 261 → a' ≠ 262 → a' ≠ 254 → cpI (setI (setI I 261 s (iZ p)) 254 6 (iZ W)) 261 262 0 0 4 a' = I a' := fun a' h1 h2 h3 => by
    funext j
    rw [at1, if_neg (by omega), if_neg (by omega), if_neg (by omega)]
  have H := hQ (cpI (setI (setI I 261 s (iZ p)) 254 6 (iZ W)) 261 262 0 0 4) ⟨F3_trans f (fun a' q1 q2 => ⟨hI a' (by omega) (by omega) (by omega), rfl⟩), ?_, ?_, ?_, ?_, ⟨hw.1, by dsimp only; omega⟩, fun _ => ?_⟩ (RS_eq (fun a' q1 q2 => ⟨hI a' (by omega) (by omega) (by omega), rfl⟩) hR) (hI 263 (by omega) (by omega) (by omega)) (fun j hj => by rw [at1, if_neg (by omega), if_neg (by omega), if_neg (by omega)])
  · rw [← cl] at H
    have c2 : iZ (s : Int) + 1 = I 254 2 := by rw [e2]; exact (iZ_add s 1).trans (by congr 1; omega)
    refine wf (hs := [165]) 40 99 (by decide) (And.intro (z_in (by omega) (by omega) (by omega)) (wt c2 (And.intro (Nat.succ_pos _) (And.intro ⟨by decide, by decide, by decide, by decide⟩ (And.intro ⟨by decide, by decide⟩ ?_)))))
    rw [cl] at H
    have H2 : wp E (d + 6) 13 165 [(0, .ref 254), (1, .ref 1), (2, .ref 167), (3, .int (iZ s)), (4, .int (iZ w4)), (5, .int (iZ p)), (6, .int (iZ W)), (7, .int x7)] [] (mm (cpI (setI (setI I 261 (iZ (s : Int)).toNatClampNeg (iZ p)) 254 6 (iZ W)) 261 262 0 0 4) J A) Q := by rw [cl]; exact H
    exact H2
  · rw [at1, if_neg (by omega), if_neg (by omega), if_neg (by omega)]; exact e1
  · rw [at1, if_neg (by omega), if_neg (by omega), if_neg (by omega)]; exact e2
  · rw [at1, if_neg (by omega), if_neg (by omega), if_neg (by omega)]; exact e3
  · rw [at1, if_neg (by omega), if_pos ⟨rfl, rfl⟩]
  · intro i hi
    rw [at1, if_pos ⟨rfl, by omega⟩]
    subst hs
    by_cases q : i = s
    · subst q
      rw [if_pos rfl, dig_last hp]
    · rw [if_neg q, dig_more hp (by omega)]
      exact hD i (by omega)
theorem c_ext {P n r : Nat} (hP : 0 < P ∧ P ≤ 6) (hn : n ≤ 4) (hr : r ≤ 10) (hG : ∀ p : Nat, p < P → WfG (plV I0 (168 + 9 * p))) : ∀ (m s : Nat) (I : Nat → Nat → Int32) (J : Nat → Nat → Int64) (A : Nat → Option Nat) (v w : am_V) (W : Int) (c : Nat) (a : Int × Nat) (x3 x4 : Int32) (Q : Option Value → am_M → Prop), s + (m + 1) = n → BE I0 J0 P n r a I J → RS I J 1 w → SS v w → Wf v → WfH v → KP I 263 (47 * s) v → DG P s c I 261 → (0 ≤ W ∧ W ≤ 60) → v 266 8 + 10 * (m + 1) ≤ 99999 → x3 = iZ s → x4 = iZ W → (∀ I' J' A' u, BE I0 J0 P n r (bsF P r (fun p => plV I0 (168 + 9 * p)) (m + 1) v W c a) I' J' → RS I' J' 1 u → SS v u → (∀ j, j < 47 * (s + 1) → I' 263 j = I 263 j) → (∀ j, j < s → I' 261 j = I 261 j) → Q none (mm I' J' A')) → wpC E (d + m + 6) 13 [.ref 254, .ref 1, .ref 167, .int x3, .int x4] (mm I J A) Q := by
  intro m
  induction m with
  | zero =>
    intro s I J A v w W c a x3 x4 Q hs hB hR hS hW hH hK hD hw h8 ex3 ex4 hQ
    subst ex3; subst ex4
    obtain ⟨R, hRR⟩ : ∃ R, R = bsF P r (fun p => plV I0 (168 + 9 * p)) (0 + 1) v W c a := ⟨_, rfl⟩
    rw [← hRR] at hQ
    have L : ∀ (k p : Nat) I' J' A' u x5, p + k = P → BE I0 J0 P n r (fdN (fun p a => bsF P r (fun p => plV I0 (168 + 9 * p)) 0 (rnN (plV I0 (168 + 9 * p)) r v) (wrN (plV I0 (168 + 9 * p)) r v W) (c * P + p) a) p a) I' J' → RS I' J' 1 u → SS v u → (∀ j, j < 47 * (s + 1) → I' 263 j = I 263 j) → (∀ j, j < s → I' 261 j = I 261 j) → x5 = iZ p → wp E (d + 6) 13 12 [(0, .ref 254), (1, .ref 1), (2, .ref 167), (3, .int (iZ s)), (4, .int (iZ W)), (5, .int x5)] [] (mm I' J' A') Q := by
      intro k
      induction k with
      | zero =>
        intro p I' J' A' u x5 hp hB hR hS h3 h1 e5
        have : p = P := by omega
        subst this
        subst e5
        have hB2 : BE I0 J0 p n r R I' J' := by rw [hRR]; exact hB
        have c1 : I' 254 1 ≤ iZ (p : Int) := Int32.le_of_eq hB.2.1
        exact wf (hs := [12]) 20 12 (by decide) (wt c1 (hQ I' J' A' u hB2 hR hS h3 h1))
      | succ k ih =>
        intro p I' J' A' u x5 hp hB hR hS h3 h1 e5
        subst e5
        have ef : fdN (fun p a => bsF P r (fun p => plV I0 (168 + 9 * p)) 0 (rnN (plV I0 (168 + 9 * p)) r v) (wrN (plV I0 (168 + 9 * p)) r v W) (c * P + p) a) (p + 1) a = stp (wrN (plV I0 (168 + 9 * p)) r v W) (c * P + p) (fdN (fun p a => bsF P r (fun p => plV I0 (168 + 9 * p)) 0 (rnN (plV I0 (168 + 9 * p)) r v) (wrN (plV I0 (168 + 9 * p)) r v W) (c * P + p) a) p a) := rfl
        generalize fdN (fun p a => bsF P r (fun p => plV I0 (168 + 9 * p)) 0 (rnN (plV I0 (168 + 9 * p)) r v) (wrN (plV I0 (168 + 9 * p)) r v W) (c * P + p) a) p a = ap at hB ef
        have c1 : ¬ I' 254 1 ≤ iZ (p : Int) := by rw [hB.2.1]; ((try simp (disch := omega) only [z_i8, z_i16, z_of, z_ofN, z_lofN, z_0, z_1, z_m1, z_l0, z_l1, iZ_add, iZ_sub, iZ_mul, iZ_neg, lZ_add, lZ_sub, lZ_mul, lZ_neg, z_div, z_ldiv, z_l, z_i, z_lt, z_le, z_eq, z_llt, z_lle, z_leq, z_cgt, z_cge, z_clt, z_cle, z_ceq, z_cl, z_nat, Int.toNat_natCast, mm_I, mm_J, z_cln, z_abs, z_max, z_min, z_lmax, z_lmin, z_sin, Int.cast_ofNat_Int, uI_I, uI_J, uL_I, uL_J, uA_I, uA_J, sI_eq, sI_ne, sL_eq, sL_ne, up_eq, up_ne, uL_eq, uL_ne, z_toInt, Int.reduceToNat]) <;> omega)
        refine wf (hs := [12, 40]) 40 12 (by decide) (wF c1 (And.intro rfl (c_restore (r := 263) (f := 47 * s) (Or.inr ⟨rfl, rfl⟩) hR hS hW (KP_row (nP12 hW) (nC6 hW) (fun j q1 q2 => h3 j (by omega)) hK) ⟨fun q => by omega, by omega⟩ ((iZ_mul s 47).trans (by congr 1; omega)) (fun I2 hR2 hF2 => ?_))))
        refine wp_keys [0, 1, 2, 3, 4, 5, 6, 7] rfl rfl ?_
        have hB2 := BE_eq hB (I' := I2) (J' := J') (fun a q1 q2 => ⟨hF2 a (by omega), rfl⟩) (hF2 254 (by omega)) (hF2 262 (by omega))
        refine c_bestI hB2 hR2 SS_refl hW hH (by omega) (hG p (by omega)) hr hw (by omega) (fun I3 J3 A3 u3 W3 x7 hB3 hR3 hS3 hW3 hH3 hw3 e1 e3 k1 k2 => ?_)
        have c6 := hB3.2.2.2.2.1
        have a61 := hB3.2.2.2.2.2.1
        have f1 : ∀ j, j < s → I3 261 j = I 261 j := fun j hj => by rw [e1, hF2 261 (by omega)]; exact h1 j hj
        have f3 : ∀ j, j < 47 * (s + 1) → I3 263 j = I 263 j := fun j hj => by rw [e3, hF2 263 (by omega)]; exact h3 j hj
        refine wf (hs := [12, 99, 165]) 40 90 (by decide) (And.intro (fun q => ?_) (fun q => ?_))
        · simp (disch := omega) only [z_i8, z_i16, z_of, z_ofN, z_lofN, z_0, z_1, z_m1, z_l0, z_l1, iZ_add, iZ_sub, iZ_mul, iZ_neg, lZ_add, lZ_sub, lZ_mul, lZ_neg, z_div, z_ldiv, z_l, z_i, z_lt, z_le, z_eq, z_llt, z_lle, z_leq, z_cgt, z_cge, z_clt, z_cle, z_ceq, z_cl, z_nat, Int.toNat_natCast, mm_I, mm_J, z_cln, z_abs, z_max, z_min, z_lmax, z_lmin, z_sin, Int.cast_ofNat_Int, uI_I, uI_J, uL_I, uL_J, uA_I, uA_J, sI_eq, sI_ne, sL_eq, sL_ne, up_eq, up_ne, uL_eq, uL_ne, z_toInt, Int.reduceToNat, c6] at q
          refine wf (hs := [12]) 20 165 (by decide) ?_
          refine wp_keys [0, 1, 2, 3, 4, 5] rfl rfl ?_
          refine ih (p + 1) I3 J3 A3 u3 _ (by omega) ?_ hR3 hS3 f3 f1 (iZ_add p 1)
          rw [ef]
          unfold stp
          rw [if_neg (by have := k2 (by omega); omega)]
          exact hB3
        · simp (disch := omega) only [z_i8, z_i16, z_of, z_ofN, z_lofN, z_0, z_1, z_m1, z_l0, z_l1, iZ_add, iZ_sub, iZ_mul, iZ_neg, lZ_add, lZ_sub, lZ_mul, lZ_neg, z_div, z_ldiv, z_l, z_i, z_lt, z_le, z_eq, z_llt, z_lle, z_leq, z_cgt, z_cge, z_clt, z_cle, z_ceq, z_cl, z_nat, Int.toNat_natCast, mm_I, mm_J, z_cln, z_abs, z_max, z_min, z_lmax, z_lmin, z_sin, Int.cast_ofNat_Int, uI_I, uI_J, uL_I, uL_J, uA_I, uA_J, sI_eq, sI_ne, sL_eq, sL_ne, up_eq, up_ne, uL_eq, uL_ne, z_toInt, Int.reduceToNat, c6] at q
          obtain ⟨k3, k4⟩ := k1 (by omega)
          refine c_bestLeaf (c := c) hB3 hR3 (by omega) hn hP.2 (by omega) (fun i hi => by rw [f1 i hi]; exact hD i hi) hw3 (fun I4 hB4 hR4 e43 e41 => ?_)
          refine wf (hs := [12]) 20 165 (by decide) ?_
          refine wp_keys [0, 1, 2, 3, 4, 5] rfl rfl ?_
          refine ih (p + 1) I4 J3 A3 u3 _ (by omega) ?_ hR4 hS3 (fun j hj => by rw [e43]; exact f3 j hj) (fun j hj => by rw [e41 j hj]; exact f1 j hj) (iZ_add p 1)
          rw [ef]
          unfold stp
          rw [if_pos (by omega), ← k3]
          exact hB4
    have c2 : iZ (s : Int) < I 254 2 := by rw [hB.2.2.1]; ((try simp (disch := omega) only [z_i8, z_i16, z_of, z_ofN, z_lofN, z_0, z_1, z_m1, z_l0, z_l1, iZ_add, iZ_sub, iZ_mul, iZ_neg, lZ_add, lZ_sub, lZ_mul, lZ_neg, z_div, z_ldiv, z_l, z_i, z_lt, z_le, z_eq, z_llt, z_lle, z_leq, z_cgt, z_cge, z_clt, z_cle, z_ceq, z_cl, z_nat, Int.toNat_natCast, mm_I, mm_J, z_cln, z_abs, z_max, z_min, z_lmax, z_lmin, z_sin, Int.cast_ofNat_Int, uI_I, uI_J, uL_I, uL_J, uA_I, uA_J, sI_eq, sI_ne, sL_eq, sL_ne, up_eq, up_ne, uL_eq, uL_ne, z_toInt, Int.reduceToNat]) <;> omega)
    refine wc (hs := [12]) 20 (by decide) (wt c2 ?_)
    refine wp_keys [0, 1, 2, 3, 4, 5] rfl rfl ?_
    exact L P 0 I J A w _ (by omega) hB hR hS (fun _ _ => rfl) (fun _ _ => rfl) rfl
  | succ m IH =>
    intro s I J A v w W c a x3 x4 Q hs hB hR hS hW hH hK hD hw h8 ex3 ex4 hQ
    subst ex3; subst ex4
    obtain ⟨R, hRR⟩ : ∃ R, R = bsF P r (fun p => plV I0 (168 + 9 * p)) (m + 1 + 1) v W c a := ⟨_, rfl⟩
    rw [← hRR] at hQ
    have L : ∀ (k p : Nat) I' J' A' u x5, p + k = P → BE I0 J0 P n r (fdN (fun p a => bsF P r (fun p => plV I0 (168 + 9 * p)) (m + 1) (rnN (plV I0 (168 + 9 * p)) r v) (wrN (plV I0 (168 + 9 * p)) r v W) (c * P + p) a) p a) I' J' → RS I' J' 1 u → SS v u → (∀ j, j < 47 * (s + 1) → I' 263 j = I 263 j) → (∀ j, j < s → I' 261 j = I 261 j) → x5 = iZ p → wp E (d + m + 7) 13 12 [(0, .ref 254), (1, .ref 1), (2, .ref 167), (3, .int (iZ s)), (4, .int (iZ W)), (5, .int x5)] [] (mm I' J' A') Q := by
      intro k
      induction k with
      | zero =>
        intro p I' J' A' u x5 hp hB hR hS h3 h1 e5
        have : p = P := by omega
        subst this
        subst e5
        have hB2 : BE I0 J0 p n r R I' J' := by rw [hRR]; exact hB
        have c1 : I' 254 1 ≤ iZ (p : Int) := Int32.le_of_eq hB.2.1
        exact wf (hs := [12]) 20 12 (by decide) (wt c1 (hQ I' J' A' u hB2 hR hS h3 h1))
      | succ k ih =>
        intro p I' J' A' u x5 hp hB hR hS h3 h1 e5
        subst e5
        have ef : fdN (fun p a => bsF P r (fun p => plV I0 (168 + 9 * p)) (m + 1) (rnN (plV I0 (168 + 9 * p)) r v) (wrN (plV I0 (168 + 9 * p)) r v W) (c * P + p) a) (p + 1) a = bsF P r (fun p => plV I0 (168 + 9 * p)) (m + 1) (rnN (plV I0 (168 + 9 * p)) r v) (wrN (plV I0 (168 + 9 * p)) r v W) (c * P + p) (fdN (fun p a => bsF P r (fun p => plV I0 (168 + 9 * p)) (m + 1) (rnN (plV I0 (168 + 9 * p)) r v) (wrN (plV I0 (168 + 9 * p)) r v W) (c * P + p) a) p a) := rfl
        generalize fdN (fun p a => bsF P r (fun p => plV I0 (168 + 9 * p)) (m + 1) (rnN (plV I0 (168 + 9 * p)) r v) (wrN (plV I0 (168 + 9 * p)) r v W) (c * P + p) a) p a = ap at hB ef
        have c1 : ¬ I' 254 1 ≤ iZ (p : Int) := by rw [hB.2.1]; ((try simp (disch := omega) only [z_i8, z_i16, z_of, z_ofN, z_lofN, z_0, z_1, z_m1, z_l0, z_l1, iZ_add, iZ_sub, iZ_mul, iZ_neg, lZ_add, lZ_sub, lZ_mul, lZ_neg, z_div, z_ldiv, z_l, z_i, z_lt, z_le, z_eq, z_llt, z_lle, z_leq, z_cgt, z_cge, z_clt, z_cle, z_ceq, z_cl, z_nat, Int.toNat_natCast, mm_I, mm_J, z_cln, z_abs, z_max, z_min, z_lmax, z_lmin, z_sin, Int.cast_ofNat_Int, uI_I, uI_J, uL_I, uL_J, uA_I, uA_J, sI_eq, sI_ne, sL_eq, sL_ne, up_eq, up_ne, uL_eq, uL_ne, z_toInt, Int.reduceToNat]) <;> omega)
        refine wf (hs := [12, 40]) 40 12 (by decide) (wF c1 (And.intro rfl (c_restore (r := 263) (f := 47 * s) (Or.inr ⟨rfl, rfl⟩) hR hS hW (KP_row (nP12 hW) (nC6 hW) (fun j q1 q2 => h3 j (by omega)) hK) ⟨fun q => by omega, by omega⟩ ((iZ_mul s 47).trans (by congr 1; omega)) (fun I2 hR2 hF2 => ?_))))
        refine wp_keys [0, 1, 2, 3, 4, 5, 6, 7] rfl rfl ?_
        have hB2 := BE_eq hB (I' := I2) (J' := J') (fun a q1 q2 => ⟨hF2 a (by omega), rfl⟩) (hF2 254 (by omega)) (hF2 262 (by omega))
        refine c_bestI hB2 hR2 SS_refl hW hH (by omega) (hG p (by omega)) hr hw (by omega) (fun I3 J3 A3 u3 W3 x7 hB3 hR3 hS3 hW3 hH3 hw3 e1 e3 k1 k2 => ?_)
        have c6 := hB3.2.2.2.2.1
        have a61 := hB3.2.2.2.2.2.1
        have f1 : ∀ j, j < s → I3 261 j = I 261 j := fun j hj => by rw [e1, hF2 261 (by omega)]; exact h1 j hj
        have f3 : ∀ j, j < 47 * (s + 1) → I3 263 j = I 263 j := fun j hj => by rw [e3, hF2 263 (by omega)]; exact h3 j hj
        have cl : (iZ (s : Int)).toNatClampNeg = s := z_cln (by omega)
        have T : W3 < ap.1 → wp E (d + m + 7) 13 99 [(0, .ref 254), (1, .ref 1), (2, .ref 167), (3, .int (iZ s)), (4, .int (iZ W)), (5, .int (iZ p)), (6, .int (iZ W3)), (7, .int x7)] [] (mm I3 J3 A3) Q := fun q => by
          obtain ⟨k3, k4⟩ := k1 q
          have at1 : ∀ a', a' ≠ 261 → setI I3 261 (iZ (s : Int)).toNatClampNeg (iZ p) a' = I3 a' := fun a' h => by
            funext j
            rw [setI_at, if_neg (fun q => h q.1)]
          have at2 : ∀ j, setI I3 261 (iZ (s : Int)).toNatClampNeg (iZ p) 261 j = if j = s then iZ p else I3 261 j := fun j => by
            rw [setI_at, cl]
            by_cases hj : j = s
            · rw [if_pos ⟨rfl, hj⟩, if_pos hj]
            · rw [if_neg (fun q => hj q.2), if_neg hj]
          have hB4 := BE_eq hB3 (I' := setI I3 261 (iZ (s : Int)).toNatClampNeg (iZ p)) (J' := J3) (fun a' q1 q2 => ⟨at1 a' (by omega), rfl⟩) (at1 254 (by omega)) (at1 262 (by omega))
          have hR4 : RS (setI I3 261 (iZ (s : Int)).toNatClampNeg (iZ p)) J3 1 u3 := RS_eq (fun a' q1 q2 => ⟨at1 a' (by omega), rfl⟩) hR3
          have c2 : ¬ iZ (s : Int) + 1 = I3 254 2 := by
            rw [hB3.2.2.1]
            have : ¬ iZ ((s : Int) + 1) = iZ n := by ((try simp (disch := omega) only [z_i8, z_i16, z_of, z_ofN, z_lofN, z_0, z_1, z_m1, z_l0, z_l1, iZ_add, iZ_sub, iZ_mul, iZ_neg, lZ_add, lZ_sub, lZ_mul, lZ_neg, z_div, z_ldiv, z_l, z_i, z_lt, z_le, z_eq, z_llt, z_lle, z_leq, z_cgt, z_cge, z_clt, z_cle, z_ceq, z_cl, z_nat, Int.toNat_natCast, mm_I, mm_J, z_cln, z_abs, z_max, z_min, z_lmax, z_lmin, z_sin, Int.cast_ofNat_Int, uI_I, uI_J, uL_I, uL_J, uA_I, uA_J, sI_eq, sI_ne, sL_eq, sL_ne, up_eq, up_ne, uL_eq, uL_ne, z_toInt, Int.reduceToNat]) <;> omega)
            rw [← iZ_add] at this
            exact this
          have ck := c_keep (E := E) (d := d + m + 5) (A := A3) (r := 263) (f := 47 * (s + 1)) (x := (iZ (s : Int) + 1) * 47) (Q := fun q M => q = none ∧ ∃ I5, M = mm I5 J3 A3 ∧ KP I5 263 (47 * (s + 1)) u3 ∧ (∀ a, a ≠ 263 → I5 a = setI I3 261 (iZ (s : Int)).toNatClampNeg (iZ p) a) ∧ (∀ j, j < 47 * (s + 1) → I5 263 j = I3 263 j)) (Or.inr ⟨rfl, rfl⟩) hR4 hW3 ⟨fun q => by omega, by omega⟩ (by
            show (iZ (s : Int) + iZ 1) * iZ 47 = _
            rw [iZ_add, iZ_mul]
            congr 1; omega) (fun I5 q1 q2 q3 => ⟨rfl, I5, rfl, q1, q2, fun j hj => by rw [q3 j (by omega), at1 263 (by omega)]⟩)
          refine wf (hs := [165]) 60 99 (by decide) (And.intro (z_in (by omega) (by omega) (by omega)) (wF c2 (And.intro rfl (wpC_mono ck (fun r M hh => ?_)))))
          obtain ⟨rfl, I5, rfl, hK5, hk5, h5⟩ := hh
          have hB5 := BE_eq hB4 (I' := I5) (J' := J3) (fun a' q1 q2 => ⟨hk5 a' (by omega), rfl⟩) (hk5 254 (by omega)) (hk5 262 (by omega))
          have hR5 : RS I5 J3 1 u3 := RS_eq (fun a' q1 q2 => ⟨hk5 a' (by omega), rfl⟩) hR4
          refine And.intro rfl (IH (s + 1) I5 J3 A3 u3 u3 W3 (c * P + p) ap _ _ _ (by omega) hB5 hR5 SS_refl hW3 hH3 hK5 ?_ hw3 ?_ (iZ_add s 1) rfl (fun I6 J6 A6 u6 hB6 hR6 hS6 q3 q1 => ?_))
          · intro i hi
            rw [hk5 261 (by omega), at2]
            by_cases q : i = s
            · subst q
              rw [if_pos rfl, dig_last (by omega)]
            · rw [if_neg q, dig_more (by omega) (by omega), f1 i (by omega)]
              exact hD i (by omega)
          · rw [k4, rnN_8]; omega
          · refine wf (hs := [12]) 20 165 (by decide) ?_
            refine wp_keys [0, 1, 2, 3, 4, 5] rfl rfl ?_
            refine ih (p + 1) I6 J6 A6 u6 _ (by omega) ?_ hR6 (SS_trans hS3 hS6) (fun j hj => ?_) (fun j hj => ?_) (iZ_add p 1)
            · rw [ef, ← k3, ← k4]
              exact hB6
            · rw [q3 j (by omega), h5 j hj]; exact f3 j hj
            · rw [q1 j (by omega), hk5 261 (by omega), at2, if_neg (by omega)]; exact f1 j hj
        refine wf (hs := [12, 99, 165]) 40 90 (by decide) (And.intro (fun q => ?_) (fun q => ?_))
        · simp (disch := omega) only [z_i8, z_i16, z_of, z_ofN, z_lofN, z_0, z_1, z_m1, z_l0, z_l1, iZ_add, iZ_sub, iZ_mul, iZ_neg, lZ_add, lZ_sub, lZ_mul, lZ_neg, z_div, z_ldiv, z_l, z_i, z_lt, z_le, z_eq, z_llt, z_lle, z_leq, z_cgt, z_cge, z_clt, z_cle, z_ceq, z_cl, z_nat, Int.toNat_natCast, mm_I, mm_J, z_cln, z_abs, z_max, z_min, z_lmax, z_lmin, z_sin, Int.cast_ofNat_Int, uI_I, uI_J, uL_I, uL_J, uA_I, uA_J, sI_eq, sI_ne, sL_eq, sL_ne, up_eq, up_ne, uL_eq, uL_ne, z_toInt, Int.reduceToNat, c6] at q
          refine wf (hs := [12]) 20 165 (by decide) ?_
          refine wp_keys [0, 1, 2, 3, 4, 5] rfl rfl ?_
          refine ih (p + 1) I3 J3 A3 u3 _ (by omega) ?_ hR3 hS3 f3 f1 (iZ_add p 1)
          rw [ef, bs_prune _ _ _ _ _ (k2 (by omega))]
          exact hB3
        · simp (disch := omega) only [z_i8, z_i16, z_of, z_ofN, z_lofN, z_0, z_1, z_m1, z_l0, z_l1, iZ_add, iZ_sub, iZ_mul, iZ_neg, lZ_add, lZ_sub, lZ_mul, lZ_neg, z_div, z_ldiv, z_l, z_i, z_lt, z_le, z_eq, z_llt, z_lle, z_leq, z_cgt, z_cge, z_clt, z_cle, z_ceq, z_cl, z_nat, Int.toNat_natCast, mm_I, mm_J, z_cln, z_abs, z_max, z_min, z_lmax, z_lmin, z_sin, Int.cast_ofNat_Int, uI_I, uI_J, uL_I, uL_J, uA_I, uA_J, sI_eq, sI_ne, sL_eq, sL_ne, up_eq, up_ne, uL_eq, uL_ne, z_toInt, Int.reduceToNat, c6] at q
          exact T (by omega)
    have c2 : iZ (s : Int) < I 254 2 := by rw [hB.2.2.1]; ((try simp (disch := omega) only [z_i8, z_i16, z_of, z_ofN, z_lofN, z_0, z_1, z_m1, z_l0, z_l1, iZ_add, iZ_sub, iZ_mul, iZ_neg, lZ_add, lZ_sub, lZ_mul, lZ_neg, z_div, z_ldiv, z_l, z_i, z_lt, z_le, z_eq, z_llt, z_lle, z_leq, z_cgt, z_cge, z_clt, z_cle, z_ceq, z_cl, z_nat, Int.toNat_natCast, mm_I, mm_J, z_cln, z_abs, z_max, z_min, z_lmax, z_lmin, z_sin, Int.cast_ofNat_Int, uI_I, uI_J, uL_I, uL_J, uA_I, uA_J, sI_eq, sI_ne, sL_eq, sL_ne, up_eq, up_ne, uL_eq, uL_ne, z_toInt, Int.reduceToNat]) <;> omega)
    rw [show d + (m + 1) + 6 = d + m + 7 by omega]
    refine wc (hs := [12]) 20 (by decide) (wt c2 ?_)
    refine wp_keys [0, 1, 2, 3, 4, 5] rfl rfl ?_
    exact L P 0 I J A w _ (by omega) hB hR hS (fun _ _ => rfl) (fun _ _ => rfl) rfl
end BEST3
