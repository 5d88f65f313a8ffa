/-! ===== night in the class, told to both ===== -/
def FNb (v : am_V) (n : Nat) (b : Int) (f : Nat) : Prop := b ≤ stN v n f ∧ (SRc (stpN v n b) n (avl n f).length f 0).isSome = true
theorem sr_first {v : am_V} {n f i0 : Nat} {b : Int} (hn : n < 7) (hf : f < 2 ^ n) (hi : i0 < n) (h0 : f.testBit i0 = false) (h1 : FNb v n b (f ||| 2 ^ i0)) (h2 : ∀ i, i < i0 → f.testBit i = false → ¬ FNb v n b (f ||| 2 ^ i)) : ∃ l, SRc (stpN v n b) n (avl n (f ||| 2 ^ i0)).length (f ||| 2 ^ i0) 0 = some l ∧ SRc (stpN v n b) n (avl n f).length f 0 = some (i0 :: l) := by
  have af := av_facts hn hf
  have k0 := (af.2 i0 hi h0).1
  obtain ⟨l, hl⟩ := Option.isSome_iff_exists.mp h1.2
  refine ⟨l, hl, ?_⟩
  rw [← k0]
  show (avl n f).findSome? _ = _
  unfold avl
  refine first_sr (i0 := i0) (by rw [h0]; rfl) ?_ ?_ n hi
  · have hs : stpN v n b f 0 i0 = some 0 := if_pos h1.1
    rw [hs]
    dsimp only
    have : ((List.range n).filter (fun i => !(f ||| 2 ^ i0).testBit i)).length = (avl n (f ||| 2 ^ i0)).length := rfl
    rw [this, hl]; rfl
  · intro i hi2 hb
    have hb : f.testBit i = false := by simpa using hb
    have ki := (af.2 i (by omega) hb).1
    by_cases q : b ≤ stN v n (f ||| 2 ^ i)
    · have hs : stpN v n b f 0 i = some 0 := if_pos q
      rw [hs]
      dsimp only
      have : ((List.range n).filter (fun i => !(f ||| 2 ^ i0).testBit i)).length = (avl n (f ||| 2 ^ i)).length := by
        show (avl n (f ||| 2 ^ i0)).length = _
        omega
      rw [this]
      cases hs : SRc (stpN v n b) n (avl n (f ||| 2 ^ i)).length (f ||| 2 ^ i) 0 with
      | none => rfl
      | some l' => exact absurd ⟨q, by rw [hs]; rfl⟩ (h2 i hi2 hb)
    · have hs : stpN v n b f 0 i = none := if_neg q
      rw [hs]
theorem sr_none {v : am_V} {n f : Nat} {b : Int} (hn : n < 7) (hf : f < 2 ^ n) (hne : (avl n f).length ≠ 0) (h2 : ∀ i, i < n → f.testBit i = false → ¬ FNb v n b (f ||| 2 ^ i)) : SRc (stpN v n b) n (avl n f).length f 0 = none := by
  have af := av_facts hn hf
  obtain ⟨K, hK⟩ : ∃ K, (avl n f).length = K + 1 := ⟨(avl n f).length - 1, by omega⟩
  rw [hK]
  show (avl n f).findSome? _ = _
  unfold avl
  refine none_sr (fun i hi hb => ?_)
  have hb : f.testBit i = false := by simpa using hb
  have ki := (af.2 i hi hb).1
  by_cases q : b ≤ stN v n (f ||| 2 ^ i)
  · have hs : stpN v n b f 0 i = some 0 := if_pos q
    rw [hs]
    dsimp only
    have : K = (avl n (f ||| 2 ^ i)).length := by omega
    rw [this]
    cases hs : SRc (stpN v n b) n (avl n (f ||| 2 ^ i)).length (f ||| 2 ^ i) 0 with
    | none => rfl
    | some l' => exact absurd ⟨q, by rw [hs]; rfl⟩ (h2 i hi hb)
  · have hs : stpN v n b f 0 i = none := if_neg q
    rw [hs]
theorem sr_iff {v : am_V} {n f : Nat} {b : Int} (hn : n < 7) (hf : f < 2 ^ n) : (SRc (stpN v n b) n (avl n f).length f 0).isSome = true ↔ f = 2 ^ n - 1 ∨ ∃ i, i < n ∧ f.testBit i = false ∧ FNb v n b (f ||| 2 ^ i) := by
  have af := av_facts hn hf
  constructor
  · intro h
    by_cases q : f = 2 ^ n - 1
    · exact Or.inl q
    · refine Or.inr (Classical.byContradiction fun x => ?_)
      rw [sr_none hn hf (fun y => q (af.1.mpr y)) (fun i hi hb hF => x ⟨i, hi, hb, hF⟩)] at h
      cases h
  · rintro (h | ⟨i, hi, hb, hF⟩)
    · rw [af.1.mp h]; rfl
    · obtain ⟨i0, ⟨g1, g2, g3⟩, g4⟩ := pk_least (fun i => i < n ∧ f.testBit i = false ∧ FNb v n b (f ||| 2 ^ i)) ⟨i, hi, hb, hF⟩
      obtain ⟨l, -, hl⟩ := sr_first hn hf g1 g2 g3 (fun j hj hb2 hF2 => g4 j hj ⟨by omega, hb2, hF2⟩)
      rw [hl]; rfl
section NIGHT2
variable {E : Nat × (Nat → Int32)} {d : Nat} {I I0 I1 : Nat → Nat → Int32} {J J0 J1 : Nat → Nat → Int64} {A A1 : Nat → Option Nat} {Q : Option Value → am_M → Prop} {M : am_M} {v : am_V}
theorem c_stiffW {f : Nat} {x : Int32} (hR : RS I J 1 v) (hW : Wf v) (hH : WfH v) (hf : f < 64) (ex : x = iZ f) (hQ : ∀ I' J' A', FS I J I' J' → RS I' J' 1 v → Q (some (.long (lZ (stN v (nL v) f)))) (mm I' J' A')) : wpC E (d + 3) 120 [.ref 0, .int x] (mm I J A) Q := by
  subst ex
  have n6 : nL v ≤ 6 := by have := hW.1.2.2.2.2.2.2.2.2.2.2.2.2; unfold nL; omega
  refine wc (hs := [13]) 30 (by decide) (And.intro rfl (c_takeV hW hR (fun I1 J1 A1 hB1 hR1 hF1 => ?_)))
  refine wp_keys [0, 1, 2] rfl rfl ?_
  have L := lpU (σ := (Nat → Nat → Int64) × Int32) (fun _ s => wp E (d + 3) 120 13 [(0, .ref 0), (1, .int (iZ f)), (2, .int s.2)] [] (mm I1 s.1 A1) Q) (fun i s => (RB I1 s.1 A1 236 1 v (lwZ v i f) (luZ v i f) (asdZ v) ∧ ∀ a, a ≠ 236 → s.1 a = J1 a) ∧ s.2 = iZ i) (nL v) ?_ ?_
  · exact L 0 (J1, _) (by omega) ⟨⟨hB1, fun _ _ => rfl⟩, rfl⟩
  · rintro ⟨J2, y⟩ ⟨⟨hB, hJ⟩, ey⟩
    dsimp only at hB hJ ey
    subst ey
    have hR2 : RS I1 J2 1 v := RS_eq (fun a q1 q2 => ⟨rfl, hJ a (by omega)⟩) hR1
    have c0 : I1 31 0 ≤ iZ (nL v : Int) := by have := hR1.2.2.2.2.2.2.1; exact Int32.le_of_eq this
    exact wf (hs := [13]) 30 13 (by decide) (wt c0 (And.intro rfl (c_stiffness (Or.inl ⟨rfl, rfl⟩) hB hW (ld_ok hH (Nat.le_refl _) n6) (hQ I1 J2 A1 (fun a ha => ⟨(hF1 a ha).1, (hJ a (by omega)).trans (hF1 a ha).2⟩) hR2))))
  · rintro i ⟨J2, y⟩ hi ⟨⟨hB, hJ⟩, ey⟩ ih
    dsimp only at hB hJ ey
    subst ey
    have e0 : I1 31 0 = iZ (nL v : Int) := hR1.2.2.2.2.2.2.1
    have c0 : ¬ I1 31 0 ≤ iZ (i : Int) := by rw [e0]; ((try simp (disch := omega) only [z_i8, z_i16, z_of, z_ofN, z_lofN, z_0, z_1, z_m1, z_l0, z_l1, iZ_add, iZ_sub, iZ_mul, iZ_neg, lZ_add, lZ_sub, lZ_mul, lZ_neg, z_div, z_ldiv, z_l, z_i, z_lt, z_le, z_eq, z_llt, z_lle, z_leq, z_cgt, z_cge, z_clt, z_cle, z_ceq, z_cl, z_nat, Int.toNat_natCast, mm_I, mm_J, z_cln, z_abs, z_max, z_min, z_lmax, z_lmin, z_sin, Int.cast_ofNat_Int, uI_I, uI_J, uL_I, uL_J, uA_I, uA_J, sI_eq, sI_ne, sL_eq, sL_ne, up_eq, up_ne, uL_eq, uL_ne, z_toInt, Int.reduceToNat]) <;> omega)
    have el := hR1.2.2.2.2.2.2.2 i hi
    have ci : (iZ (i : Int)).toNatClampNeg = i := z_cln (by omega)
    have inn : vp_in (iZ (i : Int)) 6 := z_in (by omega) (by omega) (by omega)
    have w := hH.2.2 i hi
    have bb := bi_bit (f := f) (i := i) (by omega) (by omega)
    have es : lwZ v (i + 1) f = lwZ v i f + (if f.testBit i then v 268 i else 0) := rfl
    have eu : luZ v (i + 1) f = luZ v i f + (if f.testBit i then v 268 i * v 269 i else 0) := rfl
    refine wf (hs := [13]) 60 13 (by decide) (wF c0 ?_)
    cases hb : f.testBit i with
    | true =>
      rw [hb] at bb es eu
      refine wt bb (And.intro inn (And.intro inn (And.intro rfl (c_bear (w := v 268 i) (h := v 269 i) hB ⟨by have := w.1; omega, w.1.2⟩ w.2 ?_ ?_ (fun J3 hB3 hJ3 => ?_)))))
      · show I1 32 (iZ (i : Int)).toNatClampNeg = _
        rw [ci]; exact el.1
      · show I1 33 (iZ (i : Int)).toNatClampNeg = _
        rw [ci]; exact el.2
      · refine wp_keys [0, 1, 2] rfl rfl ?_
        refine ih (J3, _) ⟨⟨?_, fun a ha => (hJ3 a ha).trans (hJ a ha)⟩, iZ_add i 1⟩
        dsimp only
        rw [es, eu]
        exact hB3
    | false =>
      rw [hb] at bb es eu
      have nb : ¬ (iZ (f : Int) >>> (iZ (i : Int) &&& 31)) &&& iZ 1 = iZ 1 := by rw [bb]; decide
      refine wF nb ?_
      refine wp_keys [0, 1, 2] rfl rfl ?_
      refine ih (J2, _) ⟨⟨?_, hJ⟩, iZ_add i 1⟩
      dsimp only
      rw [es, eu]
      simpa using hB
theorem c_finish {b : Int} {x y : Int32} (hR : RS I J 1 v) (hW : Wf v) (hH : WfH v) (hb : -99999 ≤ b ∧ b ≤ 99999) (hn : 0 < nL v) (ex : x = iZ b) (ey : y = iZ (nL v : Nat)) (hQ : ∀ I' J' A' W, FS I J I' J' → RS I' J' 1 v → (∀ f, 0 < f → f < 2 ^ nL v → (wbt W f = true ↔ FNb v (nL v) b f)) → Q (some (.long W)) (mm I' J' A')) : wpC E (d + 4) 119 [.ref 0, .int x, .int y] (mm I J A) Q := by
  subst ex; subst ey
  have n6 : nL v ≤ 6 := by have := hW.1.2.2.2.2.2.2.2.2.2.2.2.2; unfold nL; omega
  have sbb : ∀ f, -40000 ≤ stN v (nL v) f ∧ stN v (nL v) f ≤ 40000 := fun f => by
    have ww := ld_ok (f := f) hH (Nat.le_refl (nL v)) n6
    exact (stfB hW ww.1 ww.2).2
  generalize hnn : nL v = n at hn hQ n6 sbb
  have pw := pw6 (n := n) (by omega)
  have ea := bi_all (n := n) (by omega)
  obtain ⟨al, hal⟩ : ∃ al, al = 2 ^ n - 1 := ⟨_, rfl⟩
  have L : ∀ (g : Nat) (I' : Nat → Nat → Int32) (J' : Nat → Nat → Int64) (A' : Nat → Option Nat) (W : Int64) (x6 : Int32), g < 2 ^ n → FS I J I' J' → RS I' J' 1 v → (∀ f, g < f → f < 2 ^ n → (wbt W f = true ↔ FNb v n b f)) → (∀ f, f ≤ g → wbt W f = false) → x6 = iZ g → wp E (d + 4) 119 12 [(0, .ref 0), (1, .int (iZ b)), (2, .int (iZ n)), (3, .int (iZ al)), (4, .long W), (6, .int x6)] [] (mm I' J' A') Q := by
    intro g
    induction g with
    | zero =>
      intro I' J' A' W x6 hg hF hR' hW1 hW2 e6
      subst e6
      exact wf (hs := [12]) 20 12 (by decide) (wt (by decide) (hQ I' J' A' W hF hR' (fun f h1 h2 => hW1 f h1 h2)))
    | succ g ih =>
      intro I' J' A' W x6 hg hF hR' hW1 hW2 e6
      subst e6
      have C := sr_iff (v := v) (b := b) (n := n) (f := g + 1) (by omega) hg
      have af := av_facts (n := n) (f := g + 1) (by omega) hg
      -- the end of one turn
      have nx : ∀ I2 J2 A2 W2 x7 x8, FS I J I2 J2 → RS I2 J2 1 v → (wbt W2 (g + 1) = true ↔ FNb v n b (g + 1)) → (∀ f, f < 64 → f ≠ g + 1 → wbt W2 f = wbt W f) → wp E (d + 4) 119 110 [(0, .ref 0), (1, .int (iZ b)), (2, .int (iZ n)), (3, .int (iZ al)), (4, .long W2), (6, .int (iZ ((g + 1 : Nat) : Int))), (7, .int x7), (8, .int x8)] [] (mm I2 J2 A2) Q := fun I2 J2 A2 W2 x7 x8 hF2 hR2 h1 h2 => by
        refine wf (hs := [12]) 20 110 (by decide) ?_
        refine wp_keys [0, 1, 2, 3, 4, 6] rfl rfl ?_
        refine ih I2 J2 A2 W2 _ (by omega) hF2 hR2 (fun f q1 q2 => ?_) (fun f q => ?_) ((iZ_add ((g + 1 : Nat) : Int) (-1)).trans (by congr 1; omega))
        · by_cases q : f = g + 1
          · rw [q]; exact h1
          · rw [h2 f (by omega) q]; exact hW1 f (by omega) q2
        · rw [h2 f (by omega) (by omega)]; exact hW2 f (by omega)
      have fin : ∀ (fl : Bool) (x8 : Int32), (fl = true ↔ (SRc (stpN v n b) n (avl n (g + 1)).length (g + 1) 0).isSome = true) → wp E (d + 4) 119 84 [(0, .ref 0), (1, .int (iZ b)), (2, .int (iZ n)), (3, .int (iZ al)), (4, .long W), (6, .int (iZ ((g + 1 : Nat) : Int))), (7, .int (iZ (tB fl))), (8, .int x8)] [] (mm I' J' A') Q := fun fl x8 hfl => by
        cases fl with
        | false =>
          refine wf (hs := [110]) 20 84 (by decide) (wt rfl ?_)
          refine nx I' J' A' W _ _ hF hR' ⟨fun q => ?_, fun q => ?_⟩ (fun _ _ _ => rfl)
          · rw [hW2 (g + 1) (Nat.le_refl _)] at q; cases q
          · exact absurd (hfl.mpr q.2) (by decide)
        | true =>
          have fl2 := hfl.mp rfl
          refine wf (hs := [110]) 40 84 (by decide) (wF (by decide) (And.intro rfl (c_stiffW (f := g + 1) hR' hW hH (by omega) rfl (fun I2 J2 A2 hF2 hR2 => ?_))))
          have sb := sbb (g + 1)
          rw [hnn]
          refine And.intro (fun q => ?_) (fun q => ?_)
          · simp (disch := omega) only [z_i8, z_i16, z_of, z_ofN, z_lofN, z_0, z_1, z_m1, z_l0, z_l1, iZ_add, iZ_sub, iZ_mul, iZ_neg, lZ_add, lZ_sub, lZ_mul, lZ_neg, z_div, z_ldiv, z_l, z_i, z_lt, z_le, z_eq, z_llt, z_lle, z_leq, z_cgt, z_cge, z_clt, z_cle, z_ceq, z_cl, z_nat, Int.toNat_natCast, mm_I, mm_J, z_cln, z_abs, z_max, z_min, z_lmax, z_lmin, z_sin, Int.cast_ofNat_Int, uI_I, uI_J, uL_I, uL_J, uA_I, uA_J, sI_eq, sI_ne, sL_eq, sL_ne, up_eq, up_ne, uL_eq, uL_ne, z_toInt, Int.reduceToNat] at q
            refine nx I2 J2 A2 W _ _ (FS_trans hF hF2) hR2 ⟨fun x => ?_, fun x => ?_⟩ (fun _ _ _ => rfl)
            · rw [hW2 (g + 1) (Nat.le_refl _)] at x; cases x
            · have := x.1; omega
          · simp (disch := omega) only [z_i8, z_i16, z_of, z_ofN, z_lofN, z_0, z_1, z_m1, z_l0, z_l1, iZ_add, iZ_sub, iZ_mul, iZ_neg, lZ_add, lZ_sub, lZ_mul, lZ_neg, z_div, z_ldiv, z_l, z_i, z_lt, z_le, z_eq, z_llt, z_lle, z_leq, z_cgt, z_cge, z_clt, z_cle, z_ceq, z_cl, z_nat, Int.toNat_natCast, mm_I, mm_J, z_cln, z_abs, z_max, z_min, z_lmax, z_lmin, z_sin, Int.cast_ofNat_Int, uI_I, uI_J, uL_I, uL_J, uA_I, uA_J, sI_eq, sI_ne, sL_eq, sL_ne, up_eq, up_ne, uL_eq, uL_ne, z_toInt, Int.reduceToNat] at q
            refine wp_keys [0, 1, 2, 3, 4, 6, 7, 8] rfl rfl ?_
            refine nx I2 J2 A2 _ _ _ (FS_trans hF hF2) hR2 ⟨fun x => ⟨by omega, fl2⟩, fun x => ?_⟩ (fun f h1 h2 => ?_)
            · have := bl_or (w := W) (s := g + 1) (t := g + 1) (by omega) (by omega)
              rw [decide_eq_true rfl, Bool.or_true] at this
              exact this
            · have := bl_or (w := W) (s := g + 1) (t := f) (by omega) h1
              rw [decide_eq_false (fun q => h2 q.symm), Bool.or_false] at this
              exact this
      have T : ∀ (k i : Nat) (fl : Bool) (x7 x8 : Int32), i + k = n → (fl = true → (SRc (stpN v n b) n (avl n (g + 1)).length (g + 1) 0).isSome = true) → (fl = false → ¬ g + 1 = 2 ^ n - 1 ∧ ∀ j, j < i → (g + 1).testBit j = false → ¬ FNb v n b ((g + 1) ||| 2 ^ j)) → x7 = iZ (tB fl) → x8 = iZ i → wp E (d + 4) 119 33 [(0, .ref 0), (1, .int (iZ b)), (2, .int (iZ n)), (3, .int (iZ al)), (4, .long W), (6, .int (iZ ((g + 1 : Nat) : Int))), (7, .int x7), (8, .int x8)] [] (mm I' J' A') Q := by
        intro k
        induction k with
        | zero =>
          intro i fl x7 x8 hi h1 h2 e7 e8
          subst e7; subst e8
          refine wf (hs := [33, 84]) 20 33 (by decide) (wt (by ((try simp (disch := omega) only [z_i8, z_i16, z_of, z_ofN, z_lofN, z_0, z_1, z_m1, z_l0, z_l1, iZ_add, iZ_sub, iZ_mul, iZ_neg, lZ_add, lZ_sub, lZ_mul, lZ_neg, z_div, z_ldiv, z_l, z_i, z_lt, z_le, z_eq, z_llt, z_lle, z_leq, z_cgt, z_cge, z_clt, z_cle, z_ceq, z_cl, z_nat, Int.toNat_natCast, mm_I, mm_J, z_cln, z_abs, z_max, z_min, z_lmax, z_lmin, z_sin, Int.cast_ofNat_Int, uI_I, uI_J, uL_I, uL_J, uA_I, uA_J, sI_eq, sI_ne, sL_eq, sL_ne, up_eq, up_ne, uL_eq, uL_ne, z_toInt, Int.reduceToNat]) <;> omega)) (fin fl _ ⟨h1, fun q => ?_⟩))
          cases fl with
          | true => rfl
          | false =>
            have := h2 rfl
            rcases C.mp q with x | ⟨j, j1, j2, j3⟩
            · exact absurd x this.1
            · exact absurd j3 (this.2 j (by omega) j2)
        | succ k ih2 =>
          intro i fl x7 x8 hi h1 h2 e7 e8
          subst e7; subst e8
          cases fl with
          | true => exact wf (hs := [33, 84]) 20 33 (by decide) (wF (by ((try simp (disch := omega) only [z_i8, z_i16, z_of, z_ofN, z_lofN, z_0, z_1, z_m1, z_l0, z_l1, iZ_add, iZ_sub, iZ_mul, iZ_neg, lZ_add, lZ_sub, lZ_mul, lZ_neg, z_div, z_ldiv, z_l, z_i, z_lt, z_le, z_eq, z_llt, z_lle, z_leq, z_cgt, z_cge, z_clt, z_cle, z_ceq, z_cl, z_nat, Int.toNat_natCast, mm_I, mm_J, z_cln, z_abs, z_max, z_min, z_lmax, z_lmin, z_sin, Int.cast_ofNat_Int, uI_I, uI_J, uL_I, uL_J, uA_I, uA_J, sI_eq, sI_ne, sL_eq, sL_ne, up_eq, up_ne, uL_eq, uL_ne, z_toInt, Int.reduceToNat]) <;> omega)) (wF (by decide) (fin true _ ⟨h1, fun _ => rfl⟩)))
          | false =>
            have h3 := h2 rfl
            have bb := bi_bit (f := g + 1) (i := i) (by omega) (by omega)
            refine wf (hs := [33, 84]) 60 33 (by decide) (wF (by ((try simp (disch := omega) only [z_i8, z_i16, z_of, z_ofN, z_lofN, z_0, z_1, z_m1, z_l0, z_l1, iZ_add, iZ_sub, iZ_mul, iZ_neg, lZ_add, lZ_sub, lZ_mul, lZ_neg, z_div, z_ldiv, z_l, z_i, z_lt, z_le, z_eq, z_llt, z_lle, z_leq, z_cgt, z_cge, z_clt, z_cle, z_ceq, z_cl, z_nat, Int.toNat_natCast, mm_I, mm_J, z_cln, z_abs, z_max, z_min, z_lmax, z_lmin, z_sin, Int.cast_ofNat_Int, uI_I, uI_J, uL_I, uL_J, uA_I, uA_J, sI_eq, sI_ne, sL_eq, sL_ne, up_eq, up_ne, uL_eq, uL_ne, z_toInt, Int.reduceToNat]) <;> omega)) (wt rfl ?_))
            cases hbt : (g + 1).testBit i with
            | true =>
              rw [hbt] at bb
              have nb : ¬ (iZ ((g + 1 : Nat) : Int) >>> (iZ (i : Int) &&& 31)) &&& iZ 1 = 0 := by rw [bb]; decide
              refine wF nb ?_
              refine wp_keys [0, 1, 2, 3, 4, 6, 7, 8] rfl rfl ?_
              refine ih2 (i + 1) false _ _ (by omega) (fun q => by cases q) (fun _ => ⟨h3.1, fun j hj hjb => ?_⟩) rfl (iZ_add i 1)
              by_cases q : j = i
              · rw [q, hbt] at hjb; cases hjb
              · exact h3.2 j (by omega) hjb
            | false =>
              rw [hbt] at bb
              have a2 := af.2 i (by omega) hbt
              have bo := bi_or (f := g + 1) (i := i) (by omega) (by omega)
              have bl := bl_bit (w := W) (s := (g + 1) ||| 2 ^ i) (by omega)
              rw [← bo] at bl
              have hw := hW1 ((g + 1) ||| 2 ^ i) a2.2.2 a2.2.1
              refine wt bb ?_
              cases hwb : wbt W ((g + 1) ||| 2 ^ i) with
              | true =>
                rw [hwb] at bl
                have eq1 : lg_cmp ((W >>> ((iZ ((g + 1 : Nat) : Int) ||| iZ 1 <<< (iZ (i : Int) &&& 31)).toInt64 &&& 63)) &&& lZ 1) (lZ 1) = 0 := by rw [bl]; decide
                refine wt eq1 ?_
                refine wp_keys [0, 1, 2, 3, 4, 6, 7, 8] rfl rfl ?_
                exact ih2 (i + 1) true _ _ (by omega) (fun _ => C.mpr (Or.inr ⟨i, by omega, hbt, hw.mp hwb⟩)) (fun q => by cases q) rfl (iZ_add i 1)
              | false =>
                rw [hwb] at bl
                have eq1 : ¬ lg_cmp ((W >>> ((iZ ((g + 1 : Nat) : Int) ||| iZ 1 <<< (iZ (i : Int) &&& 31)).toInt64 &&& 63)) &&& lZ 1) (lZ 1) = 0 := by rw [bl]; decide
                refine wF eq1 ?_
                refine wp_keys [0, 1, 2, 3, 4, 6, 7, 8] rfl rfl ?_
                refine ih2 (i + 1) false _ _ (by omega) (fun q => by cases q) (fun _ => ⟨h3.1, fun j hj hjb => ?_⟩) rfl (iZ_add i 1)
                by_cases q : j = i
                · rw [q]
                  intro x
                  rw [hw.mpr x] at hwb; cases hwb
                · exact h3.2 j (by omega) hjb
      refine wf (hs := [33]) 40 12 (by decide) (wF (by ((try simp (disch := omega) only [z_i8, z_i16, z_of, z_ofN, z_lofN, z_0, z_1, z_m1, z_l0, z_l1, iZ_add, iZ_sub, iZ_mul, iZ_neg, lZ_add, lZ_sub, lZ_mul, lZ_neg, z_div, z_ldiv, z_l, z_i, z_lt, z_le, z_eq, z_llt, z_lle, z_leq, z_cgt, z_cge, z_clt, z_cle, z_ceq, z_cl, z_nat, Int.toNat_natCast, mm_I, mm_J, z_cln, z_abs, z_max, z_min, z_lmax, z_lmin, z_sin, Int.cast_ofNat_Int, uI_I, uI_J, uL_I, uL_J, uA_I, uA_J, sI_eq, sI_ne, sL_eq, sL_ne, up_eq, up_ne, uL_eq, uL_ne, z_toInt, Int.reduceToNat]) <;> omega)) (And.intro (fun q => ?_) (fun q => ?_)))
      · simp (disch := omega) only [z_i8, z_i16, z_of, z_ofN, z_lofN, z_0, z_1, z_m1, z_l0, z_l1, iZ_add, iZ_sub, iZ_mul, iZ_neg, lZ_add, lZ_sub, lZ_mul, lZ_neg, z_div, z_ldiv, z_l, z_i, z_lt, z_le, z_eq, z_llt, z_lle, z_leq, z_cgt, z_cge, z_clt, z_cle, z_ceq, z_cl, z_nat, Int.toNat_natCast, mm_I, mm_J, z_cln, z_abs, z_max, z_min, z_lmax, z_lmin, z_sin, Int.cast_ofNat_Int, uI_I, uI_J, uL_I, uL_J, uA_I, uA_J, sI_eq, sI_ne, sL_eq, sL_ne, up_eq, up_ne, uL_eq, uL_ne, z_toInt, Int.reduceToNat] at q
        refine wp_keys [0, 1, 2, 3, 4, 6, 7, 8] rfl rfl ?_
        exact T n 0 true _ _ (by omega) (fun _ => C.mpr (Or.inl (by omega))) (fun q => by cases q) rfl rfl
      · simp (disch := omega) only [z_i8, z_i16, z_of, z_ofN, z_lofN, z_0, z_1, z_m1, z_l0, z_l1, iZ_add, iZ_sub, iZ_mul, iZ_neg, lZ_add, lZ_sub, lZ_mul, lZ_neg, z_div, z_ldiv, z_l, z_i, z_lt, z_le, z_eq, z_llt, z_lle, z_leq, z_cgt, z_cge, z_clt, z_cle, z_ceq, z_cl, z_nat, Int.toNat_natCast, mm_I, mm_J, z_cln, z_abs, z_max, z_min, z_lmax, z_lmin, z_sin, Int.cast_ofNat_Int, uI_I, uI_J, uL_I, uL_J, uA_I, uA_J, sI_eq, sI_ne, sL_eq, sL_ne, up_eq, up_ne, uL_eq, uL_ne, z_toInt, Int.reduceToNat] at q
        refine wp_keys [0, 1, 2, 3, 4, 6, 7, 8] rfl rfl ?_
        exact T n 0 false _ _ (by omega) (fun q => by cases q) (fun _ => ⟨by omega, fun j hj => by omega⟩) rfl rfl
  have LL := L al I J A (lZ 0) (iZ al) (by omega) (fun _ _ => ⟨rfl, rfl⟩) hR (fun f h1 h2 => by omega) (fun f _ => wbt_0 f) rfl
  rw [hal, ← ea] at LL
  refine wc (hs := [12]) 20 (by decide) ?_
  refine wp_keys [0, 1, 2, 3, 4, 6] rfl rfl ?_
  exact LL
end NIGHT2
