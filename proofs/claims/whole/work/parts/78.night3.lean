/-! ===== night told to both ===== -/
section NIGHT3
variable {E : Nat × (Nat → Int32)} {d : Nat} {I I0 I1 : Nat → Nat → Int32} {J J0 J1 : Nat → Nat → Int64} {A A1 : Nat → Option Nat} {Q : Option Value → am_M → Prop} {M : am_M} {v : am_V}
theorem c_nightL {n k : Nat} {b RES : Int} {W : Int64} (hn : n < 7) (hk : k < n) (hW : ∀ f, 0 < f → f < 2 ^ n → (wbt W f = true ↔ FNb v n b f)) (hQ : Q (some (.int (iZ RES))) (mm I J A)) : ∀ (m s f : Nat) (x6 x7 x8 : Int32), s + m = k + 1 → f < 2 ^ n → (avl n f).length + s = n → (m = 0 → x7 = iZ RES) → (0 < m → resL (SRc (stpN v n b) n (avl n f).length f 0) (m - 1) = RES) → x6 = iZ f → x8 = iZ s → wp E d 118 70 [(0, .ref 0), (1, .int (iZ b)), (2, .int (iZ k)), (3, .int (iZ n)), (4, .long W), (6, .int x6), (7, .int x7), (8, .int x8)] [] (mm I J A) Q := by
  have pw := pw6 hn
  intro m
  induction m with
  | zero =>
    intro s f x6 x7 x8 hs hf hl h0 h1 e6 e8
    subst e6; subst e8
    have e7 := h0 rfl
    subst e7
    exact wf (hs := [70]) 20 70 (by decide) (wt (by ((try simp (disch := omega) only [z_i8, z_i16, z_of, z_ofN, z_lofN, z_0, z_1, z_m1, z_l0, z_l1, iZ_add, iZ_sub, iZ_mul, iZ_neg, lZ_add, lZ_sub, lZ_mul, lZ_neg, z_div, z_ldiv, z_l, z_i, z_lt, z_le, z_eq, z_llt, z_lle, z_leq, z_cgt, z_cge, z_clt, z_cle, z_ceq, z_cl, z_nat, Int.toNat_natCast, mm_I, mm_J, z_cln, z_abs, z_max, z_min, z_lmax, z_lmin, z_sin, Int.cast_ofNat_Int, uI_I, uI_J, uL_I, uL_J, uA_I, uA_J, sI_eq, sI_ne, sL_eq, sL_ne, up_eq, up_ne, uL_eq, uL_ne, z_toInt, Int.reduceToNat]) <;> omega)) hQ)
  | succ m ih =>
    intro s f x6 x7 x8 hs hf hl h0 h1 e6 e8
    subst e6; subst e8
    have h2 := h1 (by omega)
    rw [Nat.add_sub_cancel] at h2
    have af := av_facts (n := n) (f := f) hn hf
    -- what is found
    have fd : ∀ (i : Nat) (x9 : Int32), i < n → f.testBit i = false → FNb v n b (f ||| 2 ^ i) → (∀ j, j < i → f.testBit j = false → ¬ FNb v n b (f ||| 2 ^ j)) → wp E d 118 131 [(0, .ref 0), (1, .int (iZ b)), (2, .int (iZ k)), (3, .int (iZ n)), (4, .long W), (6, .int (iZ f)), (7, .int (iZ i)), (8, .int (iZ s)), (9, .int x9)] [] (mm I J A) Q := fun i x9 hi hb hF hno => by
      obtain ⟨l, hl1, hl2⟩ := sr_first hn hf hi hb hF hno
      have a2 := af.2 i hi hb
      have bo := bi_or (f := f) (i := i) (by omega) (by omega)
      have c0 : (0 : Int32) ≤ iZ (i : Int) := by
        show iZ 0 ≤ iZ (i : Int)
        ((try simp (disch := omega) only [z_i8, z_i16, z_of, z_ofN, z_lofN, z_0, z_1, z_m1, z_l0, z_l1, iZ_add, iZ_sub, iZ_mul, iZ_neg, lZ_add, lZ_sub, lZ_mul, lZ_neg, z_div, z_ldiv, z_l, z_i, z_lt, z_le, z_eq, z_llt, z_lle, z_leq, z_cgt, z_cge, z_clt, z_cle, z_ceq, z_cl, z_nat, Int.toNat_natCast, mm_I, mm_J, z_cln, z_abs, z_max, z_min, z_lmax, z_lmin, z_sin, Int.cast_ofNat_Int, uI_I, uI_J, uL_I, uL_J, uA_I, uA_J, sI_eq, sI_ne, sL_eq, sL_ne, up_eq, up_ne, uL_eq, uL_ne, z_toInt, Int.reduceToNat]) <;> omega)
      refine wf (hs := [70]) 30 131 (by decide) (wt c0 ?_)
      refine wp_keys [0, 1, 2, 3, 4, 6, 7, 8] rfl rfl ?_
      refine ih (s + 1) (f ||| 2 ^ i) _ _ _ (by omega) a2.2.1 (by omega) (fun q => ?_) (fun q => ?_) bo (iZ_add s 1)
      · subst q
        rw [hl2] at h2
        rw [← h2]; rfl
      · rw [hl2] at h2
        rw [hl1, ← h2]
        obtain ⟨m', rfl⟩ : ∃ m', m = m' + 1 := ⟨m - 1, by omega⟩
        rfl
    have L : ∀ (t i : Nat) (x9 : Int32), i + t = n → (∀ j, j < i → f.testBit j = false → ¬ FNb v n b (f ||| 2 ^ j)) → x9 = iZ i → wp E d 118 83 [(0, .ref 0), (1, .int (iZ b)), (2, .int (iZ k)), (3, .int (iZ n)), (4, .long W), (6, .int (iZ f)), (7, .int (iZ (-2))), (8, .int (iZ s)), (9, .int x9)] [] (mm I J A) Q := by
      intro t
      induction t with
      | zero =>
        intro i x9 hi hno e9
        subst e9
        have : i = n := by omega
        subst this
        rw [sr_none hn hf (by omega) hno] at h2
        have h2 : (-2 : Int) = RES := h2
        subst h2
        exact wf (hs := [83]) 30 83 (by decide) (wt (by ((try simp (disch := omega) only [z_i8, z_i16, z_of, z_ofN, z_lofN, z_0, z_1, z_m1, z_l0, z_l1, iZ_add, iZ_sub, iZ_mul, iZ_neg, lZ_add, lZ_sub, lZ_mul, lZ_neg, z_div, z_ldiv, z_l, z_i, z_lt, z_le, z_eq, z_llt, z_lle, z_leq, z_cgt, z_cge, z_clt, z_cle, z_ceq, z_cl, z_nat, Int.toNat_natCast, mm_I, mm_J, z_cln, z_abs, z_max, z_min, z_lmax, z_lmin, z_sin, Int.cast_ofNat_Int, uI_I, uI_J, uL_I, uL_J, uA_I, uA_J, sI_eq, sI_ne, sL_eq, sL_ne, up_eq, up_ne, uL_eq, uL_ne, z_toInt, Int.reduceToNat]) <;> omega)) (wF (by decide) hQ))
      | succ t ih2 =>
        intro i x9 hi hno e9
        subst e9
        have bb := bi_bit (f := f) (i := i) (by omega) (by omega)
        have go : ¬ (f.testBit i = false ∧ FNb v n b (f ||| 2 ^ i)) → wp E d 118 125 [(0, .ref 0), (1, .int (iZ b)), (2, .int (iZ k)), (3, .int (iZ n)), (4, .long W), (6, .int (iZ f)), (7, .int (iZ (-2))), (8, .int (iZ s)), (9, .int (iZ i))] [] (mm I J A) Q := fun q => by
          refine wf (hs := [83]) 20 125 (by decide) ?_
          refine wp_keys [0, 1, 2, 3, 4, 6, 7, 8, 9] rfl rfl ?_
          refine ih2 (i + 1) _ (by omega) (fun j hj hjb => ?_) (iZ_add i 1)
          by_cases e : j = i
          · subst e; exact fun x => q ⟨hjb, x⟩
          · exact hno j (by omega) hjb
        refine wf (hs := [83, 125]) 60 83 (by decide) (wF (by ((try simp (disch := omega) only [z_i8, z_i16, z_of, z_ofN, z_lofN, z_0, z_1, z_m1, z_l0, z_l1, iZ_add, iZ_sub, iZ_mul, iZ_neg, lZ_add, lZ_sub, lZ_mul, lZ_neg, z_div, z_ldiv, z_l, z_i, z_lt, z_le, z_eq, z_llt, z_lle, z_leq, z_cgt, z_cge, z_clt, z_cle, z_ceq, z_cl, z_nat, Int.toNat_natCast, mm_I, mm_J, z_cln, z_abs, z_max, z_min, z_lmax, z_lmin, z_sin, Int.cast_ofNat_Int, uI_I, uI_J, uL_I, uL_J, uA_I, uA_J, sI_eq, sI_ne, sL_eq, sL_ne, up_eq, up_ne, uL_eq, uL_ne, z_toInt, Int.reduceToNat]) <;> omega)) (wF (by decide) ?_))
        cases hb : f.testBit i with
        | true =>
          rw [hb] at bb
          have nb : ¬ (iZ (f : Int) >>> (iZ (i : Int) &&& 31)) &&& iZ 1 = 0 := by rw [bb]; decide
          exact wF nb (go (fun q => by rw [hb] at q; cases q.1))
        | false =>
          rw [hb] at bb
          have a2 := af.2 i (by omega) hb
          have bo := bi_or (f := f) (i := i) (by omega) (by omega)
          have bl := bl_bit (w := W) (s := f ||| 2 ^ i) (by omega)
          rw [← bo] at bl
          have hw := hW (f ||| 2 ^ i) (by omega) a2.2.1
          refine wt bb ?_
          cases hwb : wbt W (f ||| 2 ^ i) with
          | true =>
            rw [hwb] at bl
            have eq1 : lg_cmp ((W >>> ((iZ (f : Int) ||| iZ 1 <<< (iZ (i : Int) &&& 31)).toInt64 &&& 63)) &&& lZ 1) (lZ 1) = 0 := by rw [bl]; decide
            refine wt eq1 ?_
            have c0 : (0 : Int32) ≤ iZ (i : Int) := by
              show iZ 0 ≤ iZ (i : Int)
              ((try simp (disch := omega) only [z_i8, z_i16, z_of, z_ofN, z_lofN, z_0, z_1, z_m1, z_l0, z_l1, iZ_add, iZ_sub, iZ_mul, iZ_neg, lZ_add, lZ_sub, lZ_mul, lZ_neg, z_div, z_ldiv, z_l, z_i, z_lt, z_le, z_eq, z_llt, z_lle, z_leq, z_cgt, z_cge, z_clt, z_cle, z_ceq, z_cl, z_nat, Int.toNat_natCast, mm_I, mm_J, z_cln, z_abs, z_max, z_min, z_lmax, z_lmin, z_sin, Int.cast_ofNat_Int, uI_I, uI_J, uL_I, uL_J, uA_I, uA_J, sI_eq, sI_ne, sL_eq, sL_ne, up_eq, up_ne, uL_eq, uL_ne, z_toInt, Int.reduceToNat]) <;> omega)
            refine wp_keys [0, 1, 2, 3, 4, 6, 7, 8, 9] rfl rfl ?_
            have F := fun x9 => fd i x9 (by omega) hb (hw.mp hwb) hno
            refine wf (hs := [83]) 20 125 (by decide) ?_
            refine wp_keys [0, 1, 2, 3, 4, 6, 7, 8, 9] rfl rfl ?_
            exact wf (hs := [131]) 20 83 (by decide) (And.intro (fun _ => F _) (fun _ => wt c0 (F _)))
          | false =>
            rw [hwb] at bl
            have eq1 : ¬ lg_cmp ((W >>> ((iZ (f : Int) ||| iZ 1 <<< (iZ (i : Int) &&& 31)).toInt64 &&& 63)) &&& lZ 1) (lZ 1) = 0 := by rw [bl]; decide
            exact wF eq1 (go (fun q => by rw [hw.mpr q.2] at hwb; cases hwb))
    refine wf (hs := [83]) 30 70 (by decide) (wF (by ((try simp (disch := omega) only [z_i8, z_i16, z_of, z_ofN, z_lofN, z_0, z_1, z_m1, z_l0, z_l1, iZ_add, iZ_sub, iZ_mul, iZ_neg, lZ_add, lZ_sub, lZ_mul, lZ_neg, z_div, z_ldiv, z_l, z_i, z_lt, z_le, z_eq, z_llt, z_lle, z_leq, z_cgt, z_cge, z_clt, z_cle, z_ceq, z_cl, z_nat, Int.toNat_natCast, mm_I, mm_J, z_cln, z_abs, z_max, z_min, z_lmax, z_lmin, z_sin, Int.cast_ofNat_Int, uI_I, uI_J, uL_I, uL_J, uA_I, uA_J, sI_eq, sI_ne, sL_eq, sL_ne, up_eq, up_ne, uL_eq, uL_ne, z_toInt, Int.reduceToNat]) <;> omega)) ?_)
    refine wp_keys [0, 1, 2, 3, 4, 6, 7, 8, 9] rfl rfl ?_
    exact L n 0 _ (by omega) (fun j hj => by omega) rfl
theorem Inv_306 {I2 : Nat → Nat → Int32} (h : Inv I J) (hF : FS I J I1 J1) (h2 : ∀ c, c ≠ 306 → I2 c = I1 c) : Inv I2 J1 := by
  obtain ⟨hV, hI, hT, hP, m0, h19⟩ := Inv_scr h (fun a ha _ _ => hF a ha)
  have ev : vC I2 = vC I1 := vC_eq (fun a q1 q2 => h2 a (by omega))
  refine ⟨?_, fun k hk => Im_eq hk (hI k hk) (h2 305 (by omega)) (imV_eq (h2 304 (by omega))) (fun a q1 q2 => ⟨h2 a (by omega), rfl⟩) (fun q => by rw [h2 266 (by omega)]; exact q), Tp_eq hT (by rw [h2 0 (by omega)]) (by rw [h2 265 (by omega)]) (h2 222 (by omega)) (h2 290 (by omega)), Pn_eq hP (by rw [h2 0 (by omega)]) (by rw [h2 265 (by omega)]) (fun a q => h2 a (by omega)), M0_eq m0 (h2 265 (by omega)) rfl, by rw [h2 265 (by omega)]; exact h19⟩
  unfold Vs at hV ⊢
  rw [ev, h2 266 (by omega), h2 1 (by omega)]
  rcases hV with h | ⟨g1, g2, g3, g4, g5⟩
  · exact Or.inl h
  · exact Or.inr ⟨g1, g2, g3, RS_eq (fun a q1 q2 => ⟨h2 a (by omega), rfl⟩) g4, g5⟩
theorem op_night {b k : Int} (h : Inv I J) (hb : -2147483648 ≤ b ∧ b ≤ 2147483647) (hk : -2147483648 ≤ k ∧ k ≤ 2147483647) : wpC E (d + 6) 118 [.ref 0, .int (iZ b), .int (iZ k)] (mm I J A) (QI E (d + 6) 244 [.int (iZ b), .int (iZ k)]) := by
  have F : ¬ GNi I b k → QI E (d + 6) 244 [.int (iZ b), .int (iZ k)] (some (.int (iZ (-1)))) (mm I J A) := fun g => rd_mk h FS_refl (m_night (Vs_m h.1) h.2.2.2.2.1 hb hk (fun x => absurd x g) (fun _ => ⟨rfl, rfl⟩))
  rcases h.1 with ⟨g0, g1⟩ | ⟨g0, hW, hH, hR, h8⟩
  · exact wc (hs := []) 20 (by decide) (wt g1 (F fun q => by rw [q.1] at g0; cases g0))
  · have b1 : ¬ I 1 0 = 0 := by have : I 1 0 = 1 := hR.1.1; rw [this]; decide
    have e31 : I 31 0 = iZ (nL (vC I) : Nat) := hR.2.2.2.2.2.2.1
    have n6 : nL (vC I) ≤ 6 := by have := hW.1.2.2.2.2.2.2.2.2.2.2.2.2; unfold nL; omega
    refine wc (hs := [70]) 80 (by decide) (wF b1 (And.intro rfl (cW (z := b) (lo := -99999) (hi := 99999) rfl (by decide +kernel) rfl hb (by omega) (by omega) (fun g1 => wF (by decide) ?_) (fun g1 => wt rfl (F fun q => g1 q.2.1)))))
    refine And.intro (fun q => ?_) (fun q => ?_)
    · simp (disch := omega) only [z_i8, z_i16, z_of, z_ofN, z_lofN, z_0, z_1, z_m1, z_l0, z_l1, iZ_add, iZ_sub, iZ_mul, iZ_neg, lZ_add, lZ_sub, lZ_mul, lZ_neg, z_div, z_ldiv, z_l, z_i, z_lt, z_le, z_eq, z_llt, z_lle, z_leq, z_cgt, z_cge, z_clt, z_cle, z_ceq, z_cl, z_nat, Int.toNat_natCast, mm_I, mm_J, z_cln, z_abs, z_max, z_min, z_lmax, z_lmin, z_sin, Int.cast_ofNat_Int, uI_I, uI_J, uL_I, uL_J, uA_I, uA_J, sI_eq, sI_ne, sL_eq, sL_ne, up_eq, up_ne, uL_eq, uL_ne, z_toInt, Int.reduceToNat] at q
      exact F fun x => by have := x.2.2; omega
    simp (disch := omega) only [z_i8, z_i16, z_of, z_ofN, z_lofN, z_0, z_1, z_m1, z_l0, z_l1, iZ_add, iZ_sub, iZ_mul, iZ_neg, lZ_add, lZ_sub, lZ_mul, lZ_neg, z_div, z_ldiv, z_l, z_i, z_lt, z_le, z_eq, z_llt, z_lle, z_leq, z_cgt, z_cge, z_clt, z_cle, z_ceq, z_cl, z_nat, Int.toNat_natCast, mm_I, mm_J, z_cln, z_abs, z_max, z_min, z_lmax, z_lmin, z_sin, Int.cast_ofNat_Int, uI_I, uI_J, uL_I, uL_J, uA_I, uA_J, sI_eq, sI_ne, sL_eq, sL_ne, up_eq, up_ne, uL_eq, uL_ne, z_toInt, Int.reduceToNat] at q
    refine And.intro (fun q2 => ?_) (fun q2 => ?_)
    · simp (disch := omega) only [z_i8, z_i16, z_of, z_ofN, z_lofN, z_0, z_1, z_m1, z_l0, z_l1, iZ_add, iZ_sub, iZ_mul, iZ_neg, lZ_add, lZ_sub, lZ_mul, lZ_neg, z_div, z_ldiv, z_l, z_i, z_lt, z_le, z_eq, z_llt, z_lle, z_leq, z_cgt, z_cge, z_clt, z_cle, z_ceq, z_cl, z_nat, Int.toNat_natCast, mm_I, mm_J, z_cln, z_abs, z_max, z_min, z_lmax, z_lmin, z_sin, Int.cast_ofNat_Int, uI_I, uI_J, uL_I, uL_J, uA_I, uA_J, sI_eq, sI_ne, sL_eq, sL_ne, up_eq, up_ne, uL_eq, uL_ne, z_toInt, Int.reduceToNat, e31] at q2
      have hg : GNi I b k := ⟨g0, g1, by omega, by omega⟩
      obtain ⟨κ, hκ, rfl⟩ : ∃ κ : Nat, κ < nL (vC I) ∧ k = κ := ⟨k.toNat, by omega, by omega⟩
      refine And.intro rfl (c_finish (d := d + 1) hR hW hH g1 (by omega) rfl e31 (fun I' J' A' W hF hR' hWW => ?_))
      refine wp_keys [0, 1, 2, 3, 4, 6, 7, 8] rfl rfl ?_
      have hv := FS_v hF
      have fin : QI E (d + 6) 244 [.int (iZ b), .int (iZ (κ : Int))] (some (.int (iZ (resL (SRc (stpN (vC I) (nL (vC I)) b) (nL (vC I)) (nL (vC I)) 0 0) κ)))) (mm I' J' A') := by
        refine QI_mk (m_night (d := d + 1) (FS_m hF h).1 (FS_m hF h).2 hb hk (fun _ I2 h2 => ?_) (fun x => absurd ⟨(FS_0 hF).trans g0, g1, by omega, by rw [hv]; omega⟩ x))
        rw [hv]
        exact ⟨rfl, I2, J', A', rfl, Inv_306 h hF h2⟩
      have av := av_0 (nL (vC I)) (by omega)
      have T := c_nightL (E := E) (d := d + 6) (I := I') (J := J') (A := A') (v := vC I) (b := b) (W := W) (by omega) hκ hWW fin (κ + 1) 0 0 (iZ (0 : Nat)) (iZ (-2)) (iZ (0 : Nat)) (by omega) (Nat.pow_pos (by omega)) (by omega) (fun q => by omega) (fun _ => by rw [av, Nat.add_sub_cancel]) rfl rfl
      rw [← e31] at T
      exact T
    · simp (disch := omega) only [z_i8, z_i16, z_of, z_ofN, z_lofN, z_0, z_1, z_m1, z_l0, z_l1, iZ_add, iZ_sub, iZ_mul, iZ_neg, lZ_add, lZ_sub, lZ_mul, lZ_neg, z_div, z_ldiv, z_l, z_i, z_lt, z_le, z_eq, z_llt, z_lle, z_leq, z_cgt, z_cge, z_clt, z_cle, z_ceq, z_cl, z_nat, Int.toNat_natCast, mm_I, mm_J, z_cln, z_abs, z_max, z_min, z_lmax, z_lmin, z_sin, Int.cast_ofNat_Int, uI_I, uI_J, uL_I, uL_J, uA_I, uA_J, sI_eq, sI_ne, sL_eq, sL_ne, up_eq, up_ne, uL_eq, uL_ne, z_toInt, Int.reduceToNat, e31] at q2
      exact F fun x => by have := x.2.2; omega
end NIGHT3
