/-! ===== order in the reference ===== -/
def resO (x : Nat) (o : Option (List Nat)) (k : Nat) : Int := match o with
  | some l => (mbr x (gtL l k) : Int)
  | none => -2
section ORD2
variable {E : Nat × (Nat → Int32)} {d : Nat} {I I0 I1 : Nat → Nat → Int32} {J J0 J1 : Nat → Nat → Int64} {A A1 : Nat → Option Nat} {Q : Option Value → am_M → Prop} {M : am_M} {v w : am_V}
theorem ms_next {n : Nat} {m p : Nat → Nat} {x : Int32} (s : MSt I0 J0 A v I J w) (hn : 0 < n ∧ n ≤ 6) (hm : MO n m) (hr : RW n m p I) (ex : x = iZ n) (h0 : fIx p (n - 1) = 0 → Q (some (.int 0)) (mm I J A)) (h1 : fIx p (n - 1) ≠ 0 → ∀ I', RW n m (nxq n p) I' → MSt I0 J0 A v I' J w → Q (some (.int 1)) (mm I' J A)) : wpC E (d + 1) 233 [.ref 265, .int x] (mm I J A) Q := by
  refine wpC_mono (wpC_zo s.2.1 (m_isNext (Q := fun r M => (fIx p (n - 1) = 0 ∧ r = some (.int 0) ∧ M = mm I J A) ∨ (fIx p (n - 1) ≠ 0 ∧ r = some (.int 1) ∧ ∃ I', M = mm I' J A ∧ RW n m (nxq n p) I' ∧ ∀ c, c ≠ 306 → I' c = I c)) hn hm hr ex (fun q => Or.inl ⟨q, rfl, rfl⟩) (fun q I' q1 q2 => Or.inr ⟨q, rfl, I', rfl, q1, q2⟩))) (fun r M hh => ?_)
  obtain ⟨⟨q, rfl, rfl⟩ | ⟨q, rfl, I', rfl, q1, q2⟩, hz⟩ := hh
  · exact h0 q
  · refine h1 q I' q1 (ms_cell s hz (fun a ha h => q2 a h) JF_refl ?_ s.2.2.2.2.1 s.2.2.2.2.2)
    rw [vC_eq (I := I) (fun a q3 q4 => q2 a (by omega))]
    exact s.2.2.2.1
theorem m_orderL {n k x : Nat} {b : Int} (m0 : M0 I0 J0) (hW : Wf v) (hH : WfH v) (hx : x < 2 ^ nP v) (hn : n = (mem x 12).length) (h6 : 0 < n ∧ n ≤ 6) (hb : 1 ≤ b ∧ b ≤ 59) (hk : k < n) : ∀ (t : List (List Nat)) (l : List Nat) (I' : Nat → Nat → Int32) (x6 : Int32), (∀ y ∈ l :: t, y ∈ PS n n 0) → chn n (l :: t) = true → MSt I0 J0 A v I' J v → RW n (mbr x) (gtL l) I' → (∀ I'', MSt I0 J0 A v I'' J v → Q (some (.int (iZ (resO x ((l :: t).find? (fun y => gdr (stO v x b) y 0 (v 266 7))) k)))) (mm I'' J A)) → wp E (d + 7) 236 123 [(0, .ref 265), (1, .int (iZ x)), (2, .int (iZ b)), (3, .int (iZ k)), (4, .int (iZ n)), (5, .int (iZ 1)), (6, .int x6)] [] (mm I' J A) Q := by
  have hmo : MO n (mbr x) := by rw [hn]; exact mbr_MO
  have good : ∀ (l : List Nat) (t : List (List Nat)) (I2 : Nat → Nat → Int32), gdr (stO v x b) l 0 (v 266 7) = true → MSt I0 J0 A v I2 J v → RW n (mbr x) (gtL l) I2 → (∀ I'', MSt I0 J0 A v I'' J v → Q (some (.int (iZ (resO x ((l :: t).find? (fun y => gdr (stO v x b) y 0 (v 266 7))) k)))) (mm I'' J A)) → wp E (d + 7) 236 143 [(0, .ref 265), (1, .int (iZ x)), (2, .int (iZ b)), (3, .int (iZ k)), (4, .int (iZ n)), (5, .int (iZ 1)), (6, .int (iZ 1))] [] (mm I2 J A) Q := fun l t I2 hg s2 hr hQ => by
    have H := hQ I2 s2
    rw [List.find?_cons, hg] at H
    have cl : (iZ (k : Int)).toNatClampNeg = k := z_cln (by omega)
    refine wf (hs := [123]) 40 143 (by decide) (wF (by decide) ?_)
    refine wp_keys [0, 1, 2, 3, 4, 5, 6] rfl rfl ?_
    refine wf (hs := []) 40 123 (by decide) (wt rfl (wF (by decide) (And.intro (z_in (by omega) (by omega) (by omega)) (q_i H ?_))))
    show I2 306 (iZ (k : Int)).toNatClampNeg = _
    rw [cl, (hr k hk).2]; rfl
  intro t
  induction t with
  | nil =>
    intro l I' x6 hm hc s hr hQ
    refine wf (hs := [143]) 40 123 (by decide) (wF (by decide) (And.intro rfl (m_filled s m0 hx hn h6.2 hb (hm l List.mem_cons_self) hr rfl rfl (fun I1 w1 s1 e1 => ?_))))
    refine And.intro rfl (ms_back6 s1 hW hH rfl (fun I2 s2 e2 => ?_))
    have hr2 : RW n (mbr x) (gtL l) I2 := fun i hi => by rw [e2, e1]; exact hr i hi
    refine wp_keys [0, 1, 2, 3, 4, 5, 6] rfl rfl ?_
    cases hg : gdr (stO v x b) l 0 (v 266 7) with
    | true => exact good l [] I2 hg s2 hr2 hQ
    | false =>
      have H := hQ I2 s2
      rw [List.find?_cons, hg] at H
      refine wf (hs := [123]) 40 143 (by decide) (wt rfl (And.intro rfl (ms_next s2 h6 hmo hr2 rfl (fun _ => wt rfl ?_) (fun q => absurd (chn_last hc) q))))
      refine wp_keys [0, 1, 2, 3, 4, 5, 6] rfl rfl ?_
      exact wf (hs := []) 40 123 (by decide) (wt rfl (wt rfl H))
  | cons l' t ih =>
    intro l I' x6 hm hc s hr hQ
    obtain ⟨c1, c2, c3⟩ := chn_more hc
    refine wf (hs := [143]) 40 123 (by decide) (wF (by decide) (And.intro rfl (m_filled s m0 hx hn h6.2 hb (hm l List.mem_cons_self) hr rfl rfl (fun I1 w1 s1 e1 => ?_))))
    refine And.intro rfl (ms_back6 s1 hW hH rfl (fun I2 s2 e2 => ?_))
    have hr2 : RW n (mbr x) (gtL l) I2 := fun i hi => by rw [e2, e1]; exact hr i hi
    refine wp_keys [0, 1, 2, 3, 4, 5, 6] rfl rfl ?_
    cases hg : gdr (stO v x b) l 0 (v 266 7) with
    | true => exact good l (l' :: t) I2 hg s2 hr2 hQ
    | false =>
      rw [List.find?_cons, hg] at hQ
      refine wf (hs := [123]) 40 143 (by decide) (wt rfl (And.intro rfl (ms_next s2 h6 hmo hr2 rfl (fun q => absurd q c1) (fun _ I3 hr3 s3 => wF (by decide) ?_))))
      refine wp_keys [0, 1, 2, 3, 4, 5, 6] rfl rfl ?_
      exact ih l' I3 _ (fun y hy => hm y (List.mem_cons_of_mem _ hy)) c3 s3 (fun i hi => by
        have := hr3 i hi
        rw [c2 i hi] at this
        exact this) hQ
def GOr (I : Nat → Nat → Int32) (x b k : Int) : Prop := (I 266 0 = 1 ∧ 0 < x) ∧ x.toNat < 2 ^ nP (vC I) ∧ (mem x.toNat 12).length ≤ 6 ∧ (1 ≤ b ∧ b ≤ 59) ∧ (0 ≤ k ∧ k < (mem x.toNat 12).length)
theorem m_order {x b k : Int} (hV : Vm I) (h0 : M0 I J) (hz : ZO (mm I J A)) (hx : -2147483648 ≤ x ∧ x ≤ 2147483647) (hb : -2147483648 ≤ b ∧ b ≤ 2147483647) (hk : -2147483648 ≤ k ∧ k ≤ 2147483647) (h1 : GOr I x b k → ∀ I', MSt I J A (vC I) I' J (vC I) → Q (some (.int (iZ (resO x.toNat (SRc (stO (vC I) x.toNat b) (mem x.toNat 12).length (mem x.toNat 12).length 0 (vC I 266 7)) k.toNat)))) (mm I' J A)) (hno : ¬ GOr I x b k → ∀ I', (∀ c, c ≠ 306 → I' c = I c) → Q (some (.int (iZ (-1)))) (mm I' J A)) : wpC E (d + 7) 236 [.ref 265, .int (iZ x), .int (iZ b), .int (iZ k)] (mm I J A) Q := by
  by_cases hs : I 266 0 = 1 ∧ 0 < x
  · have hW := (hV hs.1).1
    have hH := (hV hs.1).2
    have h12 := nP12 hW
    obtain ⟨ξ, hξ, rfl⟩ : ∃ ξ : Nat, 0 < ξ ∧ x = ξ := ⟨x.toNat, by omega, by omega⟩
    rw [Int.toNat_natCast] at h1
    obtain ⟨n, hn⟩ : ∃ n, n = (mem ξ 12).length := ⟨_, rfl⟩
    have n12 := (mem_bd (x := ξ) 12).1
    have G : GOr I (ξ : Int) b k ↔ (ξ < 2 ^ nP (vC I) ∧ n ≤ 6 ∧ (1 ≤ b ∧ b ≤ 59) ∧ (0 ≤ k ∧ k < n)) := by
      unfold GOr
      rw [Int.toNat_natCast, ← hn]
      exact ⟨fun q => q.2, fun q => ⟨hs, q⟩⟩
    rw [← hn] at h1
    -- behind the row
    have T : ∀ I', (∀ c, c ≠ 306 → I' c = I c) → (∀ j, j < n → I' 306 j = iZ (mbr ξ j : Nat)) → ZO (mm I' J A) → ∀ x5, wp E (d + 7) 236 52 [(0, .ref 265), (1, .int (iZ ξ)), (2, .int (iZ b)), (3, .int (iZ k)), (4, .int (iZ n)), (5, .int x5)] [] (mm I' J A) Q := fun I' c1 c2 z1 x5 => by
      have N : ¬ GOr I (ξ : Int) b k → Q (some (.int (iZ (-1)))) (mm I' J A) := fun q => hno q I' c1
      have ev : vC I' = vC I := vC_eq (fun a q1 q2 => c1 a (by omega))
      have e0 : I' 266 0 = 1 := by rw [c1 266 (by omega)]; exact hs.1
      have e9 : I' 266 9 = iZ (nP (vC I) : Nat) := by
        rw [c1 266 (by omega), vI_eq I 266 9]
        have b9 := hW.1.2.2.2.2.2.2.2.2.1
        congr 1
        show vC I 266 9 = _
        unfold nP; omega
      have T3 : ξ < 2 ^ nP (vC I) → n ≤ 6 → 1 ≤ b ∧ b ≤ 59 → wp E (d + 7) 236 95 [(0, .ref 265), (1, .int (iZ ξ)), (2, .int (iZ b)), (3, .int (iZ k)), (4, .int (iZ n)), (5, .int x5)] [] (mm I' J A) Q := fun g1 g2 g3 => by
        have en : (iZ (n : Int) - iZ 1).toInt64 = lZ ((n : Int) - 1) := by simp (disch := omega) only [z_i8, z_i16, z_of, z_ofN, z_lofN, z_0, z_1, z_m1, z_l0, z_l1, iZ_add, iZ_sub, iZ_mul, iZ_neg, lZ_add, lZ_sub, lZ_mul, lZ_neg, z_div, z_ldiv, z_l, z_i, z_lt, z_le, z_eq, z_llt, z_lle, z_leq, z_cgt, z_cge, z_clt, z_cle, z_ceq, z_cl, z_nat, Int.toNat_natCast, mm_I, mm_J, z_cln, z_abs, z_max, z_min, z_lmax, z_lmin, z_sin, Int.cast_ofNat_Int, uI_I, uI_J, uL_I, uL_J, uA_I, uA_J, sI_eq, sI_ne, sL_eq, sL_ne, up_eq, up_ne, uL_eq, uL_ne, z_toInt, Int.reduceToNat]
        refine wf (hs := [123]) 60 95 (by decide) (And.intro rfl (mW (z := k) (lo := 0) (hi := (n : Int) - 1) (z_l (by omega) (by omega)) rfl en hk (by omega) (by omega) (fun g4 => wF (by decide) ?_) (fun g4 => wt rfl (N fun q => g4 (by have := (G.mp q).2.2.2; omega)))))
        have H := h1 (G.mpr ⟨g1, g2, g3, by omega, by omega⟩)
        obtain ⟨κ, hκ, rfl⟩ : ∃ κ : Nat, κ < n ∧ k = κ := ⟨k.toNat, by omega, by omega⟩
        rw [Int.toNat_natCast] at H
        have W2 : Wf (vC I') := by rw [ev]; exact hW
        have H2 : WfH (vC I') := by rw [ev]; exact hH
        refine And.intro rfl (ms_lay6 z1 W2 H2 rfl (fun I2 s2 e2 => ?_))
        refine wp_keys [0, 1, 2, 3, 4, 5, 6] rfl rfl ?_
        obtain ⟨t, ht⟩ := ps_head n (by omega)
        have hc := chn_all n (by omega) (by omega)
        rw [← find_SR] at H
        rw [ht] at hc H
        rw [ev] at s2
        have lf : LF I J I' J := ⟨fun b _ _ _ q => c1 b q, fun j _ _ => by rw [c1 265 (by omega)], fun k _ => imV_eq (c1 304 (by omega)), JF_refl⟩
        have s3 : MSt I J A (vC I) I2 J (vC I) := ⟨LF_trans lf s2.1, s2.2⟩
        refine m_orderL h0 hW hH g1 hn ⟨by omega, g2⟩ g3 hκ t _ I2 _ (fun y hy => by rw [ht]; exact hy) hc s3 (fun i hi => ?_) H
        have e : gtL (List.range n) i = i := by
          unfold gtL
          rw [List.getD_eq_getElem?_getD, List.getElem?_range hi]; rfl
        rw [e, e2]
        exact ⟨hi, c2 i hi⟩
      have T2 : ξ < 2 ^ nP (vC I) → n ≤ 6 → wp E (d + 7) 236 83 [(0, .ref 265), (1, .int (iZ ξ)), (2, .int (iZ b)), (3, .int (iZ k)), (4, .int (iZ n)), (5, .int x5)] [] (mm I' J A) Q := fun g1 g2 =>
        wf (hs := [95]) 60 83 (by decide) (And.intro rfl (mW (z := b) (lo := 1) (hi := 59) (z_l (by omega) (by omega)) rfl rfl hb (by omega) (by omega) (fun g3 => wF (by decide) (T3 g1 g2 g3)) (fun g3 => wt rfl (N fun q => g3 (G.mp q).2.2.1))))
      refine wf (hs := [83]) 60 52 (by decide) (And.intro rfl (m_isShip (fun _ => wF (by decide) (wF (by ((try simp (disch := omega) only [z_i8, z_i16, z_of, z_ofN, z_lofN, z_0, z_1, z_m1, z_l0, z_l1, iZ_add, iZ_sub, iZ_mul, iZ_neg, lZ_add, lZ_sub, lZ_mul, lZ_neg, z_div, z_ldiv, z_l, z_i, z_lt, z_le, z_eq, z_llt, z_lle, z_leq, z_cgt, z_cge, z_clt, z_cle, z_ceq, z_cl, z_nat, Int.toNat_natCast, mm_I, mm_J, z_cln, z_abs, z_max, z_min, z_lmax, z_lmin, z_sin, Int.cast_ofNat_Int, uI_I, uI_J, uL_I, uL_J, uA_I, uA_J, sI_eq, sI_ne, sL_eq, sL_ne, up_eq, up_ne, uL_eq, uL_ne, z_toInt, Int.reduceToNat]) <;> omega)) (And.intro (inL (by decide)) ?_))) (fun q => absurd e0 q)))
      have sh := bi_shr (f := ξ) (i := nP (vC I)) (by omega) (by omega)
      have e2 : (iZ (ξ : Int) >>> (I' 266 9 &&& 31)) = iZ ((ξ / 2 ^ nP (vC I) : Nat) : Int) := by rw [e9]; exact sh
      have dl : ξ / 2 ^ nP (vC I) ≤ ξ := Nat.div_le_self _ _
      by_cases g1 : ξ < 2 ^ nP (vC I)
      · have z0 : (iZ (ξ : Int) >>> (I' 266 9 &&& 31)) = 0 := by rw [e2, Nat.div_eq_of_lt g1]; rfl
        refine wt z0 (And.intro (fun q => ?_) (fun q => ?_))
        · simp (disch := omega) only [z_i8, z_i16, z_of, z_ofN, z_lofN, z_0, z_1, z_m1, z_l0, z_l1, iZ_add, iZ_sub, iZ_mul, iZ_neg, lZ_add, lZ_sub, lZ_mul, lZ_neg, z_div, z_ldiv, z_l, z_i, z_lt, z_le, z_eq, z_llt, z_lle, z_leq, z_cgt, z_cge, z_clt, z_cle, z_ceq, z_cl, z_nat, Int.toNat_natCast, mm_I, mm_J, z_cln, z_abs, z_max, z_min, z_lmax, z_lmin, z_sin, Int.cast_ofNat_Int, uI_I, uI_J, uL_I, uL_J, uA_I, uA_J, sI_eq, sI_ne, sL_eq, sL_ne, up_eq, up_ne, uL_eq, uL_ne, z_toInt, Int.reduceToNat] at q
          exact N fun x => by have := (G.mp x).2.1; omega
        · simp (disch := omega) only [z_i8, z_i16, z_of, z_ofN, z_lofN, z_0, z_1, z_m1, z_l0, z_l1, iZ_add, iZ_sub, iZ_mul, iZ_neg, lZ_add, lZ_sub, lZ_mul, lZ_neg, z_div, z_ldiv, z_l, z_i, z_lt, z_le, z_eq, z_llt, z_lle, z_leq, z_cgt, z_cge, z_clt, z_cle, z_ceq, z_cl, z_nat, Int.toNat_natCast, mm_I, mm_J, z_cln, z_abs, z_max, z_min, z_lmax, z_lmin, z_sin, Int.cast_ofNat_Int, uI_I, uI_J, uL_I, uL_J, uA_I, uA_J, sI_eq, sI_ne, sL_eq, sL_ne, up_eq, up_ne, uL_eq, uL_ne, z_toInt, Int.reduceToNat] at q
          exact T2 g1 (by omega)
      · have z0 : ¬ (iZ (ξ : Int) >>> (I' 266 9 &&& 31)) = 0 := by
          rw [e2]
          refine nz_ne ?_ (by omega)
          exact Nat.div_pos (by omega) (Nat.pow_pos (by omega))
        exact wF z0 (N fun x => g1 (G.mp x).1)
    have L : ∀ (m i : Nat) (I' : Nat → Nat → Int32) (x4 x5 : Int32), i + m = 12 → (∀ c, c ≠ 306 → I' c = I c) → (∀ j, j < (mem ξ i).length → I' 306 j = iZ (gtL (mem ξ i) j : Nat)) → ZO (mm I' J A) → x4 = iZ ((mem ξ i).length : Nat) → x5 = iZ i → wp E (d + 7) 236 6 [(0, .ref 265), (1, .int (iZ ξ)), (2, .int (iZ b)), (3, .int (iZ k)), (4, .int x4), (5, .int x5)] [] (mm I' J A) Q := by
      intro m
      induction m with
      | zero =>
        intro i I' x4 x5 hi c1 c2 z1 e4 e5
        have : i = 12 := by omega
        subst this
        rw [← hn] at e4 c2
        subst e4; subst e5
        exact wf (hs := [6, 52]) 20 6 (by decide) (wt (by decide) (T I' c1 c2 z1 _))
      | succ m ih =>
        intro i I' x4 x5 hi c1 c2 z1 e4 e5
        subst e4; subst e5
        have e0 : I' 266 0 = 1 := by rw [c1 266 (by omega)]; exact hs.1
        have bb := bi_bit (f := ξ) (i := i) (by omega) (by omega)
        have mb := (mem_bd (x := ξ) i).1
        have ms := mem_succ (x := ξ) (p := i)
        refine wf (hs := [6, 52]) 60 6 (by decide) (wF (by ((try simp (disch := omega) only [z_i8, z_i16, z_of, z_ofN, z_lofN, z_0, z_1, z_m1, z_l0, z_l1, iZ_add, iZ_sub, iZ_mul, iZ_neg, lZ_add, lZ_sub, lZ_mul, lZ_neg, z_div, z_ldiv, z_l, z_i, z_lt, z_le, z_eq, z_llt, z_lle, z_leq, z_cgt, z_cge, z_clt, z_cle, z_ceq, z_cl, z_nat, Int.toNat_natCast, mm_I, mm_J, z_cln, z_abs, z_max, z_min, z_lmax, z_lmin, z_sin, Int.cast_ofNat_Int, uI_I, uI_J, uL_I, uL_J, uA_I, uA_J, sI_eq, sI_ne, sL_eq, sL_ne, up_eq, up_ne, uL_eq, uL_ne, z_toInt, Int.reduceToNat]) <;> omega)) (And.intro rfl (m_isShip (fun _ => wF (by decide) (wF (by ((try simp (disch := omega) only [z_i8, z_i16, z_of, z_ofN, z_lofN, z_0, z_1, z_m1, z_l0, z_l1, iZ_add, iZ_sub, iZ_mul, iZ_neg, lZ_add, lZ_sub, lZ_mul, lZ_neg, z_div, z_ldiv, z_l, z_i, z_lt, z_le, z_eq, z_llt, z_lle, z_leq, z_cgt, z_cge, z_clt, z_cle, z_ceq, z_cl, z_nat, Int.toNat_natCast, mm_I, mm_J, z_cln, z_abs, z_max, z_min, z_lmax, z_lmin, z_sin, Int.cast_ofNat_Int, uI_I, uI_J, uL_I, uL_J, uA_I, uA_J, sI_eq, sI_ne, sL_eq, sL_ne, up_eq, up_ne, uL_eq, uL_ne, z_toInt, Int.reduceToNat]) <;> omega)) ?_)) (fun q => absurd e0 q))))
        cases hbt : ξ.testBit i with
        | true =>
          rw [hbt] at bb ms
          rw [if_pos rfl] at ms
          have cl : (iZ ((mem ξ i).length : Int)).toNatClampNeg = (mem ξ i).length := z_cln (by omega)
          have hin : vp_in (iZ ((mem ξ i).length : Int)) 12 := z_in (by omega) (by omega) (by omega)
          refine wt bb (And.intro hin ?_)
          refine wp_keys [0, 1, 2, 3, 4, 5] rfl rfl ?_
          refine ih (i + 1) (setI I' 306 (iZ ((mem ξ i).length : Int)).toNatClampNeg (iZ i)) _ _ (by omega) (fun c hc => ?_) (fun j hj => ?_) (zo_ia z1 (a := 306) (t := 0) (n := 12) rfl hin) ?_ (iZ_add i 1)
          · rw [← c1 c hc]
            funext j
            rw [setI_at, if_neg (fun q => hc q.1)]
          · rw [ms] at hj ⊢
            rw [List.length_append] at hj
            have l1 : [i].length = 1 := rfl
            rw [l1] at hj
            rw [setI_at, cl]
            by_cases q : j = (mem ξ i).length
            · rw [if_pos ⟨rfl, q⟩, q, gtL_last]
            · rw [if_neg (fun x => q x.2), gtL_app (by omega)]
              exact c2 j (by omega)
          · rw [ms, List.length_append]
            exact iZ_add _ 1
        | false =>
          rw [hbt] at bb ms
          rw [if_neg (by decide)] at ms
          have nb : ¬ (iZ (ξ : Int) >>> (iZ (i : Int) &&& 31)) &&& iZ 1 = iZ 1 := by rw [bb]; decide
          refine wF nb ?_
          refine wp_keys [0, 1, 2, 3, 4, 5] rfl rfl ?_
          exact ih (i + 1) I' _ _ (by omega) c1 (by rw [ms]; exact c2) z1 (by rw [ms]) (iZ_add i 1)
    refine wc (hs := [6]) 20 (by decide) ?_
    refine wp_keys [0, 1, 2, 3, 4, 5] rfl rfl ?_
    exact L 12 0 I _ _ (by omega) (fun _ _ => rfl) (fun j hj => absurd hj (Nat.not_lt_zero j)) hz rfl rfl
  · have H := hno (fun q => hs q.1) I (fun _ _ => rfl)
    refine wc (hs := [52]) 30 (by decide) (wF (by decide) ?_)
    have T : ∀ x5, wp E (d + 7) 236 52 [(0, .ref 265), (1, .int (iZ x)), (2, .int (iZ b)), (3, .int (iZ k)), (4, .int (iZ 0)), (5, .int x5)] [] (mm I J A) Q := fun x5 => by
      refine wf (hs := [64]) 30 52 (by decide) (And.intro rfl (m_isShip (fun p => wF (by decide) (wt ?_ H)) (fun p => wt rfl H)))
      show iZ x < iZ 1
      have : ¬ 0 < x := fun q => hs ⟨p, q⟩
      ((try simp (disch := omega) only [z_i8, z_i16, z_of, z_ofN, z_lofN, z_0, z_1, z_m1, z_l0, z_l1, iZ_add, iZ_sub, iZ_mul, iZ_neg, lZ_add, lZ_sub, lZ_mul, lZ_neg, z_div, z_ldiv, z_l, z_i, z_lt, z_le, z_eq, z_llt, z_lle, z_leq, z_cgt, z_cge, z_clt, z_cle, z_ceq, z_cl, z_nat, Int.toNat_natCast, mm_I, mm_J, z_cln, z_abs, z_max, z_min, z_lmax, z_lmin, z_sin, Int.cast_ofNat_Int, uI_I, uI_J, uL_I, uL_J, uA_I, uA_J, sI_eq, sI_ne, sL_eq, sL_ne, up_eq, up_ne, uL_eq, uL_ne, z_toInt, Int.reduceToNat]) <;> omega)
    refine And.intro rfl (m_isShip (fun p => wF (by decide) (wt ?_ ?_)) (fun p => wt rfl ?_))
    · show iZ x ≤ iZ 0
      have : ¬ 0 < x := fun q => hs ⟨p, q⟩
      ((try simp (disch := omega) only [z_i8, z_i16, z_of, z_ofN, z_lofN, z_0, z_1, z_m1, z_l0, z_l1, iZ_add, iZ_sub, iZ_mul, iZ_neg, lZ_add, lZ_sub, lZ_mul, lZ_neg, z_div, z_ldiv, z_l, z_i, z_lt, z_le, z_eq, z_llt, z_lle, z_leq, z_cgt, z_cge, z_clt, z_cle, z_ceq, z_cl, z_nat, Int.toNat_natCast, mm_I, mm_J, z_cln, z_abs, z_max, z_min, z_lmax, z_lmin, z_sin, Int.cast_ofNat_Int, uI_I, uI_J, uL_I, uL_J, uA_I, uA_J, sI_eq, sI_ne, sL_eq, sL_ne, up_eq, up_ne, uL_eq, uL_ne, z_toInt, Int.reduceToNat]) <;> omega)
    · refine wp_keys [0, 1, 2, 3, 4, 5] rfl rfl ?_
      exact T _
    · refine wp_keys [0, 1, 2, 3, 4, 5] rfl rfl ?_
      exact T _
end ORD2
