/-! ===== order: the places of a set; the reference ===== -/
def mem (x p : Nat) : List Nat := (List.range p).filter (fun i => x.testBit i)
def mbr (x i : Nat) : Nat := gtL (mem x 12) i
theorem mem_succ {x p : Nat} : mem x (p + 1) = if x.testBit p then mem x p ++ [p] else mem x p := by
  unfold mem
  rw [List.range_succ, List.filter_append, List.filter_cons, List.filter_nil]
  by_cases h : x.testBit p = true
  · rw [if_pos h, if_pos h]
  · rw [if_neg h, if_neg h, List.append_nil]
theorem mem_pre {x p : Nat} : ∀ q, p ≤ q → ∃ l, mem x q = mem x p ++ l := by
  intro q
  induction q with
  | zero => intro h; have : p = 0 := by omega
            subst this; exact ⟨[], by rw [List.append_nil]⟩
  | succ q ih =>
    intro h
    by_cases e : p = q + 1
    · subst e; exact ⟨[], by rw [List.append_nil]⟩
    · obtain ⟨l, hl⟩ := ih (by omega)
      rw [mem_succ, hl]
      by_cases hb : x.testBit q = true
      · rw [if_pos hb]; exact ⟨l ++ [q], by rw [List.append_assoc]⟩
      · rw [if_neg hb]; exact ⟨l, rfl⟩
theorem gtL_app {l l' : List Nat} {i : Nat} (h : i < l.length) : gtL (l ++ l') i = gtL l i := by
  unfold gtL
  rw [List.getD_eq_getElem?_getD, List.getD_eq_getElem?_getD, List.getElem?_append_left h]
theorem gtL_last {l : List Nat} {a : Nat} : gtL (l ++ [a]) l.length = a := by
  unfold gtL
  rw [List.getD_eq_getElem?_getD, List.getElem?_append_right (Nat.le_refl _), Nat.sub_self]
  rfl
theorem mem_bd {x : Nat} : ∀ p, (mem x p).length ≤ p ∧ (∀ i, i < (mem x p).length → gtL (mem x p) i < p ∧ x.testBit (gtL (mem x p) i) = true) ∧ ∀ i j, i < j → j < (mem x p).length → gtL (mem x p) i < gtL (mem x p) j := by
  intro p
  induction p with
  | zero => exact ⟨Nat.le_refl 0, fun i h => absurd h (Nat.not_lt_zero i), fun i j _ h => absurd h (Nat.not_lt_zero j)⟩
  | succ p ih =>
    obtain ⟨h1, h2, h3⟩ := ih
    rw [mem_succ]
    by_cases hb : x.testBit p = true
    · rw [if_pos hb, List.length_append]
      have l1 : [p].length = 1 := rfl
      rw [l1]
      refine ⟨by omega, fun i hi => ?_, fun i j hij hj => ?_⟩
      · by_cases q : i < (mem x p).length
        · rw [gtL_app q]; exact ⟨by have := (h2 i q).1; omega, (h2 i q).2⟩
        · have : i = (mem x p).length := by omega
          rw [this, gtL_last]; exact ⟨by omega, hb⟩
      · by_cases q : j < (mem x p).length
        · rw [gtL_app q, gtL_app (by omega)]; exact h3 i j hij q
        · have : j = (mem x p).length := by omega
          rw [this, gtL_last, gtL_app (by omega)]
          exact (h2 i (by omega)).1
    · rw [if_neg hb]
      exact ⟨by omega, fun i hi => ⟨by have := (h2 i hi).1; omega, (h2 i hi).2⟩, h3⟩
theorem mbr_MO {x : Nat} : MO (mem x 12).length (mbr x) := ⟨fun i j h1 h2 => (mem_bd 12).2.2 i j h1 h2, fun i hi => by have := ((mem_bd (x := x) 12).2.1 i hi).1; unfold mbr; omega⟩
theorem mbr_lt {x n i : Nat} (h : x < 2 ^ n) (hi : i < (mem x 12).length) : mbr x i < n := by
  have t1 := ((mem_bd (x := x) 12).2.1 i hi).2
  apply Classical.byContradiction
  intro q
  have hh : x < 2 ^ mbr x i := Nat.lt_of_lt_of_le h (Nat.pow_le_pow_right (by omega) (by omega))
  have t2 := Nat.testBit_lt_two_pow hh
  unfold mbr at t2
  rw [t1] at t2
  cases t2
noncomputable def flV (v : am_V) (x f : Nat) : am_V := fun a k => @ite _ (a = 276 ∧ ∃ i, i < (mem x 12).length ∧ f.testBit i = true ∧ mbr x i = k) (Classical.propDecidable _) (capZ v k) (v a k)
theorem fl_pos {v : am_V} {x f i : Nat} (hi : i < (mem x 12).length) (hb : f.testBit i = true) : flV v x f 276 (mbr x i) = capZ v (mbr x i) := if_pos ⟨rfl, i, hi, hb, rfl⟩
theorem fl_neg {v : am_V} {x f a k : Nat} (h : ¬ (a = 276 ∧ ∃ i, i < (mem x 12).length ∧ f.testBit i = true ∧ mbr x i = k)) : flV v x f a k = v a k := if_neg h
theorem mbr_inj {x i j : Nat} (hi : i < (mem x 12).length) (hj : j < (mem x 12).length) (h : mbr x i = mbr x j) : i = j := by
  rcases Nat.lt_trichotomy i j with q | q | q
  · have := mbr_MO.1 i j q hj; omega
  · exact q
  · have := mbr_MO.1 j i q hi; omega
theorem fl_out {v : am_V} {x f i : Nat} (hi : i < (mem x 12).length) (hb : f.testBit i = false) : flV v x f 276 (mbr x i) = v 276 (mbr x i) := fl_neg (fun q => by
  obtain ⟨-, j, h1, h2, h3⟩ := q
  have := mbr_inj h1 hi h3
  rw [this, hb] at h2
  cases h2)
theorem fl_0 {v : am_V} {x : Nat} : flV v x 0 = v := by
  funext a k
  refine fl_neg (fun q => ?_)
  obtain ⟨-, j, -, h2, -⟩ := q
  simp at h2
theorem fl_ne {v : am_V} {x f a k : Nat} (h : a ≠ 276) : flV v x f a k = v a k := fl_neg (fun q => h q.1)
theorem fl_cap {v : am_V} {x f k : Nat} : capZ (flV v x f) k = capZ v k := by
  unfold capZ
  rw [fl_ne (by decide), fl_ne (by decide), fl_ne (by decide)]
theorem fl_more {v : am_V} {x f i : Nat} (hi : i < (mem x 12).length) : vset (flV v x f) 276 (mbr x i) (capZ v (mbr x i)) = flV v x (f ||| 2 ^ i) := by
  funext a k
  unfold vset
  by_cases q : a = 276 ∧ k = mbr x i
  · rw [if_pos q, q.1, q.2, fl_pos hi (by rw [tb_or, decide_eq_true rfl, Bool.or_true])]
  · rw [if_neg q]
    by_cases h : a = 276 ∧ ∃ j, j < (mem x 12).length ∧ f.testBit j = true ∧ mbr x j = k
    · obtain ⟨h0, j, h1, h2, h3⟩ := h
      subst h0; subst h3
      rw [fl_pos h1 h2, fl_pos h1 (by rw [tb_or, h2, Bool.true_or])]
    · rw [fl_neg h, fl_neg (fun h' => ?_)]
      obtain ⟨h0, j, h1, h2, h3⟩ := h'
      rw [tb_or] at h2
      cases hb : f.testBit j with
      | true => exact h ⟨h0, j, h1, hb, h3⟩
      | false =>
        rw [hb, Bool.false_or] at h2
        have : i = j := of_decide_eq_true h2
        subst this
        exact q ⟨h0, h3.symm⟩
theorem fl_ok {v : am_V} {x f : Nat} (hW : Wf v) (hH : WfH v) (hx : x < 2 ^ nP v) : Wf (flV v x f) ∧ WfH (flV v x f) := by
  refine ⟨?_, WfH_276 hH (fun a i q => fl_ne q)⟩
  obtain ⟨h1, h2, h3, h4⟩ := hW
  have nn : nP (flV v x f) = nP v := by unfold nP; rw [fl_ne (by decide)]
  have nc : nC (flV v x f) = nC v := by unfold nC; rw [fl_ne (by decide)]
  refine ⟨?_, ?_, fun k hk => ?_, fun k hk => ?_⟩
  · unfold WfS at h1 ⊢
    simp only [fl_ne (show (266 : Nat) ≠ 276 by decide)]
    exact h1
  · unfold WfL at h2 ⊢
    simp only [fl_ne (show (267 : Nat) ≠ 276 by decide)]
    exact h2
  · rw [nn] at hk
    have w := h3 k hk
    have c := (capB w).2.2
    unfold WfP at w ⊢
    rw [fl_cap, fl_ne (by decide), fl_ne (by decide), fl_ne (by decide), fl_ne (by decide), fl_ne (by decide), fl_ne (by decide)]
    refine ⟨w.1, w.2.1, w.2.2.1, w.2.2.2.1, w.2.2.2.2.1, w.2.2.2.2.2.1, ?_⟩
    by_cases h : 276 = 276 ∧ ∃ j, j < (mem x 12).length ∧ f.testBit j = true ∧ mbr x j = k
    · obtain ⟨-, j, q1, q2, q3⟩ := h
      subst q3
      rw [fl_pos q1 q2]
      exact ⟨c.1, Int.le_refl _⟩
    · rw [fl_neg h]; exact w.2.2.2.2.2.2
  · rw [nc] at hk
    have w := h4 k hk
    unfold WfC at w ⊢
    rw [fl_ne (by decide), fl_ne (by decide), fl_ne (by decide), fl_ne (by decide), fl_ne (by decide)]
    exact w
def rsZ (w : am_V) (z : Int) : Int := rstZ (trnZ w 0 0 (asdZ w)) z
noncomputable def stO (v : am_V) (x : Nat) (b : Int) : Nat → Int → Nat → Option Int := fun f z i =>
  if v 276 (mbr x i) ≤ capZ v (mbr x i) / 2 then
    (if b < ((rsZ (vset (flV v x f) 276 (mbr x i) (capZ v (mbr x i) / 2)) z).natAbs : Int) then none
     else if b < ((rsZ (flV v x (f ||| 2 ^ i)) (rsZ (vset (flV v x f) 276 (mbr x i) (capZ v (mbr x i) / 2)) z)).natAbs : Int) then none
     else some (rsZ (flV v x (f ||| 2 ^ i)) (rsZ (vset (flV v x f) 276 (mbr x i) (capZ v (mbr x i) / 2)) z)))
  else (if b < ((rsZ (flV v x (f ||| 2 ^ i)) z).natAbs : Int) then none else some (rsZ (flV v x (f ||| 2 ^ i)) z))
section ORD
variable {E : Nat × (Nat → Int32)} {d : Nat} {I I0 I1 : Nat → Nat → Int32} {J J0 J1 : Nat → Nat → Int64} {A A1 : Nat → Option Nat} {Q : Option Value → am_M → Prop} {M : am_M} {v w : am_V}
theorem ms_set {p : Nat} {n : Int} {x : Int32} (h : MSt I0 J0 A v I J w) (hp : p < nP w) (hn : 0 ≤ n ∧ n ≤ capZ w p) (ex : x = iZ n) : MSt I0 J0 A v (setI I 276 (iZ (p : Int)).toNatClampNeg x) J (vset w 276 p n) := by
  have hW := h.2.2.2.2.1
  have h12 := nP12 hW
  have cb := (capB (hW.2.2.1 p hp)).2.2
  have cl : (iZ (p : Int)).toNatClampNeg = p := z_cln (by omega)
  have hz : ZO (mm (setI I 276 (iZ (p : Int)).toNatClampNeg x) J A) := zo_ia (j := iZ (p : Int)) (x := x) h.2.1 (a := 276) (t := 0) (n := 12) rfl (z_in (by omega) (by omega) (by omega))
  refine ms_cell h hz (fun a ha _ => ?_) JF_refl ?_ (Wf_set hW hn) (WfH_276 h.2.2.2.2.2 (fun a i q => vset_na q))
  · funext j
    rw [setI_at, if_neg (by omega)]
  · rw [cl, vC_set (z := n) (by omega) ex (by omega) (by omega), h.2.2.2.1]
theorem ms_cap {p : Nat} {x : Int32} (h : MSt I0 J0 A v I J w) (hp : p < nP w) (ex : x = iZ p) (hQ : Q (some (.int (iZ (capZ w p)))) (mm I J A)) : wpC E d 149 [.ref 265, .int x] (mm I J A) Q := by
  have h12 := nP12 h.2.2.2.2.1
  have ev := h.2.2.2.1
  have hW := h.2.2.2.2.1
  subst ev
  exact m_capE ex (by omega) (hW.2.2.1 p hp) hQ
theorem ms_rest {z : Int} {x : Int32} (h : MSt I0 J0 A v I J w) (m0 : M0 I0 J0) (hz : -60 ≤ z ∧ z ≤ 60) (ex : x = iZ z) (hQ : Q (some (.int (iZ (rsZ w z)))) (mm I J A)) : wpC E (d + 5) 168 [.ref 265, .int x] (mm I J A) Q := by
  have ev := h.2.2.2.1
  have hW := h.2.2.2.2.1
  have m := LF_M0 h.1 m0
  subst ev
  refine m_restFromE ex (M0_WM hW m) hz ?_
  rw [M0_tM m]
  exact hQ
theorem ms_back6 {x : Int32} (h : MSt I0 J0 A v I J w) (hW : Wf v) (hH : WfH v) (ex : x = iZ (4 : Nat)) (hQ : ∀ I', MSt I0 J0 A v I' J v → I' 306 = I 306 → Q none (mm I' J A)) : wpC E (d + 1) 227 [.ref 265, .int x, .int 1] (mm I J A) Q := by
  obtain ⟨f, hz, e4, ev, -, -⟩ := h
  refine wpC_mono (wpC_zo hz (m_carriesB (k := 4) (Q := fun r M => r = none ∧ ∃ I', M = mm I' J A ∧ LF I J I' J ∧ imV I' 4 = imV I 4 ∧ vC I' = imV I 4 ∧ I' 306 = I 306) (by omega) ex hz (fun I' i1 i3 i4 => ⟨rfl, I', rfl, ⟨fun b q1 q2 q3 _ => i3 b q1 q3, i4, fun k hk => imV_eq (i3 304 (by omega) (by omega)), JF_refl⟩, imV_eq (i3 304 (by omega) (by omega)), i1, i3 306 (by omega) (by omega)⟩))) (fun r M hh => ?_)
  obtain ⟨⟨rfl, I', rfl, h1, h2, h3, h5⟩, h4⟩ := hh
  exact hQ I' ⟨LF_trans f h1, h4, h2.trans e4, h3.trans e4, hW, hH⟩ h5
theorem ms_lay6 {x : Int32} (hz : ZO (mm I J A)) (hW : Wf (vC I)) (hH : WfH (vC I)) (ex : x = iZ (4 : Nat)) (hQ : ∀ I', MSt I J A (vC I) I' J (vC I) → I' 306 = I 306 → Q none (mm I' J A)) : wpC E (d + 1) 227 [.ref 265, .int x, .int 0] (mm I J A) Q := by
  refine wpC_mono (wpC_zo hz (m_carriesF (k := 4) (Q := fun r M => r = none ∧ ∃ I', M = mm I' J A ∧ LF I J I' J ∧ imV I' 4 = vC I ∧ vC I' = vC I ∧ I' 306 = I 306) (by omega) ex hz (fun I' i1 i2 i3 i4 => ⟨rfl, I', rfl, ⟨fun b q1 q2 q3 _ => i3 b q2 q3, i4, fun k hk => i2 k (by omega) (by omega), JF_refl⟩, i1, vC_eq (fun a q1 q2 => i3 a (by omega) (by omega)), i3 306 (by omega) (by omega)⟩))) (fun r M hh => ?_)
  obtain ⟨⟨rfl, I', rfl, h1, h2, h3, h5⟩, h4⟩ := hh
  exact hQ I' ⟨h1, h4, h2, h3, hW, hH⟩ h5
theorem m_filled {n x : Nat} {b : Int} {l : List Nat} {x1 x2 : Int32} (s : MSt I0 J0 A v I J v) (m0 : M0 I0 J0) (hx : x < 2 ^ nP v) (hn : n = (mem x 12).length) (h6 : n ≤ 6) (hb : 1 ≤ b ∧ b ≤ 59) (hl : l ∈ PS n n 0) (hr : RW n (mbr x) (gtL l) I) (ex : x1 = iZ n) (ey : x2 = iZ b) (hQ : ∀ I' w', MSt I0 J0 A v I' J w' → I' 306 = I 306 → Q (some (.int (iZ (bI (gdr (stO v x b) l 0 (v 266 7)))))) (mm I' J A)) : wpC E (d + 6) 235 [.ref 265, .int x1, .int x2] (mm I J A) Q := by
  subst ex; subst ey
  have hW := s.2.2.2.2.1
  have hH := s.2.2.2.2.2
  have h12 := nP12 hW
  obtain ⟨RES, hRES⟩ : ∃ R, R = gdr (stO v x b) l 0 (v 266 7) := ⟨_, rfl⟩
  rw [← hRES] at hQ
  have ends : ∀ I' w' (g : Int32) (x3 x5 : Int32), MSt I0 J0 A v I' J w' → I' 306 = I 306 → g = iZ (bI RES) → wp E (d + 6) 235 133 [(0, .ref 265), (1, .int (iZ n)), (2, .int (iZ b)), (3, .int x3), (4, .int g), (5, .int x5)] [] (mm I' J A) Q := by
    intro I' w' g x3 x5 s' h306 eg
    subst eg
    have nb : narrow .boolean (.int (iZ (bI RES))) = .int (iZ (bI RES)) := by cases RES <;> rfl
    exact wf (hs := []) 20 133 (by decide) (And.intro nb (hQ I' w' s' h306))
  have L : ∀ (k f j : Nat) (l' : List Nat) (z : Int) (I' : Nat → Nat → Int32) (x3 x4 x5 : Int32), l' ∈ PS n k f → j + k = n → (∀ t, t < k → gtL l (j + t) = gtL l' t) → MSt I0 J0 A v I' J (flV v x f) → I' 306 = I 306 → -60 ≤ z ∧ z ≤ 60 → gdr (stO v x b) l' f z = RES → x3 = iZ z → x4 = iZ 1 → x5 = iZ j → wp E (d + 6) 235 14 [(0, .ref 265), (1, .int (iZ n)), (2, .int (iZ b)), (3, .int x3), (4, .int x4), (5, .int x5)] [] (mm I' J A) Q := by
    intro k
    induction k with
    | zero =>
      intro f j l' z I' x3 x4 x5 hm hj hg s' h306 hz he e3 e4 e5
      subst e3; subst e4; subst e5
      have : l' = [] := by unfold PS at hm; simpa using hm
      subst this
      have he : true = RES := he
      exact wf (hs := [14, 133]) 20 14 (by decide) (wt (by ((try simp (disch := omega) only [z_i8, z_i16, z_of, z_ofN, z_lofN, z_0, z_1, z_m1, z_l0, z_l1, iZ_add, iZ_sub, iZ_mul, iZ_neg, lZ_add, lZ_sub, lZ_mul, lZ_neg, z_div, z_ldiv, z_l, z_i, z_lt, z_le, z_eq, z_llt, z_lle, z_leq, z_cgt, z_cge, z_clt, z_cle, z_ceq, z_cl, z_nat, Int.toNat_natCast, mm_I, mm_J, z_cln, z_abs, z_max, z_min, z_lmax, z_lmin, z_sin, Int.cast_ofNat_Int, uI_I, uI_J, uL_I, uL_J, uA_I, uA_J, sI_eq, sI_ne, sL_eq, sL_ne, up_eq, up_ne, uL_eq, uL_ne, z_toInt, Int.reduceToNat]) <;> omega)) (ends I' _ _ _ _ s' h306 (by rw [← he]; rfl)))
    | succ k ih =>
      intro f j l' z I' x3 x4 x5 hm hj hg s' h306 hz he e3 e4 e5
      subst e3; subst e4; subst e5
      obtain ⟨i, l2, rfl, hi, hf, hm2⟩ := ps_mem hm
      have gj : gtL l j = i := hg 0 (by omega)
      obtain ⟨p, hp⟩ : ∃ p, p = mbr x i := ⟨_, rfl⟩
      have hpn : p < nP v := by rw [hp]; exact mbr_lt hx (by omega)
      have npf : nP (flV v x f) = nP v := by unfold nP; rw [fl_ne (by decide)]
      have cj : (iZ (j : Int)).toNatClampNeg = j := z_cln (by omega)
      have cp : (iZ (p : Int)).toNatClampNeg = p := z_cln (by omega)
      have inj : vp_in (iZ (j : Int)) 12 := z_in (by omega) (by omega) (by omega)
      have inp : vp_in (iZ (p : Int)) 12 := z_in (by omega) (by omega) (by omega)
      have r0 : I' 306 (iZ (j : Int)).toNatClampNeg = iZ (p : Int) := by rw [cj, h306, (hr j (by omega)).2, gj, hp]
      have cb := (capB (hW.2.2.1 p hpn)).2.2
      have w6 := (hW.2.2.1 p hpn).2.2.2.2.2.2
      have ew : I' 276 p = iZ (v 276 p) := by
        rw [vI_eq I' 276 p]
        have : vC I' 276 p = flV v x f 276 p := by rw [s'.2.2.2.1]
        have e2 : vI I' 276 p = v 276 p := by
          have e3 : vC I' 276 p = vI I' 276 p := rfl
          rw [← e3, this, hp, fl_out (by omega) hf]
        rw [e2]
      have ec : capZ (flV v x f) p = capZ v p := fl_cap
      have stp1 : gdr (stO v x b) (i :: l2) f z = match stO v x b f z i with
          | none => false
          | some z' => gdr (stO v x b) l2 (f ||| 2 ^ i) z' := rfl
      -- behind the first half
      have T : ∀ (I2 : Nat → Nat → Int32) (w2 : am_V) (z1 : Int) (gd : Bool) (x4 : Int32), MSt I0 J0 A v I2 J w2 → nP w2 = nP v → capZ w2 p = capZ v p → vset w2 276 p (capZ v p) = flV v x (f ||| 2 ^ i) → I2 306 = I 306 → -60 ≤ z1 ∧ z1 ≤ 60 → (if gd = true ∧ ((rsZ (flV v x (f ||| 2 ^ i)) z1).natAbs : Int) ≤ b then gdr (stO v x b) l2 (f ||| 2 ^ i) (rsZ (flV v x (f ||| 2 ^ i)) z1) else false) = RES → x4 = iZ (bI gd) → wp E (d + 6) 235 88 [(0, .ref 265), (1, .int (iZ n)), (2, .int (iZ b)), (3, .int (iZ z1)), (4, .int x4), (5, .int (iZ j)), (6, .int (iZ p))] [] (mm I2 J A) Q := by
        intro I2 w2 z1 gd x4 s2 hn2 hc2 hv2 h62 hz1 he2 e4
        subst e4
        have s3 := ms_set (p := p) (n := capZ v p) (x := iZ (capZ v p)) s2 (by omega) (by omega) rfl
        rw [hv2] at s3
        have h63 : setI I2 276 (iZ (p : Int)).toNatClampNeg (iZ (capZ v p)) 306 = I 306 := by
          rw [← h62]
          funext t
          rw [setI_at, if_neg (by omega)]
        have rr := rst_rng (t := trnZ (flV v x (f ||| 2 ^ i)) 0 0 (asdZ (flV v x (f ||| 2 ^ i)))) hz1
        have rr2 : -60 ≤ rsZ (flV v x (f ||| 2 ^ i)) z1 ∧ rsZ (flV v x (f ||| 2 ^ i)) z1 ≤ 60 := rr
        refine wf (hs := [14]) 60 88 (by decide) (And.intro rfl (ms_cap s2 (by omega) rfl ?_))
        rw [hc2]
        refine And.intro inp (And.intro rfl (ms_rest s3 m0 hz1 rfl ?_))
        generalize rsZ (flV v x (f ||| 2 ^ i)) z1 = z2 at he2 rr2
        have bad : ∀ x3, RES = false → wp E (d + 6) 235 14 [(0, .ref 265), (1, .int (iZ n)), (2, .int (iZ b)), (3, .int x3), (4, .int (iZ 0)), (5, .int (iZ (j : Int) + 1))] [] (mm (setI I2 276 (iZ (p : Int)).toNatClampNeg (iZ (capZ v p))) J A) Q := fun x3 hf2 => by
          have en := ends _ _ (iZ 0) x3 (iZ (j : Int) + 1) s3 h63 (by rw [hf2]; rfl)
          exact wf (hs := [133]) 30 14 (by decide) (And.intro (fun _ => en) (fun _ => wt rfl en))
        cases gd with
        | false =>
          rw [if_neg (fun q => by cases q.1)] at he2
          refine wt rfl ?_
          refine wp_keys [0, 1, 2, 3, 4, 5] rfl rfl ?_
          exact bad _ he2.symm
        | true =>
          refine wF (by decide) (And.intro rfl (m_withoutE rfl ⟨by omega, by omega⟩ (And.intro (fun q => ?_) (fun q => ?_))))
          · simp (disch := omega) only [z_i8, z_i16, z_of, z_ofN, z_lofN, z_0, z_1, z_m1, z_l0, z_l1, iZ_add, iZ_sub, iZ_mul, iZ_neg, lZ_add, lZ_sub, lZ_mul, lZ_neg, z_div, z_ldiv, z_l, z_i, z_lt, z_le, z_eq, z_llt, z_lle, z_leq, z_cgt, z_cge, z_clt, z_cle, z_ceq, z_cl, z_nat, Int.toNat_natCast, mm_I, mm_J, z_cln, z_abs, z_max, z_min, z_lmax, z_lmin, z_sin, Int.cast_ofNat_Int, uI_I, uI_J, uL_I, uL_J, uA_I, uA_J, sI_eq, sI_ne, sL_eq, sL_ne, up_eq, up_ne, uL_eq, uL_ne, z_toInt, Int.reduceToNat] at q
            rw [if_neg (fun q2 => by omega)] at he2
            refine wp_keys [0, 1, 2, 3, 4, 5] rfl rfl ?_
            exact bad _ he2.symm
          · simp (disch := omega) only [z_i8, z_i16, z_of, z_ofN, z_lofN, z_0, z_1, z_m1, z_l0, z_l1, iZ_add, iZ_sub, iZ_mul, iZ_neg, lZ_add, lZ_sub, lZ_mul, lZ_neg, z_div, z_ldiv, z_l, z_i, z_lt, z_le, z_eq, z_llt, z_lle, z_leq, z_cgt, z_cge, z_clt, z_cle, z_ceq, z_cl, z_nat, Int.toNat_natCast, mm_I, mm_J, z_cln, z_abs, z_max, z_min, z_lmax, z_lmin, z_sin, Int.cast_ofNat_Int, uI_I, uI_J, uL_I, uL_J, uA_I, uA_J, sI_eq, sI_ne, sL_eq, sL_ne, up_eq, up_ne, uL_eq, uL_ne, z_toInt, Int.reduceToNat] at q
            rw [if_pos ⟨rfl, by omega⟩] at he2
            refine wp_keys [0, 1, 2, 3, 4, 5] rfl rfl ?_
            refine ih (f ||| 2 ^ i) (j + 1) l2 z2 _ _ _ _ hm2 (by omega) (fun t ht => ?_) s3 h63 rr2 he2 rfl rfl (iZ_add j 1)
            have := hg (t + 1) (by omega)
            rw [show j + 1 + t = j + (t + 1) by omega, this]; rfl
      rw [stp1] at he
      have eh : iZ (capZ v p) / iZ 2 = iZ (capZ v p / 2) := by simp (disch := omega) only [z_i8, z_i16, z_of, z_ofN, z_lofN, z_0, z_1, z_m1, z_l0, z_l1, iZ_add, iZ_sub, iZ_mul, iZ_neg, lZ_add, lZ_sub, lZ_mul, lZ_neg, z_div, z_ldiv, z_l, z_i, z_lt, z_le, z_eq, z_llt, z_lle, z_leq, z_cgt, z_cge, z_clt, z_cle, z_ceq, z_cl, z_nat, Int.toNat_natCast, mm_I, mm_J, z_cln, z_abs, z_max, z_min, z_lmax, z_lmin, z_sin, Int.cast_ofNat_Int, uI_I, uI_J, uL_I, uL_J, uA_I, uA_J, sI_eq, sI_ne, sL_eq, sL_ne, up_eq, up_ne, uL_eq, uL_ne, z_toInt, Int.reduceToNat]
      have go : ∀ (y : Int32), y = iZ (p : Int) → (wp E (d + 6) 235 34 [(0, .ref 265), (1, .int (iZ n)), (2, .int (iZ b)), (3, .int (iZ z)), (4, .int (iZ 1)), (5, .int (iZ j)), (6, .int y)] [] (mm I' J A) Q) := fun y ey => by
        subst ey
        refine wf (hs := [88]) 80 34 (by decide) (And.intro inp (And.intro rfl (ms_cap s' (by omega) rfl (And.intro (by decide) (And.intro (fun q => ?_) (fun q => ?_))))))
        · have q2 : iZ (capZ (flV v x f) p) / iZ 2 < I' 276 (iZ (p : Int)).toNatClampNeg := q
          rw [cp, ew, ec, eh] at q2
          simp (disch := omega) only [z_i8, z_i16, z_of, z_ofN, z_lofN, z_0, z_1, z_m1, z_l0, z_l1, iZ_add, iZ_sub, iZ_mul, iZ_neg, lZ_add, lZ_sub, lZ_mul, lZ_neg, z_div, z_ldiv, z_l, z_i, z_lt, z_le, z_eq, z_llt, z_lle, z_leq, z_cgt, z_cge, z_clt, z_cle, z_ceq, z_cl, z_nat, Int.toNat_natCast, mm_I, mm_J, z_cln, z_abs, z_max, z_min, z_lmax, z_lmin, z_sin, Int.cast_ofNat_Int, uI_I, uI_J, uL_I, uL_J, uA_I, uA_J, sI_eq, sI_ne, sL_eq, sL_ne, up_eq, up_ne, uL_eq, uL_ne, z_toInt, Int.reduceToNat] at q2
          unfold stO at he
          rw [← hp, if_neg (by omega)] at he
          refine T I' (flV v x f) z true _ s' npf ec (by rw [hp]; exact fl_more (by omega)) h306 hz ?_ rfl
          by_cases q4 : b < ((rsZ (flV v x (f ||| 2 ^ i)) z).natAbs : Int)
          · rw [if_pos q4] at he
            rw [if_neg (by omega)]; exact he
          · rw [if_neg q4] at he
            rw [if_pos ⟨rfl, by omega⟩]; exact he
        · have q2 : ¬ iZ (capZ (flV v x f) p) / iZ 2 < I' 276 (iZ (p : Int)).toNatClampNeg := q
          rw [cp, ew, ec, eh] at q2
          simp (disch := omega) only [z_i8, z_i16, z_of, z_ofN, z_lofN, z_0, z_1, z_m1, z_l0, z_l1, iZ_add, iZ_sub, iZ_mul, iZ_neg, lZ_add, lZ_sub, lZ_mul, lZ_neg, z_div, z_ldiv, z_l, z_i, z_lt, z_le, z_eq, z_llt, z_lle, z_leq, z_cgt, z_cge, z_clt, z_cle, z_ceq, z_cl, z_nat, Int.toNat_natCast, mm_I, mm_J, z_cln, z_abs, z_max, z_min, z_lmax, z_lmin, z_sin, Int.cast_ofNat_Int, uI_I, uI_J, uL_I, uL_J, uA_I, uA_J, sI_eq, sI_ne, sL_eq, sL_ne, up_eq, up_ne, uL_eq, uL_ne, z_toInt, Int.reduceToNat] at q2
          unfold stO at he
          rw [← hp, if_pos (by omega)] at he
          have s3 := ms_set (p := p) (n := capZ v p / 2) (x := iZ (capZ v p / 2)) s' (by omega) (by omega) rfl
          have h63 : setI I' 276 (iZ (p : Int)).toNatClampNeg (iZ (capZ v p / 2)) 306 = I 306 := by
            rw [← h306]
            funext t
            rw [setI_at, if_neg (by omega)]
          have rr : -60 ≤ rsZ (vset (flV v x f) 276 p (capZ v p / 2)) z ∧ rsZ (vset (flV v x f) 276 p (capZ v p / 2)) z ≤ 60 := rst_rng hz
          have vm : vset (vset (flV v x f) 276 p (capZ v p / 2)) 276 p (capZ v p) = flV v x (f ||| 2 ^ i) := by
            rw [vset_two, hp]; exact fl_more (by omega)
          refine And.intro rfl (ms_cap s' (by omega) rfl (And.intro (by decide) ?_))
          rw [ec, show (iZ (capZ v p)) / (Int32.ofInt 2) = iZ (capZ v p / 2) from eh]
          refine And.intro inp (And.intro rfl (ms_rest s3 m0 hz rfl ?_))
          generalize rsZ (vset (flV v x f) 276 p (capZ v p / 2)) z = z1 at he rr
          refine And.intro rfl (m_withoutE rfl ⟨by omega, by omega⟩ (And.intro (fun q5 => ?_) (fun q5 => ?_)))
          · simp (disch := omega) only [z_i8, z_i16, z_of, z_ofN, z_lofN, z_0, z_1, z_m1, z_l0, z_l1, iZ_add, iZ_sub, iZ_mul, iZ_neg, lZ_add, lZ_sub, lZ_mul, lZ_neg, z_div, z_ldiv, z_l, z_i, z_lt, z_le, z_eq, z_llt, z_lle, z_leq, z_cgt, z_cge, z_clt, z_cle, z_ceq, z_cl, z_nat, Int.toNat_natCast, mm_I, mm_J, z_cln, z_abs, z_max, z_min, z_lmax, z_lmin, z_sin, Int.cast_ofNat_Int, uI_I, uI_J, uL_I, uL_J, uA_I, uA_J, sI_eq, sI_ne, sL_eq, sL_ne, up_eq, up_ne, uL_eq, uL_ne, z_toInt, Int.reduceToNat] at q5
            rw [if_pos (by omega)] at he
            refine wp_keys [0, 1, 2, 3, 4, 5, 6] rfl rfl ?_
            exact T _ _ z1 false _ s3 npf fl_cap vm h63 rr (by rw [if_neg (fun q => by cases q.1)]; exact he) rfl
          · simp (disch := omega) only [z_i8, z_i16, z_of, z_ofN, z_lofN, z_0, z_1, z_m1, z_l0, z_l1, iZ_add, iZ_sub, iZ_mul, iZ_neg, lZ_add, lZ_sub, lZ_mul, lZ_neg, z_div, z_ldiv, z_l, z_i, z_lt, z_le, z_eq, z_llt, z_lle, z_leq, z_cgt, z_cge, z_clt, z_cle, z_ceq, z_cl, z_nat, Int.toNat_natCast, mm_I, mm_J, z_cln, z_abs, z_max, z_min, z_lmax, z_lmin, z_sin, Int.cast_ofNat_Int, uI_I, uI_J, uL_I, uL_J, uA_I, uA_J, sI_eq, sI_ne, sL_eq, sL_ne, up_eq, up_ne, uL_eq, uL_ne, z_toInt, Int.reduceToNat] at q5
            rw [if_neg (by omega)] at he
            refine wp_keys [0, 1, 2, 3, 4, 5, 6] rfl rfl ?_
            refine T _ _ z1 true _ s3 npf fl_cap vm h63 rr ?_ rfl
            by_cases q4 : b < ((rsZ (flV v x (f ||| 2 ^ i)) z1).natAbs : Int)
            · rw [if_pos q4] at he
              rw [if_neg (by omega)]; exact he
            · rw [if_neg q4] at he
              rw [if_pos ⟨rfl, by omega⟩]; exact he
      refine wf (hs := [34, 133]) 80 14 (by decide) (wF (by ((try simp (disch := omega) only [z_i8, z_i16, z_of, z_ofN, z_lofN, z_0, z_1, z_m1, z_l0, z_l1, iZ_add, iZ_sub, iZ_mul, iZ_neg, lZ_add, lZ_sub, lZ_mul, lZ_neg, z_div, z_ldiv, z_l, z_i, z_lt, z_le, z_eq, z_llt, z_lle, z_leq, z_cgt, z_cge, z_clt, z_cle, z_ceq, z_cl, z_nat, Int.toNat_natCast, mm_I, mm_J, z_cln, z_abs, z_max, z_min, z_lmax, z_lmin, z_sin, Int.cast_ofNat_Int, uI_I, uI_J, uL_I, uL_J, uA_I, uA_J, sI_eq, sI_ne, sL_eq, sL_ne, up_eq, up_ne, uL_eq, uL_ne, z_toInt, Int.reduceToNat]) <;> omega)) (wF (by decide) (And.intro inj ?_)))
      refine wp_keys [0, 1, 2, 3, 4, 5, 6] rfl rfl ?_
      exact go _ r0
  have e7 := ms_lean s
  have b7 := hW.1.2.2.2.2.2.2.1
  have fl := fl_0 (v := v) (x := x)
  refine wc (hs := [14]) 20 (by decide) (And.intro (inL (by decide)) ?_)
  refine wp_keys [0, 1, 2, 3, 4, 5] rfl rfl ?_
  exact L n 0 0 l (v 266 7) I _ _ _ hl (by omega) (fun t _ => by rw [Nat.zero_add]) (by rw [fl]; exact s) rfl b7 hRES.symm e7 rfl rfl
end ORD
