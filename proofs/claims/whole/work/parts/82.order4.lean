/-! ===== order in the class: the search ===== -/
section ORD4
variable {E : Nat × (Nat → Int32)} {d : Nat} {I I0 I1 : Nat → Nat → Int32} {J J0 J1 : Nat → Nat → Int64} {A A1 : Nat → Option Nat} {Q : Option Value → am_M → Prop} {M : am_M} {v w : am_V}
theorem HM_set {x n : Nat} {b : Int} {f : Nat} {z : Int} {W : Int64} (hn : n < 7) (hf : f < 2 ^ n) (hz : -60 ≤ z ∧ z ≤ 60) (h : HMo v x n b J) (hs : SRc (stO v x b) n (avl n f).length f z = none) (hW : ∀ t, t < 64 → wbt W t = (wbt (J 253 (2 * f + if 0 < z then 1 else 0)) t || decide (z.natAbs = t))) : HMo v x n b (setL J 253 (2 * f + if 0 < z then 1 else 0) W) := by
  intro g l hg hl hw
  rw [setL_at] at hw
  by_cases q : (253 : Nat) = 253 ∧ (2 * g + if 0 < l then 1 else 0) = 2 * f + if 0 < z then 1 else 0
  · rw [if_pos q, hW _ (by omega)] at hw
    have q2 := q.2
    have gf : g = f := by
      by_cases q3 : 0 < l
      · rw [if_pos q3] at q2
        by_cases q4 : 0 < z
        · rw [if_pos q4] at q2; omega
        · rw [if_neg q4] at q2; omega
      · rw [if_neg q3] at q2
        by_cases q4 : 0 < z
        · rw [if_pos q4] at q2; omega
        · rw [if_neg q4] at q2; omega
    rw [← q2] at hw
    cases hb : wbt (J 253 (2 * g + if 0 < l then 1 else 0)) l.natAbs with
    | true => exact h g l hg hl hb
    | false =>
      rw [hb, Bool.false_or] at hw
      have e := of_decide_eq_true hw
      have : l = z := by
        by_cases q3 : 0 < l
        · rw [if_pos q3] at q2
          by_cases q4 : 0 < z
          · omega
          · rw [if_neg q4] at q2; omega
        · rw [if_neg q3] at q2
          by_cases q4 : 0 < z
          · rw [if_pos q4] at q2; omega
          · omega
      rw [gf, this]; exact hs
  · rw [if_neg q] at hw
    exact h g l hg hl hw
theorem c_ordE {x n : Nat} {b : Int} (hW : Wf v) (hH : WfH v) (hx : x < 2 ^ nP v) (hn : n = (mem x 12).length) (h6 : 0 < n ∧ n ≤ 6) (hb : 1 ≤ b ∧ b ≤ 59) : ∀ (k f dep : Nat) (z : Int) (I : Nat → Nat → Int32) (J : Nat → Nat → Int64) (A : Nat → Option Nat) (x2 x3 x4 : Int32) (Q : Option Value → am_M → Prop), (avl n f).length = k → f < 2 ^ n → dep + k = n → OE I0 J0 x n b I J → RS I J 1 (flV v x f) → HMo v x n b J → (-60 ≤ z ∧ z ≤ 60) → x2 = iZ f → x3 = iZ z → x4 = iZ dep → (∀ l I' J' A', SRc (stO v x b) n k f z = some l → OE I0 J0 x n b I' J' → RS I' J' 1 (flV v x f) → HMo v x n b J' → (∀ j, j < dep → I' 252 j = I 252 j) → (∀ t, t < k → I' 252 (dep + t) = iZ (mbr x (gtL l t) : Nat)) → Q (some (.int 1)) (mm I' J' A')) → (∀ I' J' A', SRc (stO v x b) n k f z = none → OE I0 J0 x n b I' J' → RS I' J' 1 (flV v x f) → HMo v x n b J' → (∀ j, j < dep → I' 252 j = I 252 j) → Q (some (.int 0)) (mm I' J' A')) → wpC E (d + k + 5) 26 [.ref 246, .ref 1, .int x2, .int x3, .int x4] (mm I J A) Q := by
  have h12 := nP12 hW
  intro k
  induction k with
  | zero =>
    intro f dep z I J A x2 x3 x4 Q ha hf hd hO hR hM hz e2 e3 e4 h1 h0
    subst e2; subst e3; subst e4
    have c : ¬ iZ (dep : Int) < I 246 2 := by rw [hO.2.1]; ((try simp (disch := omega) only [z_i8, z_i16, z_of, z_ofN, z_lofN, z_0, z_1, z_m1, z_l0, z_l1, iZ_add, iZ_sub, iZ_mul, iZ_neg, lZ_add, lZ_sub, lZ_mul, lZ_neg, z_div, z_ldiv, z_l, z_i, z_lt, z_le, z_eq, z_llt, z_lle, z_leq, z_cgt, z_cge, z_clt, z_cle, z_ceq, z_cl, z_nat, Int.toNat_natCast, mm_I, mm_J, z_cln, z_abs, z_max, z_min, z_lmax, z_lmin, z_sin, Int.cast_ofNat_Int, uI_I, uI_J, uL_I, uL_J, uA_I, uA_J, sI_eq, sI_ne, sL_eq, sL_ne, up_eq, up_ne, uL_eq, uL_ne, z_toInt, Int.reduceToNat]) <;> omega)
    exact wc (hs := []) 20 (by decide) (wF c (And.intro rfl (h1 [] I J A rfl hO hR hM (fun _ _ => rfl) (fun t ht => by omega))))
  | succ k IH =>
    intro f dep z I J A x2 x3 x4 Q ha hf hd hO hR hM hz e2 e3 e4 h1 h0
    subst e2; subst e3; subst e4
    rw [show d + (k + 1) + 5 = d + k + 6 by omega]
    have pw := pw6 (n := n) (by omega)
    have af := av_facts (n := n) (f := f) (by omega) hf
    have fo := fl_ok (f := f) hW hH hx
    have npf : nP (flV v x f) = nP v := by unfold nP; rw [fl_ne (by decide)]
    obtain ⟨ix, hix⟩ : ∃ ix : Nat, ix = 2 * f + if 0 < z then 1 else 0 := ⟨_, rfl⟩
    have ixb : ix < 128 := by
      rw [hix]
      split <;> omega
    have cix : (iZ (ix : Int)).toNatClampNeg = ix := z_cln (by omega)
    have iix : vp_in (iZ (ix : Int)) 128 := z_in (by omega) (by omega) (by omega)
    -- the loop
    have LP : ∀ (B : Int64), B = lZ 1 <<< ((iZ (z.natAbs : Nat)).toInt64 &&& 63) → ∀ (m i : Nat) (I' : Nat → Nat → Int32) (J' : Nat → Nat → Int64) (A' : Nat → Option Nat) (x8 : Int32), i + m = n → OE I0 J0 x n b I' J' → RS I' J' 1 (flV v x f) → HMo v x n b J' → (∀ j, j < dep → I' 252 j = I 252 j) → (∀ j, j < i → f.testBit j = false → Nn (stO v x b) n k f z j) → x8 = iZ i → wp E (d + k + 6) 26 54 [(0, .ref 246), (1, .ref 1), (2, .int (iZ f)), (3, .int (iZ z)), (4, .int (iZ dep)), (5, .int (iZ ix)), (6, .long B), (8, .int x8)] [] (mm I' J' A') Q := by
      intro B hB m
      induction m with
      | zero =>
        intro i I' J' A' x8 hi hO' hR' hM' hr' hno e8
        subst e8
        have : i = n := by omega
        subst this
        have sn : SRc (stO v x b) i (k + 1) f z = none := srg_none hno
        have c : I' 246 2 ≤ iZ (i : Int) := Int32.le_of_eq hO'.2.1
        have hW2 : ∀ t, t < 64 → wbt (J' 253 ix ||| B) t = (wbt (J' 253 ix) t || decide (z.natAbs = t)) := fun t ht => by
          rw [hB]; exact bl_or (by omega) ht
        have hM2 : HMo v x i b (setL J' 253 ix (J' 253 ix ||| B)) := by
          rw [hix]
          exact HM_set (by omega) hf hz hM' (by rw [ha]; exact sn) (by rw [← hix]; exact hW2)
        have at1 : ∀ a, a ≠ 253 → setL J' 253 ix (J' 253 ix ||| B) a = J' a := fun a h => by
          funext j
          rw [setL_at, if_neg (fun q => h q.1)]
        have H := h0 I' (setL J' 253 ix (J' 253 ix ||| B)) A' sn (OE_eq hO' (fun a q1 q2 => ⟨rfl, at1 a (by omega)⟩) rfl rfl) (RS_eq (fun a q1 q2 => ⟨rfl, at1 a (by omega)⟩) hR') hM2 hr'
        have H2 : Q (some (.int 0)) (mm I' (setL J' 253 (iZ (ix : Int)).toNatClampNeg (J' 253 (iZ (ix : Int)).toNatClampNeg ||| B)) A') := by rw [cix]; exact H
        exact wf (hs := [54]) 40 54 (by decide) (wt c (And.intro iix (And.intro iix (And.intro rfl H2))))
      | succ m ih =>
        intro i I' J' A' x8 hi hO' hR' hM' hr' hno e8
        subst e8
        have c : ¬ I' 246 2 ≤ iZ (i : Int) := by rw [hO'.2.1]; ((try simp (disch := omega) only [z_i8, z_i16, z_of, z_ofN, z_lofN, z_0, z_1, z_m1, z_l0, z_l1, iZ_add, iZ_sub, iZ_mul, iZ_neg, lZ_add, lZ_sub, lZ_mul, lZ_neg, z_div, z_ldiv, z_l, z_i, z_lt, z_le, z_eq, z_llt, z_lle, z_leq, z_cgt, z_cge, z_clt, z_cle, z_ceq, z_cl, z_nat, Int.toNat_natCast, mm_I, mm_J, z_cln, z_abs, z_max, z_min, z_lmax, z_lmin, z_sin, Int.cast_ofNat_Int, uI_I, uI_J, uL_I, uL_J, uA_I, uA_J, sI_eq, sI_ne, sL_eq, sL_ne, up_eq, up_ne, uL_eq, uL_ne, z_toInt, Int.reduceToNat]) <;> omega)
        have bb := bi_bit (f := f) (i := i) (by omega) (by omega)
        cases hbt : f.testBit i with
        | true =>
          rw [hbt] at bb
          have nb : ¬ (iZ (f : Int) >>> (iZ (i : Int) &&& 31)) &&& iZ 1 = 0 := by rw [bb]; decide
          refine wf (hs := [54]) 40 54 (by decide) (wF c (wF nb ?_))
          refine wp_keys [0, 1, 2, 3, 4, 5, 6, 8] rfl rfl ?_
          refine ih (i + 1) I' J' A' _ (by omega) hO' hR' hM' hr' (fun j hj hjb => ?_) (iZ_add i 1)
          by_cases q : j = i
          · rw [q, hbt] at hjb; cases hjb
          · exact hno j (by omega) hjb
        | false =>
          rw [hbt] at bb
          obtain ⟨p, hp⟩ : ∃ p, p = mbr x i := ⟨_, rfl⟩
          have hpn : p < nP v := by rw [hp]; exact mbr_lt hx (by omega)
          have cp : (iZ (p : Int)).toNatClampNeg = p := z_cln (by omega)
          have inp : vp_in (iZ (p : Int)) 12 := z_in (by omega) (by omega) (by omega)
          have ci : (iZ (i : Int)).toNatClampNeg = i := z_cln (by omega)
          have cd : (iZ (dep : Int)).toNatClampNeg = dep := z_cln (by omega)
          have e251 : I' 251 (iZ (i : Int)).toNatClampNeg = iZ (p : Int) := by rw [ci, hp]; exact hO'.2.2.2 i (by omega)
          have w6 := (fo.1.2.2.1 p (by rw [npf]; exact hpn)).2.2.2.2.2.2
          have e11 : I' 11 (iZ (p : Int)).toNatClampNeg = iZ (flV v x f 276 p) := by rw [cp]; exact (hR'.2.2.1.2.1 p (by rw [npf]; exact hpn)).2.2.2.2.2.2.2.1
          have ec : capZ (flV v x f) p = capZ v p := fl_cap
          have a2 := af.2 i (by omega) hbt
          -- from row's place on
          have T : ∀ (x9 x10 : Int32), x9 = iZ p → x10 = iZ (flV v x f 276 p) → wp E (d + k + 6) 26 93 [(0, .ref 246), (1, .ref 1), (2, .int (iZ f)), (3, .int (iZ z)), (4, .int (iZ dep)), (5, .int (iZ ix)), (6, .long B), (8, .int (iZ i)), (9, .int x9), (10, .int x10)] [] (mm I' J' A') Q := fun x9 x10 e9 e10 => by
            subst e9; subst e10
            obtain ⟨I2, hI2⟩ : ∃ I2, I2 = setI I' 252 (iZ (dep : Int)).toNatClampNeg (iZ p) := ⟨_, rfl⟩
            have at1 : ∀ a, a ≠ 252 → I2 a = I' a := fun a h => by
              rw [hI2]
              funext j
              rw [setI_at, if_neg (fun q => h q.1)]
            have r1 : ∀ j, j < dep → I2 252 j = I 252 j := fun j hj => by
              rw [hI2, setI_at, cd, if_neg (by omega)]; exact hr' j hj
            have r2 : I2 252 dep = iZ (p : Int) := by rw [hI2, setI_at, cd, if_pos ⟨rfl, rfl⟩]
            have hO2 := OE_eq hO' (I' := I2) (J' := J') (fun a q1 q2 => ⟨at1 a (by omega), rfl⟩) (at1 246 (by omega)) (at1 251 (by omega))
            have hR2 : RS I2 J' 1 (flV v x f) := RS_eq (fun a q1 q2 => ⟨at1 a (by omega), rfl⟩) hR'
            -- behind found: poured back
            have PB : ∀ (fd : Bool) (I3 : Nat → Nat → Int32) (J3 : Nat → Nat → Int64) (A3 : Nat → Option Nat) (y : Int) (x11 : Int32), OE I0 J0 x n b I3 J3 → RS I3 J3 1 (vset (flV v x f) 276 p y) → (0 ≤ y ∧ y ≤ capZ v p) → HMo v x n b J3 → (∀ j, j < dep → I3 252 j = I 252 j) → (fd = true → ∃ l, SRc (stO v x b) n (k + 1) f z = some l ∧ ∀ t, t < k + 1 → I3 252 (dep + t) = iZ (mbr x (gtL l t) : Nat)) → (fd = false → Nn (stO v x b) n k f z i) → wp E (d + k + 6) 26 144 [(0, .ref 246), (1, .ref 1), (2, .int (iZ f)), (3, .int (iZ z)), (4, .int (iZ dep)), (5, .int (iZ ix)), (6, .long B), (8, .int (iZ i)), (9, .int (iZ p)), (10, .int (iZ (flV v x f 276 p))), (11, .int x11)] [.int (iZ (tB fd))] (mm I3 J3 A3) Q := fun fd I3 J3 A3 y x11 hO3 hR3 hy hM3 hr3 hf1 hf0 => by
              have W3 : Wf (vset (flV v x f) 276 p y) := Wf_set fo.1 (by rw [ec]; exact hy)
              refine wf (hs := [54]) 60 144 (by decide) (And.intro rfl (c_pour (b := 1) (v := vset (flV v x f) 276 p y) (p := p) (n := flV v x f 276 p) (Or.inl rfl) hR3 W3 (by show p < nP (flV v x f); rw [npf]; exact hpn) w6 rfl rfl (fun I4 hR4 hF4 => ?_)))
              rw [vset_back] at hR4
              have hO4 := OE_eq hO3 (I' := I4) (J' := J3) (fun a q1 q2 => ⟨hF4 a (by omega), rfl⟩) (hF4 246 (by omega)) (hF4 251 (by omega))
              have e252 : I4 252 = I3 252 := hF4 252 (by omega)
              cases fd with
              | true =>
                obtain ⟨l, hl1, hl2⟩ := hf1 rfl
                exact wF (by decide) (And.intro rfl (h1 l I4 J3 A3 hl1 hO4 hR4 hM3 (fun j hj => by rw [e252]; exact hr3 j hj) (fun t ht => by rw [e252]; exact hl2 t ht)))
              | false =>
                refine wt rfl ?_
                refine wp_keys [0, 1, 2, 3, 4, 5, 6, 8] rfl rfl ?_
                refine ih (i + 1) I4 J3 A3 _ (by omega) hO4 hR4 hM3 (fun j hj => by rw [e252]; exact hr3 j hj) (fun j hj hjb => ?_) (iZ_add i 1)
                by_cases q : j = i
                · subst q; exact hf0 rfl
                · exact hno j (by omega) hjb
            have fu := c_fillUp (E := E) (d := d + k + 1) (I := I2) (J := J') (A := A') (f := f) (i := i) (z := z) (x2 := iZ (p : Int)) (x3 := iZ z) (Q := fun r M => ∃ I3 J3 A3 y, M = mm I3 J3 A3 ∧ r = some (.int (iZ (fuR (stO v x b f z i)))) ∧ (0 ≤ y ∧ y ≤ capZ v p) ∧ RS I3 J3 1 (vset (flV v x f) 276 p y) ∧ (stO v x b f z i ≠ none → y = capZ v p) ∧ FU I2 J' I3 J3 ∧ (fuR (stO v x b f z i) = -100 ↔ stO v x b f z i = none) ∧ (∀ z', stO v x b f z i = some z' → -60 ≤ z' ∧ z' ≤ 60)) hO2 hW hH hx hn hb hR2 (by omega) hbt hz (by rw [hp]) rfl (fun I3 J3 A3 y q1 q2 q3 q4 q5 q6 => ⟨I3, J3, A3, y, rfl, rfl, by rw [hp]; exact q1, by rw [hp]; exact q2, fun q => by rw [hp]; exact q3 q, q4, q5, q6⟩)
            rw [hI2] at fu
            refine wf (hs := [144]) 60 93 (by decide) (And.intro (z_in (by omega) (by omega) (by omega)) (And.intro rfl (wpC_mono fu (fun r M hh => ?_))))
            obtain ⟨I3, J3, A3, y, rfl, rfl, hy, hR3, hy2, hF3, hfr, hzr⟩ := hh
            rw [← hI2] at hF3
            have hO3 := OE_eq hO2 (FU_F3 hF3) (hF3 246 (by omega) (by omega)).1 (hF3 251 (by omega) (by omega)).1
            have e252 : I3 252 = I2 252 := (hF3 252 (by omega) (by omega)).1
            have e253 : J3 253 = J' 253 := (hF3 253 (by omega) (by omega)).2
            have hM3 : HMo v x n b J3 := fun g l q1 q2 q3 => hM' g l q1 q2 (by rw [← e253]; exact q3)
            cases hst : stO v x b f z i with
            | none =>
              have nn : iZ (fuR (none : Option Int)) = iZ (-100) := rfl
              refine wt nn ?_
              refine wp_keys [0, 1, 2, 3, 4, 5, 6, 8, 9, 10, 11] rfl rfl ?_
              exact PB false I3 J3 A3 y _ hO3 hR3 hy hM3 (fun j hj => by rw [e252]; exact r1 j hj) (fun q => by cases q) (fun _ => Or.inl hst)
            | some z' =>
              have zr := hzr z' hst
              have ycap := hy2 (by rw [hst]; exact fun q => by cases q)
              subst ycap
              have nn : ¬ iZ (fuR (some z')) = iZ (-100) := by
                show ¬ iZ z' = iZ (-100)
                ((try simp (disch := omega) only [z_i8, z_i16, z_of, z_ofN, z_lofN, z_0, z_1, z_m1, z_l0, z_l1, iZ_add, iZ_sub, iZ_mul, iZ_neg, lZ_add, lZ_sub, lZ_mul, lZ_neg, z_div, z_ldiv, z_l, z_i, z_lt, z_le, z_eq, z_llt, z_lle, z_leq, z_cgt, z_cge, z_clt, z_cle, z_ceq, z_cl, z_nat, Int.toNat_natCast, mm_I, mm_J, z_cln, z_abs, z_max, z_min, z_lmax, z_lmin, z_sin, Int.cast_ofNat_Int, uI_I, uI_J, uL_I, uL_J, uA_I, uA_J, sI_eq, sI_ne, sL_eq, sL_ne, up_eq, up_ne, uL_eq, uL_ne, z_toInt, Int.reduceToNat]) <;> omega)
              have hRf : RS I3 J3 1 (flV v x (f ||| 2 ^ i)) := by
                have := fl_more (v := v) (f := f) (x := x) (i := i) (by omega)
                rw [← this, ← hp]; exact hR3
              have bo := bi_or (f := f) (i := i) (by omega) (by omega)
              refine wF nn (And.intro rfl ?_)
              refine IH (f ||| 2 ^ i) (dep + 1) z' I3 J3 A3 _ _ _ _ (by omega) a2.2.1 (by omega) hO3 hRf hM3 zr bo rfl (iZ_add dep 1) (fun l I5 J5 A5 hl hO5 hR5 hM5 hr5 hp5 => ?_) (fun I5 J5 A5 hl hO5 hR5 hM5 hr5 => ?_)
              · refine wF (by decide) ?_
                refine wp_keys [0, 1, 2, 3, 4, 5, 6, 8, 9, 10, 11] rfl rfl ?_
                refine PB true I5 J5 A5 (capZ v p) _ hO5 ?_ hy hM5 (fun j hj => by rw [hr5 j (by omega), e252]; exact r1 j hj) (fun _ => ⟨i :: l, srg_first (by omega) hbt hst hl hno, fun t ht => ?_⟩) (fun q => by cases q)
                · have := fl_more (v := v) (f := f) (x := x) (i := i) (by omega)
                  rw [hp, this]; exact hR5
                · cases t with
                  | zero => rw [Nat.add_zero, hr5 dep (by omega), e252, r2, hp]; rfl
                  | succ t =>
                    have := hp5 t (by omega)
                    rw [show dep + (t + 1) = dep + 1 + t by omega, this]; rfl
              · refine wt rfl ?_
                refine wp_keys [0, 1, 2, 3, 4, 5, 6, 8, 9, 10, 11] rfl rfl ?_
                refine PB false I5 J5 A5 (capZ v p) _ hO5 ?_ hy hM5 (fun j hj => by rw [hr5 j (by omega), e252]; exact r1 j hj) (fun q => by cases q) (fun _ => Or.inr ⟨z', hst, hl⟩)
                have := fl_more (v := v) (f := f) (x := x) (i := i) (by omega)
                rw [hp, this]; exact hR5
          have T2 := T (I' 251 (iZ (i : Int)).toNatClampNeg) (I' 11 (I' 251 (iZ (i : Int)).toNatClampNeg).toNatClampNeg) e251 (by rw [e251]; exact e11)
          have in2 : vp_in (I' 251 (iZ (i : Int)).toNatClampNeg) 12 := by rw [e251]; exact inp
          refine wf (hs := [93]) 60 54 (by decide) (wF c (wt bb (And.intro (z_in (by omega) (by omega) (by omega)) (And.intro in2 ?_))))
          refine wp_keys [0, 1, 2, 3, 4, 5, 6, 8, 9, 10] rfl rfl ?_
          exact T2
    -- ahead of the loop
    have PRE : ∀ (x5 : Int32) (B : Int64), x5 = iZ ix → B = lZ 1 <<< ((iZ (z.natAbs : Nat)).toInt64 &&& 63) → wp E (d + k + 6) 26 34 [(0, .ref 246), (1, .ref 1), (2, .int (iZ f)), (3, .int (iZ z)), (4, .int (iZ dep)), (5, .int x5), (6, .long B)] [] (mm I J A) Q := fun x5 B e5 eB => by
      subst e5
      have ba := bl_and (w := J 253 ix) (s := z.natAbs) (by omega)
      rw [← eB] at ba
      have lp := LP B eB n 0 I J A (iZ (0 : Nat)) (by omega) hO hR hM (fun _ _ => rfl) (fun j hj => by omega) rfl
      cases hw : wbt (J 253 ix) z.natAbs with
      | true =>
        have sn := hM f z hf hz (by rw [← hix]; exact hw)
        rw [ha] at sn
        have nz : ¬ lg_cmp (J 253 (iZ (ix : Int)).toNatClampNeg &&& B) (lZ 0) = 0 := by
          rw [cix, lg_cmp_eq, ba, hw]; decide
        exact wf (hs := [54]) 30 34 (by decide) (And.intro iix (wF nz (And.intro rfl (h0 I J A sn hO hR hM (fun _ _ => rfl)))))
      | false =>
        have nz : lg_cmp (J 253 (iZ (ix : Int)).toNatClampNeg &&& B) (lZ 0) = 0 := by
          rw [cix, lg_cmp_eq]; exact ba.mpr hw
        refine wf (hs := [54]) 30 34 (by decide) (And.intro iix (wt nz ?_))
        refine wp_keys [0, 1, 2, 3, 4, 5, 6, 8] rfl rfl ?_
        exact lp
    have c : iZ (dep : Int) < I 246 2 := by rw [hO.2.1]; ((try simp (disch := omega) only [z_i8, z_i16, z_of, z_ofN, z_lofN, z_0, z_1, z_m1, z_l0, z_l1, iZ_add, iZ_sub, iZ_mul, iZ_neg, lZ_add, lZ_sub, lZ_mul, lZ_neg, z_div, z_ldiv, z_l, z_i, z_lt, z_le, z_eq, z_llt, z_lle, z_leq, z_cgt, z_cge, z_clt, z_cle, z_ceq, z_cl, z_nat, Int.toNat_natCast, mm_I, mm_J, z_cln, z_abs, z_max, z_min, z_lmax, z_lmin, z_sin, Int.cast_ofNat_Int, uI_I, uI_J, uL_I, uL_J, uA_I, uA_J, sI_eq, sI_ne, sL_eq, sL_ne, up_eq, up_ne, uL_eq, uL_ne, z_toInt, Int.reduceToNat]) <;> omega)
    have eab := absZ (z := z) (by omega)
    refine wc (hs := [34]) 40 (by decide) (wt c (And.intro (fun q => ?_) (fun q => ?_)))
    · simp (disch := omega) only [z_i8, z_i16, z_of, z_ofN, z_lofN, z_0, z_1, z_m1, z_l0, z_l1, iZ_add, iZ_sub, iZ_mul, iZ_neg, lZ_add, lZ_sub, lZ_mul, lZ_neg, z_div, z_ldiv, z_l, z_i, z_lt, z_le, z_eq, z_llt, z_lle, z_leq, z_cgt, z_cge, z_clt, z_cle, z_ceq, z_cl, z_nat, Int.toNat_natCast, mm_I, mm_J, z_cln, z_abs, z_max, z_min, z_lmax, z_lmin, z_sin, Int.cast_ofNat_Int, uI_I, uI_J, uL_I, uL_J, uA_I, uA_J, sI_eq, sI_ne, sL_eq, sL_ne, up_eq, up_ne, uL_eq, uL_ne, z_toInt, Int.reduceToNat] at q
      refine wp_keys [0, 1, 2, 3, 4, 5, 6] rfl rfl ?_
      refine PRE _ _ ?_ (by rw [← eab]; rfl)
      rw [hix, if_neg (by omega)]
      show iZ 2 * iZ (f : Int) + iZ 0 = _
      rw [iZ_mul, iZ_add]
      congr 1
    · simp (disch := omega) only [z_i8, z_i16, z_of, z_ofN, z_lofN, z_0, z_1, z_m1, z_l0, z_l1, iZ_add, iZ_sub, iZ_mul, iZ_neg, lZ_add, lZ_sub, lZ_mul, lZ_neg, z_div, z_ldiv, z_l, z_i, z_lt, z_le, z_eq, z_llt, z_lle, z_leq, z_cgt, z_cge, z_clt, z_cle, z_ceq, z_cl, z_nat, Int.toNat_natCast, mm_I, mm_J, z_cln, z_abs, z_max, z_min, z_lmax, z_lmin, z_sin, Int.cast_ofNat_Int, uI_I, uI_J, uL_I, uL_J, uA_I, uA_J, sI_eq, sI_ne, sL_eq, sL_ne, up_eq, up_ne, uL_eq, uL_ne, z_toInt, Int.reduceToNat] at q
      refine wp_keys [0, 1, 2, 3, 4, 5, 6] rfl rfl ?_
      refine PRE _ _ ?_ (by rw [← eab]; rfl)
      rw [hix, if_pos (by omega)]
      show iZ 2 * iZ (f : Int) + iZ 1 = _
      rw [iZ_mul, iZ_add]
      congr 1
end ORD4
