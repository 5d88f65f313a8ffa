/-! ===== order in the class ===== -/
def Nn (step : Nat → Int → Nat → Option Int) (n K f : Nat) (z : Int) (j : Nat) : Prop := step f z j = none ∨ ∃ z', step f z j = some z' ∧ SRc step n K (f ||| 2 ^ j) z' = none
theorem srg_none {step : Nat → Int → Nat → Option Int} {n K f : Nat} {z : Int} (h : ∀ j, j < n → f.testBit j = false → Nn step n K f z j) : SRc step n (K + 1) f z = none := by
  show (avl n f).findSome? _ = _
  unfold avl
  refine none_sr (fun i hi hb => ?_)
  have hb : f.testBit i = false := by simpa using hb
  rcases h i hi hb with q | ⟨z', q1, q2⟩
  · rw [q]
  · rw [q1]
    dsimp only
    rw [q2]; rfl
theorem srg_first {step : Nat → Int → Nat → Option Int} {n K f i0 : Nat} {z z' : Int} {l : List Nat} (hi : i0 < n) (hb : f.testBit i0 = false) (hs : step f z i0 = some z') (hl : SRc step n K (f ||| 2 ^ i0) z' = some l) (h : ∀ j, j < i0 → f.testBit j = false → Nn step n K f z j) : SRc step n (K + 1) f z = some (i0 :: l) := by
  show (avl n f).findSome? _ = _
  unfold avl
  refine first_sr (i0 := i0) (by rw [hb]; rfl) ?_ ?_ n hi
  · rw [hs]
    dsimp only
    rw [hl]; rfl
  · intro j hj hbj
    have hbj : f.testBit j = false := by simpa using hbj
    rcases h j hj hbj with q | ⟨z', q1, q2⟩
    · rw [q]
    · rw [q1]
      dsimp only
      rw [q2]; rfl
def FU (I : Nat → Nat → Int32) (J : Nat → Nat → Int64) (I' : Nat → Nat → Int32) (J' : Nat → Nat → Int64) : Prop := ∀ a, (a < 1 ∨ 34 ≤ a) → (a < 247 ∨ 251 ≤ a) → I' a = I a ∧ J' a = J a
theorem FU_refl {I : Nat → Nat → Int32} {J : Nat → Nat → Int64} : FU I J I J := fun _ _ _ => ⟨rfl, rfl⟩
theorem FU_trans {I I' I'' : Nat → Nat → Int32} {J J' J'' : Nat → Nat → Int64} (h : FU I J I' J') (h' : FU I' J' I'' J'') : FU I J I'' J'' := fun a ha hb => ⟨(h' a ha hb).1.trans (h a ha hb).1, (h' a ha hb).2.trans (h a ha hb).2⟩
def OE (I0 : Nat → Nat → Int32) (J0 : Nat → Nat → Int64) (x n : Nat) (b : Int) (I : Nat → Nat → Int32) (J : Nat → Nat → Int64) : Prop := F3 1 I0 J0 I J ∧ I 246 2 = iZ n ∧ I 246 3 = iZ b ∧ ∀ i, i < n → I 251 i = iZ (mbr x i : Nat)
def HMo (v : am_V) (x n : Nat) (b : Int) (J : Nat → Nat → Int64) : Prop := ∀ (g : Nat) (l : Int), g < 2 ^ n → -60 ≤ l ∧ l ≤ 60 → wbt (J 253 (2 * g + if 0 < l then 1 else 0)) l.natAbs = true → SRc (stO v x b) n (avl n g).length g l = none
theorem OE_eq {I0 I I' : Nat → Nat → Int32} {J0 J J' : Nat → Nat → Int64} {x n : Nat} {b : Int} (h : OE I0 J0 x n b I J) (hF : F3 1 I J I' J') (h1 : I' 246 = I 246) (h2 : I' 251 = I 251) : OE I0 J0 x n b I' J' := by
  obtain ⟨f, e1, e2, e3⟩ := h
  exact ⟨F3_trans f hF, by rw [h1]; exact e1, by rw [h1]; exact e2, fun i hi => by rw [h2]; exact e3 i hi⟩
theorem FU_F3 {I I' : Nat → Nat → Int32} {J J' : Nat → Nat → Int64} (h : FU I J I' J') : F3 1 I J I' J' := fun a q1 q2 => h a (by omega) (by omega)
section ORD3
variable {E : Nat × (Nat → Int32)} {d : Nat} {I I0 I1 : Nat → Nat → Int32} {J J0 J1 : Nat → Nat → Int64} {A A1 : Nat → Option Nat} {Q : Option Value → am_M → Prop} {M : am_M} {v w : am_V}
theorem c_take7 {w : am_V} (hW : Wf w) (hR : RS I J 1 w) (hQ : ∀ I' J' A', RB I' J' A' 247 1 w 0 0 (asdZ w) → RS I' J' 1 w → FU I J I' J' → Q none (mm I' J' A')) : wpC E d 1 [.ref 247, .ref 1] (mm I J A) Q :=
  c_take (Or.inr (Or.inl ⟨rfl, rfl⟩)) hW hR (fun I' J' A' hRB hFB => hQ I' J' A' hRB (RS_eq (fun a h1 h2 => ⟨hFB.1 a (by omega), hFB.2.1 a (by omega) (by omega) (by omega)⟩) hR) (fun a q1 q2 => ⟨hFB.1 a (by omega), hFB.2.1 a (by omega) (by omega) (by omega)⟩))
def fuR (o : Option Int) : Int := match o with
  | none => -100
  | some z => z
theorem c_fillUp {x n f i : Nat} {b z : Int} {x2 x3 : Int32} (hO : OE I0 J0 x n b I J) (hW : Wf v) (hH : WfH v) (hx : x < 2 ^ nP v) (hn : n = (mem x 12).length) (hb : 1 ≤ b ∧ b ≤ 59) (hR : RS I J 1 (flV v x f)) (hi : i < n) (hf : f.testBit i = false) (hz : -60 ≤ z ∧ z ≤ 60) (e2 : x2 = iZ (mbr x i : Nat)) (e3 : x3 = iZ z) (hQ : ∀ I' J' A' y, (0 ≤ y ∧ y ≤ capZ v (mbr x i)) → RS I' J' 1 (vset (flV v x f) 276 (mbr x i) y) → (stO v x b f z i ≠ none → y = capZ v (mbr x i)) → FU I J I' J' → (fuR (stO v x b f z i) = -100 ↔ stO v x b f z i = none) → (∀ z', stO v x b f z i = some z' → -60 ≤ z' ∧ z' ≤ 60) → Q (some (.int (iZ (fuR (stO v x b f z i))))) (mm I' J' A')) : wpC E (d + 4) 27 [.ref 246, .ref 1, .int x2, .int x3] (mm I J A) Q := by
  subst e2; subst e3
  have fo := fl_ok (f := f) hW hH hx
  have hpn : mbr x i < nP v := mbr_lt hx (by omega)
  have npf : nP (flV v x f) = nP v := by unfold nP; rw [fl_ne (by decide)]
  have h12 := nP12 hW
  have cb := (capB (hW.2.2.1 _ hpn)).2.2
  have w6 := (hW.2.2.1 _ hpn).2.2.2.2.2.2
  have fm := fl_more (v := v) (f := f) (x := x) (i := i) (by omega)
  have fo2 := fl_out (v := v) (f := f) (x := x) (i := i) (by omega) hf
  have ec : capZ (flV v x f) (mbr x i) = capZ v (mbr x i) := fl_cap
  have st : stO v x b f z i = if v 276 (mbr x i) ≤ capZ v (mbr x i) / 2 then
    (if b < ((rsZ (vset (flV v x f) 276 (mbr x i) (capZ v (mbr x i) / 2)) z).natAbs : Int) then none
     else if b < ((rsZ (flV v x (f ||| 2 ^ i)) (rsZ (vset (flV v x f) 276 (mbr x i) (capZ v (mbr x i) / 2)) z)).natAbs : Int) then none
     else some (rsZ (flV v x (f ||| 2 ^ i)) (rsZ (vset (flV v x f) 276 (mbr x i) (capZ v (mbr x i) / 2)) z)))
    else (if b < ((rsZ (flV v x (f ||| 2 ^ i)) z).natAbs : Int) then none else some (rsZ (flV v x (f ||| 2 ^ i)) z)) := rfl
  generalize mbr x i = p at hpn cb w6 fm fo2 ec st hQ
  have cp : (iZ (p : Int)).toNatClampNeg = p := z_cln (by omega)
  have inp : vp_in (iZ (p : Int)) 12 := z_in (by omega) (by omega) (by omega)
  have q := (hR.2.2.1.2.1 p (by rw [npf]; exact hpn))
  have e10 : I 10 (iZ (p : Int)).toNatClampNeg = iZ (capZ v p) := by rw [cp, ← ec]; exact q.2.2.2.2.2.2.1
  have e11 : I 11 (iZ (p : Int)).toNatClampNeg = iZ (v 276 p) := by rw [cp, ← fo2]; exact q.2.2.2.2.2.2.2.1
  have eb : I 246 3 = iZ b := hO.2.2.1
  -- behind the first half
  have T : ∀ (I2 : Nat → Nat → Int32) (J2 : Nat → Nat → Int64) (A2 : Nat → Option Nat) (y z1 : Int) (x4 x5 : Int32), RS I2 J2 1 (vset (flV v x f) 276 p y) → FU I J I2 J2 → (0 ≤ y ∧ y ≤ capZ v p) → (-60 ≤ z1 ∧ z1 ≤ 60) → stO v x b f z i = (if b < ((rsZ (flV v x (f ||| 2 ^ i)) z1).natAbs : Int) then none else some (rsZ (flV v x (f ||| 2 ^ i)) z1)) → x4 = iZ z1 → wp E (d + 4) 27 73 [(0, .ref 246), (1, .ref 1), (2, .int (iZ p)), (3, .int (iZ z)), (4, .int x4), (5, .int x5)] [] (mm I2 J2 A2) Q := by
    intro I2 J2 A2 y z1 x4 x5 hR2 hF2 hy hz1 hst e4
    subst e4
    have W2 : Wf (vset (flV v x f) 276 p y) := Wf_set fo.1 (by rw [ec]; exact hy)
    have e10' : I2 10 (iZ (p : Int)).toNatClampNeg = iZ (capZ v p) := by
      have := (hR2.2.2.1.2.1 p (by show p < nP (flV v x f); rw [npf]; exact hpn)).2.2.2.2.2.2.1
      rw [cp, ← ec]; exact this
    have rr : -60 ≤ rsZ (flV v x (f ||| 2 ^ i)) z1 ∧ rsZ (flV v x (f ||| 2 ^ i)) z1 ≤ 60 := rst_rng hz1
    have W3 : Wf (flV v x (f ||| 2 ^ i)) := (fl_ok (f := f ||| 2 ^ i) hW hH hx).1
    have ab := asdB W3
    refine wf (hs := []) 80 73 (by decide) (And.intro inp (And.intro rfl (c_pour (b := 1) (v := vset (flV v x f) 276 p y) (p := p) (n := capZ v p) (Or.inl rfl) hR2 W2 (by show p < nP (flV v x f); rw [npf]; exact hpn) ⟨cb.1, by show capZ v p ≤ capZ (flV v x f) p; rw [ec]; exact Int.le_refl _⟩ rfl e10' (fun I3 hR3 hF3 => ?_))))
    rw [vset_two, fm] at hR3
    refine And.intro rfl (c_take7 W3 hR3 (fun I4 J4 A4 hB4 hR4 hF4 => ?_))
    refine And.intro rfl (c_restFrom (z := z1) (N := 120) (Or.inr (Or.inl ⟨rfl, rfl⟩)) hB4 W3 WW0 ⟨by omega, by omega⟩ (by omega) hz1 rfl rfl ?_)
    have fr : FU I J I4 J4 := FU_trans hF2 (FU_trans (fun a q1 q2 => ⟨hF3 a (by omega), rfl⟩) hF4)
    have eb4 : I4 246 3 = iZ b := by rw [(fr 246 (by omega) (by omega)).1]; exact eb
    have ez : wkN (trnZ (flV v x (f ||| 2 ^ i)) 0 0 (asdZ (flV v x (f ||| 2 ^ i)))) 120 z1 = rsZ (flV v x (f ||| 2 ^ i)) z1 := rfl
    rw [ez]
    rw [← fm] at hR4
    have H := hQ I4 J4 A4 (capZ v p) ⟨cb.1, Int.le_refl _⟩ hR4 (fun _ => rfl) fr
    rw [hst] at H
    generalize rsZ (flV v x (f ||| 2 ^ i)) z1 = z2 at rr H ez
    refine And.intro (fun q => ?_) (fun q => ?_)
    · simp (disch := omega) only [z_i8, z_i16, z_of, z_ofN, z_lofN, z_0, z_1, z_m1, z_l0, z_l1, iZ_add, iZ_sub, iZ_mul, iZ_neg, lZ_add, lZ_sub, lZ_mul, lZ_neg, z_div, z_ldiv, z_l, z_i, z_lt, z_le, z_eq, z_llt, z_lle, z_leq, z_cgt, z_cge, z_clt, z_cle, z_ceq, z_cl, z_nat, Int.toNat_natCast, mm_I, mm_J, z_cln, z_abs, z_max, z_min, z_lmax, z_lmin, z_sin, Int.cast_ofNat_Int, uI_I, uI_J, uL_I, uL_J, uA_I, uA_J, sI_eq, sI_ne, sL_eq, sL_ne, up_eq, up_ne, uL_eq, uL_ne, z_toInt, Int.reduceToNat, eb4] at q
      rw [if_neg (by omega)] at H
      exact H ⟨fun x => by have x : z2 = -100 := x; omega, fun x => by cases x⟩ (fun z' x => by cases x; exact rr)
    · simp (disch := omega) only [z_i8, z_i16, z_of, z_ofN, z_lofN, z_0, z_1, z_m1, z_l0, z_l1, iZ_add, iZ_sub, iZ_mul, iZ_neg, lZ_add, lZ_sub, lZ_mul, lZ_neg, z_div, z_ldiv, z_l, z_i, z_lt, z_le, z_eq, z_llt, z_lle, z_leq, z_cgt, z_cge, z_clt, z_cle, z_ceq, z_cl, z_nat, Int.toNat_natCast, mm_I, mm_J, z_cln, z_abs, z_max, z_min, z_lmax, z_lmin, z_sin, Int.cast_ofNat_Int, uI_I, uI_J, uL_I, uL_J, uA_I, uA_J, sI_eq, sI_ne, sL_eq, sL_ne, up_eq, up_ne, uL_eq, uL_ne, z_toInt, Int.reduceToNat, eb4] at q
      rw [if_pos (by omega)] at H
      exact H ⟨fun _ => rfl, fun _ => rfl⟩ (fun z' x => by cases x)
  have eh : iZ (capZ v p) / iZ 2 = iZ (capZ v p / 2) := by simp (disch := omega) only [z_i8, z_i16, z_of, z_ofN, z_lofN, z_0, z_1, z_m1, z_l0, z_l1, iZ_add, iZ_sub, iZ_mul, iZ_neg, lZ_add, lZ_sub, lZ_mul, lZ_neg, z_div, z_ldiv, z_l, z_i, z_lt, z_le, z_eq, z_llt, z_lle, z_leq, z_cgt, z_cge, z_clt, z_cle, z_ceq, z_cl, z_nat, Int.toNat_natCast, mm_I, mm_J, z_cln, z_abs, z_max, z_min, z_lmax, z_lmin, z_sin, Int.cast_ofNat_Int, uI_I, uI_J, uL_I, uL_J, uA_I, uA_J, sI_eq, sI_ne, sL_eq, sL_ne, up_eq, up_ne, uL_eq, uL_ne, z_toInt, Int.reduceToNat]
  refine wf (hs := [73]) 80 0 (by decide) (And.intro inp (And.intro (by decide) (And.intro inp (And.intro (fun q => ?_) (fun q => ?_)))))
  · have q2 : I 10 (iZ (p : Int)).toNatClampNeg / iZ 2 < I 11 (iZ (p : Int)).toNatClampNeg := q
    rw [e10, e11, eh] at q2
    simp (disch := omega) only [z_i8, z_i16, z_of, z_ofN, z_lofN, z_0, z_1, z_m1, z_l0, z_l1, iZ_add, iZ_sub, iZ_mul, iZ_neg, lZ_add, lZ_sub, lZ_mul, lZ_neg, z_div, z_ldiv, z_l, z_i, z_lt, z_le, z_eq, z_llt, z_lle, z_leq, z_cgt, z_cge, z_clt, z_cle, z_ceq, z_cl, z_nat, Int.toNat_natCast, mm_I, mm_J, z_cln, z_abs, z_max, z_min, z_lmax, z_lmin, z_sin, Int.cast_ofNat_Int, uI_I, uI_J, uL_I, uL_J, uA_I, uA_J, sI_eq, sI_ne, sL_eq, sL_ne, up_eq, up_ne, uL_eq, uL_ne, z_toInt, Int.reduceToNat] at q2
    rw [if_neg (by omega)] at st
    refine wp_keys [0, 1, 2, 3, 4, 5] rfl rfl ?_
    exact T I J A (flV v x f 276 p) z _ _ (by rw [vset_id]; exact hR) FU_refl (by rw [fo2]; exact w6) hz st rfl
  · have q2 : ¬ I 10 (iZ (p : Int)).toNatClampNeg / iZ 2 < I 11 (iZ (p : Int)).toNatClampNeg := q
    rw [e10, e11, eh] at q2
    simp (disch := omega) only [z_i8, z_i16, z_of, z_ofN, z_lofN, z_0, z_1, z_m1, z_l0, z_l1, iZ_add, iZ_sub, iZ_mul, iZ_neg, lZ_add, lZ_sub, lZ_mul, lZ_neg, z_div, z_ldiv, z_l, z_i, z_lt, z_le, z_eq, z_llt, z_lle, z_leq, z_cgt, z_cge, z_clt, z_cle, z_ceq, z_cl, z_nat, Int.toNat_natCast, mm_I, mm_J, z_cln, z_abs, z_max, z_min, z_lmax, z_lmin, z_sin, Int.cast_ofNat_Int, uI_I, uI_J, uL_I, uL_J, uA_I, uA_J, sI_eq, sI_ne, sL_eq, sL_ne, up_eq, up_ne, uL_eq, uL_ne, z_toInt, Int.reduceToNat] at q2
    rw [if_pos (by omega)] at st
    have W2 : Wf (vset (flV v x f) 276 p (capZ v p / 2)) := Wf_set fo.1 (by rw [ec]; omega)
    have rr : -60 ≤ rsZ (vset (flV v x f) 276 p (capZ v p / 2)) z ∧ rsZ (vset (flV v x f) 276 p (capZ v p / 2)) z ≤ 60 := rst_rng hz
    have ab := asdB W2
    have eh2 : I 10 (iZ (p : Int)).toNatClampNeg / iZ 2 = iZ (capZ v p / 2) := by rw [e10, eh]
    refine And.intro rfl (c_pour (b := 1) (v := flV v x f) (p := p) (n := capZ v p / 2) (Or.inl rfl) hR fo.1 (by rw [npf]; exact hpn) (by rw [ec]; omega) rfl eh2 (fun I3 hR3 hF3 => ?_))
    refine And.intro rfl (c_take7 W2 hR3 (fun I4 J4 A4 hB4 hR4 hF4 => ?_))
    refine And.intro rfl (c_restFrom (z := z) (N := 120) (Or.inr (Or.inl ⟨rfl, rfl⟩)) hB4 W2 WW0 ⟨by omega, by omega⟩ (by omega) hz rfl rfl ?_)
    have fr : FU I J I4 J4 := FU_trans (fun a q1 q2 => ⟨hF3 a (by omega), rfl⟩) hF4
    have eb4 : I4 246 3 = iZ b := by rw [(fr 246 (by omega) (by omega)).1]; exact eb
    have ez : wkN (trnZ (vset (flV v x f) 276 p (capZ v p / 2)) 0 0 (asdZ (vset (flV v x f) 276 p (capZ v p / 2)))) 120 z = rsZ (vset (flV v x f) 276 p (capZ v p / 2)) z := rfl
    rw [ez]
    have H := hQ I4 J4 A4 (capZ v p / 2) (by omega) hR4
    generalize rsZ (vset (flV v x f) 276 p (capZ v p / 2)) z = z1 at rr st ez
    refine And.intro (fun q => ?_) (fun q => ?_)
    · simp (disch := omega) only [z_i8, z_i16, z_of, z_ofN, z_lofN, z_0, z_1, z_m1, z_l0, z_l1, iZ_add, iZ_sub, iZ_mul, iZ_neg, lZ_add, lZ_sub, lZ_mul, lZ_neg, z_div, z_ldiv, z_l, z_i, z_lt, z_le, z_eq, z_llt, z_lle, z_leq, z_cgt, z_cge, z_clt, z_cle, z_ceq, z_cl, z_nat, Int.toNat_natCast, mm_I, mm_J, z_cln, z_abs, z_max, z_min, z_lmax, z_lmin, z_sin, Int.cast_ofNat_Int, uI_I, uI_J, uL_I, uL_J, uA_I, uA_J, sI_eq, sI_ne, sL_eq, sL_ne, up_eq, up_ne, uL_eq, uL_ne, z_toInt, Int.reduceToNat, eb4] at q
      rw [if_neg (by omega)] at st
      refine wp_keys [0, 1, 2, 3, 4, 5] rfl rfl ?_
      exact T I4 J4 A4 (capZ v p / 2) z1 _ _ hR4 fr (by omega) rr st rfl
    · simp (disch := omega) only [z_i8, z_i16, z_of, z_ofN, z_lofN, z_0, z_1, z_m1, z_l0, z_l1, iZ_add, iZ_sub, iZ_mul, iZ_neg, lZ_add, lZ_sub, lZ_mul, lZ_neg, z_div, z_ldiv, z_l, z_i, z_lt, z_le, z_eq, z_llt, z_lle, z_leq, z_cgt, z_cge, z_clt, z_cle, z_ceq, z_cl, z_nat, Int.toNat_natCast, mm_I, mm_J, z_cln, z_abs, z_max, z_min, z_lmax, z_lmin, z_sin, Int.cast_ofNat_Int, uI_I, uI_J, uL_I, uL_J, uA_I, uA_J, sI_eq, sI_ne, sL_eq, sL_ne, up_eq, up_ne, uL_eq, uL_ne, z_toInt, Int.reduceToNat, eb4] at q
      rw [if_pos (by omega)] at st
      rw [st] at H
      exact H (fun x => absurd rfl x) fr ⟨fun _ => rfl, fun _ => rfl⟩ (fun z' x => by cases x)
end ORD3
