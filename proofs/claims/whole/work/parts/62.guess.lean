/-! ===== guess ===== -/
def msW (w : am_V) (ln bt : Int) : Int := 10 * ((rstZ (trnZ w 0 0 (asdZ w)) 0 - ln).natAbs : Int) + ((max (btZ w (stfZ w 0 0)) 0 - bt).natAbs : Int)
def msA (v : am_V) (ln bt : Int) (p h : Nat) : Int := msW (vset v 276 p (hunZ v p h)) ln bt
def gsI (v : am_V) (ln bt : Int) (p : Nat) : Nat → Nat → Int → Int → Int × Int
  | 0, _, f, l => (f, l)
  | m + 1, h, f, l => if f = -2 ∨ msA v ln bt p h < l then gsI v ln bt p m (h + 1) (128 * p + h) (msA v ln bt p h) else gsI v ln bt p m (h + 1) f l
def gsO (v : am_V) (ln bt : Int) : Nat → Nat → Int → Int → Int × Int
  | 0, _, f, l => (f, l)
  | m + 1, p, f, l => gsO v ln bt m (p + 1) (gsI v ln bt p 101 0 f l).1 (gsI v ln bt p 101 0 f l).2
def gsR (wh : Int) (s : Int × Int) : Int := if s.1 = -2 then -2 else if wh = 0 then s.1 / 128 else if wh = 1 then s.1 - s.1 / 128 * 128 else s.2
theorem msW_cut (w : am_V) (ln bt : Int) : msW (cutV w) ln bt = msW w ln bt := by
  have a1 : asdZ (cutV w) = asdZ w := rfl
  have a2 : ∀ m, trnZ (cutV w) 0 0 m = trnZ w 0 0 m := fun _ => rfl
  have a3 : stfZ (cutV w) 0 0 = stfZ w 0 0 := rfl
  have a4 : ∀ s, btZ (cutV w) s = btZ w s := fun _ => rfl
  unfold msW
  rw [a1, a2, a3, a4]
theorem msA_cut (v : am_V) (ln bt : Int) (p h : Nat) : msA (cutV v) ln bt p h = msA v ln bt p h := by
  show msW (vset (cutV v) 276 p (hunZ v p h)) ln bt = msW (vset v 276 p (hunZ v p h)) ln bt
  rw [← cut_set (by omega), msW_cut]
theorem gsI_cut {v : am_V} {ln bt : Int} {p : Nat} : ∀ (m h : Nat) (f l : Int), gsI (cutV v) ln bt p m h f l = gsI v ln bt p m h f l := by
  intro m
  induction m with
  | zero => intro h f l; rfl
  | succ m ih =>
    intro h f l
    unfold gsI
    rw [msA_cut, ih, ih]
theorem gsO_cut {v : am_V} {ln bt : Int} : ∀ (m p : Nat) (f l : Int), gsO (cutV v) ln bt m p f l = gsO v ln bt m p f l := by
  intro m
  induction m with
  | zero => intro p f l; rfl
  | succ m ih =>
    intro p f l
    unfold gsO
    rw [gsI_cut, ih]
theorem msB {w : am_V} {ln bt : Int} (hW : Wf w) (rl : -60 ≤ ln ∧ ln ≤ 60) (rb : 0 ≤ bt ∧ bt ≤ 9999) : 0 ≤ msW w ln bt ∧ msW w ln bt ≤ 30000 := by
  have b := btZ_B (s := stfZ w 0 0) hW
  have r := rst_rng (t := trnZ w 0 0 (asdZ w)) (z := 0) (by omega)
  unfold msW
  omega
def GF (f l : Int) : Prop := (f = -2 ∨ 0 ≤ f) ∧ f ≤ 2000 ∧ 0 ≤ l ∧ l ≤ 30000
theorem gsI_ok {v : am_V} {ln bt : Int} {p : Nat} (hW : Wf v) (hp : p < nP v) (rl : -60 ≤ ln ∧ ln ≤ 60) (rb : 0 ≤ bt ∧ bt ≤ 9999) : ∀ (m h : Nat) (f l : Int), h + m = 101 → GF f l → GF (gsI v ln bt p m h f l).1 (gsI v ln bt p m h f l).2 := by
  intro m
  have h12 := nP12 hW
  induction m with
  | zero => intro h f l _ g; exact g
  | succ m ih =>
    intro h f l hi g
    have hb := hunB (h := h) (hW.2.2.1 p hp) ⟨by omega, by omega⟩
    have mb : 0 ≤ msA v ln bt p h ∧ msA v ln bt p h ≤ 30000 := msB (Wf_set (p := p) hW hb.2) rl rb
    unfold gsI
    split
    · exact ih (h + 1) _ _ (by omega) ⟨by omega, by omega, mb⟩
    · exact ih (h + 1) _ _ (by omega) g
section GSS
variable {E : Nat × (Nat → Int32)} {d : Nat} {I I1 : Nat → Nat → Int32} {J J1 : Nat → Nat → Int64} {A A1 : Nat → Option Nat} {Q : Option Value → am_M → Prop} {M : am_M}
theorem m_guessI {κ : Nat} {ln bt wh f1 l1 : Int} (hW : Wf (vI I)) (h0 : M0 I J) (hκ : κ < nP (vI I)) (rn : -60 ≤ ln ∧ ln ≤ 60) (rt : 0 ≤ bt ∧ bt ≤ 9999) (K : wp E (d + 6) 245 57 [(0, .ref 265), (1, .int (iZ ln)), (2, .int (iZ bt)), (3, .int (iZ wh)), (4, .int (iZ f1)), (5, .int (iZ l1)), (6, .int (iZ (κ : Int) + 1))] [] (mm I J A) Q) :
    ∀ (m h : Nat) (I' : Nat → Nat → Int32) (w f l : Int) (x4 x5 x8 : Int32), h + m = 101 → vI I' = vset (vI I) 276 κ w → 0 ≤ w ∧ w ≤ capZ (vI I) κ → GF f l → x4 = iZ f → x5 = iZ l → x8 = iZ h → gsI (vI I) ln bt κ m h f l = (f1, l1) → wp E (d + 6) 245 81 [(0, .ref 265), (1, .int (iZ ln)), (2, .int (iZ bt)), (3, .int (iZ wh)), (4, .int x4), (5, .int x5), (6, .int (iZ κ)), (7, .int (I 276 (iZ (κ : Int)).toNatClampNeg)), (8, .int x8)] [] (mm I' J A) Q := by
  have h12 := nP12 hW
  have hin : vp_in (iZ (κ : Int)) 12 := z_in (by omega) (by omega) (by omega)
  have hcl : (iZ (κ : Int)).toNatClampNeg = κ := z_cln (by omega)
  have wP := hW.2.2.1 κ hκ
  have cb := (capB wP).2.2
  have w6 := wP.2.2.2.2.2.2
  intro m
  induction m with
  | zero =>
    intro h I' w f l x4 x5 x8 hi e hw gf e4 e5 e8 he
    subst e4; subst e5; subst e8
    have eI : setI I' 276 (iZ (κ : Int)).toNatClampNeg (I 276 (iZ (κ : Int)).toNatClampNeg) = I := by
      refine vI_inj ?_
      rw [hcl, vI_setZ (z := vI I 276 κ) (vI_eq I 276 κ) (by omega) (by omega), e, vset_back]
    have he : (f, l) = (f1, l1) := he
    obtain ⟨rfl, rfl⟩ := Prod.mk.inj he
    rw [← eI] at K
    refine wf (hs := [57, 81]) 60 81 (by decide) (wt (by ((try simp (disch := omega) only [z_i8, z_i16, z_of, z_ofN, z_lofN, z_0, z_1, z_m1, z_l0, z_l1, iZ_add, iZ_sub, iZ_mul, iZ_neg, lZ_add, lZ_sub, lZ_mul, lZ_neg, z_div, z_ldiv, z_l, z_i, z_lt, z_le, z_eq, z_llt, z_lle, z_leq, z_cgt, z_cge, z_clt, z_cle, z_ceq, z_cl, z_nat, Int.toNat_natCast, mm_I, mm_J, z_cln, z_abs, z_max, z_min, z_lmax, z_lmin, z_sin, Int.cast_ofNat_Int, uI_I, uI_J, uL_I, uL_J, uA_I, uA_J, sI_eq, sI_ne, sL_eq, sL_ne, up_eq, up_ne, uL_eq, uL_ne, z_toInt, Int.reduceToNat]) <;> omega)) (And.intro hin ?_))
    refine wp_keys [0, 1, 2, 3, 4, 5, 6] rfl rfl ?_
    exact K
  | succ m ih =>
    intro h I' w f l x4 x5 x8 hi e hw gf e4 e5 e8 he
    subst e4; subst e5; subst e8
    obtain ⟨g1, g2, g3, g4⟩ := id gf
    have hb := hunB (h := h) wP ⟨by omega, by omega⟩
    have ec : capZ (vI I') κ = capZ (vI I) κ := by rw [e]; rfl
    have wP' : WfP (vI I') κ := by rw [e]; exact (Wf_set (p := κ) hW hw).2.2.1 κ hκ
    have ev : iZ (capZ (vI I') κ) * iZ (h : Int) / iZ 100 = iZ (hunZ (vI I) κ h) := by
      rw [ec]; simp (disch := omega) only [z_i8, z_i16, z_of, z_ofN, z_lofN, z_0, z_1, z_m1, z_l0, z_l1, iZ_add, iZ_sub, iZ_mul, iZ_neg, lZ_add, lZ_sub, lZ_mul, lZ_neg, z_div, z_ldiv, z_l, z_i, z_lt, z_le, z_eq, z_llt, z_lle, z_leq, z_cgt, z_cge, z_clt, z_cle, z_ceq, z_cl, z_nat, Int.toNat_natCast, mm_I, mm_J, z_cln, z_abs, z_max, z_min, z_lmax, z_lmin, z_sin, Int.cast_ofNat_Int, uI_I, uI_J, uL_I, uL_J, uA_I, uA_J, sI_eq, sI_ne, sL_eq, sL_ne, up_eq, up_ne, uL_eq, uL_ne, z_toInt, Int.reduceToNat]; rfl
    have e2 : vI (setI I' 276 (iZ (κ : Int)).toNatClampNeg (iZ (capZ (vI I') κ) * iZ (h : Int) / iZ 100)) = vset (vI I) 276 κ (hunZ (vI I) κ h) := by
      rw [hcl, vI_setZ (z := hunZ (vI I) κ h) ev (by omega) (by omega), e, vset_two]
    obtain ⟨I2, hI2⟩ : ∃ I2, I2 = setI I' 276 (iZ (κ : Int)).toNatClampNeg (iZ (capZ (vI I') κ) * iZ (h : Int) / iZ 100) := ⟨_, rfl⟩
    rw [← hI2] at e2
    have hW2 : Wf (vI I2) := by rw [e2]; exact Wf_set hW hb.2
    have m0 : M0 I2 J := M0_eq h0 (vI_cell (fun k => by rw [e2, vset_na (by decide)])) rfl
    have em : msW (vI I2) ln bt = msA (vI I) ln bt κ h := by rw [e2]; rfl
    have mb := msB hW2 rn rt
    have rb := btZ_B (s := stfZ (vI I2) 0 0) hW2
    have rr := rst_rng (t := trnZ (vI I2) 0 0 (asdZ (vI I2))) (z := 0) (by omega)
    have ml := m_beat (E := E) (d := d + 1) (A := A) (Q := fun r M => r = some (.int (iZ (btZ (vI I2) (stfZ (vI I2) 0 0)))) ∧ M = mm I2 J A) (M0_WM hW2 m0) ⟨by rw [M0_sM m0], rfl⟩
    rw [hI2] at ml
    unfold gsI at he
    rw [← em] at he
    have S145 : ∀ x10 : Int32, x10 = iZ (msW (vI I2) ln bt) → wp E (d + 6) 245 145 [(0, .ref 265), (1, .int (iZ ln)), (2, .int (iZ bt)), (3, .int (iZ wh)), (4, .int (iZ f)), (5, .int (iZ l)), (6, .int (iZ κ)), (7, .int (I 276 (iZ (κ : Int)).toNatClampNeg)), (8, .int (iZ h)), (10, .int x10)] [] (mm I2 J A) Q := by
      intro x10 e10
      subst e10
      generalize msW (vI I2) ln bt = s at mb he ⊢
      refine wf (hs := [81]) 60 145 (by decide) (And.intro (fun q => ?_) (fun q => And.intro (fun q2 => ?_) (fun q2 => ?_)))
      · simp (disch := omega) only [z_i8, z_i16, z_of, z_ofN, z_lofN, z_0, z_1, z_m1, z_l0, z_l1, iZ_add, iZ_sub, iZ_mul, iZ_neg, lZ_add, lZ_sub, lZ_mul, lZ_neg, z_div, z_ldiv, z_l, z_i, z_lt, z_le, z_eq, z_llt, z_lle, z_leq, z_cgt, z_cge, z_clt, z_cle, z_ceq, z_cl, z_nat, Int.toNat_natCast, mm_I, mm_J, z_cln, z_abs, z_max, z_min, z_lmax, z_lmin, z_sin, Int.cast_ofNat_Int, uI_I, uI_J, uL_I, uL_J, uA_I, uA_J, sI_eq, sI_ne, sL_eq, sL_ne, up_eq, up_ne, uL_eq, uL_ne, z_toInt, Int.reduceToNat] at q
        rw [if_pos (by omega)] at he
        refine wp_keys [0, 1, 2, 3, 4, 5, 6, 7, 8] rfl rfl ?_
        exact ih (h + 1) I2 _ _ _ _ _ _ (by omega) e2 hb.2 ⟨by omega, by omega, by omega, by omega⟩ (by simp (disch := omega) only [z_i8, z_i16, z_of, z_ofN, z_lofN, z_0, z_1, z_m1, z_l0, z_l1, iZ_add, iZ_sub, iZ_mul, iZ_neg, lZ_add, lZ_sub, lZ_mul, lZ_neg, z_div, z_ldiv, z_l, z_i, z_lt, z_le, z_eq, z_llt, z_lle, z_leq, z_cgt, z_cge, z_clt, z_cle, z_ceq, z_cl, z_nat, Int.toNat_natCast, mm_I, mm_J, z_cln, z_abs, z_max, z_min, z_lmax, z_lmin, z_sin, Int.cast_ofNat_Int, uI_I, uI_J, uL_I, uL_J, uA_I, uA_J, sI_eq, sI_ne, sL_eq, sL_ne, up_eq, up_ne, uL_eq, uL_ne, z_toInt, Int.reduceToNat]) rfl (iZ_add h 1) he
      · simp (disch := omega) only [z_i8, z_i16, z_of, z_ofN, z_lofN, z_0, z_1, z_m1, z_l0, z_l1, iZ_add, iZ_sub, iZ_mul, iZ_neg, lZ_add, lZ_sub, lZ_mul, lZ_neg, z_div, z_ldiv, z_l, z_i, z_lt, z_le, z_eq, z_llt, z_lle, z_leq, z_cgt, z_cge, z_clt, z_cle, z_ceq, z_cl, z_nat, Int.toNat_natCast, mm_I, mm_J, z_cln, z_abs, z_max, z_min, z_lmax, z_lmin, z_sin, Int.cast_ofNat_Int, uI_I, uI_J, uL_I, uL_J, uA_I, uA_J, sI_eq, sI_ne, sL_eq, sL_ne, up_eq, up_ne, uL_eq, uL_ne, z_toInt, Int.reduceToNat] at q
        simp (disch := omega) only [z_i8, z_i16, z_of, z_ofN, z_lofN, z_0, z_1, z_m1, z_l0, z_l1, iZ_add, iZ_sub, iZ_mul, iZ_neg, lZ_add, lZ_sub, lZ_mul, lZ_neg, z_div, z_ldiv, z_l, z_i, z_lt, z_le, z_eq, z_llt, z_lle, z_leq, z_cgt, z_cge, z_clt, z_cle, z_ceq, z_cl, z_nat, Int.toNat_natCast, mm_I, mm_J, z_cln, z_abs, z_max, z_min, z_lmax, z_lmin, z_sin, Int.cast_ofNat_Int, uI_I, uI_J, uL_I, uL_J, uA_I, uA_J, sI_eq, sI_ne, sL_eq, sL_ne, up_eq, up_ne, uL_eq, uL_ne, z_toInt, Int.reduceToNat] at q2
        rw [if_neg (by omega)] at he
        refine wp_keys [0, 1, 2, 3, 4, 5, 6, 7, 8] rfl rfl ?_
        exact ih (h + 1) I2 _ _ _ _ _ _ (by omega) e2 hb.2 gf rfl rfl (iZ_add h 1) he
      · simp (disch := omega) only [z_i8, z_i16, z_of, z_ofN, z_lofN, z_0, z_1, z_m1, z_l0, z_l1, iZ_add, iZ_sub, iZ_mul, iZ_neg, lZ_add, lZ_sub, lZ_mul, lZ_neg, z_div, z_ldiv, z_l, z_i, z_lt, z_le, z_eq, z_llt, z_lle, z_leq, z_cgt, z_cge, z_clt, z_cle, z_ceq, z_cl, z_nat, Int.toNat_natCast, mm_I, mm_J, z_cln, z_abs, z_max, z_min, z_lmax, z_lmin, z_sin, Int.cast_ofNat_Int, uI_I, uI_J, uL_I, uL_J, uA_I, uA_J, sI_eq, sI_ne, sL_eq, sL_ne, up_eq, up_ne, uL_eq, uL_ne, z_toInt, Int.reduceToNat] at q
        simp (disch := omega) only [z_i8, z_i16, z_of, z_ofN, z_lofN, z_0, z_1, z_m1, z_l0, z_l1, iZ_add, iZ_sub, iZ_mul, iZ_neg, lZ_add, lZ_sub, lZ_mul, lZ_neg, z_div, z_ldiv, z_l, z_i, z_lt, z_le, z_eq, z_llt, z_lle, z_leq, z_cgt, z_cge, z_clt, z_cle, z_ceq, z_cl, z_nat, Int.toNat_natCast, mm_I, mm_J, z_cln, z_abs, z_max, z_min, z_lmax, z_lmin, z_sin, Int.cast_ofNat_Int, uI_I, uI_J, uL_I, uL_J, uA_I, uA_J, sI_eq, sI_ne, sL_eq, sL_ne, up_eq, up_ne, uL_eq, uL_ne, z_toInt, Int.reduceToNat] at q2
        rw [if_pos (by omega)] at he
        refine wp_keys [0, 1, 2, 3, 4, 5, 6, 7, 8] rfl rfl ?_
        exact ih (h + 1) I2 _ _ _ _ _ _ (by omega) e2 hb.2 ⟨by omega, by omega, by omega, by omega⟩ (by simp (disch := omega) only [z_i8, z_i16, z_of, z_ofN, z_lofN, z_0, z_1, z_m1, z_l0, z_l1, iZ_add, iZ_sub, iZ_mul, iZ_neg, lZ_add, lZ_sub, lZ_mul, lZ_neg, z_div, z_ldiv, z_l, z_i, z_lt, z_le, z_eq, z_llt, z_lle, z_leq, z_cgt, z_cge, z_clt, z_cle, z_ceq, z_cl, z_nat, Int.toNat_natCast, mm_I, mm_J, z_cln, z_abs, z_max, z_min, z_lmax, z_lmin, z_sin, Int.cast_ofNat_Int, uI_I, uI_J, uL_I, uL_J, uA_I, uA_J, sI_eq, sI_ne, sL_eq, sL_ne, up_eq, up_ne, uL_eq, uL_ne, z_toInt, Int.reduceToNat]) rfl (iZ_add h 1) he
    refine wf (hs := [81, 145]) 80 81 (by decide) (wF (by ((try simp (disch := omega) only [z_i8, z_i16, z_of, z_ofN, z_lofN, z_0, z_1, z_m1, z_l0, z_l1, iZ_add, iZ_sub, iZ_mul, iZ_neg, lZ_add, lZ_sub, lZ_mul, lZ_neg, z_div, z_ldiv, z_l, z_i, z_lt, z_le, z_eq, z_llt, z_lle, z_leq, z_cgt, z_cge, z_clt, z_cle, z_ceq, z_cl, z_nat, Int.toNat_natCast, mm_I, mm_J, z_cln, z_abs, z_max, z_min, z_lmax, z_lmin, z_sin, Int.cast_ofNat_Int, uI_I, uI_J, uL_I, uL_J, uA_I, uA_J, sI_eq, sI_ne, sL_eq, sL_ne, up_eq, up_ne, uL_eq, uL_ne, z_toInt, Int.reduceToNat]) <;> omega)) (And.intro rfl (m_capE rfl (by omega) wP' (And.intro (by decide) (And.intro hin (And.intro rfl (wpC_mono ml (fun r M hh => ?_))))))))
    obtain ⟨rfl, rfl⟩ := hh
    rw [← hI2]
    refine And.intro rfl (m_restFromE (z := 0) rfl (M0_WM hW2 m0) (by omega) ?_)
    rw [M0_tM m0]
    unfold msW at S145
    generalize rstZ (trnZ (vI I2) 0 0 (asdZ (vI I2))) 0 = r at rr S145 ⊢
    generalize btZ (vI I2) (stfZ (vI I2) 0 0) = b at rb S145 ⊢
    have ed : iZ r - iZ ln = iZ (r - ln) := iZ_sub _ _
    refine And.intro rfl (m_withoutE ed ⟨by omega, by omega⟩ (And.intro (fun q => ?_) (fun q => ?_)))
    · simp (disch := omega) only [z_i8, z_i16, z_of, z_ofN, z_lofN, z_0, z_1, z_m1, z_l0, z_l1, iZ_add, iZ_sub, iZ_mul, iZ_neg, lZ_add, lZ_sub, lZ_mul, lZ_neg, z_div, z_ldiv, z_l, z_i, z_lt, z_le, z_eq, z_llt, z_lle, z_leq, z_cgt, z_cge, z_clt, z_cle, z_ceq, z_cl, z_nat, Int.toNat_natCast, mm_I, mm_J, z_cln, z_abs, z_max, z_min, z_lmax, z_lmin, z_sin, Int.cast_ofNat_Int, uI_I, uI_J, uL_I, uL_J, uA_I, uA_J, sI_eq, sI_ne, sL_eq, sL_ne, up_eq, up_ne, uL_eq, uL_ne, z_toInt, Int.reduceToNat] at q
      refine And.intro rfl (m_withoutE (iZ_sub b bt) ⟨by omega, by omega⟩ ?_)
      refine wp_keys [0, 1, 2, 3, 4, 5, 6, 7, 8, 10] rfl rfl ?_
      refine S145 _ ?_
      have : max b 0 = b := by omega
      rw [this]
      simp (disch := omega) only [z_i8, z_i16, z_of, z_ofN, z_lofN, z_0, z_1, z_m1, z_l0, z_l1, iZ_add, iZ_sub, iZ_mul, iZ_neg, lZ_add, lZ_sub, lZ_mul, lZ_neg, z_div, z_ldiv, z_l, z_i, z_lt, z_le, z_eq, z_llt, z_lle, z_leq, z_cgt, z_cge, z_clt, z_cle, z_ceq, z_cl, z_nat, Int.toNat_natCast, mm_I, mm_J, z_cln, z_abs, z_max, z_min, z_lmax, z_lmin, z_sin, Int.cast_ofNat_Int, uI_I, uI_J, uL_I, uL_J, uA_I, uA_J, sI_eq, sI_ne, sL_eq, sL_ne, up_eq, up_ne, uL_eq, uL_ne, z_toInt, Int.reduceToNat]
    · simp (disch := omega) only [z_i8, z_i16, z_of, z_ofN, z_lofN, z_0, z_1, z_m1, z_l0, z_l1, iZ_add, iZ_sub, iZ_mul, iZ_neg, lZ_add, lZ_sub, lZ_mul, lZ_neg, z_div, z_ldiv, z_l, z_i, z_lt, z_le, z_eq, z_llt, z_lle, z_leq, z_cgt, z_cge, z_clt, z_cle, z_ceq, z_cl, z_nat, Int.toNat_natCast, mm_I, mm_J, z_cln, z_abs, z_max, z_min, z_lmax, z_lmin, z_sin, Int.cast_ofNat_Int, uI_I, uI_J, uL_I, uL_J, uA_I, uA_J, sI_eq, sI_ne, sL_eq, sL_ne, up_eq, up_ne, uL_eq, uL_ne, z_toInt, Int.reduceToNat] at q
      refine And.intro rfl (m_withoutE (z := 0 - bt) (iZ_sub 0 bt) ⟨by omega, by omega⟩ ?_)
      refine wp_keys [0, 1, 2, 3, 4, 5, 6, 7, 8, 10] rfl rfl ?_
      refine S145 _ ?_
      have : max b 0 = 0 := by omega
      rw [this]
      simp (disch := omega) only [z_i8, z_i16, z_of, z_ofN, z_lofN, z_0, z_1, z_m1, z_l0, z_l1, iZ_add, iZ_sub, iZ_mul, iZ_neg, lZ_add, lZ_sub, lZ_mul, lZ_neg, z_div, z_ldiv, z_l, z_i, z_lt, z_le, z_eq, z_llt, z_lle, z_leq, z_cgt, z_cge, z_clt, z_cle, z_ceq, z_cl, z_nat, Int.toNat_natCast, mm_I, mm_J, z_cln, z_abs, z_max, z_min, z_lmax, z_lmin, z_sin, Int.cast_ofNat_Int, uI_I, uI_J, uL_I, uL_J, uA_I, uA_J, sI_eq, sI_ne, sL_eq, sL_ne, up_eq, up_ne, uL_eq, uL_ne, z_toInt, Int.reduceToNat]
theorem m_guessO {ln bt wh : Int} (hW : Wf (vI I)) (h0 : M0 I J) (rn : -60 ≤ ln ∧ ln ≤ 60) (rt : 0 ≤ bt ∧ bt ≤ 9999) (rw' : 0 ≤ wh ∧ wh ≤ 2) : ∀ (m p : Nat) (f l : Int) (x4 x5 x6 : Int32), p + m = nP (vI I) → GF f l → x4 = iZ f → x5 = iZ l → x6 = iZ p → Q (some (.int (iZ (gsR wh (gsO (vI I) ln bt m p f l))))) (mm I J A) → wp E (d + 6) 245 57 [(0, .ref 265), (1, .int (iZ ln)), (2, .int (iZ bt)), (3, .int (iZ wh)), (4, .int x4), (5, .int x5), (6, .int x6)] [] (mm I J A) Q := by
  have h12 := nP12 hW
  have e9 : I 266 9 = iZ (nP (vI I) : Int) := (vI_eq I 266 9).trans (congrArg iZ (by have := hW.1.2.2.2.2.2.2.2.2.1; unfold nP; omega))
  intro m
  induction m with
  | zero =>
    intro p f l x4 x5 x6 hi gf e4 e5 e6 hQ
    subst e4; subst e5; subst e6
    obtain ⟨g1, g2, g3, g4⟩ := gf
    have hQ : Q (some (.int (iZ (gsR wh (f, l))))) (mm I J A) := hQ
    unfold gsR at hQ
    dsimp only at hQ
    refine wf (hs := []) 60 57 (by decide) (And.intro (inL (by decide)) (wt (by ((try simp (disch := omega) only [z_i8, z_i16, z_of, z_ofN, z_lofN, z_0, z_1, z_m1, z_l0, z_l1, iZ_add, iZ_sub, iZ_mul, iZ_neg, lZ_add, lZ_sub, lZ_mul, lZ_neg, z_div, z_ldiv, z_l, z_i, z_lt, z_le, z_eq, z_llt, z_lle, z_leq, z_cgt, z_cge, z_clt, z_cle, z_ceq, z_cl, z_nat, Int.toNat_natCast, mm_I, mm_J, z_cln, z_abs, z_max, z_min, z_lmax, z_lmin, z_sin, Int.cast_ofNat_Int, uI_I, uI_J, uL_I, uL_J, uA_I, uA_J, sI_eq, sI_ne, sL_eq, sL_ne, up_eq, up_ne, uL_eq, uL_ne, z_toInt, Int.reduceToNat, e9]) <;> omega)) (And.intro (fun q => ?_) (fun q => ?_))))
    all_goals simp (disch := omega) only [z_i8, z_i16, z_of, z_ofN, z_lofN, z_0, z_1, z_m1, z_l0, z_l1, iZ_add, iZ_sub, iZ_mul, iZ_neg, lZ_add, lZ_sub, lZ_mul, lZ_neg, z_div, z_ldiv, z_l, z_i, z_lt, z_le, z_eq, z_llt, z_lle, z_leq, z_cgt, z_cge, z_clt, z_cle, z_ceq, z_cl, z_nat, Int.toNat_natCast, mm_I, mm_J, z_cln, z_abs, z_max, z_min, z_lmax, z_lmin, z_sin, Int.cast_ofNat_Int, uI_I, uI_J, uL_I, uL_J, uA_I, uA_J, sI_eq, sI_ne, sL_eq, sL_ne, up_eq, up_ne, uL_eq, uL_ne, z_toInt, Int.reduceToNat] at q
    · rw [if_pos (by omega)] at hQ
      exact hQ
    · rw [if_neg (by omega)] at hQ
      refine And.intro (fun q2 => ?_) (fun q2 => ?_)
      all_goals simp (disch := omega) only [z_i8, z_i16, z_of, z_ofN, z_lofN, z_0, z_1, z_m1, z_l0, z_l1, iZ_add, iZ_sub, iZ_mul, iZ_neg, lZ_add, lZ_sub, lZ_mul, lZ_neg, z_div, z_ldiv, z_l, z_i, z_lt, z_le, z_eq, z_llt, z_lle, z_leq, z_cgt, z_cge, z_clt, z_cle, z_ceq, z_cl, z_nat, Int.toNat_natCast, mm_I, mm_J, z_cln, z_abs, z_max, z_min, z_lmax, z_lmin, z_sin, Int.cast_ofNat_Int, uI_I, uI_J, uL_I, uL_J, uA_I, uA_J, sI_eq, sI_ne, sL_eq, sL_ne, up_eq, up_ne, uL_eq, uL_ne, z_toInt, Int.reduceToNat] at q2
      · rw [if_pos (by omega)] at hQ
        exact And.intro (by decide) (q_i hQ (by simp (disch := omega) only [z_i8, z_i16, z_of, z_ofN, z_lofN, z_0, z_1, z_m1, z_l0, z_l1, iZ_add, iZ_sub, iZ_mul, iZ_neg, lZ_add, lZ_sub, lZ_mul, lZ_neg, z_div, z_ldiv, z_l, z_i, z_lt, z_le, z_eq, z_llt, z_lle, z_leq, z_cgt, z_cge, z_clt, z_cle, z_ceq, z_cl, z_nat, Int.toNat_natCast, mm_I, mm_J, z_cln, z_abs, z_max, z_min, z_lmax, z_lmin, z_sin, Int.cast_ofNat_Int, uI_I, uI_J, uL_I, uL_J, uA_I, uA_J, sI_eq, sI_ne, sL_eq, sL_ne, up_eq, up_ne, uL_eq, uL_ne, z_toInt, Int.reduceToNat]))
      · rw [if_neg (by omega)] at hQ
        refine And.intro (fun q3 => ?_) (fun q3 => ?_)
        all_goals simp (disch := omega) only [z_i8, z_i16, z_of, z_ofN, z_lofN, z_0, z_1, z_m1, z_l0, z_l1, iZ_add, iZ_sub, iZ_mul, iZ_neg, lZ_add, lZ_sub, lZ_mul, lZ_neg, z_div, z_ldiv, z_l, z_i, z_lt, z_le, z_eq, z_llt, z_lle, z_leq, z_cgt, z_cge, z_clt, z_cle, z_ceq, z_cl, z_nat, Int.toNat_natCast, mm_I, mm_J, z_cln, z_abs, z_max, z_min, z_lmax, z_lmin, z_sin, Int.cast_ofNat_Int, uI_I, uI_J, uL_I, uL_J, uA_I, uA_J, sI_eq, sI_ne, sL_eq, sL_ne, up_eq, up_ne, uL_eq, uL_ne, z_toInt, Int.reduceToNat] at q3
        · rw [if_pos (by omega)] at hQ
          exact And.intro (by decide) (q_i hQ (by simp (disch := omega) only [z_i8, z_i16, z_of, z_ofN, z_lofN, z_0, z_1, z_m1, z_l0, z_l1, iZ_add, iZ_sub, iZ_mul, iZ_neg, lZ_add, lZ_sub, lZ_mul, lZ_neg, z_div, z_ldiv, z_l, z_i, z_lt, z_le, z_eq, z_llt, z_lle, z_leq, z_cgt, z_cge, z_clt, z_cle, z_ceq, z_cl, z_nat, Int.toNat_natCast, mm_I, mm_J, z_cln, z_abs, z_max, z_min, z_lmax, z_lmin, z_sin, Int.cast_ofNat_Int, uI_I, uI_J, uL_I, uL_J, uA_I, uA_J, sI_eq, sI_ne, sL_eq, sL_ne, up_eq, up_ne, uL_eq, uL_ne, z_toInt, Int.reduceToNat]))
        · rw [if_neg (by omega)] at hQ
          exact hQ
  | succ m ih =>
    intro p f l x4 x5 x6 hi gf e4 e5 e6 hQ
    subst e4; subst e5; subst e6
    have w6 := (hW.2.2.1 p (by omega)).2.2.2.2.2.2
    have gk := gsI_ok (p := p) hW (by omega) rn rt 101 0 f l (by omega) gf
    refine wf (hs := [81]) 60 57 (by decide) (And.intro (inL (by decide)) (wF (by ((try simp (disch := omega) only [z_i8, z_i16, z_of, z_ofN, z_lofN, z_0, z_1, z_m1, z_l0, z_l1, iZ_add, iZ_sub, iZ_mul, iZ_neg, lZ_add, lZ_sub, lZ_mul, lZ_neg, z_div, z_ldiv, z_l, z_i, z_lt, z_le, z_eq, z_llt, z_lle, z_leq, z_cgt, z_cge, z_clt, z_cle, z_ceq, z_cl, z_nat, Int.toNat_natCast, mm_I, mm_J, z_cln, z_abs, z_max, z_min, z_lmax, z_lmin, z_sin, Int.cast_ofNat_Int, uI_I, uI_J, uL_I, uL_J, uA_I, uA_J, sI_eq, sI_ne, sL_eq, sL_ne, up_eq, up_ne, uL_eq, uL_ne, z_toInt, Int.reduceToNat, e9]) <;> omega)) (And.intro (z_in (by omega) (by omega) (by omega)) ?_)))
    refine wp_keys [0, 1, 2, 3, 4, 5, 6, 7, 8] rfl rfl ?_
    exact m_guessI hW h0 (by omega) rn rt (ih (p + 1) _ _ _ _ _ (by omega) gk rfl rfl (iZ_add p 1) hQ) 101 0 I (vI I 276 p) f l _ _ (iZ 0) (by omega) vset_id.symm w6 gf rfl rfl rfl rfl
end GSS
