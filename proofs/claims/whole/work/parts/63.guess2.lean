/-! ===== guess, the whole ===== -/
def GG (ln bt wh : Int) : Prop := (-60 ≤ ln ∧ ln ≤ 60) ∧ (0 ≤ bt ∧ bt ≤ 9999) ∧ (0 ≤ wh ∧ wh ≤ 2)
/-- what the program keeps: least, where, hundredth -/
def GsC (f l L W H : Int) : Prop := (f = -2 ∧ L = 1000000000 ∧ W = -2 ∧ H = -2) ∨ (0 ≤ W ∧ W ≤ 11 ∧ 0 ≤ H ∧ H ≤ 100 ∧ f = 128 * W + H ∧ L = l ∧ 0 ≤ l ∧ l ≤ 30000)
theorem c60 : Int64.ofNat 18446744073709551556 = lZ (-60) := by decide +kernel
section GS2
variable {E : Nat × (Nat → Int32)} {d : Nat} {I I1 : Nat → Nat → Int32} {J J1 : Nat → Nat → Int64} {A A1 : Nat → Option Nat} {Q : Option Value → am_M → Prop} {M : am_M}
theorem m_guess2 {ln bt wh : Int} (hw : -2147483648 ≤ wh ∧ wh ≤ 2147483647) (h1 : 0 ≤ wh ∧ wh ≤ 2 → wp E (d + 6) 245 57 [(0, .ref 265), (1, .int (iZ ln)), (2, .int (iZ bt)), (3, .int (iZ wh)), (4, .int (iZ (-2))), (5, .int (iZ 0)), (6, .int (iZ 0))] [] (mm I J A) Q) (F : ¬ (0 ≤ wh ∧ wh ≤ 2) → Q (some (.int (iZ (-1)))) (mm I J A)) : wp E (d + 6) 245 33 [(0, .ref 265), (1, .int (iZ ln)), (2, .int (iZ bt)), (3, .int (iZ wh))] [] (mm I J A) Q := by
  refine wf (hs := [57]) 40 33 (by decide) (And.intro rfl (mW (z := wh) (lo := 0) (hi := 2) (z_l (by omega) (by omega)) rfl rfl (by omega) (by omega) (by omega) (fun g => wF (by decide) ?_) (fun g => wt rfl (F g))))
  refine wp_keys [0, 1, 2, 3, 4, 5, 6] rfl rfl ?_
  exact h1 g
theorem m_guess1 {ln bt wh : Int} (hb : -2147483648 ≤ bt ∧ bt ≤ 2147483647) (h1 : 0 ≤ bt ∧ bt ≤ 9999 → wp E (d + 6) 245 33 [(0, .ref 265), (1, .int (iZ ln)), (2, .int (iZ bt)), (3, .int (iZ wh))] [] (mm I J A) Q) (F : ¬ (0 ≤ bt ∧ bt ≤ 9999) → Q (some (.int (iZ (-1)))) (mm I J A)) : wp E (d + 6) 245 21 [(0, .ref 265), (1, .int (iZ ln)), (2, .int (iZ bt)), (3, .int (iZ wh))] [] (mm I J A) Q := by
  refine wf (hs := [33]) 40 21 (by decide) (And.intro rfl (mW (z := bt) (lo := 0) (hi := 9999) (z_l (by omega) (by omega)) rfl rfl (by omega) (by omega) (by omega) (fun g => wF (by decide) ?_) (fun g => wt rfl (F g))))
  refine wp_keys [0, 1, 2, 3] rfl rfl ?_
  exact h1 g
theorem m_guess {ln bt wh : Int} (hV : Vm I) (h0 : M0 I J) (hl : -2147483648 ≤ ln ∧ ln ≤ 2147483647) (hb : -2147483648 ≤ bt ∧ bt ≤ 2147483647) (hw : -2147483648 ≤ wh ∧ wh ≤ 2147483647) (h1 : I 266 0 = 1 → GG ln bt wh → Q (some (.int (iZ (gsR wh (gsO (vC I) ln bt (nP (vC I)) 0 (-2) 0))))) (mm I J A)) (hn : ¬ (I 266 0 = 1 ∧ GG ln bt wh) → Q (some (.int (iZ (-1)))) (mm I J A)) : wpC E (d + 6) 245 [.ref 265, .int (iZ ln), .int (iZ bt), .int (iZ wh)] (mm I J A) Q := by
  refine wc (hs := [21]) 40 (by decide) (And.intro rfl (m_isShip (fun p => wF (by decide) ?_) (fun p => wt rfl (hn fun q => p q.1))))
  have F : ¬ GG ln bt wh → Q (some (.int (iZ (-1)))) (mm I J A) := fun q => hn fun r => q r.2
  refine And.intro rfl (mW (z := ln) (lo := -60) (hi := 60) (z_l (by omega) (by omega)) c60 rfl (by omega) (by omega) (by omega) (fun g => wF (by decide) ?_) (fun g => wt rfl (F fun q => g q.1)))
  refine wp_keys [0, 1, 2, 3] rfl rfl ?_
  refine m_guess1 hb (fun g2 => m_guess2 hw (fun g3 => ?_) (fun g3 => F fun q => g3 q.2.2)) (fun g2 => F fun q => g2 q.2.1)
  have z := h1 p ⟨g, g2, g3⟩
  unfold vC at z
  rw [gsO_cut] at z
  have en : nP (cutV (vI I)) = nP (vI I) := rfl
  rw [en] at z
  exact m_guessO (hV p).1 h0 g g2 g3 (nP (vI I)) 0 (-2) 0 _ _ _ (by omega) ⟨by omega, by omega, by omega, by omega⟩ rfl rfl rfl z
theorem c_missed {v : am_V} {ln bt L : Int} {x : Int32} (hW : Wf v) (hR : RS I J 1 v) (rn : -60 ≤ ln ∧ ln ≤ 60) (rt : 0 ≤ bt ∧ bt ≤ 9999) (rL : 0 ≤ L ∧ L ≤ 1000000000) (ex : x = iZ L) (hQ : ∀ I1 J1 A1 (r : Int), (0 ≤ r ∧ r ≤ 30000) → (r = msW v ln bt ∨ L ≤ r ∧ L ≤ msW v ln bt) → RS I1 J1 1 v → FS I J I1 J1 → Q (some (.int (iZ r))) (mm I1 J1 A1)) : wpC E (d + 4) 122 [.ref 0, .int (iZ ln), .int (iZ bt), .int x] (mm I J A) Q := by
  subst ex
  have mb := msB hW rn rt
  have rb := btZ_B (s := stfZ v 0 0) hW
  have rr := rst_rng (t := trnZ v 0 0 (asdZ v)) (z := 0) (by omega)
  have ab := asdB hW
  refine wc (hs := []) 60 (by decide) (And.intro rfl (c_takeV hW hR (fun I1 J1 A1 hB hR1 hF => And.intro rfl (c_beat (Or.inl ⟨rfl, rfl⟩) hB hW WW0 ?_))))
  have hq : ∀ r : Int, (0 ≤ r ∧ r ≤ 30000) → (r = msW v ln bt ∨ L ≤ r ∧ L ≤ msW v ln bt) → Q (some (.int (iZ r))) (mm I1 J1 A1) := fun r h1 h2 => hQ I1 J1 A1 r h1 h2 hR1 hF
  have rf := c_restFrom (E := E) (d := d) (z := 0) (N := 120) (x := iZ 0) (y := iZ 120) (Q := fun r M => r = some (.int (iZ (rstZ (trnZ v 0 0 (asdZ v)) 0))) ∧ M = mm I1 J1 A1) (Or.inl ⟨rfl, rfl⟩) hB hW WW0 ⟨by omega, by omega⟩ (by omega) (by omega) rfl rfl ⟨rfl, rfl⟩
  unfold msW at hq mb
  generalize rstZ (trnZ v 0 0 (asdZ v)) 0 = r at rr mb hq rf
  generalize btZ v (stfZ v 0 0) = b at rb mb hq ⊢
  have em : (if 0 ≤ (if iZ b < iZ 0 then iZ 0 else iZ b) - iZ bt then (if iZ b < iZ 0 then iZ 0 else iZ b) - iZ bt else 0 - ((if iZ b < iZ 0 then iZ 0 else iZ b) - iZ bt)) = iZ ((max b 0 - bt).natAbs : Int) := by
    show (if iZ 0 ≤ (if iZ b < iZ 0 then iZ 0 else iZ b) - iZ bt then (if iZ b < iZ 0 then iZ 0 else iZ b) - iZ bt else iZ 0 - ((if iZ b < iZ 0 then iZ 0 else iZ b) - iZ bt)) = iZ ((max b 0 - bt).natAbs : Int)
    simp (disch := omega) only [z_i8, z_i16, z_of, z_ofN, z_lofN, z_0, z_1, z_m1, z_l0, z_l1, iZ_add, iZ_sub, iZ_mul, iZ_neg, lZ_add, lZ_sub, lZ_mul, lZ_neg, z_div, z_ldiv, z_l, z_i, z_lt, z_le, z_eq, z_llt, z_lle, z_leq, z_cgt, z_cge, z_clt, z_cle, z_ceq, z_cl, z_nat, Int.toNat_natCast, mm_I, mm_J, z_cln, z_abs, z_max, z_min, z_lmax, z_lmin, z_sin, Int.cast_ofNat_Int, uI_I, uI_J, uL_I, uL_J, uA_I, uA_J, sI_eq, sI_ne, sL_eq, sL_ne, up_eq, up_ne, uL_eq, uL_ne, z_toInt, Int.reduceToNat]
  refine And.intro (fun q => ?_) (fun q => ?_)
  · have q : (if 0 ≤ (if iZ b < iZ 0 then iZ 0 else iZ b) - iZ bt then (if iZ b < iZ 0 then iZ 0 else iZ b) - iZ bt else 0 - ((if iZ b < iZ 0 then iZ 0 else iZ b) - iZ bt)) < iZ L := q
    rw [em] at q
    simp (disch := omega) only [z_i8, z_i16, z_of, z_ofN, z_lofN, z_0, z_1, z_m1, z_l0, z_l1, iZ_add, iZ_sub, iZ_mul, iZ_neg, lZ_add, lZ_sub, lZ_mul, lZ_neg, z_div, z_ldiv, z_l, z_i, z_lt, z_le, z_eq, z_llt, z_lle, z_leq, z_cgt, z_cge, z_clt, z_cle, z_ceq, z_cl, z_nat, Int.toNat_natCast, mm_I, mm_J, z_cln, z_abs, z_max, z_min, z_lmax, z_lmin, z_sin, Int.cast_ofNat_Int, uI_I, uI_J, uL_I, uL_J, uA_I, uA_J, sI_eq, sI_ne, sL_eq, sL_ne, up_eq, up_ne, uL_eq, uL_ne, z_toInt, Int.reduceToNat] at q
    refine And.intro rfl (wpC_mono rf (fun r' M hh => ?_))
    obtain ⟨rfl, rfl⟩ := hh
    refine q_i (hq _ mb (Or.inl rfl)) ?_
    show (if 0 ≤ (if iZ b < iZ 0 then iZ 0 else iZ b) - iZ bt then (if iZ b < iZ 0 then iZ 0 else iZ b) - iZ bt else 0 - ((if iZ b < iZ 0 then iZ 0 else iZ b) - iZ bt)) + iZ 10 * (if iZ 0 ≤ iZ r - iZ ln then iZ r - iZ ln else iZ 0 - (iZ r - iZ ln)) = _
    rw [em]
    simp (disch := omega) only [z_i8, z_i16, z_of, z_ofN, z_lofN, z_0, z_1, z_m1, z_l0, z_l1, iZ_add, iZ_sub, iZ_mul, iZ_neg, lZ_add, lZ_sub, lZ_mul, lZ_neg, z_div, z_ldiv, z_l, z_i, z_lt, z_le, z_eq, z_llt, z_lle, z_leq, z_cgt, z_cge, z_clt, z_cle, z_ceq, z_cl, z_nat, Int.toNat_natCast, mm_I, mm_J, z_cln, z_abs, z_max, z_min, z_lmax, z_lmin, z_sin, Int.cast_ofNat_Int, uI_I, uI_J, uL_I, uL_J, uA_I, uA_J, sI_eq, sI_ne, sL_eq, sL_ne, up_eq, up_ne, uL_eq, uL_ne, z_toInt, Int.reduceToNat]
    omega
  · have q : ¬ (if 0 ≤ (if iZ b < iZ 0 then iZ 0 else iZ b) - iZ bt then (if iZ b < iZ 0 then iZ 0 else iZ b) - iZ bt else 0 - ((if iZ b < iZ 0 then iZ 0 else iZ b) - iZ bt)) < iZ L := q
    rw [em] at q
    simp (disch := omega) only [z_i8, z_i16, z_of, z_ofN, z_lofN, z_0, z_1, z_m1, z_l0, z_l1, iZ_add, iZ_sub, iZ_mul, iZ_neg, lZ_add, lZ_sub, lZ_mul, lZ_neg, z_div, z_ldiv, z_l, z_i, z_lt, z_le, z_eq, z_llt, z_lle, z_leq, z_cgt, z_cge, z_clt, z_cle, z_ceq, z_cl, z_nat, Int.toNat_natCast, mm_I, mm_J, z_cln, z_abs, z_max, z_min, z_lmax, z_lmin, z_sin, Int.cast_ofNat_Int, uI_I, uI_J, uL_I, uL_J, uA_I, uA_J, sI_eq, sI_ne, sL_eq, sL_ne, up_eq, up_ne, uL_eq, uL_ne, z_toInt, Int.reduceToNat] at q
    exact q_i (hq ((max b 0 - bt).natAbs : Int) (by omega) (Or.inr ⟨by omega, by omega⟩)) em
theorem c_guessI {v : am_V} {κ : Nat} {ln bt wh f1 l1 : Int} {x9 : Int32} (hW : Wf v) (hκ : κ < nP v) (rn : -60 ≤ ln ∧ ln ≤ 60) (rt : 0 ≤ bt ∧ bt ≤ 9999) (e9 : x9 = iZ (v 276 κ)) (K : ∀ I1 J1 A1 L W H, RS I1 J1 1 v → FV I J I1 J1 → GsC f1 l1 L W H → wp E (d + 6) 121 68 [(0, .ref 0), (1, .int (iZ ln)), (2, .int (iZ bt)), (3, .int (iZ wh)), (4, .ref 3), (5, .int (iZ L)), (6, .int (iZ W)), (7, .int (iZ H)), (8, .int (iZ (κ : Int) + 1))] [] (mm I1 J1 A1) Q) :
    ∀ (m h : Nat) (I' : Nat → Nat → Int32) (J' : Nat → Nat → Int64) (A' : Nat → Option Nat) (w f l L W H : Int) (x5 x6 x7 x10 : Int32), h + m = 101 → RS I' J' 1 (vset v 276 κ w) → FV I J I' J' → 0 ≤ w ∧ w ≤ capZ v κ → GsC f l L W H → x5 = iZ L → x6 = iZ W → x7 = iZ H → x10 = iZ h → gsI v ln bt κ m h f l = (f1, l1) → wp E (d + 6) 121 91 [(0, .ref 0), (1, .int (iZ ln)), (2, .int (iZ bt)), (3, .int (iZ wh)), (4, .ref 3), (5, .int x5), (6, .int x6), (7, .int x7), (8, .int (iZ κ)), (9, .int x9), (10, .int x10)] [] (mm I' J' A') Q := by
  have h12 := nP12 hW
  have wP := hW.2.2.1 κ hκ
  intro m
  induction m with
  | zero =>
    intro h I' J' A' w f l L W H x5 x6 x7 x10 hi hR' hF' hw gc e5 e6 e7 e10 he
    subst e5; subst e6; subst e7; subst e10
    have he : (f, l) = (f1, l1) := he
    obtain ⟨rfl, rfl⟩ := Prod.mk.inj he
    refine wf (hs := [68, 91]) 60 91 (by decide) (wt (by ((try simp (disch := omega) only [z_i8, z_i16, z_of, z_ofN, z_lofN, z_0, z_1, z_m1, z_l0, z_l1, iZ_add, iZ_sub, iZ_mul, iZ_neg, lZ_add, lZ_sub, lZ_mul, lZ_neg, z_div, z_ldiv, z_l, z_i, z_lt, z_le, z_eq, z_llt, z_lle, z_leq, z_cgt, z_cge, z_clt, z_cle, z_ceq, z_cl, z_nat, Int.toNat_natCast, mm_I, mm_J, z_cln, z_abs, z_max, z_min, z_lmax, z_lmin, z_sin, Int.cast_ofNat_Int, uI_I, uI_J, uL_I, uL_J, uA_I, uA_J, sI_eq, sI_ne, sL_eq, sL_ne, up_eq, up_ne, uL_eq, uL_ne, z_toInt, Int.reduceToNat]) <;> omega)) (And.intro rfl (c_pourB hR' hW hκ hw rfl e9 (fun I2 hR2 hF2 => ?_))))
    refine wp_keys [0, 1, 2, 3, 4, 5, 6, 7, 8] rfl rfl ?_
    exact K I2 J' A' L W H hR2 (FV_trans hF' (Fr_FV (J := J') hF2)) gc
  | succ m ih =>
    intro h I' J' A' w f l L W H x5 x6 x7 x10 hi hR' hF' hw gc e5 e6 e7 e10 he
    subst e5; subst e6; subst e7; subst e10
    have hb := hunB (h := h) wP ⟨by omega, by omega⟩
    have hW' := Wf_set (p := κ) hW hw
    have hW2 := Wf_set (p := κ) hW hb.2
    have ec : hunZ (vset v 276 κ w) κ h = hunZ v κ h := rfl
    have gc' := gc
    unfold GsC at gc'
    have em : msW (vset v 276 κ (hunZ v κ h)) ln bt = msA v ln bt κ h := rfl
    have mb := msB hW2 rn rt
    unfold gsI at he
    refine wf (hs := [91]) 80 91 (by decide) (wF (by ((try simp (disch := omega) only [z_i8, z_i16, z_of, z_ofN, z_lofN, z_0, z_1, z_m1, z_l0, z_l1, iZ_add, iZ_sub, iZ_mul, iZ_neg, lZ_add, lZ_sub, lZ_mul, lZ_neg, z_div, z_ldiv, z_l, z_i, z_lt, z_le, z_eq, z_llt, z_lle, z_leq, z_cgt, z_cge, z_clt, z_cle, z_ceq, z_cl, z_nat, Int.toNat_natCast, mm_I, mm_J, z_cln, z_abs, z_max, z_min, z_lmax, z_lmin, z_sin, Int.cast_ofNat_Int, uI_I, uI_J, uL_I, uL_J, uA_I, uA_J, sI_eq, sI_ne, sL_eq, sL_ne, up_eq, up_ne, uL_eq, uL_ne, z_toInt, Int.reduceToNat]) <;> omega)) (And.intro rfl (c_hund hR' hW' hκ (by omega) rfl rfl ?_)))
    rw [ec]
    refine And.intro rfl (c_pour (b := 1) (p := κ) (n := hunZ v κ h) (Or.inl rfl) hR' hW' hκ hb.2 rfl rfl (fun I2 hR2 hF2 => ?_))
    rw [vset_two] at hR2
    refine And.intro rfl (c_missed hW2 hR2 rn rt (by omega) rfl (fun I3 J3 A3 r rr hr hR3 hF3 => ?_))
    have hF := FV_trans (FV_trans hF' (Fr_FV (J := J') hF2)) (FS_FV hF3)
    rw [em] at hr mb
    generalize msA v ln bt κ h = s at hr mb he
    refine And.intro (fun q => ?_) (fun q => ?_)
    · simp (disch := omega) only [z_i8, z_i16, z_of, z_ofN, z_lofN, z_0, z_1, z_m1, z_l0, z_l1, iZ_add, iZ_sub, iZ_mul, iZ_neg, lZ_add, lZ_sub, lZ_mul, lZ_neg, z_div, z_ldiv, z_l, z_i, z_lt, z_le, z_eq, z_llt, z_lle, z_leq, z_cgt, z_cge, z_clt, z_cle, z_ceq, z_cl, z_nat, Int.toNat_natCast, mm_I, mm_J, z_cln, z_abs, z_max, z_min, z_lmax, z_lmin, z_sin, Int.cast_ofNat_Int, uI_I, uI_J, uL_I, uL_J, uA_I, uA_J, sI_eq, sI_ne, sL_eq, sL_ne, up_eq, up_ne, uL_eq, uL_ne, z_toInt, Int.reduceToNat] at q
      rw [if_neg (by omega)] at he
      refine wp_keys [0, 1, 2, 3, 4, 5, 6, 7, 8, 9, 10] rfl rfl ?_
      exact ih (h + 1) I3 J3 A3 _ f l L W H _ _ _ _ (by omega) hR3 hF hb.2 gc rfl rfl rfl (iZ_add h 1) he
    · simp (disch := omega) only [z_i8, z_i16, z_of, z_ofN, z_lofN, z_0, z_1, z_m1, z_l0, z_l1, iZ_add, iZ_sub, iZ_mul, iZ_neg, lZ_add, lZ_sub, lZ_mul, lZ_neg, z_div, z_ldiv, z_l, z_i, z_lt, z_le, z_eq, z_llt, z_lle, z_leq, z_cgt, z_cge, z_clt, z_cle, z_ceq, z_cl, z_nat, Int.toNat_natCast, mm_I, mm_J, z_cln, z_abs, z_max, z_min, z_lmax, z_lmin, z_sin, Int.cast_ofNat_Int, uI_I, uI_J, uL_I, uL_J, uA_I, uA_J, sI_eq, sI_ne, sL_eq, sL_ne, up_eq, up_ne, uL_eq, uL_ne, z_toInt, Int.reduceToNat] at q
      have : r = s := by omega
      subst this
      rw [if_pos (by omega)] at he
      refine wp_keys [0, 1, 2, 3, 4, 5, 6, 7, 8, 9, 10] rfl rfl ?_
      exact ih (h + 1) I3 J3 A3 _ _ _ r κ h _ _ _ _ (by omega) hR3 hF hb.2 (Or.inr ⟨by omega, by omega, by omega, by omega, rfl, rfl, by omega, by omega⟩) rfl rfl rfl (iZ_add h 1) he
theorem c_guessO {v : am_V} {ln bt wh RES : Int} (hW : Wf v) (rn : -60 ≤ ln ∧ ln ≤ 60) (rt : 0 ≤ bt ∧ bt ≤ 9999) (rw' : 0 ≤ wh ∧ wh ≤ 2) (fin : ∀ I1 J1 A1, RS I1 J1 1 v → FV I J I1 J1 → Q (some (.int (iZ RES))) (mm I1 J1 A1)) :
    ∀ (m p : Nat) (I' : Nat → Nat → Int32) (J' : Nat → Nat → Int64) (A' : Nat → Option Nat) (f l L W H : Int) (x5 x6 x7 x8 : Int32), p + m = nP v → RS I' J' 1 v → FV I J I' J' → GsC f l L W H → x5 = iZ L → x6 = iZ W → x7 = iZ H → x8 = iZ p → gsR wh (gsO v ln bt m p f l) = RES → wp E (d + 6) 121 68 [(0, .ref 0), (1, .int (iZ ln)), (2, .int (iZ bt)), (3, .int (iZ wh)), (4, .ref 3), (5, .int x5), (6, .int x6), (7, .int x7), (8, .int x8)] [] (mm I' J' A') Q := by
  have h12 := nP12 hW
  intro m
  induction m with
  | zero =>
    intro p I' J' A' f l L W H x5 x6 x7 x8 hi hR' hF' gc e5 e6 e7 e8 he
    subst e5; subst e6; subst e7; subst e8
    have en : I' 3 0 = iZ (nP v) := hR'.2.2.1.1
    have he : gsR wh (f, l) = RES := he
    unfold gsR at he
    dsimp only at he
    unfold GsC at gc
    have hQ := fin I' J' A' hR' hF'
    rw [← he] at hQ
    refine wf (hs := []) 60 68 (by decide) (wt (by ((try simp (disch := omega) only [z_i8, z_i16, z_of, z_ofN, z_lofN, z_0, z_1, z_m1, z_l0, z_l1, iZ_add, iZ_sub, iZ_mul, iZ_neg, lZ_add, lZ_sub, lZ_mul, lZ_neg, z_div, z_ldiv, z_l, z_i, z_lt, z_le, z_eq, z_llt, z_lle, z_leq, z_cgt, z_cge, z_clt, z_cle, z_ceq, z_cl, z_nat, Int.toNat_natCast, mm_I, mm_J, z_cln, z_abs, z_max, z_min, z_lmax, z_lmin, z_sin, Int.cast_ofNat_Int, uI_I, uI_J, uL_I, uL_J, uA_I, uA_J, sI_eq, sI_ne, sL_eq, sL_ne, up_eq, up_ne, uL_eq, uL_ne, z_toInt, Int.reduceToNat, en]) <;> omega)) (And.intro (fun q => ?_) (fun q => ?_)))
    all_goals simp (disch := omega) only [z_i8, z_i16, z_of, z_ofN, z_lofN, z_0, z_1, z_m1, z_l0, z_l1, iZ_add, iZ_sub, iZ_mul, iZ_neg, lZ_add, lZ_sub, lZ_mul, lZ_neg, z_div, z_ldiv, z_l, z_i, z_lt, z_le, z_eq, z_llt, z_lle, z_leq, z_cgt, z_cge, z_clt, z_cle, z_ceq, z_cl, z_nat, Int.toNat_natCast, mm_I, mm_J, z_cln, z_abs, z_max, z_min, z_lmax, z_lmin, z_sin, Int.cast_ofNat_Int, uI_I, uI_J, uL_I, uL_J, uA_I, uA_J, sI_eq, sI_ne, sL_eq, sL_ne, up_eq, up_ne, uL_eq, uL_ne, z_toInt, Int.reduceToNat] at q
    · rw [if_neg (by omega)] at hQ
      refine And.intro (fun q2 => ?_) (fun q2 => ?_)
      all_goals simp (disch := omega) only [z_i8, z_i16, z_of, z_ofN, z_lofN, z_0, z_1, z_m1, z_l0, z_l1, iZ_add, iZ_sub, iZ_mul, iZ_neg, lZ_add, lZ_sub, lZ_mul, lZ_neg, z_div, z_ldiv, z_l, z_i, z_lt, z_le, z_eq, z_llt, z_lle, z_leq, z_cgt, z_cge, z_clt, z_cle, z_ceq, z_cl, z_nat, Int.toNat_natCast, mm_I, mm_J, z_cln, z_abs, z_max, z_min, z_lmax, z_lmin, z_sin, Int.cast_ofNat_Int, uI_I, uI_J, uL_I, uL_J, uA_I, uA_J, sI_eq, sI_ne, sL_eq, sL_ne, up_eq, up_ne, uL_eq, uL_ne, z_toInt, Int.reduceToNat] at q2
      · rw [if_pos (by omega)] at hQ
        exact q_i hQ (by congr 1; omega)
      · rw [if_neg (by omega)] at hQ
        refine And.intro (fun q3 => ?_) (fun q3 => ?_)
        all_goals simp (disch := omega) only [z_i8, z_i16, z_of, z_ofN, z_lofN, z_0, z_1, z_m1, z_l0, z_l1, iZ_add, iZ_sub, iZ_mul, iZ_neg, lZ_add, lZ_sub, lZ_mul, lZ_neg, z_div, z_ldiv, z_l, z_i, z_lt, z_le, z_eq, z_llt, z_lle, z_leq, z_cgt, z_cge, z_clt, z_cle, z_ceq, z_cl, z_nat, Int.toNat_natCast, mm_I, mm_J, z_cln, z_abs, z_max, z_min, z_lmax, z_lmin, z_sin, Int.cast_ofNat_Int, uI_I, uI_J, uL_I, uL_J, uA_I, uA_J, sI_eq, sI_ne, sL_eq, sL_ne, up_eq, up_ne, uL_eq, uL_ne, z_toInt, Int.reduceToNat] at q3
        · rw [if_pos (by omega)] at hQ
          exact q_i hQ (by congr 1; omega)
        · rw [if_neg (by omega)] at hQ
          exact q_i hQ (by congr 1; omega)
    · rw [if_pos (by omega)] at hQ
      exact hQ
  | succ m ih =>
    intro p I' J' A' f l L W H x5 x6 x7 x8 hi hR' hF' gc e5 e6 e7 e8 he
    subst e5; subst e6; subst e7; subst e8
    have en : I' 3 0 = iZ (nP v) := hR'.2.2.1.1
    have hp : p < nP v := by omega
    have w6 := (hW.2.2.1 p hp).2.2.2.2.2.2
    have e11 : I' 11 (iZ (p : Int)).toNatClampNeg = iZ (v 276 p) := by rw [z_cln (by omega)]; exact (hR'.2.2.1.2.1 p hp).2.2.2.2.2.2.2.1
    refine wf (hs := [91]) 60 68 (by decide) (wF (by ((try simp (disch := omega) only [z_i8, z_i16, z_of, z_ofN, z_lofN, z_0, z_1, z_m1, z_l0, z_l1, iZ_add, iZ_sub, iZ_mul, iZ_neg, lZ_add, lZ_sub, lZ_mul, lZ_neg, z_div, z_ldiv, z_l, z_i, z_lt, z_le, z_eq, z_llt, z_lle, z_leq, z_cgt, z_cge, z_clt, z_cle, z_ceq, z_cl, z_nat, Int.toNat_natCast, mm_I, mm_J, z_cln, z_abs, z_max, z_min, z_lmax, z_lmin, z_sin, Int.cast_ofNat_Int, uI_I, uI_J, uL_I, uL_J, uA_I, uA_J, sI_eq, sI_ne, sL_eq, sL_ne, up_eq, up_ne, uL_eq, uL_ne, z_toInt, Int.reduceToNat, en]) <;> omega)) (And.intro (z_in (by omega) (by omega) (by omega)) ?_))
    refine wp_keys [0, 1, 2, 3, 4, 5, 6, 7, 8, 9, 10] rfl rfl ?_
    exact c_guessI hW hp rn rt e11 (fun I1 J1 A1 L1 W1 H1 hR1 hF1 gc1 => ih (p + 1) I1 J1 A1 _ _ L1 W1 H1 _ _ _ _ (by omega) hR1 (FV_trans hF' hF1) gc1 rfl rfl rfl (iZ_add p 1) he) 101 0 I' J' A' (v 276 p) f l L W H _ _ _ (iZ 0) (by omega) (by rw [vset_id]; exact hR') FV_refl w6 gc rfl rfl rfl rfl rfl
theorem op_guess {ln bt wh : Int} (h : Inv I J) (hl : -2147483648 ≤ ln ∧ ln ≤ 2147483647) (hb : -2147483648 ≤ bt ∧ bt ≤ 2147483647) (hw : -2147483648 ≤ wh ∧ wh ≤ 2147483647) : wpC E (d + 6) 121 [.ref 0, .int (iZ ln), .int (iZ bt), .int (iZ wh)] (mm I J A) (QI E (d + 6) 245 [.int (iZ ln), .int (iZ bt), .int (iZ wh)]) := by
  have F' : ¬ (I 266 0 = 1 ∧ GG ln bt wh) → QI E (d + 6) 245 [.int (iZ ln), .int (iZ bt), .int (iZ wh)] (some (.int (iZ (-1)))) (mm I J A) := fun q => rd_mk h FS_refl (m_guess (Vs_m h.1) h.2.2.2.2.1 hl hb hw (fun p1 p2 => absurd ⟨p1, p2⟩ q) (fun _ => ⟨rfl, rfl⟩))
  rcases h.1 with ⟨g0, g1⟩ | ⟨g0, hW, hH, hR, h8⟩
  · exact wc (hs := []) 20 (by decide) (wt g1 (F' fun q => by rw [q.1] at g0; cases g0))
  · have b1 : ¬ I 1 0 = 0 := by have : I 1 0 = 1 := hR.1.1; rw [this]; decide
    have F : ¬ GG ln bt wh → QI E (d + 6) 245 [.int (iZ ln), .int (iZ bt), .int (iZ wh)] (some (.int (iZ (-1)))) (mm I J A) := fun q => F' fun r => q r.2
    unfold GG at F
    refine wc (hs := [68]) 60 (by decide) (wF b1 ?_)
    refine And.intro rfl (cW (z := ln) (lo := -60) (hi := 60) rfl rfl rfl (by omega) (by omega) (by omega) (fun g => wF (by decide) ?_) (fun g => wt rfl (F (by omega))))
    refine And.intro rfl (cW (z := bt) (lo := 0) (hi := 9999) rfl rfl rfl (by omega) (by omega) (by omega) (fun g => wF (by decide) ?_) (fun g => wt rfl (F (by omega))))
    refine And.intro rfl (cW (z := wh) (lo := 0) (hi := 2) rfl rfl rfl (by omega) (by omega) (by omega) (fun g => wF (by decide) ?_) (fun g => wt rfl (F (by omega))))
    have hg : GG ln bt wh := ⟨by omega, by omega, by omega⟩
    obtain ⟨RES, hRES⟩ : ∃ R, R = gsR wh (gsO (vC I) ln bt (nP (vC I)) 0 (-2) 0) := ⟨_, rfl⟩
    refine wp_keys [0, 1, 2, 3, 4, 5, 6, 7, 8] rfl rfl ?_
    refine c_guessO hW hg.1 hg.2.1 hg.2.2 (RES := RES) (fun I1 J1 A1 hR1 hF => ?_) (nP (vC I)) 0 I J A (-2) 0 1000000000 (-2) (-2) _ _ _ _ (by omega) hR FV_refl (Or.inl ⟨rfl, rfl, rfl, rfl⟩) rfl rfl rfl rfl hRES.symm
    refine rv_mk h g0 hF hR1 (m_guess (FV_m hF (Vs_m h.1)) (M0_FV hF h.2.2.2.2.1) hl hb hw (fun _ _ => ⟨?_, J1, JF_refl, rfl⟩) (fun q => absurd ⟨?_, hg⟩ q))
    · rw [FV_vC hF, hRES]
    · have : I1 266 0 = I 266 0 := congrFun (hF 266 (by omega) (by omega)).1 0
      rw [this]; exact g0
end GS2
