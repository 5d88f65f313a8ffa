/-! ===== the class: a plan's code computed ===== -/
def RhS (ρ b : Nat) : Prop := (ρ = 240 ∧ B5 b) ∨ (ρ = 255 ∧ b = 1)
def PC (c : Nat) : Prop := c = 176 ∨ c = 185 ∨ c = 194 ∨ c = 203 ∨ c = 212 ∨ c = 221
def PP (π : Nat) : Prop := π = 168 ∨ π = 177 ∨ π = 186 ∨ π = 195 ∨ π = 204 ∨ π = 213
def FR (lo hi : Nat) (I : Nat → Nat → Int32) (J : Nat → Nat → Int64) (I' : Nat → Nat → Int32) (J' : Nat → Nat → Int64) : Prop := ∀ a, a < lo ∨ hi ≤ a → I' a = I a ∧ J' a = J a
def F2 (ρ b : Nat) (I : Nat → Nat → Int32) (J : Nat → Nat → Int64) (I' : Nat → Nat → Int32) (J' : Nat → Nat → Int64) : Prop := ∀ a, (a < b ∨ b + 33 ≤ a) → (a < ρ ∨ ρ + 6 ≤ a) → I' a = I a ∧ J' a = J a
theorem RhS_BS {ρ b : Nat} (h : RhS ρ b) : BS (ρ + 1) b := by
  unfold RhS B5 at h
  unfold BS
  omega
theorem RhS_B5 {ρ b : Nat} (h : RhS ρ b) : B5 b := by
  unfold RhS B5 at h
  unfold B5
  omega
theorem PP_PC {π : Nat} (h : PP π) : PC (π + 8) := by
  unfold PP at h
  unfold PC
  omega
theorem FR_refl {lo hi : Nat} {I : Nat → Nat → Int32} {J : Nat → Nat → Int64} : FR lo hi I J I J := fun _ _ => ⟨rfl, rfl⟩
theorem FR_trans {lo hi : Nat} {I I' I'' : Nat → Nat → Int32} {J J' J'' : Nat → Nat → Int64} (h : FR lo hi I J I' J') (h' : FR lo hi I' J' I'' J'') : FR lo hi I J I'' J'' := fun a ha => ⟨(h' a ha).1.trans (h a ha).1, (h' a ha).2.trans (h a ha).2⟩
theorem F2_refl {ρ b : Nat} {I : Nat → Nat → Int32} {J : Nat → Nat → Int64} : F2 ρ b I J I J := fun _ _ _ => ⟨rfl, rfl⟩
theorem F2_trans {ρ b : Nat} {I I' I'' : Nat → Nat → Int32} {J J' J'' : Nat → Nat → Int64} (h : F2 ρ b I J I' J') (h' : F2 ρ b I' J' I'' J'') : F2 ρ b I J I'' J'' := fun a ha hb => ⟨(h' a ha hb).1.trans (h a ha hb).1, (h' a ha hb).2.trans (h a ha hb).2⟩
theorem FR_F2 {ρ b : Nat} {I I' : Nat → Nat → Int32} {J J' : Nat → Nat → Int64} (h : FR ρ (ρ + 6) I J I' J') : F2 ρ b I J I' J' := fun a _ hb => h a hb
theorem Fr_F2 {ρ b : Nat} {I I' : Nat → Nat → Int32} {J : Nat → Nat → Int64} (h : Fr b I I') : F2 ρ b I J I' J := fun a ha _ => ⟨h a ha, rfl⟩
theorem FB_FR {ρ : Nat} {I I' : Nat → Nat → Int32} {J J' : Nat → Nat → Int64} {A A' : Nat → Option Nat} (h : FB (ρ + 1) I J A I' J' A') : FR ρ (ρ + 6) I J I' J' := fun a ha => ⟨h.1 a (by omega), h.2.1 a (by omega) (by omega) (by omega)⟩
theorem RS_FR {ρ b : Nat} {I I' : Nat → Nat → Int32} {J J' : Nat → Nat → Int64} {v : am_V} (hr : RhS ρ b) (h : FR ρ (ρ + 6) I J I' J') (hR : RS I J b v) : RS I' J' b v := RS_eq (fun a h1 h2 => h a (by unfold RhS B5 at hr; omega)) hR
/-- a plan of the class -/
def plV (I : Nat → Nat → Int32) (π : Nat) : Nat → Nat → Int := fun j i => vI I (π + j) i
def segL (g : Nat → Nat → Int) (v : am_V) (a b : Int) : Int64 := (evN (fun x => lZ (wrdZ v x)) (g 8) (b.toNat - a.toNat) a.toNat []).headD 0
def tstZ (g : Nat → Nat → Int) (v : am_V) (i : Nat) : Prop := g 6 i = g 7 i ∨ ¬ segL g v (g 6 i) (g 7 i) = 0
def WfGi (g : Nat → Nat → Int) (i : Nat) : Prop := (g 1 i = 16 ∨ g 1 i = 19 ∨ g 1 i = 20 ∨ g 1 i = 21 ∨ g 1 i = 22) ∧ (g 1 i = 19 ∨ g 1 i = 20 ∨ g 1 i = 21 → 0 ≤ g 2 i ∧ g 2 i ≤ 11) ∧ (g 1 i = 21 → 0 ≤ g 3 i ∧ g 3 i ≤ 11) ∧ (g 1 i ≠ 22 → 0 ≤ g 4 i ∧ g 4 i ≤ 9999) ∧ (g 1 i = 16 → g 4 i ≤ 99)
  ∧ (0 ≤ g 5 i ∧ g 5 i ≤ g 6 i ∧ g 6 i ≤ g 7 i ∧ g 7 i ≤ 300) ∧ (g 1 i = 22 → okN (g 8) ((g 6 i).toNat - (g 5 i).toNat) (g 5 i).toNat 0) ∧ (g 6 i ≠ g 7 i → okN (g 8) ((g 7 i).toNat - (g 6 i).toNat) (g 6 i).toNat 0)
def WfG (g : Nat → Nat → Int) : Prop := (1 ≤ g 0 0 ∧ g 0 0 ≤ 12) ∧ ∀ i : Nat, i < (g 0 0).toNat → WfGi g i
theorem SK_putE {J : Nat → Nat → Int64} {σ k : Nat} {y y' : Int64} {s : List Int64} (h : SK J σ s) (hk : k = s.length) (hy : y' = y) : SK (setL J σ k y') σ (y :: s) := by
  subst hk; subst hy
  exact SK_put h
section C10
variable {E : Nat × (Nat → Int32)} {d : Nat} {I : Nat → Nat → Int32} {J : Nat → Nat → Int64} {A : Nat → Option Nat} {Q : Option Value → am_M → Prop} {M : am_M} {β b : Nat} {v : am_V} {mw mu mom : Int}
theorem WW0 : WW 0 0 := ⟨⟨by omega, by omega⟩, ⟨by omega, by omega⟩⟩
/-- weighed or not: the flag, and the balance as it was taken -/
def HW (ρ b : Nat) (v : am_V) (I : Nat → Nat → Int32) (J : Nat → Nat → Int64) (A : Nat → Option Nat) (x : Int32) : Prop := x = iZ 0 ∨ (x = iZ 1 ∧ RB I J A (ρ + 1) b v 0 0 (asdZ v))
theorem RB_J {J' : Nat → Nat → Int64} (e : ∀ a, a < β + 4 → J' a = J a) (h : RB I J A β b v mw mu mom) : RB I J' A β b v mw mu mom := by
  have e0 := e β (by omega)
  have e2 := e (β + 2) (by omega)
  have e3 := e (β + 3) (by omega)
  unfold RB vJ at h ⊢
  rw [e0, e2, e3]
  exact h
theorem HW_put {ρ k : Nat} {y : Int64} {x : Int32} (h : HW ρ b v I J A x) : HW ρ b v I (setL J (ρ + 5) k y) A x := by
  rcases h with h | ⟨h, hB⟩
  · exact Or.inl h
  · refine Or.inr ⟨h, RB_J (fun a ha => ?_) hB⟩
    funext j
    rw [setL_at, if_neg (by omega)]
set_option maxHeartbeats 8000000 in
theorem c_computeL {ρ c to : Nat} {x3 : Int32} (hr : RhS ρ b) (hc : PC c) (hR : RS I J b v) (hW : Wf v) (hto : to ≤ 400) : ∀ (n i : Nat) (st : List Int64) (I' : Nat → Nat → Int32) (J' : Nat → Nat → Int64) (A' : Nat → Option Nat) (x5 x6 x7 : Int32), i + n = to → FR ρ (ρ + 6) I J I' J' → HW ρ b v I' J' A' x6 → SK J' (ρ + 5) st → st.length ≤ 60 → okN (vI I c) n i st.length → x5 = iZ st.length → x7 = iZ i → (∀ I'' J'' A'', FR ρ (ρ + 6) I J I'' J'' → Q (some (.long ((evN (fun x => lZ (wrdZ v x)) (vI I c) n i st).headD 0))) (mm I'' J'' A'')) → wp E (d + 3) 62 9 [(0, .ref ρ), (1, .ref b), (2, .ref c), (3, .int x3), (4, .int (iZ to)), (5, .int x5), (6, .int x6), (7, .int x7)] [] (mm I' J' A') Q := by
  have hb := RhS_B5 hr
  have hbs := RhS_BS hr
  have hRs := fun (I' : Nat → Nat → Int32) (J' : Nat → Nat → Int64) (h : FR ρ (ρ + 6) I J I' J') => RS_FR hr h hR
  have hcc : ∀ (I' : Nat → Nat → Int32) (J' : Nat → Nat → Int64), FR ρ (ρ + 6) I J I' J' → ∀ i, I' c i = iZ (vI I c i) := fun I' J' h i => by
    rw [(h c (by unfold RhS at hr; unfold PC at hc; omega)).1]
    exact vI_eq I c i
  have put : ∀ (I' : Nat → Nat → Int32) (J' : Nat → Nat → Int64) (k : Nat) (y : Int64), FR ρ (ρ + 6) I J I' J' → FR ρ (ρ + 6) I J I' (setL J' (ρ + 5) k y) := fun I' J' k y h a ha => ⟨(h a ha).1, by
    rw [← (h a ha).2]
    funext j
    rw [setL_at, if_neg (by omega)]⟩
  have rr : ρ = 240 ∨ ρ = 255 := by unfold RhS at hr; omega
  have ssb := (stfB hW WW0.1 WW0.2).2
  intro n
  induction n with
  | zero =>
    intro i st I' J' A' x5 x6 x7 hi hF hB hS hl hk e5 e7 hQ
    subst e5; subst e7
    have hk : st.length = 1 := hk
    obtain ⟨a, rfl⟩ : ∃ a, st = [a] := List.length_eq_one_iff.mp hk
    have h0 := hS 0 (by simp)
    rcases id rr with rfl | rfl
    all_goals (
      refine wf (hs := [9]) 40 9 (by decide) ?_
      refine wt (by ((try simp (disch := omega) only [z_i8, z_i16, z_of, z_ofN, z_lofN, z_0, z_1, z_m1, z_l0, z_l1, iZ_add, iZ_sub, iZ_mul, iZ_neg, lZ_add, lZ_sub, lZ_mul, lZ_neg, z_div, z_ldiv, z_l, z_i, z_lt, z_le, z_eq, z_llt, z_lle, z_leq, z_cgt, z_cge, z_clt, z_cle, z_ceq, z_cl, z_nat, Int.toNat_natCast, mm_I, mm_J, z_cln, z_abs, z_max, z_min, z_lmax, z_lmin, z_sin, Int.cast_ofNat_Int, uI_I, uI_J, uL_I, uL_J, uA_I, uA_J, sI_eq, sI_ne, sL_eq, sL_ne, up_eq, up_ne, uL_eq, uL_ne, z_toInt]) <;> omega)) ?_
      refine wF (by show ¬ iZ 1 ≤ iZ 0; decide) ?_
      refine And.intro (inL (by decide)) ?_
      refine q_l (hQ I' J' A' hF) ?_
      exact h0)
  | succ n ih =>
    intro i st I' J' A' x5 x6 x7 hi hF hB hS hl hk e5 e7 hQ
    subst e5; subst e7
    have hx := hcc I' J' hF i
    have hcl : (iZ (i : Int)).toNatClampNeg = i := z_cln (by omega)
    have hcs : (iZ (st.length : Int)).toNatClampNeg = st.length := z_cln (by omega)
    have hin : vp_in (iZ (i : Int)) 400 := z_in (by omega) (by omega) (by omega)
    have q1 : ¬ iZ (to : Int) ≤ iZ (i : Int) := by ((try simp (disch := omega) only [z_i8, z_i16, z_of, z_ofN, z_lofN, z_0, z_1, z_m1, z_l0, z_l1, iZ_add, iZ_sub, iZ_mul, iZ_neg, lZ_add, lZ_sub, lZ_mul, lZ_neg, z_div, z_ldiv, z_l, z_i, z_lt, z_le, z_eq, z_llt, z_lle, z_leq, z_cgt, z_cge, z_clt, z_cle, z_ceq, z_cl, z_nat, Int.toNat_natCast, mm_I, mm_J, z_cln, z_abs, z_max, z_min, z_lmax, z_lmin, z_sin, Int.cast_ofNat_Int, uI_I, uI_J, uL_I, uL_J, uA_I, uA_J, sI_eq, sI_ne, sL_eq, sL_ne, up_eq, up_ne, uL_eq, uL_ne, z_toInt]) <;> omega)
    have hev : ∀ s', s' = stpL (fun x => lZ (wrdZ v x)) (vI I c i) st → evN (fun x => lZ (wrdZ v x)) (vI I c) (n + 1) i st = evN (fun x => lZ (wrdZ v x)) (vI I c) n (i + 1) s' := fun s' e => by rw [e]; rfl
    rcases hk with ⟨hw, hk60, hk⟩ | ⟨hw, hk1, hk⟩ | ⟨hw, hk2, hk⟩
    · have hp5 : vp_in (iZ (st.length : Int)) 60 := z_in (by omega) (by omega) (by omega)
      rw [hev (lZ (wrdZ v (vI I c i)) :: st) (by unfold stpL; rw [if_neg (by omega)])] at hQ
      have hwd : 100 ≤ vI I c i → wrdZ v (vI I c i) = vI I c i - 100 := fun h => by
        unfold wrdZ
        rw [if_neg (by omega), if_neg (by omega), if_neg (by omega), if_neg (by omega), if_neg (by omega), if_neg (by omega), if_neg (by omega), if_neg (by omega)]
      have hw18 : vI I c i = 18 → wrdZ v (vI I c i) = stfZ v 0 0 := fun h => by rw [h]; rfl
      generalize hxx : vI I c i = x at hw hx hQ hwd hw18
      have q60 : ¬ iZ 60 ≤ iZ (st.length : Int) := by ((try simp (disch := omega) only [z_i8, z_i16, z_of, z_ofN, z_lofN, z_0, z_1, z_m1, z_l0, z_l1, iZ_add, iZ_sub, iZ_mul, iZ_neg, lZ_add, lZ_sub, lZ_mul, lZ_neg, z_div, z_ldiv, z_l, z_i, z_lt, z_le, z_eq, z_llt, z_lle, z_leq, z_cgt, z_cge, z_clt, z_cle, z_ceq, z_cl, z_nat, Int.toNat_natCast, mm_I, mm_J, z_cln, z_abs, z_max, z_min, z_lmax, z_lmin, z_sin, Int.cast_ofNat_Int, uI_I, uI_J, uL_I, uL_J, uA_I, uA_J, sI_eq, sI_ne, sL_eq, sL_ne, up_eq, up_ne, uL_eq, uL_ne, z_toInt]) <;> omega)
      have hxr : I' c (iZ (i : Int)).toNatClampNeg = iZ x := by rw [hcl]; exact hx
      by_cases h18 : x = 18
      · rw [hw18 h18] at hQ
        have q2 : I' c (iZ (i : Int)).toNatClampNeg ≤ iZ 18 := by rw [hxr]; ((try simp (disch := omega) only [z_i8, z_i16, z_of, z_ofN, z_lofN, z_0, z_1, z_m1, z_l0, z_l1, iZ_add, iZ_sub, iZ_mul, iZ_neg, lZ_add, lZ_sub, lZ_mul, lZ_neg, z_div, z_ldiv, z_l, z_i, z_lt, z_le, z_eq, z_llt, z_lle, z_leq, z_cgt, z_cge, z_clt, z_cle, z_ceq, z_cl, z_nat, Int.toNat_natCast, mm_I, mm_J, z_cln, z_abs, z_max, z_min, z_lmax, z_lmin, z_sin, Int.cast_ofNat_Int, uI_I, uI_J, uL_I, uL_J, uA_I, uA_J, sI_eq, sI_ne, sL_eq, sL_ne, up_eq, up_ne, uL_eq, uL_ne, z_toInt]) <;> omega)
        have q3 : I' c (iZ (i : Int)).toNatClampNeg = iZ 18 := by rw [hxr, h18]
        rcases hB with rfl | ⟨rfl, hRB⟩
        · rcases id rr with rfl | rfl
          all_goals (
            rcases id hc with rfl | rfl | rfl | rfl | rfl | rfl
            all_goals (
              refine wf (hs := [9]) 60 9 (by decide) ?_
              refine wF q1 (And.intro hin (wt q2 (wF q60 (wt q3 (wt rfl ?_)))))
              refine And.intro rfl (c_take hbs hW (hRs I' J' hF) (fun I2 J2 A2 hRB hFB => ?_))
              refine And.intro rfl (c_stiffness hbs hRB hW WW0 ?_)
              refine And.intro hp5 ?_
              have hF2 := FR_trans hF (FB_FR hFB)
              have hS2 : SK J2 _ st := SK_eq hS (hFB.2.1 _ (by decide) (by decide) (by decide))
              refine wp_keys [0, 1, 2, 3, 4, 5, 6, 7] rfl rfl ?_
              refine ih (i + 1) (_ :: st) I2 (setL J2 _ (iZ (st.length : Int)).toNatClampNeg _) A2 _ _ _ (by omega) ?_ ?_ ?_ ?_ hk ?_ (iZ_add i 1) hQ
              · rw [hcs]; exact put I2 J2 _ _ hF2
              · exact HW_put (Or.inr ⟨rfl, hRB⟩)
              · rw [hcs]; exact SK_put hS2
              · simp only [List.length_cons]; omega
              · exact iZ_add _ 1))
        · rcases id rr with rfl | rfl
          all_goals (
            rcases id hc with rfl | rfl | rfl | rfl | rfl | rfl
            all_goals (
              refine wf (hs := [9]) 60 9 (by decide) ?_
              refine wF q1 (And.intro hin (wt q2 (wF q60 (wt q3 (wF (by decide) ?_)))))
              refine And.intro rfl (c_stiffness hbs hRB hW WW0 ?_)
              refine And.intro hp5 ?_
              refine wp_keys [0, 1, 2, 3, 4, 5, 6, 7] rfl rfl ?_
              refine ih (i + 1) (_ :: st) I' (setL J' _ (iZ (st.length : Int)).toNatClampNeg _) A' _ _ _ (by omega) ?_ ?_ ?_ ?_ hk ?_ (iZ_add i 1) hQ
              · rw [hcs]; exact put I' J' _ _ hF
              · exact HW_put (Or.inr ⟨rfl, hRB⟩)
              · rw [hcs]; exact SK_put hS
              · simp only [List.length_cons]; omega
              · exact iZ_add _ 1))
      · by_cases h100 : 100 ≤ x
        · rw [hwd h100] at hQ
          have q2 : ¬ I' c (iZ (i : Int)).toNatClampNeg ≤ iZ 18 := by rw [hxr]; ((try simp (disch := omega) only [z_i8, z_i16, z_of, z_ofN, z_lofN, z_0, z_1, z_m1, z_l0, z_l1, iZ_add, iZ_sub, iZ_mul, iZ_neg, lZ_add, lZ_sub, lZ_mul, lZ_neg, z_div, z_ldiv, z_l, z_i, z_lt, z_le, z_eq, z_llt, z_lle, z_leq, z_cgt, z_cge, z_clt, z_cle, z_ceq, z_cl, z_nat, Int.toNat_natCast, mm_I, mm_J, z_cln, z_abs, z_max, z_min, z_lmax, z_lmin, z_sin, Int.cast_ofNat_Int, uI_I, uI_J, uL_I, uL_J, uA_I, uA_J, sI_eq, sI_ne, sL_eq, sL_ne, up_eq, up_ne, uL_eq, uL_ne, z_toInt]) <;> omega)
          have q3 : iZ 100 ≤ I' c (iZ (i : Int)).toNatClampNeg := by rw [hxr]; ((try simp (disch := omega) only [z_i8, z_i16, z_of, z_ofN, z_lofN, z_0, z_1, z_m1, z_l0, z_l1, iZ_add, iZ_sub, iZ_mul, iZ_neg, lZ_add, lZ_sub, lZ_mul, lZ_neg, z_div, z_ldiv, z_l, z_i, z_lt, z_le, z_eq, z_llt, z_lle, z_leq, z_cgt, z_cge, z_clt, z_cle, z_ceq, z_cl, z_nat, Int.toNat_natCast, mm_I, mm_J, z_cln, z_abs, z_max, z_min, z_lmax, z_lmin, z_sin, Int.cast_ofNat_Int, uI_I, uI_J, uL_I, uL_J, uA_I, uA_J, sI_eq, sI_ne, sL_eq, sL_ne, up_eq, up_ne, uL_eq, uL_ne, z_toInt]) <;> omega)
          have q4 : ¬ I' c (iZ (i : Int)).toNatClampNeg = iZ 18 := by rw [hxr]; ((try simp (disch := omega) only [z_i8, z_i16, z_of, z_ofN, z_lofN, z_0, z_1, z_m1, z_l0, z_l1, iZ_add, iZ_sub, iZ_mul, iZ_neg, lZ_add, lZ_sub, lZ_mul, lZ_neg, z_div, z_ldiv, z_l, z_i, z_lt, z_le, z_eq, z_llt, z_lle, z_leq, z_cgt, z_cge, z_clt, z_cle, z_ceq, z_cl, z_nat, Int.toNat_natCast, mm_I, mm_J, z_cln, z_abs, z_max, z_min, z_lmax, z_lmin, z_sin, Int.cast_ofNat_Int, uI_I, uI_J, uL_I, uL_J, uA_I, uA_J, sI_eq, sI_ne, sL_eq, sL_ne, up_eq, up_ne, uL_eq, uL_ne, z_toInt]) <;> omega)
          have q5 : ¬ I' c (iZ (i : Int)).toNatClampNeg < iZ 100 := by rw [hxr]; ((try simp (disch := omega) only [z_i8, z_i16, z_of, z_ofN, z_lofN, z_0, z_1, z_m1, z_l0, z_l1, iZ_add, iZ_sub, iZ_mul, iZ_neg, lZ_add, lZ_sub, lZ_mul, lZ_neg, z_div, z_ldiv, z_l, z_i, z_lt, z_le, z_eq, z_llt, z_lle, z_leq, z_cgt, z_cge, z_clt, z_cle, z_ceq, z_cl, z_nat, Int.toNat_natCast, mm_I, mm_J, z_cln, z_abs, z_max, z_min, z_lmax, z_lmin, z_sin, Int.cast_ofNat_Int, uI_I, uI_J, uL_I, uL_J, uA_I, uA_J, sI_eq, sI_ne, sL_eq, sL_ne, up_eq, up_ne, uL_eq, uL_ne, z_toInt]) <;> omega)
          have e : (I' c (iZ (i : Int)).toNatClampNeg - iZ 100).toInt64 = lZ (x - 100) := by rw [hxr]; simp (disch := omega) only [z_i8, z_i16, z_of, z_ofN, z_lofN, z_0, z_1, z_m1, z_l0, z_l1, iZ_add, iZ_sub, iZ_mul, iZ_neg, lZ_add, lZ_sub, lZ_mul, lZ_neg, z_div, z_ldiv, z_l, z_i, z_lt, z_le, z_eq, z_llt, z_lle, z_leq, z_cgt, z_cge, z_clt, z_cle, z_ceq, z_cl, z_nat, Int.toNat_natCast, mm_I, mm_J, z_cln, z_abs, z_max, z_min, z_lmax, z_lmin, z_sin, Int.cast_ofNat_Int, uI_I, uI_J, uL_I, uL_J, uA_I, uA_J, sI_eq, sI_ne, sL_eq, sL_ne, up_eq, up_ne, uL_eq, uL_ne, z_toInt]
          rcases id rr with rfl | rfl
          all_goals (
            rcases id hc with rfl | rfl | rfl | rfl | rfl | rfl
            all_goals (
              refine wf (hs := [9]) 60 9 (by decide) ?_
              refine wF q1 (And.intro hin (wF q2 (wt q3 (wF q60 (wF q4 (wF q5 (And.intro hp5 ?_)))))))
              refine wp_keys [0, 1, 2, 3, 4, 5, 6, 7] rfl rfl ?_
              refine ih (i + 1) (_ :: st) I' (setL J' _ (iZ (st.length : Int)).toNatClampNeg _) A' _ _ _ (by omega) ?_ ?_ ?_ ?_ hk ?_ (iZ_add i 1) hQ
              · rw [hcs]; exact put I' J' _ _ hF
              · exact HW_put hB
              · exact SK_putE hS hcs e
              · simp only [List.length_cons]; omega
              · exact iZ_add _ 1))
        · have q2 : I' c (iZ (i : Int)).toNatClampNeg ≤ iZ 18 := by rw [hxr]; ((try simp (disch := omega) only [z_i8, z_i16, z_of, z_ofN, z_lofN, z_0, z_1, z_m1, z_l0, z_l1, iZ_add, iZ_sub, iZ_mul, iZ_neg, lZ_add, lZ_sub, lZ_mul, lZ_neg, z_div, z_ldiv, z_l, z_i, z_lt, z_le, z_eq, z_llt, z_lle, z_leq, z_cgt, z_cge, z_clt, z_cle, z_ceq, z_cl, z_nat, Int.toNat_natCast, mm_I, mm_J, z_cln, z_abs, z_max, z_min, z_lmax, z_lmin, z_sin, Int.cast_ofNat_Int, uI_I, uI_J, uL_I, uL_J, uA_I, uA_J, sI_eq, sI_ne, sL_eq, sL_ne, up_eq, up_ne, uL_eq, uL_ne, z_toInt]) <;> omega)
          have q4 : ¬ I' c (iZ (i : Int)).toNatClampNeg = iZ 18 := by rw [hxr]; ((try simp (disch := omega) only [z_i8, z_i16, z_of, z_ofN, z_lofN, z_0, z_1, z_m1, z_l0, z_l1, iZ_add, iZ_sub, iZ_mul, iZ_neg, lZ_add, lZ_sub, lZ_mul, lZ_neg, z_div, z_ldiv, z_l, z_i, z_lt, z_le, z_eq, z_llt, z_lle, z_leq, z_cgt, z_cge, z_clt, z_cle, z_ceq, z_cl, z_nat, Int.toNat_natCast, mm_I, mm_J, z_cln, z_abs, z_max, z_min, z_lmax, z_lmin, z_sin, Int.cast_ofNat_Int, uI_I, uI_J, uL_I, uL_J, uA_I, uA_J, sI_eq, sI_ne, sL_eq, sL_ne, up_eq, up_ne, uL_eq, uL_ne, z_toInt]) <;> omega)
          have q5 : I' c (iZ (i : Int)).toNatClampNeg < iZ 100 := by rw [hxr]; ((try simp (disch := omega) only [z_i8, z_i16, z_of, z_ofN, z_lofN, z_0, z_1, z_m1, z_l0, z_l1, iZ_add, iZ_sub, iZ_mul, iZ_neg, lZ_add, lZ_sub, lZ_mul, lZ_neg, z_div, z_ldiv, z_l, z_i, z_lt, z_le, z_eq, z_llt, z_lle, z_leq, z_cgt, z_cge, z_clt, z_cle, z_ceq, z_cl, z_nat, Int.toNat_natCast, mm_I, mm_J, z_cln, z_abs, z_max, z_min, z_lmax, z_lmin, z_sin, Int.cast_ofNat_Int, uI_I, uI_J, uL_I, uL_J, uA_I, uA_J, sI_eq, sI_ne, sL_eq, sL_ne, up_eq, up_ne, uL_eq, uL_ne, z_toInt]) <;> omega)
          have hx17 : 0 ≤ x ∧ x ≤ 17 := by omega
          rcases id rr with rfl | rfl
          all_goals (
            rcases id hc with rfl | rfl | rfl | rfl | rfl | rfl
            all_goals (
              refine wf (hs := [9]) 60 9 (by decide) ?_
              refine wF q1 (And.intro hin (wt q2 (wF q60 (wF q4 (wt q5 ?_)))))
              refine And.intro rfl (c_worth hb (hRs I' J' hF) hW (x := x) hx17 hxr (And.intro hp5 ?_))
              refine wp_keys [0, 1, 2, 3, 4, 5, 6, 7] rfl rfl ?_
              refine ih (i + 1) (_ :: st) I' (setL J' _ (iZ (st.length : Int)).toNatClampNeg _) A' _ _ _ (by omega) ?_ ?_ ?_ ?_ hk ?_ (iZ_add i 1) hQ
              · rw [hcs]; exact put I' J' _ _ hF
              · exact HW_put hB
              · rw [hcs]; exact SK_put hS
              · simp only [List.length_cons]; omega
              · exact iZ_add _ 1))
    · cases st with
      | nil => simp at hk1
      | cons a s =>
        rw [hev ((1 - a) :: s) (by unfold stpL; rw [if_pos (by omega), if_pos hw])] at hQ
        rw [hw] at hx
        obtain ⟨hS1, ha⟩ := SK_tl hS
        simp only [List.length_cons] at hl hk hcs
        have hcm : (iZ ((s.length + 1 : Nat) : Int) - iZ 1).toNatClampNeg = s.length := by
          rw [iZ_sub, show ((s.length + 1 : Nat) : Int) - 1 = (s.length : Int) by omega]
          exact z_cln (by omega)
        have hp5 : vp_in (iZ ((s.length + 1 : Nat) : Int) - iZ 1) 60 := by
          rw [iZ_sub]; exact z_in (by omega) (by omega) (by omega)
        have hxr : I' c (iZ (i : Int)).toNatClampNeg = iZ 26 := by rw [hcl]; exact hx
        have q2 : ¬ I' c (iZ (i : Int)).toNatClampNeg ≤ iZ 18 := by rw [hxr]; decide
        have q3 : ¬ iZ 100 ≤ I' c (iZ (i : Int)).toNatClampNeg := by rw [hxr]; decide
        have q5 : ¬ iZ ((s.length + 1 : Nat) : Int) ≤ iZ 0 := by ((try simp (disch := omega) only [z_i8, z_i16, z_of, z_ofN, z_lofN, z_0, z_1, z_m1, z_l0, z_l1, iZ_add, iZ_sub, iZ_mul, iZ_neg, lZ_add, lZ_sub, lZ_mul, lZ_neg, z_div, z_ldiv, z_l, z_i, z_lt, z_le, z_eq, z_llt, z_lle, z_leq, z_cgt, z_cge, z_clt, z_cle, z_ceq, z_cl, z_nat, Int.toNat_natCast, mm_I, mm_J, z_cln, z_abs, z_max, z_min, z_lmax, z_lmin, z_sin, Int.cast_ofNat_Int, uI_I, uI_J, uL_I, uL_J, uA_I, uA_J, sI_eq, sI_ne, sL_eq, sL_ne, up_eq, up_ne, uL_eq, uL_ne, z_toInt]) <;> omega)
        rcases id rr with rfl | rfl
        all_goals (
          rcases id hc with rfl | rfl | rfl | rfl | rfl | rfl
          all_goals (
            refine wf (hs := [9]) 60 9 (by decide) ?_
            refine wF q1 (And.intro hin (wF q2 (wF q3 (wt hxr (wF q5 (And.intro hp5 (And.intro hp5 ?_)))))))
            refine wp_keys [0, 1, 2, 3, 4, 5, 6, 7] rfl rfl ?_
            refine ih (i + 1) ((1 - a) :: s) I' (setL J' _ (iZ ((s.length + 1 : Nat) : Int) - iZ 1).toNatClampNeg _) A' _ _ _ (by omega) ?_ ?_ ?_ ?_ hk rfl (iZ_add i 1) hQ
            · rw [hcm]; exact put I' J' _ _ hF
            · exact HW_put hB
            · exact SK_putE hS1 hcm (congrArg (fun z => 1 - z) ((congrArg (J' _) hcm).trans ha))
            · simp only [List.length_cons]; omega))
    · match st, hS, hl, hk2, hk, hcs, hev with
      | [], _, _, hk2, _, _, _ => simp at hk2
      | [_], _, _, hk2, _, _, _ => simp at hk2
      | b2 :: a :: s, hS, hl, hk2, hk, hcs, hev =>
        rw [hev (jnL (vI I c i) a b2 :: s) (by unfold stpL; rw [if_pos (by omega), if_neg hw.2.2])] at hQ
        obtain ⟨hS1, hb2⟩ := SK_tl hS
        obtain ⟨hS2, ha⟩ := SK_tl hS1
        simp only [List.length_cons] at hl hk hcs hb2
        have hc1 : (iZ ((s.length + 1 + 1 : Nat) : Int) + iZ (-1)).toNatClampNeg = s.length + 1 := by
          rw [iZ_add, show ((s.length + 1 + 1 : Nat) : Int) + -1 = ((s.length + 1 : Nat) : Int) by omega]
          exact z_cln (by omega)
        have hc2 : (iZ ((s.length + 1 + 1 : Nat) : Int) + iZ (-1) - iZ 1).toNatClampNeg = s.length := by
          rw [iZ_add, iZ_sub, show ((s.length + 1 + 1 : Nat) : Int) + -1 - 1 = (s.length : Int) by omega]
          exact z_cln (by omega)
        have hp1 : vp_in (iZ ((s.length + 1 + 1 : Nat) : Int) + iZ (-1)) 60 := by
          rw [iZ_add]; exact z_in (by omega) (by omega) (by omega)
        have hp2 : vp_in (iZ ((s.length + 1 + 1 : Nat) : Int) + iZ (-1) - iZ 1) 60 := by
          rw [iZ_add, iZ_sub]; exact z_in (by omega) (by omega) (by omega)
        generalize hxx : vI I c i = x at hw hx hQ
        have hxr : I' c (iZ (i : Int)).toNatClampNeg = iZ x := by rw [hcl]; exact hx
        have q2 : ¬ I' c (iZ (i : Int)).toNatClampNeg ≤ iZ 18 := by rw [hxr]; ((try simp (disch := omega) only [z_i8, z_i16, z_of, z_ofN, z_lofN, z_0, z_1, z_m1, z_l0, z_l1, iZ_add, iZ_sub, iZ_mul, iZ_neg, lZ_add, lZ_sub, lZ_mul, lZ_neg, z_div, z_ldiv, z_l, z_i, z_lt, z_le, z_eq, z_llt, z_lle, z_leq, z_cgt, z_cge, z_clt, z_cle, z_ceq, z_cl, z_nat, Int.toNat_natCast, mm_I, mm_J, z_cln, z_abs, z_max, z_min, z_lmax, z_lmin, z_sin, Int.cast_ofNat_Int, uI_I, uI_J, uL_I, uL_J, uA_I, uA_J, sI_eq, sI_ne, sL_eq, sL_ne, up_eq, up_ne, uL_eq, uL_ne, z_toInt]) <;> omega)
        have q3 : ¬ iZ 100 ≤ I' c (iZ (i : Int)).toNatClampNeg := by rw [hxr]; ((try simp (disch := omega) only [z_i8, z_i16, z_of, z_ofN, z_lofN, z_0, z_1, z_m1, z_l0, z_l1, iZ_add, iZ_sub, iZ_mul, iZ_neg, lZ_add, lZ_sub, lZ_mul, lZ_neg, z_div, z_ldiv, z_l, z_i, z_lt, z_le, z_eq, z_llt, z_lle, z_leq, z_cgt, z_cge, z_clt, z_cle, z_ceq, z_cl, z_nat, Int.toNat_natCast, mm_I, mm_J, z_cln, z_abs, z_max, z_min, z_lmax, z_lmin, z_sin, Int.cast_ofNat_Int, uI_I, uI_J, uL_I, uL_J, uA_I, uA_J, sI_eq, sI_ne, sL_eq, sL_ne, up_eq, up_ne, uL_eq, uL_ne, z_toInt]) <;> omega)
        have q4 : ¬ I' c (iZ (i : Int)).toNatClampNeg = iZ 26 := by rw [hxr]; ((try simp (disch := omega) only [z_i8, z_i16, z_of, z_ofN, z_lofN, z_0, z_1, z_m1, z_l0, z_l1, iZ_add, iZ_sub, iZ_mul, iZ_neg, lZ_add, lZ_sub, lZ_mul, lZ_neg, z_div, z_ldiv, z_l, z_i, z_lt, z_le, z_eq, z_llt, z_lle, z_leq, z_cgt, z_cge, z_clt, z_cle, z_ceq, z_cl, z_nat, Int.toNat_natCast, mm_I, mm_J, z_cln, z_abs, z_max, z_min, z_lmax, z_lmin, z_sin, Int.cast_ofNat_Int, uI_I, uI_J, uL_I, uL_J, uA_I, uA_J, sI_eq, sI_ne, sL_eq, sL_ne, up_eq, up_ne, uL_eq, uL_ne, z_toInt]) <;> omega)
        have q5 : ¬ iZ ((s.length + 1 + 1 : Nat) : Int) ≤ iZ 1 := by ((try simp (disch := omega) only [z_i8, z_i16, z_of, z_ofN, z_lofN, z_0, z_1, z_m1, z_l0, z_l1, iZ_add, iZ_sub, iZ_mul, iZ_neg, lZ_add, lZ_sub, lZ_mul, lZ_neg, z_div, z_ldiv, z_l, z_i, z_lt, z_le, z_eq, z_llt, z_lle, z_leq, z_cgt, z_cge, z_clt, z_cle, z_ceq, z_cl, z_nat, Int.toNat_natCast, mm_I, mm_J, z_cln, z_abs, z_max, z_min, z_lmax, z_lmin, z_sin, Int.cast_ofNat_Int, uI_I, uI_J, uL_I, uL_J, uA_I, uA_J, sI_eq, sI_ne, sL_eq, sL_ne, up_eq, up_ne, uL_eq, uL_ne, z_toInt]) <;> omega)
        rcases id rr with rfl | rfl
        all_goals (
          rcases id hc with rfl | rfl | rfl | rfl | rfl | rfl
          all_goals (
            refine wf (hs := [9]) 60 9 (by decide) ?_
            refine wF q1 (And.intro hin (wF q2 (wF q3 (wF q4 (wF q5 (And.intro hp2 (And.intro hp1 ?_)))))))
            refine And.intro rfl (c_joined hw hxr (And.intro hp2 ?_))
            refine wp_keys [0, 1, 2, 3, 4, 5, 6, 7] rfl rfl ?_
            refine ih (i + 1) (jnL x a b2 :: s) I' (setL J' _ (iZ ((s.length + 1 + 1 : Nat) : Int) + iZ (-1) - iZ 1).toNatClampNeg _) A' _ _ _ (by omega) ?_ ?_ ?_ ?_ hk ?_ (iZ_add i 1) hQ
            · rw [hc2]; exact put I' J' _ _ hF
            · exact HW_put hB
            · exact SK_putE hS2 hc2 (congr (congrArg (jnL x) ((congrArg (J' _) hc2).trans ha)) ((congrArg (J' _) hc1).trans hb2))
            · simp only [List.length_cons]; omega
            · simp only [List.length_cons]
              rw [show ((s.length + 1 : Nat) : Int) = ((s.length + 1 + 1 : Nat) : Int) + -1 by omega]
              exact iZ_add _ _))
theorem c_compute {ρ c fr to : Nat} {x y : Int32} (hr : RhS ρ b) (hc : PC c) (hR : RS I J b v) (hW : Wf v) (hto : to ≤ 400) (hle : fr ≤ to) (hok : okN (vI I c) (to - fr) fr 0) (ex : x = iZ fr) (ey : y = iZ to) (hQ : ∀ I' J' A', FR ρ (ρ + 6) I J I' J' → Q (some (.long ((evN (fun x => lZ (wrdZ v x)) (vI I c) (to - fr) fr []).headD 0))) (mm I' J' A')) : wpC E (d + 3) 62 [.ref ρ, .ref b, .ref c, .int x, .int y] (mm I J A) Q := by
  subst ex; subst ey
  refine wc (hs := [9]) 20 (by decide) ?_
  refine wp_keys [0, 1, 2, 3, 4, 5, 6, 7] rfl rfl ?_
  exact c_computeL hr hc hR hW hto (to - fr) fr [] I J A _ _ _ (by omega) FR_refl (Or.inl rfl) SK_nil (by simp) hok rfl rfl hQ
theorem c_applies {ρ π i : Nat} {x : Int32} (hr : RhS ρ b) (hp : PP π) (hR : RS I J b v) (hW : Wf v) (hi : i < 12) (hg : WfGi (plV I π) i) (ex : x = iZ i) (h1 : tstZ (plV I π) v i → ∀ I' J' A', FR ρ (ρ + 6) I J I' J' → Q (some (.int 1)) (mm I' J' A')) (h0 : ¬ tstZ (plV I π) v i → ∀ I' J' A', FR ρ (ρ + 6) I J I' J' → Q (some (.int 0)) (mm I' J' A')) : wpC E (d + 4) 60 [.ref ρ, .ref b, .ref π, .int x] (mm I J A) Q := by
  have hcl : (iZ (i : Int)).toNatClampNeg = i := z_cln (by omega)
  have hin : vp_in (iZ (i : Int)) 12 := z_in (by omega) (by omega) (by omega)
  have g6 : I (π + 6) i = iZ (plV I π 6 i) := vI_eq I _ _
  have g7 : I (π + 7) i = iZ (plV I π 7 i) := vI_eq I _ _
  have hC := PP_PC hp
  have rr : ρ = 240 ∨ ρ = 255 := by unfold RhS at hr; omega
  obtain ⟨k1, k2, k3, k4, k5, k6, k7, k8⟩ := hg
  subst ex
  have cc : ¬ plV I π 6 i = plV I π 7 i → ∀ (Q' : Option Value → am_M → Prop), (∀ I' J' A', FR ρ (ρ + 6) I J I' J' → Q' (some (.long (segL (plV I π) v (plV I π 6 i) (plV I π 7 i)))) (mm I' J' A')) → wpC E (d + 3) 62 [.ref ρ, .ref b, .ref (π + 8), .int (I (π + 6) (iZ (i : Int)).toNatClampNeg), .int (I (π + 7) (iZ (i : Int)).toNatClampNeg)] (mm I J A) Q' := by
    intro hne Q' hQ'
    refine c_compute (fr := (plV I π 6 i).toNat) (to := (plV I π 7 i).toNat) hr hC hR hW (by omega) (by omega) (k8 hne) ?_ ?_ hQ'
    · rw [hcl, g6]; congr 1; omega
    · rw [hcl, g7]; congr 1; omega
  generalize hs : segL (plV I π) v (plV I π 6 i) (plV I π 7 i) = s at cc
  have h1' : (plV I π 6 i = plV I π 7 i ∨ ¬ s = 0) → ∀ I' J' A', FR ρ (ρ + 6) I J I' J' → Q (some (.int 1)) (mm I' J' A') := fun h => h1 (by unfold tstZ; rw [hs]; exact h)
  have h0' : ¬ (plV I π 6 i = plV I π 7 i ∨ ¬ s = 0) → ∀ I' J' A', FR ρ (ρ + 6) I J I' J' → Q (some (.int 0)) (mm I' J' A') := fun h => h0 (by unfold tstZ; rw [hs]; exact h)
  generalize plV I π 6 i = p6 at g6 cc h1' h0' k6
  generalize plV I π 7 i = p7 at g7 cc h1' h0' k6
  rcases id hp with rfl | rfl | rfl | rfl | rfl | rfl
  all_goals (
    simp only [Nat.reduceAdd] at g6 g7
    rcases id rr with rfl | rfl
    all_goals (
      refine wc (hs := []) 40 (by decide) ?_
      refine And.intro hin (And.intro hin (And.intro (fun q => ?_) (fun q => ?_)))
      · simp (disch := omega) only [z_i8, z_i16, z_of, z_ofN, z_lofN, z_0, z_1, z_m1, z_l0, z_l1, iZ_add, iZ_sub, iZ_mul, iZ_neg, lZ_add, lZ_sub, lZ_mul, lZ_neg, z_div, z_ldiv, z_l, z_i, z_lt, z_le, z_eq, z_llt, z_lle, z_leq, z_cgt, z_cge, z_clt, z_cle, z_ceq, z_cl, z_nat, Int.toNat_natCast, mm_I, mm_J, z_cln, z_abs, z_max, z_min, z_lmax, z_lmin, z_sin, Int.cast_ofNat_Int, uI_I, uI_J, uL_I, uL_J, uA_I, uA_J, sI_eq, sI_ne, sL_eq, sL_ne, up_eq, up_ne, uL_eq, uL_ne, z_toInt, g6, g7] at q
        exact And.intro rfl (h1' (Or.inl q) I J A FR_refl)
      · simp (disch := omega) only [z_i8, z_i16, z_of, z_ofN, z_lofN, z_0, z_1, z_m1, z_l0, z_l1, iZ_add, iZ_sub, iZ_mul, iZ_neg, lZ_add, lZ_sub, lZ_mul, lZ_neg, z_div, z_ldiv, z_l, z_i, z_lt, z_le, z_eq, z_llt, z_lle, z_leq, z_cgt, z_cge, z_clt, z_cle, z_ceq, z_cl, z_nat, Int.toNat_natCast, mm_I, mm_J, z_cln, z_abs, z_max, z_min, z_lmax, z_lmin, z_sin, Int.cast_ofNat_Int, uI_I, uI_J, uL_I, uL_J, uA_I, uA_J, sI_eq, sI_ne, sL_eq, sL_ne, up_eq, up_ne, uL_eq, uL_ne, z_toInt, g6, g7] at q
        refine And.intro rfl (cc q _ (fun I' J' A' hF => ?_))
        refine And.intro (fun q2 => ?_) (fun q2 => ?_)
        · have q2 : s = 0 := (lg_cmp_eq _ _).mp q2
          exact And.intro rfl (h0' (by rintro (h | h); exact q h; exact h q2) I' J' A' hF)
        · have q2 : ¬ s = 0 := fun r => q2 ((lg_cmp_eq _ _).mpr r)
          exact And.intro rfl (h1' (Or.inr q2) I' J' A' hF)))
end C10
