/-! ===== the reference reads sums, comparisons ===== -/
section MSUM
variable {E : Nat × (Nat → Int32)} {d : Nat} {I I0 I1 : Nat → Nat → Int32} {J : Nat → Nat → Int64} {A : Nat → Option Nat} {Q : Option Value → am_M → Prop} {M : am_M} {T : Nat → Int} {t r q : Nat} {f c : Int} {L : List Int} {s : pS}
theorem f_ne {f' c' : Int} {L' : List Int} {q' : Nat} (h : MX I0 I r q' f' c' L') (hf : f' ≠ 0) : ¬ I 265 29 = 0 := by
  rw [h.2.1]
  have := h.2.2.2.2.2.2
  show ¬ iZ f' = iZ 0
  ((try simp (disch := omega) only [z_i8, z_i16, z_of, z_ofN, z_lofN, z_0, z_1, z_m1, z_l0, z_l1, iZ_add, iZ_sub, iZ_mul, iZ_neg, lZ_add, lZ_sub, lZ_mul, lZ_neg, z_div, z_ldiv, z_l, z_i, z_lt, z_le, z_eq, z_llt, z_lle, z_leq, z_cgt, z_cge, z_clt, z_cle, z_ceq, z_cl, z_nat, Int.toNat_natCast, mm_I, mm_J, z_cln, z_abs, z_max, z_min, z_lmax, z_lmin, z_sin, Int.cast_ofNat_Int, uI_I, uI_J, uL_I, uL_J, uA_I, uA_J, sI_eq, sI_ne, sL_eq, sL_ne, up_eq, up_ne, uL_eq, uL_ne, z_toInt, Int.reduceToNat]) <;> omega)
theorem m_sum (hT : TM I0 T t) (hr : r < 6) (h30 : I0 265 30 = iZ r) (h36 : I0 265 36 = iZ 19) (h : MX I0 I r q f c L) (hq : q ≤ 500) (hi : INx T t q f c L s) (hQ : ∀ I' q' f' c' L', MX I0 I' r q' f' c' L' → PRy t f (sumZ T t s) q' f' c' L' → Q none (mm I' J A)) : wpC E (d + 7) 202 [.ref 265] (mm I J A) Q := by
  have t4 := hT.1
  have hb := fun i hi => (hT.2.2 i hi).1
  have X : ∀ I' q' f' c' L', MX I0 I' r q' f' c' L' → q' ≤ 500 → f' ≠ 0 → (f ≠ 0 → f' = f) → (f = 0 → sumZ T t s = .error f') → wp E (d + 7) 202 4 [(0, .ref 265)] [] (mm I' J A) Q := fun I' q' f' c' L' h' hq' hf' p1 p2 => by
    refine wf (hs := []) 20 4 (by decide) (wF (f_ne h' hf') (hQ I' q' f' c' L' h' ⟨hq', p1, fun w => ?_⟩))
    rw [p2 w]
    exact ⟨rfl, hf'⟩
  have Lp : f = 0 → ∀ (n : Nat) (s1 : pS) (I' : Nat → Nat → Int32), 401 ≤ s1.1 + n → MX I0 I' r s1.1 0 (s1.2.1 : Nat) s1.2.2 → s1.1 ≤ t → GBk t 3 s1 → smL T t n s1 = sumZ T t s → wp E (d + 7) 202 4 [(0, .ref 265)] [] (mm I' J A) Q := by
    intro f0 n
    induction n with
    | zero => intro s1 I' hn h' ht' _ _; omega
    | succ n ih =>
      intro s1 I' hn h' ht' hg he
      have c0 : I' 265 29 = 0 := by rw [h'.2.1]; rfl
      have hTI := MX_TM hT h'
      have sr := sgA_rng (p := s1.1) hTI
      unfold smL at he
      have SG : (tkZ T t s1.1 = 27 ∨ tkZ T t s1.1 = 28) → ∀ x1 : Int32, x1 = iZ (smp (tkZ T t s1.1)) → wp E (d + 7) 202 44 [(0, .ref 265), (1, .int x1)] [] (mm I' J A) Q := fun g x1 e1 => by
        rw [if_pos g] at he
        have pt := tk_lt (T := T) (t := t) (p := s1.1) (by omega)
        have en : enZ T t s1.1 = s1.1 + 1 := by rw [en_sign (by omega), if_neg (by omega)]
        have h2 := MX_up h'
        have gs : GBk t 3 (stp1 T t s1) := ⟨(nx_b pt).2, hg.2.1, by
          have := hg.2.2
          have := (nx_b (T := T) pt).1
          show 3 * (s1.2.2.length : Int) + 3 ≤ 6 * (s1.2.1 : Int) + (nxZ T t s1.1 : Int)
          omega⟩
        have in2 : INx T t (s1.1 + 1) 0 (s1.2.1 : Nat) s1.2.2 (stp1 T t s1) := fun _ => ⟨by omega, by show skp T t (s1.1 + 1) = nxZ T t s1.1; unfold nxZ; rw [en], rfl, rfl, ⟨gs.1, gs.2.1, by have := gs.2.2; omega⟩⟩
        refine wf (hs := [4]) 60 44 (by decide) (And.intro rfl (m_term (d := d) hT hr h30 h36 h2 (by omega) in2 (fun I3 q3 f3 c3 L3 h3 p3 => ?_)))
        have l3 : f3 = 0 → L3.length < 300 := fun w => by
          have := p3.2.2 rfl
          cases hv : trm T t (stp1 T t s1) with
          | error e => rw [hv] at this; omega
          | ok s2 =>
            rw [hv] at this
            rw [this.2.2.2.2]
            exact GB_l300 t4 (by omega) (GB_PP gs (trm_ok hb hv))
        refine And.intro rfl (m_entry (a := smp (tkZ T t s1.1)) (b := 0) (x := tkZ T t s1.1) hr h3 h30 l3 (fun _ => by unfold ENT; omega) (by unfold smp; rcases g with g | g <;> rw [g] <;> decide) (by omega) e1 rfl (fun I4 h4 => ?_))
        refine wp_keys [0] rfl rfl ?_
        cases hv : trm T t (stp1 T t s1) with
        | error e =>
          have p33 := p3.2.2 rfl
          rw [hv] at p33 he
          have he : (.error e : pR) = sumZ T t s := he
          exact X _ _ _ _ _ h4 p3.1 (by omega) (fun w => absurd f0 w) (fun _ => by rw [← he, p33.1])
        | ok s2 =>
          have p33 := p3.2.2 rfl
          rw [hv] at p33 he
          have he : smL T t n (apL (tkZ T t s1.1) s2) = sumZ T t s := he
          obtain ⟨w1, w2, w3, w4, w5⟩ := p33
          subst w1
          rw [if_pos rfl, w5, w4, w3] at h4
          have pp := trm_ok hb hv
          have p21 : nxZ T t s1.1 < s2.1 := pp.1.1
          have g2 := GB_PP gs pp
          have nb := (nx_b (T := T) pt).1
          refine ih (apL (tkZ T t s1.1) s2) _ (by show 401 ≤ s2.1 + n; omega) h4 pp.1.2 ⟨pp.1.2, pp.2.1.2, ?_⟩ he
          have := g2.2.2
          show 3 * (((s2.2.2 ++ [tkZ T t s1.1]).length : Nat) : Int) + 3 ≤ 6 * (s2.2.1 : Int) + (s2.1 : Int)
          rw [List.length_append]
          have l1 : [tkZ T t s1.1].length = 1 := rfl
          omega
      refine wf (hs := [29, 67]) 60 4 (by decide) (wt c0 (And.intro rfl (m_sign hTI h'.1 (by omega) ?_)))
      have B33 : (tkZ T t s1.1 = 27 ∨ tkZ T t s1.1 = 28) → wp E (d + 7) 202 29 [(0, .ref 265)] [] (mm I' J A) Q := fun g => by
        refine wf (hs := [43]) 40 29 (by decide) (And.intro rfl (m_sign hTI h'.1 (by omega) ?_))
        by_cases w : tkZ T t s1.1 = 27
        · rw [sg27.mpr w]
          refine wt rfl ?_
          have S := SG g (iZ 2) (by rw [w]; rfl)
          refine wf (hs := [44]) 10 43 (by decide) ?_
          refine wp_keys [0, 1] rfl rfl ?_
          exact S
        · have w30 : tkZ T t s1.1 = 28 := by omega
          rw [sg28.mpr w30]
          refine wF (by decide) ?_
          have S := SG g (iZ 3) (by rw [w30]; rfl)
          refine wf (hs := [44]) 10 43 (by decide) ?_
          refine wp_keys [0, 1] rfl rfl ?_
          exact S
      by_cases w : tkZ T t s1.1 = 27
      · rw [sg27.mpr w]
        exact wt rfl (B33 (Or.inl w))
      · have n42 : ¬ sgA T t s1.1 = 43 := fun y => w (sg27.mp y)
        have n1 : ¬ iZ (sgA T t s1.1) = iZ 43 := by ((try simp (disch := omega) only [z_i8, z_i16, z_of, z_ofN, z_lofN, z_0, z_1, z_m1, z_l0, z_l1, iZ_add, iZ_sub, iZ_mul, iZ_neg, lZ_add, lZ_sub, lZ_mul, lZ_neg, z_div, z_ldiv, z_l, z_i, z_lt, z_le, z_eq, z_llt, z_lle, z_leq, z_cgt, z_cge, z_clt, z_cle, z_ceq, z_cl, z_nat, Int.toNat_natCast, mm_I, mm_J, z_cln, z_abs, z_max, z_min, z_lmax, z_lmin, z_sin, Int.cast_ofNat_Int, uI_I, uI_J, uL_I, uL_J, uA_I, uA_J, sI_eq, sI_ne, sL_eq, sL_ne, up_eq, up_ne, uL_eq, uL_ne, z_toInt, Int.reduceToNat]) <;> omega)
        refine wF n1 (And.intro rfl (m_sign hTI h'.1 (by omega) ?_))
        by_cases w2 : tkZ T t s1.1 = 28
        · rw [sg28.mpr w2]
          exact wt rfl (B33 (Or.inr w2))
        · have n47 : ¬ sgA T t s1.1 = 45 := fun y => w2 (sg28.mp y)
          have n2 : ¬ iZ (sgA T t s1.1) = iZ 45 := by ((try simp (disch := omega) only [z_i8, z_i16, z_of, z_ofN, z_lofN, z_0, z_1, z_m1, z_l0, z_l1, iZ_add, iZ_sub, iZ_mul, iZ_neg, lZ_add, lZ_sub, lZ_mul, lZ_neg, z_div, z_ldiv, z_l, z_i, z_lt, z_le, z_eq, z_llt, z_lle, z_leq, z_cgt, z_cge, z_clt, z_cle, z_ceq, z_cl, z_nat, Int.toNat_natCast, mm_I, mm_J, z_cln, z_abs, z_max, z_min, z_lmax, z_lmin, z_sin, Int.cast_ofNat_Int, uI_I, uI_J, uL_I, uL_J, uA_I, uA_J, sI_eq, sI_ne, sL_eq, sL_ne, up_eq, up_ne, uL_eq, uL_ne, z_toInt, Int.reduceToNat]) <;> omega)
          rw [if_neg (by omega)] at he
          refine wF n2 (wf (hs := []) 10 67 (by decide) (hQ I' s1.1 0 _ _ h' ⟨by omega, fun y => absurd f0 y, fun _ => ?_⟩))
          rw [← he]
          exact ⟨rfl, ht', rfl, rfl, rfl⟩
  refine wc (hs := [4]) 20 (by decide) (And.intro rfl (m_term (d := d) hT hr h30 h36 h hq hi (fun I1 q1 f1 c1 L1 h1 p1 => ?_)))
  refine wp_keys [0] rfl rfl ?_
  by_cases f0 : f = 0
  · have p13 := p1.2.2 f0
    cases hv : trm T t s with
    | error e =>
      rw [hv] at p13
      exact X _ _ _ _ _ h1 p1.1 (by omega) (fun w => absurd f0 w) (fun _ => by unfold sumZ; rw [hv, p13.1]; rfl)
    | ok s1 =>
      rw [hv] at p13
      obtain ⟨w1, w2, w3, w4, w5⟩ := p13
      subst w1
      rw [w4, w5, w3] at h1
      have pp := trm_ok hb hv
      exact Lp f0 401 s1 _ (by omega) h1 pp.1.2 (GB_PP (hi f0).2.2.2.2 pp) (by unfold sumZ; rw [hv]; rfl)
  · have e1 := p1.2.1 f0
    subst e1
    exact X _ _ _ _ _ h1 p1.1 f0 (fun _ => rfl) (fun w => absurd w f0)
theorem tk_cmp {p : Nat} (h : 31 ≤ tkZ T t p ∧ tkZ T t p ≤ 35) : (sgA T t p = 60 ∧ tkZ T t p = (if eqB T t p then 32 else 31)) ∨ (sgA T t p = 61 ∧ tkZ T t p = 33) ∨ (sgA T t p = 62 ∧ tkZ T t p = (if eqB T t p then 34 else 35)) := by
  have pt := tk_lt (T := T) (t := t) (p := p) (by omega)
  have sg : sgA T t p = T p := by unfold sgA; rw [if_pos pt]
  rw [sg]
  have tk0 : tkZ T t p = if 48 ≤ T p ∧ T p ≤ 57 then 39 else if 97 ≤ T p ∧ T p ≤ 122 then wdZ T p (rex T t 97 122 p) else sgn (T p) (eqB T t p) := by
    unfold tkZ
    rw [if_neg (by omega)]
  by_cases w1 : 48 ≤ T p ∧ T p ≤ 57
  · rw [if_pos w1] at tk0; omega
  · rw [if_neg w1] at tk0
    by_cases w2 : 97 ≤ T p ∧ T p ≤ 122
    · rw [if_pos w2] at tk0
      have := wd_rng (T := T) (p := p) (e := rex T t 97 122 p) w2.1
      omega
    · rw [if_neg w2] at tk0
      rw [tk0] at h ⊢
      revert h
      unfold sgn
      cases eqB T t p <;> simp only [if_true, Bool.false_eq_true, if_false] <;> (repeat' split) <;> omega
theorem cmp_tk {p : Nat} (h : sgA T t p = 60 ∨ sgA T t p = 61 ∨ sgA T t p = 62) : 31 ≤ tkZ T t p ∧ tkZ T t p ≤ 35 := by
  unfold sgA at h
  by_cases pt : p < t
  · rw [if_pos pt] at h
    unfold tkZ
    rw [if_neg (by omega), if_neg (by omega), if_neg (by omega)]
    unfold sgn
    cases eqB T t p <;> simp only [if_true, Bool.false_eq_true, if_false] <;> (repeat' split) <;> omega
  · rw [if_neg pt] at h; omega
end MSUM
