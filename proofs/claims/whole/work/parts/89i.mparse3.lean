/-! ===== the reference reads terms, sums, comparisons ===== -/
def PRy (t : Nat) (f : Int) (res : pR) (q' : Nat) (f' c' : Int) (L' : List Int) : Prop := q' ≤ 500 ∧ (f ≠ 0 → f' = f) ∧ (f = 0 → match res with
  | .ok s' => f' = 0 ∧ q' ≤ t ∧ q' = s'.1 ∧ c' = (s'.2.1 : Nat) ∧ L' = s'.2.2
  | .error e => f' = e ∧ e ≠ 0)
section MTERM
variable {E : Nat × (Nat → Int32)} {d : Nat} {I I0 I1 : Nat → Nat → Int32} {J : Nat → Nat → Int64} {A : Nat → Option Nat} {Q : Option Value → am_M → Prop} {M : am_M} {T : Nat → Int} {t r q : Nat} {f c : Int} {L : List Int} {s : pS}
theorem sg_tk {a b : Int} {p : Nat} (hc : ¬ (48 ≤ a ∧ a ≤ 57) ∧ ¬ (97 ≤ a ∧ a ≤ 122) ∧ a ≠ -1) (hs : ∀ x e, sgn x e = b ↔ x = a) (hb : 27 ≤ b ∧ b ≤ 38) : sgA T t p = a ↔ tkZ T t p = b := by
  constructor
  · intro h
    unfold sgA at h
    by_cases w : p < t
    · rw [if_pos w] at h
      unfold tkZ
      rw [if_neg (by omega), if_neg (by omega), if_neg (by omega)]
      exact (hs _ _).mpr h
    · rw [if_neg w] at h; omega
  · intro h
    have pt := tk_lt (T := T) (t := t) (p := p) (by omega)
    unfold sgA
    rw [if_pos pt]
    unfold tkZ at h
    rw [if_neg (by omega)] at h
    by_cases w1 : 48 ≤ T p ∧ T p ≤ 57
    · rw [if_pos w1] at h; omega
    · rw [if_neg w1] at h
      by_cases w2 : 97 ≤ T p ∧ T p ≤ 122
      · rw [if_pos w2] at h
        have := wd_rng (T := T) (p := p) (e := rex T t 97 122 p) w2.1
        omega
      · rw [if_neg w2] at h
        exact (hs _ _).mp h
theorem sg29 {p : Nat} : sgA T t p = 42 ↔ tkZ T t p = 29 := sg_tk (by omega) (fun x e => by unfold sgn; cases e <;> (repeat' split) <;> omega) (by omega)
theorem sg30 {p : Nat} : sgA T t p = 47 ↔ tkZ T t p = 30 := sg_tk (by omega) (fun x e => by unfold sgn; cases e <;> (repeat' split) <;> omega) (by omega)
theorem sg27 {p : Nat} : sgA T t p = 43 ↔ tkZ T t p = 27 := sg_tk (by omega) (fun x e => by unfold sgn; cases e <;> (repeat' split) <;> omega) (by omega)
theorem sg28 {p : Nat} : sgA T t p = 45 ↔ tkZ T t p = 28 := sg_tk (by omega) (fun x e => by unfold sgn; cases e <;> (repeat' split) <;> omega) (by omega)
theorem sg33 {p : Nat} : sgA T t p = 61 ↔ tkZ T t p = 33 := sg_tk (by omega) (fun x e => by unfold sgn; cases e <;> (repeat' split) <;> omega) (by omega)
theorem sg36 {p : Nat} : sgA T t p = 59 ↔ tkZ T t p = 36 := sg_tk (by omega) (fun x e => by unfold sgn; cases e <;> (repeat' split) <;> omega) (by omega)
theorem sg37 {p : Nat} : sgA T t p = 91 ↔ tkZ T t p = 37 := sg_tk (by omega) (fun x e => by unfold sgn; cases e <;> (repeat' split) <;> omega) (by omega)
theorem sg38 {p : Nat} : sgA T t p = 93 ↔ tkZ T t p = 38 := sg_tk (by omega) (fun x e => by unfold sgn; cases e <;> (repeat' split) <;> omega) (by omega)
theorem en_sign {p : Nat} (h : 27 ≤ tkZ T t p ∧ tkZ T t p ≤ 38) : enZ T t p = if tkZ T t p = 32 ∨ tkZ T t p = 34 then p + 2 else p + 1 := by
  have pt := tk_lt (T := T) (t := t) (p := p) (by omega)
  unfold enZ
  by_cases w1 : 48 ≤ T p ∧ T p ≤ 57
  · have := tk39.mpr ⟨pt, w1⟩; omega
  · rw [if_neg w1]
    by_cases w2 : 97 ≤ T p ∧ T p ≤ 122
    · exfalso
      have tk : tkZ T t p = wdZ T p (rex T t 97 122 p) := by
        unfold tkZ
        rw [if_neg (by omega), if_neg w1, if_pos w2]
      have := wd_rng (T := T) (p := p) (e := rex T t 97 122 p) w2.1
      omega
    · rw [if_neg w2]
/-- one sign on, from the sign's own place -/
theorem MX_up (h : MX I0 I r q f c L) : MX I0 (setI I 265 28 (I 265 28 + iZ 1)) r (q + 1) f c L := by
  have e : I 265 28 + iZ 1 = iZ ((q + 1 : Nat) : Int) := by rw [h.1, iZ_add]; rfl
  rw [e]
  exact MX_q h
theorem GB_l300 (h4 : t ≤ 400) {k : Int} (hk : 0 ≤ k) (h : GBk t k s) : s.2.2.length < 300 := by
  have := h.2.2
  have := h.2.1
  have := h.1
  omega
theorem m_term (hT : TM I0 T t) (hr : r < 6) (h30 : I0 265 30 = iZ r) (h36 : I0 265 36 = iZ 19) (h : MX I0 I r q f c L) (hq : q ≤ 500) (hi : INx T t q f c L s) (hQ : ∀ I' q' f' c' L', MX I0 I' r q' f' c' L' → PRy t f (trm T t s) q' f' c' L' → Q none (mm I' J A)) : wpC E (d + 6) 201 [.ref 265] (mm I J A) Q := by
  have t4 := hT.1
  have hb := fun i hi => (hT.2.2 i hi).1
  -- with a fault it ends
  have X : ∀ I' q' f' c' L', MX I0 I' r q' f' c' L' → q' ≤ 500 → f' ≠ 0 → (f ≠ 0 → f' = f) → (f = 0 → trm T t s = .error f') → wp E (d + 6) 201 8 [(0, .ref 265)] [] (mm I' J A) Q := fun I' q' f' c' L' h' hq' hf' p1 p2 => by
    have c0 : ¬ I' 265 29 = 0 := by
      rw [h'.2.1]
      have := h'.2.2.2.2.2.2
      show ¬ iZ f' = iZ 0
      ((try simp (disch := omega) only [z_i8, z_i16, z_of, z_ofN, z_lofN, z_0, z_1, z_m1, z_l0, z_l1, iZ_add, iZ_sub, iZ_mul, iZ_neg, lZ_add, lZ_sub, lZ_mul, lZ_neg, z_div, z_ldiv, z_l, z_i, z_lt, z_le, z_eq, z_llt, z_lle, z_leq, z_cgt, z_cge, z_clt, z_cle, z_ceq, z_cl, z_nat, Int.toNat_natCast, mm_I, mm_J, z_cln, z_abs, z_max, z_min, z_lmax, z_lmin, z_sin, Int.cast_ofNat_Int, uI_I, uI_J, uL_I, uL_J, uA_I, uA_J, sI_eq, sI_ne, sL_eq, sL_ne, up_eq, up_ne, uL_eq, uL_ne, z_toInt, Int.reduceToNat]) <;> omega)
    refine wf (hs := []) 20 8 (by decide) (wF c0 (hQ I' q' f' c' L' h' ⟨hq', p1, fun w => ?_⟩))
    rw [p2 w]
    exact ⟨rfl, hf'⟩
  have Lp : f = 0 → ∀ (n : Nat) (s1 : pS) (I' : Nat → Nat → Int32), 401 ≤ s1.1 + n → MX I0 I' r s1.1 0 (s1.2.1 : Nat) s1.2.2 → s1.1 ≤ t → skp T t s1.1 = s1.1 → GBk t 3 s1 → tmL T t n s1 = trm T t s → wp E (d + 6) 201 8 [(0, .ref 265)] [] (mm I' J A) Q := by
    intro f0 n
    induction n with
    | zero => intro s1 I' hn h' ht' _ _ _; omega
    | succ n ih =>
      intro s1 I' hn h' ht' hsk hg he
      have c0 : I' 265 29 = 0 := by rw [h'.2.1]; rfl
      have hTI := MX_TM hT h'
      have sr := sgA_rng (p := s1.1) hTI
      unfold tmL at he
      -- a sign
      have SG : (tkZ T t s1.1 = 29 ∨ tkZ T t s1.1 = 30) → ∀ x1 : Int32, x1 = iZ (smp (tkZ T t s1.1)) → wp E (d + 6) 201 50 [(0, .ref 265), (1, .int x1)] [] (mm I' J A) Q := fun g x1 e1 => by
        rw [if_pos g] at he
        have pt := tk_lt (T := T) (t := t) (p := s1.1) (by omega)
        have en : enZ T t s1.1 = s1.1 + 1 := by rw [en_sign (by omega), if_neg (by omega)]
        have h2 := MX_up h'
        have gs : GBk t 3 (stp1 T t s1) := ⟨(nx_b pt).2, hg.2.1, by
          have := hg.2.2
          have := (nx_b (T := T) pt).1
          show 3 * (s1.2.2.length : Int) + 3 ≤ 6 * (s1.2.1 : Int) + (nxZ T t s1.1 : Int)
          omega⟩
        have in2 : INx T t (s1.1 + 1) 0 (s1.2.1 : Nat) s1.2.2 (stp1 T t s1) := fun _ => ⟨by omega, by show skp T t (s1.1 + 1) = nxZ T t s1.1; unfold nxZ; rw [en], rfl, rfl, ⟨gs.1, gs.2.1, by have := gs.2.2; omega⟩⟩
        refine wf (hs := [8]) 60 50 (by decide) (And.intro rfl (m_value (d := d) hT hr h30 h36 h2 (by omega) in2 (fun I3 q3 f3 c3 L3 h3 p3 => ?_)))
        have l3 : f3 = 0 → L3.length < 300 := fun w => by
          have := p3.2.2 rfl
          cases hv : vlZ T t (stp1 T t s1) with
          | error e => rw [hv] at this; omega
          | ok s2 =>
            rw [hv] at this
            rw [this.2.2.2.2]
            exact GB_l300 t4 (by omega) (GB_PP gs (vl_ok hb hv))
        refine And.intro rfl (m_entry (a := smp (tkZ T t s1.1)) (b := 0) (x := tkZ T t s1.1) hr h3 h30 l3 (fun _ => by unfold ENT; omega) (by unfold smp; rcases g with g | g <;> rw [g] <;> decide) (by omega) e1 rfl (fun I4 h4 => ?_))
        have hTI4 := MX_TM hT h4
        refine And.intro rfl (m_blanks (d := d + 4) hTI4 h4.1 (by have := p3.1; omega) ?_)
        have q5 : skp T t q3 ≤ 500 := by
          by_cases w : q3 ≤ t
          · have := (skp_b (T := T) w).2.1; omega
          · rw [skp_ge (by omega)]; exact p3.1
        cases hv : vlZ T t (stp1 T t s1) with
        | error e =>
          have p33 := p3.2.2 rfl
          rw [hv] at p33 he
          have he : (.error e : pR) = trm T t s := he
          refine wp_keys [0] rfl rfl ?_
          exact X _ _ _ _ _ (MX_q h4) q5 (by omega) (fun w => absurd f0 w) (fun _ => by rw [← he, p33.1])
        | ok s2 =>
          have p33 := p3.2.2 rfl
          rw [hv] at p33 he
          have he : tmL T t n (apL (tkZ T t s1.1) s2) = trm T t s := he
          obtain ⟨w1, w2, w3, w4, w5⟩ := p33
          subst w1
          rw [if_pos rfl, w5, w4] at h4
          have pp := vl_ok hb hv
          have p21 : nxZ T t s1.1 < s2.1 := pp.1.1
          have g2 := GB_PP gs pp
          have h5 := MX_q (q' := s2.1) h4
          rw [w3]
          have nb := (nx_b (T := T) pt).1
          refine wp_keys [0] rfl rfl ?_
          refine ih (apL (tkZ T t s1.1) s2) _ (by show 401 ≤ s2.1 + n; omega) h5 pp.1.2 (by show skp T t s2.1 = s2.1; rw [← w3]; exact skp_sk w2) ⟨pp.1.2, pp.2.1.2, ?_⟩ he
          have := g2.2.2
          show 3 * (((s2.2.2 ++ [tkZ T t s1.1]).length : Nat) : Int) + 3 ≤ 6 * (s2.2.1 : Int) + (s2.1 : Int)
          rw [List.length_append]
          have l1 : [tkZ T t s1.1].length = 1 := rfl
          omega
      refine wf (hs := [33, 77]) 60 8 (by decide) (wt c0 (And.intro rfl (m_sign hTI h'.1 (by omega) ?_)))
      have B33 : (tkZ T t s1.1 = 29 ∨ tkZ T t s1.1 = 30) → wp E (d + 6) 201 33 [(0, .ref 265)] [] (mm I' J A) Q := fun g => by
        refine wf (hs := [49]) 40 33 (by decide) (And.intro rfl (m_sign hTI h'.1 (by omega) ?_))
        by_cases w : tkZ T t s1.1 = 29
        · have e42 := sg29.mpr w
          rw [e42]
          refine wt rfl ?_
          have S := SG g (iZ 13) (by rw [w]; rfl)
          refine wf (hs := [50]) 10 49 (by decide) ?_
          refine wp_keys [0, 1] rfl rfl ?_
          exact S
        · have w30 : tkZ T t s1.1 = 30 := by omega
          have e47 := sg30.mpr w30
          rw [e47]
          refine wF (by decide) ?_
          have S := SG g (iZ 14) (by rw [w30]; rfl)
          refine wf (hs := [50]) 10 49 (by decide) ?_
          refine wp_keys [0, 1] rfl rfl ?_
          exact S
      by_cases w : tkZ T t s1.1 = 29
      · rw [sg29.mpr w]
        exact wt rfl (B33 (Or.inl w))
      · have n42 : ¬ sgA T t s1.1 = 42 := fun y => w (sg29.mp y)
        have n1 : ¬ iZ (sgA T t s1.1) = iZ 42 := by ((try simp (disch := omega) only [z_i8, z_i16, z_of, z_ofN, z_lofN, z_0, z_1, z_m1, z_l0, z_l1, iZ_add, iZ_sub, iZ_mul, iZ_neg, lZ_add, lZ_sub, lZ_mul, lZ_neg, z_div, z_ldiv, z_l, z_i, z_lt, z_le, z_eq, z_llt, z_lle, z_leq, z_cgt, z_cge, z_clt, z_cle, z_ceq, z_cl, z_nat, Int.toNat_natCast, mm_I, mm_J, z_cln, z_abs, z_max, z_min, z_lmax, z_lmin, z_sin, Int.cast_ofNat_Int, uI_I, uI_J, uL_I, uL_J, uA_I, uA_J, sI_eq, sI_ne, sL_eq, sL_ne, up_eq, up_ne, uL_eq, uL_ne, z_toInt, Int.reduceToNat]) <;> omega)
        refine wF n1 (And.intro rfl (m_sign hTI h'.1 (by omega) ?_))
        by_cases w2 : tkZ T t s1.1 = 30
        · rw [sg30.mpr w2]
          exact wt rfl (B33 (Or.inr w2))
        · have n47 : ¬ sgA T t s1.1 = 47 := fun y => w2 (sg30.mp y)
          have n2 : ¬ iZ (sgA T t s1.1) = iZ 47 := by ((try simp (disch := omega) only [z_i8, z_i16, z_of, z_ofN, z_lofN, z_0, z_1, z_m1, z_l0, z_l1, iZ_add, iZ_sub, iZ_mul, iZ_neg, lZ_add, lZ_sub, lZ_mul, lZ_neg, z_div, z_ldiv, z_l, z_i, z_lt, z_le, z_eq, z_llt, z_lle, z_leq, z_cgt, z_cge, z_clt, z_cle, z_ceq, z_cl, z_nat, Int.toNat_natCast, mm_I, mm_J, z_cln, z_abs, z_max, z_min, z_lmax, z_lmin, z_sin, Int.cast_ofNat_Int, uI_I, uI_J, uL_I, uL_J, uA_I, uA_J, sI_eq, sI_ne, sL_eq, sL_ne, up_eq, up_ne, uL_eq, uL_ne, z_toInt, Int.reduceToNat]) <;> omega)
          rw [if_neg (by omega)] at he
          refine wF n2 (wf (hs := []) 10 77 (by decide) (hQ I' s1.1 0 _ _ h' ⟨by omega, fun y => absurd f0 y, fun _ => ?_⟩))
          rw [← he]
          exact ⟨rfl, ht', rfl, rfl, rfl⟩
  refine wc (hs := [8]) 20 (by decide) (And.intro rfl (m_value (d := d) hT hr h30 h36 h hq hi (fun I1 q1 f1 c1 L1 h1 p1 => ?_)))
  have q5 : skp T t q1 ≤ 500 := by
    by_cases w : q1 ≤ t
    · have := (skp_b (T := T) w).2.1; omega
    · rw [skp_ge (by omega)]; exact p1.1
  refine And.intro rfl (m_blanks (d := d + 4) (MX_TM hT h1) h1.1 (by have := p1.1; omega) ?_)
  have h2 := MX_q (q' := skp T t q1) h1
  by_cases f0 : f = 0
  · have p13 := p1.2.2 f0
    cases hv : vlZ T t s with
    | error e =>
      rw [hv] at p13
      exact X _ _ _ _ _ h2 q5 (by omega) (fun w => absurd f0 w) (fun _ => by unfold trm; rw [hv, p13.1]; rfl)
    | ok s1 =>
      rw [hv] at p13
      obtain ⟨w1, w2, w3, w4, w5⟩ := p13
      subst w1
      rw [w4, w5, w3] at h2
      have pp := vl_ok hb hv
      have gb := (hi f0).2.2.2.2
      rw [w3]
      exact Lp f0 401 s1 _ (by omega) h2 pp.1.2 (by rw [← w3]; exact skp_sk w2) (GB_PP gb pp) (by unfold trm; rw [hv]; rfl)
  · have e1 := p1.2.1 f0
    subst e1
    exact X _ _ _ _ _ h2 q5 f0 (fun _ => rfl) (fun w => absurd w f0)
end MTERM
