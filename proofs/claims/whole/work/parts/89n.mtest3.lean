/-! ===== the reference reads a test ===== -/
def W0p (E : Nat × (Nat → Int32)) (d : Nat) (J : Nat → Nat → Int64) (A : Nat → Option Nat) (Q : Option Value → am_M → Prop) (I : Nat → Nat → Int32) : Prop := wp E (d + 9) 206 0 [(0, .ref 265), (1, .int (iZ 9))] [] (mm I J A) (fun o M => o = none ∧ wp E (d + 10) 208 46 [(0, .ref 265), (1, .int (iZ 0)), (2, .int (iZ 1))] [] M Q)
def FTs (E : Nat × (Nat → Int32)) (d : Nat) (J : Nat → Nat → Int64) (A : Nat → Option Nat) (Q : Option Value → am_M → Prop) (I0 : Nat → Nat → Int32) (T : Nat → Int) (t r k : Nat) : Prop := ∀ (s : pS) (S : List Int) (I : Nat → Nat → Int32) (q : Nat), MY I0 I r q 0 (s.2.1 : Nat) s.2.2 S (10 - k) → q ≤ t → skp T t q = s.1 → GBk t 0 s → S.length ≤ s.1 → (∀ x ∈ S, 9 ≤ x ∧ x ≤ 12) → (∀ s' I' q', fcZ T t k s = .ok s' → MY I0 I' r q' 0 (s'.2.1 : Nat) s'.2.2 S (10 - k) → q' ≤ t → skp T t q' = s'.1 → W0p E d J A Q I') → (∀ e I', fcZ T t k s = .error e → MErr I0 I' r e → Q none (mm I' J A)) → wp E (d + 10) 208 9 [(0, .ref 265), (1, .int (iZ 1)), (2, .int (iZ 1))] [] (mm I J A) Q
section SKS
variable {T : Nat → Int} {t : Nat}
theorem vl_sk {s s' : pS} (h : vlZ T t s = .ok s') : skp T t s'.1 = s'.1 := by
  unfold vlZ at h
  by_cases q1 : tkZ T t s.1 = 39
  · have pt := tk_lt (T := T) (t := t) (p := s.1) (by omega)
    rw [if_pos q1] at h
    by_cases q2 : nuZ T t s.1 < 0
    · rw [if_pos q2] at h; cases h
    · rw [if_neg q2] at h
      by_cases q3 : 60 ≤ s.2.1
      · rw [if_pos q3] at h; cases h
      · rw [if_neg q3] at h; cases h; exact nx_sk pt
  · rw [if_neg q1] at h
    by_cases q2 : tkZ T t s.1 ≤ 18
    · have pt := tk_lt (T := T) (t := t) (p := s.1) (by omega)
      rw [if_pos q2] at h
      by_cases q3 : 60 ≤ s.2.1
      · rw [if_pos q3] at h; cases h
      · rw [if_neg q3] at h; cases h; exact nx_sk pt
    · rw [if_neg q2] at h; cases h
theorem bnd_ok {x : pR} {f : pS → pR} {s' : pS} (h : bnd x f = .ok s') : ∃ s1, x = .ok s1 ∧ f s1 = .ok s' := by
  cases x with
  | error e => cases h
  | ok s1 => exact ⟨s1, rfl, h⟩
theorem tm_sk : ∀ (n : Nat) (s s' : pS), skp T t s.1 = s.1 → tmL T t n s = .ok s' → skp T t s'.1 = s'.1 := by
  intro n
  induction n with
  | zero => intro s s' _ h; cases h
  | succ n ih =>
    intro s s' hs h
    unfold tmL at h
    by_cases q : tkZ T t s.1 = 29 ∨ tkZ T t s.1 = 30
    · rw [if_pos q] at h
      obtain ⟨s1, h1, h2⟩ := bnd_ok h
      have e1 := vl_sk h1
      exact ih (apL (tkZ T t s.1) s1) s' e1 h2
    · rw [if_neg q] at h; cases h; exact hs
theorem trm_sk {s s' : pS} (h : trm T t s = .ok s') : skp T t s'.1 = s'.1 := by
  obtain ⟨s1, h1, h2⟩ := bnd_ok h
  exact tm_sk _ _ _ (vl_sk h1) h2
theorem sm_sk : ∀ (n : Nat) (s s' : pS), skp T t s.1 = s.1 → smL T t n s = .ok s' → skp T t s'.1 = s'.1 := by
  intro n
  induction n with
  | zero => intro s s' _ h; cases h
  | succ n ih =>
    intro s s' hs h
    unfold smL at h
    by_cases q : tkZ T t s.1 = 27 ∨ tkZ T t s.1 = 28
    · rw [if_pos q] at h
      obtain ⟨s1, h1, h2⟩ := bnd_ok h
      have e1 := trm_sk h1
      exact ih (apL (tkZ T t s.1) s1) s' e1 h2
    · rw [if_neg q] at h; cases h; exact hs
theorem sum_sk {s s' : pS} (h : sumZ T t s = .ok s') : skp T t s'.1 = s'.1 := by
  obtain ⟨s1, h1, h2⟩ := bnd_ok h
  exact sm_sk _ _ _ (trm_sk h1) h2
theorem cm_sk {s s' : pS} (h : cmZ T t s = .ok s') : skp T t s'.1 = s'.1 := by
  obtain ⟨s1, h1, h2⟩ := bnd_ok h
  by_cases q : 31 ≤ tkZ T t s1.1 ∧ tkZ T t s1.1 ≤ 35
  · rw [if_pos q] at h2
    by_cases q3 : 60 ≤ s1.2.1
    · rw [if_pos q3] at h2; cases h2
    · rw [if_neg q3] at h2
      obtain ⟨s2, h3, h4⟩ := bnd_ok h2
      cases h4
      have e1 := sum_sk h3
      exact e1
  · rw [if_neg q] at h2; cases h2
end SKS
section MTEST3
variable {E : Nat × (Nat → Int32)} {d : Nat} {I I0 I1 : Nat → Nat → Int32} {J : Nat → Nat → Int64} {A : Nat → Option Nat} {Q : Option Value → am_M → Prop} {M : am_M} {T : Nat → Int} {t r q : Nat} {f c dp : Int} {L S : List Int} {s : pS}
theorem w0_in (h : MY I0 I r q 0 c L S dp) (hw : W0p E d J A Q I) : wp E (d + 10) 208 9 [(0, .ref 265), (1, .int (iZ 0)), (2, .int (iZ 1))] [] (mm I J A) Q := by
  have c0 : I 265 29 = 0 := h.1.2.1
  refine wf (hs := [46]) 30 9 (by decide) (wF (by decide) (wt c0 (wt rfl (And.intro rfl (wp_mono hw (fun o M hm => ?_))))))
  obtain ⟨rfl, hm⟩ := hm
  exact hm
theorem w_err {e : Int} {x1 : Int32} (h : MErr I0 I r e) (hQ : Q none (mm I J A)) : wp E (d + 10) 208 9 [(0, .ref 265), (1, .int x1), (2, .int (iZ 1))] [] (mm I J A) Q := by
  have c0 : ¬ I 265 29 = 0 := by
    have := h.2.1
    rw [h.1]
    show ¬ iZ e = iZ 0
    ((try simp (disch := omega) only [z_i8, z_i16, z_of, z_ofN, z_lofN, z_0, z_1, z_m1, z_l0, z_l1, iZ_add, iZ_sub, iZ_mul, iZ_neg, lZ_add, lZ_sub, lZ_mul, lZ_neg, z_div, z_ldiv, z_l, z_i, z_lt, z_le, z_eq, z_llt, z_lle, z_leq, z_cgt, z_cge, z_clt, z_cle, z_ceq, z_cl, z_nat, Int.toNat_natCast, mm_I, mm_J, z_cln, z_abs, z_max, z_min, z_lmax, z_lmin, z_sin, Int.cast_ofNat_Int, uI_I, uI_J, uL_I, uL_J, uA_I, uA_J, sI_eq, sI_ne, sL_eq, sL_ne, up_eq, up_ne, uL_eq, uL_ne, z_toInt, Int.reduceToNat]) <;> omega)
  exact wf (hs := []) 30 9 (by decide) (wF (by decide) (wF c0 hQ))
theorem m_atFact (hT : TM I0 T t) (hr : r < 6) (h30 : I0 265 30 = iZ r) (h36 : I0 265 36 = iZ 19) (h : MY I0 I r q 0 (s.2.1 : Nat) s.2.2 S dp) (hq : q ≤ t) (hs : skp T t q = s.1) (hg : GBk t 0 s) (hS : S.length ≤ 401) (hd : 0 ≤ dp ∧ dp ≤ 10)
    (h26 : tkZ T t s.1 = 26 → ∀ I', MY I0 I' r (s.1 + 3) (if dp = 10 then flt 2 s.1 else 0) (s.2.1 : Nat) s.2.2 (9 :: S) (dp + 1) → wp E (d + 10) 208 9 [(0, .ref 265), (1, .int (iZ 1)), (2, .int (iZ 1))] [] (mm I' J A) Q)
    (h37 : tkZ T t s.1 = 37 → ∀ I', MY I0 I' r (s.1 + 1) (if dp = 10 then flt 2 s.1 else 0) (s.2.1 : Nat) s.2.2 (12 :: S) (dp + 1) → wp E (d + 10) 208 9 [(0, .ref 265), (1, .int (iZ 1)), (2, .int (iZ 1))] [] (mm I' J A) Q)
    (hok : tkZ T t s.1 ≠ 26 → tkZ T t s.1 ≠ 37 → ∀ s' I' q', cmZ T t s = .ok s' → MY I0 I' r q' 0 (s'.2.1 : Nat) s'.2.2 S dp → q' ≤ t → skp T t q' = s'.1 → W0p E d J A Q I')
    (her : tkZ T t s.1 ≠ 26 → tkZ T t s.1 ≠ 37 → ∀ e I', cmZ T t s = .error e → MErr I0 I' r e → Q none (mm I' J A)) : wp E (d + 10) 208 9 [(0, .ref 265), (1, .int (iZ 1)), (2, .int (iZ 1))] [] (mm I J A) Q := by
  have c0 : I 265 29 = 0 := h.1.2.1
  have hb := fun i hi => (hT.2.2 i hi).1
  refine wf (hs := [9]) 30 9 (by decide) (wF (by decide) (wt c0 (wF (by decide) (And.intro rfl (m_fact (d := d) hT hr h30 h36 h hq hs hg hS hd (fun g I2 h2 => wt rfl ?_) (fun g I2 h2 => wt rfl ?_) (fun g26 g37 I2 q2 f2 c2 L2 h2 p2 => wF (by decide) ?_))))))
  · refine wp_keys [0, 1, 2] rfl rfl ?_
    exact h26 g I2 h2
  · refine wp_keys [0, 1, 2] rfl rfl ?_
    exact h37 g I2 h2
  · refine wp_keys [0, 1, 2] rfl rfl ?_
    have p22 := p2.2.2 rfl
    cases hv : cmZ T t s with
    | error e =>
      rw [hv] at p22
      obtain ⟨rfl, w⟩ := p22
      have er := MY_err h2 (by have := p2.1; omega) w
      exact w_err er (her g26 g37 _ I2 hv er)
    | ok s' =>
      rw [hv] at p22
      obtain ⟨w1, w2, w3, w4, w5⟩ := p22
      subst w1; subst w3; subst w4; subst w5
      have pt := (cm_ok hb hv).1.2
      have ss : skp T t s'.1 = s'.1 := cm_sk hv
      exact w0_in h2 (hok g26 g37 s' I2 s'.1 hv h2 pt ss)
theorem fl_rng {a o : Bool} {B : List Int} (hB : ∀ x ∈ B, 9 ≤ x ∧ x ≤ 12) : ∀ x ∈ (if a then [(10 : Int)] else []) ++ ((if o then [(11 : Int)] else []) ++ B), 9 ≤ x ∧ x ≤ 12 := by
  intro x hx
  rw [List.mem_append, List.mem_append] at hx
  rcases hx with hx | hx | hx
  · cases a with
    | true => have := List.mem_singleton.mp hx; omega
    | false => cases hx
  · cases o with
    | true => have := List.mem_singleton.mp hx; omega
    | false => cases hx
  · exact hB x hx
theorem fl_len {a o : Bool} {B : List Int} : ((if a then [(10 : Int)] else []) ++ ((if o then [(11 : Int)] else []) ++ B)).length = (if a then 1 else 0) + (if o then 1 else 0) + B.length := by
  cases a <;> cases o <;> simp <;> omega
theorem m_testL {k : Nat} {B : List Int} {RES : pR} (hF : FTs E d J A Q I0 T t r k) (hT : TM I0 T t) (hr : r < 6) (h30 : I0 265 30 = iZ r) (hk : k ≤ 10) (hB : B.headD (-1) ≠ 9 ∧ B.headD (-1) ≠ 10 ∧ B.headD (-1) ≠ 11) (hBr : ∀ x ∈ B, 9 ≤ x ∧ x ≤ 12)
    (h1 : ∀ s' I', RES = .ok s' → MY I0 I' r s'.1 0 (s'.2.1 : Nat) s'.2.2 B (10 - k) → s'.1 ≤ t → wp E (d + 10) 208 137 [(0, .ref 265), (1, .int (iZ 0)), (2, .int (iZ 1))] [] (mm I' J A) Q)
    (h0 : ∀ e I', RES = .error e → MErr I0 I' r e → Q none (mm I' J A)) : ∀ (n : Nat) (a o : Bool) (s : pS) (I : Nat → Nat → Int32) (q : Nat), 401 ≤ s.1 + n → MY I0 I r q 0 (s.2.1 : Nat) s.2.2 ((if a then [10] else []) ++ ((if o then [11] else []) ++ B)) (10 - k) → q ≤ t → skp T t q = s.1 → GBk t ((if a then 3 else 0) + (if o then 3 else 0)) s → (if a then 1 else 0) + (if o then 1 else 0) + B.length ≤ s.1 → tsL T t (fcZ T t k) n a o s = RES → wp E (d + 10) 208 9 [(0, .ref 265), (1, .int (iZ 1)), (2, .int (iZ 1))] [] (mm I J A) Q := by
  have t4 := hT.1
  have hb := fun i hi => (hT.2.2 i hi).1
  intro n
  induction n with
  | zero =>
    intro a o s I q hn h hq hs hg hl he
    have := hg.1
    omega
  | succ n ih =>
    intro a o s I q hn h hq hs hg hl he
    unfold tsL at he
    have hg0 : GBk t 0 s := ⟨hg.1, hg.2.1, by have := hg.2.2; cases a <;> cases o <;> simp at this <;> omega⟩
    refine hF s _ I q h hq hs hg0 (by rw [fl_len]; exact hl) (fl_rng hBr) (fun s1 I1 q1 hv hc1 q1t hs1 => ?_) (fun e I1 hv he' => h0 e I1 (by rw [← he, hv]; rfl) he')
    rw [hv] at he
    have pp := fc_ok hb k s s1 hv
    have p1 := pp.1
    have g1 := GB_PP hg pp
    have he : (if tkZ T t s1.1 = 24 then tsL T t (fcZ T t k) n true o (stp1 T t (apB a 24 s1)) else if tkZ T t s1.1 = 25 then tsL T t (fcZ T t k) n false true (stp1 T t (apB o 25 (apB a 24 s1))) else .ok (apB o 25 (apB a 24 s1))) = RES := he
    have ln : ((if a then [(10 : Int)] else []) ++ ((if o then [(11 : Int)] else []) ++ B)).length ≤ 400 := by rw [fl_len]; omega
    have lB : B.length ≤ 400 - 1 ∧ ((if o then [(11 : Int)] else []) ++ B).length ≤ 400 := by
      have l2 := fl_len (a := false) (o := o) (B := B)
      have l2 : ((if o then [(11 : Int)] else []) ++ B).length = (if false then 1 else 0) + (if o then 1 else 0) + B.length := l2
      rw [l2]
      have : s.1 < 400 := by omega
      cases o <;> simp at hl ⊢ <;> omega
    have rB : ∀ x ∈ B, -2147483648 ≤ x ∧ x ≤ 2147483647 := fun x hx => by have := hBr x hx; omega
    have rO : ∀ x ∈ ((if o then [(11 : Int)] else []) ++ B), -2147483648 ≤ x ∧ x ≤ 2147483647 := fun x hx => by have := fl_rng (a := false) (o := o) hBr x hx; omega
    have hO : ((if o then [(11 : Int)] else []) ++ B).headD (-1) ≠ 10 := by
      cases o with
      | true => show (11 : Int) ≠ 10; omega
      | false => exact hB.2.1
    have hA : ((if a then [(10 : Int)] else []) ++ ((if o then [(11 : Int)] else []) ++ B)).headD (-1) ≠ 9 := by
      cases a with
      | true => show (10 : Int) ≠ 9; omega
      | false =>
        cases o with
        | true => show (11 : Int) ≠ 9; omega
        | false => exact hB.1
    generalize hs2 : apB a 24 s1 = s2 at he
    have e2 : s2.1 = s1.1 := by rw [← hs2]; exact apB_1
    have e22 : s2.2.1 = s1.2.1 ∧ s2.2.2 = (if a then s1.2.2 ++ [24] else s1.2.2) := by rw [← hs2]; cases a <;> exact ⟨rfl, rfl⟩
    have g2 : GBk t (3 + (if o then 3 else 0)) s2 := by
      have := g1.2.2
      refine ⟨by rw [e2]; exact g1.1, by rw [e22.1]; exact g1.2.1, ?_⟩
      rw [e2, e22.1, e22.2]
      cases a with
      | true =>
        rw [if_pos rfl] at this ⊢
        rw [List.length_append]
        have l1 : [(24 : Int)].length = 1 := rfl
        omega
      | false =>
        rw [if_neg (by decide)] at this ⊢
        omega
    generalize hs3 : apB o 25 s2 = s3 at he
    have e3 : s3.1 = s2.1 := by rw [← hs3]; exact apB_1
    have e32 : s3.2.1 = s2.2.1 ∧ s3.2.2 = (if o then s2.2.2 ++ [25] else s2.2.2) := by rw [← hs3]; cases o <;> exact ⟨rfl, rfl⟩
    have g3 : GBk t 3 s3 := by
      have := g2.2.2
      refine ⟨by rw [e3]; exact g2.1, by rw [e32.1]; exact g2.2.1, ?_⟩
      rw [e3, e32.1, e32.2]
      cases o with
      | true =>
        rw [if_pos rfl] at this ⊢
        rw [List.length_append]
        have l1 : [(25 : Int)].length = 1 := rfl
        omega
      | false =>
        rw [if_neg (by decide)] at this ⊢
        omega
    have g10 : s1.2.2.length < 300 := GB_l300 t4 (k := (if a then 3 else 0) + (if o then 3 else 0) + 3) (by cases a <;> cases o <;> decide) g1
    have g20 : s2.2.2.length < 300 := GB_l300 t4 (k := 3 + (if o then 3 else 0)) (by cases o <;> decide) g2
    have st1 := g1.1
    -- the pending ones are answered, the next begins
    have A11 : ∀ (I3 : Nat → Nat → Int32) (R : Option Value → am_M → Prop), MY I0 I3 r s1.1 0 (s2.2.1 : Nat) s2.2.2 ((if o then [11] else []) ++ B) (10 - k) → (∀ I4, MY I0 I4 r s3.1 0 (s3.2.1 : Nat) s3.2.2 B (10 - k) → R none (mm I4 J A)) → wpC E (d + 9) 206 [.ref 265, .int (iZ 11)] (mm I3 J A) R := fun I3 R h3 o3 => by
      refine m_ansB (d := d + 7) (k := 11) (x := 25) (b := o) hr h30 h3 (by omega) rB (fun _ => g20) (Or.inr ⟨rfl, rfl⟩) hB.2.2 rfl (fun I4 h4 => o3 I4 ?_)
      rw [e3, e2, e32.1, e32.2]; exact h4
    have B73 : ∀ (I3 : Nat → Nat → Int32) (wa wo : Bool), MY I0 I3 r s1.1 0 (s2.2.1 : Nat) s2.2.2 ((if o then [11] else []) ++ B) (10 - k) → (wa = true ↔ tkZ T t s1.1 = 24) → (wo = true ↔ tkZ T t s1.1 = 25) → wp E (d + 10) 208 73 [(0, .ref 265), (1, .int (iZ 0)), (2, .int (iZ 1)), (3, .int (iZ (tB wa))), (4, .int (iZ (tB wo)))] [] (mm I3 J A) Q := fun I3 wa wo h3 ha ho => by
      cases wa with
      | true =>
        have w1 := ha.mp rfl
        have w2 : wo = false := by
          cases wo with
          | true => have := ho.mp rfl; omega
          | false => rfl
        subst w2
        rw [if_pos w1] at he
        have we := wd_en (T := T) (k := 27) (by omega) st1 w1
        rw [txL_26.2.1] at we
        have pt := tk_lt (T := T) (t := t) (p := s1.1) (by omega)
        have nb := nx_b (T := T) pt
        refine wf (hs := [9]) 80 73 (by decide) (wF (by decide) (wt rfl (wF (by decide) (And.intro rfl (m_opens2 (k := 10) (d := d + 8) h3 (by omega) (by omega) (by omega) (by omega) rfl (fun I4 h4 => wF (by decide) ?_))))))
        refine wp_keys [0, 1, 2] rfl rfl ?_
        refine ih true o (stp1 T t s2) _ (s1.1 + 3) (by show 401 ≤ nxZ T t s2.1 + n; rw [e2]; omega) (MY_re h4 (MX_add (n := 3) h4.1)) we.2 ?_ ⟨by show nxZ T t s2.1 ≤ t; rw [e2]; exact nb.2, g2.2.1, ?_⟩ ?_ he
        · show _ = nxZ T t s2.1
          rw [e2]; unfold nxZ; rw [we.1]
        · have := g2.2.2
          show 3 * (s2.2.2.length : Int) + (3 + (if o then 3 else 0)) ≤ 6 * (s2.2.1 : Int) + (nxZ T t s2.1 : Int)
          rw [e2] at this ⊢
          omega
        · show 1 + (if o then 1 else 0) + B.length ≤ nxZ T t s2.1
          rw [e2]; omega
      | false =>
        have w1 : ¬ tkZ T t s1.1 = 24 := fun y => by have := ha.mpr y; cases this
        rw [if_neg w1] at he
        cases wo with
        | true =>
          have w2 := ho.mp rfl
          rw [if_pos w2] at he
          have we := wd_en (T := T) (k := 28) (by omega) st1 w2
          rw [txL_26.2.2] at we
          have pt := tk_lt (T := T) (t := t) (p := s1.1) (by omega)
          have nb := nx_b (T := T) pt
          refine wf (hs := [9]) 80 73 (by decide) (wt rfl (wF (by decide) (wF (by decide) (And.intro rfl (A11 I3 _ h3 (fun I4 h4 => wt rfl (And.intro rfl (m_opens2 (k := 11) (d := d + 8) h4 (by omega) (by omega) (by omega) (by omega) rfl (fun I5 h5 => wt rfl ?_)))))))))
          refine wp_keys [0, 1, 2] rfl rfl ?_
          refine ih false true (stp1 T t s3) _ (s3.1 + 2) (by show 401 ≤ nxZ T t s3.1 + n; rw [e3, e2]; omega) (MY_re h5 (MX_add (n := 2) h5.1)) (by rw [e3, e2]; exact we.2) ?_ ⟨by show nxZ T t s3.1 ≤ t; rw [e3, e2]; exact nb.2, g3.2.1, ?_⟩ ?_ he
          · show _ = nxZ T t s3.1
            rw [e3, e2]; unfold nxZ; rw [we.1]
          · have := g3.2.2
            show 3 * (s3.2.2.length : Int) + (0 + 3) ≤ 6 * (s3.2.1 : Int) + (nxZ T t s3.1 : Int)
            rw [e3, e2] at this ⊢
            omega
          · show 0 + 1 + B.length ≤ nxZ T t s3.1
            rw [e3, e2]; omega
        | false =>
          have w2 : ¬ tkZ T t s1.1 = 25 := fun y => by have := ho.mpr y; cases this
          rw [if_neg w2] at he
          refine wf (hs := [137]) 80 73 (by decide) (wt rfl (wt rfl (And.intro rfl (A11 I3 _ h3 (fun I4 h4 => ?_)))))
          refine wp_keys [0, 1, 2] rfl rfl ?_
          exact h1 s3 I4 he.symm h4 g3.1
    have B67 : ∀ (I2 : Nat → Nat → Int32) (wa wo : Bool), MY I0 I2 r s1.1 0 (s1.2.1 : Nat) s1.2.2 ((if a then [10] else []) ++ ((if o then [11] else []) ++ B)) (10 - k) → (wa = true ↔ tkZ T t s1.1 = 24) → (wo = true ↔ tkZ T t s1.1 = 25) → wp E (d + 10) 208 67 [(0, .ref 265), (1, .int (iZ 0)), (2, .int (iZ 1)), (3, .int (iZ (tB wa))), (4, .int (iZ (tB wo)))] [] (mm I2 J A) Q := fun I2 wa wo h2 ha ho => by
      refine wf (hs := [73]) 20 67 (by decide) (And.intro rfl (m_ansB (d := d + 7) (k := 10) (x := 24) (b := a) hr h30 h2 lB.2 rO (fun _ => g10) (Or.inl ⟨rfl, rfl⟩) hO rfl (fun I3 h3 => ?_)))
      rw [← e22.1, ← e22.2] at h3
      exact B73 I3 wa wo h3 ha ho
    refine m_ans0 (d := d + 8) (k := 9) hc1 (by omega) (fun x hx => by have := fl_rng hBr x hx; omega) (by omega) hA rfl ⟨rfl, ?_⟩
    have h2 : MY I0 (setI I1 265 28 (iZ (skp T t q1 : Nat))) r (skp T t q1) 0 (s1.2.1 : Nat) s1.2.2 ((if a then [10] else []) ++ ((if o then [11] else []) ++ B)) (10 - k) := MY_re hc1 (MX_q hc1.1)
    refine wf (hs := [67]) 60 46 (by decide) (And.intro rfl (m_blanks (d := d + 8) (MY_TM hT hc1) hc1.1.1 (by omega) ?_))
    rw [hs1] at h2 ⊢
    generalize setI I1 265 28 (iZ (s1.1 : Nat)) = I2 at h2 ⊢
    have hT2 := MY_TM hT h2
    have t27 : ∀ b, stB T t 27 s1.1 = b → (b = true ↔ tkZ T t s1.1 = 24) := fun b hb => by rw [← hb]; exact st_iff (by omega) st1
    have t28 : ∀ b, stB T t 28 s1.1 = b → (b = true ↔ tkZ T t s1.1 = 25) := fun b hb => by rw [← hb]; exact st_iff (by omega) st1
    refine And.intro rfl (m_stands (d := d + 5) (k := 27) (by omega) (by rw [txL_26.2.1]; omega) hT2 h2.1.1 (by omega) rfl (fun g => And.intro rfl (m_stands (d := d + 5) (k := 28) (by omega) (by rw [txL_26.2.2]; omega) hT2 h2.1.1 (by omega) rfl (fun g2 => ?_) (fun g2 => ?_))) (fun g => And.intro rfl (m_stands (d := d + 5) (k := 28) (by omega) (by rw [txL_26.2.2]; omega) hT2 h2.1.1 (by omega) rfl (fun g2 => ?_) (fun g2 => ?_))))
    · refine wp_keys [0, 1, 2, 3, 4] rfl rfl ?_
      exact B67 I2 true true h2 (t27 _ g) (t28 _ g2)
    · refine wp_keys [0, 1, 2, 3, 4] rfl rfl ?_
      exact B67 I2 true false h2 (t27 _ g) (t28 _ g2)
    · refine wp_keys [0, 1, 2, 3, 4] rfl rfl ?_
      exact B67 I2 false true h2 (t27 _ g) (t28 _ g2)
    · refine wp_keys [0, 1, 2, 3, 4] rfl rfl ?_
      exact B67 I2 false false h2 (t27 _ g) (t28 _ g2)
end MTEST3
