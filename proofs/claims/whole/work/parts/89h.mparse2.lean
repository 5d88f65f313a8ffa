/-! ===== the reference reads values ===== -/
def wtx (k : Nat) : Nat := if k = 4 then 5 else if k = 5 then 11 else if k = 6 then 12 else if k < 4 then k + 7 else k + 6
def INx (T : Nat → Int) (t q : Nat) (f c : Int) (L : List Int) (s : pS) : Prop := f = 0 → q ≤ t ∧ skp T t q = s.1 ∧ c = (s.2.1 : Nat) ∧ L = s.2.2 ∧ GBk t 0 s
theorem nuV_snoc {T : Nat → Int} : ∀ (n p : Nat) (v : Int), nuV T (n + 1) p v = nuV T n p v * 10 + T (p + n) - 48 := by
  intro n
  induction n with
  | zero => intro p v; rfl
  | succ n ih =>
    intro p v
    show nuV T (n + 1) (p + 1) (v * 10 + T p - 48) = nuV T n (p + 1) (v * 10 + T p - 48) * 10 + T (p + (n + 1)) - 48
    rw [ih, show p + 1 + n = p + (n + 1) by omega]
theorem wtx_cd : ∀ k, k < 19 → cdW (wtx k) = (if k < 7 then 12 + k else k - 7) ∧ (2 ≤ wtx k ∧ wtx k ≤ 28) ∧ txL (wtx k) ≤ 75 := by decide +kernel
section MVAL
variable {E : Nat × (Nat → Int32)} {d : Nat} {I I0 I1 : Nat → Nat → Int32} {J : Nat → Nat → Int64} {A : Nat → Option Nat} {Q : Option Value → am_M → Prop} {M : am_M} {T : Nat → Int} {t r q : Nat} {f c : Int} {L : List Int} {s : pS}
theorem cat2 {x : Int32} {a : Nat} : am_cat [.int x, .ref a] ≤ 8 := by
  show (2 : Nat) ≤ 8
  decide
theorem m_wordOf {k : Nat} {x : Int32} (hk : k ≤ 18) (ex : x = iZ k) (hQ : Q (some (.float (UInt32.ofNat (wtx k)))) M) : wpC E d 189 [.int x] M Q := by
  subst ex
  have hc : k = 0 ∨ k = 1 ∨ k = 2 ∨ k = 3 ∨ k = 4 ∨ k = 5 ∨ k = 6 ∨ k = 7 ∨ k = 8 ∨ k = 9 ∨ k = 10 ∨ k = 11 ∨ k = 12 ∨ k = 13 ∨ k = 14 ∨ k = 15 ∨ k = 16 ∨ k = 17 ∨ k = 18 := by omega
  rcases hc with rfl | rfl | rfl | rfl | rfl | rfl | rfl | rfl | rfl | rfl | rfl | rfl | rfl | rfl | rfl | rfl | rfl | rfl | rfl
  · exact wc (hs := []) 20 (by decide) (wtb 0 (by decide) (by decide) rfl hQ)
  · exact wc (hs := []) 20 (by decide) (wtb 1 (by decide) (by decide) rfl hQ)
  · exact wc (hs := []) 20 (by decide) (wtb 2 (by decide) (by decide) rfl hQ)
  · exact wc (hs := []) 20 (by decide) (wtb 3 (by decide) (by decide) rfl hQ)
  · exact wc (hs := []) 20 (by decide) (wtb 4 (by decide) (by decide) rfl hQ)
  · exact wc (hs := []) 20 (by decide) (wtb 5 (by decide) (by decide) rfl hQ)
  · exact wc (hs := []) 20 (by decide) (wtb 6 (by decide) (by decide) rfl hQ)
  · exact wc (hs := []) 20 (by decide) (wtb 7 (by decide) (by decide) rfl hQ)
  · exact wc (hs := []) 20 (by decide) (wtb 8 (by decide) (by decide) rfl hQ)
  · exact wc (hs := []) 20 (by decide) (wtb 9 (by decide) (by decide) rfl hQ)
  · exact wc (hs := []) 20 (by decide) (wtb 10 (by decide) (by decide) rfl hQ)
  · exact wc (hs := []) 20 (by decide) (wtb 11 (by decide) (by decide) rfl hQ)
  · exact wc (hs := []) 20 (by decide) (wtb 12 (by decide) (by decide) rfl hQ)
  · exact wc (hs := []) 20 (by decide) (wtb 13 (by decide) (by decide) rfl hQ)
  · exact wc (hs := []) 20 (by decide) (wtb 14 (by decide) (by decide) rfl hQ)
  · exact wc (hs := []) 20 (by decide) (wtb 15 (by decide) (by decide) rfl hQ)
  · exact wc (hs := []) 20 (by decide) (wtb 16 (by decide) (by decide) rfl hQ)
  · exact wc (hs := []) 20 (by decide) (wtb 17 (by decide) (by decide) rfl hQ)
  · exact wc (hs := []) 20 (by decide) (wtd (by decide) (by decide) hQ)
theorem tk39 {p : Nat} : tkZ T t p = 39 ↔ p < t ∧ 48 ≤ T p ∧ T p ≤ 57 := by
  constructor
  · intro h
    have pt := tk_lt (T := T) (t := t) (p := p) (by omega)
    refine ⟨pt, ?_⟩
    apply Classical.byContradiction
    intro n
    unfold tkZ at h
    rw [if_neg (by omega), if_neg n] at h
    by_cases q2 : 97 ≤ T p ∧ T p ≤ 122
    · rw [if_pos q2] at h
      have := wd_rng (T := T) (p := p) (e := rex T t 97 122 p) q2.1
      omega
    · rw [if_neg q2] at h
      exact (sgn_rng (c := T p) (e := eqB T t p)).2.2.1 h
  · intro h
    unfold tkZ
    rw [if_neg (by omega), if_pos h.2]
theorem m_digits {most : Int} {x : Int32} (hT : TM I0 T t) (h : MX I0 I r q f c L) (hq : q ≤ 500) (hm : 0 ≤ most ∧ most ≤ 99999) (ex : x = iZ most) (h1 : ∀ I' v, (q < t ∧ 48 ≤ T q ∧ T q ≤ 57) → (rex T t 48 57 q - q ≤ 5 → v = nuZ T t q) → (0 ≤ v ∧ v ≤ 99999) → MX I0 I' r (rex T t 48 57 q) (if f = 0 ∧ (5 < rex T t 48 57 q - q ∨ most < v) then flt 1 q else f) c L → Q (some (.int (iZ v))) (mm I' J A)) (h0 : ∀ I', ¬ (q < t ∧ 48 ≤ T q ∧ T q ≤ 57) → MX I0 I' r q (if f = 0 then flt 0 q else f) c L → Q (some (.int (iZ 0))) (mm I' J A)) : wpC E (d + 2) 199 [.ref 265, .int x] (mm I J A) Q := by
  subst ex
  have t4 := hT.1
  have hb := fun i hi => (hT.2.2 i hi).1
  have hTI := MX_TM hT h
  have B18 : (q < t ∧ 48 ≤ T q ∧ T q ≤ 57) → wp E (d + 2) 199 18 [(0, .ref 265), (1, .int (iZ most))] [] (mm I J A) Q := fun g => by
    have rb := rex_b (T := T) (lo := 48) (hi := 57) (show q ≤ t by omega)
    obtain ⟨e, he⟩ : ∃ e, e = rex T t 48 57 q := ⟨_, rfl⟩
    rw [← he] at h1 rb
    have vr : ∀ n, q + n ≤ e → n ≤ 5 → 0 ≤ nuV T n q 0 ∧ nuV T n q 0 ≤ 99999 := fun n hn h5 => by
      have := nuV_rng hb n q 0 (by omega) (fun i q1 q2 => rb.2.1 i q1 (by omega)) (by omega)
      refine ⟨this.1, ?_⟩
      have t2 := this.2
      have hc : n = 0 ∨ n = 1 ∨ n = 2 ∨ n = 3 ∨ n = 4 ∨ n = 5 := by omega
      rcases hc with rfl | rfl | rfl | rfl | rfl | rfl <;> omega
    -- the end
    have B72 : ∀ I', MX I0 I' r e f c L → wp E (d + 2) 199 72 [(0, .ref 265), (1, .int (iZ most)), (2, .int (iZ q)), (3, .int (iZ (nuV T (min (e - q) 5) q 0)))] [] (mm I' J A) Q := fun I' h' => by
      have v := vr (min (e - q) 5) (by omega) (by omega)
      have es : I' 265 28 - iZ (q : Int) = iZ ((e - q : Nat) : Int) := by rw [h'.1]; exact (iZ_sub _ _).trans (by congr 1; omega)
      have NU : e - q ≤ 5 → nuV T (min (e - q) 5) q 0 = nuZ T t q := fun w => by
        unfold nuZ
        rw [← he, if_neg (by omega), show min (e - q) 5 = e - q by omega]
      generalize nuV T (min (e - q) 5) q 0 = V at v NU
      have FL : (5 < e - q ∨ most < V) → wp E (d + 2) 199 87 [(0, .ref 265), (1, .int (iZ most)), (2, .int (iZ q)), (3, .int (iZ V))] [] (mm I' J A) Q := fun w => by
        refine wf (hs := []) 20 87 (by decide) (And.intro rfl (m_fails h' (by omega) (by omega) rfl rfl (fun I2 h2 => h1 I2 V g NU v ?_)))
        by_cases f0 : f = 0
        · rw [if_pos f0] at h2; rw [if_pos ⟨f0, w⟩]; exact h2
        · rw [if_neg f0] at h2; rw [if_neg (fun y => f0 y.1)]; exact h2
      by_cases w1 : 5 < e - q
      · have c0 : iZ 5 < I' 265 28 - iZ (q : Int) := by rw [es]; ((try simp (disch := omega) only [z_i8, z_i16, z_of, z_ofN, z_lofN, z_0, z_1, z_m1, z_l0, z_l1, iZ_add, iZ_sub, iZ_mul, iZ_neg, lZ_add, lZ_sub, lZ_mul, lZ_neg, z_div, z_ldiv, z_l, z_i, z_lt, z_le, z_eq, z_llt, z_lle, z_leq, z_cgt, z_cge, z_clt, z_cle, z_ceq, z_cl, z_nat, Int.toNat_natCast, mm_I, mm_J, z_cln, z_abs, z_max, z_min, z_lmax, z_lmin, z_sin, Int.cast_ofNat_Int, uI_I, uI_J, uL_I, uL_J, uA_I, uA_J, sI_eq, sI_ne, sL_eq, sL_ne, up_eq, up_ne, uL_eq, uL_ne, z_toInt, Int.reduceToNat]) <;> omega)
        exact wf (hs := [87]) 20 72 (by decide) (wt c0 (FL (Or.inl w1)))
      · have c0 : ¬ iZ 5 < I' 265 28 - iZ (q : Int) := by rw [es]; ((try simp (disch := omega) only [z_i8, z_i16, z_of, z_ofN, z_lofN, z_0, z_1, z_m1, z_l0, z_l1, iZ_add, iZ_sub, iZ_mul, iZ_neg, lZ_add, lZ_sub, lZ_mul, lZ_neg, z_div, z_ldiv, z_l, z_i, z_lt, z_le, z_eq, z_llt, z_lle, z_leq, z_cgt, z_cge, z_clt, z_cle, z_ceq, z_cl, z_nat, Int.toNat_natCast, mm_I, mm_J, z_cln, z_abs, z_max, z_min, z_lmax, z_lmin, z_sin, Int.cast_ofNat_Int, uI_I, uI_J, uL_I, uL_J, uA_I, uA_J, sI_eq, sI_ne, sL_eq, sL_ne, up_eq, up_ne, uL_eq, uL_ne, z_toInt, Int.reduceToNat]) <;> omega)
        refine wf (hs := [87]) 20 72 (by decide) (wF c0 (And.intro (fun w => ?_) (fun w => ?_)))
        · simp (disch := omega) only [z_i8, z_i16, z_of, z_ofN, z_lofN, z_0, z_1, z_m1, z_l0, z_l1, iZ_add, iZ_sub, iZ_mul, iZ_neg, lZ_add, lZ_sub, lZ_mul, lZ_neg, z_div, z_ldiv, z_l, z_i, z_lt, z_le, z_eq, z_llt, z_lle, z_leq, z_cgt, z_cge, z_clt, z_cle, z_ceq, z_cl, z_nat, Int.toNat_natCast, mm_I, mm_J, z_cln, z_abs, z_max, z_min, z_lmax, z_lmin, z_sin, Int.cast_ofNat_Int, uI_I, uI_J, uL_I, uL_J, uA_I, uA_J, sI_eq, sI_ne, sL_eq, sL_ne, up_eq, up_ne, uL_eq, uL_ne, z_toInt, Int.reduceToNat] at w
          exact h1 I' V g NU v (by rw [if_neg (by omega)]; exact h')
        · simp (disch := omega) only [z_i8, z_i16, z_of, z_ofN, z_lofN, z_0, z_1, z_m1, z_l0, z_l1, iZ_add, iZ_sub, iZ_mul, iZ_neg, lZ_add, lZ_sub, lZ_mul, lZ_neg, z_div, z_ldiv, z_l, z_i, z_lt, z_le, z_eq, z_llt, z_lle, z_leq, z_cgt, z_cge, z_clt, z_cle, z_ceq, z_cl, z_nat, Int.toNat_natCast, mm_I, mm_J, z_cln, z_abs, z_max, z_min, z_lmax, z_lmin, z_sin, Int.cast_ofNat_Int, uI_I, uI_J, uL_I, uL_J, uA_I, uA_J, sI_eq, sI_ne, sL_eq, sL_ne, up_eq, up_ne, uL_eq, uL_ne, z_toInt, Int.reduceToNat] at w
          exact FL (Or.inr (by omega))
    have Lp : ∀ (n q' : Nat) (I' : Nat → Nat → Int32) (x3 : Int32), q' + n = t → q ≤ q' → q' ≤ e → rex T t 48 57 q' = e → MX I0 I' r q' f c L → x3 = iZ (nuV T (min (q' - q) 5) q 0) → wp E (d + 2) 199 25 [(0, .ref 265), (1, .int (iZ most)), (2, .int (iZ q)), (3, .int x3)] [] (mm I' J A) Q := by
      intro n
      induction n with
      | zero =>
        intro q' I' x3 hn h1' h2' hr h' e3
        subst e3
        rw [rex_ge (by omega)] at hr
        subst hr
        exact wf (hs := [25, 72]) 20 25 (by decide) (And.intro rfl (m_isDigit (MX_TM hT h') h'.1 (by omega) (fun w => by omega) (fun w => wt rfl (B72 I' h'))))
      | succ n ih =>
        intro q' I' x3 hn h1' h2' hr h' e3
        subst e3
        have qt : q' < t := by omega
        rw [rex_lt qt] at hr
        refine wf (hs := [25, 58, 72]) 60 25 (by decide) (And.intro rfl (m_isDigit (MX_TM hT h') h'.1 (by omega) (fun w => wF (by decide) ?_) (fun w => wt rfl ?_)))
        · rw [if_pos w.2] at hr
          have es : I' 265 28 - iZ (q : Int) = iZ ((q' - q : Nat) : Int) := by rw [h'.1]; exact (iZ_sub _ _).trans (by congr 1; omega)
          have st : ∀ x3, x3 = iZ (nuV T (min (q' + 1 - q) 5) q 0) → wp E (d + 2) 199 58 [(0, .ref 265), (1, .int (iZ most)), (2, .int (iZ q)), (3, .int (iZ (nuV T (min (q' - q) 5) q 0)))] [.int x3] (mm I' J A) Q := fun x3 e3 => by
            have e : I' 265 28 + iZ 1 = iZ ((q' + 1 : Nat) : Int) := by rw [h'.1, iZ_add]; rfl
            have nb := (rex_b (T := T) (lo := 48) (hi := 57) (show q' + 1 ≤ t by omega)).1
            have N := ih (q' + 1) (setI I' 265 28 (iZ ((q' + 1 : Nat) : Int))) x3 (by omega) (by omega) (by omega) hr (MX_q h') e3
            rw [← e] at N
            refine wf (hs := [25]) 20 58 (by decide) ?_
            refine wp_keys [0, 1, 2, 3] rfl rfl ?_
            exact N
          by_cases w5 : q' - q < 5
          · have c0 : ¬ iZ 5 ≤ I' 265 28 - iZ (q : Int) := by rw [es]; ((try simp (disch := omega) only [z_i8, z_i16, z_of, z_ofN, z_lofN, z_0, z_1, z_m1, z_l0, z_l1, iZ_add, iZ_sub, iZ_mul, iZ_neg, lZ_add, lZ_sub, lZ_mul, lZ_neg, z_div, z_ldiv, z_l, z_i, z_lt, z_le, z_eq, z_llt, z_lle, z_leq, z_cgt, z_cge, z_clt, z_cle, z_ceq, z_cl, z_nat, Int.toNat_natCast, mm_I, mm_J, z_cln, z_abs, z_max, z_min, z_lmax, z_lmin, z_sin, Int.cast_ofNat_Int, uI_I, uI_J, uL_I, uL_J, uA_I, uA_J, sI_eq, sI_ne, sL_eq, sL_ne, up_eq, up_ne, uL_eq, uL_ne, z_toInt, Int.reduceToNat]) <;> omega)
            refine wF c0 (And.intro rfl (m_sign (MX_TM hT h') h'.1 (by omega) (st _ ?_)))
            have sg : sgA T t q' = T q' := by unfold sgA; rw [if_pos qt]
            rw [sg, show min (q' + 1 - q) 5 = (q' - q) + 1 by omega, nuV_snoc, show min (q' - q) 5 = q' - q by omega, show q + (q' - q) = q' by omega]
            show iZ 10 * iZ _ + iZ (T q') - iZ 48 = _
            rw [iZ_mul, iZ_add, iZ_sub]
            congr 1; omega
          · have c0 : iZ 5 ≤ I' 265 28 - iZ (q : Int) := by rw [es]; ((try simp (disch := omega) only [z_i8, z_i16, z_of, z_ofN, z_lofN, z_0, z_1, z_m1, z_l0, z_l1, iZ_add, iZ_sub, iZ_mul, iZ_neg, lZ_add, lZ_sub, lZ_mul, lZ_neg, z_div, z_ldiv, z_l, z_i, z_lt, z_le, z_eq, z_llt, z_lle, z_leq, z_cgt, z_cge, z_clt, z_cle, z_ceq, z_cl, z_nat, Int.toNat_natCast, mm_I, mm_J, z_cln, z_abs, z_max, z_min, z_lmax, z_lmin, z_sin, Int.cast_ofNat_Int, uI_I, uI_J, uL_I, uL_J, uA_I, uA_J, sI_eq, sI_ne, sL_eq, sL_ne, up_eq, up_ne, uL_eq, uL_ne, z_toInt, Int.reduceToNat]) <;> omega)
            exact wt c0 (st _ (by rw [show min (q' + 1 - q) 5 = min (q' - q) 5 by omega]))
        · rw [if_neg (fun y => w ⟨qt, y⟩)] at hr
          subst hr
          exact B72 I' h'
    refine wf (hs := [25]) 20 18 (by decide) ?_
    refine wp_keys [0, 1, 2, 3] rfl rfl ?_
    have N := Lp (t - q) q I (iZ 0) (by omega) (by omega) (by omega) he.symm h (by rw [Nat.sub_self]; rfl)
    rw [← h.1] at N
    exact N
  refine wc (hs := [18]) 20 (by decide) (And.intro rfl (m_isDigit hTI h.1 (by omega) (fun g => wF (by decide) (B18 g)) (fun g => wt rfl ?_)))
  exact And.intro rfl (m_fails (pl := q) h (by omega) (by omega) rfl h.1 (fun I2 h2 => h0 I2 g h2))
theorem m_value (hT : TM I0 T t) (hr : r < 6) (h30 : I0 265 30 = iZ r) (h36 : I0 265 36 = iZ 19) (h : MX I0 I r q f c L) (hq : q ≤ 500) (hi : INx T t q f c L s) (hQ : ∀ I' q' f' c' L', MX I0 I' r q' f' c' L' → PRx T t f L (vlZ T t s) q' f' c' L' → Q none (mm I' J A)) : wpC E (d + 5) 200 [.ref 265] (mm I J A) Q := by
  have t4 := hT.1
  have hb := fun i hi => (hT.2.2 i hi).1
  have skl : skp T t q ≤ 500 := by
    by_cases w : q ≤ t
    · have := (skp_b (T := T) w).2.1; omega
    · rw [skp_ge (by omega)]; exact hq
  obtain ⟨p, hp⟩ : ∃ p, p = skp T t q := ⟨_, rfl⟩
  have h2 := MX_q (q' := p) h
  have pid : p ≤ t → skp T t p = p := fun w => by
    rw [hp]
    by_cases w2 : q ≤ t
    · exact skp_sk w2
    · rw [skp_ge (t := t) (p := q) (by omega)]; rw [skp_ge (by omega)]
  rw [← hp] at skl
  refine wc (hs := [4]) 20 (by decide) (And.intro rfl (m_blanks (d := d + 3) (MX_TM hT h) h.1 (by omega) ?_))
  rw [← hp]
  generalize setI I 265 28 (iZ (p : Int)) = I1 at h2
  refine wp_keys [0] rfl rfl ?_
  have TR := tk_rng (T := T) (t := t) (p := p)
  have c60 : f = 0 → 0 ≤ c ∧ c ≤ 60 := fun w => by
    have := hi w
    have := this.2.2.2.2.2.1
    omega
  have l300 : f = 0 → L.length < 300 := fun w => by
    have i1 := hi w
    have g := i1.2.2.2.2
    rw [i1.2.2.2.1]
    have := g.2.2
    have := g.2.1
    have := g.1
    omega
  have sv : f = 0 → s = (p, c.toNat, L) ∧ p ≤ t := fun w => by
    obtain ⟨i1, i2, i3, i4, i5⟩ := hi w
    obtain ⟨s1, s2, s3⟩ := s
    dsimp only at i2 i3 i4
    rw [hp, i2, i3, i4]
    exact ⟨rfl, by have := (skp_b (T := T) i1).2.1; omega⟩
  -- a word at p
  have B38 : ¬ (p < t ∧ 48 ≤ T p ∧ T p ≤ 57) → wp E (d + 5) 200 36 [(0, .ref 265), (1, .int (iZ p))] [] (mm I1 J A) Q := fun nd => by
    have ntk : tkZ T t p ≠ 39 := fun w => nd (tk39.mp w)
    have i36 : I1 265 36 = iZ 19 := by rw [h2.2.2.2.2.2.1.2.1 36 (by omega) (by omega) (by omega) (by omega)]; exact h36
    have Lw : ∀ (n k : Nat) (x2 : Int32), k + n = 19 → (∀ j, j < k → stB T t (wtx j) p = false) → x2 = iZ k → wp E (d + 5) 200 38 [(0, .ref 265), (1, .int (iZ p)), (2, .int x2)] [] (mm I1 J A) Q := by
      intro n
      induction n with
      | zero =>
        intro k x2 hk hno e2
        subst e2
        have : k = 19 := by omega
        subst this
        have c1 : I1 265 36 ≤ iZ (19 : Nat) := by rw [i36]; decide
        have c2 : iZ (19 : Nat) = I1 265 36 := by rw [i36]; rfl
        refine wf (hs := [38]) 40 38 (by decide) (wt c1 (wt c2 (And.intro rfl (m_fails (k := 0) (pl := p) h2 (by omega) (by omega) rfl rfl (fun I3 h3 => hQ I3 _ _ _ _ h3 ⟨skl, fun w => by rw [if_neg w], fun w => ?_⟩)))))
        obtain ⟨es, pt⟩ := sv w
        have v0 : vlZ T t s = .error (flt 0 p) := by
          rw [es]
          unfold vlZ
          dsimp only
          rw [if_neg ntk, if_neg ?_]
          intro h18
          have k18 : ∃ j, j < 19 ∧ (if j < 7 then 12 + j else j - 7 : Nat) = (tkZ T t p).toNat := by
            by_cases w2 : tkZ T t p ≤ 11
            · exact ⟨(tkZ T t p).toNat + 7, by omega, by rw [if_neg (by omega)]; omega⟩
            · exact ⟨(tkZ T t p).toNat - 12, by omega, by rw [if_pos (by omega)]; omega⟩
          obtain ⟨j, j1, j2⟩ := k18
          obtain ⟨w1, w2, -⟩ := wtx_cd j j1
          have := (st_iff (T := T) w2 pt).mpr (by rw [w1, j2]; omega)
          rw [hno j j1] at this
          cases this
        rw [v0, if_pos w]
        exact ⟨rfl, by unfold flt; omega⟩
      | succ n ih =>
        intro k x2 hk hno e2
        subst e2
        obtain ⟨w1, w2, w3⟩ := wtx_cd k (by omega)
        have c1 : ¬ I1 265 36 ≤ iZ (k : Int) := by rw [i36]; ((try simp (disch := omega) only [z_i8, z_i16, z_of, z_ofN, z_lofN, z_0, z_1, z_m1, z_l0, z_l1, iZ_add, iZ_sub, iZ_mul, iZ_neg, lZ_add, lZ_sub, lZ_mul, lZ_neg, z_div, z_ldiv, z_l, z_i, z_lt, z_le, z_eq, z_llt, z_lle, z_leq, z_cgt, z_cge, z_clt, z_cle, z_ceq, z_cl, z_nat, Int.toNat_natCast, mm_I, mm_J, z_cln, z_abs, z_max, z_min, z_lmax, z_lmin, z_sin, Int.cast_ofNat_Int, uI_I, uI_J, uL_I, uL_J, uA_I, uA_J, sI_eq, sI_ne, sL_eq, sL_ne, up_eq, up_ne, uL_eq, uL_ne, z_toInt, Int.reduceToNat]) <;> omega)
        have B63 : stB T t (wtx k) p = true → wp E (d + 5) 200 63 [(0, .ref 265), (1, .int (iZ p)), (2, .int (iZ k))] [] (mm I1 J A) Q := fun hst => by
          have c2 : ¬ iZ (k : Int) = I1 265 36 := by rw [i36]; ((try simp (disch := omega) only [z_i8, z_i16, z_of, z_ofN, z_lofN, z_0, z_1, z_m1, z_l0, z_l1, iZ_add, iZ_sub, iZ_mul, iZ_neg, lZ_add, lZ_sub, lZ_mul, lZ_neg, z_div, z_ldiv, z_l, z_i, z_lt, z_le, z_eq, z_llt, z_lle, z_leq, z_cgt, z_cge, z_clt, z_cle, z_ceq, z_cl, z_nat, Int.toNat_natCast, mm_I, mm_J, z_cln, z_abs, z_max, z_min, z_lmax, z_lmin, z_sin, Int.cast_ofNat_Int, uI_I, uI_J, uL_I, uL_J, uA_I, uA_J, sI_eq, sI_ne, sL_eq, sL_ne, up_eq, up_ne, uL_eq, uL_ne, z_toInt, Int.reduceToNat]) <;> omega)
          have len : rex T t 97 122 p - p = txL (wtx k) := by
            unfold stB at hst
            rw [Bool.and_eq_true] at hst
            exact of_decide_eq_true hst.1
          have pl1 : p + txL (wtx k) = rex T t 97 122 p ∧ rex T t 97 122 p ≤ 500 := by
            by_cases w4 : p ≤ t
            · have := (rex_b (T := T) (lo := 97) (hi := 122) w4).1; omega
            · rw [rex_ge (by omega)] at len ⊢; omega
          refine wf (hs := []) 60 63 (by decide) (wF c2 (And.intro rfl (m_counted (pl := p) h2 c60 (by omega) rfl (fun I3 h3 => And.intro rfl (m_wordOf (by omega) rfl (And.intro (rc_len (by omega) cat2) (tx_len (d := d + 3) (by omega) ?_)))))))
          have h4 := MX_q (q' := p + txL (wtx k)) h3
          have e4 : I3 265 28 + iZ (txL (wtx k) : Nat) = iZ ((p + txL (wtx k) : Nat) : Int) := by rw [h3.1]; exact (iZ_add _ _).trans (by congr 1)
          rw [← e4] at h4
          refine And.intro rfl (m_entry (a := 1) (b := (k : Int)) (x := ((if k < 7 then 12 + k else k - 7 : Nat) : Int)) hr h4 h30 (fun w => l300 ?_) (fun w => ?_) (by omega) (by omega) rfl rfl (fun I5 h5 => hQ I5 _ _ _ _ h5 ⟨by omega, fun w => by rw [if_neg (fun y => w y.1)], fun w => ?_⟩))
          · by_cases w5 : f = 0 ∧ c = 60
            · exact w5.1
            · rw [if_neg w5] at w; exact w
          · unfold ENT
            split <;> omega
          · obtain ⟨es, pt⟩ := sv w
            have tkc : tkZ T t p = ((if k < 7 then 12 + k else k - 7 : Nat) : Int) := by rw [(st_iff (T := T) w2 pt).mp hst, w1]
            have t18 : tkZ T t p ≤ 18 := by rw [tkc]; split <;> omega
            have ptl := tk_lt (T := T) (t := t) (p := p) (by omega)
            have cc := c60 w
            by_cases w5 : c = 60
            · have v0 : vlZ T t s = .error (flt 3 p) := by
                rw [es]; unfold vlZ; dsimp only
                rw [if_neg ntk, if_pos t18, if_pos (by omega)]
              rw [v0, if_pos ⟨w, w5⟩]
              exact ⟨rfl, by unfold flt; omega⟩
            · have v0 : vlZ T t s = .ok (nxZ T t p, c.toNat + 1, L ++ [tkZ T t p]) := by
                rw [es]; unfold vlZ; dsimp only
                rw [if_neg ntk, if_pos t18, if_neg (by omega)]
              rw [v0, if_neg (fun y => w5 y.2)]
              have l97 : 97 ≤ T p ∧ T p ≤ 122 := by
                apply Classical.byContradiction
                intro n
                rw [rex_lt ptl, if_neg n] at len
                have := (st_iff (T := T) w2 pt).mp hst
                have l1 : 1 ≤ txL (wtx k) := by
                  have : ∀ k, k < 19 → 1 ≤ txL (wtx k) := by decide +kernel
                  exact this k (by omega)
                omega
              have en : enZ T t p = p + txL (wtx k) := by
                unfold enZ
                rw [if_neg (by omega), if_pos l97, pl1.1]
              refine ⟨w, by have := (rex_b (T := T) (lo := 97) (hi := 122) pt).1.2; omega, ?_, ?_, ?_⟩
              · show skp T t (p + txL (wtx k)) = nxZ T t p
                unfold nxZ
                rw [en]
              · show c + 1 = ((c.toNat + 1 : Nat) : Int)
                omega
              · rw [if_pos w, tkc]
        refine wf (hs := [38, 63]) 40 38 (by decide) (wF c1 (And.intro rfl (m_wordOf (by omega) rfl (And.intro rfl (m_stands (d := d) (k := wtx k) (by omega) w3 (MX_TM hT h2) h2.1 (by omega) rfl (fun g => wF (by decide) (B63 g)) (fun g => wt rfl ?_))))))
        refine wp_keys [0, 1, 2] rfl rfl ?_
        refine ih (k + 1) _ (by omega) (fun j hj => ?_) (iZ_add k 1)
        by_cases w5 : j = k
        · rw [w5]; exact g
        · exact hno j (by omega)
    refine wf (hs := [38]) 20 36 (by decide) ?_
    refine wp_keys [0, 1, 2] rfl rfl ?_
    exact Lw 19 0 _ (by omega) (fun j hj => by omega) rfl
  have N : wp E (d + 5) 200 9 [(0, .ref 265), (1, .int (iZ p))] [] (mm I1 J A) Q := by
    refine wf (hs := [36]) 40 9 (by decide) (And.intro rfl (m_isDigit (MX_TM hT h2) h2.1 (by omega) (fun g => wF (by decide) ?_) (fun g => wt rfl (B38 g))))
    have rb := rex_b (T := T) (lo := 48) (hi := 57) (show p ≤ t by omega)
    refine And.intro rfl (m_digits (most := 99999) hT h2 skl (by omega) rfl (fun I3 v gd nu vr h3 => ?_) (fun I3 gd h3 => absurd g gd))
    have f1 : f ≠ 0 → (if f = 0 ∧ (5 < rex T t 48 57 p - p ∨ 99999 < v) then flt 1 p else f) = f := fun w => if_neg (fun y => w y.1)
    refine And.intro rfl (m_counted (pl := p) h3 (fun w => c60 ?_) (by omega) rfl (fun I4 h4 => ?_))
    · by_cases w5 : f = 0 ∧ (5 < rex T t 48 57 p - p ∨ 99999 < v)
      · exact w5.1
      · rw [if_neg w5] at w; exact w
    refine And.intro rfl (m_entry (a := 0) (b := v) (x := 100 + v) hr h4 h30 (fun w => l300 ?_) (fun w => ?_) (by omega) (by omega) rfl rfl (fun I5 h5 => hQ I5 _ _ _ _ h5 ⟨by omega, fun w => ?_, fun w => ?_⟩))
    · apply Classical.byContradiction
      intro nf
      rw [f1 nf, if_neg (fun y => nf y.1)] at w
      exact nf w
    · unfold ENT
      omega
    · rw [f1 w, if_neg (fun y => w y.1)]
    · obtain ⟨es, pt⟩ := sv w
      have tk := tk39.mpr g
      have cc := c60 w
      have en : enZ T t p = rex T t 48 57 p := by unfold enZ; rw [if_pos g.2]
      by_cases w5 : 5 < rex T t 48 57 p - p
      · have n1 : nuZ T t p = -1 := by unfold nuZ; rw [if_pos w5]
        have v0 : vlZ T t s = .error (flt 1 p) := by
          rw [es]; unfold vlZ; dsimp only
          rw [if_pos tk, if_pos (by omega)]
        have fe : (if f = 0 ∧ (5 < rex T t 48 57 p - p ∨ 99999 < v) then flt 1 p else f) = flt 1 p := if_pos ⟨w, Or.inl w5⟩
        have fne : flt 1 p ≠ 0 := by unfold flt; omega
        rw [v0, fe, if_neg (fun y => fne y.1)]
        exact ⟨rfl, fne⟩
      · have nv := nu (by omega)
        have fe : (if f = 0 ∧ (5 < rex T t 48 57 p - p ∨ 99999 < v) then flt 1 p else f) = f := if_neg (by omega)
        rw [fe]
        by_cases w6 : c = 60
        · have v0 : vlZ T t s = .error (flt 3 p) := by
            rw [es]; unfold vlZ; dsimp only
            rw [if_pos tk, if_neg (by omega), if_pos (by omega)]
          rw [v0, if_pos ⟨w, w6⟩]
          exact ⟨rfl, by unfold flt; omega⟩
        · have v0 : vlZ T t s = .ok (nxZ T t p, c.toNat + 1, L ++ [100 + nuZ T t p]) := by
            rw [es]; unfold vlZ; dsimp only
            rw [if_pos tk, if_neg (by omega), if_neg (by omega)]
          rw [v0, if_neg (fun y => w6 y.2)]
          refine ⟨w, rb.1.2, ?_, ?_, ?_⟩
          · show skp T t (rex T t 48 57 p) = nxZ T t p
            unfold nxZ
            rw [en]
          · show c + 1 = ((c.toNat + 1 : Nat) : Int)
            omega
          · rw [if_pos w, nv]
  have e28 : I1 265 28 = iZ (p : Int) := h2.1
  rw [← e28] at N
  refine wf (hs := [9]) 20 4 (by decide) ?_
  refine wp_keys [0, 1] rfl rfl ?_
  exact N
end MVAL
