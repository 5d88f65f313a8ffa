/-! ===== facts and tests, pure ===== -/
def PQx (t : Nat) (j : Nat) (s s' : pS) : Prop := (s.1 ≤ s'.1 ∧ s'.1 ≤ t) ∧ (s.2.1 + j ≤ s'.2.1) ∧ ∃ e, s'.2.2 = s.2.2 ++ e ∧ (∀ h : Nat, h + (s'.2.1 - s.2.1) ≤ 60 → okL e h = some (h + j)) ∧ 3 * (e.length : Int) + 3 * j ≤ 6 * ((s'.2.1 : Int) - s.2.1) + ((s'.1 : Int) - s.1)
section FACTS2
variable {T : Nat → Int} {t : Nat}
theorem PQ_0 {s : pS} (h : s.1 ≤ t) : PQx t 0 s s := ⟨⟨Nat.le_refl _, h⟩, Nat.le_refl _, [], by rw [List.append_nil], fun h _ => rfl, by show 3 * ((0 : Nat) : Int) + 3 * ((0 : Nat) : Int) ≤ _; omega⟩
theorem PQ_fact {j : Nat} {s0 s s1 : pS} (h : PQx t j s0 s) (h2 : PPx t 0 1 3 s s1) : PQx t (j + 1) s0 s1 := by
  obtain ⟨a1, a2, e1, a3, a4, a5⟩ := h
  obtain ⟨b1, b2, e2, b3, b4, b5⟩ := h2
  refine ⟨by omega, by omega, e1 ++ e2, by rw [b3, a3, List.append_assoc], fun h hh => ?_, ?_⟩
  · rw [okL_app, a4 h (by omega)]
    show okL e2 (h + j) = _
    have := b4 (h + j) (by omega)
    rw [Nat.add_zero] at this
    rw [this]; congr 1
  · rw [List.length_append]; omega
theorem PQ_bin {j : Nat} {x : Int} {s0 s : pS} (hx : 24 ≤ x ∧ x ≤ 35) (hn : x ≠ 26) (h : PQx t (j + 2) s0 s) : PQx t (j + 1) s0 (apL x s) := by
  obtain ⟨a1, a2, e1, a3, a4, a5⟩ := h
  refine ⟨a1, by show s0.2.1 + (j + 1) ≤ s.2.1; omega, e1 ++ [x], by show s.2.2 ++ [x] = _; rw [a3, List.append_assoc], fun h hh => ?_, ?_⟩
  · rw [okL_app, a4 h hh]
    show okL [x] (h + (j + 2)) = _
    rw [okL_2 hx hn (by omega)]; congr 1
  · show 3 * (((e1 ++ [x]).length : Nat) : Int) + 3 * ((j + 1 : Nat) : Int) ≤ 6 * ((s.2.1 : Int) - s0.2.1) + ((s.1 : Int) - s0.1)
    rw [List.length_append]
    have : [x].length = 1 := rfl
    omega
theorem PQ_stp {j : Nat} {s0 s : pS} (h : PQx t j s0 s) (hp : s.1 < t) : PQx t j s0 (stp1 T t s) := by
  obtain ⟨a1, a2, e1, a3, a4, a5⟩ := h
  have nb := nx_b (T := T) hp
  refine ⟨⟨by show s0.1 ≤ nxZ T t s.1; omega, nb.2⟩, a2, e1, a3, a4, ?_⟩
  show 3 * (e1.length : Int) + 3 * j ≤ 6 * ((s.2.1 : Int) - s0.2.1) + ((nxZ T t s.1 : Int) - s0.1)
  omega
theorem PQ_PP {s0 s : pS} (h : PQx t 1 s0 s) (hp : s0.1 < s.1) (hc : s.2.1 ≤ 60) : PPx t 0 1 3 s0 s := by
  obtain ⟨a1, a2, e1, a3, a4, a5⟩ := h
  exact ⟨⟨hp, a1.2⟩, ⟨by omega, hc⟩, e1, a3, fun h hh => by have := a4 h (by omega); rw [Nat.add_zero]; exact this, by omega⟩
theorem ts_ok {fc : pS → pR} (hf : ∀ s s', fc s = .ok s' → PPx t 0 1 3 s s') {s0 : pS} : ∀ (n : Nat) (a o : Bool) (s s' : pS), PQx t ((if a then 1 else 0) + (if o then 1 else 0)) s0 s → tsL T t fc n a o s = .ok s' → PPx t 0 1 3 s0 s' := by
  intro n
  induction n with
  | zero => intro a o s s' _ h; cases h
  | succ n ih =>
    intro a o s s' h0 h
    unfold tsL at h
    cases hv : fc s with
    | error e => rw [hv] at h; cases h
    | ok s1 =>
      rw [hv] at h
      have p1 := hf s s1 hv
      have q1 := PQ_fact h0 p1
      have hc : s1.2.1 ≤ 60 := p1.2.1.2
      have hp : s0.1 < s1.1 := by have := h0.1.1; have := p1.1.1; omega
      have q2 : PQx t ((if o then 1 else 0) + 1) s0 (apB a 24 s1) := by
        cases a with
        | true =>
          refine PQ_bin (by omega) (by omega) ?_
          have e : (if true = true then 1 else 0) + (if o = true then 1 else 0) + 1 = (if o = true then 1 else 0) + 2 := by rw [if_pos rfl]; omega
          rw [← e]; exact q1
        | false =>
          have e : (if false = true then 1 else 0) + (if o = true then 1 else 0) + 1 = (if o = true then 1 else 0) + 1 := by rw [if_neg (by decide)]; omega
          rw [← e]; exact q1
      have q3 : PQx t 1 s0 (apB o 25 (apB a 24 s1)) := by
        cases o with
        | true => exact PQ_bin (j := 0) (by omega) (by omega) q2
        | false => exact q2
      have c2 : (apB a 24 s1).1 = s1.1 ∧ (apB a 24 s1).2.1 = s1.2.1 := by cases a <;> exact ⟨rfl, rfl⟩
      have c3 : (apB o 25 (apB a 24 s1)).1 = s1.1 ∧ (apB o 25 (apB a 24 s1)).2.1 = s1.2.1 := by cases o <;> exact c2
      have h : (if tkZ T t s1.1 = 24 then tsL T t fc n true o (stp1 T t (apB a 24 s1)) else if tkZ T t s1.1 = 25 then tsL T t fc n false true (stp1 T t (apB o 25 (apB a 24 s1))) else .ok (apB o 25 (apB a 24 s1))) = .ok s' := h
      by_cases w1 : tkZ T t s1.1 = 24
      · rw [if_pos w1] at h
        refine ih true o _ _ (PQ_stp ?_ (by rw [c2.1]; exact tk_lt (T := T) (by omega))) h
        rw [if_pos rfl, Nat.add_comm]; exact q2
      · rw [if_neg w1] at h
        by_cases w2 : tkZ T t s1.1 = 25
        · rw [if_pos w2] at h
          refine ih false true _ _ (PQ_stp ?_ (by rw [c3.1]; exact tk_lt (T := T) (by omega))) h
          rw [if_neg (by decide), if_pos rfl]; exact q3
        · rw [if_neg w2] at h
          cases h
          exact PQ_PP q3 (by rw [c3.1]; exact hp) (by rw [c3.2]; exact hc)
theorem wdL_mt {T : Nat → Int} {p e : Nat} : ∀ n w (w' : Nat), wdL T p e n w = (w' : Int) → w' ≠ 41 → mtW T p e w' = true := by
  intro n
  induction n with
  | zero => intro w w' h hn; exfalso; have h : (41 : Int) = w' := h; omega
  | succ n ih =>
    intro w w' h hn
    unfold wdL at h
    by_cases q : mtW T p e w = true
    · rw [if_pos q] at h
      have : w = w' := by omega
      rw [← this]; exact q
    · rw [if_neg q] at h
      exact ih _ _ h hn
theorem mt_at {T : Nat → Int} {p e w i : Nat} (h : mtW T p e w = true) (hi : i < 5) : (if p + i < e then T (p + i) else 32) = W5 w i := by
  unfold mtW at h
  rw [Bool.and_eq_true] at h
  exact of_decide_eq_true (List.all_eq_true.mp h.2 i (List.mem_range.mpr hi))
theorem not3 {p : Nat} (h : tkZ T t p = 26) : p + 3 ≤ nxZ T t p := by
  have pt := tk_lt (T := T) (t := t) (p := p) (by omega)
  have tk0 : tkZ T t p = if 48 ≤ T p ∧ T p ≤ 57 then 39 else if 97 ≤ T p ∧ T p ≤ 122 then wdZ T p (rex T t 97 122 p) else sgn (T p) (eqB T t p) := by
    unfold tkZ
    rw [if_neg (by omega)]
  have eb := skp_b (T := T) (en_b (T := T) pt).2
  by_cases q1 : 48 ≤ T p ∧ T p ≤ 57
  · rw [if_pos q1] at tk0; omega
  · rw [if_neg q1] at tk0
    by_cases q2 : 97 ≤ T p ∧ T p ≤ 122
    · rw [if_pos q2] at tk0
      have en : enZ T t p = rex T t 97 122 p := by
        unfold enZ
        rw [if_neg q1, if_pos q2]
      rw [h] at tk0
      unfold wdZ at tk0
      by_cases q3 : rex T t 97 122 p - p = 1 ∧ T p ≤ 108
      · rw [if_pos q3] at tk0; omega
      · rw [if_neg q3] at tk0
        have mt := wdL_mt 15 12 26 tk0.symm (by omega)
        have m2 := mt_at (i := 2) mt (by omega)
        have w2 : W5 26 2 = 116 := by decide +kernel
        rw [w2] at m2
        unfold nxZ
        by_cases q4 : p + 2 < rex T t 97 122 p
        · omega
        · rw [if_neg q4] at m2; omega
    · rw [if_neg q2] at tk0
      have := sgn_rng (c := T p) (e := eqB T t p)
      omega
theorem fc_ok (hT : ∀ i, i < t → 0 ≤ T i ∧ T i ≤ 255) : ∀ (k : Nat) (s s' : pS), fcZ T t k s = .ok s' → PPx t 0 1 3 s s' := by
  intro k
  induction k with
  | zero =>
    intro s s' h
    unfold fcZ at h
    by_cases q : tkZ T t s.1 = 26 ∨ tkZ T t s.1 = 37
    · rw [if_pos q] at h; cases h
    · rw [if_neg q] at h; exact cm_ok hT h
  | succ k ih =>
    intro s s' h
    unfold fcZ at h
    by_cases q : tkZ T t s.1 = 26
    · rw [if_pos q] at h
      cases hv : fcZ T t k (stp1 T t s) with
      | error e => rw [hv] at h; cases h
      | ok s1 =>
        rw [hv] at h
        have h : (.ok (apL 26 s1) : pR) = .ok s' := h
        cases h
        have n3 := not3 q
        obtain ⟨b1, b2, e2, b3, b4, b5⟩ := ih _ _ hv
        refine ⟨⟨by show s.1 < s1.1; have b1 : nxZ T t s.1 < s1.1 ∧ s1.1 ≤ t := b1; omega, b1.2⟩, b2, e2 ++ [26], by show s1.2.2 ++ [26] = _; rw [b3, ← List.append_assoc]; rfl, fun h hh => ?_, ?_⟩
        · rw [okL_app, b4 h hh]
          exact okL_3 (by omega)
        · show 3 * (((e2 ++ [26]).length : Nat) : Int) + 3 ≤ 6 * ((s1.2.1 : Int) - s.2.1) + ((s1.1 : Int) - s.1)
          have b5 : 3 * (e2.length : Int) + 3 ≤ 6 * ((s1.2.1 : Int) - s.2.1) + ((s1.1 : Int) - (nxZ T t s.1 : Int)) := b5
          rw [List.length_append]
          have : [(26 : Int)].length = 1 := rfl
          omega
    · rw [if_neg q] at h
      by_cases q2 : tkZ T t s.1 = 37
      · rw [if_pos q2] at h
        have pt := tk_lt (T := T) (t := t) (p := s.1) (by omega)
        have nb := nx_b (T := T) pt
        cases hv : tsL T t (fcZ T t k) 401 false false (stp1 T t s) with
        | error e => rw [hv] at h; cases h
        | ok s1 =>
          rw [hv] at h
          have h : (if tkZ T t s1.1 = 38 then (.ok (stp1 T t s1) : pR) else .error (flt 0 s1.1)) = .ok s' := h
          by_cases q3 : tkZ T t s1.1 = 38
          · rw [if_pos q3] at h
            cases h
            have pt1 := tk_lt (T := T) (t := t) (p := s1.1) (by omega)
            have nb1 := nx_b (T := T) pt1
            obtain ⟨b1, b2, e2, b3, b4, b5⟩ := ts_ok (T := T) (s0 := stp1 T t s) ih 401 false false _ _ (PQ_0 nb.2) hv
            refine ⟨⟨by show s.1 < nxZ T t s1.1; have b1 : nxZ T t s.1 < s1.1 ∧ s1.1 ≤ t := b1; omega, nb1.2⟩, b2, e2, b3, b4, ?_⟩
            show 3 * (e2.length : Int) + 3 ≤ 6 * ((s1.2.1 : Int) - s.2.1) + ((nxZ T t s1.1 : Int) - s.1)
            have b5 : 3 * (e2.length : Int) + 3 ≤ 6 * ((s1.2.1 : Int) - s.2.1) + ((s1.1 : Int) - (nxZ T t s.1 : Int)) := b5
            omega
          · rw [if_neg q3] at h; cases h
      · rw [if_neg q2] at h; exact cm_ok hT h
/-! the class's one loop for a sum -/
def csL (T : Nat → Int) (t : Nat) : Nat → Int → Int → pS → pR
  | 0, _, _, _ => .error 0
  | n + 1, a, b, s => bnd (vlZ T t s) (fun s1 => if tkZ T t s1.1 = 29 ∨ tkZ T t s1.1 = 30 then csL T t n (tkZ T t s1.1) b (stp1 T t (apB (decide (a ≠ 0)) a s1)) else if tkZ T t s1.1 = 27 ∨ tkZ T t s1.1 = 28 then csL T t n 0 (tkZ T t s1.1) (stp1 T t (apB (decide (b ≠ 0)) b (apB (decide (a ≠ 0)) a s1))) else .ok (apB (decide (b ≠ 0)) b (apB (decide (a ≠ 0)) a s1)))
theorem tm_fuel (h4 : t ≤ 400) (hT : ∀ i, i < t → 0 ≤ T i ∧ T i ≤ 255) : ∀ (n m : Nat) (s : pS), s.1 ≤ t → 401 ≤ s.1 + n → 401 ≤ s.1 + m → tmL T t n s = tmL T t m s := by
  intro n
  induction n with
  | zero => intro m s h1 h2 _; omega
  | succ n ih =>
    intro m s h1 h2 h3
    cases m with
    | zero => omega
    | succ m =>
      unfold tmL
      by_cases q : tkZ T t s.1 = 29 ∨ tkZ T t s.1 = 30
      · rw [if_pos q, if_pos q]
        cases hv : vlZ T t (stp1 T t s) with
        | error e => rfl
        | ok s1 =>
          have pp := vl_ok hT hv
          have nb := nx_b (T := T) (tk_lt (T := T) (t := t) (p := s.1) (by omega))
          have p1 : nxZ T t s.1 < s1.1 := pp.1.1
          exact ih m _ pp.1.2 (by show 401 ≤ s1.1 + n; omega) (by show 401 ≤ s1.1 + m; omega)
      · rw [if_neg q, if_neg q]
theorem sm_fuel (h4 : t ≤ 400) (hT : ∀ i, i < t → 0 ≤ T i ∧ T i ≤ 255) : ∀ (n m : Nat) (s : pS), s.1 ≤ t → 401 ≤ s.1 + n → 401 ≤ s.1 + m → smL T t n s = smL T t m s := by
  intro n
  induction n with
  | zero => intro m s h1 h2 _; omega
  | succ n ih =>
    intro m s h1 h2 h3
    cases m with
    | zero => omega
    | succ m =>
      unfold smL
      by_cases q : tkZ T t s.1 = 27 ∨ tkZ T t s.1 = 28
      · rw [if_pos q, if_pos q]
        cases hv : trm T t (stp1 T t s) with
        | error e => rfl
        | ok s1 =>
          have pp := trm_ok hT hv
          have nb := nx_b (T := T) (tk_lt (T := T) (t := t) (p := s.1) (by omega))
          have p1 : nxZ T t s.1 < s1.1 := pp.1.1
          exact ih m _ pp.1.2 (by show 401 ≤ s1.1 + n; omega) (by show 401 ≤ s1.1 + m; omega)
      · rw [if_neg q, if_neg q]
theorem apB_1 {b : Bool} {x : Int} {s : pS} : (apB b x s).1 = s.1 := by cases b <;> rfl
theorem cs_tail (h4 : t ≤ 400) (hT : ∀ i, i < t → 0 ≤ T i ∧ T i ≤ 255) : ∀ (n : Nat) (a b : Int) (s : pS), s.1 ≤ t → 401 ≤ s.1 + n → (b = 0 ∨ b = 27 ∨ b = 28) → csL T t n a b s = bnd (vlZ T t s) (fun s1 => bnd (tmL T t 401 (apB (decide (a ≠ 0)) a s1)) (fun s3 => smL T t 401 (apB (decide (b ≠ 0)) b s3))) := by
  intro n
  induction n with
  | zero => intro a b s h1 h2 _; omega
  | succ n ih =>
    intro a b s h1 h2 hb
    unfold csL
    cases hv : vlZ T t s with
    | error e => rfl
    | ok s1 =>
      have pp := vl_ok hT hv
      have p1 := pp.1
      show (if tkZ T t s1.1 = 29 ∨ tkZ T t s1.1 = 30 then csL T t n (tkZ T t s1.1) b (stp1 T t (apB (decide (a ≠ 0)) a s1)) else if tkZ T t s1.1 = 27 ∨ tkZ T t s1.1 = 28 then csL T t n 0 (tkZ T t s1.1) (stp1 T t (apB (decide (b ≠ 0)) b (apB (decide (a ≠ 0)) a s1))) else .ok (apB (decide (b ≠ 0)) b (apB (decide (a ≠ 0)) a s1))) = bnd (tmL T t 401 (apB (decide (a ≠ 0)) a s1)) (fun s3 => smL T t 401 (apB (decide (b ≠ 0)) b s3))
      generalize hs2 : apB (decide (a ≠ 0)) a s1 = s2
      have e2 : s2.1 = s1.1 := by rw [← hs2]; exact apB_1
      rw [← e2]
      by_cases q : tkZ T t s2.1 = 29 ∨ tkZ T t s2.1 = 30
      · rw [if_pos q]
        have nb := nx_b (T := T) (tk_lt (T := T) (t := t) (p := s2.1) (by omega))
        rw [ih _ b (stp1 T t s2) nb.2 (by show 401 ≤ nxZ T t s2.1 + n; omega) hb]
        have e : tmL T t 401 s2 = bnd (vlZ T t (stp1 T t s2)) (fun s' => tmL T t 400 (apL (tkZ T t s2.1) s')) := by
          show (if tkZ T t s2.1 = 29 ∨ tkZ T t s2.1 = 30 then _ else _) = _
          rw [if_pos q]
        rw [e]
        cases hv2 : vlZ T t (stp1 T t s2) with
        | error e => rfl
        | ok s3 =>
          have pp2 := vl_ok hT hv2
          have p2 : nxZ T t s2.1 < s3.1 := pp2.1.1
          show bnd (tmL T t 401 (apB (decide (tkZ T t s2.1 ≠ 0)) (tkZ T t s2.1) s3)) _ = bnd (tmL T t 400 (apL (tkZ T t s2.1) s3)) _
          have d0 : decide (tkZ T t s2.1 ≠ 0) = true := decide_eq_true (by omega)
          rw [d0]
          show bnd (tmL T t 401 (apL (tkZ T t s2.1) s3)) _ = _
          rw [tm_fuel h4 hT 401 400 (apL (tkZ T t s2.1) s3) pp2.1.2 (by show 401 ≤ s3.1 + 401; omega) (by show 401 ≤ s3.1 + 400; omega)]
      · rw [if_neg q]
        have e : tmL T t 401 s2 = .ok s2 := by
          show (if tkZ T t s2.1 = 29 ∨ tkZ T t s2.1 = 30 then _ else _) = _
          rw [if_neg q]
        rw [e]
        show _ = smL T t 401 (apB (decide (b ≠ 0)) b s2)
        generalize hs3 : apB (decide (b ≠ 0)) b s2 = s3
        have e3 : s3.1 = s2.1 := by rw [← hs3]; exact apB_1
        rw [← e3]
        by_cases q2 : tkZ T t s3.1 = 27 ∨ tkZ T t s3.1 = 28
        · rw [if_pos q2]
          have nb := nx_b (T := T) (tk_lt (T := T) (t := t) (p := s3.1) (by omega))
          rw [ih 0 _ (stp1 T t s3) nb.2 (by show 401 ≤ nxZ T t s3.1 + n; omega) (Or.inr q2)]
          have e4 : smL T t 401 s3 = bnd (trm T t (stp1 T t s3)) (fun s' => smL T t 400 (apL (tkZ T t s3.1) s')) := by
            show (if tkZ T t s3.1 = 27 ∨ tkZ T t s3.1 = 28 then _ else _) = _
            rw [if_pos q2]
          rw [e4]
          unfold trm
          cases hv2 : vlZ T t (stp1 T t s3) with
          | error e => rfl
          | ok s4 =>
            show bnd (tmL T t 401 s4) _ = bnd (tmL T t 401 s4) _
            cases hv3 : tmL T t 401 s4 with
            | error e => rfl
            | ok s5 =>
              have pp5 := tm_ok hT 401 s4 s5 (vl_ok hT hv2) hv3
              have p5 : nxZ T t s3.1 < s5.1 := pp5.1.1
              show smL T t 401 (apB (decide (tkZ T t s3.1 ≠ 0)) (tkZ T t s3.1) s5) = smL T t 400 (apL (tkZ T t s3.1) s5)
              have d0 : decide (tkZ T t s3.1 ≠ 0) = true := decide_eq_true (by omega)
              rw [d0]
              exact sm_fuel h4 hT 401 400 (apL (tkZ T t s3.1) s5) pp5.1.2 (by show 401 ≤ s5.1 + 401; omega) (by show 401 ≤ s5.1 + 400; omega)
        · rw [if_neg q2]
          have e4 : smL T t 401 s3 = .ok s3 := by
            show (if tkZ T t s3.1 = 27 ∨ tkZ T t s3.1 = 28 then _ else _) = _
            rw [if_neg q2]
          rw [e4]
theorem cs_sum (h4 : t ≤ 400) (hT : ∀ i, i < t → 0 ≤ T i ∧ T i ≤ 255) {s : pS} (hs : s.1 ≤ t) : csL T t 401 0 0 s = sumZ T t s := by
  rw [cs_tail h4 hT 401 0 0 s hs (by omega) (Or.inl rfl)]
  unfold sumZ trm
  cases vlZ T t s with
  | error e => rfl
  | ok s1 => rfl
end FACTS2
