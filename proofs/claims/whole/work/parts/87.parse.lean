/-! ===== the language of plans, pure: place, values counted, code ===== -/
abbrev pS : Type := Nat × Nat × List Int
abbrev pR : Type := Except Int pS
def flt (k : Int) (p : Nat) : Int := 1 + 8 * p + k
def apL (x : Int) (s : pS) : pS := (s.1, s.2.1, s.2.2 ++ [x])
def bnd (r : pR) (f : pS → pR) : pR := match r with
  | .error e => .error e
  | .ok s => f s
section PURE
variable (T : Nat → Int) (t : Nat)
def stp1 (s : pS) : pS := (nxZ T t s.1, s.2)
def vlZ (s : pS) : pR :=
  if tkZ T t s.1 = 39 then (if nuZ T t s.1 < 0 then .error (flt 1 s.1) else if 60 ≤ s.2.1 then .error (flt 3 s.1) else .ok (nxZ T t s.1, s.2.1 + 1, s.2.2 ++ [100 + nuZ T t s.1]))
  else if tkZ T t s.1 ≤ 18 then (if 60 ≤ s.2.1 then .error (flt 3 s.1) else .ok (nxZ T t s.1, s.2.1 + 1, s.2.2 ++ [tkZ T t s.1]))
  else .error (flt 0 s.1)
def tmL : Nat → pS → pR
  | 0, _ => .error 0
  | n + 1, s => if tkZ T t s.1 = 29 ∨ tkZ T t s.1 = 30 then bnd (vlZ T t (stp1 T t s)) (fun s' => tmL n (apL (tkZ T t s.1) s')) else .ok s
def trm (s : pS) : pR := bnd (vlZ T t s) (tmL T t 401)
def smL : Nat → pS → pR
  | 0, _ => .error 0
  | n + 1, s => if tkZ T t s.1 = 27 ∨ tkZ T t s.1 = 28 then bnd (trm T t (stp1 T t s)) (fun s' => smL n (apL (tkZ T t s.1) s')) else .ok s
def sumZ (s : pS) : pR := bnd (trm T t s) (smL T t 401)
def cmZ (s : pS) : pR := bnd (sumZ T t s) (fun s1 => if 31 ≤ tkZ T t s1.1 ∧ tkZ T t s1.1 ≤ 35 then (if 60 ≤ s1.2.1 then .error (flt 3 s1.1) else bnd (sumZ T t (nxZ T t s1.1, s1.2.1 + 1, s1.2.2)) (fun s2 => .ok (apL (tkZ T t s1.1) s2))) else .error (flt 0 s1.1))
def apB (b : Bool) (x : Int) (s : pS) : pS := if b then apL x s else s
def tsL (fc : pS → pR) : Nat → Bool → Bool → pS → pR
  | 0, _, _, _ => .error 0
  | n + 1, a, o, s => bnd (fc s) (fun s1 => if tkZ T t s1.1 = 24 then tsL fc n true o (stp1 T t (apB a 24 s1)) else if tkZ T t s1.1 = 25 then tsL fc n false true (stp1 T t (apB o 25 (apB a 24 s1))) else .ok (apB o 25 (apB a 24 s1)))
def fcZ : Nat → pS → pR
  | 0, s => if tkZ T t s.1 = 26 ∨ tkZ T t s.1 = 37 then .error (flt 2 s.1) else cmZ T t s
  | k + 1, s => if tkZ T t s.1 = 26 then bnd (fcZ k (stp1 T t s)) (fun s1 => .ok (apL 26 s1)) else if tkZ T t s.1 = 37 then bnd (tsL T t (fcZ k) 401 false false (stp1 T t s)) (fun s1 => if tkZ T t s1.1 = 38 then .ok (stp1 T t s1) else .error (flt 0 s1.1)) else cmZ T t s
def tsZ (k : Nat) (s : pS) : pR := tsL T t (fcZ T t k) 401 false false s
end PURE
/-- a code's values standing -/
def okL : List Int → Nat → Option Nat
  | [], k => some k
  | x :: xs, k => if (0 ≤ x ∧ x ≤ 18) ∨ (100 ≤ x ∧ x ≤ 100099) then (if k < 60 then okL xs (k + 1) else none) else if x = 26 then (if 1 ≤ k then okL xs k else none) else if 24 ≤ x ∧ x ≤ 35 then (if 2 ≤ k then okL xs (k - 1) else none) else none
theorem okL_app : ∀ (xs ys : List Int) (k : Nat), okL (xs ++ ys) k = (okL xs k).bind (okL ys) := by
  intro xs
  induction xs with
  | nil => intro ys k; rfl
  | cons x xs ih =>
    intro ys k
    show okL (x :: (xs ++ ys)) k = _
    unfold okL
    (repeat' split) <;> first | exact ih ys _ | rfl
theorem okL_1 {x : Int} {k : Nat} (h : (0 ≤ x ∧ x ≤ 18) ∨ (100 ≤ x ∧ x ≤ 100099)) (hk : k < 60) : okL [x] k = some (k + 1) := by
  unfold okL
  rw [if_pos h, if_pos hk]; rfl
theorem okL_2 {x : Int} {k : Nat} (h : 24 ≤ x ∧ x ≤ 35) (hx : x ≠ 26) (hk : 2 ≤ k) : okL [x] k = some (k - 1) := by
  unfold okL
  rw [if_neg (by omega), if_neg hx, if_pos h, if_pos hk]; rfl
theorem okL_3 {k : Nat} (hk : 1 ≤ k) : okL [26] k = some k := by
  unfold okL
  rw [if_neg (by omega), if_pos rfl, if_pos hk]; rfl
/-- from s to s': further on, counted, code that leaves j values for i, with credit -/
def PPx (t : Nat) (i j : Nat) (cr : Int) (s s' : pS) : Prop := (s.1 < s'.1 ∧ s'.1 ≤ t) ∧ (s.2.1 < s'.2.1 ∧ s'.2.1 ≤ 60) ∧ ∃ e, s'.2.2 = s.2.2 ++ e ∧ (∀ h : Nat, h + i + (s'.2.1 - s.2.1) ≤ 60 → okL e (h + i) = some (h + j)) ∧ 3 * (e.length : Int) + cr ≤ 6 * ((s'.2.1 : Int) - s.2.1) + ((s'.1 : Int) - s.1)
section FACTS
variable {T : Nat → Int} {t : Nat}
theorem nuV_rng (hT : ∀ i, i < t → 0 ≤ T i ∧ T i ≤ 255) : ∀ (n p : Nat) (v : Int), p + n ≤ t → (∀ i, p ≤ i → i < p + n → 48 ≤ T i ∧ T i ≤ 57) → 0 ≤ v → 0 ≤ nuV T n p v ∧ nuV T n p v + 1 ≤ (v + 1) * 10 ^ n := by
  intro n
  induction n with
  | zero => intro p v _ _ h; exact ⟨h, by show v + 1 ≤ (v + 1) * 1; omega⟩
  | succ n ih =>
    intro p v hp hd hv
    have d0 := hd p (by omega) (by omega)
    have := ih (p + 1) (v * 10 + T p - 48) (by omega) (fun i h1 h2 => hd i (by omega) (by omega)) (by omega)
    refine ⟨this.1, Int.le_trans this.2 ?_⟩
    have e : ((10 : Int) ^ (n + 1)) = 10 * 10 ^ n := by rw [Int.pow_succ, Int.mul_comm]
    rw [e, ← Int.mul_assoc]
    exact Int.mul_le_mul_of_nonneg_right (by omega) (Int.le_of_lt (Int.pow_pos (by omega)))
theorem nu_rng (hT : ∀ i, i < t → 0 ≤ T i ∧ T i ≤ 255) {p : Nat} (hp : p ≤ t) : nuZ T t p = -1 ∨ (0 ≤ nuZ T t p ∧ nuZ T t p ≤ 99999) := by
  unfold nuZ
  by_cases q : 5 < rex T t 48 57 p - p
  · rw [if_pos q]; exact Or.inl rfl
  · rw [if_neg q]
    obtain ⟨h1, h2, -⟩ := rex_b (T := T) (lo := 48) (hi := 57) hp
    have := nuV_rng hT (rex T t 48 57 p - p) p 0 (by omega) (fun i q1 q2 => h2 i q1 (by omega)) (by omega)
    refine Or.inr ⟨this.1, ?_⟩
    have hc : rex T t 48 57 p - p = 0 ∨ rex T t 48 57 p - p = 1 ∨ rex T t 48 57 p - p = 2 ∨ rex T t 48 57 p - p = 3 ∨ rex T t 48 57 p - p = 4 ∨ rex T t 48 57 p - p = 5 := by omega
    have t2 := this.2
    rcases hc with h | h | h | h | h | h <;> rw [h] at t2 ⊢ <;> omega
theorem tk_lt {p : Nat} (h : tkZ T t p ≠ 40) : p < t := by
  apply Classical.byContradiction
  intro q
  exact h (tk_rng.2.mpr (by omega))
theorem vl_ok (hT : ∀ i, i < t → 0 ≤ T i ∧ T i ≤ 255) {s s' : pS} (h : vlZ T t s = .ok s') : PPx t 0 1 3 s s' := by
  obtain ⟨p, c, L⟩ := s
  unfold vlZ at h
  dsimp only at h
  by_cases q1 : tkZ T t p = 39
  · have pt := tk_lt (T := T) (t := t) (p := p) (by omega)
    have nb := nx_b (T := T) pt
    rw [if_pos q1] at h
    by_cases q2 : nuZ T t p < 0
    · rw [if_pos q2] at h; cases h
    · rw [if_neg q2] at h
      by_cases q3 : 60 ≤ c
      · rw [if_pos q3] at h; cases h
      · rw [if_neg q3] at h
        cases h
        have nr := nu_rng hT (p := p) (by omega)
        refine ⟨⟨nb.1, nb.2⟩, ⟨by dsimp only; omega, by dsimp only; omega⟩, [100 + nuZ T t p], rfl, fun h hh => ?_, ?_⟩
        · exact okL_1 (Or.inr (by omega)) (by dsimp only at hh; omega)
        · show 3 * ((1 : Nat) : Int) + 3 ≤ 6 * (((c + 1 : Nat) : Int) - (c : Int)) + ((nxZ T t p : Int) - p)
          omega
  · rw [if_neg q1] at h
    by_cases q2 : tkZ T t p ≤ 18
    · have pt := tk_lt (T := T) (t := t) (p := p) (by omega)
      have nb := nx_b (T := T) pt
      have tr := tk_rng (T := T) (t := t) (p := p)
      rw [if_pos q2] at h
      by_cases q3 : 60 ≤ c
      · rw [if_pos q3] at h; cases h
      · rw [if_neg q3] at h
        cases h
        refine ⟨⟨nb.1, nb.2⟩, ⟨by dsimp only; omega, by dsimp only; omega⟩, [tkZ T t p], rfl, fun h hh => ?_, ?_⟩
        · exact okL_1 (Or.inl (by omega)) (by dsimp only at hh; omega)
        · show 3 * ((1 : Nat) : Int) + 3 ≤ 6 * (((c + 1 : Nat) : Int) - (c : Int)) + ((nxZ T t p : Int) - p)
          omega
    · rw [if_neg q2] at h; cases h
/-- one behind the other, the sign between them behind both -/
theorem PP_bin {x : Int} {i : Nat} {cr : Int} {s s1 s2 : pS} (hx : 24 ≤ x ∧ x ≤ 35) (hn : x ≠ 26) (h1 : PPx t i (i + 1) (3 + cr) s s1) (hp : s1.1 < t) (h2 : PPx t 0 1 3 (stp1 T t s1) s2) : PPx t i (i + 1) (3 + cr) s (apL x s2) := by
  obtain ⟨p, c, L⟩ := s
  obtain ⟨p1, c1, L1⟩ := s1
  obtain ⟨p2, c2, L2⟩ := s2
  obtain ⟨a1, a2, e1, a3, a4, a5⟩ := h1
  obtain ⟨b1, b2, e2, b3, b4, b5⟩ := h2
  have nb := nx_b (T := T) hp
  unfold stp1 at b1 b2 b3 b4 b5
  dsimp only at a1 a2 a3 a4 a5 b1 b2 b3 b4 b5 nb
  refine ⟨⟨by show p < p2; omega, b1.2⟩, ⟨by show c < c2; omega, b2.2⟩, e1 ++ e2 ++ [x], ?_, fun h hh => ?_, ?_⟩
  · show L2 ++ [x] = L ++ (e1 ++ e2 ++ [x])
    rw [b3, a3]; simp
  · have hh : h + i + (c2 - c) ≤ 60 := hh
    rw [okL_app, okL_app, a4 h (by omega)]
    show (okL e2 (h + (i + 1))).bind _ = _
    rw [show h + (i + 1) = (h + (i + 1)) + 0 by omega, b4 (h + (i + 1)) (by omega)]
    show okL [x] (h + (i + 1) + 1) = _
    rw [okL_2 hx hn (by omega)]
    congr 1
  · show 3 * (((e1 ++ e2 ++ [x]).length : Nat) : Int) + (3 + cr) ≤ 6 * ((c2 : Int) - c) + ((p2 : Int) - p)
    have : (e1 ++ e2 ++ [x]).length = e1.length + e2.length + 1 := by rw [List.length_append, List.length_append]; rfl
    rw [this]
    omega
theorem PP_le {i j : Nat} {cr cr' : Int} {s s' : pS} (h : PPx t i j cr s s') (hc : cr' ≤ cr) : PPx t i j cr' s s' := by
  obtain ⟨h1, h2, e, h3, h4, h5⟩ := h
  exact ⟨h1, h2, e, h3, h4, by omega⟩
theorem tm_ok (hT : ∀ i, i < t → 0 ≤ T i ∧ T i ≤ 255) {s0 : pS} : ∀ (n : Nat) (s s' : pS), PPx t 0 1 3 s0 s → tmL T t n s = .ok s' → PPx t 0 1 3 s0 s' := by
  intro n
  induction n with
  | zero => intro s s' _ h; cases h
  | succ n ih =>
    intro s s' h0 h
    unfold tmL at h
    by_cases q : tkZ T t s.1 = 29 ∨ tkZ T t s.1 = 30
    · rw [if_pos q] at h
      cases hv : vlZ T t (stp1 T t s) with
      | error e => rw [hv] at h; cases h
      | ok s1 =>
        rw [hv] at h
        exact ih _ _ (PP_bin (cr := 0) (by omega) (by omega) h0 (tk_lt (T := T) (by omega)) (vl_ok hT hv)) h
    · rw [if_neg q] at h
      cases h
      exact h0
theorem trm_ok (hT : ∀ i, i < t → 0 ≤ T i ∧ T i ≤ 255) {s s' : pS} (h : trm T t s = .ok s') : PPx t 0 1 3 s s' := by
  unfold trm at h
  cases hv : vlZ T t s with
  | error e => rw [hv] at h; cases h
  | ok s1 =>
    rw [hv] at h
    exact tm_ok hT 401 s1 s' (vl_ok hT hv) h
theorem sm_ok (hT : ∀ i, i < t → 0 ≤ T i ∧ T i ≤ 255) {s0 : pS} : ∀ (n : Nat) (s s' : pS), PPx t 0 1 3 s0 s → smL T t n s = .ok s' → PPx t 0 1 3 s0 s' := by
  intro n
  induction n with
  | zero => intro s s' _ h; cases h
  | succ n ih =>
    intro s s' h0 h
    unfold smL at h
    by_cases q : tkZ T t s.1 = 27 ∨ tkZ T t s.1 = 28
    · rw [if_pos q] at h
      cases hv : trm T t (stp1 T t s) with
      | error e => rw [hv] at h; cases h
      | ok s1 =>
        rw [hv] at h
        exact ih _ _ (PP_bin (cr := 0) (by omega) (by omega) h0 (tk_lt (T := T) (by omega)) (trm_ok hT hv)) h
    · rw [if_neg q] at h
      cases h
      exact h0
theorem sum_ok (hT : ∀ i, i < t → 0 ≤ T i ∧ T i ≤ 255) {s s' : pS} (h : sumZ T t s = .ok s') : PPx t 0 1 3 s s' := by
  unfold sumZ at h
  cases hv : trm T t s with
  | error e => rw [hv] at h; cases h
  | ok s1 =>
    rw [hv] at h
    exact sm_ok hT 401 s1 s' (trm_ok hT hv) h
theorem cm_ok (hT : ∀ i, i < t → 0 ≤ T i ∧ T i ≤ 255) {s s' : pS} (h : cmZ T t s = .ok s') : PPx t 0 1 3 s s' := by
  unfold cmZ at h
  cases hv : sumZ T t s with
  | error e => rw [hv] at h; cases h
  | ok s1 =>
    rw [hv] at h
    have h : (if 31 ≤ tkZ T t s1.1 ∧ tkZ T t s1.1 ≤ 35 then (if 60 ≤ s1.2.1 then (.error (flt 3 s1.1) : pR) else bnd (sumZ T t (nxZ T t s1.1, s1.2.1 + 1, s1.2.2)) (fun s2 => .ok (apL (tkZ T t s1.1) s2))) else .error (flt 0 s1.1)) = .ok s' := h
    have h1 := sum_ok hT hv
    by_cases q : 31 ≤ tkZ T t s1.1 ∧ tkZ T t s1.1 ≤ 35
    · rw [if_pos q] at h
      by_cases q2 : 60 ≤ s1.2.1
      · rw [if_pos q2] at h; cases h
      · rw [if_neg q2] at h
        cases hv2 : sumZ T t (nxZ T t s1.1, s1.2.1 + 1, s1.2.2) with
        | error e => rw [hv2] at h; cases h
        | ok s2 =>
          rw [hv2] at h
          have h : (.ok (apL (tkZ T t s1.1) s2) : pR) = .ok s' := h
          cases h
          have h2 := sum_ok hT hv2
          refine PP_bin (T := T) (s1 := s1) (cr := 0) (by omega) (by omega) h1 (tk_lt (T := T) (by omega)) ?_
          obtain ⟨b1, b2, e2, b3, b4, b5⟩ := h2
          refine ⟨b1, ⟨by show s1.2.1 < s2.2.1; dsimp only at b2; omega, b2.2⟩, e2, b3, fun h hh => b4 h ?_, ?_⟩
          · show h + 0 + (s2.2.1 - (s1.2.1 + 1)) ≤ 60
            have hh : h + 0 + (s2.2.1 - s1.2.1) ≤ 60 := hh
            omega
          · show 3 * (e2.length : Int) + 3 ≤ 6 * ((s2.2.1 : Int) - (s1.2.1 : Int)) + ((s2.1 : Int) - (nxZ T t s1.1 : Int))
            have b5 : 3 * (e2.length : Int) + 3 ≤ 6 * ((s2.2.1 : Int) - ((s1.2.1 + 1 : Nat) : Int)) + ((s2.1 : Int) - (nxZ T t s1.1 : Int)) := b5
            omega
    · rw [if_neg q] at h; cases h
end FACTS
