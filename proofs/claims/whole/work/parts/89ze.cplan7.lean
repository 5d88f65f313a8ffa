/-! ===== a plan read is well formed ===== -/
def RWf (L : List Int) (r : Nat → Int) : Prop := (r 1 = 16 ∨ r 1 = 19 ∨ r 1 = 20 ∨ r 1 = 21 ∨ r 1 = 22) ∧ (r 1 = 19 ∨ r 1 = 20 ∨ r 1 = 21 → 0 ≤ r 2 ∧ r 2 ≤ 11) ∧ (r 1 = 21 → 0 ≤ r 3 ∧ r 3 ≤ 11) ∧ (r 1 ≠ 22 → 0 ≤ r 4 ∧ r 4 ≤ 9999) ∧ (r 1 = 16 → r 4 ≤ 99)
  ∧ (0 ≤ r 5 ∧ r 5 ≤ r 6 ∧ r 6 ≤ r 7 ∧ r 7 ≤ (L.length : Int)) ∧ (r 1 = 22 → okN (fun j => L.getD j 0) ((r 6).toNat - (r 5).toNat) (r 5).toNat 0) ∧ (r 6 ≠ r 7 → okN (fun j => L.getD j 0) ((r 7).toNat - (r 6).toNat) (r 6).toNat 0)
theorem gD_app {l e : List Int} {j : Nat} (h : j < l.length) : (l ++ e).getD j 0 = l.getD j 0 := by
  rw [List.getD_eq_getElem?_getD, List.getElem?_append_left h, ← List.getD_eq_getElem?_getD]
theorem gD_at {p e : List Int} {x : Int} : (p ++ x :: e).getD p.length 0 = x := by
  rw [List.getD_eq_getElem?_getD, List.getElem?_append_right (Nat.le_refl _), Nat.sub_self]; rfl
theorem RWf_app {L e : List Int} {r : Nat → Int} (h : RWf L r) : RWf (L ++ e) r := by
  obtain ⟨h1, h2, h3, h4, h5, h6, h7, h8⟩ := h
  refine ⟨h1, h2, h3, h4, h5, ⟨h6.1, h6.2.1, h6.2.2.1, by rw [List.length_append]; omega⟩, fun q => okN_congr _ _ _ (fun j q1 q2 => ?_) (h7 q), fun q => okN_congr _ _ _ (fun j q1 q2 => ?_) (h8 q)⟩
  · exact (gD_app (by omega)).symm
  · exact (gD_app (by omega)).symm
theorem okL_N : ∀ (e p : List Int) (k : Nat), okL e k = some 1 → okN (fun j => (p ++ e).getD j 0) e.length p.length k := by
  intro e
  induction e with
  | nil =>
    intro p k h
    have h : some k = some 1 := h
    exact Option.some.inj h
  | cons x e ih =>
    intro p k h
    have hx : (p ++ x :: e).getD p.length 0 = x := gD_at
    have ih' : ∀ k', okL e k' = some 1 → okN (fun j => (p ++ x :: e).getD j 0) e.length (p.length + 1) k' := fun k' q => by
      have := ih (p ++ [x]) k' q
      rw [List.append_assoc, List.length_append] at this
      exact this
    show okN (fun j => (p ++ x :: e).getD j 0) (e.length + 1) p.length k
    unfold okN
    rw [hx]
    unfold okL at h
    by_cases q1 : (0 ≤ x ∧ x ≤ 18) ∨ (100 ≤ x ∧ x ≤ 100099)
    · rw [if_pos q1] at h
      by_cases q2 : k < 60
      · rw [if_pos q2] at h; exact Or.inl ⟨q1, q2, ih' _ h⟩
      · rw [if_neg q2] at h; cases h
    · rw [if_neg q1] at h
      by_cases q3 : x = 26
      · rw [if_pos q3] at h
        by_cases q2 : 1 ≤ k
        · rw [if_pos q2] at h; exact Or.inr (Or.inl ⟨q3, q2, ih' _ h⟩)
        · rw [if_neg q2] at h; cases h
      · rw [if_neg q3] at h
        by_cases q4 : 24 ≤ x ∧ x ≤ 35
        · rw [if_pos q4] at h
          by_cases q2 : 2 ≤ k
          · rw [if_pos q2] at h; exact Or.inr (Or.inr ⟨⟨q4.1, q4.2, q3⟩, q2, ih' _ h⟩)
          · rw [if_neg q2] at h; cases h
        · rw [if_neg q4] at h; cases h
theorem okL_rng : ∀ (e : List Int) (k m : Nat), okL e k = some m → ∀ x, x ∈ e → 0 ≤ x ∧ x ≤ 100099 := by
  intro e
  induction e with
  | nil => intro k m _ x hx; cases hx
  | cons y e ih =>
    intro k m h x hx
    unfold okL at h
    by_cases q1 : (0 ≤ y ∧ y ≤ 18) ∨ (100 ≤ y ∧ y ≤ 100099)
    · rw [if_pos q1] at h
      by_cases q2 : k < 60
      · rw [if_pos q2] at h
        rcases List.mem_cons.mp hx with rfl | w
        · omega
        · exact ih _ _ h x w
      · rw [if_neg q2] at h; cases h
    · rw [if_neg q1] at h
      by_cases q3 : y = 26
      · rw [if_pos q3] at h
        by_cases q2 : 1 ≤ k
        · rw [if_pos q2] at h
          rcases List.mem_cons.mp hx with rfl | w
          · omega
          · exact ih _ _ h x w
        · rw [if_neg q2] at h; cases h
      · rw [if_neg q3] at h
        by_cases q4 : 24 ≤ y ∧ y ≤ 35
        · rw [if_pos q4] at h
          by_cases q2 : 2 ≤ k
          · rw [if_pos q2] at h
            rcases List.mem_cons.mp hx with rfl | w
            · omega
            · exact ih _ _ h x w
          · rw [if_neg q2] at h; cases h
        · rw [if_neg q4] at h; cases h
section WFP
variable {T : Nat → Int} {t : Nat}
theorem PP_ok {s s' : pS} (h : PPx t 0 1 3 s s') : ∃ e, s'.2.2 = s.2.2 ++ e ∧ okL e 0 = some 1 := by
  obtain ⟨h1, h2, e, h3, h4, h5⟩ := h
  exact ⟨e, h3, h4 0 (by omega)⟩
theorem pn_rng {s : pS} {x : pS × Int} (h : pnZ T t s = .ok x) : 0 ≤ x.2 ∧ x.2 ≤ 11 ∧ x.1.2.2 = s.2.2 := by
  have tr := tk_rng (T := T) (t := t) (p := s.1)
  unfold pnZ at h
  by_cases q : tkZ T t s.1 ≤ 11
  · rw [if_pos q] at h; cases h; exact ⟨by show 0 ≤ tkZ T t s.1; omega, q, rfl⟩
  · rw [if_neg q] at h; cases h
theorem fg_rng {s : pS} {m : Int} {x : pS × Int} (h : fgZ T t m s = .ok x) : 0 ≤ x.2 ∧ x.2 ≤ m ∧ x.1.2.2 = s.2.2 := by
  unfold fgZ at h
  by_cases q : tkZ T t s.1 = 39
  · rw [if_pos q] at h
    by_cases q2 : 0 ≤ nuZ T t s.1 ∧ nuZ T t s.1 ≤ m
    · rw [if_pos q2] at h; cases h; exact ⟨q2.1, q2.2, rfl⟩
    · rw [if_neg q2] at h; cases h
  · rw [if_neg q] at h; cases h
def HWf (s : pS) (h : hR) : Prop := (h.2.1 = 16 ∨ h.2.1 = 19 ∨ h.2.1 = 20 ∨ h.2.1 = 21 ∨ h.2.1 = 22) ∧ (h.2.1 = 19 ∨ h.2.1 = 20 ∨ h.2.1 = 21 → 0 ≤ h.2.2.1 ∧ h.2.2.1 ≤ 11) ∧ (h.2.1 = 21 → 0 ≤ h.2.2.2.1 ∧ h.2.2.2.1 ≤ 11) ∧ (h.2.1 ≠ 22 → 0 ≤ h.2.2.2.2 ∧ h.2.2.2.2 ≤ 9999) ∧ (h.2.1 = 16 → h.2.2.2.2 ≤ 99) ∧ ∃ e, h.1.2.2 = s.2.2 ++ e ∧ (h.2.1 = 22 → okL e 0 = some 1) ∧ (e = [] ∨ okL e 0 = some 1)
theorem bd_wf (hT : ∀ i, i < t → 0 ≤ T i ∧ T i ≤ 255) {v : Int} {s : pS} {h : hR} (hv0 : v = 16 ∨ v = 19 ∨ v = 20 ∨ v = 21 ∨ v = 22) (hv : bdZ T t v s = .ok h) : HWf s h := by
  unfold bdZ at hv
  by_cases w1 : v = 22
  · rw [if_pos w1] at hv
    cases h1 : sumZ T t s with
    | error e => rw [h1] at hv; cases hv
    | ok s2 =>
      rw [h1] at hv
      cases hv
      obtain ⟨e, h3, h4⟩ := PP_ok (sum_ok hT h1)
      refine ⟨hv0, fun q => ?_, fun q => ?_, fun q => ?_, fun q => ?_, e, h3, fun _ => h4, Or.inr h4⟩
      · have q : v = 19 ∨ v = 20 ∨ v = 21 := q; omega
      · have q : v = 21 := q; omega
      · exact absurd w1 q
      · have q : v = 16 := q; omega
  · rw [if_neg w1] at hv
    by_cases w2 : v = 16
    · rw [if_pos w2] at hv
      cases h1 : fgZ T t 99 s with
      | error e => rw [h1] at hv; cases hv
      | ok s2 =>
        rw [h1] at hv
        cases hv
        have f := fg_rng h1
        refine ⟨hv0, fun q => ?_, fun q => ?_, fun q => ⟨f.1, Int.le_trans f.2.1 (by omega)⟩, fun q => f.2.1, [], by rw [List.append_nil]; exact f.2.2, fun q => absurd q w1, Or.inl rfl⟩
        · have q : v = 19 ∨ v = 20 ∨ v = 21 := q; omega
        · have q : v = 21 := q; omega
    · rw [if_neg w2] at hv
      cases h1 : pnZ T t s with
      | error e => rw [h1] at hv; cases hv
      | ok s2 =>
        rw [h1] at hv
        have p2 := pn_rng h1
        dsimp only at hv
        by_cases w3 : v = 21
        · rw [if_pos w3] at hv
          cases h2 : pnZ T t s2.1 with
          | error e => rw [h2] at hv; cases hv
          | ok s3 =>
            rw [h2] at hv
            have p3 := pn_rng h2
            dsimp only at hv
            cases h3 : fgZ T t 9999 s3.1 with
            | error e => rw [h3] at hv; cases hv
            | ok s4 =>
              rw [h3] at hv
              cases hv
              have f := fg_rng h3
              exact ⟨hv0, fun q => ⟨p2.1, p2.2.1⟩, fun q => ⟨p3.1, p3.2.1⟩, fun q => ⟨f.1, f.2.1⟩, fun q => absurd q w2, [], by rw [List.append_nil]; exact f.2.2.trans (p3.2.2.trans p2.2.2), fun q => absurd q w1, Or.inl rfl⟩
        · rw [if_neg w3] at hv
          cases h3 : fgZ T t 9999 s2.1 with
          | error e => rw [h3] at hv; cases hv
          | ok s4 =>
            rw [h3] at hv
            cases hv
            have f := fg_rng h3
            exact ⟨hv0, fun q => ⟨p2.1, p2.2.1⟩, fun q => absurd q w3, fun q => ⟨f.1, f.2.1⟩, fun q => absurd q w2, [], by rw [List.append_nil]; exact f.2.2.trans p2.2.2, fun q => absurd q w1, Or.inl rfl⟩
theorem hd_wf {i : Nat} (hT : ∀ i, i < t → 0 ≤ T i ∧ T i ≤ 255) {s : pS} {h : hR} (hv : hdZ T t i s = .ok h) : HWf s h := by
  unfold hdZ at hv
  by_cases w : tkZ T t s.1 = 16 ∨ (19 ≤ tkZ T t s.1 ∧ tkZ T t s.1 ≤ 22)
  · rw [if_pos w] at hv
    by_cases w2 : 12 ≤ i
    · rw [if_pos w2] at hv; cases hv
    · rw [if_neg w2] at hv
      exact bd_wf hT (s := stp1 T t s) (by omega) hv
  · rw [if_neg w] at hv; cases hv
theorem tt_wf (hT : ∀ i, i < t → 0 ≤ T i ∧ T i ≤ 255) {s s2 : pS} (hv : ttZ T t s = .ok s2) : ∃ e, s2.2.2 = s.2.2 ++ e ∧ (e = [] ∨ okL e 0 = some 1) := by
  unfold ttZ at hv
  by_cases w : tkZ T t s.1 = 23
  · rw [if_pos w] at hv
    have pt := tk_lt (T := T) (t := t) (p := s.1) (by omega)
    have nb := nx_b (T := T) pt
    obtain ⟨e, h3, h4⟩ := PP_ok (ts_ok (T := T) (s0 := stp1 T t s) (fc_ok hT 10) 401 false false _ _ (PQ_0 nb.2) hv)
    exact ⟨e, h3, Or.inr h4⟩
  · rw [if_neg w] at hv; cases hv; exact ⟨[], by rw [List.append_nil], Or.inl rfl⟩
theorem rc_wf {s s3 : pS} {h : hR} (h1 : HWf s h) (h2 : ∃ e, s3.2.2 = h.1.2.2 ++ e ∧ (e = [] ∨ okL e 0 = some 1)) : RWf s3.2.2 (rcZ h s.2.2.length h.1.2.2.length s3.2.2.length) ∧ ∃ e, s3.2.2 = s.2.2 ++ e ∧ ∀ x, x ∈ e → 0 ≤ x ∧ x ≤ 100099 := by
  obtain ⟨a1, a2, a3, a4, a5, e1, a6, a7, a8⟩ := h1
  obtain ⟨e2, b1, b2⟩ := h2
  have l1 : h.1.2.2.length = s.2.2.length + e1.length := by rw [a6, List.length_append]
  have l2 : s3.2.2.length = h.1.2.2.length + e2.length := by rw [b1, List.length_append]
  refine ⟨⟨a1, a2, a3, a4, a5, ?_, fun q => ?_, fun q => ?_⟩, e1 ++ e2, by rw [b1, a6, List.append_assoc], fun x hx => ?_⟩
  · show 0 ≤ (s.2.2.length : Int) ∧ (s.2.2.length : Int) ≤ (h.1.2.2.length : Int) ∧ (h.1.2.2.length : Int) ≤ (s3.2.2.length : Int) ∧ (s3.2.2.length : Int) ≤ (s3.2.2.length : Int)
    omega
  · show okN (fun j => s3.2.2.getD j 0) ((h.1.2.2.length : Int).toNat - (s.2.2.length : Int).toNat) (s.2.2.length : Int).toNat 0
    have := okL_N e1 s.2.2 0 (a7 q)
    rw [← a6] at this
    rw [Int.toNat_natCast, Int.toNat_natCast, show h.1.2.2.length - s.2.2.length = e1.length by omega]
    refine okN_congr _ _ _ (fun j q1 q2 => ?_) this
    rw [b1]; exact (gD_app (by omega)).symm
  · have q : (h.1.2.2.length : Int) ≠ (s3.2.2.length : Int) := q
    show okN (fun j => s3.2.2.getD j 0) ((s3.2.2.length : Int).toNat - (h.1.2.2.length : Int).toNat) (h.1.2.2.length : Int).toNat 0
    have := okL_N e2 h.1.2.2 0 (b2.resolve_left (fun w => by rw [w] at l2; have l2 : s3.2.2.length = h.1.2.2.length + 0 := l2; omega))
    rw [← b1] at this
    rw [Int.toNat_natCast, Int.toNat_natCast, show s3.2.2.length - h.1.2.2.length = e2.length by omega]
    exact this
  · rcases List.mem_append.mp hx with q | q
    · rcases a8 with w | w
      · rw [w] at q; cases q
      · exact okL_rng _ _ _ w x q
    · rcases b2 with w | w
      · rw [w] at q; cases q
      · exact okL_rng _ _ _ w x q
theorem rd_wf (hT : ∀ i, i < t → 0 ≤ T i ∧ T i ≤ 255) : ∀ (n i : Nat) (s : pS) (acc : List (Nat → Int)) (s' : pS) (acc' : List (Nat → Int)), rdL T t n i s acc = .ok (s', acc') → (∀ j, j < acc.length → RWf s.2.2 (acc.getD j (fun _ => 0))) → (∀ x, x ∈ s.2.2 → 0 ≤ x ∧ x ≤ 100099) → 1 ≤ acc'.length ∧ (∀ x, x ∈ s'.2.2 → 0 ≤ x ∧ x ≤ 100099) ∧ ∀ j, j < acc'.length → RWf s'.2.2 (acc'.getD j (fun _ => 0)) := by
  intro n
  induction n with
  | zero => intro i s acc s' acc' h _ _; cases h
  | succ n ih =>
    intro i s acc s' acc' h hr hx
    unfold rdL at h
    cases hv : hdZ T t i s with
    | error e => rw [hv] at h; cases h
    | ok hd =>
      rw [hv] at h
      dsimp only at h
      cases hv2 : ttZ T t hd.1 with
      | error e => rw [hv2] at h; cases h
      | ok s3 =>
        rw [hv2] at h
        dsimp only at h
        obtain ⟨rw1, e, he, hxe⟩ := rc_wf (hd_wf hT hv) (tt_wf hT hv2)
        have all : ∀ j, j < (acc ++ [rcZ hd s.2.2.length hd.1.2.2.length s3.2.2.length]).length → RWf s3.2.2 ((acc ++ [rcZ hd s.2.2.length hd.1.2.2.length s3.2.2.length]).getD j (fun _ => 0)) := fun j hj => by
          rw [List.length_append] at hj
          have hj : j < acc.length + 1 := hj
          rw [getD_app]
          by_cases q : j < acc.length
          · rw [if_pos q, he]; exact RWf_app (hr j q)
          · rw [if_neg q, if_pos (by omega)]; exact rw1
        have hx3 : ∀ x, x ∈ s3.2.2 → 0 ≤ x ∧ x ≤ 100099 := fun x q => by
          rw [he] at q
          rcases List.mem_append.mp q with w | w
          · exact hx x w
          · exact hxe x w
        by_cases q1 : tkZ T t s3.1 = 40
        · rw [if_pos q1] at h
          cases h
          exact ⟨by rw [List.length_append]; show 1 ≤ acc.length + 1; omega, hx3, all⟩
        · rw [if_neg q1] at h
          by_cases q2 : tkZ T t s3.1 = 36
          · rw [if_pos q2] at h
            exact ih _ _ _ _ _ h all hx3
          · rw [if_neg q2] at h; cases h
end WFP
