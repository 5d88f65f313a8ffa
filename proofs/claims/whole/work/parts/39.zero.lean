/-! ===== what lies behind an array's end is never written ===== -/
def ZO (M : am_M) : Prop := ∀ a t n i, M.1[a]? = some (.inr (t, n)) → n ≤ i → M.2.1 a i = 0
theorem zo_obj {M : am_M} {a c : Nat} {f : Nat → Int32} (h : ZO M) (ha : M.1[a]? = some (.inl c)) : ZO (am_uI M a f) := by
  intro a' t n i h1 h2
  have h1 : M.1[a']? = some (.inr (t, n)) := h1
  have hne : a' ≠ a := fun e => by rw [e, ha] at h1; cases h1
  show am_sI M.2.1 a f a' i = 0
  rw [sI_ne hne]
  exact h a' t n i h1 h2
theorem zo_arr {M : am_M} {a t n : Nat} {f : Nat → Int32} (h : ZO M) (ha : M.1[a]? = some (.inr (t, n))) (hf : ∀ i, n ≤ i → f i = M.2.1 a i) : ZO (am_uI M a f) := by
  intro a' t' n' i h0 h2
  have h1 : M.1[a']? = some (.inr (t', n')) := h0
  clear h0
  show am_sI M.2.1 a f a' i = 0
  by_cases hne : a' = a
  · subst hne
    rw [ha] at h1
    cases h1
    rw [sI_eq, hf i h2]
    exact h a' t n i ha h2
  · rw [sI_ne hne]
    exact h a' t' n' i h1 h2
theorem zo_ia {M : am_M} {a t n : Nat} {j : Int32} {x : Int32} (h : ZO M) (ha : M.1[a]? = some (.inr (t, n))) (hj : ¬ (j < 0 ∨ n ≤ j.toNatClampNeg)) : ZO (am_uI M a (upd (M.2.1 a) j.toNatClampNeg x)) := by
  refine zo_arr h ha (fun i hi => up_ne ?_)
  intro e
  exact hj (Or.inr (e ▸ hi))
theorem zo_uL {M : am_M} {a : Nat} {f : Nat → Int64} (h : ZO M) : ZO (am_uL M a f) := h
theorem zo_uR {M : am_M} {a j b : Nat} (h : ZO M) : ZO (am_uR M a j b) := h
theorem zo_uA {M : am_M} {a b : Nat} (h : ZO M) : ZO (am_uA M a b) := h
theorem zo_new {M : am_M} {x : am_L} (h : ZO M) : ZO (am_new M x) := by
  intro a t n i h1 h2
  have h1 : (M.1 ++ [x])[a]? = some (.inr (t, n)) := h1
  show am_sI M.2.1 M.1.length (fun _ => 0) a i = 0
  by_cases hne : a = M.1.length
  · subst hne; rw [sI_eq]
  · rw [sI_ne hne]
    have hlt : a < (M.1 ++ [x]).length := (List.getElem?_eq_some_iff.mp h1).1
    rw [List.length_append] at hlt
    simp at hlt
    rw [List.getElem?_append_left (by omega)] at h1
    exact h a t n i h1 h2
theorem zo_sv {M M1 : am_M} {c a j c' : Nat} {v : Value} (h : ZO M) (ha : M.1[a]? = some (.inl c')) (e : am_sv M c a j v = some M1) : ZO M1 := by
  unfold am_sv at e
  split at e
  · cases e; exact h
  · cases e; split <;> exact h
  · cases e; split <;> exact h
  · cases e; exact zo_obj h ha
  · split at e
    · cases e; exact zo_obj h ha
    · cases e
  · cases e
theorem zo_cp {M M1 : am_M} {st st1 : List Value} (h : ZO M) (e : am_cp st M = some (st1, M1)) : ZO M1 := by
  unfold am_cp at e
  split at e
  · split at e
    · split at e
      · split at e
        · rename_i hb hr
          cases e
          refine zo_arr h hb (fun i hi => pk_cpy_out (Or.inr ?_))
          omega
        · cases e
      · split at e
        · cases e; exact h
        · cases e
      · cases e
    · cases e
  · cases e
theorem zo_mi2 {M M1 : am_M} {f : Int32 → Int32 → Int32} {st st1 : List Value} (h : ZO M) (e : am_mi2 f st M = some (st1, M1)) : ZO M1 := by
  unfold am_mi2 at e
  split at e
  · split at e
    · cases e; exact h
    · cases e
  · cases e
theorem zo_mi1 {M M1 : am_M} {f : Int32 → Int32} {st st1 : List Value} (h : ZO M) (e : am_mi1 f st M = some (st1, M1)) : ZO M1 := by
  unfold am_mi1 at e
  split at e
  · split at e
    · cases e; exact h
    · cases e
  · cases e
theorem zo_ml2 {M M1 : am_M} {f : Int64 → Int64 → Int64} {st st1 : List Value} (h : ZO M) (e : am_ml2 f st M = some (st1, M1)) : ZO M1 := by
  unfold am_ml2 at e
  split at e
  · split at e
    · cases e; exact h
    · cases e
  · cases e
theorem zo_is {M M1 : am_M} {a1 : Nat} {st st1 : List Value} (h : ZO M) (e : am_is a1 st M = some (st1, M1)) : ZO M1 := by
  unfold am_is at e
  split at e
  · exact zo_cp h e
  · split at e
    · exact zo_mi2 h e
    · split at e
      · exact zo_mi2 h e
      · split at e
        · exact zo_mi1 h e
        · split at e
          · exact zo_ml2 h e
          · split at e
            · exact zo_ml2 h e
            · cases e
set_option maxHeartbeats 4000000 in
theorem zo_m {L : Nat} {xs : Nat → Int32} {d a1 a2 : Nat} {ins : Instr} {M M1 : am_M} {st st1 : List Value} (h : ZO M) (e : am_m L xs d ins a1 a2 st M = some (st1, M1)) : ZO M1 := by
  unfold am_m at e
  split at e
  all_goals (try (repeat' split at e))
  all_goals first
    | (cases e; done)
    | (cases e; exact h)
    | (cases e; exact zo_new h)
    | (cases e; exact zo_uL h)
    | (cases e; exact zo_uR h)
    | (cases e; apply zo_ia h <;> assumption)
    | exact zo_is h e
    | (cases e; apply zo_sv h <;> assumption)
theorem zo_run {L : Nat} {xs : Nat → Int32} : ∀ (n d k pc : Nat) (lo : am_Lo) (st : List Value) (M : am_M) (r : Option Value × am_M), am_run L xs n d k pc lo st M = some r → ZO M → ZO r.2 := by
  intro n
  induction n with
  | zero => intro d k pc lo st M r h; simp [am_run] at h
  | succ n ih =>
    intro d k pc lo st M r h hz
    rw [am_run] at h
    split at h
    · cases h
    · split at h
      · exact ih _ _ _ _ _ _ _ h hz
      · split at h
        · exact ih _ _ _ _ _ _ _ h hz
        · split at h
          · exact ih _ _ _ _ _ _ _ h hz
          · split at h
            · rename_i hm
              exact ih _ _ _ _ _ _ _ h (zo_m hz hm)
            · split at h
              · cases h; exact hz
              · split at h
                · cases h
                · split at h
                  · cases h
                  · split at h
                    · cases h
                    · rename_i hr
                      exact ih _ _ _ _ _ _ _ h (ih _ _ _ _ _ _ _ hr hz)
theorem wp_zo {E : Nat × (Nat → Int32)} {d k pc : Nat} {lo : am_Lo} {st : List Value} {M : am_M} {Q : Option Value → am_M → Prop} (hz : ZO M) (h : wp E d k pc lo st M Q) : wp E d k pc lo st M (fun r M' => Q r M' ∧ ZO M') := by
  obtain ⟨n, r, M', h1, h2⟩ := h
  exact ⟨n, r, M', h1, h2, zo_run _ _ _ _ _ _ _ _ h1 hz⟩
theorem wpC_zo {E : Nat × (Nat → Int32)} {d j : Nat} {as : List Value} {M : am_M} {Q : Option Value → am_M → Prop} (hz : ZO M) (h : wpC E d j as M Q) : wpC E d j as M (fun r M' => Q r M' ∧ ZO M') := wp_zo hz h
