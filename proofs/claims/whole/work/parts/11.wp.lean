/-! ===== runs of the small machine as a judgement: from here it ends, and Q holds of answer and memory ===== -/
theorem am_run_up {L : Nat} {xs : Nat → Int32} : ∀ (n d k pc : Nat) (lo : am_Lo) (st : List Value) (M : am_M) (r : Option Value × am_M), am_run L xs n d k pc lo st M = some r → am_run L xs (n + 1) d k pc lo st M = some r := by
  intro n
  induction n with
  | zero => intro d k pc lo st M r h; simp [am_run] at h
  | succ n ih =>
    intro d k pc lo st M r h
    rw [am_run] at h ⊢
    split at h
    · cases h
    · split at h
      · exact ih _ _ _ _ _ _ _ h
      · split at h
        · exact ih _ _ _ _ _ _ _ h
        · split at h
          · exact ih _ _ _ _ _ _ _ h
          · split at h
            · exact ih _ _ _ _ _ _ _ h
            · split at h
              · exact h
              · split at h
                · cases h
                · split at h
                  · cases h
                  · split at h
                    · cases h
                    · rename_i hr
                      rw [ih _ _ _ _ _ _ _ hr]
                      exact ih _ _ _ _ _ _ _ h
theorem am_run_le {L : Nat} {xs : Nat → Int32} {n n' d k pc : Nat} {lo : am_Lo} {st : List Value} {M : am_M} {r : Option Value × am_M} (hn : n ≤ n') (h : am_run L xs n d k pc lo st M = some r) : am_run L xs n' d k pc lo st M = some r := by
  induction hn with
  | refl => exact h
  | step _ ih => exact am_run_up _ _ _ _ _ _ _ _ ih
def wp (E : Nat × (Nat → Int32)) (d k pc : Nat) (lo : am_Lo) (st : List Value) (M : am_M) (Q : Option Value → am_M → Prop) : Prop := ∃ (n : Nat) (r : Option Value) (M' : am_M), am_run E.1 E.2 n d k pc lo st M = some (r, M') ∧ Q r M'
/-- a call of a method -/
def wpC (E : Nat × (Nat → Int32)) (d j : Nat) (as : List Value) (M : am_M) (Q : Option Value → am_M → Prop) : Prop := wp E d j 0 (lv_args 0 as) [] M Q
section WP
variable {E : Nat × (Nat → Int32)} {d k pc pc' : Nat} {lo lo' : am_Lo} {st st' : List Value} {M M' : am_M} {Q Q' : Option Value → am_M → Prop} {ins : Instr} {a1 a2 a3 : Nat}
theorem wp_mono (h : wp E d k pc lo st M Q) (hQ : ∀ r M', Q r M' → Q' r M') : wp E d k pc lo st M Q' := by
  obtain ⟨n, r, M', h1, h2⟩ := h
  exact ⟨n, r, M', h1, hQ r M' h2⟩
theorem wpC_mono {j : Nat} {as : List Value} (h : wpC E d j as M Q) (hQ : ∀ r M', Q r M' → Q' r M') : wpC E d j as M Q' := wp_mono h hQ
/-- one step that goes on -/
theorem wp_next {d2 k2 : Nat} (h : ∀ n, am_run E.1 E.2 (n + 1) d k pc lo st M = am_run E.1 E.2 n d2 k2 pc' lo' st' M') : wp E d k pc lo st M Q = wp E d2 k2 pc' lo' st' M' Q := by
  apply propext
  constructor
  · rintro ⟨n, r, M1, h1, h2⟩
    cases n with
    | zero => simp [am_run] at h1
    | succ n => exact ⟨n, r, M1, by rw [← h]; exact h1, h2⟩
  · rintro ⟨n, r, M1, h1, h2⟩
    exact ⟨n + 1, r, M1, by rw [h]; exact h1, h2⟩
theorem wr_p (h : am_at k pc = some (ins, a1, a2, a3)) (hp : am_p ins a1 a2 st = some st') (hc : pc + am_len ins a1 = pc') : wp E d k pc lo st M Q = wp E d k pc' lo st' M Q := by
  subst hc
  apply wp_next
  intro n
  rw [am_run, h]
  dsimp only
  rw [hp]
theorem wr_l (h : am_at k pc = some (ins, a1, a2, a3)) (hp : am_p ins a1 a2 st = none) (hl : am_l (am_ml k) ins lo st = some (lo', st')) (hc : pc + am_len ins a1 = pc') : wp E d k pc lo st M Q = wp E d k pc' lo' st' M Q := by
  subst hc
  apply wp_next
  intro n
  rw [am_run, h]
  dsimp only
  rw [hp]
  dsimp only
  rw [hl]
theorem wr_b (h : am_at k pc = some (ins, a1, a2, a3)) (hp : am_p ins a1 a2 st = none) (hl : am_l (am_ml k) ins lo st = none) (hb : am_b ins pc st = some (pc', st')) : wp E d k pc lo st M Q = wp E d k pc' lo st' M Q := by
  apply wp_next
  intro n
  rw [am_run, h]
  dsimp only
  rw [hp]
  dsimp only
  rw [hl]
  dsimp only
  rw [hb]
theorem wr_m (h : am_at k pc = some (ins, a1, a2, a3)) (hp : am_p ins a1 a2 st = none) (hl : am_l (am_ml k) ins lo st = none) (hb : am_b ins pc st = none) (hm : am_m E.1 E.2 d ins a1 a2 st M = some (st', M')) (hc : pc + am_len ins a1 = pc') : wp E d k pc lo st M Q = wp E d k pc' lo st' M' Q := by
  subst hc
  apply wp_next
  intro n
  rw [am_run, h]
  dsimp only
  rw [hp]
  dsimp only
  rw [hl]
  dsimp only
  rw [hb]
  dsimp only
  rw [hm]
theorem wr_r {v : Option Value} (h : am_at k pc = some (ins, a1, a2, a3)) (hp : am_p ins a1 a2 st = none) (hl : am_l (am_ml k) ins lo st = none) (hb : am_b ins pc st = none) (hm : am_m E.1 E.2 d ins a1 a2 st M = none) (hr : am_r (am_rt k) ins st = some v) : wp E d k pc lo st M Q = Q v M := by
  have e : ∀ n, am_run E.1 E.2 (n + 1) d k pc lo st M = some (v, M) := by
    intro n
    rw [am_run, h]
    dsimp only
    rw [hp]
    dsimp only
    rw [hl]
    dsimp only
    rw [hb]
    dsimp only
    rw [hm]
    dsimp only
    rw [hr]
  apply propext
  constructor
  · rintro ⟨n, r, M1, h1, h2⟩
    cases n with
    | zero => simp [am_run] at h1
    | succ n =>
      rw [e] at h1
      cases h1
      exact h2
  · intro h2
    exact ⟨1, v, M, e 0, h2⟩
theorem wr_c {j : Nat} {as rest : List Value} (h : am_at k pc = some (ins, a1, a2, a3)) (hp : am_p ins a1 a2 st = none) (hl : am_l (am_ml k) ins lo st = none) (hb : am_b ins pc st = none) (hm : am_m E.1 E.2 (d + 1) ins a1 a2 st M = none) (hr : am_r (am_rt k) ins st = none) (hcc : am_c ins a1 a2 st M = some (j, as, rest)) :
    wp E (d + 1) k pc lo st M Q = wpC E d j as M (fun r M1 => wp E (d + 1) k (pc + 3) lo (r.toList ++ rest) M1 Q) := by
  have e : ∀ n, am_run E.1 E.2 (n + 1) (d + 1) k pc lo st M = match am_run E.1 E.2 n d j 0 (lv_args 0 as) [] M with
      | none => none
      | some (r, M1) => am_run E.1 E.2 n (d + 1) k (pc + 3) lo (r.toList ++ rest) M1 := by
    intro n
    rw [am_run, h]
    dsimp only
    rw [hp]
    dsimp only
    rw [hl]
    dsimp only
    rw [hb]
    dsimp only
    rw [hm]
    dsimp only
    rw [hr]
    dsimp only
    rw [hcc]
    rfl
  apply propext
  constructor
  · rintro ⟨n, r, M1, h1, h2⟩
    cases n with
    | zero => simp [am_run] at h1
    | succ n =>
      rw [e] at h1
      split at h1
      · cases h1
      · rename_i r1 M2 hr1
        exact ⟨n, r1, M2, hr1, n, r, M1, h1, h2⟩
  · rintro ⟨n, r1, M2, hr1, n2, r, M1, h1, h2⟩
    refine ⟨max n n2 + 1, r, M1, ?_, h2⟩
    rw [e, am_run_le (Nat.le_max_left n n2) hr1]
    exact am_run_le (Nat.le_max_right n n2) h1
end WP
