/-! ===== the constructors: run once, without a script ===== -/
def am_2k (st : List Value) : Bool := st.any (fun v => match v with
  | .float u => Nat.beq u.toNat 2000
  | _ => false)
def am_run0 : Nat → Nat → Nat → Nat → am_Lo → List Value → am_M → Option (Option Value × am_M)
  | 0, _, _, _, _, _, _ => none
  | n + 1, d, k, pc, lo, st, M => if am_2k st = true then none else match am_at k pc with
    | none => none
    | some (ins, a1, a2, _) => match am_p ins a1 a2 st with
      | some st' => am_run0 n d k (pc + am_len ins a1) lo st' M
      | none => match am_l (am_ml k) ins lo st with
        | some (lo', st') => am_run0 n d k (pc + am_len ins a1) lo' st' M
        | none => match am_b ins pc st with
          | some (pc', st') => am_run0 n d k pc' lo st' M
          | none => match am_m 0 (fun _ => 0) d ins a1 a2 st M with
            | some (st', M') => am_run0 n d k (pc + am_len ins a1) lo st' M'
            | none => match am_r (am_rt k) ins st with
              | some v => some (v, M)
              | none => match am_c ins a1 a2 st M with
                | none => none
                | some (j, as, rest) => match d with
                  | 0 => none
                  | d' + 1 => match am_run0 n d' j 0 (lv_args 0 as) [] M with
                    | none => none
                    | some (r, M1) => am_run0 n (d' + 1) k (pc + 3) lo (r.toList ++ rest) M1
theorem ext_ne {L : Nat} {xs : Nat → Int32} {h : Nat} (hn : h ≠ 2000) : am_ext 0 (fun _ => 0) h = am_ext L xs h := by
  unfold am_ext
  rw [if_neg hn, if_neg hn]
theorem am_2k_hd {u : UInt32} {st : List Value} (h : ¬ am_2k (.float u :: st) = true) : u.toNat ≠ 2000 := fun q => h (by
  unfold am_2k
  rw [List.any_cons, Bool.or_eq_true]
  refine Or.inl ?_
  show Nat.beq u.toNat 2000 = true
  rw [q]; rfl)
theorem am_2k_tl {v : Value} {st : List Value} (h : ¬ am_2k (v :: st) = true) : ¬ am_2k st = true := fun q => h (by
  unfold am_2k at q ⊢
  rw [List.any_cons, Bool.or_eq_true]
  exact Or.inr q)
theorem am_m_0 {L : Nat} {xs : Nat → Int32} {d a1 a2 : Nat} {ins : Instr} {st : List Value} {M : am_M} (h : ¬ am_2k st = true) : am_m 0 (fun _ => 0) d ins a1 a2 st M = am_m L xs d ins a1 a2 st M := by
  unfold am_m
  split
  all_goals first
    | rfl
    | (rw [ext_ne (L := L) (xs := xs) (am_2k_hd (am_2k_tl h))])
    | (rw [ext_ne (L := L) (xs := xs) (am_2k_hd h)])
theorem am_run0_ok {L : Nat} {xs : Nat → Int32} : ∀ (n d k pc : Nat) (lo : am_Lo) (st : List Value) (M : am_M) (r : Option Value × am_M), am_run0 n d k pc lo st M = some r → am_run L xs n d k pc lo st M = some r := by
  intro n
  induction n with
  | zero => intro d k pc lo st M r h; simp [am_run0] at h
  | succ n ih =>
    intro d k pc lo st M r h
    rw [am_run0] at h
    rw [am_run]
    by_cases q : am_2k st = true
    · rw [if_pos q] at h; cases h
    · rw [if_neg q] at h
      cases ha : am_at k pc with
      | none => rw [ha] at h; cases h
      | some x =>
        obtain ⟨ins, a1, a2, a3⟩ := x
        rw [ha] at h
        dsimp only at h ⊢
        rw [am_m_0 (L := L) (xs := xs) q] at h
        cases hp : am_p ins a1 a2 st with
        | some st' => rw [hp] at h; exact ih _ _ _ _ _ _ _ h
        | none =>
          rw [hp] at h
          dsimp only at h ⊢
          cases hl : am_l (am_ml k) ins lo st with
          | some x => rw [hl] at h; exact ih _ _ _ _ _ _ _ h
          | none =>
            rw [hl] at h
            dsimp only at h ⊢
            cases hb : am_b ins pc st with
            | some x => rw [hb] at h; exact ih _ _ _ _ _ _ _ h
            | none =>
              rw [hb] at h
              dsimp only at h ⊢
              cases hm : am_m L xs d ins a1 a2 st M with
              | some x => rw [hm] at h; exact ih _ _ _ _ _ _ _ h
              | none =>
                rw [hm] at h
                dsimp only at h ⊢
                cases hr : am_r (am_rt k) ins st with
                | some v => rw [hr] at h; exact h
                | none =>
                  rw [hr] at h
                  dsimp only at h ⊢
                  cases hc : am_c ins a1 a2 st M with
                  | none => rw [hc] at h; cases h
                  | some x =>
                    obtain ⟨j, as, rest⟩ := x
                    rw [hc] at h
                    dsimp only at h ⊢
                    cases d with
                    | zero => cases h
                    | succ d' =>
                      dsimp only at h ⊢
                      cases h1 : am_run0 n d' j 0 (lv_args 0 as) [] M with
                      | none => rw [h1] at h; cases h
                      | some x =>
                        rw [h1] at h
                        rw [ih _ _ _ _ _ _ _ h1]
                        exact ih _ _ _ _ _ _ _ h
def cx_M1 : am_M := am_new am_M0 (.inl 11)
def cx_ck (M : am_M) : Bool := decide (M.1 = am_lay0) && decide (M.2.2.2.1 = am_R0) && decide (M.2.1 266 0 = 0 ∧ M.2.1 1 0 = 0 ∧ M.2.1 305 0 = 0 ∧ M.2.1 305 1 = 0 ∧ M.2.1 305 2 = 0 ∧ M.2.1 305 3 = 0 ∧ M.2.1 35 0 = 0 ∧ M.2.1 68 0 = 0 ∧ M.2.1 101 0 = 0 ∧ M.2.1 134 0 = 0 ∧ M.2.1 0 5 = 0 ∧ M.2.1 265 27 = 0 ∧ M.2.1 0 3 = 0 ∧ M.2.1 265 31 = 0 ∧ M.2.1 265 25 = 0 ∧ M.2.2.1 265 26 = 0 ∧ M.2.1 265 36 = 19)
def cx_all : Bool := match am_run0 6000 999 82 0 (lv_args 0 [.ref 0]) [] cx_M1 with
  | some (none, M2) => decide (M2.1.length = 265) && am_rec (am_new M2 (.inl 12)) 138 [.ref 265] && (match am_run0 6000 999 138 0 (lv_args 0 [.ref 265]) [] (am_new M2 (.inl 12)) with
    | some (none, M3) => cx_ck M3
    | _ => false)
  | _ => false
set_option maxRecDepth 1000000 in
theorem cx_ok : cx_all = true := by decide +kernel
theorem cx_ex : ∃ (M2 : am_M) (I : Nat → Nat → Int32) (J : Nat → Nat → Int64) (A : Nat → Option Nat), M2.1.length = 265 ∧ am_rec (am_new M2 (.inl 12)) 138 [.ref 265] = true ∧ (∀ E, wpC E 999 82 [.ref 0] cx_M1 (fun r M => r = none ∧ M = M2)) ∧ (∀ E, wpC E 999 138 [.ref 265] (am_new M2 (.inl 12)) (fun r M => r = none ∧ M = mm I J A)) ∧ Inv I J := by
  have h := cx_ok
  unfold cx_all at h
  split at h
  · rename_i M2 h2
    rw [Bool.and_eq_true, Bool.and_eq_true] at h
    obtain ⟨⟨hl, hrec⟩, h⟩ := h
    split at h
    · rename_i M3 h3
      unfold cx_ck at h
      rw [Bool.and_eq_true, Bool.and_eq_true] at h
      obtain ⟨⟨k1, k2⟩, k3⟩ := h
      have e1 := of_decide_eq_true k1
      have e2 := of_decide_eq_true k2
      clear k1 k2
      obtain ⟨c1, c2, c3, c4, c5, c6, c7, c8, c9, c10, c11, c12, c13, c14, c15, c16, c17⟩ := of_decide_eq_true k3
      obtain ⟨l3, I, J, R, A⟩ := M3
      dsimp only at e1 e2 c1 c2 c3 c4 c5 c6 c7 c8 c9 c10 c11 c12 c13 c14 c15 c16 c17
      subst e1
      subst e2
      refine ⟨M2, I, J, A, of_decide_eq_true hl, hrec, fun E => ⟨6000, none, M2, am_run0_ok _ _ _ _ _ _ _ _ h2, rfl, rfl⟩, fun E => ⟨6000, none, _, am_run0_ok _ _ _ _ _ _ _ _ h3, rfl, rfl⟩, Or.inl ⟨c1, c2⟩, fun k hk => Or.inl ?_, ⟨0, by omega, c11, c12, fun i hi => absurd hi (Nat.not_lt_zero i)⟩, ⟨0, by omega, c13, c14, fun i hi => absurd hi (Nat.not_lt_zero i)⟩, ⟨?_, ?_⟩, c17⟩
      · have hc : k = 0 ∨ k = 1 ∨ k = 2 ∨ k = 3 := by omega
        rcases hc with rfl | rfl | rfl | rfl
        · exact ⟨c3, c7⟩
        · exact ⟨c4, c8⟩
        · exact ⟨c5, c9⟩
        · exact ⟨c6, c10⟩
      · unfold vI; rw [c15]; rfl
      · unfold vJ; rw [c16]; rfl
    · cases h
  · cases h
