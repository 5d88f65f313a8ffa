/-! ===== wx: what must hold for the code from here on, computed by unfolding; it stops at the places of hs ===== -/
def am_srt : List am_E → Bool
  | [] => true
  | [_] => true
  | a :: b :: l => Nat.blt a.1 b.1 && am_srt (b :: l)
theorem am_srt_tl {a : am_E} {l : List am_E} (h : am_srt (a :: l) = true) : am_srt l = true := by
  cases l with
  | nil => rfl
  | cons b l =>
    simp only [am_srt, Bool.and_eq_true] at h
    exact h.2
theorem am_srt_lt : ∀ {l : List am_E} {a : am_E}, am_srt (a :: l) = true → ∀ e ∈ l, a.1 < e.1 := by
  intro l
  induction l with
  | nil => intro a _ e he; cases he
  | cons b l ih =>
    intro a h e he
    have h1 : a.1 < b.1 := by
      simp only [am_srt, Bool.and_eq_true] at h
      exact Nat.blt_eq.mp h.1
    rcases List.mem_cons.mp he with rfl | he
    · exact h1
    · exact Nat.lt_trans h1 (ih (am_srt_tl h) e he)
theorem am_srt_find : ∀ {l : List am_E}, am_srt l = true → ∀ e ∈ l, l.find? (fun q => q.1 == e.1) = some e := by
  intro l
  induction l with
  | nil => intro _ e he; cases he
  | cons a l ih =>
    intro h e he
    rw [List.find?_cons]
    rcases List.mem_cons.mp he with rfl | he
    · simp
    · have := am_srt_lt h e he
      have hne : (a.1 == e.1) = false := by
        have : ¬ a.1 = e.1 := by omega
        simpa using this
      rw [hne]
      exact ih (am_srt_tl h) e he
def am_sfx (k pc : Nat) : List am_E := (am_cd.getD k []).dropWhile (fun q => !(Nat.beq q.1 pc))
/-- a piece of a method's code -/
def am_pc (k : Nat) (cs : List am_E) : Prop := ∀ e ∈ cs, am_at k e.1 = some e.2
theorem am_pc_all {k : Nat} (h : am_srt (am_cd.getD k []) = true) : am_pc k (am_cd.getD k []) := by
  intro e he
  unfold am_at
  rw [am_srt_find h e he]
  rfl
theorem am_pc_sfx {k pc : Nat} (h : am_srt (am_cd.getD k []) = true) : am_pc k (am_sfx k pc) := fun e he => am_pc_all h e ((List.dropWhile_sublist _).subset he)
theorem am_sfx_hd {k pc : Nat} {e : am_E} {cs : List am_E} (h : am_sfx k pc = e :: cs) : e.1 = pc := by
  have h1 := List.head?_dropWhile_not (fun q : am_E => !(Nat.beq q.1 pc)) (am_cd.getD k [])
  unfold am_sfx at h
  rw [h] at h1
  simp at h1
  exact h1
abbrev am_K : Type := am_Lo → List Value → am_M → Prop
def wx_go (E : Nat × (Nat → Int32)) (d k : Nat) (hs : List Nat) (Q : Option Value → am_M → Prop) (rec : List am_E → am_K) (pc' : Nat) (cs : List am_E) (lo : am_Lo) (st : List Value) (M : am_M) : Prop := match cs with
  | [] => False
  | e :: l => match Nat.beq e.1 pc' with
    | true => match hs.contains pc' with
      | true => wp E d k pc' lo st M Q
      | false => rec (e :: l) lo st M
    | false => False
def wx_jp (E : Nat × (Nat → Int32)) (d k : Nat) (hs : List Nat) (Q : Option Value → am_M → Prop) (rec : List am_E → am_K) (pc : Nat) (off : Int) (lo : am_Lo) (st : List Value) (M : am_M) : Prop := match (pc : Int) + off with
  | .ofNat t => wx_go E d k hs Q rec t (am_sfx k t) lo st M
  | .negSucc _ => False
/-- a condition: both ways -/
def wx_if (c : Prop) (a b : Prop) : Prop := (c → a) ∧ (¬ c → b)
def wx_bt (pc : Nat) (off : Int) (f : Nat → Prop) : Prop := match (pc : Int) + off with
  | .ofNat t => f t
  | .negSucc _ => False
/-- the cases of a table -/
def wx_tb (x : Int) (jp : Int → Prop) : Int → List Int → Prop
  | _, [] => True
  | v, o :: os => (x = v → jp o) ∧ wx_tb x jp (v + 1) os
def wx_lu (x : Int) (jp : Int → Prop) : List (Int × Int) → Prop
  | [] => True
  | q :: qs => (x = q.1 → jp q.2) ∧ wx_lu x jp qs
/-- a row copied -/
def wx_cp (kk : List Value → am_M → Prop) (st : List Value) (M : am_M) : Prop := match st with
  | .int n :: .int dp :: .ref b :: .int sp :: .ref a :: st => match M.1[a]?, M.1[b]? with
    | some (.inr (0, na)), some (.inr (0, nb)) => (am_cat st ≤ 8 ∧ ¬ sp < 0 ∧ ¬ dp < 0 ∧ ¬ n < 0) ∧ (sp.toNatClampNeg + n.toNatClampNeg ≤ na ∧ dp.toNatClampNeg + n.toNatClampNeg ≤ nb) ∧ kk st (am_uI M b (va_cpy (M.2.1 a) (M.2.1 b) sp.toNatClampNeg dp.toNatClampNeg n.toNatClampNeg))
    | some (.inr (1, na)), some (.inr (1, nb)) => (am_cat st ≤ 8 ∧ ¬ sp < 0 ∧ ¬ dp < 0 ∧ ¬ n < 0) ∧ (sp.toNatClampNeg + n.toNatClampNeg ≤ na ∧ dp.toNatClampNeg + n.toNatClampNeg ≤ nb) ∧ kk st (am_uL M b (va_cpy (M.2.2.1 a) (M.2.2.1 b) sp.toNatClampNeg dp.toNatClampNeg n.toNatClampNeg))
    | _, _ => False
  | _ => False
def wx (E : Nat × (Nat → Int32)) (d k : Nat) (hs : List Nat) (Q : Option Value → am_M → Prop) : Nat → List am_E → am_Lo → List Value → am_M → Prop
  | 0, _, _, _, _ => False
  | _ + 1, [], _, _, _ => False
  | n + 1, (pc, ins, a1, a2, _) :: cs, lo, st, M => match ins, st with
    | .idiv, .int y :: .int x :: st => (¬ y = 0) ∧ wx_go E d k hs Q (wx E d k hs Q n) (pc + 1) cs lo (.int (x / y) :: st) M
    | .irem, .int y :: .int x :: st => (¬ y = 0) ∧ wx_go E d k hs Q (wx E d k hs Q n) (pc + 1) cs lo (.int (x - x / y * y) :: st) M
    | .ldiv, .long y :: .long x :: st => (¬ y = 0) ∧ wx_go E d k hs Q (wx E d k hs Q n) (pc + 1) cs lo (.long (x / y) :: st) M
    | .lrem, .long y :: .long x :: st => (¬ y = 0) ∧ wx_go E d k hs Q (wx E d k hs Q n) (pc + 1) cs lo (.long (x - x / y * y) :: st) M
    | .goto off, st => wx_jp E d k hs Q (wx E d k hs Q n) pc off lo st M
    | .ifCond .eq off, .int x :: st => wx_bt pc off (fun t => wx_if (x = 0) (wx_go E d k hs Q (wx E d k hs Q n) t (am_sfx k t) lo st M) (wx_go E d k hs Q (wx E d k hs Q n) (pc + 3) cs lo st M))
    | .ifCond .ne off, .int x :: st => wx_bt pc off (fun t => wx_if (x = 0) (wx_go E d k hs Q (wx E d k hs Q n) (pc + 3) cs lo st M) (wx_go E d k hs Q (wx E d k hs Q n) t (am_sfx k t) lo st M))
    | .ifCond .lt off, .int x :: st => wx_bt pc off (fun t => wx_if (x < 0) (wx_go E d k hs Q (wx E d k hs Q n) t (am_sfx k t) lo st M) (wx_go E d k hs Q (wx E d k hs Q n) (pc + 3) cs lo st M))
    | .ifCond .ge off, .int x :: st => wx_bt pc off (fun t => wx_if (0 ≤ x) (wx_go E d k hs Q (wx E d k hs Q n) t (am_sfx k t) lo st M) (wx_go E d k hs Q (wx E d k hs Q n) (pc + 3) cs lo st M))
    | .ifCond .gt off, .int x :: st => wx_bt pc off (fun t => wx_if (0 < x) (wx_go E d k hs Q (wx E d k hs Q n) t (am_sfx k t) lo st M) (wx_go E d k hs Q (wx E d k hs Q n) (pc + 3) cs lo st M))
    | .ifCond .le off, .int x :: st => wx_bt pc off (fun t => wx_if (x ≤ 0) (wx_go E d k hs Q (wx E d k hs Q n) t (am_sfx k t) lo st M) (wx_go E d k hs Q (wx E d k hs Q n) (pc + 3) cs lo st M))
    | .if_icmp .eq off, .int y :: .int x :: st => wx_bt pc off (fun t => wx_if (x = y) (wx_go E d k hs Q (wx E d k hs Q n) t (am_sfx k t) lo st M) (wx_go E d k hs Q (wx E d k hs Q n) (pc + 3) cs lo st M))
    | .if_icmp .ne off, .int y :: .int x :: st => wx_bt pc off (fun t => wx_if (x = y) (wx_go E d k hs Q (wx E d k hs Q n) (pc + 3) cs lo st M) (wx_go E d k hs Q (wx E d k hs Q n) t (am_sfx k t) lo st M))
    | .if_icmp .lt off, .int y :: .int x :: st => wx_bt pc off (fun t => wx_if (x < y) (wx_go E d k hs Q (wx E d k hs Q n) t (am_sfx k t) lo st M) (wx_go E d k hs Q (wx E d k hs Q n) (pc + 3) cs lo st M))
    | .if_icmp .ge off, .int y :: .int x :: st => wx_bt pc off (fun t => wx_if (y ≤ x) (wx_go E d k hs Q (wx E d k hs Q n) t (am_sfx k t) lo st M) (wx_go E d k hs Q (wx E d k hs Q n) (pc + 3) cs lo st M))
    | .if_icmp .gt off, .int y :: .int x :: st => wx_bt pc off (fun t => wx_if (y < x) (wx_go E d k hs Q (wx E d k hs Q n) t (am_sfx k t) lo st M) (wx_go E d k hs Q (wx E d k hs Q n) (pc + 3) cs lo st M))
    | .if_icmp .le off, .int y :: .int x :: st => wx_bt pc off (fun t => wx_if (x ≤ y) (wx_go E d k hs Q (wx E d k hs Q n) t (am_sfx k t) lo st M) (wx_go E d k hs Q (wx E d k hs Q n) (pc + 3) cs lo st M))
    | .tableswitch dflt lo' hi offs, .int x :: st => (x.toInt < lo' ∨ hi < x.toInt → wx_jp E d k hs Q (wx E d k hs Q n) pc dflt lo st M) ∧ lo' + offs.size = hi + 1 ∧ wx_tb x.toInt (fun off => wx_jp E d k hs Q (wx E d k hs Q n) pc off lo st M) lo' offs.toList
    | .iaload, .int i :: .ref a :: st => match M.1[a]? with
      | some (.inr (0, l)) => vp_in i l ∧ wx_go E d k hs Q (wx E d k hs Q n) (pc + 1) cs lo (.int (M.2.1 a i.toNatClampNeg) :: st) M
      | _ => False
    | .iaload, .int i :: .float u :: st => match am_ext E.1 E.2 u.toNat with
      | some (0, l, f) => vp_in i l ∧ wx_go E d k hs Q (wx E d k hs Q n) (pc + 1) cs lo (.int (f i.toNatClampNeg) :: st) M
      | _ => False
    | .baload, .int i :: .ref a :: st => match M.1[a]? with
      | some (.inr (2, l)) => vp_in i l ∧ wx_go E d k hs Q (wx E d k hs Q n) (pc + 1) cs lo (.int (M.2.1 a i.toNatClampNeg) :: st) M
      | some (.inr (3, l)) => vp_in i l ∧ wx_go E d k hs Q (wx E d k hs Q n) (pc + 1) cs lo (.int (M.2.1 a i.toNatClampNeg) :: st) M
      | _ => False
    | .baload, .int i :: .float u :: st => match am_ext E.1 E.2 u.toNat with
      | some (2, l, f) => vp_in i l ∧ wx_go E d k hs Q (wx E d k hs Q n) (pc + 1) cs lo (.int (f i.toNatClampNeg) :: st) M
      | _ => False
    | .laload, .int i :: .ref a :: st => match M.1[a]? with
      | some (.inr (1, l)) => vp_in i l ∧ wx_go E d k hs Q (wx E d k hs Q n) (pc + 1) cs lo (.long (M.2.2.1 a i.toNatClampNeg) :: st) M
      | _ => False
    | .aaload, .int i :: .ref a :: st => match M.1[a]? with
      | some (.inr (4, l)) => vp_in i l ∧ ∃ b, am_rl M.2.2.2.1 a i.toNatClampNeg = some b ∧ wx_go E d k hs Q (wx E d k hs Q n) (pc + 1) cs lo (.ref b :: st) M
      | some (.inr (5, l)) => vp_in i l ∧ ∃ b, am_rl M.2.2.2.1 a i.toNatClampNeg = some b ∧ wx_go E d k hs Q (wx E d k hs Q n) (pc + 1) cs lo (.ref b :: st) M
      | _ => False
    | .iastore, .int x :: .int i :: .ref a :: st => match M.1[a]? with
      | some (.inr (0, l)) => vp_in i l ∧ wx_go E d k hs Q (wx E d k hs Q n) (pc + 1) cs lo st (am_uI M a (upd (M.2.1 a) i.toNatClampNeg x))
      | _ => False
    | .bastore, .int x :: .int i :: .ref a :: st => match M.1[a]? with
      | some (.inr (2, l)) => vp_in i l ∧ wx_go E d k hs Q (wx E d k hs Q n) (pc + 1) cs lo st (am_uI M a (upd (M.2.1 a) i.toNatClampNeg (vp_nar .byte x)))
      | some (.inr (3, l)) => vp_in i l ∧ wx_go E d k hs Q (wx E d k hs Q n) (pc + 1) cs lo st (am_uI M a (upd (M.2.1 a) i.toNatClampNeg (vp_nar .boolean x)))
      | _ => False
    | .lastore, .long x :: .int i :: .ref a :: st => match M.1[a]? with
      | some (.inr (1, l)) => vp_in i l ∧ wx_go E d k hs Q (wx E d k hs Q n) (pc + 1) cs lo st (am_uL M a (vp_updL (M.2.2.1 a) i.toNatClampNeg x))
      | _ => False
    | .ireturn, [.int v] => match am_rt k with
      | some .int => Q (some (.int v)) M
      | some ty => narrow ty (.int v) = .int v ∧ Q (some (.int v)) M
      | none => False
    | .invokestatic i, st => match Nat.blt a1 265 with
      | true => match d with
        | 0 => False
        | d' + 1 => am_c (.invokestatic i) a1 a2 st M = some (a1, (st.take a2).reverse, st.drop a2) ∧ wpC E d' a1 (st.take a2).reverse M (fun r M1 => wx_go E (d' + 1) k hs Q (wx E (d' + 1) k hs Q n) (pc + 3) cs lo (r.toList ++ st.drop a2) M1)
      | false => match Nat.beq a1 1000 with
        | true => 0 < d ∧ wx_cp (fun st' M' => wx_go E d k hs Q (wx E d k hs Q n) (pc + 3) cs lo st' M') st M
        | false => match am_m E.1 E.2 d (.invokestatic i) a1 a2 st M with
          | some (st', M') => wx_go E d k hs Q (wx E d k hs Q n) (pc + 3) cs lo st' M'
          | none => False
    | .invokevirtual i, st => match d with
        | 0 => False
        | d' + 1 => am_c (.invokevirtual i) a1 a2 st M = some (a1, (st.take a2).reverse, st.drop a2) ∧ wpC E d' a1 (st.take a2).reverse M (fun r M1 => wx_go E (d' + 1) k hs Q (wx E (d' + 1) k hs Q n) (pc + 3) cs lo (r.toList ++ st.drop a2) M1)
    | .getfield i, .ref a :: st => match Nat.beq a1 0 && Nat.beq a2 0 with
      | true => M.1[a]? = some (.inl 0) ∧ ∃ b, M.2.2.2.2 a = some b ∧ wx_go E d k hs Q (wx E d k hs Q n) (pc + 3) cs lo (.ref b :: st) M
      | false => match am_m E.1 E.2 d (.getfield i) a1 a2 (.ref a :: st) M with
        | some (st', M') => wx_go E d k hs Q (wx E d k hs Q n) (pc + 3) cs lo st' M'
        | none => False
    | ins, st => match am_p ins a1 a2 st with
      | some st' => wx_go E d k hs Q (wx E d k hs Q n) (pc + am_len ins a1) cs lo st' M
      | none => match am_l (am_ml k) ins lo st with
        | some (lo', st') => wx_go E d k hs Q (wx E d k hs Q n) (pc + am_len ins a1) cs lo' st' M
        | none => match am_b ins pc st with
          | some _ => False
          | none => match am_m E.1 E.2 d ins a1 a2 st M with
            | some (st', M') => wx_go E d k hs Q (wx E d k hs Q n) (pc + am_len ins a1) cs lo st' M'
            | none => match am_r (am_rt k) ins st with
              | some v => Q v M
              | none => False

section WX
variable {E : Nat × (Nat → Int32)} {d k : Nat} {hs : List Nat} {Q : Option Value → am_M → Prop}
theorem wx_go_ok {rec : List am_E → am_K} {pc' : Nat} {cs : List am_E} {lo : am_Lo} {st : List Value} {M : am_M} (hrec : ∀ cs lo st M, am_pc k cs → rec cs lo st M → ∀ e l, cs = e :: l → wp E d k e.1 lo st M Q) (hcs : am_pc k cs) (h : wx_go E d k hs Q rec pc' cs lo st M) : wp E d k pc' lo st M Q := by
  unfold wx_go at h
  split at h
  · cases h
  · rename_i e l
    split at h
    · rename_i hb
      have hb := Nat.eq_of_beq_eq_true hb
      split at h
      · exact h
      · rw [← hb]
        exact hrec _ _ _ _ hcs h e l rfl
    · cases h
theorem wx_jp_ok (hk : am_srt (am_cd.getD k []) = true) {rec : List am_E → am_K} {pc : Nat} {off : Int} {lo : am_Lo} {st : List Value} {M : am_M} (hrec : ∀ cs lo st M, am_pc k cs → rec cs lo st M → ∀ e l, cs = e :: l → wp E d k e.1 lo st M Q) (h : wx_jp E d k hs Q rec pc off lo st M) : ∃ t : Nat, (pc : Int) + off = (t : Int) ∧ wp E d k t lo st M Q := by
  unfold wx_jp at h
  split at h
  · rename_i t ht
    exact ⟨t, ht, wx_go_ok hrec (am_pc_sfx hk) h⟩
  · cases h
theorem wx_cj {b : Bool} {pc t : Nat} {off : Int} {st : List Value} (ht : (pc : Int) + off = (t : Int)) : am_cj b pc off st = some (if b = true then t else pc + 3, st) := by
  unfold am_cj
  rw [if_pos (by omega)]
  have : ((pc : Int) + off).toNat = t := by omega
  rw [this]
/-- a jump that may be taken -/
theorem wx_br {pc t a1 a2 a3 : Nat} {ins : Instr} {off : Int} {b : Bool} {c : Prop} {lo : am_Lo} {st st' : List Value} {M : am_M} (hat : am_at k pc = some (ins, a1, a2, a3)) (hp : am_p ins a1 a2 st = none) (hl : am_l (am_ml k) ins lo st = none) (hb : am_b ins pc st = am_cj b pc off st') (hc : b = true ↔ c) (ht : (pc : Int) + off = (t : Int)) (h1 : c → wp E d k t lo st' M Q) (h2 : ¬ c → wp E d k (pc + 3) lo st' M Q) : wp E d k pc lo st M Q := by
  rw [wr_b hat hp hl (hb.trans (wx_cj ht))]
  cases b with
  | true => rw [if_pos rfl]; exact h1 (hc.mp rfl)
  | false => rw [if_neg (by decide)]; exact h2 (fun q => by cases hc.mpr q)
theorem wx_tb_at {x : Int} {jp : Int → Prop} : ∀ (os : List Int) (v : Int) (i : Nat) (o : Int), wx_tb x jp v os → os[i]? = some o → x = v + i → jp o := by
  intro os
  induction os with
  | nil => intro v i o _ h; cases h
  | cons a os ih =>
    intro v i o h hi hx
    cases i with
    | zero => cases hi; exact h.1 (by simpa using hx)
    | succ i => exact ih (v + 1) i o h.2 hi (by omega)
theorem wx_bt_ok {pc : Nat} {off : Int} {f : Nat → Prop} (h : wx_bt pc off f) : ∃ t : Nat, (pc : Int) + off = (t : Int) ∧ f t := by
  unfold wx_bt at h
  split at h
  · rename_i t ht
    exact ⟨t, ht, h⟩
  · cases h
set_option maxHeartbeats 4000000 in
theorem wx_ok' (hk : am_srt (am_cd.getD k []) = true) : ∀ (n : Nat) (cs : List am_E) (lo : am_Lo) (st : List Value) (M : am_M), am_pc k cs → wx E d k hs Q n cs lo st M → ∀ e l, cs = e :: l → wp E d k e.1 lo st M Q := by
  intro n
  induction n generalizing d with
  | zero => intro cs lo st M _ h; cases h
  | succ n ih =>
    intro cs lo st M hcs h e l he
    subst he
    obtain ⟨pc, ins, a1, a2, a3⟩ := e
    have hat : am_at k pc = some (ins, a1, a2, a3) := hcs _ List.mem_cons_self
    have hl' : am_pc k l := fun e he => hcs e (List.mem_cons_of_mem _ he)
    dsimp only
    unfold wx at h
    split at h
    · refine (wr_p hat ?_ rfl).mpr (wx_go_ok ih hl' h.2)
      exact if_neg h.1
    · refine (wr_p hat ?_ rfl).mpr (wx_go_ok ih hl' h.2)
      exact if_neg h.1
    · refine (wr_p hat ?_ rfl).mpr (wx_go_ok ih hl' h.2)
      exact if_neg h.1
    · refine (wr_p hat ?_ rfl).mpr (wx_go_ok ih hl' h.2)
      exact if_neg h.1
    · obtain ⟨t, ht, hw⟩ := wx_jp_ok hk ih h
      rw [wr_b hat rfl rfl (show am_j pc _ _ = some (t, _) by unfold am_j; rw [if_pos (by omega)]; congr 2; omega)]
      exact hw
    · obtain ⟨t, ht, h1, h2⟩ := wx_bt_ok h
      exact wx_br hat rfl rfl rfl decide_eq_true_iff ht (fun q => wx_go_ok ih (am_pc_sfx hk) (h1 q)) (fun q => wx_go_ok ih hl' (h2 q))
    · obtain ⟨t, ht, h1, h2⟩ := wx_bt_ok h
      exact wx_br (c := ¬ _) hat rfl rfl rfl decide_eq_true_iff ht (fun q => wx_go_ok ih (am_pc_sfx hk) (h2 q)) (fun q => wx_go_ok ih hl' (h1 (Decidable.not_not.mp q)))
    · obtain ⟨t, ht, h1, h2⟩ := wx_bt_ok h
      exact wx_br hat rfl rfl rfl decide_eq_true_iff ht (fun q => wx_go_ok ih (am_pc_sfx hk) (h1 q)) (fun q => wx_go_ok ih hl' (h2 q))
    · obtain ⟨t, ht, h1, h2⟩ := wx_bt_ok h
      exact wx_br hat rfl rfl rfl decide_eq_true_iff ht (fun q => wx_go_ok ih (am_pc_sfx hk) (h1 q)) (fun q => wx_go_ok ih hl' (h2 q))
    · obtain ⟨t, ht, h1, h2⟩ := wx_bt_ok h
      exact wx_br hat rfl rfl rfl decide_eq_true_iff ht (fun q => wx_go_ok ih (am_pc_sfx hk) (h1 q)) (fun q => wx_go_ok ih hl' (h2 q))
    · obtain ⟨t, ht, h1, h2⟩ := wx_bt_ok h
      exact wx_br hat rfl rfl rfl decide_eq_true_iff ht (fun q => wx_go_ok ih (am_pc_sfx hk) (h1 q)) (fun q => wx_go_ok ih hl' (h2 q))
    · obtain ⟨t, ht, h1, h2⟩ := wx_bt_ok h
      exact wx_br hat rfl rfl rfl decide_eq_true_iff ht (fun q => wx_go_ok ih (am_pc_sfx hk) (h1 q)) (fun q => wx_go_ok ih hl' (h2 q))
    · obtain ⟨t, ht, h1, h2⟩ := wx_bt_ok h
      exact wx_br (c := ¬ _) hat rfl rfl rfl decide_eq_true_iff ht (fun q => wx_go_ok ih (am_pc_sfx hk) (h2 q)) (fun q => wx_go_ok ih hl' (h1 (Decidable.not_not.mp q)))
    · obtain ⟨t, ht, h1, h2⟩ := wx_bt_ok h
      exact wx_br hat rfl rfl rfl decide_eq_true_iff ht (fun q => wx_go_ok ih (am_pc_sfx hk) (h1 q)) (fun q => wx_go_ok ih hl' (h2 q))
    · obtain ⟨t, ht, h1, h2⟩ := wx_bt_ok h
      exact wx_br hat rfl rfl rfl decide_eq_true_iff ht (fun q => wx_go_ok ih (am_pc_sfx hk) (h1 q)) (fun q => wx_go_ok ih hl' (h2 q))
    · obtain ⟨t, ht, h1, h2⟩ := wx_bt_ok h
      exact wx_br hat rfl rfl rfl decide_eq_true_iff ht (fun q => wx_go_ok ih (am_pc_sfx hk) (h1 q)) (fun q => wx_go_ok ih hl' (h2 q))
    · obtain ⟨t, ht, h1, h2⟩ := wx_bt_ok h
      exact wx_br hat rfl rfl rfl decide_eq_true_iff ht (fun q => wx_go_ok ih (am_pc_sfx hk) (h1 q)) (fun q => wx_go_ok ih hl' (h2 q))
    · rename_i dflt lo' hi offs x st
      obtain ⟨h1, h2, h3⟩ := h
      by_cases hx : x.toInt < lo' ∨ hi < x.toInt
      · obtain ⟨t, ht, hw⟩ := wx_jp_ok hk ih (h1 hx)
        refine (wr_b hat rfl rfl ?_).mpr hw
        show (if x.toInt < lo' ∨ hi < x.toInt then am_j pc dflt st else match offs[(x.toInt - lo').toNat]? with
          | some off => am_j pc off st
          | none => none) = some (t, st)
        rw [if_pos hx]
        unfold am_j
        rw [if_pos (by omega)]
        congr 2
        omega
      · have hlt : (x.toInt - lo').toNat < offs.size := by omega
        have ho : offs[(x.toInt - lo').toNat]? = some offs[(x.toInt - lo').toNat] := Array.getElem?_eq_getElem hlt
        have h4 := wx_tb_at _ _ (x.toInt - lo').toNat _ h3 (by rw [Array.getElem?_toList]; exact ho) (by omega)
        obtain ⟨t, ht, hw⟩ := wx_jp_ok hk ih h4
        refine (wr_b hat rfl rfl ?_).mpr hw
        show (if x.toInt < lo' ∨ hi < x.toInt then _ else match offs[(x.toInt - lo').toNat]? with
          | some off => am_j pc off st
          | none => none) = some (t, st)
        rw [if_neg hx, ho]
        show am_j pc _ st = _
        unfold am_j
        rw [if_pos (by omega)]
        congr 2
        omega
    · split at h
      · rename_i ha
        refine (wr_m hat rfl rfl rfl ?_ rfl).mpr (wx_go_ok ih hl' h.2)
        unfold am_m
        dsimp only
        rw [ha]
        exact if_pos h.1
      · cases h
    · split at h
      · rename_i ha
        refine (wr_m hat rfl rfl rfl ?_ rfl).mpr (wx_go_ok ih hl' h.2)
        unfold am_m
        dsimp only
        rw [ha]
        exact if_pos h.1
      · cases h
    · split at h
      · rename_i ha
        refine (wr_m hat rfl rfl rfl ?_ rfl).mpr (wx_go_ok ih hl' h.2)
        unfold am_m
        dsimp only
        rw [ha]
        exact if_pos h.1
      · rename_i ha
        refine (wr_m hat rfl rfl rfl ?_ rfl).mpr (wx_go_ok ih hl' h.2)
        unfold am_m
        dsimp only
        rw [ha]
        exact if_pos h.1
      · cases h
    · split at h
      · rename_i ha
        refine (wr_m hat rfl rfl rfl ?_ rfl).mpr (wx_go_ok ih hl' h.2)
        unfold am_m
        dsimp only
        rw [ha]
        exact if_pos h.1
      · cases h
    · split at h
      · rename_i ha
        refine (wr_m hat rfl rfl rfl ?_ rfl).mpr (wx_go_ok ih hl' h.2)
        unfold am_m
        dsimp only
        rw [ha]
        exact if_pos h.1
      · cases h
    · split at h
      · rename_i ha
        obtain ⟨h1, b, hb, h2⟩ := h
        refine (wr_m hat rfl rfl rfl ?_ rfl).mpr (wx_go_ok ih hl' h2)
        unfold am_m
        dsimp only
        rw [ha]
        refine (if_pos h1).trans ?_
        rw [hb]
        rfl
      · rename_i ha
        obtain ⟨h1, b, hb, h2⟩ := h
        refine (wr_m hat rfl rfl rfl ?_ rfl).mpr (wx_go_ok ih hl' h2)
        unfold am_m
        dsimp only
        rw [ha]
        refine (if_pos h1).trans ?_
        rw [hb]
        rfl
      · cases h
    · split at h
      · rename_i ha
        refine (wr_m hat rfl rfl rfl ?_ rfl).mpr (wx_go_ok ih hl' h.2)
        unfold am_m
        dsimp only
        rw [ha]
        exact if_pos h.1
      · cases h
    · split at h
      · rename_i ha
        refine (wr_m hat rfl rfl rfl ?_ rfl).mpr (wx_go_ok ih hl' h.2)
        unfold am_m
        dsimp only
        rw [ha]
        exact if_pos h.1
      · rename_i ha
        refine (wr_m hat rfl rfl rfl ?_ rfl).mpr (wx_go_ok ih hl' h.2)
        unfold am_m
        dsimp only
        rw [ha]
        exact if_pos h.1
      · cases h
    · split at h
      · rename_i ha
        refine (wr_m hat rfl rfl rfl ?_ rfl).mpr (wx_go_ok ih hl' h.2)
        unfold am_m
        dsimp only
        rw [ha]
        exact if_pos h.1
      · cases h
    · split at h
      · rename_i hrt
        refine (wr_r hat rfl rfl rfl rfl ?_).mpr h
        unfold am_r
        rw [hrt]
        exact if_pos rfl
      · rename_i ty hne hrt
        refine (wr_r hat rfl rfl rfl rfl ?_).mpr h.2
        unfold am_r
        rw [hrt]
        exact if_pos h.1
      · cases h
    · rename_i i st
      split at h
      · rename_i hlt
        have hlt : a1 < 265 := Nat.blt_eq.mp hlt
        split at h
        · cases h
        · refine (wr_c hat rfl rfl rfl ?_ rfl h.1).mpr (wpC_mono h.2 (fun r M1 hq => wx_go_ok ih hl' hq))
          unfold am_m
          dsimp only
          unfold am_is
          rw [if_neg (show ¬ a1 = 1000 by omega), if_neg (show ¬ a1 = 1002 by omega), if_neg (show ¬ a1 = 1003 by omega), if_neg (show ¬ a1 = 1004 by omega), if_neg (show ¬ a1 = 1005 by omega), if_neg (show ¬ a1 = 1006 by omega)]
          split <;> rfl
      · split at h
        · rename_i hb
          have hb : a1 = 1000 := Nat.eq_of_beq_eq_true hb
          obtain ⟨hd0, h⟩ := h
          unfold wx_cp at h
          split at h
          · rename_i n' dp b sp a st'
            split at h
            · rename_i na nb ha hb2
              obtain ⟨h1, h2, h3⟩ := h
              refine (wr_m hat rfl rfl rfl ?_ rfl).mpr (wx_go_ok ih hl' h3)
              unfold am_m
              dsimp only
              unfold am_is
              rw [if_pos hd0, if_pos hb]
              unfold am_cp
              dsimp only
              rw [if_pos h1, ha, hb2]
              exact if_pos h2
            · rename_i na nb ha hb2
              obtain ⟨h1, h2, h3⟩ := h
              refine (wr_m hat rfl rfl rfl ?_ rfl).mpr (wx_go_ok ih hl' h3)
              unfold am_m
              dsimp only
              unfold am_is
              rw [if_pos hd0, if_pos hb]
              unfold am_cp
              dsimp only
              rw [if_pos h1, ha, hb2]
              exact if_pos h2
            · cases h
          · cases h
        · split at h
          · rename_i st' M' hm
            exact (wr_m hat rfl rfl rfl hm rfl).mpr (wx_go_ok ih hl' h)
          · cases h
    · split at h
      · cases h
      · exact (wr_c hat rfl rfl rfl rfl rfl h.1).mpr (wpC_mono h.2 (fun r M1 hq => wx_go_ok ih hl' hq))
    · rename_i i a st
      split at h
      · rename_i hb
        rw [Bool.and_eq_true] at hb
        have e1 : a1 = 0 := Nat.eq_of_beq_eq_true hb.1
        have e2 : a2 = 0 := Nat.eq_of_beq_eq_true hb.2
        subst e1; subst e2
        obtain ⟨ha, b, hA, h⟩ := h
        refine (wr_m hat rfl rfl rfl ?_ rfl).mpr (wx_go_ok ih hl' h)
        unfold am_m
        dsimp only
        rw [ha]
        refine (if_pos (show (0 : Nat) = 0 ∧ 0 < am_nf 0 from ⟨rfl, by decide⟩)).trans ?_
        have : am_gv M 0 a 0 = .ref b := by
          show va_rf (am_rf M 0 a 0) = _
          unfold am_rf
          rw [if_pos ⟨rfl, rfl⟩, hA]; rfl
        rw [this]
      · split at h
        · rename_i st' M' hm
          exact (wr_m hat rfl rfl rfl hm rfl).mpr (wx_go_ok ih hl' h)
        · cases h
    · split at h
      · rename_i st' hp
        exact (wr_p hat hp rfl).mpr (wx_go_ok ih hl' h)
      · rename_i hp
        split at h
        · rename_i lo' st' hl
          exact (wr_l hat hp hl rfl).mpr (wx_go_ok ih hl' h)
        · rename_i hl
          split at h
          · cases h
          · rename_i hb
            split at h
            · rename_i st' M' hm
              exact (wr_m hat hp hl hb hm rfl).mpr (wx_go_ok ih hl' h)
            · rename_i hm
              split at h
              · rename_i v hr
                exact (wr_r hat hp hl hb hm hr).mpr h
              · cases h
/-- a call of a method, by unfolding its code -/
theorem wx_call (n : Nat) (hk : am_srt (am_cd.getD k []) = true) (h0 : (am_cd.getD k []).head?.map (fun e => e.1) = some 0) {as : List Value} {M : am_M} (h : wx E d k hs Q n (am_cd.getD k []) (lv_args 0 as) [] M) : wpC E d k as M Q := by
  cases hc : am_cd.getD k [] with
  | nil => rw [hc] at h0; cases h0
  | cons e l =>
    have h1 := wx_ok' hk n _ _ _ _ (am_pc_all hk) h e l hc
    rw [hc] at h0
    have : e.1 = 0 := Option.some.inj h0
    rw [this] at h1
    exact h1
/-- from a place on -/
theorem wx_from (n pc : Nat) (hk : am_srt (am_cd.getD k []) = true) {lo : am_Lo} {st : List Value} {M : am_M} (h : wx E d k hs Q n (am_sfx k pc) lo st M) : wp E d k pc lo st M Q := by
  cases hc : am_sfx k pc with
  | nil => rw [hc] at h; cases n <;> cases h
  | cons e l =>
    have h1 := wx_ok' hk n _ _ _ _ (am_pc_sfx hk) h e l hc
    rw [am_sfx_hd hc] at h1
    exact h1
end WX
