/-! ===== what the small machine runs through, the real one runs through ===== -/
theorem am_sv_lay {M M1 : am_M} {c a j : Nat} {v : Value} (h : am_sv M c a j v = some M1) : M1.1 = M.1 := by
  unfold am_sv at h
  split at h
  all_goals first | (cases h; rfl) | (cases h; split <;> rfl) | (split at h <;> cases h; rfl) | cases h
theorem am_m_mono {L : Nat} {xs : Nat → Int32} {d a1 a2 : Nat} {ins : Instr} {st st' : List Value} {M M' : am_M} (h : am_m L xs d ins a1 a2 st M = some (st', M')) : M.1.length ≤ M'.1.length ∧ am_sl M ≤ am_sl M' := by
  have same : ∀ N : am_M, N.1 = M.1 → M.1.length ≤ N.1.length ∧ am_sl M ≤ am_sl N := fun N e => by
    rw [e]
    exact ⟨Nat.le_refl _, by simp only [am_sl, e]; exact Nat.le_refl _⟩
  have more : ∀ x, M.1.length ≤ (am_new M x).1.length ∧ am_sl M ≤ am_sl (am_new M x) := fun x => by
    rw [am_len_new, am_sl_new]
    omega
  unfold am_m am_is am_cp am_mi2 am_mi1 am_ml2 at h
  repeat' split at h
  all_goals first
    | (cases h; done)
    | (cases h; exact same _ rfl)
    | (cases h; exact more _)
    | (rename_i hsv; cases h; exact same _ (am_sv_lay hsv))
theorem am_run_mono {L : Nat} {xs : Nat → Int32} : ∀ (n d k pc : Nat) (lo : am_Lo) (st : List Value) (M : am_M) (r : Option Value) (M' : am_M), am_run L xs n d k pc lo st M = some (r, M') → M.1.length ≤ M'.1.length ∧ am_sl M ≤ am_sl M' := by
  intro n
  induction n with
  | zero => intro d k pc lo st M r M' h; simp [am_run] at h
  | succ n ih =>
    intro d k pc lo st M r M' h
    rw [am_run] at h
    split at h
    · cases h
    · split at h
      · exact ih _ _ _ _ _ _ _ _ h
      · split at h
        · exact ih _ _ _ _ _ _ _ _ h
        · split at h
          · exact ih _ _ _ _ _ _ _ _ h
          · split at h
            · rename_i hm
              have h1 := am_m_mono hm
              have h2 := ih _ _ _ _ _ _ _ _ h
              omega
            · split at h
              · cases h; exact ⟨Nat.le_refl _, Nat.le_refl _⟩
              · split at h
                · cases h
                · split at h
                  · cases h
                  · split at h
                    · cases h
                    · rename_i hr
                      have h1 := ih _ _ _ _ _ _ _ _ hr
                      have h2 := ih _ _ _ _ _ _ _ _ h
                      omega
def am_Q (B : Nat) (X : Nat → Value) (D : va_G) (cA : Nat → ClassId) (r : Option Value) (M' : am_M) : Array Value → State → Outcome → State → Prop :=
  fun _ st oc t => oc = .returned (r.map (am_v B X)) ∧ va_P D vwCl (am_w B cA M') t.heap ∧ va_F (fun q => B ≤ q) st t
def am_ws (j : Nat) : List Cond := .code (am_y j) (am_by j) (am_ml j) (am_rt j) :: am_B
def am_Pc (L : Nat) (xs : Nat → Int32) (B : Nat) (X : Nat → Value) (D : va_G) (cA : Nat → ClassId) (M : am_M) (as : List Value) : Array Value → State → Prop :=
  va_Pc (as.map (am_v B X)) (fun U => am_X L xs B X U U.heap ∧ va_K D vwCl (am_tys cA) U ∧ va_P D vwCl (am_w B cA M) U.heap ∧ U.heap.size = B + M.1.length)
theorem am_mok_use {j : Nat} (h : am_mok j = true) : Cond.code (am_y j) (am_by j) (am_ml j) (am_rt j) ∈ am_B ∧ (am_kd j = 1 → Cond.static (am_y j) ∈ am_B) ∧ (am_kd j ≠ 1 → Cond.instanceMethod (am_y j) ∈ am_B) ∧ (am_kd j = 0 → Cond.selects (am_y j).cls (am_y j) (am_y j) ∈ am_B) ∧ Cond.initialized (am_y j).cls ∈ am_B
    ∧ ((am_y j).cls ≠ "java/lang/invoke/MethodHandle" ∧ (am_y j).cls ≠ "java/lang/invoke/VarHandle" ∧ (parseMethodDescriptor (am_y j).desc).map (fun d => d.parameters.length) = some (am_np j)) ∧ am_ml j ≤ 30 ∧ plainName (am_y j).cls = true ∧ (am_kd j = 2 → (am_y j).name = "<init>" ∧ am_rt j = none)
    ∧ (am_rc j < 13 → (vwCl[am_rc j]?).map (fun q => q.1) = some (am_y j).cls) ∧ (am_rc j = 100 → (am_y j).cls = "java/lang/String") := by
  unfold am_mok at h
  split at h
  rename_i ic ik isl ii hrow
  simp only [Bool.and_eq_true] at h
  obtain ⟨⟨⟨⟨⟨⟨⟨⟨⟨h1, h2⟩, h3⟩, h4⟩, h5⟩, h6⟩, h7⟩, h8⟩, h9⟩, h10⟩ := h
  refine ⟨am_gdc_in h1, fun q => ?_, fun q => ?_, fun q => ?_, am_gd_in h4, of_decide_eq_true h5, of_decide_eq_true h6, h7, fun q => ?_, fun q => ?_, fun q => ?_⟩
  · rw [if_pos q] at h2; exact am_gd_in h2
  · rw [if_neg q] at h2; exact am_gd_in h2
  · simp [q] at h3; exact am_gd_in h3
  · simp [q] at h8; exact h8
  · rw [show decide (am_rc j < 13) = true from decide_eq_true q] at h9
    simpa only [Bool.not_true, Bool.false_or, decide_eq_true_eq] using h9
  · simp [q] at h10; exact h10
theorem am_sl_len {B : Nat} {X : Nat → Value} (hX : am_XV X) (as : List Value) : (lg_sl (as.map (am_v B X))).length = am_cat as := by
  induction as with
  | nil => rfl
  | cons v as ih =>
    have e : (lg_sl ((v :: as).map (am_v B X))).length = v.category + (lg_sl (as.map (am_v B X))).length := by
      simp only [lg_sl, List.map_cons, List.flatMap_cons, List.length_append, am_v_cat hX]
      rcases lv_cat v with h | h <;> simp [h]
    rw [e, ih]
    simp [am_cat]
/-- a run of the small machine, told of the real one -/
def am_S (L : Nat) (xs : Nat → Int32) (d k pc : Nat) (lo : am_Lo) (st : List Value) (M : am_M) (r : Option Value) (M' : am_M) : Prop :=
  ∀ (p : Program) (l : Launch) (e : Env) (R : Room) (s : State) (m : MethodId) (args : Array Value) (below : List Frame) (meth : Method) (c : Code) (H : Heap) (locs : List Loc) (Z : State → Prop) (B : Nat) (X : Nat → Value) (D : va_G) (cA : Nat → ClassId) (n0 s0 : Nat) (ls : Array Slot),
    am_C L xs B X D cA p R s m args meth c k d n0 → va_P D vwCl (am_w B cA M) H → va_S (fun q => B ≤ q) s.heap H locs → lv_has ls (am_ml k) (am_lv B X lo) → n0 ≤ M.1.length → s0 ≤ am_sl M → M'.1.length - n0 ≤ R.cells → am_sl M' - s0 ≤ R.slots →
    (∀ (pc : Nat) (ls : Array Slot) (H : Heap) (locs : List Loc) (q : Instr × Nat × Nat × Nat) (st : List Value), am_at k pc = some q → am_r (am_rt k) q.1 st = some r → va_P D vwCl (am_w B cA M') H → va_S (fun q => B ≤ q) s.heap H locs → W p l e R s m args below meth c H locs (M'.1.length - n0) (am_sl M' - s0) Z (F0 m pc ls (st.map (am_v B X)))) →
    W p l e R s m args below meth c H locs (M.1.length - n0) (am_sl M - s0) Z (F0 m pc ls (st.map (am_v B X)))
/-- a method's contract out of its run -/
theorem am_met (hT2 : am_T2) {L : Nat} {xs : Nat → Int32} {d j : Nat} {as : List Value} {M M' : am_M} {r : Option Value} (hj : j < 265) (hk : am_kd j < 3) (hcat : am_cat as ≤ am_ml j) (hrun : am_S L xs d j 0 (lv_args 0 as) [] M r M') (l : Launch) (B : Nat) (X : Nat → Value) (hXV : am_XV X) (D : va_G) (cA : Nat → ClassId) :
    Met l (am_y j) (am_ws j) { frames := d, cells := M'.1.length - M.1.length, slots := am_sl M' - am_sl M, locals := 60 * d } (am_Pc L xs B X D cA M as) (am_Q B X D cA r M') (M'.1.length - M.1.length) (am_sl M' - am_sl M) (fun q => B ≤ q) := by
  obtain ⟨m1, m2, m3, m4, m5, m6, m7, m8, m9, m10, m11⟩ := am_mok_use (hT2.1 j hj hk)
  refine Met.ofW (cc := am_by j) (maxL := am_ml j) (ret := am_rt j) m8 rfl ?_
  intro p e s m args below meth c s₁ Bd hml hv
  obtain ⟨rfl, hX, hK, hP, hz⟩ := hv
  have hx := Bd.exec
  have hb := Bd.bytes
  have hr := Bd.returns
  have hts := atoms_spec (ws := am_ws j) Bd.pre
  have hown : s.vm.findClass (am_y j).cls = some m.cls := findClass_of_methodNamed Bd.named
  have hlocks := Bd.notSynchronized
  have hl := lv_entry (as.map (am_v B X)) (n := am_ml j) (by rw [am_sl_len hXV]; exact hcat)
  rw [lg_entry_eq]
  generalize (lg_sl (as.map (am_v B X)) ++ List.replicate (am_ml j - (lg_sl (as.map (am_v B X))).length) Slot.unset).toArray = ls at hl ⊢
  rw [am_lv_args hXV] at hl
  have hS : va_S (fun q => B ≤ q) s.heap s.heap [] := va_S.rf
  have hC : am_C L xs B X D cA p (headSpec (am_ws j) { frames := d, cells := M'.1.length - M.1.length, slots := am_sl M' - am_sl M, locals := 60 * d }).room s m (as.map (am_v B X)).toArray meth c j d M.1.length :=
    ⟨hx, hb, hml, hown, fun w hw => hts w (List.mem_cons_of_mem _ hw), hXV, hX, hK, hz, ⟨Nat.le_refl _, Nat.le_refl _⟩, fun q => by rw [(name_of_methodNamed Bd.named Bd.method).1]; exact (m9 q).1⟩
  refine W.cs (Nat.sub_self M.1.length).symm (Nat.sub_self (am_sl M)).symm ?_
  refine hrun p l e _ s m _ below meth c s.heap [] (MQ below (am_Q B X D cA r M') _ s (M'.1.length - M.1.length) (am_sl M' - am_sl M) (fun q => B ≤ q)) B X D cA M.1.length (am_sl M) ls hC hP hS hl (Nat.le_refl _) (Nat.le_refl _) (Nat.le_refl _) (Nat.le_refl _) ?_
  intro pc ls H locs q st hat hret hP1 hS1
  have hdg := (am_ok_dec (hT2.2 j pc q hat)).1
  have hq : ∀ t : State, t.heap = H → s.WarmedH t.vm → am_Q B X D cA r M' (as.map (am_v B X)).toArray s (.returned (r.map (am_v B X))) t := fun t ht _ => ⟨rfl, by rw [ht]; exact hP1, hS1.F ht⟩
  obtain ⟨ins, a1, a2, a3⟩ := q
  dsimp only at hret hdg
  unfold am_r at hret
  split at hret
  · split at hret
    · rename_i ty hty
      split at hret
      · rename_i hn
        cases hret
        exact W.zret hx hb (by rw [hr, hty]) hn hq hS1.2.2 hdg
      · cases hret
    · cases hret
  · split at hret
    · rename_i hty
      cases hret
      exact W.lret hx hb (by rw [hr, hty]) hq hS1.2.2 hdg
    · cases hret
  · split at hret
    · rename_i nm hty
      cases hret
      exact W.aret hx hb (by rw [hr, hty]) (Or.inl ⟨_, rfl⟩) (Or.inr ⟨_, rfl⟩) hq hS1.2.2 hdg
    · cases hret
  · split at hret
    · rename_i nm hty
      cases hret
      exact W.aret hx hb (by rw [hr, hty]) (Or.inl ⟨_, rfl⟩) (hXV _) hq hS1.2.2 hdg
    · cases hret
  · split at hret
    · rename_i hty
      cases hret
      exact W.vret hx hb (by rw [hr, hty]) hq hS1.2.2 hdg
    · cases hret
  · cases hret
section AMS
variable {p : Program} {l : Launch} {e : Env} {R : Room} {s : State} {m : MethodId} {args : Array Value} {below : List Frame} {meth : Method} {c : Code} {H : Heap} {locs : List Loc} {cells slots : Nat} {Q : State → Prop}
variable {L : Nat} {xs : Nat → Int32} {B : Nat} {X : Nat → Value} {D : va_G} {cA : Nat → ClassId} {k d pc n0 s0 : Nat} {ls : Array Slot} {M M1 : am_M} {r : Option Value} {rest st0 : List Value} {a : Array Value} {mc ms : Nat}
theorem am_callw (hr : va_Run p l e R s m args below meth c H locs cells slots mc ms (F0 m pc ls st0) rest (am_Q B X D cA r M1 a) (fun q => B ≤ q)) (hS : va_S (fun q => B ≤ q) s.heap H locs)
    (kk : ∀ H1 locs1, va_P D vwCl (am_w B cA M1) H1 → va_S (fun q => B ≤ q) s.heap H1 locs1 → W p l e R s m args below meth c H1 locs1 (cells + mc) (slots + ms) Q (F0 m (pc + 3) ls ((r.map (am_v B X)).toList ++ rest))) : W p l e R s m args below meth c H locs cells slots Q (F0 m pc ls st0) := by
  intro T hT Y
  obtain ⟨v, st₀, t, T', L', h0, Y', hL, e1, e2, ⟨hv, hp, hz, hk⟩, st⟩ := hr T hT Y
  cases hv
  rw [h0] at hz hk
  obtain ⟨t2, b1, b2⟩ := kk T'.heap (locs ++ L') (by rw [e1]; exact hp)
    ⟨Nat.le_trans hS.1 (by rw [e1]; exact hz), fun q h1 h2 => by rw [e1, hk q (Nat.lt_of_lt_of_le h1 hS.1) h2]; exact hS.2.1 q h1 h2, fun q hq => by
      rcases List.mem_append.mp hq with h | h
      · exact hS.2.2 q h
      · exact hL q h⟩ T' rfl Y'
  exact ⟨t2, st t2 b1, b2⟩
theorem am_blind {as : List Value} : FrameBlind (am_Pc L xs B X D cA M as) := by
  intro a U g mk q
  obtain ⟨q0, q1, q2, q3, q4⟩ := q
  exact ⟨q0, am_X.same (s := U) (U := U.calling g mk a) (H := U.heap) rfl q1, va_K.moved (u := U) (U := U.calling g mk a) (Vm.Alike.refl U.vm) q2, q3, q4⟩
theorem am_good (hT2 : am_T2) {j : Nat} (hj : j < 265) (hk : am_kd j < 3) : GoodIn am_B (am_ws j) := by
  intro w hw
  rcases List.mem_cons.mp hw with rfl | hw
  · exact am_B_good _ (am_mok_use (hT2.1 j hj hk)).1
  · exact am_B_good _ hw
theorem am_lm_use {own : String} {i a3 : Nat} {y : MethodName} (h : am_lm own i a3 y = true) (hts : ∀ w ∈ am_B, w.before args s = true) (hX : am_X L xs B X s s.heap) : (Cond.methodLink own i y).before args s = true ∨ va_Nw (.methodLinkNest own i y "LooseWater") s := by
  unfold am_lm at h
  split at h
  · exact Or.inl (hts _ (am_gd_in h))
  · have hm := List.mem_of_getElem? (of_decide_eq_true h)
    obtain ⟨tS, tb, adK, adV, -, -, -, d1, -⟩ := hX
    exact Or.inr (d1 _ hm)
theorem am_split {st As : List Value} {n : Nat} {v : Value} (h : (st.take n).reverse = v :: As) : st = As.reverse ++ v :: st.drop n := by
  have h1 : st.take n = As.reverse ++ [v] := by
    have := congrArg List.reverse h
    simpa using this
  conv => lhs; rw [← List.take_append_drop n st, h1]
  simp
theorem am_cat_rev (as : List Value) : am_cat as.reverse = am_cat as := by
  simp [am_cat, List.map_reverse, List.sum_reverse]
theorem am_pre (hC : am_C L xs B X D cA p R s m args meth c k d n0) {as : List Value} (hP : va_P D vwCl (am_w B cA M) H) (hS : va_S (fun q => B ≤ q) s.heap H locs) (hz : H.size = B + M.1.length) : ∀ U : State, U.heap = H → s.WarmedH U.vm → am_Pc L xs B X D cA M as (as.map (am_v B X)).toArray U := by
  obtain ⟨hx, hb, hml, hown, hts, hXV, hX, hK, hBs, hR, hin⟩ := hC
  intro U hU hW
  refine ⟨rfl, ?_, va_K.moved hW.alike hK, by rw [hU]; exact hP, by rw [hU]; exact hz⟩
  rw [hU]
  exact hX.warm hW hS
theorem am_recv (hC : am_C L xs B X D cA p R s m args meth c k d n0) {j : Nat} {v : Value} {As : List Value} (m10 : am_rc j < 13 → (vwCl[am_rc j]?).map (fun q => q.1) = some (am_y j).cls) (m11 : am_rc j = 100 → (am_y j).cls = "java/lang/String") (hP : va_P D vwCl (am_w B cA M) H) (hS : va_S (fun q => B ≤ q) s.heap H locs) (hr : am_rec M j (v :: As) = true) :
    ∃ b : Nat, am_v B X v = .ref b ∧ ∃ cellB : Cell, H[b]? = some cellB ∧ cellB.vm.isStatics = false ∧ s.vm.findClass (am_y j).cls = some cellB.cls := by
  obtain ⟨hx, hb, hml, hown, hts, hXV, hX, hK, hBs, hR, hin⟩ := hC
  unfold am_rec at hr
  split at hr
  · rename_i b As' heq
    cases heq
    obtain ⟨h1, h2⟩ := of_decide_eq_true hr
    obtain ⟨q, hq, he⟩ := Option.map_eq_some_iff.mp (m10 h2)
    refine ⟨B + b, rfl, ?_⟩
    rw [← he]
    exact va_recv hK hP hq (am_w_some h1)
  · rename_i u As' heq
    cases heq
    obtain ⟨h1, h2, h3⟩ := of_decide_eq_true hr
    obtain ⟨tS, tb, adK, adV, -, -, ⟨c1, c2, -⟩, -⟩ := id hX
    have hk1 := (c1 (u.toNat - 1) (by omega)).1
    rw [show 1 + (u.toNat - 1) = u.toNat by omega] at hk1
    refine ⟨adK (u.toNat - 1), hk1, ?_⟩
    rw [m11 h1]
    obtain ⟨cell, g1, g2, g3, -⟩ := (c2 (u.toNat - 1) (by omega)).1.kept hS.2.1
    exact ⟨cell, g1, g2, g3⟩
  · cases hr
end AMS
set_option maxHeartbeats 4000000 in
theorem am_sound (hT : am_T) (hT2 : am_T2) {L : Nat} {xs : Nat → Int32} : ∀ (n d k pc : Nat) (lo : am_Lo) (st : List Value) (M : am_M) (r : Option Value) (M' : am_M), am_run L xs n d k pc lo st M = some (r, M') → am_S L xs d k pc lo st M r M' := by
  intro n
  induction n with
  | zero => intro d k pc lo st M r M' h; simp [am_run] at h
  | succ n ih =>
    intro d k pc lo st M r M' h
    intro p l e R s m args below meth c H locs Z B X D cA n0 s0 ls hC hP hS hl hn0 hs0 hc1 hc2 hret
    rw [am_run] at h
    split at h
    · cases h
    · rename_i ins a1 a2 a3 hat
      have hok := hT2.2 k pc _ hat
      split at h
      · rename_i st' hp
        exact am_p_ok hC hok hp (ih _ _ _ _ _ _ _ _ h p l e R s m args below meth c H locs Z B X D cA n0 s0 ls hC hP hS hl hn0 hs0 hc1 hc2 hret)
      · split at h
        · rename_i lo' st' hl'
          exact am_l_ok hC hok hl' hl (fun ls' hl1 => ih _ _ _ _ _ _ _ _ h p l e R s m args below meth c H locs Z B X D cA n0 s0 ls' hC hP hS hl1 hn0 hs0 hc1 hc2 hret)
        · split at h
          · rename_i pc' st' hb'
            exact am_b_ok hC hok hb' (ih _ _ _ _ _ _ _ _ h p l e R s m args below meth c H locs Z B X D cA n0 s0 ls hC hP hS hl hn0 hs0 hc1 hc2 hret)
          · split at h
            · rename_i st' M1 hm
              have hm1 := am_m_mono hm
              have hm2 := am_run_mono _ _ _ _ _ _ _ _ _ h
              exact am_m_ok hT hC hok hm hl.1 hP hS hn0 hs0 (by omega) (by omega) (fun H1 locs1 hP1 hS1 => ih _ _ _ _ _ _ _ _ h p l e R s m args below meth c H1 locs1 Z B X D cA n0 s0 ls hC hP1 hS1 hl (by omega) (by omega) hc1 hc2 hret)
            · split at h
              · rename_i v hv
                cases h
                exact hret pc ls H locs _ st hat hv hP hS
              · split at h
                · cases h
                · rename_i j as rest hcc
                  split at h
                  · cases h
                  · rename_i d'
                    split at h
                    · cases h
                    · rename_i r1 M1 hrun1
                      have hm1 := am_run_mono _ _ _ _ _ _ _ _ _ hrun1
                      have hm2 := am_run_mono _ _ _ _ _ _ _ _ _ h
                      have hS1 := ih _ _ _ _ _ _ _ _ hrun1
                      have go : ∀ H1 locs1, va_P D vwCl (am_w B cA M1) H1 → va_S (fun q => B ≤ q) s.heap H1 locs1 → W p l e R s m args below meth c H1 locs1 (M.1.length - n0 + (M1.1.length - M.1.length)) (am_sl M - s0 + (am_sl M1 - am_sl M)) Z (F0 m (pc + 3) ls ((r1.map (am_v B X)).toList ++ rest.map (am_v B X))) := by
                        intro H1 locs1 hP1 hS9
                        have := ih _ _ _ _ _ _ _ _ h p l e R s m args below meth c H1 locs1 Z B X D cA n0 s0 ls hC hP1 hS9 hl (by omega) (by omega) hc1 hc2 hret
                        refine W.cs (cells' := M1.1.length - n0) (slots' := am_sl M1 - s0) (by omega) (by omega) ?_
                        rw [List.map_append, show (r1.toList).map (am_v B X) = (r1.map (am_v B X)).toList by cases r1 <;> rfl] at this
                        exact this
                      refine am_size fun hu => ?_
                      obtain ⟨hx, hb, hml, hown, hts, hXV, hX, hK, hBs, hR, hin⟩ := id hC
                      have hz : H.size = B + M.1.length := am_szeq hP hS hBs hn0 hu
                      obtain ⟨hdg, ho⟩ := am_ok_dec hok
                      dsimp only at hdg ho
                      unfold am_c at hcc
                      split at hcc
                      · split at hcc
                        · rename_i hq
                          obtain ⟨q1, q2, q3, q4, q5, q6⟩ := hq
                          cases hcc
                          simp only [am_okI, if_pos q1, Bool.and_eq_true, decide_eq_true_eq] at ho
                          obtain ⟨ho1, ho2⟩ := ho
                          obtain ⟨m1, m2, m3, m4, m5, m6, m7, m8, m9, m10, m11⟩ := am_mok_use (hT2.1 a1 q1 (by omega))
                          cases has : (st.take a2).reverse with
                          | nil => rw [has] at q6; cases q6
                          | cons v As =>
                            rw [has] at q6
                            obtain ⟨b, hvb, hcell⟩ := am_recv hC m10 m11 hP hS q6
                            have hst := am_split has
                            have hlen : As.length = am_np a1 := by
                              have := congrArg List.length has
                              simp at this
                              omega
                            have hM := am_met hT2 q1 (by omega) (by rw [am_cat_rev]; exact q4) hS1 l B X hXV D cA
                            have hpre := am_pre (as := (st.take a2).reverse) hC hP hS hz
                            have e1 : ((st.take a2).reverse.map (am_v B X)) = .ref b :: As.map (am_v B X) := by rw [has, List.map_cons, hvb]
                            have e2 : st.map (am_v B X) = (As.map (am_v B X)).reverse ++ .ref b :: (st.drop a2).map (am_v B X) := by
                              conv => lhs; rw [hst]
                              rw [List.map_append, List.map_cons, hvb, List.map_reverse]
                            rw [e1] at hpre
                            have hcatr : (((st.drop a2).map (am_v B X)).map fun v => v.category).sum ≤ 8 := by rw [am_cat_map hXV]; exact q3
                            rcases am_lm_use ho1 hts hX with hlk | hlk
                            · exact am_callw (va_runV (C := (am_y a1).cls) (b := b) (As := As.map (am_v B X)) (rest := (st.drop a2).map (am_v B X)) (n := am_np a1) ⟨hx, hb, hml, hown, hts⟩ hM ⟨callB_of (am_np a1) hts (am_good hT2 q1 (by omega)) rfl rfl rfl (hts _ m5) hlk m6 ⟨hR.1, by show 8 + (am_ml a1 + 11) + 60 * _ ≤ _; omega⟩, hts _ (m3 (by omega)), hts _ (m4 q5)⟩ ⟨am_blind, hcell, hpre⟩ rfl (by rw [List.length_map]; exact hlen) hl.1 e2 (lv_room hcatr) hdg ⟨by omega, by omega⟩) hS go
                            · exact am_callw (va_runVN (C := (am_y a1).cls) (b := b) (As := As.map (am_v B X)) (rest := (st.drop a2).map (am_v B X)) (n := am_np a1) ⟨hx, hb, hml, hown, hts⟩ hM ⟨va_cnB (am_np a1) hts (am_good hT2 q1 (by omega)) rfl rfl rfl hlk (hts _ m5) m6 ⟨hR.1, by show 8 + (am_ml a1 + 11) + 60 * _ ≤ _; omega⟩, hts _ (m3 (by omega)), hts _ (m4 q5)⟩ ⟨am_blind, hcell, hpre⟩ rfl (by rw [List.length_map]; exact hlen) hl.1 e2 (lv_room hcatr) hdg ⟨by omega, by omega⟩) hS go
                        · cases hcc
                      · split at hcc
                        · rename_i hq
                          obtain ⟨q1, q2, q3, q4, q5⟩ := hq
                          cases hcc
                          have q7 : ¬ a1 = 1000 := by omega
                          have q72 : ¬ a1 = 1002 := by omega
                          have q73 : ¬ a1 = 1003 := by omega
                          have q74 : ¬ a1 = 1004 := by omega
                          have q75 : ¬ a1 = 1005 := by omega
                          have q76 : ¬ a1 = 1006 := by omega
                          simp only [am_okI, if_neg q7, if_neg q72, if_neg q73, if_neg q74, if_neg q75, if_neg q76, if_pos q1, Bool.and_eq_true, decide_eq_true_eq] at ho
                          obtain ⟨ho1, ho2⟩ := ho
                          obtain ⟨m1, m2, m3, m4, m5, m6, m7, m8, m9, m10, m11⟩ := am_mok_use (hT2.1 a1 q1 (by omega))
                          have hM := am_met hT2 q1 (by omega) (by rw [am_cat_rev]; exact q4) hS1 l B X hXV D cA
                          have hpre := am_pre (as := (st.take a2).reverse) hC hP hS hz
                          have e2 : st.map (am_v B X) = ((st.take a2).reverse.map (am_v B X)).reverse ++ (st.drop a2).map (am_v B X) := by
                            rw [← List.map_reverse, List.reverse_reverse, ← List.map_append, List.take_append_drop]
                          have hcatr : (((st.drop a2).map (am_v B X)).map fun v => v.category).sum ≤ 8 := by rw [am_cat_map hXV]; exact q3
                          have hlen : ((st.take a2).reverse.map (am_v B X)).length = am_np a1 := by simp; omega
                          rcases am_lm_use ho1 hts hX with hlk | hlk
                          · exact am_callw (va_runS (As := (st.take a2).reverse.map (am_v B X)) (rest := (st.drop a2).map (am_v B X)) (n := am_np a1) ⟨hx, hb, hml, hown, hts⟩ hM ⟨callB_of (am_np a1) hts (am_good hT2 q1 (by omega)) rfl rfl rfl (hts _ m5) hlk m6 ⟨hR.1, by show 8 + (am_ml a1 + 11) + 60 * _ ≤ _; omega⟩, hts _ (m2 q5)⟩ ⟨am_blind, hpre⟩ rfl hlen hl.1 e2 (lv_room hcatr) hdg ⟨by omega, by omega⟩) hS go
                          · exact am_callw (va_runSN (As := (st.take a2).reverse.map (am_v B X)) (rest := (st.drop a2).map (am_v B X)) (n := am_np a1) ⟨hx, hb, hml, hown, hts⟩ hM ⟨va_cnB (am_np a1) hts (am_good hT2 q1 (by omega)) rfl rfl rfl hlk (hts _ m5) m6 ⟨hR.1, by show 8 + (am_ml a1 + 11) + 60 * _ ≤ _; omega⟩, hts _ (m2 q5), trivial⟩ ⟨am_blind, hpre⟩ rfl hlen hl.1 e2 (lv_room hcatr) hdg ⟨by omega, by omega⟩) hS go
                        · cases hcc
                      · split at hcc
                        · rename_i hq
                          obtain ⟨q1, q2, q3, q4, q5, q6⟩ := hq
                          cases hcc
                          have q7 : ¬ a1 = 1001 := by omega
                          simp only [am_okI, if_neg q7, if_pos q1, Bool.and_eq_true, decide_eq_true_eq] at ho
                          obtain ⟨ho1, ho2⟩ := ho
                          obtain ⟨m1, m2, m3, m4, m5, m6, m7, m8, m9, m10, m11⟩ := am_mok_use (hT2.1 a1 q1 (by omega))
                          cases has : (st.take a2).reverse with
                          | nil => rw [has] at q6; cases q6
                          | cons v As =>
                            rw [has] at q6
                            obtain ⟨b, hvb, hcell⟩ := am_recv hC m10 m11 hP hS q6
                            have hst := am_split has
                            have hlen : As.length = am_np a1 := by
                              have := congrArg List.length has
                              simp at this
                              omega
                            have hM := am_met hT2 q1 (by omega) (by rw [am_cat_rev]; exact q4) hS1 l B X hXV D cA
                            have hpre := am_pre (as := (st.take a2).reverse) hC hP hS hz
                            have e1 : ((st.take a2).reverse.map (am_v B X)) = .ref b :: As.map (am_v B X) := by rw [has, List.map_cons, hvb]
                            have e2 : st.map (am_v B X) = (As.map (am_v B X)).reverse ++ .ref b :: (st.drop a2).map (am_v B X) := by
                              conv => lhs; rw [hst]
                              rw [List.map_append, List.map_cons, hvb, List.map_reverse]
                            rw [e1] at hpre
                            have hcatr : (((st.drop a2).map (am_v B X)).map fun v => v.category).sum ≤ 8 := by rw [am_cat_map hXV]; exact q3
                            have hrt : am_rt a1 = none := (m9 q5).2
                            rw [show am_ws a1 = Cond.code (am_y a1) (am_by a1) (am_ml a1) none :: am_B by rw [am_ws, hrt]] at hM
                            have hG := am_good hT2 q1 (by omega)
                            rw [show am_ws a1 = Cond.code (am_y a1) (am_by a1) (am_ml a1) none :: am_B by rw [am_ws, hrt]] at hG
                            rcases am_lm_use ho1 hts hX with hlk | hlk
                            · exact am_callw (va_runI (b := b) (As := As.map (am_v B X)) (rest := (st.drop a2).map (am_v B X)) (n := am_np a1) ⟨hx, hb, hml, hown, hts⟩ hM ⟨callB_of (am_np a1) hts hG rfl rfl rfl (hts _ m5) hlk m6 ⟨hR.1, by show 8 + (am_ml a1 + 11) + 60 * _ ≤ _; omega⟩, (m9 q5).1, hts _ (m3 (by omega))⟩ ⟨am_blind, hpre⟩ rfl (by rw [List.length_map]; exact hlen) hl.1 e2 (lv_room hcatr) hdg ⟨by omega, by omega⟩) hS go
                            · exact am_callw (va_runIN (b := b) (As := As.map (am_v B X)) (rest := (st.drop a2).map (am_v B X)) (n := am_np a1) ⟨hx, hb, hml, hown, hts⟩ hM ⟨va_cnB (am_np a1) hts hG rfl rfl rfl hlk (hts _ m5) m6 ⟨hR.1, by show 8 + (am_ml a1 + 11) + 60 * _ ≤ _; omega⟩, (m9 q5).1, hts _ (m3 (by omega))⟩ ⟨am_blind, hpre⟩ rfl (by rw [List.length_map]; exact hlen) hl.1 e2 (lv_room hcatr) hdg ⟨by omega, by omega⟩) hS go
                        · cases hcc
                      · cases hcc
