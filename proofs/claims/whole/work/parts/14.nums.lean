/-! ===== code pieces of every method; locals picked; whole numbers behind the machine's ===== -/
set_option maxRecDepth 100000 in
theorem am_srt_rng : (List.range 265).all (fun k => am_srt (am_cd.getD k []) && decide ((am_cd.getD k []).head?.map (fun e => e.1) = some 0)) = true := by decide +kernel
section WC
variable {E : Nat × (Nat → Int32)} {d k : Nat} {hs : List Nat} {Q : Option Value → am_M → Prop}
theorem wc (n : Nat) (hk : k < 265) {as : List Value} {M : am_M} (h : wx E d k hs Q n (am_cd.getD k []) (lv_args 0 as) [] M) : wpC E d k as M Q := by
  have := List.all_eq_true.mp am_srt_rng k (List.mem_range.mpr hk)
  rw [Bool.and_eq_true] at this
  exact wx_call n this.1 (of_decide_eq_true this.2) h
theorem wf (n pc : Nat) (hk : k < 265) {lo : am_Lo} {st : List Value} {M : am_M} (h : wx E d k hs Q n (am_sfx k pc) lo st M) : wp E d k pc lo st M Q := by
  have := List.all_eq_true.mp am_srt_rng k (List.mem_range.mpr hk)
  rw [Bool.and_eq_true] at this
  exact wx_from n pc this.1 h
end WC
theorem wt {c a b : Prop} (h : c) (ha : a) : wx_if c a b := ⟨fun _ => ha, fun q => absurd h q⟩
theorem wF {c a b : Prop} (h : ¬ c) (hb : b) : wx_if c a b := ⟨fun q => absurd q h, fun _ => hb⟩
/-- keys of the locals, each once -/
def am_nd (lo : am_Lo) : Prop := (lo.map (fun q => q.1)).Nodup
theorem am_lk_nd {lo : am_Lo} (hn : am_nd lo) {i : Nat} {v : Value} (h : (i, v) ∈ lo) : am_lk lo i = some v := by
  induction lo with
  | nil => cases h
  | cons q lo ih =>
    unfold am_lk
    rw [List.find?_cons]
    unfold am_nd at hn
    rw [List.map_cons, List.nodup_cons] at hn
    rcases List.mem_cons.mp h with rfl | h
    · simp
    · have hne : ¬ q.1 = i := fun e => hn.1 (by rw [e]; exact List.mem_map.mpr ⟨(i, v), h, rfl⟩)
      have : (q.1 == i) = false := by simpa using hne
      rw [this]
      exact ih hn.2 h
theorem am_s1_nd {lo : am_Lo} {i : Nat} {v : Value} (hn : am_nd lo) : am_nd (am_s1 lo i v) := by
  unfold am_nd am_s1
  rw [List.map_cons, List.nodup_cons]
  refine ⟨fun h => ?_, (List.Sublist.map _ List.filter_sublist).nodup hn⟩
  obtain ⟨q, hq, e⟩ := List.mem_map.mp h
  have := (List.mem_filter.mp hq).2
  rw [e] at this
  simp at this
theorem am_s2_nd {lo : am_Lo} {i : Nat} {v : Value} (hn : am_nd lo) : am_nd (am_s2 lo i v) := by
  unfold am_nd am_s2
  rw [List.map_cons, List.nodup_cons]
  refine ⟨fun h => ?_, (List.Sublist.map _ List.filter_sublist).nodup hn⟩
  obtain ⟨q, hq, e⟩ := List.mem_map.mp h
  have := (List.mem_filter.mp hq).2
  rw [e] at this
  simp at this
theorem am_s1_sub {lo lo' : am_Lo} {i : Nat} {v : Value} (h : ∀ q ∈ lo', q ∈ lo) : ∀ q ∈ am_s1 lo' i v, q ∈ am_s1 lo i v := by
  intro q hq
  rcases List.mem_cons.mp hq with rfl | hq
  · exact List.mem_cons_self
  · obtain ⟨h1, h2⟩ := List.mem_filter.mp hq
    exact List.mem_cons_of_mem _ (List.mem_filter.mpr ⟨h q h1, h2⟩)
theorem am_s2_sub {lo lo' : am_Lo} {i : Nat} {v : Value} (h : ∀ q ∈ lo', q ∈ lo) : ∀ q ∈ am_s2 lo' i v, q ∈ am_s2 lo i v := by
  intro q hq
  rcases List.mem_cons.mp hq with rfl | hq
  · exact List.mem_cons_self
  · obtain ⟨h1, h2⟩ := List.mem_filter.mp hq
    exact List.mem_cons_of_mem _ (List.mem_filter.mpr ⟨h q h1, h2⟩)
theorem am_l_sub {ml : Nat} {ins : Instr} {lo lo' lo1 : am_Lo} {st st1 : List Value} (hn : am_nd lo) (hn' : am_nd lo') (hs : ∀ q ∈ lo', q ∈ lo) (h : am_l ml ins lo' st = some (lo1, st1)) :
    ∃ lo2, am_l ml ins lo st = some (lo2, st1) ∧ am_nd lo2 ∧ am_nd lo1 ∧ ∀ q ∈ lo1, q ∈ lo2 := by
  have lk : ∀ i v, am_lk lo' i = some v → am_lk lo i = some v := fun i v h => am_lk_nd hn (hs _ (am_lk_mem h))
  have lI : ∀ i, am_ldI lo' i st = some (lo1, st1) → ∃ lo2, am_ldI lo i st = some (lo2, st1) ∧ am_nd lo2 ∧ am_nd lo1 ∧ ∀ q ∈ lo1, q ∈ lo2 := by
    intro i h
    unfold am_ldI at h ⊢
    split at h
    · rename_i x hx; cases h; rw [lk _ _ hx]; exact ⟨lo, rfl, hn, hn', hs⟩
    · cases h
  have lL : ∀ i, am_ldL lo' i st = some (lo1, st1) → ∃ lo2, am_ldL lo i st = some (lo2, st1) ∧ am_nd lo2 ∧ am_nd lo1 ∧ ∀ q ∈ lo1, q ∈ lo2 := by
    intro i h
    unfold am_ldL at h ⊢
    split at h
    · rename_i x hx; cases h; rw [lk _ _ hx]; exact ⟨lo, rfl, hn, hn', hs⟩
    · cases h
  have lA : ∀ i, am_ldA lo' i st = some (lo1, st1) → ∃ lo2, am_ldA lo i st = some (lo2, st1) ∧ am_nd lo2 ∧ am_nd lo1 ∧ ∀ q ∈ lo1, q ∈ lo2 := by
    intro i h
    unfold am_ldA at h ⊢
    split at h
    · rename_i x hx; cases h; rw [lk _ _ hx]; exact ⟨lo, rfl, hn, hn', hs⟩
    · rename_i x hx; cases h; rw [lk _ _ hx]; exact ⟨lo, rfl, hn, hn', hs⟩
    · cases h
  have sI : ∀ i, am_stI ml lo' i st = some (lo1, st1) → ∃ lo2, am_stI ml lo i st = some (lo2, st1) ∧ am_nd lo2 ∧ am_nd lo1 ∧ ∀ q ∈ lo1, q ∈ lo2 := by
    intro i h
    unfold am_stI at h ⊢
    split at h
    · split at h
      · rename_i h0; cases h; exact ⟨_, if_pos h0, am_s1_nd hn, am_s1_nd hn', am_s1_sub hs⟩
      · cases h
    · cases h
  have sL : ∀ i, am_stL ml lo' i st = some (lo1, st1) → ∃ lo2, am_stL ml lo i st = some (lo2, st1) ∧ am_nd lo2 ∧ am_nd lo1 ∧ ∀ q ∈ lo1, q ∈ lo2 := by
    intro i h
    unfold am_stL at h ⊢
    split at h
    · split at h
      · rename_i h0; cases h; exact ⟨_, if_pos h0, am_s2_nd hn, am_s2_nd hn', am_s2_sub hs⟩
      · cases h
    · cases h
  have sA : ∀ i, am_stA ml lo' i st = some (lo1, st1) → ∃ lo2, am_stA ml lo i st = some (lo2, st1) ∧ am_nd lo2 ∧ am_nd lo1 ∧ ∀ q ∈ lo1, q ∈ lo2 := by
    intro i h
    unfold am_stA at h ⊢
    split at h
    · split at h
      · rename_i h0; cases h; exact ⟨_, if_pos h0, am_s1_nd hn, am_s1_nd hn', am_s1_sub hs⟩
      · cases h
    · cases h
  unfold am_l at h ⊢
  split at h
  · exact lI _ h
  · exact lI _ h
  · exact lL _ h
  · exact lL _ h
  · exact lA _ h
  · exact lA _ h
  · exact sI _ h
  · exact sI _ h
  · exact sL _ h
  · exact sL _ h
  · exact sA _ h
  · exact sA _ h
  · split at h
    · rename_i x hx
      split at h
      · rename_i h0
        cases h
        rw [lk _ _ hx]
        exact ⟨_, if_pos h0, am_s1_nd hn, am_s1_nd hn', am_s1_sub hs⟩
      · cases h
    · cases h
  · cases h
theorem am_l_no {ml : Nat} {ins : Instr} {lo lo' : am_Lo} {st : List Value} {x : am_Lo × List Value} (h : am_l ml ins lo st = some x) (L : Nat) (xs : Nat → Int32) (d a1 a2 pc : Nat) (M : am_M) (rt : Option FieldType) : am_b ins pc st = none ∧ am_m L xs d ins a1 a2 st M = none ∧ am_r rt ins st = none ∧ am_c ins a1 a2 st M = none := by
  unfold am_l at h
  split at h <;> first | exact ⟨rfl, rfl, rfl, rfl⟩ | cases h
theorem am_run_sub {L : Nat} {xs : Nat → Int32} : ∀ (n d k pc : Nat) (lo lo' : am_Lo) (st : List Value) (M : am_M) (r : Option Value × am_M), am_nd lo → am_nd lo' → (∀ q ∈ lo', q ∈ lo) → am_run L xs n d k pc lo' st M = some r → am_run L xs n d k pc lo st M = some r := by
  intro n
  induction n with
  | zero => intro d k pc lo lo' st M r _ _ _ h; simp [am_run] at h
  | succ n ih =>
    intro d k pc lo lo' st M r hn hn' hs h
    rw [am_run] at h ⊢
    split at h
    · cases h
    · rename_i ins a1 a2 a3 hat
      split at h
      · exact ih _ _ _ _ _ _ _ _ hn hn' hs h
      · split at h
        · rename_i lo1 st1 hl
          obtain ⟨lo2, h2, h3, h4, h5⟩ := am_l_sub hn hn' hs hl
          rw [h2]
          exact ih _ _ _ _ _ _ _ _ h3 h4 h5 h
        · rename_i hl
          have hl2 : am_l (am_ml k) ins lo st = none := by
            cases hq : am_l (am_ml k) ins lo st with
            | none => rfl
            | some x =>
              obtain ⟨e1, e2, e3, e4⟩ := am_l_no (lo' := lo) hq L xs d a1 a2 pc M (am_rt k)
              rw [e1] at h
              dsimp only at h
              rw [e2] at h
              dsimp only at h
              rw [e3] at h
              dsimp only at h
              rw [e4] at h
              cases h
          rw [hl2]
          dsimp only
          split at h
          · exact ih _ _ _ _ _ _ _ _ hn hn' hs h
          · split at h
            · exact ih _ _ _ _ _ _ _ _ hn hn' hs h
            · split at h
              · exact h
              · split at h
                · cases h
                · split at h
                  · cases h
                  · split at h
                    · cases h
                    · rename_i hr
                      exact ih _ _ _ _ _ _ _ _ hn hn' hs h
/-- the locals at other places, fewer of them -/
theorem wp_pick {E : Nat × (Nat → Int32)} {d k pc : Nat} {lo : am_Lo} {st : List Value} {M : am_M} {Q : Option Value → am_M → Prop} (is ks ks' : List Nat) (hk : lo.map (fun q => q.1) = ks) (hk' : (lv_pick lo is).map (fun q => q.1) = ks') (hn : ks.Nodup) (hn' : ks'.Nodup) (h : wp E d k pc (lv_pick lo is) st M Q) : wp E d k pc lo st M Q := by
  obtain ⟨n, r, M', h1, h2⟩ := h
  refine ⟨n, r, M', am_run_sub _ _ _ _ _ _ _ _ _ (by unfold am_nd; rw [hk]; exact hn) (by unfold am_nd; rw [hk']; exact hn') (fun q hq => ?_) h1, h2⟩
  obtain ⟨i, -, hi⟩ := List.mem_filterMap.mp hq
  exact List.mem_of_getElem? hi
def iZ (z : Int) : Int32 := Int32.ofInt z
def lZ (z : Int) : Int64 := Int64.ofInt z
theorem iZ_of (x : Int32) : iZ x.toInt = x := Int32.ofInt_toInt x
theorem lZ_of (x : Int64) : lZ x.toInt = x := Int64.ofInt_toInt x
theorem iZ_add (a b : Int) : iZ a + iZ b = iZ (a + b) := (Int32.ofInt_add a b).symm
theorem iZ_sub (a b : Int) : iZ a - iZ b = iZ (a - b) := (Int32.ofInt_sub a b).symm
theorem iZ_mul (a b : Int) : iZ a * iZ b = iZ (a * b) := (Int32.ofInt_mul a b).symm
theorem iZ_neg (a : Int) : -iZ a = iZ (-a) := (Int32.ofInt_neg a).symm
theorem lZ_add (a b : Int) : lZ a + lZ b = lZ (a + b) := (Int64.ofInt_add a b).symm
theorem lZ_sub (a b : Int) : lZ a - lZ b = lZ (a - b) := (Int64.ofInt_sub a b).symm
theorem lZ_mul (a b : Int) : lZ a * lZ b = lZ (a * b) := (Int64.ofInt_mul a b).symm
theorem lZ_neg (a : Int) : -lZ a = lZ (-a) := (Int64.ofInt_neg a).symm
def rI (z : Int) : Prop := -2147483648 ≤ z ∧ z ≤ 2147483647
def rL (z : Int) : Prop := -9223372036854775808 ≤ z ∧ z ≤ 9223372036854775807
theorem iZ_toInt {z : Int} (h : rI z) : (iZ z).toInt = z := Int32.toInt_ofInt_of_le (by have := h.1; omega) (by have := h.2; omega)
theorem lZ_toInt {z : Int} (h : rL z) : (lZ z).toInt = z := Int64.toInt_ofInt_of_le (by have := h.1; omega) (by have := h.2; omega)
theorem rI_of (x : Int32) : rI x.toInt := ⟨by have := x.le_toInt; omega, by have := x.toInt_lt; omega⟩
theorem rL_of (x : Int64) : rL x.toInt := ⟨by have := x.le_toInt; omega, by have := x.toInt_lt; omega⟩
theorem iZ_div {a b : Int} (ha : rI a) (hb : rI b) : iZ a / iZ b = iZ (a.tdiv b) := (Int32.ofInt_tdiv ha.1 ha.2 hb.1 hb.2).symm
theorem lZ_div {a b : Int} (ha : rL a) (hb : rL b) : lZ a / lZ b = lZ (a.tdiv b) := (Int64.ofInt_tdiv ha.1 ha.2 hb.1 hb.2).symm
theorem iZ_lt {a b : Int} (ha : rI a) (hb : rI b) : iZ a < iZ b ↔ a < b := by rw [Int32.lt_iff_toInt_lt, iZ_toInt ha, iZ_toInt hb]
theorem iZ_le {a b : Int} (ha : rI a) (hb : rI b) : iZ a ≤ iZ b ↔ a ≤ b := by rw [Int32.le_iff_toInt_le, iZ_toInt ha, iZ_toInt hb]
theorem iZ_eq {a b : Int} (ha : rI a) (hb : rI b) : iZ a = iZ b ↔ a = b := by rw [← Int32.toInt_inj, iZ_toInt ha, iZ_toInt hb]
theorem lZ_lt {a b : Int} (ha : rL a) (hb : rL b) : lZ a < lZ b ↔ a < b := by rw [Int64.lt_iff_toInt_lt, lZ_toInt ha, lZ_toInt hb]
theorem lZ_le {a b : Int} (ha : rL a) (hb : rL b) : lZ a ≤ lZ b ↔ a ≤ b := by rw [Int64.le_iff_toInt_le, lZ_toInt ha, lZ_toInt hb]
theorem lZ_eq {a b : Int} (ha : rL a) (hb : rL b) : lZ a = lZ b ↔ a = b := by rw [← Int64.toInt_inj, lZ_toInt ha, lZ_toInt hb]
theorem iZ_l {a : Int} (ha : rI a) : (iZ a).toInt64 = lZ a := by
  rw [← Int64.toInt_inj, Int32.toInt_toInt64, iZ_toInt ha, lZ_toInt ⟨by have := ha.1; omega, by have := ha.2; omega⟩]
theorem lZ_i {a : Int} (ha : rL a) : (lZ a).toInt32 = iZ a := by
  rw [← Int32.toInt_inj, Int64.toInt_toInt32, lZ_toInt ha, iZ, Int32.toInt_ofInt]
theorem iZ_cl {a : Int} (h0 : 0 ≤ a) (ha : a ≤ 2147483647) : (iZ a).toNatClampNeg = a.toNat := by
  show (iZ a).toInt.toNat = _
  rw [iZ_toInt ⟨by omega, ha⟩]
theorem iZ_nat (n : Nat) : iZ (n : Int) = nI n := Int32.ofInt_eq_ofNat
theorem iZ_in {a : Int} {n : Nat} (h0 : 0 ≤ a) (h1 : a < n) (hn : n < 2147483648) : vp_in (iZ a) n := by
  rw [vp_in_iff, iZ_toInt ⟨by omega, by omega⟩]
  exact ⟨h0, h1⟩
