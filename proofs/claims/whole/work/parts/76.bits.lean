/-! ===== bits of ints and longs; sets as numbers ===== -/
theorem sh32 : ∀ n, n < 32 → ((nI n &&& 31).toBitVec.smod 32).toNat = n := by decide +kernel
theorem sh64c : ∀ k, k < 64 → ((nI k).toInt64 &&& 63) = lN k := by decide +kernel
theorem sh64s : ∀ k, k < 64 → ((lN k).toBitVec.smod 64).toNat = k := by decide +kernel
def tB (b : Bool) : Int := if b then 1 else 0
theorem bi_shr {f i : Nat} (hf : f < 2147483648) (hi : i < 32) : iZ (f : Int) >>> (iZ (i : Int) &&& 31) = iZ ((f / 2 ^ i : Nat) : Int) := by
  rw [iZ_nat, iZ_nat, iZ_nat, pk_shrN (by omega) _ i (sh32 i hi)]
theorem bi_bit {f i : Nat} (hf : f < 2147483648) (hi : i < 32) : (iZ (f : Int) >>> (iZ (i : Int) &&& 31)) &&& iZ 1 = iZ (tB (f.testBit i)) := by
  have hd : f / 2 ^ i ≤ f := Nat.div_le_self _ _
  rw [bi_shr hf hi, iZ_nat, pk_andN (by omega) 1 (by decide), ← iZ_nat]
  congr 1
  rw [Nat.testBit_eq_decide_div_mod_eq]
  unfold tB
  rw [Nat.pow_one]
  have := Nat.mod_lt (f / 2 ^ i) (show 0 < 2 by omega)
  by_cases q : f / 2 ^ i % 2 = 1
  · rw [q]; rfl
  · rw [decide_eq_false q]
    have : f / 2 ^ i % 2 = 0 := by omega
    rw [this]; rfl
theorem bi_or' : ∀ f, f < 64 → ∀ i, i < 6 → nI f ||| (nI 1 <<< (nI i &&& 31)) = nI (f ||| 2 ^ i) := by decide +kernel
theorem bi_or {f i : Nat} (hf : f < 64) (hi : i < 6) : iZ (f : Int) ||| (iZ 1 <<< (iZ (i : Int) &&& 31)) = iZ ((f ||| 2 ^ i : Nat) : Int) := by
  rw [show iZ 1 = nI 1 from rfl, iZ_nat, iZ_nat, iZ_nat]
  exact bi_or' f hf i hi
theorem bi_all' : ∀ n, n < 7 → (nI 1 <<< (nI n &&& 31)) - nI 1 = nI (2 ^ n - 1) := by decide +kernel
theorem bi_all {n : Nat} (hn : n < 7) : (iZ 1 <<< (iZ (n : Int) &&& 31)) - iZ 1 = iZ ((2 ^ n - 1 : Nat) : Int) := by
  rw [show iZ 1 = nI 1 from rfl, iZ_nat, iZ_nat]
  exact bi_all' n hn
def wbt (w : Int64) (s : Nat) : Bool := w.toBitVec.getLsbD s
theorem bl_bit {w : Int64} {s : Nat} (hs : s < 64) : (w >>> ((iZ (s : Int)).toInt64 &&& 63)) &&& lZ 1 = lZ (tB (wbt w s)) := by
  rw [iZ_nat, sh64c s hs]
  have e : (w >>> lN s).toBitVec = w.toBitVec.sshiftRight s := by
    rw [Int64.toBitVec_shiftRight]
    show w.toBitVec.sshiftRight ((lN s).toBitVec.smod 64).toNat = _
    rw [sh64s s hs]
  apply Int64.toBitVec_inj.mp
  rw [Int64.toBitVec_and, e]
  apply BitVec.eq_of_getLsbD_eq
  intro j hj
  rw [BitVec.getLsbD_and, BitVec.getLsbD_sshiftRight]
  have o : (lZ 1).toBitVec = 1#64 := rfl
  rw [o, BitVec.getLsbD_one]
  unfold wbt
  by_cases q : j = 0
  · subst q
    rw [if_pos (by omega)]
    cases w.toBitVec.getLsbD s <;> simp [tB] <;> rfl
  · rw [decide_eq_false q]
    cases w.toBitVec.getLsbD s
    · have : (lZ (tB false)).toBitVec = 0#64 := rfl
      rw [this]; simp
    · have : (lZ (tB true)).toBitVec = 1#64 := rfl
      rw [this, BitVec.getLsbD_one, decide_eq_false q]
      simp
theorem sh64o : ∀ k, k < 64 → (lN 1 <<< lN k).toBitVec = BitVec.twoPow 64 k := by decide +kernel
theorem bl_or {w : Int64} {s t : Nat} (hs : s < 64) (ht : t < 64) : wbt (w ||| (lZ 1 <<< ((iZ (s : Int)).toInt64 &&& 63))) t = (wbt w t || decide (s = t)) := by
  rw [iZ_nat, sh64c s hs]
  unfold wbt
  rw [Int64.toBitVec_or, BitVec.getLsbD_or, show lZ 1 = lN 1 from rfl, sh64o s hs, BitVec.getLsbD_twoPow]
  simp [ht, hs]
theorem bl_and {w : Int64} {s : Nat} (hs : s < 64) : (w &&& (lZ 1 <<< ((iZ (s : Int)).toInt64 &&& 63))) = lZ 0 ↔ wbt w s = false := by
  rw [iZ_nat, sh64c s hs]
  have e : (w &&& (lZ 1 <<< lN s)).toBitVec = w.toBitVec &&& BitVec.twoPow 64 s := by
    rw [Int64.toBitVec_and, show lZ 1 = lN 1 from rfl, sh64o s hs]
  unfold wbt
  rw [← Int64.toBitVec_inj, e]
  have z : (lZ 0).toBitVec = 0#64 := rfl
  rw [z]
  constructor
  · intro h
    have := congrArg (fun x => BitVec.getLsbD x s) h
    rw [BitVec.getLsbD_and, BitVec.getLsbD_twoPow] at this
    cases hb : w.toBitVec.getLsbD s with
    | false => rfl
    | true => rw [hb] at this; simp [hs] at this
  · intro h
    apply BitVec.eq_of_getLsbD_eq
    intro j hj
    rw [BitVec.getLsbD_and, BitVec.getLsbD_twoPow]
    by_cases q : s = j
    · subst q
      rw [h]; simp
    · simp [q]
theorem wbt_0 (s : Nat) : wbt (lZ 0) s = false := by
  unfold wbt
  show (0#64).getLsbD s = false
  simp
/-! sets below 2^n -/
def avk (n f : Nat) : Bool := (decide (f = 2 ^ n - 1) == decide ((avl n f).length = 0)) && (List.range n).all (fun i => f.testBit i || (decide ((avl n (f ||| 2 ^ i)).length + 1 = (avl n f).length) && (decide (f ||| 2 ^ i < 2 ^ n) && decide (f < f ||| 2 ^ i))))
set_option maxRecDepth 100000 in
theorem av_chk : (List.range 7).all (fun n => (List.range (2 ^ n)).all (fun f => avk n f)) = true := by decide +kernel
theorem av_facts {n f : Nat} (hn : n < 7) (hf : f < 2 ^ n) : (f = 2 ^ n - 1 ↔ (avl n f).length = 0) ∧ ∀ i, i < n → f.testBit i = false → (avl n (f ||| 2 ^ i)).length + 1 = (avl n f).length ∧ f ||| 2 ^ i < 2 ^ n ∧ f < f ||| 2 ^ i := by
  have h := List.all_eq_true.mp (List.all_eq_true.mp av_chk n (List.mem_range.mpr hn)) f (List.mem_range.mpr hf)
  unfold avk at h
  rw [Bool.and_eq_true] at h
  refine ⟨?_, fun i hi hb => ?_⟩
  · have h1 := h.1
    rw [beq_iff_eq] at h1
    rw [← decide_eq_true_iff (p := f = 2 ^ n - 1), h1, decide_eq_true_iff]
  · have h2 := List.all_eq_true.mp h.2 i (List.mem_range.mpr hi)
    rw [hb, Bool.false_or, Bool.and_eq_true, Bool.and_eq_true] at h2
    exact ⟨of_decide_eq_true h2.1, of_decide_eq_true h2.2.1, of_decide_eq_true h2.2.2⟩
theorem pw6 {n : Nat} (h : n < 7) : 1 ≤ 2 ^ n ∧ 2 ^ n ≤ 64 := by
  have h2 : 2 ^ n ≤ 2 ^ 6 := Nat.pow_le_pow_right (by omega) (by omega)
  have h1 : 0 < 2 ^ n := Nat.pow_pos (by omega)
  omega
theorem av_0 : ∀ n, n < 7 → (avl n 0).length = n := by decide
theorem first_sr {α : Type} {g : Nat → Option α} {p : Nat → Bool} {i0 : Nat} {y : α} (hp : p i0 = true) (hg : g i0 = some y) (hb : ∀ i, i < i0 → p i = true → g i = none) : ∀ n, i0 < n → ((List.range n).filter p).findSome? g = some y := by
  intro n
  induction n with
  | zero => intro h; omega
  | succ n ih =>
    intro h
    rw [List.range_succ, List.filter_append, List.findSome?_append]
    by_cases q : i0 < n
    · rw [ih q]; rfl
    · have e : i0 = n := by omega
      subst e
      have : ((List.range i0).filter p).findSome? g = none := by
        rw [List.findSome?_eq_none_iff]
        intro x hx
        rw [List.mem_filter, List.mem_range] at hx
        exact hb x hx.1 hx.2
      rw [this, List.filter_cons, if_pos hp, List.findSome?_cons, hg]
      rfl
theorem none_sr {α : Type} {g : Nat → Option α} {p : Nat → Bool} {n : Nat} (hb : ∀ i, i < n → p i = true → g i = none) : ((List.range n).filter p).findSome? g = none := by
  rw [List.findSome?_eq_none_iff]
  intro x hx
  rw [List.mem_filter, List.mem_range] at hx
  exact hb x hx.1 hx.2
