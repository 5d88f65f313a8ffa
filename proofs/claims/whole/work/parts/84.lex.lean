/-! ===== texts; the signs of a plan's text ===== -/
def txL (k : Nat) : Nat := am_slen.getD (k - 1) 0
def txC (k j : Nat) : Int := ((am_sbyt.getD (k - 1) []).getD j 0).toInt
theorem tx_chk : (List.range 28).all (fun k => (am_sbyt.getD k []).all (fun b => decide (((b &&& Int16.toInt32 255).toUInt32 % 65536).toInt32 = b) && (decide (narrow .char (.int b) = .int b) && decide (0 ≤ b.toInt ∧ b.toInt ≤ 127)))) = true := by decide +kernel
theorem getD_all {l : List Int32} {P : Int32 → Prop} (h : ∀ b ∈ l, P b) (h0 : P 0) (j : Nat) : P (l.getD j 0) := by
  rw [List.getD_eq_getElem?_getD]
  cases e : l[j]? with
  | none => exact h0
  | some b => exact h b (List.mem_of_getElem? e)
theorem tx_by {k : Nat} (hk : 1 ≤ k ∧ k ≤ 28) (j : Nat) : (((((am_sbyt.getD (k - 1) []).getD j 0) &&& Int16.toInt32 255).toUInt32 % 65536).toInt32 = (am_sbyt.getD (k - 1) []).getD j 0) ∧ narrow .char (.int ((am_sbyt.getD (k - 1) []).getD j 0)) = .int ((am_sbyt.getD (k - 1) []).getD j 0) ∧ (0 ≤ txC k j ∧ txC k j ≤ 127) := by
  have h := List.all_eq_true.mp tx_chk (k - 1) (List.mem_range.mpr (by omega))
  refine getD_all (P := fun b => ((b &&& Int16.toInt32 255).toUInt32 % 65536).toInt32 = b ∧ narrow .char (.int b) = .int b ∧ (0 ≤ b.toInt ∧ b.toInt ≤ 127)) (fun b hb => ?_) (by decide) j
  have := List.all_eq_true.mp h b hb
  rw [Bool.and_eq_true, Bool.and_eq_true] at this
  exact ⟨of_decide_eq_true this.1, of_decide_eq_true this.2.1, of_decide_eq_true this.2.2⟩
section TXT
variable {E : Nat × (Nat → Int32)} {d : Nat} {I : Nat → Nat → Int32} {J : Nat → Nat → Int64} {A : Nat → Option Nat} {Q : Option Value → am_M → Prop} {M : am_M}
theorem tx_len {k : Nat} (hk : 1 ≤ k ∧ k ≤ 28) (hQ : Q (some (.int (iZ (txL k : Nat)))) M) : wpC E (d + 1) 255 [.float (UInt32.ofNat k)] M Q := by
  have hc : k = 1 ∨ k = 2 ∨ k = 3 ∨ k = 4 ∨ k = 5 ∨ k = 6 ∨ k = 7 ∨ k = 8 ∨ k = 9 ∨ k = 10 ∨ k = 11 ∨ k = 12 ∨ k = 13 ∨ k = 14 ∨ k = 15 ∨ k = 16 ∨ k = 17 ∨ k = 18 ∨ k = 19 ∨ k = 20 ∨ k = 21 ∨ k = 22 ∨ k = 23 ∨ k = 24 ∨ k = 25 ∨ k = 26 ∨ k = 27 ∨ k = 28 := by omega
  rcases hc with rfl | rfl | rfl | rfl | rfl | rfl | rfl | rfl | rfl | rfl | rfl | rfl | rfl | rfl | rfl | rfl | rfl | rfl | rfl | rfl | rfl | rfl | rfl | rfl | rfl | rfl | rfl | rfl
  all_goals (
    refine wc (hs := []) 20 (by decide) (And.intro rfl ?_)
    refine wc (hs := []) 20 (by decide) (wF (by decide) (And.intro rfl ?_))
    exact hQ)
theorem tx_char {k j : Nat} {x : Int32} (hk : 1 ≤ k ∧ k ≤ 28) (hj : j < txL k) (h75 : txL k ≤ 75) (ex : x = iZ j) (hQ : Q (some (.int (iZ (txC k j)))) M) : wpC E (d + 3) 256 [.float (UInt32.ofNat k), .int x] M Q := by
  subst ex
  have b := tx_by hk j
  have cl : (iZ (j : Int)).toNatClampNeg = j := z_cln (by omega)
  have n0 : ¬ iZ (j : Int) < 0 := by
    show ¬ iZ _ < iZ 0
    ((try simp (disch := omega) only [z_i8, z_i16, z_of, z_ofN, z_lofN, z_0, z_1, z_m1, z_l0, z_l1, iZ_add, iZ_sub, iZ_mul, iZ_neg, lZ_add, lZ_sub, lZ_mul, lZ_neg, z_div, z_ldiv, z_l, z_i, z_lt, z_le, z_eq, z_llt, z_lle, z_leq, z_cgt, z_cge, z_clt, z_cle, z_ceq, z_cl, z_nat, Int.toNat_natCast, mm_I, mm_J, z_cln, z_abs, z_max, z_min, z_lmax, z_lmin, z_sin, Int.cast_ofNat_Int, uI_I, uI_J, uL_I, uL_J, uA_I, uA_J, sI_eq, sI_ne, sL_eq, sL_ne, up_eq, up_ne, uL_eq, uL_ne, z_toInt, Int.reduceToNat]) <;> omega)
  have e0 : iZ (txC k j) = (am_sbyt.getD (k - 1) []).getD j 0 := iZ_of _
  rw [e0] at hQ
  have nl : iZ (j : Int) < iZ (txL k : Nat) := by ((try simp (disch := omega) only [z_i8, z_i16, z_of, z_ofN, z_lofN, z_0, z_1, z_m1, z_l0, z_l1, iZ_add, iZ_sub, iZ_mul, iZ_neg, lZ_add, lZ_sub, lZ_mul, lZ_neg, z_div, z_ldiv, z_l, z_i, z_lt, z_le, z_eq, z_llt, z_lle, z_leq, z_cgt, z_cge, z_clt, z_cle, z_ceq, z_cl, z_nat, Int.toNat_natCast, mm_I, mm_J, z_cln, z_abs, z_max, z_min, z_lmax, z_lmin, z_sin, Int.cast_ofNat_Int, uI_I, uI_J, uL_I, uL_J, uA_I, uA_J, sI_eq, sI_ne, sL_eq, sL_ne, up_eq, up_ne, uL_eq, uL_ne, z_toInt, Int.reduceToNat]) <;> omega)
  have iin : vp_in (iZ (j : Int)) (txL k) := z_in (by omega) (by omega) (by omega)
  have H : narrow .char (.int ((((am_sbyt.getD (k - 1) []).getD (iZ (j : Int)).toNatClampNeg 0) &&& Int16.toInt32 255).toUInt32 % 65536).toInt32) = .int ((((am_sbyt.getD (k - 1) []).getD (iZ (j : Int)).toNatClampNeg 0) &&& Int16.toInt32 255).toUInt32 % 65536).toInt32 ∧ (narrow .char (.int ((((am_sbyt.getD (k - 1) []).getD (iZ (j : Int)).toNatClampNeg 0) &&& Int16.toInt32 255).toUInt32 % 65536).toInt32) = .int ((((am_sbyt.getD (k - 1) []).getD (iZ (j : Int)).toNatClampNeg 0) &&& Int16.toInt32 255).toUInt32 % 65536).toInt32 ∧ Q (some (.int ((((am_sbyt.getD (k - 1) []).getD (iZ (j : Int)).toNatClampNeg 0) &&& Int16.toInt32 255).toUInt32 % 65536).toInt32)) M) := by
    rw [cl, b.1]
    exact ⟨b.2.1, b.2.1, hQ⟩
  have hc : k = 1 ∨ k = 2 ∨ k = 3 ∨ k = 4 ∨ k = 5 ∨ k = 6 ∨ k = 7 ∨ k = 8 ∨ k = 9 ∨ k = 10 ∨ k = 11 ∨ k = 12 ∨ k = 13 ∨ k = 14 ∨ k = 15 ∨ k = 16 ∨ k = 17 ∨ k = 18 ∨ k = 19 ∨ k = 20 ∨ k = 21 ∨ k = 22 ∨ k = 23 ∨ k = 24 ∨ k = 25 ∨ k = 26 ∨ k = 27 ∨ k = 28 := by omega
  rcases hc with rfl | rfl | rfl | rfl | rfl | rfl | rfl | rfl | rfl | rfl | rfl | rfl | rfl | rfl | rfl | rfl | rfl | rfl | rfl | rfl | rfl | rfl | rfl | rfl | rfl | rfl | rfl | rfl
  all_goals (
    refine wc (hs := []) 20 (by decide) (And.intro rfl ?_)
    refine wc (hs := []) 20 (by decide) (wF (by decide) (wt rfl (And.intro rfl ?_)))
    refine wF (by decide) (And.intro rfl ?_)
    refine wc (hs := []) 20 (by decide) (And.intro rfl ?_)
    refine wc (hs := []) 20 (by decide) (And.intro rfl ?_)
    refine wc (hs := []) 20 (by decide) (wF n0 (wt nl ?_))
    exact And.intro iin H)
end TXT
/-! the pure lexer: T the bytes, t how many -/
def skN (T : Nat → Int) : Nat → Nat → Nat
  | 0, p => p
  | n + 1, p => if T p = 32 then skN T n (p + 1) else p
def skp (T : Nat → Int) (t p : Nat) : Nat := skN T (t - p) p
def reN (T : Nat → Int) (lo hi : Int) : Nat → Nat → Nat
  | 0, p => p
  | n + 1, p => if lo ≤ T p ∧ T p ≤ hi then reN T lo hi n (p + 1) else p
def rex (T : Nat → Int) (t : Nat) (lo hi : Int) (p : Nat) : Nat := reN T lo hi (t - p) p
theorem skp_lt {T : Nat → Int} {t p : Nat} (h : p < t) : skp T t p = if T p = 32 then skp T t (p + 1) else p := by
  unfold skp
  rw [show t - p = (t - (p + 1)) + 1 by omega]
  rfl
theorem skp_ge {T : Nat → Int} {t p : Nat} (h : t ≤ p) : skp T t p = p := by
  unfold skp
  rw [show t - p = 0 by omega]
  rfl
theorem rex_lt {T : Nat → Int} {t p : Nat} {lo hi : Int} (h : p < t) : rex T t lo hi p = if lo ≤ T p ∧ T p ≤ hi then rex T t lo hi (p + 1) else p := by
  unfold rex
  rw [show t - p = (t - (p + 1)) + 1 by omega]
  rfl
theorem rex_ge {T : Nat → Int} {t p : Nat} {lo hi : Int} (h : t ≤ p) : rex T t lo hi p = p := by
  unfold rex
  rw [show t - p = 0 by omega]
  rfl
theorem skp_bd {T : Nat → Int} {t : Nat} : ∀ (n p : Nat), p + n = t → p ≤ skp T t p ∧ skp T t p ≤ t ∧ (skp T t p < t → T (skp T t p) ≠ 32) := by
  intro n
  induction n with
  | zero => intro p h; rw [skp_ge (by omega)]; exact ⟨Nat.le_refl _, by omega, fun q => by omega⟩
  | succ n ih =>
    intro p h
    rw [skp_lt (by omega)]
    by_cases q : T p = 32
    · rw [if_pos q]
      have := ih (p + 1) (by omega)
      exact ⟨by omega, this.2.1, this.2.2⟩
    · rw [if_neg q]
      exact ⟨Nat.le_refl _, by omega, fun _ => q⟩
theorem skp_b {T : Nat → Int} {t p : Nat} (h : p ≤ t) : p ≤ skp T t p ∧ skp T t p ≤ t ∧ (skp T t p < t → T (skp T t p) ≠ 32) := skp_bd (t - p) p (by omega)
theorem skp_id {T : Nat → Int} {t p : Nat} (h : p < t → T p ≠ 32) : skp T t p = p := by
  by_cases q : p < t
  · rw [skp_lt q, if_neg (h q)]
  · rw [skp_ge (by omega)]
theorem skp_sk {T : Nat → Int} {t p : Nat} (h : p ≤ t) : skp T t (skp T t p) = skp T t p := skp_id (skp_b h).2.2
theorem rex_bd {T : Nat → Int} {t : Nat} {lo hi : Int} : ∀ (n p : Nat), p + n = t → (p ≤ rex T t lo hi p ∧ rex T t lo hi p ≤ t) ∧ (∀ i, p ≤ i → i < rex T t lo hi p → lo ≤ T i ∧ T i ≤ hi) ∧ (rex T t lo hi p < t → ¬ (lo ≤ T (rex T t lo hi p) ∧ T (rex T t lo hi p) ≤ hi)) := by
  intro n
  induction n with
  | zero => intro p h; rw [rex_ge (by omega)]; exact ⟨⟨Nat.le_refl _, by omega⟩, fun i h1 h2 => by omega, fun q => by omega⟩
  | succ n ih =>
    intro p h
    rw [rex_lt (by omega)]
    by_cases q : lo ≤ T p ∧ T p ≤ hi
    · rw [if_pos q]
      obtain ⟨h1, h2, h3⟩ := ih (p + 1) (by omega)
      refine ⟨by omega, fun i q1 q2 => ?_, h3⟩
      by_cases e : i = p
      · subst e; exact q
      · exact h2 i (by omega) q2
    · rw [if_neg q]
      exact ⟨⟨Nat.le_refl _, by omega⟩, fun i h1 h2 => by omega, fun _ => q⟩
theorem rex_b {T : Nat → Int} {t p : Nat} {lo hi : Int} (h : p ≤ t) : (p ≤ rex T t lo hi p ∧ rex T t lo hi p ≤ t) ∧ (∀ i, p ≤ i → i < rex T t lo hi p → lo ≤ T i ∧ T i ≤ hi) ∧ (rex T t lo hi p < t → ¬ (lo ≤ T (rex T t lo hi p) ∧ T (rex T t lo hi p) ≤ hi)) := rex_bd (t - p) p (by omega)
theorem rex_up {T : Nat → Int} {t p : Nat} {lo hi : Int} (h : p < t) (q : lo ≤ T p ∧ T p ≤ hi) : p < rex T t lo hi p := by
  rw [rex_lt h, if_pos q]
  have := (rex_b (T := T) (lo := lo) (hi := hi) (show p + 1 ≤ t by omega)).1
  omega
def nuV (T : Nat → Int) : Nat → Nat → Int → Int
  | 0, _, v => v
  | n + 1, p, v => nuV T n (p + 1) (v * 10 + T p - 48)
def nuZ (T : Nat → Int) (t p : Nat) : Int := if 5 < rex T t 48 57 p - p then -1 else nuV T (rex T t 48 57 p - p) p 0
/-- a word's sign at a place of its five, filled with blanks -/
def W5 (w i : Nat) : Int := txC 1 (5 * (w - 12) + i)
def mtW (T : Nat → Int) (p e w : Nat) : Bool := decide (e - p ≤ 5) && (List.range 5).all (fun i => decide ((if p + i < e then T (p + i) else 32) = W5 w i))
def wdL (T : Nat → Int) (p e : Nat) : Nat → Nat → Int
  | 0, _ => 41
  | n + 1, w => if mtW T p e w then (w : Int) else wdL T p e n (w + 1)
def wdZ (T : Nat → Int) (p e : Nat) : Int := if e - p = 1 ∧ T p ≤ 108 then T p - 97 else wdL T p e 15 12
def sgn (c : Int) (eq : Bool) : Int := if c = 43 then 27 else if c = 45 then 28 else if c = 42 then 29 else if c = 47 then 30 else if c = 60 then (if eq then 32 else 31) else if c = 61 then 33 else if c = 62 then (if eq then 34 else 35) else if c = 59 then 36 else if c = 91 then 37 else if c = 93 then 38 else 41
def eqB (T : Nat → Int) (t p : Nat) : Bool := decide (p + 1 < t ∧ T (p + 1) = 61)
def tkZ (T : Nat → Int) (t p : Nat) : Int := if t ≤ p then 40 else if 48 ≤ T p ∧ T p ≤ 57 then 39 else if 97 ≤ T p ∧ T p ≤ 122 then wdZ T p (rex T t 97 122 p) else sgn (T p) (eqB T t p)
def enZ (T : Nat → Int) (t p : Nat) : Nat := if 48 ≤ T p ∧ T p ≤ 57 then rex T t 48 57 p else if 97 ≤ T p ∧ T p ≤ 122 then rex T t 97 122 p else if tkZ T t p = 32 ∨ tkZ T t p = 34 then p + 2 else p + 1
def nxZ (T : Nat → Int) (t p : Nat) : Nat := skp T t (enZ T t p)
theorem sgn_rng {c : Int} {e : Bool} : 27 ≤ sgn c e ∧ sgn c e ≤ 41 ∧ sgn c e ≠ 39 ∧ sgn c e ≠ 40 := by
  unfold sgn
  cases e <;> (repeat' split) <;> omega
theorem wdL_rng {T : Nat → Int} {p e : Nat} : ∀ n w, (wdL T p e n w = 41 ∨ (w ≤ wdL T p e n w ∧ wdL T p e n w < w + n)) := by
  intro n
  induction n with
  | zero => intro w; exact Or.inl rfl
  | succ n ih =>
    intro w
    unfold wdL
    split
    · exact Or.inr (by omega)
    · rcases ih (w + 1) with h | h
      · exact Or.inl h
      · exact Or.inr (by omega)
theorem wd_rng {T : Nat → Int} {p e : Nat} (h : 97 ≤ T p) : 0 ≤ wdZ T p e ∧ (wdZ T p e ≤ 26 ∨ wdZ T p e = 41) := by
  unfold wdZ
  split
  · omega
  · have := wdL_rng (T := T) (p := p) (e := e) 15 12
    omega
theorem tk_rng {T : Nat → Int} {t p : Nat} : (0 ≤ tkZ T t p ∧ tkZ T t p ≤ 41) ∧ (tkZ T t p = 40 ↔ t ≤ p) := by
  unfold tkZ
  by_cases h : t ≤ p
  · rw [if_pos h]; exact ⟨by omega, fun _ => h, fun _ => rfl⟩
  · rw [if_neg h]
    by_cases h1 : 48 ≤ T p ∧ T p ≤ 57
    · rw [if_pos h1]; exact ⟨by omega, fun q => by omega, fun q => absurd q h⟩
    · rw [if_neg h1]
      by_cases h2 : 97 ≤ T p ∧ T p ≤ 122
      · rw [if_pos h2]
        have := wd_rng (T := T) (p := p) (e := rex T t 97 122 p) h2.1
        exact ⟨by omega, fun q => by omega, fun q => absurd q h⟩
      · rw [if_neg h2]
        have := sgn_rng (c := T p) (e := eqB T t p)
        exact ⟨by omega, fun q => by omega, fun q => absurd q h⟩
theorem en_b {T : Nat → Int} {t p : Nat} (h : p < t) : p < enZ T t p ∧ enZ T t p ≤ t := by
  unfold enZ
  by_cases h1 : 48 ≤ T p ∧ T p ≤ 57
  · rw [if_pos h1]; exact ⟨rex_up h h1, (rex_b (by omega)).1.2⟩
  · rw [if_neg h1]
    by_cases h2 : 97 ≤ T p ∧ T p ≤ 122
    · rw [if_pos h2]; exact ⟨rex_up h h2, (rex_b (by omega)).1.2⟩
    · rw [if_neg h2]
      by_cases h3 : tkZ T t p = 32 ∨ tkZ T t p = 34
      · rw [if_pos h3]
        refine ⟨by omega, ?_⟩
        have : eqB T t p = true := by
          cases e : eqB T t p with
          | true => rfl
          | false =>
            exfalso
            unfold tkZ at h3
            rw [if_neg (by omega), if_neg h1, if_neg h2, e] at h3
            unfold sgn at h3
            simp only [Bool.false_eq_true, if_false] at h3
            revert h3
            (repeat' split) <;> omega
        unfold eqB at this
        have := (of_decide_eq_true this).1
        omega
      · rw [if_neg h3]; omega
theorem nx_b {T : Nat → Int} {t p : Nat} (h : p < t) : p < nxZ T t p ∧ nxZ T t p ≤ t := by
  have e := en_b (T := T) h
  have s := skp_b (T := T) e.2
  unfold nxZ
  omega
theorem nx_sk {T : Nat → Int} {t p : Nat} (h : p < t) : skp T t (nxZ T t p) = nxZ T t p := skp_sk (en_b h).2
