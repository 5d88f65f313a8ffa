/-! ===== the reference reads signs and words ===== -/
def stB (T : Nat → Int) (t k p : Nat) : Bool := decide (rex T t 97 122 p - p = txL k) && (List.range (txL k)).all (fun j => decide (T (p + j) = txC k j))
/-- the sign's number of a text -/
def cdW (k : Nat) : Nat := if 13 ≤ k ∧ k ≤ 24 then k - 13 else if k = 2 then 19 else if k = 3 then 20 else if k = 4 then 21 else if k = 5 then 16 else if k = 6 then 22 else if k = 7 then 12 else if k = 8 then 13 else if k = 9 then 14 else if k = 10 then 15 else if k = 11 then 17 else if k = 12 then 18 else if k = 25 then 23 else if k = 26 then 26 else if k = 27 then 24 else 25
def W5n (w i : Nat) : Int := ((am_sbyt.getD 0 []).getD (5 * (w - 12) + i) 0).toInt
theorem tx_tab : (List.range 27).all (fun k0 => if 13 ≤ k0 + 2 ∧ k0 + 2 ≤ 24 then decide (txL (k0 + 2) = 1 ∧ txC (k0 + 2) 0 = 97 + ((k0 + 2 - 13 : Nat) : Int)) else (decide (2 ≤ txL (k0 + 2) ∧ txL (k0 + 2) ≤ 5 ∧ 12 ≤ cdW (k0 + 2) ∧ cdW (k0 + 2) ≤ 26) && (List.range 5).all (fun j => if j < txL (k0 + 2) then decide (W5 (cdW (k0 + 2)) j = txC (k0 + 2) j ∧ 97 ≤ txC (k0 + 2) j ∧ txC (k0 + 2) j ≤ 122) else decide (W5 (cdW (k0 + 2)) j = 32)))) = true := by decide +kernel
theorem w5_tab : (List.range 15).all (fun a => (List.range 15).all (fun b => decide (a = b) || (List.range 5).any (fun j => decide (W5 (12 + a) j ≠ W5 (12 + b) j)))) = true := by decide +kernel
theorem tx_one {k : Nat} (h : 13 ≤ k ∧ k ≤ 24) : txL k = 1 ∧ txC k 0 = 97 + ((k - 13 : Nat) : Int) := by
  have := List.all_eq_true.mp tx_tab (k - 2) (List.mem_range.mpr (by omega))
  rw [show k - 2 + 2 = k by omega, if_pos h] at this
  exact of_decide_eq_true this
theorem tx_wd {k : Nat} (h : 2 ≤ k ∧ k ≤ 28) (h2 : ¬ (13 ≤ k ∧ k ≤ 24)) : (2 ≤ txL k ∧ txL k ≤ 5 ∧ 12 ≤ cdW k ∧ cdW k ≤ 26) ∧ ∀ j, j < 5 → (j < txL k → W5 (cdW k) j = txC k j ∧ 97 ≤ txC k j ∧ txC k j ≤ 122) ∧ (¬ j < txL k → W5 (cdW k) j = 32) := by
  have := List.all_eq_true.mp tx_tab (k - 2) (List.mem_range.mpr (by omega))
  rw [show k - 2 + 2 = k by omega, if_neg h2, Bool.and_eq_true] at this
  refine ⟨of_decide_eq_true this.1, fun j hj => ?_⟩
  have h3 := List.all_eq_true.mp this.2 j (List.mem_range.mpr hj)
  constructor
  · intro q; rw [if_pos q] at h3; exact of_decide_eq_true h3
  · intro q; rw [if_neg q] at h3; exact of_decide_eq_true h3
theorem w5_inj {a b : Nat} (ha : 12 ≤ a ∧ a ≤ 26) (hb : 12 ≤ b ∧ b ≤ 26) (h : ∀ j, j < 5 → W5 a j = W5 b j) : a = b := by
  have := List.all_eq_true.mp (List.all_eq_true.mp w5_tab (a - 12) (List.mem_range.mpr (by omega))) (b - 12) (List.mem_range.mpr (by omega))
  rw [show 12 + (a - 12) = a by omega, show 12 + (b - 12) = b by omega, Bool.or_eq_true] at this
  rcases this with q | q
  · have := of_decide_eq_true q; omega
  · obtain ⟨j, hj, hq⟩ := List.any_eq_true.mp q
    exact absurd (h j (List.mem_range.mp hj)) (of_decide_eq_true hq)
theorem wdL_eq {T : Nat → Int} {p e : Nat} {w : Nat} (hw : mtW T p e w = true) (hw2 : 12 ≤ w ∧ w ≤ 26) : ∀ n v, v + n = 27 → 12 ≤ v → v ≤ w → wdL T p e n v = (w : Int) := by
  intro n
  induction n with
  | zero => intro v h1 h2 h3; omega
  | succ n ih =>
    intro v h1 h2 h3
    unfold wdL
    by_cases q : mtW T p e v = true
    · rw [if_pos q]
      have : v = w := w5_inj (by omega) hw2 (fun j hj => (mt_at q hj).symm.trans (mt_at hw hj))
      rw [this]
    · rw [if_neg q]
      by_cases q2 : v = w
      · rw [q2] at q; exact absurd hw q
      · exact ih (v + 1) (by omega) (by omega) (by omega)
theorem cdW_le : ∀ k, k < 29 → cdW k ≤ 26 := by decide
theorem st_iff {T : Nat → Int} {t k p : Nat} (hk : 2 ≤ k ∧ k ≤ 28) (hp : p ≤ t) : stB T t k p = true ↔ tkZ T t p = (cdW k : Nat) := by
  have rb := rex_b (T := T) (lo := 97) (hi := 122) hp
  have tkd : p < t → tkZ T t p = if 48 ≤ T p ∧ T p ≤ 57 then 39 else if 97 ≤ T p ∧ T p ≤ 122 then wdZ T p (rex T t 97 122 p) else sgn (T p) (eqB T t p) := fun q => by
    unfold tkZ
    rw [if_neg (by omega)]
  have cb : cdW k ≤ 26 := cdW_le k (by omega)
  by_cases one : 13 ≤ k ∧ k ≤ 24
  · obtain ⟨l1, c1⟩ := tx_one one
    have cd : cdW k = k - 13 := by unfold cdW; rw [if_pos one]
    unfold stB
    rw [l1, Bool.and_eq_true, List.all_eq_true]
    constructor
    · rintro ⟨h1, h2⟩
      have h1 := of_decide_eq_true h1
      have h2 := of_decide_eq_true (h2 0 (List.mem_range.mpr (by omega)))
      rw [Nat.add_zero, c1] at h2
      rw [tkd (by omega), if_neg (by omega), if_pos (by omega)]
      unfold wdZ
      rw [if_pos ⟨h1, by omega⟩, h2, cd]; omega
    · intro h
      have pt := tk_lt (T := T) (t := t) (p := p) (by omega)
      rw [tkd pt] at h
      by_cases q1 : 48 ≤ T p ∧ T p ≤ 57
      · rw [if_pos q1] at h; omega
      · rw [if_neg q1] at h
        by_cases q2 : 97 ≤ T p ∧ T p ≤ 122
        · rw [if_pos q2] at h
          unfold wdZ at h
          by_cases q3 : rex T t 97 122 p - p = 1 ∧ T p ≤ 108
          · rw [if_pos q3, cd] at h
            refine ⟨decide_eq_true q3.1, fun j hj => decide_eq_true ?_⟩
            have : j = 0 := by have := List.mem_range.mp hj; omega
            rw [this, Nat.add_zero, c1]; omega
          · rw [if_neg q3] at h
            have := wdL_rng (T := T) (p := p) (e := rex T t 97 122 p) 15 12
            rw [cd] at h
            omega
        · rw [if_neg q2] at h
          have := sgn_rng (c := T p) (e := eqB T t p)
          omega
  · obtain ⟨⟨l2, l5, c12, c26⟩, tb⟩ := tx_wd hk one
    constructor
    · intro h
      unfold stB at h
      rw [Bool.and_eq_true, List.all_eq_true] at h
      have h1 := of_decide_eq_true h.1
      have h2 : ∀ j, j < txL k → T (p + j) = txC k j := fun j hj => of_decide_eq_true (h.2 j (List.mem_range.mpr hj))
      have t0 := (tb 0 (by omega)).1 (by omega)
      have e0 := h2 0 (by omega)
      rw [Nat.add_zero] at e0
      rw [tkd (by omega), if_neg (by omega), if_pos (by omega)]
      unfold wdZ
      rw [if_neg (by omega)]
      refine wdL_eq ?_ ⟨c12, c26⟩ 15 12 (by omega) (by omega) c12
      unfold mtW
      rw [Bool.and_eq_true, List.all_eq_true]
      refine ⟨decide_eq_true (by omega), fun j hj => decide_eq_true ?_⟩
      have hj := List.mem_range.mp hj
      by_cases q : j < txL k
      · rw [if_pos (by omega), h2 j q]; exact ((tb j hj).1 q).1.symm
      · rw [if_neg (by omega)]; exact ((tb j hj).2 q).symm
    · intro h
      have pt := tk_lt (T := T) (t := t) (p := p) (by omega)
      rw [tkd pt] at h
      by_cases q1 : 48 ≤ T p ∧ T p ≤ 57
      · rw [if_pos q1] at h; omega
      · rw [if_neg q1] at h
        by_cases q2 : 97 ≤ T p ∧ T p ≤ 122
        · rw [if_pos q2] at h
          unfold wdZ at h
          by_cases q3 : rex T t 97 122 p - p = 1 ∧ T p ≤ 108
          · rw [if_pos q3] at h; omega
          · rw [if_neg q3] at h
            have mt := wdL_mt 15 12 (cdW k) h (by omega)
            have m5 : rex T t 97 122 p - p ≤ 5 := by
              unfold mtW at mt
              rw [Bool.and_eq_true] at mt
              exact of_decide_eq_true mt.1
            have key : ∀ j, j < 5 → (p + j < rex T t 97 122 p ↔ j < txL k) := fun j hj => by
              have mj := mt_at mt hj
              constructor
              · intro q
                apply Classical.byContradiction
                intro q5
                rw [if_pos q, (tb j hj).2 q5] at mj
                have := rb.2.1 (p + j) (by omega) q
                omega
              · intro q
                apply Classical.byContradiction
                intro q5
                have := (tb j hj).1 q
                rw [if_neg q5, this.1] at mj
                omega
            have len : rex T t 97 122 p - p = txL k := by
              have k4 := key (txL k - 1) (by omega)
              by_cases q5 : txL k = 5
              · omega
              · have k5 := key (txL k) (by omega)
                omega
            unfold stB
            rw [Bool.and_eq_true, List.all_eq_true]
            refine ⟨decide_eq_true len, fun j hj => decide_eq_true ?_⟩
            have hj := List.mem_range.mp hj
            have mj := mt_at mt (show j < 5 by omega)
            rw [if_pos (by omega)] at mj
            rw [mj]; exact ((tb j (by omega)).1 hj).1
        · rw [if_neg q2] at h
          have := sgn_rng (c := T p) (e := eqB T t p)
          omega
section MLEX
variable {E : Nat × (Nat → Int32)} {d : Nat} {I I0 I1 : Nat → Nat → Int32} {J : Nat → Nat → Int64} {A : Nat → Option Nat} {Q : Option Value → am_M → Prop} {M : am_M} {T : Nat → Int} {t p : Nat}
def TM (I : Nat → Nat → Int32) (T : Nat → Int) (t : Nat) : Prop := t ≤ 400 ∧ I 265 27 = iZ t ∧ ∀ i : Nat, i < t → (0 ≤ T i ∧ T i ≤ 255) ∧ I 290 i = iZ (sgZ (T i))
def sgA (T : Nat → Int) (t p : Nat) : Int := if p < t then T p else -1
theorem by255 : ∀ n : Nat, n < 256 → iZ (sgZ (n : Int)) &&& Int16.toInt32 255 = nI n := by decide +kernel
theorem m_sign (hT : TM I T t) (h28 : I 265 28 = iZ p) (hp : p ≤ 1000) (hQ : Q (some (.int (iZ (sgA T t p)))) (mm I J A)) : wpC E d 192 [.ref 265] (mm I J A) Q := by
  obtain ⟨t4, e27, hb⟩ := hT
  unfold sgA at hQ
  by_cases q : p < t
  · rw [if_pos q] at hQ
    have c0 : ¬ I 265 27 ≤ I 265 28 := by rw [e27, h28]; ((try simp (disch := omega) only [z_i8, z_i16, z_of, z_ofN, z_lofN, z_0, z_1, z_m1, z_l0, z_l1, iZ_add, iZ_sub, iZ_mul, iZ_neg, lZ_add, lZ_sub, lZ_mul, lZ_neg, z_div, z_ldiv, z_l, z_i, z_lt, z_le, z_eq, z_llt, z_lle, z_leq, z_cgt, z_cge, z_clt, z_cle, z_ceq, z_cl, z_nat, Int.toNat_natCast, mm_I, mm_J, z_cln, z_abs, z_max, z_min, z_lmax, z_lmin, z_sin, Int.cast_ofNat_Int, uI_I, uI_J, uL_I, uL_J, uA_I, uA_J, sI_eq, sI_ne, sL_eq, sL_ne, up_eq, up_ne, uL_eq, uL_ne, z_toInt, Int.reduceToNat]) <;> omega)
    have cl : (I 265 28).toNatClampNeg = p := by rw [h28]; exact z_cln (by omega)
    have hin : vp_in (I 265 28) 400 := by rw [h28]; exact z_in (by omega) (by omega) (by omega)
    refine wc (hs := []) 20 (by decide) (wF c0 (And.intro hin (q_i hQ ?_)))
    show I 290 (I 265 28).toNatClampNeg &&& Int16.toInt32 255 = _
    obtain ⟨b1, b2⟩ := hb p q
    rw [cl, b2]
    obtain ⟨n, hn, en⟩ : ∃ n : Nat, n < 256 ∧ T p = n := ⟨(T p).toNat, by omega, by omega⟩
    rw [en, by255 n hn, iZ_nat]
  · rw [if_neg q] at hQ
    have c0 : I 265 27 ≤ I 265 28 := by rw [e27, h28]; ((try simp (disch := omega) only [z_i8, z_i16, z_of, z_ofN, z_lofN, z_0, z_1, z_m1, z_l0, z_l1, iZ_add, iZ_sub, iZ_mul, iZ_neg, lZ_add, lZ_sub, lZ_mul, lZ_neg, z_div, z_ldiv, z_l, z_i, z_lt, z_le, z_eq, z_llt, z_lle, z_leq, z_cgt, z_cge, z_clt, z_cle, z_ceq, z_cl, z_nat, Int.toNat_natCast, mm_I, mm_J, z_cln, z_abs, z_max, z_min, z_lmax, z_lmin, z_sin, Int.cast_ofNat_Int, uI_I, uI_J, uL_I, uL_J, uA_I, uA_J, sI_eq, sI_ne, sL_eq, sL_ne, up_eq, up_ne, uL_eq, uL_ne, z_toInt, Int.reduceToNat]) <;> omega)
    exact wc (hs := []) 20 (by decide) (wt c0 hQ)
theorem TM_set {j : Nat} {x : Int32} (h : TM I T t) (hj : j ≠ 27) : TM (setI I 265 j x) T t := ⟨h.1, by rw [setI_at, if_neg (by omega)]; exact h.2.1, fun i hi => ⟨(h.2.2 i hi).1, by rw [setI_at, if_neg (by omega)]; exact (h.2.2 i hi).2⟩⟩
theorem sgA_rng (hT : TM I T t) : -1 ≤ sgA T t p ∧ sgA T t p ≤ 255 := by
  unfold sgA
  split
  · rename_i q; have := (hT.2.2 p q).1; omega
  · omega
theorem m_blanks (hT : TM I T t) (h28 : I 265 28 = iZ p) (hp : p ≤ 1000) (hQ : Q none (mm (setI I 265 28 (iZ (skp T t p : Nat))) J A)) : wpC E (d + 1) 193 [.ref 265] (mm I J A) Q := by
  have t4 := hT.1
  have L : ∀ (n q : Nat), (q + n = t ∨ (t ≤ q ∧ n = 0)) → q ≤ 1000 → skp T t q = skp T t p → wp E (d + 1) 193 0 [(0, .ref 265)] [] (mm (setI I 265 28 (iZ q)) J A) Q := by
    intro n
    induction n with
    | zero =>
      intro q hq h1 he
      rw [skp_ge (by omega)] at he
      rw [← he] at hQ
      have s : sgA T t q = -1 := by unfold sgA; rw [if_neg (by omega)]
      refine wf (hs := [0]) 20 0 (by decide) (And.intro rfl (m_sign (p := q) (TM_set hT (by omega)) (by rw [setI_at, if_pos ⟨rfl, rfl⟩]) h1 ?_))
      rw [s]
      exact wF (by decide) hQ
    | succ n ih =>
      intro q hq h1 he
      have qt : q < t := by omega
      have s : sgA T t q = T q := by unfold sgA; rw [if_pos qt]
      have b := (hT.2.2 q qt).1
      rw [skp_lt qt] at he
      refine wf (hs := [0]) 20 0 (by decide) (And.intro rfl (m_sign (p := q) (TM_set hT (by omega)) (by rw [setI_at, if_pos ⟨rfl, rfl⟩]) h1 ?_))
      rw [s]
      refine And.intro (fun g => ?_) (fun g => ?_)
      · have g : iZ (T q) = iZ 32 := g
        simp (disch := omega) only [z_i8, z_i16, z_of, z_ofN, z_lofN, z_0, z_1, z_m1, z_l0, z_l1, iZ_add, iZ_sub, iZ_mul, iZ_neg, lZ_add, lZ_sub, lZ_mul, lZ_neg, z_div, z_ldiv, z_l, z_i, z_lt, z_le, z_eq, z_llt, z_lle, z_leq, z_cgt, z_cge, z_clt, z_cle, z_ceq, z_cl, z_nat, Int.toNat_natCast, mm_I, mm_J, z_cln, z_abs, z_max, z_min, z_lmax, z_lmin, z_sin, Int.cast_ofNat_Int, uI_I, uI_J, uL_I, uL_J, uA_I, uA_J, sI_eq, sI_ne, sL_eq, sL_ne, up_eq, up_ne, uL_eq, uL_ne, z_toInt, Int.reduceToNat] at g
        rw [if_pos g] at he
        have e : setI (setI I 265 28 (iZ q)) 265 28 (setI I 265 28 (iZ q) 265 28 + iZ 1) = setI I 265 28 (iZ ((q + 1 : Nat) : Int)) := by
          rw [setI_two, setI_at, if_pos ⟨rfl, rfl⟩, iZ_add]; rfl
        have := ih (q + 1) (by omega) (by omega) he
        rw [← e] at this
        exact this
      · have g : ¬ iZ (T q) = iZ 32 := g
        simp (disch := omega) only [z_i8, z_i16, z_of, z_ofN, z_lofN, z_0, z_1, z_m1, z_l0, z_l1, iZ_add, iZ_sub, iZ_mul, iZ_neg, lZ_add, lZ_sub, lZ_mul, lZ_neg, z_div, z_ldiv, z_l, z_i, z_lt, z_le, z_eq, z_llt, z_lle, z_leq, z_cgt, z_cge, z_clt, z_cle, z_ceq, z_cl, z_nat, Int.toNat_natCast, mm_I, mm_J, z_cln, z_abs, z_max, z_min, z_lmax, z_lmin, z_sin, Int.cast_ofNat_Int, uI_I, uI_J, uL_I, uL_J, uA_I, uA_J, sI_eq, sI_ne, sL_eq, sL_ne, up_eq, up_ne, uL_eq, uL_ne, z_toInt, Int.reduceToNat] at g
        rw [if_neg g] at he
        rw [← he] at hQ
        exact hQ
  have e : setI I 265 28 (iZ p) = I := by rw [← h28]; exact setI_same
  have := L (t - p) p (by omega) hp rfl
  rw [e] at this
  exact this
theorem m_isDigit (hT : TM I T t) (h28 : I 265 28 = iZ p) (hp : p ≤ 1000) (h1 : p < t ∧ 48 ≤ T p ∧ T p ≤ 57 → Q (some (.int 1)) (mm I J A)) (h0 : ¬ (p < t ∧ 48 ≤ T p ∧ T p ≤ 57) → Q (some (.int 0)) (mm I J A)) : wpC E (d + 1) 194 [.ref 265] (mm I J A) Q := by
  have sr := sgA_rng (p := p) hT
  refine wc (hs := []) 20 (by decide) (And.intro rfl (m_sign hT h28 hp ?_))
  refine And.intro rfl (mW (z := sgA T t p) (lo := 48) (hi := 57) (z_l (by omega) (by omega)) rfl rfl (by omega) (by omega) (by omega) (fun g => And.intro rfl (h1 ?_)) (fun g => And.intro rfl (h0 ?_)))
  · unfold sgA at g
    by_cases q : p < t
    · rw [if_pos q] at g; exact ⟨q, g⟩
    · rw [if_neg q] at g; omega
  · intro q
    unfold sgA at g
    rw [if_pos q.1] at g
    exact g q.2
theorem cat1 {x : Int32} : am_cat [.int x] ≤ 8 := by
  show (1 : Nat) ≤ 8
  decide
theorem rc_len {k i : Nat} (hk : 1 ≤ k ∧ k ≤ 28) {st : List Value} (hs : am_cat st ≤ 8) : am_c (.invokevirtual i) 255 1 (.float (UInt32.ofNat k) :: st) (mm I J A) = some (255, [.float (UInt32.ofNat k)], st) := by
  have hr : am_rec (mm I J A) 255 [.float (UInt32.ofNat k)] = true := by
    have hc : k = 1 ∨ k = 2 ∨ k = 3 ∨ k = 4 ∨ k = 5 ∨ k = 6 ∨ k = 7 ∨ k = 8 ∨ k = 9 ∨ k = 10 ∨ k = 11 ∨ k = 12 ∨ k = 13 ∨ k = 14 ∨ k = 15 ∨ k = 16 ∨ k = 17 ∨ k = 18 ∨ k = 19 ∨ k = 20 ∨ k = 21 ∨ k = 22 ∨ k = 23 ∨ k = 24 ∨ k = 25 ∨ k = 26 ∨ k = 27 ∨ k = 28 := by omega
    rcases hc with rfl | rfl | rfl | rfl | rfl | rfl | rfl | rfl | rfl | rfl | rfl | rfl | rfl | rfl | rfl | rfl | rfl | rfl | rfl | rfl | rfl | rfl | rfl | rfl | rfl | rfl | rfl | rfl <;> rfl
  unfold am_c
  have c : (255 : Nat) < 265 ∧ 1 ≤ (Value.float (UInt32.ofNat k) :: st).length ∧ am_cat ((Value.float (UInt32.ofNat k) :: st).drop 1) ≤ 8 ∧ am_cat ((Value.float (UInt32.ofNat k) :: st).take 1) ≤ am_ml 255 ∧ am_kd 255 = 0 ∧ am_rec (mm I J A) 255 ((Value.float (UInt32.ofNat k) :: st).take 1).reverse = true := ⟨by omega, by simp, hs, by show (1 : Nat) ≤ _; decide, by decide, hr⟩
  exact if_pos c
theorem rc_char {k i : Nat} (hk : 1 ≤ k ∧ k ≤ 28) {y : Int32} {st : List Value} (hs : am_cat st ≤ 8) : am_c (.invokevirtual i) 256 2 (.int y :: .float (UInt32.ofNat k) :: st) (mm I J A) = some (256, [.float (UInt32.ofNat k), .int y], st) := by
  have hr : am_rec (mm I J A) 256 [.float (UInt32.ofNat k), .int y] = true := by
    have hc : k = 1 ∨ k = 2 ∨ k = 3 ∨ k = 4 ∨ k = 5 ∨ k = 6 ∨ k = 7 ∨ k = 8 ∨ k = 9 ∨ k = 10 ∨ k = 11 ∨ k = 12 ∨ k = 13 ∨ k = 14 ∨ k = 15 ∨ k = 16 ∨ k = 17 ∨ k = 18 ∨ k = 19 ∨ k = 20 ∨ k = 21 ∨ k = 22 ∨ k = 23 ∨ k = 24 ∨ k = 25 ∨ k = 26 ∨ k = 27 ∨ k = 28 := by omega
    rcases hc with rfl | rfl | rfl | rfl | rfl | rfl | rfl | rfl | rfl | rfl | rfl | rfl | rfl | rfl | rfl | rfl | rfl | rfl | rfl | rfl | rfl | rfl | rfl | rfl | rfl | rfl | rfl | rfl <;> rfl
  unfold am_c
  have c : (256 : Nat) < 265 ∧ 2 ≤ (Value.int y :: Value.float (UInt32.ofNat k) :: st).length ∧ am_cat ((Value.int y :: Value.float (UInt32.ofNat k) :: st).drop 2) ≤ 8 ∧ am_cat ((Value.int y :: Value.float (UInt32.ofNat k) :: st).take 2) ≤ am_ml 256 ∧ am_kd 256 = 0 ∧ am_rec (mm I J A) 256 ((Value.int y :: Value.float (UInt32.ofNat k) :: st).take 2).reverse = true := ⟨by omega, by simp, hs, by show (2 : Nat) ≤ _; decide, by decide, hr⟩
  exact if_pos c
theorem m_stands {k : Nat} {u : UInt32} (hk : 1 ≤ k ∧ k ≤ 28) (h75 : txL k ≤ 75) (hT : TM I T t) (h28 : I 265 28 = iZ p) (hp : p ≤ 1000) (eu : u = UInt32.ofNat k) (h1 : stB T t k p = true → Q (some (.int 1)) (mm I J A)) (h0 : stB T t k p = false → Q (some (.int 0)) (mm I J A)) : wpC E (d + 4) 195 [.ref 265, .float u] (mm I J A) Q := by
  subst eu
  obtain ⟨t4, e27, hb⟩ := id hT
  have ge : p ≤ rex T t 97 122 p := by
    by_cases q : p ≤ t
    · exact (rex_b q).1.1
    · rw [rex_ge (by omega)]; exact Nat.le_refl _
  have le : rex T t 97 122 p ≤ 1000 := by
    by_cases q : p ≤ t
    · have := (rex_b (T := T) (lo := 97) (hi := 122) q).1.2; omega
    · rw [rex_ge (by omega)]; exact hp
  obtain ⟨e, he⟩ : ∃ e, e = rex T t 97 122 p := ⟨_, rfl⟩
  rw [← he] at ge le
  have et : p < e → e ≤ t := fun q => by
    by_cases q2 : p ≤ t
    · rw [he]; exact (rex_b q2).1.2
    · rw [he, rex_ge (by omega)] at q; omega
  -- the second loop
  have L2 : ∀ (n j : Nat) (b : Bool) (x3 x4 : Int32), j + n = txL k → (b = true → e - p = txL k ∧ ∀ i, i < j → T (p + i) = txC k i) → (b = false → stB T t k p = false) → x3 = iZ (tB b) → x4 = iZ j → wp E (d + 4) 195 63 [(0, .ref 265), (1, .float (UInt32.ofNat k)), (2, .int (iZ e)), (3, .int x3), (4, .int x4)] [] (mm I J A) Q := by
    intro n
    induction n with
    | zero =>
      intro j b x3 x4 hj hbt hbf e3 e4
      subst e3; subst e4
      have nb : narrow .boolean (.int (iZ (tB b))) = .int (iZ (tB b)) := by cases b <;> rfl
      refine wf (hs := [63]) 30 63 (by decide) (And.intro (rc_len hk cat1) (tx_len (d := d + 2) hk (wt (by ((try simp (disch := omega) only [z_i8, z_i16, z_of, z_ofN, z_lofN, z_0, z_1, z_m1, z_l0, z_l1, iZ_add, iZ_sub, iZ_mul, iZ_neg, lZ_add, lZ_sub, lZ_mul, lZ_neg, z_div, z_ldiv, z_l, z_i, z_lt, z_le, z_eq, z_llt, z_lle, z_leq, z_cgt, z_cge, z_clt, z_cle, z_ceq, z_cl, z_nat, Int.toNat_natCast, mm_I, mm_J, z_cln, z_abs, z_max, z_min, z_lmax, z_lmin, z_sin, Int.cast_ofNat_Int, uI_I, uI_J, uL_I, uL_J, uA_I, uA_J, sI_eq, sI_ne, sL_eq, sL_ne, up_eq, up_ne, uL_eq, uL_ne, z_toInt, Int.reduceToNat]) <;> omega)) (And.intro nb ?_))))
      cases b with
      | true =>
        refine h1 ?_
        obtain ⟨g1, g2⟩ := hbt rfl
        unfold stB
        rw [Bool.and_eq_true, List.all_eq_true]
        exact ⟨decide_eq_true (by rw [← he]; exact g1), fun i hi => decide_eq_true (g2 i (by have := List.mem_range.mp hi; omega))⟩
      | false => exact h0 (hbf rfl)
    | succ n ih =>
      intro j b x3 x4 hj hbt hbf e3 e4
      subst e3; subst e4
      refine wf (hs := [63]) 60 63 (by decide) (And.intro (rc_len hk cat1) (tx_len (d := d + 2) hk (wF (by ((try simp (disch := omega) only [z_i8, z_i16, z_of, z_ofN, z_lofN, z_0, z_1, z_m1, z_l0, z_l1, iZ_add, iZ_sub, iZ_mul, iZ_neg, lZ_add, lZ_sub, lZ_mul, lZ_neg, z_div, z_ldiv, z_l, z_i, z_lt, z_le, z_eq, z_llt, z_lle, z_leq, z_cgt, z_cge, z_clt, z_cle, z_ceq, z_cl, z_nat, Int.toNat_natCast, mm_I, mm_J, z_cln, z_abs, z_max, z_min, z_lmax, z_lmin, z_sin, Int.cast_ofNat_Int, uI_I, uI_J, uL_I, uL_J, uA_I, uA_J, sI_eq, sI_ne, sL_eq, sL_ne, up_eq, up_ne, uL_eq, uL_ne, z_toInt, Int.reduceToNat]) <;> omega)) ?_)))
      cases b with
      | false => exact wt rfl (And.intro rfl (h0 (hbf rfl)))
      | true =>
        obtain ⟨g1, g2⟩ := hbt rfl
        have pj : p + j < t := by have := et (by omega); omega
        have ea : I 265 28 + iZ (j : Int) = iZ ((p + j : Nat) : Int) := by rw [h28]; exact (iZ_add _ _).trans (by congr 1)
        have hin : vp_in (I 265 28 + iZ (j : Int)) 400 := by rw [ea]; exact z_in (by omega) (by omega) (by omega)
        have cl : (I 265 28 + iZ (j : Int)).toNatClampNeg = p + j := by rw [ea]; exact z_cln (by omega)
        have rj := (rex_b (T := T) (lo := 97) (hi := 122) (show p ≤ t by omega)).2.1 (p + j) (by omega) (by rw [← he]; omega)
        have ev : I 290 (I 265 28 + iZ (j : Int)).toNatClampNeg = iZ (T (p + j)) := by
          rw [cl, (hb (p + j) pj).2]
          congr 1
          unfold sgZ
          rw [if_pos (by omega)]
        have tc := (tx_by hk j).2.2
        refine wF (by decide) (And.intro hin (And.intro (rc_char hk cat1) (tx_char (d := d) hk (by omega) h75 rfl ?_)))
        by_cases c : T (p + j) = txC k j
        · have cc : I 290 (I 265 28 + iZ (j : Int)).toNatClampNeg = iZ (txC k j) := by rw [ev, c]
          refine wt cc ?_
          refine wp_keys [0, 1, 2, 3, 4] rfl rfl ?_
          refine ih (j + 1) true _ _ (by omega) (fun _ => ⟨g1, fun i hi => ?_⟩) (fun q => by cases q) rfl (iZ_add j 1)
          by_cases q : i = j
          · rw [q]; exact c
          · exact g2 i (by omega)
        · have cc : ¬ I 290 (I 265 28 + iZ (j : Int)).toNatClampNeg = iZ (txC k j) := by rw [ev]; ((try simp (disch := omega) only [z_i8, z_i16, z_of, z_ofN, z_lofN, z_0, z_1, z_m1, z_l0, z_l1, iZ_add, iZ_sub, iZ_mul, iZ_neg, lZ_add, lZ_sub, lZ_mul, lZ_neg, z_div, z_ldiv, z_l, z_i, z_lt, z_le, z_eq, z_llt, z_lle, z_leq, z_cgt, z_cge, z_clt, z_cle, z_ceq, z_cl, z_nat, Int.toNat_natCast, mm_I, mm_J, z_cln, z_abs, z_max, z_min, z_lmax, z_lmin, z_sin, Int.cast_ofNat_Int, uI_I, uI_J, uL_I, uL_J, uA_I, uA_J, sI_eq, sI_ne, sL_eq, sL_ne, up_eq, up_ne, uL_eq, uL_ne, z_toInt, Int.reduceToNat]) <;> omega)
          refine wF cc ?_
          refine wp_keys [0, 1, 2, 3, 4] rfl rfl ?_
          refine ih (j + 1) false _ _ (by omega) (fun q => by cases q) (fun _ => ?_) rfl (iZ_add j 1)
          unfold stB
          rw [Bool.and_eq_false_iff]
          refine Or.inr (Bool.eq_false_iff.mpr fun ha => c ?_)
          exact of_decide_eq_true (List.all_eq_true.mp ha j (List.mem_range.mpr (by omega)))
  have B41 : wp E (d + 4) 195 41 [(0, .ref 265), (1, .float (UInt32.ofNat k)), (2, .int (iZ e))] [] (mm I J A) Q := by
    have es : iZ (e : Int) - I 265 28 = iZ ((e - p : Nat) : Int) := by rw [h28]; exact (iZ_sub _ _).trans (by congr 1; omega)
    refine wf (hs := [63]) 40 41 (by decide) (And.intro (rc_len hk cat1) (tx_len (d := d + 2) hk ?_))
    by_cases c : e - p = txL k
    · have cc : iZ (e : Int) - I 265 28 = iZ (txL k : Nat) := by rw [es, c]
      refine wt cc ?_
      refine wp_keys [0, 1, 2, 3, 4] rfl rfl ?_
      exact L2 (txL k) 0 true _ _ (by omega) (fun _ => ⟨c, fun i hi => by omega⟩) (fun q => by cases q) rfl rfl
    · have cc : ¬ iZ (e : Int) - I 265 28 = iZ (txL k : Nat) := by rw [es]; ((try simp (disch := omega) only [z_i8, z_i16, z_of, z_ofN, z_lofN, z_0, z_1, z_m1, z_l0, z_l1, iZ_add, iZ_sub, iZ_mul, iZ_neg, lZ_add, lZ_sub, lZ_mul, lZ_neg, z_div, z_ldiv, z_l, z_i, z_lt, z_le, z_eq, z_llt, z_lle, z_leq, z_cgt, z_cge, z_clt, z_cle, z_ceq, z_cl, z_nat, Int.toNat_natCast, mm_I, mm_J, z_cln, z_abs, z_max, z_min, z_lmax, z_lmin, z_sin, Int.cast_ofNat_Int, uI_I, uI_J, uL_I, uL_J, uA_I, uA_J, sI_eq, sI_ne, sL_eq, sL_ne, up_eq, up_ne, uL_eq, uL_ne, z_toInt, Int.reduceToNat]) <;> omega)
      refine wF cc ?_
      refine wp_keys [0, 1, 2, 3, 4] rfl rfl ?_
      refine L2 (txL k) 0 false _ _ (by omega) (fun q => by cases q) (fun _ => ?_) rfl rfl
      unfold stB
      rw [Bool.and_eq_false_iff]
      exact Or.inl (decide_eq_false (by rw [← he]; exact c))
  have L1 : ∀ (n q : Nat) (x2 : Int32), (q + n = t ∨ (t ≤ q ∧ n = 0)) → q ≤ 1000 → rex T t 97 122 q = e → x2 = iZ q → wp E (d + 4) 195 5 [(0, .ref 265), (1, .float (UInt32.ofNat k)), (2, .int x2)] [] (mm I J A) Q := by
    intro n
    induction n with
    | zero =>
      intro q x2 hq h10 hr e2
      subst e2
      rw [rex_ge (by omega)] at hr
      have c0 : I 265 27 ≤ iZ (q : Int) := by rw [e27]; ((try simp (disch := omega) only [z_i8, z_i16, z_of, z_ofN, z_lofN, z_0, z_1, z_m1, z_l0, z_l1, iZ_add, iZ_sub, iZ_mul, iZ_neg, lZ_add, lZ_sub, lZ_mul, lZ_neg, z_div, z_ldiv, z_l, z_i, z_lt, z_le, z_eq, z_llt, z_lle, z_leq, z_cgt, z_cge, z_clt, z_cle, z_ceq, z_cl, z_nat, Int.toNat_natCast, mm_I, mm_J, z_cln, z_abs, z_max, z_min, z_lmax, z_lmin, z_sin, Int.cast_ofNat_Int, uI_I, uI_J, uL_I, uL_J, uA_I, uA_J, sI_eq, sI_ne, sL_eq, sL_ne, up_eq, up_ne, uL_eq, uL_ne, z_toInt, Int.reduceToNat]) <;> omega)
      have B := B41
      rw [← hr] at B
      exact wf (hs := [5, 41]) 20 5 (by decide) (wt c0 B)
    | succ n ih =>
      intro q x2 hq h10 hr e2
      subst e2
      have qt : q < t := by omega
      obtain ⟨b1, b2⟩ := hb q qt
      have cl : (iZ (q : Int)).toNatClampNeg = q := z_cln (by omega)
      have hin : vp_in (iZ (q : Int)) 400 := z_in (by omega) (by omega) (by omega)
      have ev : I 290 (iZ (q : Int)).toNatClampNeg = iZ (sgZ (T q)) := by rw [cl]; exact b2
      have sb : -128 ≤ sgZ (T q) ∧ sgZ (T q) ≤ 127 := by unfold sgZ; split <;> omega
      have c0 : ¬ I 265 27 ≤ iZ (q : Int) := by rw [e27]; ((try simp (disch := omega) only [z_i8, z_i16, z_of, z_ofN, z_lofN, z_0, z_1, z_m1, z_l0, z_l1, iZ_add, iZ_sub, iZ_mul, iZ_neg, lZ_add, lZ_sub, lZ_mul, lZ_neg, z_div, z_ldiv, z_l, z_i, z_lt, z_le, z_eq, z_llt, z_lle, z_leq, z_cgt, z_cge, z_clt, z_cle, z_ceq, z_cl, z_nat, Int.toNat_natCast, mm_I, mm_J, z_cln, z_abs, z_max, z_min, z_lmax, z_lmin, z_sin, Int.cast_ofNat_Int, uI_I, uI_J, uL_I, uL_J, uA_I, uA_J, sI_eq, sI_ne, sL_eq, sL_ne, up_eq, up_ne, uL_eq, uL_ne, z_toInt, Int.reduceToNat]) <;> omega)
      rw [rex_lt qt] at hr
      have O : ¬ (97 ≤ T q ∧ T q ≤ 122) → wp E (d + 4) 195 41 [(0, .ref 265), (1, .float (UInt32.ofNat k)), (2, .int (iZ q))] [] (mm I J A) Q := fun g => by
        rw [if_neg g] at hr
        have B := B41
        rw [← hr] at B
        exact B
      refine wf (hs := [5, 41]) 40 5 (by decide) (wF c0 (And.intro hin (And.intro (fun g => ?_) (fun g => ?_))))
      · have g : I 290 (iZ (q : Int)).toNatClampNeg < iZ 97 := g
        rw [ev] at g
        simp (disch := omega) only [z_i8, z_i16, z_of, z_ofN, z_lofN, z_0, z_1, z_m1, z_l0, z_l1, iZ_add, iZ_sub, iZ_mul, iZ_neg, lZ_add, lZ_sub, lZ_mul, lZ_neg, z_div, z_ldiv, z_l, z_i, z_lt, z_le, z_eq, z_llt, z_lle, z_leq, z_cgt, z_cge, z_clt, z_cle, z_ceq, z_cl, z_nat, Int.toNat_natCast, mm_I, mm_J, z_cln, z_abs, z_max, z_min, z_lmax, z_lmin, z_sin, Int.cast_ofNat_Int, uI_I, uI_J, uL_I, uL_J, uA_I, uA_J, sI_eq, sI_ne, sL_eq, sL_ne, up_eq, up_ne, uL_eq, uL_ne, z_toInt, Int.reduceToNat] at g
        refine O (fun x => ?_)
        unfold sgZ at g
        split at g <;> omega
      · have g : ¬ I 290 (iZ (q : Int)).toNatClampNeg < iZ 97 := g
        rw [ev] at g
        simp (disch := omega) only [z_i8, z_i16, z_of, z_ofN, z_lofN, z_0, z_1, z_m1, z_l0, z_l1, iZ_add, iZ_sub, iZ_mul, iZ_neg, lZ_add, lZ_sub, lZ_mul, lZ_neg, z_div, z_ldiv, z_l, z_i, z_lt, z_le, z_eq, z_llt, z_lle, z_leq, z_cgt, z_cge, z_clt, z_cle, z_ceq, z_cl, z_nat, Int.toNat_natCast, mm_I, mm_J, z_cln, z_abs, z_max, z_min, z_lmax, z_lmin, z_sin, Int.cast_ofNat_Int, uI_I, uI_J, uL_I, uL_J, uA_I, uA_J, sI_eq, sI_ne, sL_eq, sL_ne, up_eq, up_ne, uL_eq, uL_ne, z_toInt, Int.reduceToNat] at g
        refine And.intro hin (And.intro (fun g2 => ?_) (fun g2 => ?_))
        · have g2 : iZ 122 < I 290 (iZ (q : Int)).toNatClampNeg := g2
          rw [ev] at g2
          simp (disch := omega) only [z_i8, z_i16, z_of, z_ofN, z_lofN, z_0, z_1, z_m1, z_l0, z_l1, iZ_add, iZ_sub, iZ_mul, iZ_neg, lZ_add, lZ_sub, lZ_mul, lZ_neg, z_div, z_ldiv, z_l, z_i, z_lt, z_le, z_eq, z_llt, z_lle, z_leq, z_cgt, z_cge, z_clt, z_cle, z_ceq, z_cl, z_nat, Int.toNat_natCast, mm_I, mm_J, z_cln, z_abs, z_max, z_min, z_lmax, z_lmin, z_sin, Int.cast_ofNat_Int, uI_I, uI_J, uL_I, uL_J, uA_I, uA_J, sI_eq, sI_ne, sL_eq, sL_ne, up_eq, up_ne, uL_eq, uL_ne, z_toInt, Int.reduceToNat] at g2
          refine O (fun x => ?_)
          unfold sgZ at g2
          split at g2 <;> omega
        · have g2 : ¬ iZ 122 < I 290 (iZ (q : Int)).toNatClampNeg := g2
          rw [ev] at g2
          simp (disch := omega) only [z_i8, z_i16, z_of, z_ofN, z_lofN, z_0, z_1, z_m1, z_l0, z_l1, iZ_add, iZ_sub, iZ_mul, iZ_neg, lZ_add, lZ_sub, lZ_mul, lZ_neg, z_div, z_ldiv, z_l, z_i, z_lt, z_le, z_eq, z_llt, z_lle, z_leq, z_cgt, z_cge, z_clt, z_cle, z_ceq, z_cl, z_nat, Int.toNat_natCast, mm_I, mm_J, z_cln, z_abs, z_max, z_min, z_lmax, z_lmin, z_sin, Int.cast_ofNat_Int, uI_I, uI_J, uL_I, uL_J, uA_I, uA_J, sI_eq, sI_ne, sL_eq, sL_ne, up_eq, up_ne, uL_eq, uL_ne, z_toInt, Int.reduceToNat] at g2
          have gg : 97 ≤ T q ∧ T q ≤ 122 := by
            unfold sgZ at g g2
            split at g <;> omega
          rw [if_pos gg] at hr
          refine wp_keys [0, 1, 2] rfl rfl ?_
          exact ih (q + 1) _ (by omega) (by omega) hr (iZ_add q 1)
  refine wc (hs := [5]) 20 (by decide) ?_
  refine wp_keys [0, 1, 2] rfl rfl ?_
  exact L1 (t - p) p _ (by omega) hp he.symm h28
end MLEX
