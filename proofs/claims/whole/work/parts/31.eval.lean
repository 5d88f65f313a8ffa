/-! ===== a plan's code: words, signs, the row of values ===== -/
theorem z_toInt {z : Int} (h1 : -2147483648 ≤ z) (h2 : z ≤ 2147483647) : (iZ z).toInt = z := iZ_toInt ⟨h1, h2⟩
theorem tb_none {x : Int} {jp : Int → Prop} : ∀ (os : List Int) (v : Int), (x < v ∨ v + os.length ≤ x) → wx_tb x jp v os := by
  intro os
  induction os with
  | nil => intro v _; exact trivial
  | cons o os ih =>
    intro v h
    simp only [List.length_cons] at h
    exact ⟨fun q => by omega, ih (v + 1) (by omega)⟩
theorem tb_one {x : Int} {jp : Int → Prop} : ∀ (os : List Int) (v : Int) (i : Nat) {o : Int}, x = v + i → os[i]? = some o → jp o → wx_tb x jp v os := by
  intro os
  induction os with
  | nil => intro v i o _ h; cases h
  | cons a os ih =>
    intro v i o hx ho h
    cases i with
    | zero => cases ho; exact ⟨fun _ => h, tb_none os (v + 1) (Or.inl (by omega))⟩
    | succ i => exact ⟨fun q => by omega, ih (v + 1) i (by omega) ho h⟩
/-- a table: the way of one number -/
theorem wtb {P : Prop} {x : Int} {jp : Int → Prop} {os : Array Int} {v hi : Int} (i : Nat) {o : Int} (hx : x = v + i) (hs : v + os.size = hi + 1) (ho : os.toList[i]? = some o) (h : jp o) : (x < v ∨ hi < x → P) ∧ v + os.size = hi + 1 ∧ wx_tb x jp v os.toList :=
  ⟨fun q => by
    have := (List.getElem?_eq_some_iff.mp ho).1
    rw [Array.length_toList] at this
    omega, hs, tb_one _ _ i hx ho h⟩
theorem wtd {P : Prop} {x : Int} {jp : Int → Prop} {os : Array Int} {v hi : Int} (hx : x < v ∨ hi < x) (hs : v + os.size = hi + 1) (h : P) : (x < v ∨ hi < x → P) ∧ v + os.size = hi + 1 ∧ wx_tb x jp v os.toList :=
  ⟨fun _ => h, hs, tb_none _ _ (by rw [Array.length_toList]; omega)⟩
def jnL (x : Int) (a b : Int64) : Int64 :=
  if x = 27 then a + b else if x = 28 then a - b else if x = 29 then a * b else if x = 30 then (if b = 0 then 0 else a / b)
  else if x = 31 then (if a < b then 1 else 0) else if x = 32 then (if a ≤ b then 1 else 0) else if x = 33 then (if a = b then 1 else 0)
  else if x = 34 then (if b ≤ a then 1 else 0) else if x = 35 then (if b < a then 1 else 0) else if x = 24 then a &&& b else if x = 25 then a ||| b else 0
/-- a sign of the class's as the reference has it -/
def smp (x : Int) : Int := if x = 24 then 10 else if x = 25 then 11 else if x = 26 then 9 else if x = 27 then 2 else if x = 28 then 3 else if x = 29 then 13 else if x = 30 then 14 else x - 27
def wrdZ (v : am_V) (x : Int) : Int := if x < 12 then (if x < nP v then v 276 x.toNat else 0) else if x = 12 then (v 266 7).natAbs else if x = 13 then (if 0 < v 266 7 then 1 else if v 266 7 < 0 then -1 else 0) else if x = 14 then v 266 8 else if x = 15 then drZ v else if x = 16 then v 266 6 else if x = 17 then totZ v 0 else if x = 18 then stfZ v 0 0 else x - 100
def stpL (w : Int → Int64) (x : Int) (st : List Int64) : List Int64 :=
  if 18 < x ∧ x < 100 then (if x = 26 then (match st with
    | a :: s => (1 - a) :: s
    | [] => []) else (match st with
    | b :: a :: s => jnL x a b :: s
    | s => s)) else w x :: st
def evN (w : Int → Int64) (c : Nat → Int) : Nat → Nat → List Int64 → List Int64
  | 0, _, st => st
  | n + 1, i, st => evN w c n (i + 1) (stpL w (c i) st)
/-- a code that can be computed, with so many values standing -/
def okN (c : Nat → Int) : Nat → Nat → Nat → Prop
  | 0, _, k => k = 1
  | n + 1, i, k => (((0 ≤ c i ∧ c i ≤ 18) ∨ (100 ≤ c i ∧ c i ≤ 100099)) ∧ k < 60 ∧ okN c n (i + 1) (k + 1)) ∨ (c i = 26 ∧ 1 ≤ k ∧ okN c n (i + 1) k) ∨ ((24 ≤ c i ∧ c i ≤ 35 ∧ c i ≠ 26) ∧ 2 ≤ k ∧ okN c n (i + 1) (k - 1))
theorem evN_congr {w : Int → Int64} {c c' : Nat → Int} : ∀ (n i : Nat) (st : List Int64), (∀ j, i ≤ j → j < i + n → c j = c' j) → evN w c n i st = evN w c' n i st := by
  intro n
  induction n with
  | zero => intro i st _; rfl
  | succ n ih =>
    intro i st h
    show evN w c n (i + 1) _ = evN w c' n (i + 1) _
    rw [h i (by omega) (by omega)]
    exact ih (i + 1) _ (fun j h1 h2 => h j (by omega) (by omega))
theorem okN_congr {c c' : Nat → Int} : ∀ (n i k : Nat), (∀ j, i ≤ j → j < i + n → c j = c' j) → okN c n i k → okN c' n i k := by
  intro n
  induction n with
  | zero => intro i k _ h; exact h
  | succ n ih =>
    intro i k h ho
    have e := h i (by omega) (by omega)
    have ih' := fun k' => ih (i + 1) k' (fun j h1 h2 => h j (by omega) (by omega))
    unfold okN at ho ⊢
    rw [← e]
    rcases ho with ⟨a, b, c⟩ | ⟨a, b, c⟩ | ⟨a, b, c⟩
    · exact Or.inl ⟨a, b, ih' _ c⟩
    · exact Or.inr (Or.inl ⟨a, b, ih' _ c⟩)
    · exact Or.inr (Or.inr ⟨a, b, ih' _ c⟩)
/-- the row of values in the memory -/
def SK (J : Nat → Nat → Int64) (σ : Nat) (st : List Int64) : Prop := ∀ i, i < st.length → J σ i = st.getD (st.length - 1 - i) 0
theorem SK_nil {J : Nat → Nat → Int64} {σ : Nat} : SK J σ [] := fun i h => by simp at h
theorem SK_tl {J : Nat → Nat → Int64} {σ : Nat} {a : Int64} {s : List Int64} (h : SK J σ (a :: s)) : SK J σ s ∧ J σ s.length = a := by
  refine ⟨fun i hi => ?_, ?_⟩
  · have := h i (by simp only [List.length_cons]; omega)
    simp only [List.length_cons] at this
    rw [this, show s.length + 1 - 1 - i = (s.length - 1 - i) + 1 by omega]
    rfl
  · have := h s.length (by simp only [List.length_cons]; omega)
    simp only [List.length_cons] at this
    rw [this, show s.length + 1 - 1 - s.length = 0 by omega]
    rfl
theorem SK_put {J : Nat → Nat → Int64} {σ : Nat} {y : Int64} {s : List Int64} (h : SK J σ s) : SK (setL J σ s.length y) σ (y :: s) := by
  intro i hi
  simp only [List.length_cons] at hi ⊢
  rw [setL_at]
  by_cases hs : i = s.length
  · rw [if_pos ⟨rfl, hs⟩, show s.length + 1 - 1 - i = 0 by omega]; rfl
  · rw [if_neg (fun q => hs q.2), h i (by omega), show s.length + 1 - 1 - i = (s.length - 1 - i) + 1 by omega]; rfl
theorem SK_eq {J J' : Nat → Nat → Int64} {σ : Nat} {s : List Int64} (h : SK J σ s) (e : J' σ = J σ) : SK J' σ s := by
  unfold SK at h ⊢
  rw [e]; exact h
section C9
variable {E : Nat × (Nat → Int32)} {d : Nat} {I : Nat → Nat → Int32} {J : Nat → Nat → Int64} {A : Nat → Option Nat} {Q : Option Value → am_M → Prop} {M : am_M} {β b : Nat} {v : am_V} {mw mu mom : Int}
theorem c_joined {x : Int} {y : Int32} {a b : Int64} (hx : 24 ≤ x ∧ x ≤ 35 ∧ x ≠ 26) (ey : y = iZ x) (hQ : Q (some (.long (jnL x a b))) M) : wpC E d 64 [.int y, .long a, .long b] M Q := by
  have hc : x = 24 ∨ x = 25 ∨ x = 27 ∨ x = 28 ∨ x = 29 ∨ x = 30 ∨ x = 31 ∨ x = 32 ∨ x = 33 ∨ x = 34 ∨ x = 35 := by omega
  subst ey
  rcases hc with rfl | rfl | rfl | rfl | rfl | rfl | rfl | rfl | rfl | rfl | rfl
  · exact wc (hs := []) 20 (by decide) (wtb 0 rfl rfl rfl hQ)
  · exact wc (hs := []) 20 (by decide) (wtb 1 rfl rfl rfl hQ)
  · exact wc (hs := []) 20 (by decide) (wtb 3 rfl rfl rfl hQ)
  · exact wc (hs := []) 20 (by decide) (wtb 4 rfl rfl rfl hQ)
  · exact wc (hs := []) 20 (by decide) (wtb 5 rfl rfl rfl hQ)
  · refine wc (hs := []) 20 (by decide) (wtb 6 rfl rfl rfl ?_)
    refine And.intro (fun q => ?_) (fun q => ?_)
    · refine q_l hQ ?_
      have q : b = 0 := (lg_cmp_eq _ _).mp q
      show (0 : Int64) = if b = 0 then 0 else a / b
      rw [if_pos q]
    · have q : ¬ b = 0 := fun r => q ((lg_cmp_eq _ _).mpr r)
      refine And.intro q (q_l hQ ?_)
      show a / b = if b = 0 then 0 else a / b
      rw [if_neg q]
  · refine wc (hs := []) 20 (by decide) (wtb 7 rfl rfl rfl ?_)
    refine And.intro (fun q => ?_) (fun q => ?_)
    · refine q_l hQ ?_
      show (0 : Int64) = if a < b then 1 else 0
      rw [if_neg (Int64.not_lt.mpr ((lg_cmp_ge _ _).mp q))]
    · refine q_l hQ ?_
      show (1 : Int64) = if a < b then 1 else 0
      rw [if_pos (Int64.not_le.mp fun r => q ((lg_cmp_ge _ _).mpr r))]
  · refine wc (hs := []) 20 (by decide) (wtb 8 rfl rfl rfl ?_)
    refine And.intro (fun q => ?_) (fun q => ?_)
    · refine q_l hQ ?_
      show (0 : Int64) = if a ≤ b then 1 else 0
      rw [if_neg (Int64.not_le.mpr ((lg_cmp_gt _ _).mp q))]
    · refine q_l hQ ?_
      show (1 : Int64) = if a ≤ b then 1 else 0
      rw [if_pos (Int64.not_lt.mp fun r => q ((lg_cmp_gt _ _).mpr r))]
  · refine wc (hs := []) 20 (by decide) (wtb 9 rfl rfl rfl ?_)
    refine And.intro (fun q => ?_) (fun q => ?_)
    · refine q_l hQ ?_
      show (1 : Int64) = if a = b then 1 else 0
      rw [if_pos ((lg_cmp_eq _ _).mp q)]
    · refine q_l hQ ?_
      show (0 : Int64) = if a = b then 1 else 0
      rw [if_neg (fun r => q ((lg_cmp_eq _ _).mpr r))]
  · refine wc (hs := []) 20 (by decide) (wtb 10 rfl rfl rfl ?_)
    refine And.intro (fun q => ?_) (fun q => ?_)
    · refine q_l hQ ?_
      show (0 : Int64) = if b ≤ a then 1 else 0
      rw [if_neg (Int64.not_le.mpr ((lg_cmp_lt _ _).mp q))]
    · refine q_l hQ ?_
      show (1 : Int64) = if b ≤ a then 1 else 0
      rw [if_pos (Int64.not_lt.mp fun r => q ((lg_cmp_lt _ _).mpr r))]
  · refine wc (hs := []) 20 (by decide) (wtb 11 rfl rfl rfl ?_)
    refine And.intro (fun q => ?_) (fun q => ?_)
    · refine q_l hQ ?_
      show (0 : Int64) = if b < a then 1 else 0
      rw [if_neg (Int64.not_lt.mpr ((lg_cmp_le _ _).mp q))]
    · refine q_l hQ ?_
      show (1 : Int64) = if b < a then 1 else 0
      rw [if_pos (Int64.not_le.mp fun r => q ((lg_cmp_le _ _).mpr r))]
theorem m_truth {y : Int32} (h1 : y = 1 → Q (some (.long 1)) M) (h0 : y = 0 → Q (some (.long 0)) M) (hy : y = 1 ∨ y = 0) : wpC E d 214 [.int y] M Q := by
  rcases hy with rfl | rfl
  · exact wc (hs := []) 20 (by decide) (wF (by decide) (h1 rfl))
  · exact wc (hs := []) 20 (by decide) (wt rfl (h0 rfl))
theorem m_both {x : Int} {y : Int32} {a b : Int64} (hx : 24 ≤ x ∧ x ≤ 35 ∧ x ≠ 26) (ey : y = iZ (smp x)) (hQ : Q (some (.long (jnL x a b))) M) : wpC E (d + 1) 215 [.int y, .long a, .long b] M Q := by
  have hc : x = 24 ∨ x = 25 ∨ x = 27 ∨ x = 28 ∨ x = 29 ∨ x = 30 ∨ x = 31 ∨ x = 32 ∨ x = 33 ∨ x = 34 ∨ x = 35 := by omega
  subst ey
  rcases hc with rfl | rfl | rfl | rfl | rfl | rfl | rfl | rfl | rfl | rfl | rfl
  · exact wc (hs := []) 20 (by decide) (wtb 8 rfl rfl rfl hQ)
  · exact wc (hs := []) 20 (by decide) (wtb 9 rfl rfl rfl hQ)
  · exact wc (hs := []) 20 (by decide) (wtb 0 rfl rfl rfl hQ)
  · exact wc (hs := []) 20 (by decide) (wtb 1 rfl rfl rfl hQ)
  · exact wc (hs := []) 20 (by decide) (wtb 11 rfl rfl rfl hQ)
  · refine wc (hs := []) 20 (by decide) (wtb 12 rfl rfl rfl ?_)
    refine And.intro (fun q => ?_) (fun q => ?_)
    · refine q_l hQ ?_
      have q : b = 0 := (lg_cmp_eq _ _).mp q
      show (0 : Int64) = if b = 0 then 0 else a / b
      rw [if_pos q]
    · have q : ¬ b = 0 := fun r => q ((lg_cmp_eq _ _).mpr r)
      refine And.intro q (q_l hQ ?_)
      show a / b = if b = 0 then 0 else a / b
      rw [if_neg q]
  · refine wc (hs := []) 20 (by decide) (wtb 2 rfl rfl rfl ?_)
    refine And.intro (fun q => ?_) (fun q => ?_)
    · refine And.intro rfl (m_truth (fun q => by cases q) (fun _ => ?_) (Or.inr rfl))
      refine q_l hQ ?_
      show (0 : Int64) = if a < b then 1 else 0
      rw [if_neg (Int64.not_lt.mpr ((lg_cmp_ge _ _).mp q))]
    · refine And.intro rfl (m_truth (fun _ => ?_) (fun q => by cases q) (Or.inl rfl))
      refine q_l hQ ?_
      show (1 : Int64) = if a < b then 1 else 0
      rw [if_pos (Int64.not_le.mp fun r => q ((lg_cmp_ge _ _).mpr r))]
  · refine wc (hs := []) 20 (by decide) (wtb 3 rfl rfl rfl ?_)
    refine And.intro (fun q => ?_) (fun q => ?_)
    · refine And.intro rfl (m_truth (fun q => by cases q) (fun _ => ?_) (Or.inr rfl))
      refine q_l hQ ?_
      show (0 : Int64) = if a ≤ b then 1 else 0
      rw [if_neg (Int64.not_le.mpr ((lg_cmp_gt _ _).mp q))]
    · refine And.intro rfl (m_truth (fun _ => ?_) (fun q => by cases q) (Or.inl rfl))
      refine q_l hQ ?_
      show (1 : Int64) = if a ≤ b then 1 else 0
      rw [if_pos (Int64.not_lt.mp fun r => q ((lg_cmp_gt _ _).mpr r))]
  · refine wc (hs := []) 20 (by decide) (wtb 4 rfl rfl rfl ?_)
    refine And.intro (fun q => ?_) (fun q => ?_)
    · refine And.intro rfl (m_truth (fun _ => ?_) (fun q => by cases q) (Or.inl rfl))
      refine q_l hQ ?_
      show (1 : Int64) = if a = b then 1 else 0
      rw [if_pos ((lg_cmp_eq _ _).mp q)]
    · refine And.intro rfl (m_truth (fun q => by cases q) (fun _ => ?_) (Or.inr rfl))
      refine q_l hQ ?_
      show (0 : Int64) = if a = b then 1 else 0
      rw [if_neg (fun r => q ((lg_cmp_eq _ _).mpr r))]
  · refine wc (hs := []) 20 (by decide) (wtb 5 rfl rfl rfl ?_)
    refine And.intro (fun q => ?_) (fun q => ?_)
    · refine And.intro rfl (m_truth (fun q => by cases q) (fun _ => ?_) (Or.inr rfl))
      refine q_l hQ ?_
      show (0 : Int64) = if b ≤ a then 1 else 0
      rw [if_neg (Int64.not_le.mpr ((lg_cmp_lt _ _).mp q))]
    · refine And.intro rfl (m_truth (fun _ => ?_) (fun q => by cases q) (Or.inl rfl))
      refine q_l hQ ?_
      show (1 : Int64) = if b ≤ a then 1 else 0
      rw [if_pos (Int64.not_lt.mp fun r => q ((lg_cmp_lt _ _).mpr r))]
  · refine wc (hs := []) 20 (by decide) (wtb 6 rfl rfl rfl ?_)
    refine And.intro (fun q => ?_) (fun q => ?_)
    · refine And.intro rfl (m_truth (fun q => by cases q) (fun _ => ?_) (Or.inr rfl))
      refine q_l hQ ?_
      show (0 : Int64) = if b < a then 1 else 0
      rw [if_neg (Int64.not_lt.mpr ((lg_cmp_le _ _).mp q))]
    · refine And.intro rfl (m_truth (fun _ => ?_) (fun q => by cases q) (Or.inl rfl))
      refine q_l hQ ?_
      show (1 : Int64) = if b < a then 1 else 0
      rw [if_pos (Int64.not_le.mp fun r => q ((lg_cmp_le _ _).mpr r))]
theorem c_worth {x : Int} {y : Int32} (hb : B5 b) (hR : RS I J b v) (hW : Wf v) (hx : 0 ≤ x ∧ x ≤ 17) (ey : y = iZ x) (hQ : Q (some (.long (lZ (wrdZ v x)))) (mm I J A)) : wpC E (d + 2) 63 [.ref b, .int y] (mm I J A) Q := by
  have h12 := nP12 hW
  obtain ⟨⟨r0, r1, r2, r3, r4, r5, r6, r7, r8, r9⟩, ra, ⟨rp0, rp, rw0⟩, -⟩ := id hR
  have tt := totB hW (mw := 0) ⟨by omega, by omega⟩
  have db := drB hW
  obtain ⟨w1, w2, w3, w4, w5, w6, w7, w8, -⟩ := id hW.1
  subst ey
  rcases id hb with rfl | rfl | rfl | rfl | rfl
  all_goals (
    by_cases h : x < 12
    · refine wc (hs := []) 40 (by decide) (wtd ?_ rfl ?_)
      · rw [iZ_toInt ⟨by omega, by omega⟩]; omega
      refine wF (by ((try simp (disch := omega) only [z_i8, z_i16, z_of, z_ofN, z_lofN, z_0, z_1, z_m1, z_l0, z_l1, iZ_add, iZ_sub, iZ_mul, iZ_neg, lZ_add, lZ_sub, lZ_mul, lZ_neg, z_div, z_ldiv, z_l, z_i, z_lt, z_le, z_eq, z_llt, z_lle, z_leq, z_cgt, z_cge, z_clt, z_cle, z_ceq, z_cl, z_nat, Int.toNat_natCast, mm_I, mm_J, z_cln, z_abs, z_max, z_min, z_lmax, z_lmin, z_sin, Int.cast_ofNat_Int, uI_I, uI_J, uL_I, uL_J, uA_I, uA_J, sI_eq, sI_ne, sL_eq, sL_ne, up_eq, up_ne, uL_eq, uL_ne, z_toInt]) <;> omega)) ?_
      refine And.intro (fun q => ?_) (fun q => ?_)
      · simp only [Nat.reduceAdd] at rp0
        simp (disch := omega) only [z_i8, z_i16, z_of, z_ofN, z_lofN, z_0, z_1, z_m1, z_l0, z_l1, iZ_add, iZ_sub, iZ_mul, iZ_neg, lZ_add, lZ_sub, lZ_mul, lZ_neg, z_div, z_ldiv, z_l, z_i, z_lt, z_le, z_eq, z_llt, z_lle, z_leq, z_cgt, z_cge, z_clt, z_cle, z_ceq, z_cl, z_nat, Int.toNat_natCast, mm_I, mm_J, z_cln, z_abs, z_max, z_min, z_lmax, z_lmin, z_sin, Int.cast_ofNat_Int, uI_I, uI_J, uL_I, uL_J, uA_I, uA_J, sI_eq, sI_ne, sL_eq, sL_ne, up_eq, up_ne, uL_eq, uL_ne, z_toInt, rp0] at q
        refine q_l hQ ?_
        unfold wrdZ
        rw [if_pos h, if_neg (by omega)]
        rfl
      · simp only [Nat.reduceAdd] at rp0
        simp (disch := omega) only [z_i8, z_i16, z_of, z_ofN, z_lofN, z_0, z_1, z_m1, z_l0, z_l1, iZ_add, iZ_sub, iZ_mul, iZ_neg, lZ_add, lZ_sub, lZ_mul, lZ_neg, z_div, z_ldiv, z_l, z_i, z_lt, z_le, z_eq, z_llt, z_lle, z_leq, z_cgt, z_cge, z_clt, z_cle, z_ceq, z_cl, z_nat, Int.toNat_natCast, mm_I, mm_J, z_cln, z_abs, z_max, z_min, z_lmax, z_lmin, z_sin, Int.cast_ofNat_Int, uI_I, uI_J, uL_I, uL_J, uA_I, uA_J, sI_eq, sI_ne, sL_eq, sL_ne, up_eq, up_ne, uL_eq, uL_ne, z_toInt, rp0] at q
        refine And.intro (z_in (by omega) (by omega) (by omega)) ?_
        have hk : x.toNat < nP v := by omega
        have e8 := (rp x.toNat hk).2.2.2.2.2.2.2.1
        have w := hW.2.2.1 x.toNat hk
        have cb := (capB w).2.2
        have w6 := w.2.2.2.2.2.2
        simp only [Nat.reduceAdd] at e8
        refine q_l hQ ?_
        unfold wrdZ
        rw [if_pos h, if_pos (by omega)]
        simp (disch := omega) only [z_i8, z_i16, z_of, z_ofN, z_lofN, z_0, z_1, z_m1, z_l0, z_l1, iZ_add, iZ_sub, iZ_mul, iZ_neg, lZ_add, lZ_sub, lZ_mul, lZ_neg, z_div, z_ldiv, z_l, z_i, z_lt, z_le, z_eq, z_llt, z_lle, z_leq, z_cgt, z_cge, z_clt, z_cle, z_ceq, z_cl, z_nat, Int.toNat_natCast, mm_I, mm_J, z_cln, z_abs, z_max, z_min, z_lmax, z_lmin, z_sin, Int.cast_ofNat_Int, uI_I, uI_J, uL_I, uL_J, uA_I, uA_J, sI_eq, sI_ne, sL_eq, sL_ne, up_eq, up_ne, uL_eq, uL_ne, z_toInt, e8]
    · have hc : x = 12 ∨ x = 13 ∨ x = 14 ∨ x = 15 ∨ x = 16 ∨ x = 17 := by omega
      clear hx h
      rcases hc with rfl | rfl | rfl | rfl | rfl | rfl
      · refine wc (hs := []) 40 (by decide) (wtb 0 rfl rfl rfl ?_)
        refine q_l hQ ?_
        show _ = lZ ((v 266 7).natAbs : Int)
        simp (disch := omega) only [z_i8, z_i16, z_of, z_ofN, z_lofN, z_0, z_1, z_m1, z_l0, z_l1, iZ_add, iZ_sub, iZ_mul, iZ_neg, lZ_add, lZ_sub, lZ_mul, lZ_neg, z_div, z_ldiv, z_l, z_i, z_lt, z_le, z_eq, z_llt, z_lle, z_leq, z_cgt, z_cge, z_clt, z_cle, z_ceq, z_cl, z_nat, Int.toNat_natCast, mm_I, mm_J, z_cln, z_abs, z_max, z_min, z_lmax, z_lmin, z_sin, Int.cast_ofNat_Int, uI_I, uI_J, uL_I, uL_J, uA_I, uA_J, sI_eq, sI_ne, sL_eq, sL_ne, up_eq, up_ne, uL_eq, uL_ne, z_toInt, r7]
      · refine wc (hs := []) 40 (by decide) (wtb 1 rfl rfl rfl ?_)
        refine And.intro (fun q => ?_) (fun q => ?_)
        · simp (disch := omega) only [z_i8, z_i16, z_of, z_ofN, z_lofN, z_0, z_1, z_m1, z_l0, z_l1, iZ_add, iZ_sub, iZ_mul, iZ_neg, lZ_add, lZ_sub, lZ_mul, lZ_neg, z_div, z_ldiv, z_l, z_i, z_lt, z_le, z_eq, z_llt, z_lle, z_leq, z_cgt, z_cge, z_clt, z_cle, z_ceq, z_cl, z_nat, Int.toNat_natCast, mm_I, mm_J, z_cln, z_abs, z_max, z_min, z_lmax, z_lmin, z_sin, Int.cast_ofNat_Int, uI_I, uI_J, uL_I, uL_J, uA_I, uA_J, sI_eq, sI_ne, sL_eq, sL_ne, up_eq, up_ne, uL_eq, uL_ne, z_toInt, r7] at q
          refine And.intro (fun q2 => ?_) (fun q2 => ?_)
          · simp (disch := omega) only [z_i8, z_i16, z_of, z_ofN, z_lofN, z_0, z_1, z_m1, z_l0, z_l1, iZ_add, iZ_sub, iZ_mul, iZ_neg, lZ_add, lZ_sub, lZ_mul, lZ_neg, z_div, z_ldiv, z_l, z_i, z_lt, z_le, z_eq, z_llt, z_lle, z_leq, z_cgt, z_cge, z_clt, z_cle, z_ceq, z_cl, z_nat, Int.toNat_natCast, mm_I, mm_J, z_cln, z_abs, z_max, z_min, z_lmax, z_lmin, z_sin, Int.cast_ofNat_Int, uI_I, uI_J, uL_I, uL_J, uA_I, uA_J, sI_eq, sI_ne, sL_eq, sL_ne, up_eq, up_ne, uL_eq, uL_ne, z_toInt, r7] at q2
            refine q_l hQ ?_
            show _ = lZ (if 0 < v 266 7 then 1 else if v 266 7 < 0 then -1 else 0)
            rw [if_neg (by omega), if_neg (by omega)]
            rfl
          · simp (disch := omega) only [z_i8, z_i16, z_of, z_ofN, z_lofN, z_0, z_1, z_m1, z_l0, z_l1, iZ_add, iZ_sub, iZ_mul, iZ_neg, lZ_add, lZ_sub, lZ_mul, lZ_neg, z_div, z_ldiv, z_l, z_i, z_lt, z_le, z_eq, z_llt, z_lle, z_leq, z_cgt, z_cge, z_clt, z_cle, z_ceq, z_cl, z_nat, Int.toNat_natCast, mm_I, mm_J, z_cln, z_abs, z_max, z_min, z_lmax, z_lmin, z_sin, Int.cast_ofNat_Int, uI_I, uI_J, uL_I, uL_J, uA_I, uA_J, sI_eq, sI_ne, sL_eq, sL_ne, up_eq, up_ne, uL_eq, uL_ne, z_toInt, r7] at q2
            refine q_l hQ ?_
            show _ = lZ (if 0 < v 266 7 then 1 else if v 266 7 < 0 then -1 else 0)
            rw [if_neg (by omega), if_pos (by omega)]
            rfl
        · simp (disch := omega) only [z_i8, z_i16, z_of, z_ofN, z_lofN, z_0, z_1, z_m1, z_l0, z_l1, iZ_add, iZ_sub, iZ_mul, iZ_neg, lZ_add, lZ_sub, lZ_mul, lZ_neg, z_div, z_ldiv, z_l, z_i, z_lt, z_le, z_eq, z_llt, z_lle, z_leq, z_cgt, z_cge, z_clt, z_cle, z_ceq, z_cl, z_nat, Int.toNat_natCast, mm_I, mm_J, z_cln, z_abs, z_max, z_min, z_lmax, z_lmin, z_sin, Int.cast_ofNat_Int, uI_I, uI_J, uL_I, uL_J, uA_I, uA_J, sI_eq, sI_ne, sL_eq, sL_ne, up_eq, up_ne, uL_eq, uL_ne, z_toInt, r7] at q
          refine q_l hQ ?_
          show _ = lZ (if 0 < v 266 7 then 1 else if v 266 7 < 0 then -1 else 0)
          rw [if_pos (by omega)]
          rfl
      · refine wc (hs := []) 40 (by decide) (wtb 2 rfl rfl rfl ?_)
        refine q_l hQ ?_
        show _ = lZ (v 266 8)
        simp (disch := omega) only [z_i8, z_i16, z_of, z_ofN, z_lofN, z_0, z_1, z_m1, z_l0, z_l1, iZ_add, iZ_sub, iZ_mul, iZ_neg, lZ_add, lZ_sub, lZ_mul, lZ_neg, z_div, z_ldiv, z_l, z_i, z_lt, z_le, z_eq, z_llt, z_lle, z_leq, z_cgt, z_cge, z_clt, z_cle, z_ceq, z_cl, z_nat, Int.toNat_natCast, mm_I, mm_J, z_cln, z_abs, z_max, z_min, z_lmax, z_lmin, z_sin, Int.cast_ofNat_Int, uI_I, uI_J, uL_I, uL_J, uA_I, uA_J, sI_eq, sI_ne, sL_eq, sL_ne, up_eq, up_ne, uL_eq, uL_ne, z_toInt, r8]
      · refine wc (hs := []) 40 (by decide) (wtb 3 rfl rfl rfl ?_)
        refine And.intro rfl (c_draft hb hR hW ?_)
        refine q_l hQ ?_
        show _ = lZ (drZ v)
        simp (disch := omega) only [z_i8, z_i16, z_of, z_ofN, z_lofN, z_0, z_1, z_m1, z_l0, z_l1, iZ_add, iZ_sub, iZ_mul, iZ_neg, lZ_add, lZ_sub, lZ_mul, lZ_neg, z_div, z_ldiv, z_l, z_i, z_lt, z_le, z_eq, z_llt, z_lle, z_leq, z_cgt, z_cge, z_clt, z_cle, z_ceq, z_cl, z_nat, Int.toNat_natCast, mm_I, mm_J, z_cln, z_abs, z_max, z_min, z_lmax, z_lmin, z_sin, Int.cast_ofNat_Int, uI_I, uI_J, uL_I, uL_J, uA_I, uA_J, sI_eq, sI_ne, sL_eq, sL_ne, up_eq, up_ne, uL_eq, uL_ne, z_toInt]
      · refine wc (hs := []) 40 (by decide) (wtb 4 rfl rfl rfl ?_)
        refine q_l hQ ?_
        show _ = lZ (v 266 6)
        simp (disch := omega) only [z_i8, z_i16, z_of, z_ofN, z_lofN, z_0, z_1, z_m1, z_l0, z_l1, iZ_add, iZ_sub, iZ_mul, iZ_neg, lZ_add, lZ_sub, lZ_mul, lZ_neg, z_div, z_ldiv, z_l, z_i, z_lt, z_le, z_eq, z_llt, z_lle, z_leq, z_cgt, z_cge, z_clt, z_cle, z_ceq, z_cl, z_nat, Int.toNat_natCast, mm_I, mm_J, z_cln, z_abs, z_max, z_min, z_lmax, z_lmin, z_sin, Int.cast_ofNat_Int, uI_I, uI_J, uL_I, uL_J, uA_I, uA_J, sI_eq, sI_ne, sL_eq, sL_ne, up_eq, up_ne, uL_eq, uL_ne, z_toInt, r6]
      · refine wc (hs := []) 40 (by decide) (wtb 5 rfl rfl rfl ?_)
        refine q_l hQ ?_
        show _ = lZ (totZ v 0)
        simp (disch := omega) only [z_i8, z_i16, z_of, z_ofN, z_lofN, z_0, z_1, z_m1, z_l0, z_l1, iZ_add, iZ_sub, iZ_mul, iZ_neg, lZ_add, lZ_sub, lZ_mul, lZ_neg, z_div, z_ldiv, z_l, z_i, z_lt, z_le, z_eq, z_llt, z_lle, z_leq, z_cgt, z_cge, z_clt, z_cle, z_ceq, z_cl, z_nat, Int.toNat_natCast, mm_I, mm_J, z_cln, z_abs, z_max, z_min, z_lmax, z_lmin, z_sin, Int.cast_ofNat_Int, uI_I, uI_J, uL_I, uL_J, uA_I, uA_J, sI_eq, sI_ne, sL_eq, sL_ne, up_eq, up_ne, uL_eq, uL_ne, z_toInt, r9])
end C9
