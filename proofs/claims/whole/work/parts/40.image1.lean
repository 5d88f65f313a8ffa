/-! ===== the reference: images ===== -/
def lnA (a : Nat) : Nat := if a = 266 then 14 else if a = 267 then 13 else if a ≤ 269 then 6 else if a ≤ 276 then 12 else if a ≤ 281 then 6 else 12
def ofA (a : Nat) : Nat := if a = 266 then 0 else if a = 267 then 14 else if a = 268 then 237 else if a = 269 then 243 else if a ≤ 276 then 27 + 12 * (a - 270) else if a ≤ 281 then 111 + 6 * (a - 277) else 141 + 12 * (a - 282)
def imV (I : Nat → Nat → Int32) (k : Nat) : am_V := fun a i => if 266 ≤ a ∧ a ≤ 289 then (if i < lnA a then vI I 304 (250 * k + ofA a + i) else 0) else 0
def vC (I : Nat → Nat → Int32) : am_V := cutV (vI I)
def crl : List Nat := [266, 267, 270, 271, 272, 273, 274, 275, 276, 277, 278, 279, 280, 281, 282, 283, 284, 285, 286, 287, 288, 289, 268, 269]
def tot (l : List Nat) : Nat := match l with
  | [] => 0
  | a :: l => lnA a + tot l
def cryI (I : Nat → Nat → Int32) (a p n : Nat) : Nat → Nat → Int32 := fun b j => if b = 304 ∧ p ≤ j ∧ j < p + n then I a (j - p) else if b = 265 ∧ j = 53 then iZ ((p + n : Nat) : Int) else I b j
def crbI (I : Nat → Nat → Int32) (a p n : Nat) : Nat → Nat → Int32 := fun b j => if b = a ∧ j < n then I 304 (p + j) else if b = 265 ∧ j = 53 then iZ ((p + n : Nat) : Int) else I b j
def chF (I : Nat → Nat → Int32) : List Nat → Nat → (Nat → Nat → Int32)
  | [], _ => I
  | a :: l, p => chF (cryI I a p (lnA a)) l (p + lnA a)
def chB (I : Nat → Nat → Int32) : List Nat → Nat → (Nat → Nat → Int32)
  | [], _ => I
  | a :: l, p => chB (crbI I a p (lnA a)) l (p + lnA a)
theorem chF_1 : ∀ (l : List Nat) (I : Nat → Nat → Int32) (p b j : Nat), b ≠ 304 → (b = 265 → j ≠ 53) → chF I l p b j = I b j := by
  intro l
  induction l with
  | nil => intro I p b j _ _; rfl
  | cons a l ih =>
    intro I p b j h1 h2
    show chF (cryI I a p (lnA a)) l (p + lnA a) b j = _
    rw [ih _ _ b j h1 h2]
    unfold cryI
    rw [if_neg (fun q => h1 q.1), if_neg (fun q => h2 q.1 q.2)]
theorem chF_2 : ∀ (l : List Nat) (I : Nat → Nat → Int32) (p j : Nat), (j < p ∨ p + tot l ≤ j) → chF I l p 304 j = I 304 j := by
  intro l
  induction l with
  | nil => intro I p j _; rfl
  | cons a l ih =>
    intro I p j h
    have h : j < p ∨ p + (lnA a + tot l) ≤ j := h
    show chF (cryI I a p (lnA a)) l (p + lnA a) 304 j = _
    rw [ih _ _ j (by omega)]
    unfold cryI
    rw [if_neg (by omega), if_neg (by omega)]
theorem chF_3 : ∀ (l1 l2 : List Nat) (a : Nat) (I : Nat → Nat → Int32) (p i : Nat), a ≠ 304 → a ≠ 265 → i < lnA a → chF I (l1 ++ a :: l2) p 304 (p + tot l1 + i) = I a i := by
  intro l1
  induction l1 with
  | nil =>
    intro l2 a I p i h1 h2 h3
    show chF (cryI I a p (lnA a)) l2 (p + lnA a) 304 (p + 0 + i) = _
    rw [chF_2 _ _ _ _ (by omega)]
    unfold cryI
    rw [if_pos (by omega)]
    congr 1
    omega
  | cons c l1 ih =>
    intro l2 a I p i h1 h2 h3
    show chF (cryI I c p (lnA c)) (l1 ++ a :: l2) (p + lnA c) 304 (p + (lnA c + tot l1) + i) = _
    have := ih l2 a (cryI I c p (lnA c)) (p + lnA c) i h1 h2 h3
    rw [show p + (lnA c + tot l1) + i = p + lnA c + tot l1 + i by omega, this]
    unfold cryI
    rw [if_neg (by omega), if_neg (by omega)]
theorem chB_1 : ∀ (l : List Nat) (I : Nat → Nat → Int32) (p b j : Nat), (b ∉ l ∨ lnA b ≤ j) → (b = 265 → j ≠ 53) → chB I l p b j = I b j := by
  intro l
  induction l with
  | nil => intro I p b j _ _; rfl
  | cons a l ih =>
    intro I p b j h1 h2
    show chB (crbI I a p (lnA a)) l (p + lnA a) b j = _
    rw [ih _ _ b j (by
      rcases h1 with h | h
      · exact Or.inl (fun q => h (List.mem_cons_of_mem _ q))
      · exact Or.inr h) h2]
    unfold crbI
    rw [if_neg (fun q => by
      rcases h1 with h | h
      · exact h (by rw [q.1]; exact List.mem_cons_self)
      · rw [q.1] at h; omega), if_neg (fun q => h2 q.1 q.2)]
theorem chB_3 : ∀ (l1 l2 : List Nat) (a : Nat) (I : Nat → Nat → Int32) (p i : Nat), 304 ∉ l1 → a ≠ 265 → a ∉ l2 → i < lnA a → chB I (l1 ++ a :: l2) p a i = I 304 (p + tot l1 + i) := by
  intro l1
  induction l1 with
  | nil =>
    intro l2 a I p i h1 h2 h4 h3
    show chB (crbI I a p (lnA a)) l2 (p + lnA a) a i = I 304 (p + 0 + i)
    rw [chB_1 _ _ _ _ _ (Or.inl h4) (fun q => absurd q h2)]
    unfold crbI
    rw [if_pos ⟨rfl, h3⟩]
    rfl
  | cons c l1 ih =>
    intro l2 a I p i h1 h2 h4 h3
    show chB (crbI I c p (lnA c)) (l1 ++ a :: l2) (p + lnA c) a i = I 304 (p + (lnA c + tot l1) + i)
    rw [ih l2 a (crbI I c p (lnA c)) (p + lnA c) i (fun q => h1 (List.mem_cons_of_mem _ q)) h2 h4 h3]
    unfold crbI
    rw [if_neg (fun q => h1 (by rw [q.1]; exact List.mem_cons_self)), if_neg (by omega)]
    congr 1
    omega
/-- every row of the ship stands in the row of rows at its place -/
theorem crl_at {a : Nat} (h : 266 ≤ a ∧ a ≤ 289) : ∃ l1 l2, crl = l1 ++ a :: l2 ∧ tot l1 = ofA a ∧ 304 ∉ l1 ∧ a ∉ l2 := by
  have hc : a = 266 ∨ a = 267 ∨ a = 268 ∨ a = 269 ∨ a = 270 ∨ a = 271 ∨ a = 272 ∨ a = 273 ∨ a = 274 ∨ a = 275 ∨ a = 276 ∨ a = 277 ∨ a = 278 ∨ a = 279 ∨ a = 280 ∨ a = 281 ∨ a = 282 ∨ a = 283 ∨ a = 284 ∨ a = 285 ∨ a = 286 ∨ a = 287 ∨ a = 288 ∨ a = 289 := by omega
  clear h
  rcases hc with rfl | rfl | rfl | rfl | rfl | rfl | rfl | rfl | rfl | rfl | rfl | rfl | rfl | rfl | rfl | rfl | rfl | rfl | rfl | rfl | rfl | rfl | rfl | rfl
  · exact ⟨crl.take 0, crl.drop (0 + 1), by decide, by decide, by decide, by decide⟩
  · exact ⟨crl.take 1, crl.drop (1 + 1), by decide, by decide, by decide, by decide⟩
  · exact ⟨crl.take 22, crl.drop (22 + 1), by decide, by decide, by decide, by decide⟩
  · exact ⟨crl.take 23, crl.drop (23 + 1), by decide, by decide, by decide, by decide⟩
  · exact ⟨crl.take 2, crl.drop (2 + 1), by decide, by decide, by decide, by decide⟩
  · exact ⟨crl.take 3, crl.drop (3 + 1), by decide, by decide, by decide, by decide⟩
  · exact ⟨crl.take 4, crl.drop (4 + 1), by decide, by decide, by decide, by decide⟩
  · exact ⟨crl.take 5, crl.drop (5 + 1), by decide, by decide, by decide, by decide⟩
  · exact ⟨crl.take 6, crl.drop (6 + 1), by decide, by decide, by decide, by decide⟩
  · exact ⟨crl.take 7, crl.drop (7 + 1), by decide, by decide, by decide, by decide⟩
  · exact ⟨crl.take 8, crl.drop (8 + 1), by decide, by decide, by decide, by decide⟩
  · exact ⟨crl.take 9, crl.drop (9 + 1), by decide, by decide, by decide, by decide⟩
  · exact ⟨crl.take 10, crl.drop (10 + 1), by decide, by decide, by decide, by decide⟩
  · exact ⟨crl.take 11, crl.drop (11 + 1), by decide, by decide, by decide, by decide⟩
  · exact ⟨crl.take 12, crl.drop (12 + 1), by decide, by decide, by decide, by decide⟩
  · exact ⟨crl.take 13, crl.drop (13 + 1), by decide, by decide, by decide, by decide⟩
  · exact ⟨crl.take 14, crl.drop (14 + 1), by decide, by decide, by decide, by decide⟩
  · exact ⟨crl.take 15, crl.drop (15 + 1), by decide, by decide, by decide, by decide⟩
  · exact ⟨crl.take 16, crl.drop (16 + 1), by decide, by decide, by decide, by decide⟩
  · exact ⟨crl.take 17, crl.drop (17 + 1), by decide, by decide, by decide, by decide⟩
  · exact ⟨crl.take 18, crl.drop (18 + 1), by decide, by decide, by decide, by decide⟩
  · exact ⟨crl.take 19, crl.drop (19 + 1), by decide, by decide, by decide, by decide⟩
  · exact ⟨crl.take 20, crl.drop (20 + 1), by decide, by decide, by decide, by decide⟩
  · exact ⟨crl.take 21, crl.drop (21 + 1), by decide, by decide, by decide, by decide⟩
theorem ofA_le {a i : Nat} (h : 266 ≤ a ∧ a ≤ 289) (hi : i < lnA a) : ofA a + i < 249 := by
  have hc : a = 266 ∨ a = 267 ∨ a = 268 ∨ a = 269 ∨ (270 ≤ a ∧ a ≤ 276) ∨ (277 ≤ a ∧ a ≤ 281) ∨ (282 ≤ a ∧ a ≤ 289) := by omega
  unfold lnA at hi
  unfold ofA
  rcases hc with rfl | rfl | rfl | rfl | hc | hc | hc
  · simp at hi ⊢; omega
  · simp at hi ⊢; omega
  · simp at hi ⊢; omega
  · simp at hi ⊢; omega
  · rw [if_neg (by omega), if_neg (by omega), if_neg (by omega), if_pos (by omega)] at hi
    rw [if_neg (by omega), if_neg (by omega), if_neg (by omega), if_neg (by omega), if_pos (by omega)]
    omega
  · rw [if_neg (by omega), if_neg (by omega), if_neg (by omega), if_neg (by omega), if_pos (by omega)] at hi
    rw [if_neg (by omega), if_neg (by omega), if_neg (by omega), if_neg (by omega), if_neg (by omega), if_pos (by omega)]
    omega
  · rw [if_neg (by omega), if_neg (by omega), if_neg (by omega), if_neg (by omega), if_neg (by omega)] at hi
    rw [if_neg (by omega), if_neg (by omega), if_neg (by omega), if_neg (by omega), if_neg (by omega), if_neg (by omega)]
    omega
theorem lnA_le (a : Nat) : lnA a ≤ 14 := by
  unfold lnA
  (repeat' split) <;> omega
theorem tot_crl : tot crl = 249 := by decide
theorem zo_ship {I : Nat → Nat → Int32} {J : Nat → Nat → Int64} {A : Nat → Option Nat} (hz : ZO (mm I J A)) {a i : Nat} (h : 266 ≤ a ∧ a ≤ 289) (hi : lnA a ≤ i) : vI I a i = 0 := by
  have hl : am_lay0[a]? = some (.inr (0, lnA a)) := by
    have hc : a = 266 ∨ a = 267 ∨ a = 268 ∨ a = 269 ∨ a = 270 ∨ a = 271 ∨ a = 272 ∨ a = 273 ∨ a = 274 ∨ a = 275 ∨ a = 276 ∨ a = 277 ∨ a = 278 ∨ a = 279 ∨ a = 280 ∨ a = 281 ∨ a = 282 ∨ a = 283 ∨ a = 284 ∨ a = 285 ∨ a = 286 ∨ a = 287 ∨ a = 288 ∨ a = 289 := by omega
    clear h hi
    rcases hc with rfl | rfl | rfl | rfl | rfl | rfl | rfl | rfl | rfl | rfl | rfl | rfl | rfl | rfl | rfl | rfl | rfl | rfl | rfl | rfl | rfl | rfl | rfl | rfl <;> rfl
  have := hz a 0 (lnA a) i hl hi
  have : I a i = 0 := this
  unfold vI
  rw [this]; rfl
section M11
variable {E : Nat × (Nat → Int32)} {d : Nat} {I : Nat → Nat → Int32} {J : Nat → Nat → Int64} {A : Nat → Option Nat} {Q : Option Value → am_M → Prop} {M : am_M}
theorem cryI_0 {a p : Nat} (h : I 265 53 = iZ p) : cryI I a p 0 = I := by
  funext b j
  unfold cryI
  rw [if_neg (by omega)]
  split
  · rename_i q; rw [q.1, q.2, h]; rfl
  · rfl
theorem crbI_0 {a p : Nat} (h : I 265 53 = iZ p) : crbI I a p 0 = I := by
  funext b j
  unfold crbI
  rw [if_neg (by omega)]
  split
  · rename_i q; rw [q.1, q.2, h]; rfl
  · rfl
theorem cryI_step {a p i k : Nat} {x y : Int32} (h : a ≠ 304) (h' : a ≠ 265) (hk : k = p + i) (hx : x = cryI I a p i a i) (hy : y = iZ ((p + (i + 1) : Nat) : Int)) : setI (setI (cryI I a p i) 304 k x) 265 53 y = cryI I a p (i + 1) := by
  subst hk; subst hx; subst hy
  funext b j
  rw [setI_at, setI_at]
  unfold cryI
  by_cases h1 : b = 265 ∧ j = 53
  · rw [if_pos h1, if_neg (by omega), if_pos h1]
  · rw [if_neg h1]
    by_cases h2 : b = 304 ∧ j = p + i
    · rw [if_pos h2, if_neg (by omega), if_neg (by omega), if_pos (by omega)]
      congr 1; omega
    · rw [if_neg h2]
      by_cases h3 : b = 304 ∧ p ≤ j ∧ j < p + i
      · rw [if_pos h3, if_pos (by omega)]
      · rw [if_neg h3, if_neg h1, if_neg (by omega), if_neg h1]
theorem crbI_step {a p i k : Nat} {x y : Int32} (h : a ≠ 304) (h' : a ≠ 265) (hk : k = i) (hx : x = crbI I a p i 304 (p + i)) (hy : y = iZ ((p + (i + 1) : Nat) : Int)) : setI (setI (crbI I a p i) a k x) 265 53 y = crbI I a p (i + 1) := by
  subst hk; subst hx; subst hy
  funext b j
  rw [setI_at, setI_at]
  unfold crbI
  by_cases h1 : b = 265 ∧ j = 53
  · rw [if_pos h1, if_neg (by omega), if_pos h1]
  · rw [if_neg h1]
    by_cases h2 : b = a ∧ j = k
    · rw [if_pos h2, if_neg (by omega), if_neg (by omega), if_pos (by omega), h2.2]
    · rw [if_neg h2]
      by_cases h3 : b = a ∧ j < k
      · rw [if_pos h3, if_pos (by omega)]
      · rw [if_neg h3, if_neg h1, if_neg (by omega), if_neg h1]
set_option maxHeartbeats 8000000 in
theorem m_carryF {a p : Nat} (ha : 266 ≤ a ∧ a ≤ 289) (hp : p + lnA a ≤ 1250) (h53 : I 265 53 = iZ p) (h54 : I 265 54 = iZ 0) (hQ : Q none (mm (cryI I a p (lnA a)) J A)) : wpC E d 226 [.ref 265, .ref a] (mm I J A) Q := by
  have h14 : lnA a ≤ 14 := lnA_le a
  have g54 : ∀ i, cryI I a p i 265 54 = iZ 0 := fun i => h54
  have g53 : ∀ i, cryI I a p i 265 53 = iZ ((p + i : Nat) : Int) := fun i => by unfold cryI; rw [if_neg (by omega), if_pos ⟨rfl, rfl⟩]
  have cl : ∀ i : Nat, i < 3000 → (iZ (i : Int)).toNatClampNeg = i := fun i hi => z_cln (by omega)
  have stp : ∀ i, i < lnA a → setI (setI (cryI I a p i) 304 (cryI I a p i 265 53).toNatClampNeg (cryI I a p i a (iZ (i : Int)).toNatClampNeg)) 265 53 (setI (cryI I a p i) 304 (cryI I a p i 265 53).toNatClampNeg (cryI I a p i a (iZ (i : Int)).toNatClampNeg) 265 53 + Int32.ofInt 1) = cryI I a p (i + 1) := fun i hi => by
    refine cryI_step (by omega) (by omega) ?_ ?_ ?_
    · rw [g53, cl _ (by omega)]
    · rw [cl _ (by omega)]
    · rw [setI_at, if_neg (by omega), g53]; exact iZ_add _ 1
  have hin : ∀ i, i < lnA a → vp_in (cryI I a p i 265 53) 1250 := fun i hi => by rw [g53]; exact z_in (by omega) (by omega) (by omega)
  have main : ∀ (n i : Nat) (x : Int32), i + n = lnA a → x = iZ i → wp E d 226 2 [(0, .ref 265), (1, .ref a), (2, .int x)] [] (mm (cryI I a p i) J A) Q := by
    have hc : a = 266 ∨ a = 267 ∨ a = 268 ∨ a = 269 ∨ a = 270 ∨ a = 271 ∨ a = 272 ∨ a = 273 ∨ a = 274 ∨ a = 275 ∨ a = 276 ∨ a = 277 ∨ a = 278 ∨ a = 279 ∨ a = 280 ∨ a = 281 ∨ a = 282 ∨ a = 283 ∨ a = 284 ∨ a = 285 ∨ a = 286 ∨ a = 287 ∨ a = 288 ∨ a = 289 := by omega
    intro n
    induction n with
    | zero =>
      intro i x hi ex
      subst ex
      have hi : i = lnA a := by omega
      subst hi
      clear stp hin ha
      rcases hc with rfl | rfl | rfl | rfl | rfl | rfl | rfl | rfl | rfl | rfl | rfl | rfl | rfl | rfl | rfl | rfl | rfl | rfl | rfl | rfl | rfl | rfl | rfl | rfl <;> exact wf (hs := [2]) 30 2 (by decide) (wt (by decide) hQ)
    | succ n ih =>
      intro i x hi ex
      subst ex
      have hs := stp i (by omega)
      have h1 := hin i (by omega)
      have h2 : vp_in (iZ (i : Int)) (lnA a) := z_in (by omega) (by omega) (by omega)
      have h3 : ¬ iZ (lnA a : Int) ≤ iZ (i : Int) := by ((try simp (disch := omega) only [z_i8, z_i16, z_of, z_ofN, z_lofN, z_0, z_1, z_m1, z_l0, z_l1, iZ_add, iZ_sub, iZ_mul, iZ_neg, lZ_add, lZ_sub, lZ_mul, lZ_neg, z_div, z_ldiv, z_l, z_i, z_lt, z_le, z_eq, z_llt, z_lle, z_leq, z_cgt, z_cge, z_clt, z_cle, z_ceq, z_cl, z_nat, Int.toNat_natCast, mm_I, mm_J, z_cln, z_abs, z_max, z_min, z_lmax, z_lmin, z_sin, Int.cast_ofNat_Int, uI_I, uI_J, uL_I, uL_J, uA_I, uA_J, sI_eq, sI_ne, sL_eq, sL_ne, up_eq, up_ne, uL_eq, uL_ne, z_toInt, Int.reduceToNat]) <;> omega)
      have h4 := g54 i
      have nx := ih (i + 1) (iZ i + 1) (by omega) (iZ_add i 1)
      rw [← hs] at nx
      clear ih stp hin g54 g53 cl hs ha
      rcases hc with rfl | rfl | rfl | rfl | rfl | rfl | rfl | rfl | rfl | rfl | rfl | rfl | rfl | rfl | rfl | rfl | rfl | rfl | rfl | rfl | rfl | rfl | rfl | rfl
      all_goals (
        refine wf (hs := [2]) 30 2 (by decide) (wF h3 (wt h4 (And.intro h2 (And.intro h1 ?_))))
        refine wp_keys [0, 1, 2] rfl rfl ?_
        exact nx)
  refine wc (hs := [2]) 20 (by decide) ?_
  refine wp_keys [0, 1, 2] rfl rfl ?_
  have := main (lnA a) 0 (iZ 0) (by omega) rfl
  rw [cryI_0 h53] at this
  exact this
set_option maxHeartbeats 8000000 in
theorem m_carryB {a p : Nat} (ha : 266 ≤ a ∧ a ≤ 289) (hp : p + lnA a ≤ 1250) (h53 : I 265 53 = iZ p) (h54 : I 265 54 = iZ 1) (hQ : Q none (mm (crbI I a p (lnA a)) J A)) : wpC E d 226 [.ref 265, .ref a] (mm I J A) Q := by
  have h14 : lnA a ≤ 14 := lnA_le a
  have g54 : ∀ i, ¬ crbI I a p i 265 54 = iZ 0 := fun i => by unfold crbI; rw [if_neg (by omega), if_neg (by omega), h54]; decide
  have g53 : ∀ i, crbI I a p i 265 53 = iZ ((p + i : Nat) : Int) := fun i => by unfold crbI; rw [if_neg (by omega), if_pos ⟨rfl, rfl⟩]
  have cl : ∀ i : Nat, i < 3000 → (iZ (i : Int)).toNatClampNeg = i := fun i hi => z_cln (by omega)
  have stp : ∀ i, i < lnA a → setI (setI (crbI I a p i) a (iZ (i : Int)).toNatClampNeg (crbI I a p i 304 (crbI I a p i 265 53).toNatClampNeg)) 265 53 (setI (crbI I a p i) a (iZ (i : Int)).toNatClampNeg (crbI I a p i 304 (crbI I a p i 265 53).toNatClampNeg) 265 53 + Int32.ofInt 1) = crbI I a p (i + 1) := fun i hi => by
    refine crbI_step (by omega) (by omega) ?_ ?_ ?_
    · rw [cl _ (by omega)]
    · rw [g53, cl _ (by omega)]
    · rw [setI_at, if_neg (by omega), g53]; exact iZ_add _ 1
  have hin : ∀ i, i < lnA a → vp_in (crbI I a p i 265 53) 1250 := fun i hi => by rw [g53]; exact z_in (by omega) (by omega) (by omega)
  have main : ∀ (n i : Nat) (x : Int32), i + n = lnA a → x = iZ i → wp E d 226 2 [(0, .ref 265), (1, .ref a), (2, .int x)] [] (mm (crbI I a p i) J A) Q := by
    have hc : a = 266 ∨ a = 267 ∨ a = 268 ∨ a = 269 ∨ a = 270 ∨ a = 271 ∨ a = 272 ∨ a = 273 ∨ a = 274 ∨ a = 275 ∨ a = 276 ∨ a = 277 ∨ a = 278 ∨ a = 279 ∨ a = 280 ∨ a = 281 ∨ a = 282 ∨ a = 283 ∨ a = 284 ∨ a = 285 ∨ a = 286 ∨ a = 287 ∨ a = 288 ∨ a = 289 := by omega
    intro n
    induction n with
    | zero =>
      intro i x hi ex
      subst ex
      have hi : i = lnA a := by omega
      subst hi
      clear stp hin ha
      rcases hc with rfl | rfl | rfl | rfl | rfl | rfl | rfl | rfl | rfl | rfl | rfl | rfl | rfl | rfl | rfl | rfl | rfl | rfl | rfl | rfl | rfl | rfl | rfl | rfl <;> exact wf (hs := [2]) 30 2 (by decide) (wt (by decide) hQ)
    | succ n ih =>
      intro i x hi ex
      subst ex
      have hs := stp i (by omega)
      have h1 := hin i (by omega)
      have h2 : vp_in (iZ (i : Int)) (lnA a) := z_in (by omega) (by omega) (by omega)
      have h3 : ¬ iZ (lnA a : Int) ≤ iZ (i : Int) := by ((try simp (disch := omega) only [z_i8, z_i16, z_of, z_ofN, z_lofN, z_0, z_1, z_m1, z_l0, z_l1, iZ_add, iZ_sub, iZ_mul, iZ_neg, lZ_add, lZ_sub, lZ_mul, lZ_neg, z_div, z_ldiv, z_l, z_i, z_lt, z_le, z_eq, z_llt, z_lle, z_leq, z_cgt, z_cge, z_clt, z_cle, z_ceq, z_cl, z_nat, Int.toNat_natCast, mm_I, mm_J, z_cln, z_abs, z_max, z_min, z_lmax, z_lmin, z_sin, Int.cast_ofNat_Int, uI_I, uI_J, uL_I, uL_J, uA_I, uA_J, sI_eq, sI_ne, sL_eq, sL_ne, up_eq, up_ne, uL_eq, uL_ne, z_toInt, Int.reduceToNat]) <;> omega)
      have h4 := g54 i
      have nx := ih (i + 1) (iZ i + 1) (by omega) (iZ_add i 1)
      rw [← hs] at nx
      clear ih stp hin g54 g53 cl hs ha
      rcases hc with rfl | rfl | rfl | rfl | rfl | rfl | rfl | rfl | rfl | rfl | rfl | rfl | rfl | rfl | rfl | rfl | rfl | rfl | rfl | rfl | rfl | rfl | rfl | rfl
      all_goals (
        refine wf (hs := [2]) 30 2 (by decide) (wF h3 (wF h4 (And.intro h1 (And.intro h2 ?_))))
        refine wp_keys [0, 1, 2] rfl rfl ?_
        exact nx)
  refine wc (hs := [2]) 20 (by decide) ?_
  refine wp_keys [0, 1, 2] rfl rfl ?_
  have := main (lnA a) 0 (iZ 0) (by omega) rfl
  rw [crbI_0 h53] at this
  exact this
end M11
