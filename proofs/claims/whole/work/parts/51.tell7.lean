/-! ===== ship told to both ===== -/
section OP8
variable {E : Nat × (Nat → Int32)} {d : Nat} {I : Nat → Nat → Int32} {J : Nat → Nat → Int64} {A : Nat → Option Nat} {Q : Option Value → am_M → Prop} {M : am_M}
def flI (I : Nat → Nat → Int32) (a n : Nat) : Nat → Nat → Int32 := fun c j => if c = a ∧ j < n then iZ 0 else I c j
theorem c_fillI {a n : Nat} (ha : (a = 2 ∧ n = 61) ∨ (a = 11 ∧ n = 12)) (hQ : Q none (mm (flI I a n) J A)) : wpC E d 262 [.ref a, .int (iZ 0)] (mm I J A) Q := by
  have stp : ∀ i, setI (flI I a i) a (iZ (i : Int)).toNatClampNeg (iZ 0) = flI I a (i + 1) ∨ 1000 < i := fun i => by
    by_cases hi : i ≤ 1000
    · left
      rw [z_cln (by omega)]
      funext c j
      rw [setI_at]
      unfold flI
      by_cases h1 : c = a ∧ j = i
      · rw [if_pos h1, if_pos (by omega)]
      · rw [if_neg h1]
        by_cases h2 : c = a ∧ j < i
        · rw [if_pos h2, if_pos (by omega)]
        · rw [if_neg h2, if_neg (by omega)]
    · right; omega
  have st : ∀ (m i : Nat) (y : Int32), i + m = n → y = iZ i → wp E d 262 5 [(0, .ref a), (1, .int (iZ 0)), (2, .int y), (3, .int (iZ n))] [] (mm (flI I a i) J A) Q := by
    intro m
    induction m with
    | zero =>
      intro i y hi ey
      subst ey
      have : i = n := by omega
      subst this
      exact wf (hs := [5]) 20 5 (by decide) (wt (Int32.le_refl _) hQ)
    | succ m ih =>
      intro i y hi ey
      subst ey
      have nx := ih (i + 1) (iZ i + 1) (by omega) (iZ_add i 1)
      have e := (stp i).resolve_right (by omega)
      rw [← e] at nx
      have h3 : ¬ iZ (n : Int) ≤ iZ (i : Int) := by ((try simp (disch := omega) only [z_i8, z_i16, z_of, z_ofN, z_lofN, z_0, z_1, z_m1, z_l0, z_l1, iZ_add, iZ_sub, iZ_mul, iZ_neg, lZ_add, lZ_sub, lZ_mul, lZ_neg, z_div, z_ldiv, z_l, z_i, z_lt, z_le, z_eq, z_llt, z_lle, z_leq, z_cgt, z_cge, z_clt, z_cle, z_ceq, z_cl, z_nat, Int.toNat_natCast, mm_I, mm_J, z_cln, z_abs, z_max, z_min, z_lmax, z_lmin, z_sin, Int.cast_ofNat_Int, uI_I, uI_J, uL_I, uL_J, uA_I, uA_J, sI_eq, sI_ne, sL_eq, sL_ne, up_eq, up_ne, uL_eq, uL_ne, z_toInt, Int.reduceToNat]) <;> omega)
      have h2 : vp_in (iZ (i : Int)) n := z_in (by omega) (by omega) (by omega)
      rcases ha with ⟨rfl, rfl⟩ | ⟨rfl, rfl⟩
      all_goals (
        refine wf (hs := [5]) 20 5 (by decide) (wF h3 (And.intro h2 ?_))
        refine wp_keys [0, 1, 2, 3] rfl rfl ?_
        exact nx)
  have e0 : flI I a 0 = I := by
    funext c j
    unfold flI
    rw [if_neg (by omega)]
  have := st n 0 (iZ 0) (by omega) rfl
  rw [e0] at this
  rcases ha with ⟨rfl, rfl⟩ | ⟨rfl, rfl⟩
  all_goals (
    refine wc (hs := [5]) 20 (by decide) ?_
    refine wp_keys [0, 1, 2, 3] rfl rfl ?_
    exact this)
def shC (I : Nat → Nat → Int32) (bd w h s : Int) : Nat → Nat → Int32 :=
  let M1 := setI (setI (setI (setI (setI (setI (setI (setI (setI (setI I 1 0 (iZ 1)) 1 1 (iZ bd)) 1 2 (iZ w)) 1 3 (iZ h)) 1 4 (iZ s)) 1 5 (iZ 0)) 1 6 (iZ 0)) 1 7 (iZ 0)) 1 8 (iZ 0)) 1 9 (iZ w)
  setI (setI (setI (setI (flI (setI (flI M1 2 61) 3 0 (iZ 0)) 11 12) 15 0 (iZ 0)) 21 0 (iZ 0)) 26 0 (iZ 0)) 31 0 (iZ 0)
theorem c_begin {bd w h s : Int} (hQ : Q none (mm (shC I bd w h s) J A)) : wpC E (d + 1) 66 [.ref 1, .int (iZ bd), .int (iZ w), .int (iZ h), .int (iZ s)] (mm I J A) Q := by
  refine wc (hs := []) 100 (by decide) ?_
  exact And.intro rfl (c_fillI (Or.inl ⟨rfl, rfl⟩) (And.intro rfl (c_fillI (Or.inr ⟨rfl, rfl⟩) hQ)))
def shS (bd w h s : Int) (j : Nat) : Int := if j = 0 then 1 else if j = 1 then bd else if j = 2 then w else if j = 3 then h else if j = 4 then s else 0
def shM (I : Nat → Nat → Int32) (bd w h s : Int) : Nat → Nat → Int32 := fun a j => if a = 266 ∧ j < 14 then iZ (shS bd w h s j) else if a = 267 ∧ j < 13 then iZ 0 else I a j
def shV (v : am_V) (bd w h s : Int) : am_V := fun a j => if a = 266 ∧ j < 14 then shS bd w h s j else if a = 267 ∧ j < 13 then 0 else v a j
def GSh (bd w h s : Int) : Prop := (10 ≤ bd ∧ bd ≤ 400) ∧ (1 ≤ w ∧ w ≤ 99999) ∧ (1 ≤ h ∧ h ≤ 3000) ∧ (1 ≤ s ∧ s ≤ 999)
def zrI (I : Nat → Nat → Int32) (i : Nat) : Nat → Nat → Int32 := fun a j => if (a = 266 ∨ a = 267) ∧ j < i then iZ 0 else I a j
theorem m_ship {bd w h s : Int} (r1 : -2147483648 ≤ bd ∧ bd ≤ 2147483647) (r2 : -2147483648 ≤ w ∧ w ≤ 2147483647) (r3 : -2147483648 ≤ h ∧ h ≤ 2147483647) (r4 : -2147483648 ≤ s ∧ s ≤ 2147483647) (h1 : GSh bd w h s → Q (some (.int 1)) (mm (shM I bd w h s) J A)) (h0 : ¬ GSh bd w h s → Q (some (.int 0)) (mm I J A)) : wpC E (d + 1) 146 [.ref 265, .int (iZ bd), .int (iZ w), .int (iZ h), .int (iZ s)] (mm I J A) Q := by
  have F : ¬ GSh bd w h s → (narrow .boolean (.int 0) = .int 0) ∧ Q (some (.int 0)) (mm I J A) := fun q => ⟨rfl, h0 q⟩
  unfold GSh at F
  have stp : ∀ i, i < 13 → setI (setI (zrI I i) 266 (iZ (i : Int)).toNatClampNeg (iZ 0)) 267 (iZ (i : Int)).toNatClampNeg (iZ 0) = zrI I (i + 1) := fun i hi => by
    rw [z_cln (by omega)]
    funext a j
    rw [setI_at, setI_at]
    unfold zrI
    by_cases h1 : (a = 266 ∨ a = 267) ∧ j < i + 1
    · rw [if_pos h1]
      by_cases h2 : a = 267 ∧ j = i
      · rw [if_pos h2]
      · rw [if_neg h2]
        by_cases h3 : a = 266 ∧ j = i
        · rw [if_pos h3]
        · rw [if_neg h3, if_pos (by omega)]
    · rw [if_neg h1, if_neg (by omega), if_neg (by omega), if_neg (by omega)]
  have z0 : zrI I 0 = I := by
    funext a j
    unfold zrI
    rw [if_neg (by omega)]
  have fin : GSh bd w h s → Q (some (.int 1)) (mm (setI (setI (setI (setI (setI (setI (zrI I 13) 266 13 (iZ 0)) 266 0 (iZ 1)) 266 1 (iZ bd)) 266 2 (iZ w)) 266 3 (iZ h)) 266 4 (iZ s)) J A) := fun hg => by
    have e : setI (setI (setI (setI (setI (setI (zrI I 13) 266 13 (iZ 0)) 266 0 (iZ 1)) 266 1 (iZ bd)) 266 2 (iZ w)) 266 3 (iZ h)) 266 4 (iZ s) = shM I bd w h s := by
      funext a j
      simp only [setI_at]
      unfold shM zrI shS
      (repeat' split) <;> first | rfl | (exfalso; omega)
    rw [e]; exact h1 hg
  have L : GSh bd w h s → ∀ (n i : Nat) (y : Int32), i + n = 13 → y = iZ i → wp E (d + 1) 146 56 [(0, .ref 265), (1, .int (iZ bd)), (2, .int (iZ w)), (3, .int (iZ h)), (4, .int (iZ s)), (5, .int y)] [] (mm (zrI I i) J A) Q := by
    intro hg n
    induction n with
    | zero =>
      intro i y hi ey
      subst ey
      have : i = 13 := by omega
      subst this
      refine wf (hs := [56]) 60 56 (by decide) (wt (by decide) ?_)
      exact And.intro (inL (by decide)) (And.intro (inL (by decide)) (And.intro (inL (by decide)) (And.intro (inL (by decide)) (And.intro (inL (by decide)) (And.intro (inL (by decide)) (And.intro rfl (fin hg)))))))
    | succ n ih =>
      intro i y hi ey
      subst ey
      have nx := ih (i + 1) (iZ i + 1) (by omega) (iZ_add i 1)
      rw [← stp i (by omega)] at nx
      refine wf (hs := [56]) 60 56 (by decide) (wF (by ((try simp (disch := omega) only [z_i8, z_i16, z_of, z_ofN, z_lofN, z_0, z_1, z_m1, z_l0, z_l1, iZ_add, iZ_sub, iZ_mul, iZ_neg, lZ_add, lZ_sub, lZ_mul, lZ_neg, z_div, z_ldiv, z_l, z_i, z_lt, z_le, z_eq, z_llt, z_lle, z_leq, z_cgt, z_cge, z_clt, z_cle, z_ceq, z_cl, z_nat, Int.toNat_natCast, mm_I, mm_J, z_cln, z_abs, z_max, z_min, z_lmax, z_lmin, z_sin, Int.cast_ofNat_Int, uI_I, uI_J, uL_I, uL_J, uA_I, uA_J, sI_eq, sI_ne, sL_eq, sL_ne, up_eq, up_ne, uL_eq, uL_ne, z_toInt, Int.reduceToNat]) <;> omega)) (And.intro (z_in (by omega) (by omega) (by omega)) (And.intro (z_in (by omega) (by omega) (by omega)) ?_)))
      refine wp_keys [0, 1, 2, 3, 4, 5] rfl rfl ?_
      exact nx
  refine wc (hs := [56]) 60 (by decide) ?_
  refine And.intro rfl (mW (z := bd) (lo := 10) (hi := 400) (z_l (by omega) (by omega)) rfl rfl (by omega) (by omega) (by omega) (fun g => wF (by decide) ?_) (fun g => wt rfl (F (by omega))))
  refine And.intro rfl (mW (z := w) (lo := 1) (hi := 99999) (z_l (by omega) (by omega)) rfl rfl (by omega) (by omega) (by omega) (fun g => wF (by decide) ?_) (fun g => wt rfl (F (by omega))))
  refine And.intro rfl (mW (z := h) (lo := 1) (hi := 3000) (z_l (by omega) (by omega)) rfl rfl (by omega) (by omega) (by omega) (fun g => wF (by decide) ?_) (fun g => wt rfl (F (by omega))))
  refine And.intro rfl (mW (z := s) (lo := 1) (hi := 999) (z_l (by omega) (by omega)) rfl rfl (by omega) (by omega) (by omega) (fun g => wF (by decide) ?_) (fun g => wt rfl (F (by omega))))
  have := L (by unfold GSh; omega) 13 0 (iZ 0) (by omega) rfl
  rw [z0] at this
  refine wp_keys [0, 1, 2, 3, 4, 5] rfl rfl ?_
  exact this
theorem op_ship {bd w h s : Int} (hh : Inv I J) (r1 : -2147483648 ≤ bd ∧ bd ≤ 2147483647) (r2 : -2147483648 ≤ w ∧ w ≤ 2147483647) (r3 : -2147483648 ≤ h ∧ h ≤ 2147483647) (r4 : -2147483648 ≤ s ∧ s ≤ 2147483647) : wpC E (d + 3) 83 [.ref 0, .int (iZ bd), .int (iZ w), .int (iZ h), .int (iZ s)] (mm I J A) (QI E (d + 3) 146 [.int (iZ bd), .int (iZ w), .int (iZ h), .int (iZ s)]) := by
  have F : ¬ GSh bd w h s → (narrow .boolean (.int 0) = .int 0) ∧ QI E (d + 3) 146 [.int (iZ bd), .int (iZ w), .int (iZ h), .int (iZ s)] (some (.int 0)) (mm I J A) := fun q => ⟨rfl, QI_mk (m_ship r1 r2 r3 r4 (fun p => absurd p q) (fun _ => ⟨rfl, I, J, A, rfl, hh⟩))⟩
  unfold GSh at F
  refine wc (hs := []) 60 (by decide) ?_
  refine And.intro rfl (cW (z := bd) (lo := 10) (hi := 400) rfl rfl rfl (by omega) (by omega) (by omega) (fun g => wF (by decide) ?_) (fun g => wt rfl (F (by omega))))
  refine And.intro rfl (cW (z := w) (lo := 1) (hi := 99999) rfl rfl rfl (by omega) (by omega) (by omega) (fun g => wF (by decide) ?_) (fun g => wt rfl (F (by omega))))
  refine And.intro rfl (cW (z := h) (lo := 1) (hi := 3000) rfl rfl rfl (by omega) (by omega) (by omega) (fun g => wF (by decide) ?_) (fun g => wt rfl (F (by omega))))
  refine And.intro rfl (cW (z := s) (lo := 1) (hi := 999) rfl rfl rfl (by omega) (by omega) (by omega) (fun g => wF (by decide) ?_) (fun g => wt rfl (F (by omega))))
  have hg : GSh bd w h s := by unfold GSh; omega
  suffices fin : QI E (d + 3) 146 [.int (iZ bd), .int (iZ w), .int (iZ h), .int (iZ s)] (some (.int 1)) (mm (shC I bd w h s) J A) from And.intro rfl (c_begin (And.intro rfl fin))
  have at_ : ∀ a j, shC I bd w h s a j = if a = 31 ∧ j = 0 then iZ 0 else if a = 26 ∧ j = 0 then iZ 0 else if a = 21 ∧ j = 0 then iZ 0 else if a = 15 ∧ j = 0 then iZ 0 else if a = 11 ∧ j < 12 then iZ 0 else if a = 3 ∧ j = 0 then iZ 0 else if a = 2 ∧ j < 61 then iZ 0 else if a = 1 ∧ j = 9 then iZ w else if a = 1 ∧ j = 8 then iZ 0 else if a = 1 ∧ j = 7 then iZ 0 else if a = 1 ∧ j = 6 then iZ 0 else if a = 1 ∧ j = 5 then iZ 0 else if a = 1 ∧ j = 4 then iZ s else if a = 1 ∧ j = 3 then iZ h else if a = 1 ∧ j = 2 then iZ w else if a = 1 ∧ j = 1 then iZ bd else if a = 1 ∧ j = 0 then iZ 1 else I a j := fun a j => by
    unfold shC flI
    simp only [setI_at]
  have hF : FV I J (shC I bd w h s) J := fun a ha hb => ⟨by
    funext j
    rw [at_]
    rw [if_neg (by omega), if_neg (by omega), if_neg (by omega), if_neg (by omega), if_neg (by omega), if_neg (by omega), if_neg (by omega), if_neg (by omega), if_neg (by omega), if_neg (by omega), if_neg (by omega), if_neg (by omega), if_neg (by omega), if_neg (by omega), if_neg (by omega), if_neg (by omega), if_neg (by omega)], rfl⟩
  have hv := FV_vC hF
  refine QI_mk (m_ship r1 r2 r3 r4 (fun _ => ?_) (fun q => absurd hg q))
  have sc : ∀ j, j < 14 → shV (vC I) bd w h s 266 j = shS bd w h s j := fun j hj => by unfold shV; rw [if_pos ⟨rfl, hj⟩]
  have s67 : ∀ j, j < 13 → shV (vC I) bd w h s 267 j = 0 := fun j hj => by unfold shV; rw [if_neg (by omega), if_pos ⟨rfl, hj⟩]
  have n0 : nP (shV (vC I) bd w h s) = 0 ∧ nC (shV (vC I) bd w h s) = 0 ∧ nD (shV (vC I) bd w h s) = 0 ∧ nO (shV (vC I) bd w h s) = 0 ∧ nL (shV (vC I) bd w h s) = 0 := by
    unfold nP nC nD nO nL
    rw [sc 9 (by omega), sc 10 (by omega), sc 11 (by omega), sc 12 (by omega), sc 13 (by omega)]
    exact ⟨rfl, rfl, rfl, rfl, rfl⟩
  obtain ⟨n1, n2, n3, n4, n5⟩ := n0
  obtain ⟨t1, t2, t3, t4⟩ := hg
  have et : totZ (shV (vC I) bd w h s) 0 = w := by
    unfold totZ
    rw [n1, n2, sc 2 (by omega)]
    show w + 0 + 0 + 0 = w
    omega
  refine ⟨rfl, _, J, A, rfl, Inv_upd (v := shV (vC I) bd w h s) hh hF ?_ JF_refl ?_ ?_ (sc 0 (by omega)) ?_ ?_ ?_⟩
  · intro a ha
    funext j
    unfold shM
    rw [if_neg (by omega), if_neg (by omega)]
  · refine RS_of ?_ ?_ ⟨?_, ?_, ?_⟩ ⟨?_, ?_⟩ ⟨?_, ?_⟩ ⟨?_, ?_⟩ ⟨?_, ?_⟩
    · unfold RSs
      rw [et, sc 1 (by omega), sc 2 (by omega), sc 3 (by omega), sc 4 (by omega), sc 5 (by omega), sc 6 (by omega), sc 7 (by omega), sc 8 (by omega)]
      refine ⟨?_, ?_, ?_, ?_, ?_, ?_, ?_, ?_, ?_, ?_⟩ <;> (rw [at_]; simp [shS])
    · intro m hm
      show shC I bd w h s 2 m = _
      rw [at_]
      have : armZ (shV (vC I) bd w h s) m = 0 := by
        unfold armZ
        split
        · exact s67 12 (by omega)
        · rw [s67 _ (by omega), s67 _ (by omega)]; simp
      rw [this]
      simp
      omega
    · rw [n1]; show shC I bd w h s 3 0 = _; rw [at_]; simp
    · intro k hk; rw [n1] at hk; omega
    · intro k _ hk
      show shC I bd w h s 11 k = _
      rw [at_]
      simp [hk]
    · rw [n2]; show shC I bd w h s 15 0 = _; rw [at_]; simp
    · intro k hk; rw [n2] at hk; omega
    · rw [n3]; show shC I bd w h s 21 0 = _; rw [at_]; simp
    · intro k hk; rw [n3] at hk; omega
    · rw [n4]; show shC I bd w h s 26 0 = _; rw [at_]; simp
    · intro k hk; rw [n4] at hk; omega
    · rw [n5]; show shC I bd w h s 31 0 = _; rw [at_]; simp
    · intro k hk; rw [n5] at hk; omega
  · funext a j
    show (if 266 ≤ a ∧ a ≤ 289 then vI (shM (shC I bd w h s) bd w h s) a j else 0) = (if a = 266 ∧ j < 14 then shS bd w h s j else if a = 267 ∧ j < 13 then 0 else (if 266 ≤ a ∧ a ≤ 289 then vI I a j else 0))
    by_cases ha : 266 ≤ a ∧ a ≤ 289
    · rw [if_pos ha, if_pos ha]
      unfold vI shM
      by_cases h1 : a = 266 ∧ j < 14
      · rw [if_pos h1, if_pos h1, z_toInt (by unfold shS; omega) (by unfold shS; omega)]
      · rw [if_neg h1, if_neg h1]
        by_cases h2 : a = 267 ∧ j < 13
        · rw [if_pos h2, if_pos h2]; rfl
        · rw [if_neg h2, if_neg h2, (hF a (by omega) (by omega)).1]
    · rw [if_neg ha, if_neg (by omega), if_neg (by omega), if_neg ha]
  · refine ⟨?_, ⟨s67 0 (by omega), fun k hk => by rw [s67 k (by omega)]; omega⟩, fun k hk => by rw [n1] at hk; omega, fun k hk => by rw [n2] at hk; omega⟩
    unfold WfS
    rw [sc 1 (by omega), sc 2 (by omega), sc 3 (by omega), sc 4 (by omega), sc 5 (by omega), sc 6 (by omega), sc 7 (by omega), sc 8 (by omega), sc 9 (by omega), sc 10 (by omega), sc 11 (by omega), sc 12 (by omega), sc 13 (by omega)]
    unfold shS
    simp
    omega
  · exact ⟨fun k hk => by rw [n3] at hk; omega, fun k hk => by rw [n4] at hk; omega, fun k hk => by rw [n5] at hk; omega⟩
  · rw [sc 8 (by omega)]
    unfold shS
    simp
end OP8
