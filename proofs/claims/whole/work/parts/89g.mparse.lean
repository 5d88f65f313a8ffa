/-! ===== the reference reads values and sums ===== -/
def MFr (r : Nat) (I0 I : Nat → Nat → Int32) : Prop := (∀ a, a ≠ 265 → a ≠ 291 → a ≠ 292 → I a = I0 a) ∧ (∀ j, j ≠ 28 → j ≠ 29 → j ≠ 32 → j ≠ 34 → I 265 j = I0 265 j) ∧ (∀ j, j < 300 * r → I 291 j = I0 291 j ∧ I 292 j = I0 292 j)
def MX (I0 I : Nat → Nat → Int32) (r q : Nat) (f c : Int) (L : List Int) : Prop := I 265 28 = iZ q ∧ I 265 29 = iZ f ∧ I 265 34 = iZ c ∧ I 265 32 = iZ (L.length : Nat) ∧ (∀ k, k < L.length → ENT (L.getD k 0) (vI I 291 (300 * r + k)) (vI I 292 (300 * r + k))) ∧ MFr r I0 I ∧ (0 ≤ f ∧ f ≤ 1000000)
/-- what a piece of the reference's reading leaves -/
def PRx (T : Nat → Int) (t : Nat) (f : Int) (L : List Int) (res : pR) (q' : Nat) (f' c' : Int) (L' : List Int) : Prop := q' ≤ 500 ∧ (f ≠ 0 → f' = f) ∧ (f = 0 → match res with
  | .ok s' => f' = 0 ∧ q' ≤ t ∧ skp T t q' = s'.1 ∧ c' = (s'.2.1 : Nat) ∧ L' = s'.2.2
  | .error e => f' = e ∧ e ≠ 0)
section MPARSE
variable {E : Nat × (Nat → Int32)} {d : Nat} {I I0 I1 : Nat → Nat → Int32} {J : Nat → Nat → Int64} {A : Nat → Option Nat} {Q : Option Value → am_M → Prop} {M : am_M} {T : Nat → Int} {t r q : Nat} {f c : Int} {L : List Int}
theorem MX_TM (hT : TM I0 T t) (h : MX I0 I r q f c L) : TM I T t := ⟨hT.1, by rw [h.2.2.2.2.2.1.2.1 27 (by omega) (by omega) (by omega) (by omega)]; exact hT.2.1, fun i hi => ⟨(hT.2.2 i hi).1, by rw [h.2.2.2.2.2.1.1 290 (by omega) (by omega) (by omega)]; exact (hT.2.2 i hi).2⟩⟩
theorem MX_q {q' : Nat} (h : MX I0 I r q f c L) : MX I0 (setI I 265 28 (iZ q')) r q' f c L := by
  obtain ⟨h1, h2, h3, h4, h5, ⟨g1, g2, g3⟩, h6⟩ := h
  have at1 : ∀ a j, a ≠ 265 ∨ j ≠ 28 → setI I 265 28 (iZ q') a j = I a j := fun a j w => by rw [setI_at, if_neg (by omega)]
  refine ⟨by rw [setI_at, if_pos ⟨rfl, rfl⟩], by rw [at1 265 29 (by omega)]; exact h2, by rw [at1 265 34 (by omega)]; exact h3, by rw [at1 265 32 (by omega)]; exact h4, fun k hk => ?_, ⟨fun a q1 q2 q3 => ?_, fun j q1 q2 q3 q4 => by rw [at1 265 j (by omega)]; exact g2 j q1 q2 q3 q4, fun j hj => by rw [at1 291 j (by omega), at1 292 j (by omega)]; exact g3 j hj⟩, h6⟩
  · unfold vI; rw [at1 291 _ (by omega), at1 292 _ (by omega)]; exact h5 k hk
  · rw [← g1 a q1 q2 q3]; funext j; exact at1 a j (by omega)
theorem MX_f {f' : Int} (h : MX I0 I r q f c L) (hf : 0 ≤ f' ∧ f' ≤ 1000000) : MX I0 (setI I 265 29 (iZ f')) r q f' c L := by
  obtain ⟨h1, h2, h3, h4, h5, ⟨g1, g2, g3⟩, h6⟩ := h
  have at1 : ∀ a j, a ≠ 265 ∨ j ≠ 29 → setI I 265 29 (iZ f') a j = I a j := fun a j w => by rw [setI_at, if_neg (by omega)]
  refine ⟨by rw [at1 265 28 (by omega)]; exact h1, by rw [setI_at, if_pos ⟨rfl, rfl⟩], by rw [at1 265 34 (by omega)]; exact h3, by rw [at1 265 32 (by omega)]; exact h4, fun k hk => ?_, ⟨fun a q1 q2 q3 => ?_, fun j q1 q2 q3 q4 => by rw [at1 265 j (by omega)]; exact g2 j q1 q2 q3 q4, fun j hj => by rw [at1 291 j (by omega), at1 292 j (by omega)]; exact g3 j hj⟩, hf⟩
  · unfold vI; rw [at1 291 _ (by omega), at1 292 _ (by omega)]; exact h5 k hk
  · rw [← g1 a q1 q2 q3]; funext j; exact at1 a j (by omega)
theorem MX_c {c' : Int} (h : MX I0 I r q f c L) : MX I0 (setI I 265 34 (iZ c')) r q f c' L := by
  obtain ⟨h1, h2, h3, h4, h5, ⟨g1, g2, g3⟩, h6⟩ := h
  have at1 : ∀ a j, a ≠ 265 ∨ j ≠ 34 → setI I 265 34 (iZ c') a j = I a j := fun a j w => by rw [setI_at, if_neg (by omega)]
  refine ⟨by rw [at1 265 28 (by omega)]; exact h1, by rw [at1 265 29 (by omega)]; exact h2, by rw [setI_at, if_pos ⟨rfl, rfl⟩], by rw [at1 265 32 (by omega)]; exact h4, fun k hk => ?_, ⟨fun a q1 q2 q3 => ?_, fun j q1 q2 q3 q4 => by rw [at1 265 j (by omega)]; exact g2 j q1 q2 q3 q4, fun j hj => by rw [at1 291 j (by omega), at1 292 j (by omega)]; exact g3 j hj⟩, h6⟩
  · unfold vI; rw [at1 291 _ (by omega), at1 292 _ (by omega)]; exact h5 k hk
  · rw [← g1 a q1 q2 q3]; funext j; exact at1 a j (by omega)
theorem m_fails {k : Int} {pl : Nat} {x y : Int32} (h : MX I0 I r q f c L) (hk : 0 ≤ k ∧ k ≤ 10) (hp : pl ≤ 1000) (ex : x = iZ k) (ey : y = iZ pl) (hQ : ∀ I', MX I0 I' r q (if f = 0 then flt k pl else f) c L → Q none (mm I' J A)) : wpC E d 191 [.ref 265, .int x, .int y] (mm I J A) Q := by
  subst ex; subst ey
  have f0 := h.2.2.2.2.2.2
  have h29 : I 265 29 = iZ f := h.2.1
  by_cases g : f = 0
  · rw [if_pos g] at hQ
    have c0 : I 265 29 = 0 := by rw [h29, g]; rfl
    have H := hQ (setI I 265 29 (iZ (flt k pl))) (MX_f h (by unfold flt; omega))
    have e : iZ 1 + iZ 8 * iZ (pl : Int) + iZ k = iZ (flt k pl) := by rw [iZ_mul, iZ_add, iZ_add]; rfl
    rw [← e] at H
    exact wc (hs := []) 20 (by decide) (wt c0 H)
  · rw [if_neg g] at hQ
    have c0 : ¬ I 265 29 = 0 := by
      rw [h29]
      show ¬ iZ f = iZ 0
      ((try simp (disch := omega) only [z_i8, z_i16, z_of, z_ofN, z_lofN, z_0, z_1, z_m1, z_l0, z_l1, iZ_add, iZ_sub, iZ_mul, iZ_neg, lZ_add, lZ_sub, lZ_mul, lZ_neg, z_div, z_ldiv, z_l, z_i, z_lt, z_le, z_eq, z_llt, z_lle, z_leq, z_cgt, z_cge, z_clt, z_cle, z_ceq, z_cl, z_nat, Int.toNat_natCast, mm_I, mm_J, z_cln, z_abs, z_max, z_min, z_lmax, z_lmin, z_sin, Int.cast_ofNat_Int, uI_I, uI_J, uL_I, uL_J, uA_I, uA_J, sI_eq, sI_ne, sL_eq, sL_ne, up_eq, up_ne, uL_eq, uL_ne, z_toInt, Int.reduceToNat]) <;> omega)
    have H := hQ (setI I 265 29 (I 265 29)) (by rw [setI_same]; exact h)
    exact wc (hs := []) 20 (by decide) (wF c0 H)
theorem m_entry {a b x : Int} {y z : Int32} (hr : r < 6) (h : MX I0 I r q f c L) (h30 : I0 265 30 = iZ r) (hl : f = 0 → L.length < 300) (hE : f = 0 → ENT x a b) (ha : -2147483648 ≤ a ∧ a ≤ 2147483647) (hb : -2147483648 ≤ b ∧ b ≤ 2147483647) (ey : y = iZ a) (ez : z = iZ b) (hQ : ∀ I', MX I0 I' r q f c (if f = 0 then L ++ [x] else L) → Q none (mm I' J A)) : wpC E d 197 [.ref 265, .int y, .int z] (mm I J A) Q := by
  subst ey; subst ez
  obtain ⟨h1, h2, h3, h4, h5, ⟨g1, g2, g3⟩, h6⟩ := id h
  by_cases g : f = 0
  · rw [if_pos g] at hQ
    have l3 := hl g
    have c0 : I 265 29 = 0 := by rw [h2, g]; rfl
    have e30 : I 265 30 = iZ r := by rw [g2 30 (by omega) (by omega) (by omega) (by omega)]; exact h30
    have ei : iZ 300 * I 265 30 + I 265 32 = iZ ((300 * r + L.length : Nat) : Int) := by rw [e30, h4, iZ_mul, iZ_add]; congr 1
    have cl : (iZ 300 * I 265 30 + I 265 32).toNatClampNeg = 300 * r + L.length := by rw [ei]; exact z_cln (by omega)
    have hin : vp_in (iZ 300 * I 265 30 + I 265 32) 1800 := by rw [ei]; exact z_in (by omega) (by omega) (by omega)
    obtain ⟨I2, hI2⟩ : ∃ I2, I2 = setI (setI (setI I 291 (iZ 300 * I 265 30 + I 265 32).toNatClampNeg (iZ a)) 292 (iZ 300 * I 265 30 + I 265 32).toNatClampNeg (iZ b)) 265 32 (I 265 32 + iZ 1) := ⟨_, rfl⟩
    have at1 : ∀ a' j, I2 a' j = if a' = 265 ∧ j = 32 then iZ ((L.length + 1 : Nat) : Int) else if a' = 292 ∧ j = 300 * r + L.length then iZ b else if a' = 291 ∧ j = 300 * r + L.length then iZ a else I a' j := fun a' j => by
      rw [hI2, setI_at, setI_at, setI_at, cl, h4, iZ_add]; rfl
    have H := hQ I2 ⟨by rw [at1, if_neg (by omega), if_neg (by omega), if_neg (by omega)]; exact h1, by rw [at1, if_neg (by omega), if_neg (by omega), if_neg (by omega)]; exact h2, by rw [at1, if_neg (by omega), if_neg (by omega), if_neg (by omega)]; exact h3, ?_, fun k hk => ?_, ⟨fun a' q1 q2 q3 => ?_, fun j q1 q2 q3 q4 => by rw [at1, if_neg (by omega), if_neg (by omega), if_neg (by omega)]; exact g2 j q1 q2 q3 q4, fun j hj => ?_⟩, h6⟩
    · rw [hI2] at H
      exact wc (hs := []) 40 (by decide) (wt c0 (And.intro hin (And.intro hin H)))
    · rw [at1, if_pos ⟨rfl, rfl⟩, List.length_append]; rfl
    · rw [List.length_append] at hk
      have l1 : [x].length = 1 := rfl
      rw [l1] at hk
      unfold vI
      rw [List.getD_eq_getElem?_getD]
      by_cases w : k = L.length
      · have e1 : I2 291 (300 * r + k) = iZ a := by rw [at1, if_neg (by omega), if_neg (by omega), if_pos ⟨rfl, by omega⟩]
        have e2 : I2 292 (300 * r + k) = iZ b := by rw [at1, if_neg (by omega), if_pos ⟨rfl, by omega⟩]
        rw [e1, e2, w, List.getElem?_append_right (Nat.le_refl _), Nat.sub_self, iZ_toInt ha, iZ_toInt hb]
        exact hE g
      · have e1 : I2 291 (300 * r + k) = I 291 (300 * r + k) := by rw [at1, if_neg (by omega), if_neg (by omega), if_neg (by omega)]
        have e2 : I2 292 (300 * r + k) = I 292 (300 * r + k) := by rw [at1, if_neg (by omega), if_neg (by omega), if_neg (by omega)]
        rw [e1, e2, List.getElem?_append_left (by omega), ← List.getD_eq_getElem?_getD]
        exact h5 k (by omega)
    · rw [← g1 a' q1 q2 q3]; funext j
      rw [at1, if_neg (by omega), if_neg (by omega), if_neg (by omega)]
    · rw [at1, at1, if_neg (by omega), if_neg (by omega), if_neg (by omega), if_neg (by omega), if_neg (by omega), if_neg (by omega)]; exact g3 j hj
  · rw [if_neg g] at hQ
    have c0 : ¬ I 265 29 = 0 := by
      rw [h2]
      show ¬ iZ f = iZ 0
      ((try simp (disch := omega) only [z_i8, z_i16, z_of, z_ofN, z_lofN, z_0, z_1, z_m1, z_l0, z_l1, iZ_add, iZ_sub, iZ_mul, iZ_neg, lZ_add, lZ_sub, lZ_mul, lZ_neg, z_div, z_ldiv, z_l, z_i, z_lt, z_le, z_eq, z_llt, z_lle, z_leq, z_cgt, z_cge, z_clt, z_cle, z_ceq, z_cl, z_nat, Int.toNat_natCast, mm_I, mm_J, z_cln, z_abs, z_max, z_min, z_lmax, z_lmin, z_sin, Int.cast_ofNat_Int, uI_I, uI_J, uL_I, uL_J, uA_I, uA_J, sI_eq, sI_ne, sL_eq, sL_ne, up_eq, up_ne, uL_eq, uL_ne, z_toInt, Int.reduceToNat]) <;> omega)
    exact wc (hs := []) 20 (by decide) (wF c0 (hQ I h))
theorem m_counted {pl : Nat} {x : Int32} (h : MX I0 I r q f c L) (hc : f = 0 → 0 ≤ c ∧ c ≤ 60) (hp : pl ≤ 1000) (ex : x = iZ pl) (hQ : ∀ I', MX I0 I' r q (if f = 0 ∧ c = 60 then flt 3 pl else f) (c + 1) L → Q none (mm I' J A)) : wpC E (d + 1) 198 [.ref 265, .int x] (mm I J A) Q := by
  subst ex
  have h34 : I 265 34 = iZ c := h.2.2.1
  have nx : ∀ I' f', MX I0 I' r q f' c L → (∀ I'', MX I0 I'' r q f' (c + 1) L → Q none (mm I'' J A)) → wp E (d + 1) 198 15 [(0, .ref 265), (1, .int (iZ pl))] [] (mm I' J A) Q := fun I' f' h' o => by
    have H := o (setI I' 265 34 (iZ (c + 1))) (MX_c h')
    have e : I' 265 34 + iZ 1 = iZ (c + 1) := by rw [h'.2.2.1, iZ_add]
    rw [← e] at H
    exact wf (hs := []) 20 15 (by decide) H
  by_cases g : I 265 34 = iZ 60
  · refine wc (hs := [15]) 20 (by decide) (wt g (And.intro rfl (m_fails h (by omega) hp rfl rfl (fun I' h' => nx I' _ h' ?_))))
    by_cases f0 : f = 0
    · have c60 : c = 60 := by
        have := hc f0
        rw [h34] at g
        simp (disch := omega) only [z_i8, z_i16, z_of, z_ofN, z_lofN, z_0, z_1, z_m1, z_l0, z_l1, iZ_add, iZ_sub, iZ_mul, iZ_neg, lZ_add, lZ_sub, lZ_mul, lZ_neg, z_div, z_ldiv, z_l, z_i, z_lt, z_le, z_eq, z_llt, z_lle, z_leq, z_cgt, z_cge, z_clt, z_cle, z_ceq, z_cl, z_nat, Int.toNat_natCast, mm_I, mm_J, z_cln, z_abs, z_max, z_min, z_lmax, z_lmin, z_sin, Int.cast_ofNat_Int, uI_I, uI_J, uL_I, uL_J, uA_I, uA_J, sI_eq, sI_ne, sL_eq, sL_ne, up_eq, up_ne, uL_eq, uL_ne, z_toInt, Int.reduceToNat] at g
        exact g
      rw [if_pos ⟨f0, c60⟩] at hQ
      rw [if_pos f0]; exact hQ
    · rw [if_neg (fun w => f0 w.1)] at hQ
      rw [if_neg f0]; exact hQ
  · have nc : ¬ (f = 0 ∧ c = 60) := fun w => g (by rw [h34, w.2])
    rw [if_neg nc] at hQ
    exact wc (hs := [15]) 20 (by decide) (wF g (nx I f h hQ))
end MPARSE
