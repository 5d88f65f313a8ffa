/-! ===== the reference reads a plan ===== -/
def FP (r : Nat) (I0 I : Nat → Nat → Int32) : Prop := (∀ a, a ≠ 265 → a ≠ 291 → a ≠ 292 → (a < 294 ∨ 301 < a) → I a = I0 a) ∧ (∀ j, j ≠ 28 → j ≠ 29 → j ≠ 32 → j ≠ 33 → j ≠ 34 → j ≠ 35 → I 265 j = I0 265 j) ∧ (∀ j, j < 300 * r → I 291 j = I0 291 j ∧ I 292 j = I0 292 j) ∧ (∀ a j, 294 ≤ a → a ≤ 300 → j < 12 * r → I a j = I0 a j)
def RRi (I : Nat → Nat → Int32) (n : Nat) (rc : Nat → Int) : Prop := ∃ k, k < 5 ∧ rc 1 = (cdW (ctx k) : Nat) ∧ I 294 n = iZ k ∧ (k < 3 → I 295 n = iZ (rc 2) ∧ I 296 n = iZ (rc 3)) ∧ (k ≠ 4 → I 297 n = iZ (rc 4)) ∧ I 298 n = iZ (rc 5) ∧ I 299 n = iZ (rc 6) ∧ I 300 n = iZ (rc 7)
theorem RRi_eq {I I' : Nat → Nat → Int32} {n : Nat} {rc : Nat → Int} (h : RRi I n rc) (e : ∀ a, 294 ≤ a → a ≤ 300 → I' a n = I a n) : RRi I' n rc := by
  obtain ⟨k, h1, h2, h3, h4, h5, h6, h7, h8⟩ := h
  exact ⟨k, h1, h2, by rw [e 294 (by omega) (by omega)]; exact h3, fun w => by rw [e 295 (by omega) (by omega), e 296 (by omega) (by omega)]; exact h4 w, fun w => by rw [e 297 (by omega) (by omega)]; exact h5 w, by rw [e 298 (by omega) (by omega)]; exact h6, by rw [e 299 (by omega) (by omega)]; exact h7, by rw [e 300 (by omega) (by omega)]; exact h8⟩
section MPLAN
variable {E : Nat × (Nat → Int32)} {d : Nat} {I I0 I1 I' : Nat → Nat → Int32} {J : Nat → Nat → Int64} {A : Nat → Option Nat} {Q : Option Value → am_M → Prop} {M : am_M} {T : Nat → Int} {t r q i : Nat} {f c : Int} {L : List Int} {s : pS}
theorem FP_c (h : FP r I0 I) (h' : MFc r i I I') : FP r I0 I' := ⟨fun a q1 q2 q3 q4 => (h'.1 a q1 q2 q3 q4).trans (h.1 a q1 q2 q3 q4), fun j q1 q2 q3 q4 q5 q6 => (h'.2.1 j q1 q2 q3 q4 q5 q6).trans (h.2.1 j q1 q2 q3 q4 q5 q6), fun j hj => ⟨(h'.2.2.1 j hj).1.trans (h.2.2.1 j hj).1, (h'.2.2.1 j hj).2.trans (h.2.2.1 j hj).2⟩, fun a j q1 q2 q3 => (h'.2.2.2 a j q1 q2 (by omega)).trans (h.2.2.2 a j q1 q2 q3)⟩
theorem FP_28 {j : Nat} {x : Int32} (h : FP r I0 I) (hj : j = 28 ∨ j = 29) : FP r I0 (setI I 265 j x) := by
  have at1 : ∀ b i, b ≠ 265 ∨ i ≠ j → setI I 265 j x b i = I b i := fun b i w => by rw [setI_at, if_neg (by omega)]
  refine ⟨fun a q1 q2 q3 q4 => ?_, fun j q1 q2 q3 q4 q5 q6 => by rw [at1 265 j (by omega)]; exact h.2.1 j q1 q2 q3 q4 q5 q6, fun j hj => by rw [at1 291 j (by omega), at1 292 j (by omega)]; exact h.2.2.1 j hj, fun a j q1 q2 q3 => by rw [at1 a j (by omega)]; exact h.2.2.2 a j q1 q2 q3⟩
  rw [← h.1 a q1 q2 q3 q4]; funext i; exact at1 a i (by omega)
theorem FP_TM (hT : TM I0 T t) (h : FP r I0 I) : TM I T t := ⟨hT.1, by rw [h.2.1 27 (by omega) (by omega) (by omega) (by omega) (by omega) (by omega)]; exact hT.2.1, fun i hi => ⟨(hT.2.2 i hi).1, by rw [h.1 290 (by omega) (by omega) (by omega) (by omega)]; exact (hT.2.2 i hi).2⟩⟩
theorem FP_r {q' : Nat} {f' c' : Int} {L' : List Int} (h : FP r I0 I) (h' : MX I I' r q' f' c' L') : FP r I0 I' ∧ I' 265 33 = I 265 33 ∧ ∀ a, 294 ≤ a → a ≤ 300 → I' a = I a := by
  have fr := h'.2.2.2.2.2.1
  exact ⟨⟨fun a q1 q2 q3 q4 => (fr.1 a q1 q2 q3).trans (h.1 a q1 q2 q3 q4), fun j q1 q2 q3 q4 q5 q6 => (fr.2.1 j q1 q2 q3 q5).trans (h.2.1 j q1 q2 q3 q4 q5 q6), fun j hj => ⟨(fr.2.2 j hj).1.trans (h.2.2.1 j hj).1, (fr.2.2 j hj).2.trans (h.2.2.1 j hj).2⟩, fun a j q1 q2 q3 => by rw [fr.1 a (by omega) (by omega) (by omega)]; exact h.2.2.2 a j q1 q2 q3⟩, fr.2.1 33 (by omega) (by omega) (by omega) (by omega), fun a q1 q2 => fr.1 a (by omega) (by omega) (by omega)⟩
/-- behind a clause with a fault -/
theorem m_pl57E {e : Int} {x1 : Int32} (hT : TM I0 T t) (hF : FP r I0 I) (h29 : I 265 29 = iZ e) (he : 0 < e ∧ e ≤ 1000000) (h28 : I 265 28 = iZ (q : Nat)) (hq : q ≤ 600) (e1 : x1 = iZ i)
    (hE : ∀ I', I' 265 29 = iZ e → FP r I0 I' → wp E (d + 12) 212 137 [(0, .ref 265), (1, .int (iZ (i + 1 : Nat)))] [] (mm I' J A) Q) : wp E (d + 12) 212 57 [(0, .ref 265), (1, .int x1)] [] (mm I J A) Q := by
  subst e1
  have t4 := hT.1
  refine wf (hs := [64]) 20 57 (by decide) (And.intro rfl (m_blanks (d := d + 10) (FP_TM hT hF) h28 (by omega) ?_))
  obtain ⟨I2, hI2⟩ : ∃ I2, I2 = setI I 265 28 (iZ (skp T t q : Nat)) := ⟨_, rfl⟩
  rw [← hI2]
  have F2 : FP r I0 I2 := by rw [hI2]; exact FP_28 hF (Or.inl rfl)
  have e29 : I2 265 29 = iZ e := by rw [hI2, setI_at, if_neg (by omega)]; exact h29
  have c0 : ¬ I2 265 29 = 0 := by
    rw [e29]
    show ¬ iZ e = iZ 0
    ((try simp (disch := omega) only [z_i8, z_i16, z_of, z_ofN, z_lofN, z_0, z_1, z_m1, z_l0, z_l1, iZ_add, iZ_sub, iZ_mul, iZ_neg, lZ_add, lZ_sub, lZ_mul, lZ_neg, z_div, z_ldiv, z_l, z_i, z_lt, z_le, z_eq, z_llt, z_lle, z_leq, z_cgt, z_cge, z_clt, z_cle, z_ceq, z_cl, z_nat, Int.toNat_natCast, mm_I, mm_J, z_cln, z_abs, z_max, z_min, z_lmax, z_lmin, z_sin, Int.cast_ofNat_Int, uI_I, uI_J, uL_I, uL_J, uA_I, uA_J, sI_eq, sI_ne, sL_eq, sL_ne, up_eq, up_ne, uL_eq, uL_ne, z_toInt, Int.reduceToNat]) <;> omega)
  have N : ∀ x, wp E (d + 12) 212 137 [(0, .ref 265), (1, .int (iZ (i + 1 : Nat)))] [] (mm (setI I2 265 28 x) J A) Q := fun x => hE _ (by rw [setI_at, if_neg (by omega)]; exact e29) (FP_28 F2 (Or.inl rfl))
  have ei : iZ (i : Int) + iZ 1 = iZ ((i + 1 : Nat) : Int) := iZ_add i 1
  refine wp_keys [0, 1] rfl rfl ?_
  refine wf (hs := [48]) 60 64 (by decide) (wF c0 (wF c0 ?_))
  refine wp_keys [0, 1, 2] rfl rfl ?_
  refine wf (hs := [137]) 20 48 (by decide) (wt rfl ?_)
  refine wp_keys [0, 1] rfl rfl ?_
  have N := N (I2 265 28 + iZ 1)
  rw [← ei] at N
  exact N
end MPLAN
