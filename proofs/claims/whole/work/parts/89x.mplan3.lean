section MPLAN3
variable {E : Nat × (Nat → Int32)} {d : Nat} {I0 I : Nat → Nat → Int32} {J : Nat → Nat → Int64} {A : Nat → Option Nat} {Q : Option Value → am_M → Prop} {M : am_M} {T : Nat → Int} {t r : Nat}
/-- the end: a plan read -/
theorem m_pl137 {n : Nat} {x1 : Int32} (hr : r < 6) (hn : n ≤ 13) (e1 : x1 = iZ n) (h29 : I 265 29 = 0) (h30 : I 265 30 = iZ r) (h31 : I 265 31 = iZ r)
    (hQ : ∀ I', I' = setI (setI (setI I 265 27 (iZ 0)) 293 r (iZ n)) 265 31 (iZ (r + 1 : Nat)) → Q (some (.int (iZ r))) (mm I' J A)) : wp E d 212 137 [(0, .ref 265), (1, .int x1)] [] (mm I J A) Q := by
  subst e1
  have hin : vp_in (I 265 30) 6 := by rw [h30]; exact z_in (by omega) (by omega) (by omega)
  have cl : (I 265 30).toNatClampNeg = r := by rw [h30]; exact z_cln (by omega)
  have e31 : I 265 31 + iZ 1 = iZ ((r + 1 : Nat) : Int) := by rw [h31]; exact iZ_add r 1
  have e32 : iZ ((r + 1 : Nat) : Int) - iZ 1 = iZ r := by rw [iZ_sub]; congr 1; omega
  have H := hQ _ rfl
  rw [← e32, ← e31] at H
  have H2 : Q (some (.int (I 265 31 + iZ 1 - iZ 1))) (mm (setI (setI (setI I 265 27 (iZ 0)) 293 (I 265 30).toNatClampNeg (iZ n)) 265 31 (I 265 31 + iZ 1)) J A) := by rw [cl]; exact H
  have c0 : I 265 29 ≤ 0 := by rw [h29]; decide
  exact wf (hs := []) 60 137 (by decide) (And.intro hin (wt h29 (wt c0 H2)))
/-- the end: a fault -/
theorem m_pl137E {n : Nat} {e : Int} {x1 : Int32} (hr : r < 6) (hn : n ≤ 13) (e1 : x1 = iZ n) (h29 : I 265 29 = iZ e) (he : 0 < e ∧ e ≤ 1000000) (h30 : I 265 30 = iZ r) (h31 : I 265 31 = iZ r)
    (hQ : ∀ I', I' = setI (setI (setI I 265 27 (iZ 0)) 293 r (iZ n)) 265 31 (iZ (r : Nat)) → Q (some (.int (iZ (-2 - e)))) (mm I' J A)) : wp E d 212 137 [(0, .ref 265), (1, .int x1)] [] (mm I J A) Q := by
  subst e1
  have hin : vp_in (I 265 30) 6 := by rw [h30]; exact z_in (by omega) (by omega) (by omega)
  have cl : (I 265 30).toNatClampNeg = r := by rw [h30]; exact z_cln (by omega)
  have e31 : I 265 31 + iZ 0 = iZ ((r : Nat) : Int) := by rw [h31]; exact (iZ_add r 0).trans (by congr 1)
  have H := hQ _ rfl
  rw [← iZ_sub, ← e31, ← h29] at H
  have H2 : Q (some (.int (iZ (-2) - I 265 29))) (mm (setI (setI (setI I 265 27 (iZ 0)) 293 (I 265 30).toNatClampNeg (iZ n)) 265 31 (I 265 31 + iZ 0)) J A) := by rw [cl]; exact H
  have c1 : ¬ I 265 29 = 0 := by
    rw [h29]
    show ¬ iZ e = iZ 0
    ((try simp (disch := omega) only [z_i8, z_i16, z_of, z_ofN, z_lofN, z_0, z_1, z_m1, z_l0, z_l1, iZ_add, iZ_sub, iZ_mul, iZ_neg, lZ_add, lZ_sub, lZ_mul, lZ_neg, z_div, z_ldiv, z_l, z_i, z_lt, z_le, z_eq, z_llt, z_lle, z_leq, z_cgt, z_cge, z_clt, z_cle, z_ceq, z_cl, z_nat, Int.toNat_natCast, mm_I, mm_J, z_cln, z_abs, z_max, z_min, z_lmax, z_lmin, z_sin, Int.cast_ofNat_Int, uI_I, uI_J, uL_I, uL_J, uA_I, uA_J, sI_eq, sI_ne, sL_eq, sL_ne, up_eq, up_ne, uL_eq, uL_ne, z_toInt, Int.reduceToNat]) <;> omega)
  have c0 : ¬ I 265 29 ≤ 0 := by
    rw [h29]
    show ¬ iZ e ≤ iZ 0
    ((try simp (disch := omega) only [z_i8, z_i16, z_of, z_ofN, z_lofN, z_0, z_1, z_m1, z_l0, z_l1, iZ_add, iZ_sub, iZ_mul, iZ_neg, lZ_add, lZ_sub, lZ_mul, lZ_neg, z_div, z_ldiv, z_l, z_i, z_lt, z_le, z_eq, z_llt, z_lle, z_leq, z_cgt, z_cge, z_clt, z_cle, z_ceq, z_cl, z_nat, Int.toNat_natCast, mm_I, mm_J, z_cln, z_abs, z_max, z_min, z_lmax, z_lmin, z_sin, Int.cast_ofNat_Int, uI_I, uI_J, uL_I, uL_J, uA_I, uA_J, sI_eq, sI_ne, sL_eq, sL_ne, up_eq, up_ne, uL_eq, uL_ne, z_toInt, Int.reduceToNat]) <;> omega)
  exact wf (hs := []) 60 137 (by decide) (And.intro hin (wF c1 (wF c0 H2)))
theorem m_plan6 (h31 : I 265 31 = iZ 6) (hQ : Q (some (.int (iZ (-1)))) (mm I J A)) : wpC E (d + 12) 212 [.ref 265] (mm I J A) Q := wc (hs := [48]) 60 (by decide) (wt h31 hQ)
theorem m_plan (hT : TM I T t) (hr : r < 6) (h31 : I 265 31 = iZ r) (h36 : I 265 36 = iZ 19)
    (hOK : ∀ s' acc I1 I' q', rdZ T t = .ok (s', acc) → MX I' I' r q' 0 (s'.2.1 : Nat) s'.2.2 → acc.length ≤ 12 → (∀ j, j < acc.length → RRi I' (12 * r + j) (acc.getD j (fun _ => 0))) → FP r I1 I' → (∀ a j, a ≠ 265 ∨ (j ≠ 28 ∧ j ≠ 29 ∧ j ≠ 30 ∧ j ≠ 32 ∧ j ≠ 33 ∧ j ≠ 34) → I1 a j = I a j) → GBk t 0 s' → Q (some (.int (iZ r))) (mm (setI (setI (setI I' 265 27 (iZ 0)) 293 r (iZ (acc.length : Nat))) 265 31 (iZ (r + 1 : Nat))) J A))
    (hER : ∀ e I1 I' n, rdZ T t = .error e → (0 < e ∧ e ≤ 1000000) → FP r I1 I' → (∀ a j, a ≠ 265 ∨ (j ≠ 28 ∧ j ≠ 29 ∧ j ≠ 30 ∧ j ≠ 32 ∧ j ≠ 33 ∧ j ≠ 34) → I1 a j = I a j) → Q (some (.int (iZ (-2 - e)))) (mm (setI (setI (setI I' 265 27 (iZ 0)) 293 r (iZ (n : Nat))) 265 31 (iZ (r : Nat))) J A)) : wpC E (d + 12) 212 [.ref 265] (mm I J A) Q := by
  have t4 := hT.1
  have c6 : ¬ I 265 31 = iZ 6 := by rw [h31]; ((try simp (disch := omega) only [z_i8, z_i16, z_of, z_ofN, z_lofN, z_0, z_1, z_m1, z_l0, z_l1, iZ_add, iZ_sub, iZ_mul, iZ_neg, lZ_add, lZ_sub, lZ_mul, lZ_neg, z_div, z_ldiv, z_l, z_i, z_lt, z_le, z_eq, z_llt, z_lle, z_leq, z_cgt, z_cge, z_clt, z_cle, z_ceq, z_cl, z_nat, Int.toNat_natCast, mm_I, mm_J, z_cln, z_abs, z_max, z_min, z_lmax, z_lmin, z_sin, Int.cast_ofNat_Int, uI_I, uI_J, uL_I, uL_J, uA_I, uA_J, sI_eq, sI_ne, sL_eq, sL_ne, up_eq, up_ne, uL_eq, uL_ne, z_toInt, Int.reduceToNat]) <;> omega)
  refine wc (hs := [48]) 80 (by decide) (wF c6 ?_)
  obtain ⟨I1, hI1⟩ : ∃ I1, I1 = setI (setI (setI (setI (setI (setI I 265 30 (I 265 31)) 265 28 (iZ 0)) 265 29 (iZ 0)) 265 32 (iZ 0)) 265 33 (iZ 0)) 265 34 (iZ 0) := ⟨_, rfl⟩
  have at1 : ∀ a j, a ≠ 265 ∨ (j ≠ 28 ∧ j ≠ 29 ∧ j ≠ 30 ∧ j ≠ 32 ∧ j ≠ 33 ∧ j ≠ 34) → I1 a j = I a j := fun a j w => by
    rw [hI1, setI_at, if_neg (by omega), setI_at, if_neg (by omega), setI_at, if_neg (by omega), setI_at, if_neg (by omega), setI_at, if_neg (by omega), setI_at, if_neg (by omega)]
  have e30 : I1 265 30 = iZ r := by rw [hI1]; exact h31
  have hT1 : TM I1 T t := ⟨t4, by rw [at1 265 27 (by omega)]; exact hT.2.1, fun i hi => ⟨(hT.2.2 i hi).1, by rw [at1 290 i (by omega)]; exact (hT.2.2 i hi).2⟩⟩
  have F1 : FP r I1 I1 := ⟨fun _ _ _ _ _ => rfl, fun _ _ _ _ _ _ _ => rfl, fun _ _ => ⟨rfl, rfl⟩, fun _ _ _ _ _ => rfl⟩
  have h1 : MX I1 I1 r 0 0 ((0 : Nat) : Int) [] := ⟨by rw [hI1]; rfl, by rw [hI1]; rfl, by rw [hI1]; rfl, by rw [hI1]; rfl, fun k hk => absurd hk (Nat.not_lt_zero k), ⟨fun _ _ _ _ => rfl, fun _ _ _ _ _ => rfl, fun _ _ => ⟨rfl, rfl⟩⟩, by omega⟩
  have g1 : GBk t 0 (skp T t 0, 0, []) := ⟨(skp_b (T := T) (Nat.zero_le t)).2.1, by show 0 ≤ 60; omega, by show 3 * ((0 : Nat) : Int) + 0 ≤ 6 * ((0 : Nat) : Int) + (skp T t 0 : Int); omega⟩
  have N : wp E (d + 12) 212 48 [(0, .ref 265), (1, .int (iZ 0)), (2, .int (iZ 1))] [] (mm I1 J A) Q := by
    refine m_planL (d := d) (RES := rdZ T t) hT1 hr e30 (by rw [at1 265 36 (by omega)]; exact h36) (fun s' acc I2 q2 hv h2 la rows F2 g2 => ?_) (fun e I2 n hv h29 he F2 hn => ?_) 13 0 (skp T t 0, 0, []) [] I1 0 _ (by omega) (by omega) rfl h1 F1 (by rw [hI1]; rfl) (Nat.zero_le t) rfl g1 (fun j hj => absurd hj (Nat.not_lt_zero j)) rfl rfl
    · refine m_pl137 hr (by omega) rfl h2.2.1 (by rw [F2.2.1 30 (by omega) (by omega) (by omega) (by omega) (by omega) (by omega)]; exact e30) (by rw [F2.2.1 31 (by omega) (by omega) (by omega) (by omega) (by omega) (by omega), at1 265 31 (by omega)]; exact h31) (fun I3 e3 => ?_)
      rw [e3]
      exact hOK s' acc I1 I2 q2 hv h2 la rows F2 at1 g2
    · refine m_pl137E hr hn rfl h29 he (by rw [F2.2.1 30 (by omega) (by omega) (by omega) (by omega) (by omega) (by omega)]; exact e30) (by rw [F2.2.1 31 (by omega) (by omega) (by omega) (by omega) (by omega) (by omega), at1 265 31 (by omega)]; exact h31) (fun I3 e3 => ?_)
      rw [e3]
      exact hER e I1 I2 n hv he F2 at1
  rw [hI1] at N
  refine wp_keys [0, 1, 2] rfl rfl ?_
  exact N
end MPLAN3
