section CPLAN2
variable {E : Nat × (Nat → Int32)} {d t n : Nat} {I : Nat → Nat → Int32} {J : Nat → Nat → Int64} {A : Nat → Option Nat} {Q : Option Value → am_M → Prop}
set_option maxHeartbeats 8000000 in
theorem c_cpPl2 (ht : t = 168 ∨ t = 177 ∨ t = 186 ∨ t = 195 ∨ t = 204 ∨ t = 213) (hn : n ≤ 400) (h8 : I 224 8 = iZ n) (hQ : Q none (mm (cpI I 232 (t + 8) 0 0 n) J A)) : wp E (d + 1) 37 121 [(0, .ref t), (1, .ref 224)] [] (mm I J A) Q := by
  have cl : (I 224 8).toNatClampNeg = n := by rw [h8]; exact z_cln (by omega)
  have c0 : ¬ I 224 8 < 0 := by
    rw [h8]
    show ¬ iZ (n : Int) < iZ 0
    ((try simp (disch := omega) only [z_i8, z_i16, z_of, z_ofN, z_lofN, z_0, z_1, z_m1, z_l0, z_l1, iZ_add, iZ_sub, iZ_mul, iZ_neg, lZ_add, lZ_sub, lZ_mul, lZ_neg, z_div, z_ldiv, z_l, z_i, z_lt, z_le, z_eq, z_llt, z_lle, z_leq, z_cgt, z_cge, z_clt, z_cle, z_ceq, z_cl, z_nat, Int.toNat_natCast, mm_I, mm_J, z_cln, z_abs, z_max, z_min, z_lmax, z_lmin, z_sin, Int.cast_ofNat_Int, uI_I, uI_J, uL_I, uL_J, uA_I, uA_J, sI_eq, sI_ne, sL_eq, sL_ne, up_eq, up_ne, uL_eq, uL_ne, z_toInt, Int.reduceToNat]) <;> omega)
  have a1 : am_cat [] ≤ 8 ∧ ¬ (iZ 0 : Int32) < 0 ∧ ¬ (iZ 0 : Int32) < 0 ∧ ¬ I 224 8 < 0 := ⟨by decide, by decide, by decide, c0⟩
  have a2 : (iZ 0 : Int32).toNatClampNeg + (I 224 8).toNatClampNeg ≤ 400 ∧ (iZ 0 : Int32).toNatClampNeg + (I 224 8).toNatClampNeg ≤ 400 := by
    have z0 : (iZ 0 : Int32).toNatClampNeg = 0 := by decide
    rw [cl, z0]; omega
  rw [← cl] at hQ
  rcases ht with rfl | rfl | rfl | rfl | rfl | rfl
  all_goals exact wf (hs := []) 40 121 (by decide) (And.intro (Nat.succ_pos _) (And.intro a1 (And.intro a2 hQ)))
end CPLAN2
