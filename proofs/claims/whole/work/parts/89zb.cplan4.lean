section CPLAN4
variable {E : Nat × (Nat → Int32)} {d t r n : Nat} {I : Nat → Nat → Int32} {J : Nat → Nat → Int64} {A : Nat → Option Nat} {Q : Option Value → am_M → Prop} {T : Nat → Int}
theorem c_planE (hr : r < 6) (h3 : I 0 3 = iZ r) (hT : TP I T t) (h5 : I 0 5 = iZ t) (he : ∀ e, rdZ T t = .error e → 0 < e ∧ e ≤ 1000000)
    (h1 : ∀ m s' acc I', rdZ T t = .ok (s', acc) → CB I' T t m s' → acc.length ≤ 12 → I' 224 0 = iZ (acc.length : Nat) → (∀ j, j < acc.length → RCi I' j (acc.getD j (fun _ => 0))) → (∀ a, a < 223 ∨ 236 ≤ a → I' a = I a) → wp E (d + 27) 96 41 [(0, .ref 0)] [] (mm (setI I' 0 5 (iZ 0)) J A) Q)
    (h0 : ∀ e I', rdZ T t = .error e → (∀ a, a < 223 ∨ 236 ≤ a → I' a = I a) → Q (some (.int (iZ (-2 - e)))) (mm (setI I' 0 5 (iZ 0)) J A)) : wpC E (d + 27) 96 [.ref 0] (mm I J A) Q := by
  have c6 : I 0 3 < iZ 6 := by rw [h3]; ((try simp (disch := omega) only [z_i8, z_i16, z_of, z_ofN, z_lofN, z_0, z_1, z_m1, z_l0, z_l1, iZ_add, iZ_sub, iZ_mul, iZ_neg, lZ_add, lZ_sub, lZ_mul, lZ_neg, z_div, z_ldiv, z_l, z_i, z_lt, z_le, z_eq, z_llt, z_lle, z_leq, z_cgt, z_cge, z_clt, z_cle, z_ceq, z_cl, z_nat, Int.toNat_natCast, mm_I, mm_J, z_cln, z_abs, z_max, z_min, z_lmax, z_lmin, z_sin, Int.cast_ofNat_Int, uI_I, uI_J, uL_I, uL_J, uA_I, uA_J, sI_eq, sI_ne, sL_eq, sL_ne, up_eq, up_ne, uL_eq, uL_ne, z_toInt, Int.reduceToNat]) <;> omega)
  refine wc (hs := [41]) 60 (by decide) (wt c6 (And.intro rfl (c_read (d := d) hT h5 (fun m s' acc I' b1 b2 b3 b4 b5 b6 => wt rfl ?_) (fun e I' b1 b2 => ?_))))
  · refine wp_keys [0] rfl rfl ?_
    exact h1 m s' acc I' b1 b2 b3 b4 b5 b6
  · have := he e b1
    have c0 : ¬ iZ e = iZ 0 := by ((try simp (disch := omega) only [z_i8, z_i16, z_of, z_ofN, z_lofN, z_0, z_1, z_m1, z_l0, z_l1, iZ_add, iZ_sub, iZ_mul, iZ_neg, lZ_add, lZ_sub, lZ_mul, lZ_neg, z_div, z_ldiv, z_l, z_i, z_lt, z_le, z_eq, z_llt, z_lle, z_leq, z_cgt, z_cge, z_clt, z_cle, z_ceq, z_cl, z_nat, Int.toNat_natCast, mm_I, mm_J, z_cln, z_abs, z_max, z_min, z_lmax, z_lmin, z_sin, Int.cast_ofNat_Int, uI_I, uI_J, uL_I, uL_J, uA_I, uA_J, sI_eq, sI_ne, sL_eq, sL_ne, up_eq, up_ne, uL_eq, uL_ne, z_toInt, Int.reduceToNat]) <;> omega)
    have H := h0 e I' b1 b2
    rw [← iZ_sub] at H
    exact wF c0 H
end CPLAN4
