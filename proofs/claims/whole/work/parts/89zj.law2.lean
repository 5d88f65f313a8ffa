/-! ===== the law's loop, its start, the goal (made by genlaw.py) ===== -/
section LAW2
variable {E : Nat × (Nat → Int32)} {I : Nat → Nat → Int32} {J : Nat → Nat → Int64} {A : Nat → Option Nat} {Q : Option Value → am_M → Prop} {i : Nat}
set_option maxRecDepth 100000 in
theorem lw_body (hi : i + 6 < E.1) (hL : E.1 ≤ 3584) (h : Inv I J) (hz : ZO (mm I J A)) (hN : ∀ I' J' A', Inv I' J' → ZO (mm I' J' A') → wp E 1000 264 1657 [(0, .float 2000), (1, .ref 0), (2, .ref 265), (3, .int (iZ i))] [] (mm I' J' A') Q) : wp E 1000 264 18 [(0, .float 2000), (1, .ref 0), (2, .ref 265), (3, .int (iZ i))] [] (mm I J A) Q := by
  have c0 : ¬ Int32.ofNat E.1 - iZ 7 < iZ (i : Int) := by
    have e : Int32.ofNat E.1 = iZ (E.1 : Int) := (iZ_nat E.1).symm
    rw [e]
    ((try simp (disch := omega) only [z_i8, z_i16, z_of, z_ofN, z_lofN, z_0, z_1, z_m1, z_l0, z_l1, iZ_add, iZ_sub, iZ_mul, iZ_neg, lZ_add, lZ_sub, lZ_mul, lZ_neg, z_div, z_ldiv, z_l, z_i, z_lt, z_le, z_eq, z_llt, z_lle, z_leq, z_cgt, z_cge, z_clt, z_cle, z_ceq, z_cl, z_nat, Int.toNat_natCast, mm_I, mm_J, z_cln, z_abs, z_max, z_min, z_lmax, z_lmin, z_sin, Int.cast_ofNat_Int, uI_I, uI_J, uL_I, uL_J, uA_I, uA_J, sI_eq, sI_ne, sL_eq, sL_ne, up_eq, up_ne, uL_eq, uL_ne, z_toInt, Int.reduceToNat]) <;> omega)
  have in0 : vp_in (iZ (i : Int)) E.1 := z_in (by omega) (by omega) (by omega)
  refine wf (hs := [216, 269, 302, 377, 410, 443, 496, 549, 602, 635, 698, 721, 734, 767, 790, 804, 828, 851, 874, 907, 941, 974, 997, 1020, 1043, 1066, 1109, 1152, 1195, 1248, 1291, 1324, 1357, 1390, 1433, 1476, 1499, 1522, 1555, 1588, 1611, 1634, 1657]) 40 18 (by decide) (wF c0 (And.intro in0 ?_))
  by_cases hx : (E.2 (iZ (i : Int)).toNatClampNeg &&& iZ 63).toInt < 0 ∨ 41 < (E.2 (iZ (i : Int)).toNatClampNeg &&& iZ 63).toInt
  · refine wtd hx rfl ?_
    refine wp_keys [0, 1, 2, 3] rfl rfl ?_
    exact hN I J A h hz
  · obtain ⟨n, hn⟩ : ∃ n : Nat, (E.2 (iZ (i : Int)).toNatClampNeg &&& iZ 63).toInt = n := ⟨(E.2 (iZ (i : Int)).toNatClampNeg &&& iZ 63).toInt.toNat, by omega⟩
    have n41 : n ≤ 41 := by omega
    have hc : n = 0 ∨ n = 1 ∨ n = 2 ∨ n = 3 ∨ n = 4 ∨ n = 5 ∨ n = 6 ∨ n = 7 ∨ n = 8 ∨ n = 9 ∨ n = 10 ∨ n = 11 ∨ n = 12 ∨ n = 13 ∨ n = 14 ∨ n = 15 ∨ n = 16 ∨ n = 17 ∨ n = 18 ∨ n = 19 ∨ n = 20 ∨ n = 21 ∨ n = 22 ∨ n = 23 ∨ n = 24 ∨ n = 25 ∨ n = 26 ∨ n = 27 ∨ n = 28 ∨ n = 29 ∨ n = 30 ∨ n = 31 ∨ n = 32 ∨ n = 33 ∨ n = 34 ∨ n = 35 ∨ n = 36 ∨ n = 37 ∨ n = 38 ∨ n = 39 ∨ n = 40 ∨ n = 41 := by omega
    rcases hc with rfl | rfl | rfl | rfl | rfl | rfl | rfl | rfl | rfl | rfl | rfl | rfl | rfl | rfl | rfl | rfl | rfl | rfl | rfl | rfl | rfl | rfl | rfl | rfl | rfl | rfl | rfl | rfl | rfl | rfl | rfl | rfl | rfl | rfl | rfl | rfl | rfl | rfl | rfl | rfl | rfl | rfl
    · refine wtb 0 (hn.trans (by omega)) rfl rfl ?_
      refine wp_keys [0, 1, 2, 3] rfl rfl ?_
      exact lw_ship hi hL h hz hN
    · refine wtb 1 (hn.trans (by omega)) rfl rfl ?_
      refine wp_keys [0, 1, 2, 3] rfl rfl ?_
      exact lw_form hi hL h hz hN
    · refine wtb 2 (hn.trans (by omega)) rfl rfl ?_
      refine wp_keys [0, 1, 2, 3] rfl rfl ?_
      exact lw_place hi hL h hz hN
    · refine wtb 3 (hn.trans (by omega)) rfl rfl ?_
      refine wp_keys [0, 1, 2, 3] rfl rfl ?_
      exact lw_water hi hL h hz hN
    · refine wtb 4 (hn.trans (by omega)) rfl rfl ?_
      refine wp_keys [0, 1, 2, 3] rfl rfl ?_
      exact lw_walls hi hL h hz hN
    · refine wtb 5 (hn.trans (by omega)) rfl rfl ?_
      refine wp_keys [0, 1, 2, 3] rfl rfl ?_
      exact lw_cargo hi hL h hz hN
    · refine wtb 6 (hn.trans (by omega)) rfl rfl ?_
      refine wp_keys [0, 1, 2, 3] rfl rfl ?_
      exact lw_door hi hL h hz hN
    · refine wtb 7 (hn.trans (by omega)) rfl rfl ?_
      refine wp_keys [0, 1, 2, 3] rfl rfl ?_
      exact lw_port hi hL h hz hN
    · refine wtb 8 (hn.trans (by omega)) rfl rfl ?_
      refine wp_keys [0, 1, 2, 3] rfl rfl ?_
      exact lw_sets hi hL h hz hN
    · refine wtb 9 (hn.trans (by omega)) rfl rfl ?_
      refine wp_keys [0, 1, 2, 3] rfl rfl ?_
      exact lw_feed hi hL h hz hN
    · refine wtb 10 (hn.trans (by omega)) rfl rfl ?_
      refine wp_keys [0, 1, 2, 3] rfl rfl ?_
      exact lw_end hi hL h hz hN
    · refine wtb 11 (hn.trans (by omega)) rfl rfl ?_
      refine wp_keys [0, 1, 2, 3] rfl rfl ?_
      exact lw_plan hi hL h hz hN
    · refine wtb 12 (hn.trans (by omega)) rfl rfl ?_
      refine wp_keys [0, 1, 2, 3] rfl rfl ?_
      exact lw_run hi hL h hz hN
    · refine wtb 13 (hn.trans (by omega)) rfl rfl ?_
      refine wp_keys [0, 1, 2, 3] rfl rfl ?_
      exact lw_tells hi hL h hz hN
    · refine wtb 14 (hn.trans (by omega)) rfl rfl ?_
      refine wp_keys [0, 1, 2, 3] rfl rfl ?_
      exact lw_up hi hL h hz hN
    · refine wtb 15 (hn.trans (by omega)) rfl rfl ?_
      refine wp_keys [0, 1, 2, 3] rfl rfl ?_
      exact lw_turn hi hL h hz hN
    · refine wtb 16 (hn.trans (by omega)) rfl rfl ?_
      refine wp_keys [0, 1, 2, 3] rfl rfl ?_
      exact lw_rest hi hL h hz hN
    · refine wtb 17 (hn.trans (by omega)) rfl rfl ?_
      refine wp_keys [0, 1, 2, 3] rfl rfl ?_
      exact lw_lever hi hL h hz hN
    · refine wtb 18 (hn.trans (by omega)) rfl rfl ?_
      refine wp_keys [0, 1, 2, 3] rfl rfl ?_
      exact lw_of hi hL h hz hN
    · refine wtb 19 (hn.trans (by omega)) rfl rfl ?_
      refine wp_keys [0, 1, 2, 3] rfl rfl ?_
      exact lw_flows hi hL h hz hN
    · refine wtb 20 (hn.trans (by omega)) rfl rfl ?_
      refine wp_keys [0, 1, 2, 3] rfl rfl ?_
      exact lw_inside hi hL h hz hN
    · refine wtb 21 (hn.trans (by omega)) rfl rfl ?_
      refine wp_keys [0, 1, 2, 3] rfl rfl ?_
      exact lw_outside hi hL h hz hN
    · refine wtb 22 (hn.trans (by omega)) rfl rfl ?_
      refine wp_keys [0, 1, 2, 3] rfl rfl ?_
      exact lw_slid hi hL h hz hN
    · refine wtb 23 (hn.trans (by omega)) rfl rfl ?_
      refine wp_keys [0, 1, 2, 3] rfl rfl ?_
      exact lw_sinks hi hL h hz hN
    · refine wtb 24 (hn.trans (by omega)) rfl rfl ?_
      refine wp_keys [0, 1, 2, 3] rfl rfl ?_
      exact lw_parts hi hL h hz hN
    · refine wtb 25 (hn.trans (by omega)) rfl rfl ?_
      refine wp_keys [0, 1, 2, 3] rfl rfl ?_
      exact lw_carried hi hL h hz hN
    · refine wtb 26 (hn.trans (by omega)) rfl rfl ?_
      refine wp_keys [0, 1, 2, 3] rfl rfl ?_
      exact lw_order hi hL h hz hN
    · refine wtb 27 (hn.trans (by omega)) rfl rfl ?_
      refine wp_keys [0, 1, 2, 3] rfl rfl ?_
      exact lw_ahead hi hL h hz hN
    · refine wtb 28 (hn.trans (by omega)) rfl rfl ?_
      refine wp_keys [0, 1, 2, 3] rfl rfl ?_
      exact lw_saved hi hL h hz hN
    · refine wtb 29 (hn.trans (by omega)) rfl rfl ?_
      refine wp_keys [0, 1, 2, 3] rfl rfl ?_
      exact lw_hoses hi hL h hz hN
    · refine wtb 30 (hn.trans (by omega)) rfl rfl ?_
      refine wp_keys [0, 1, 2, 3] rfl rfl ?_
      exact lw_ice hi hL h hz hN
    · refine wtb 31 (hn.trans (by omega)) rfl rfl ?_
      refine wp_keys [0, 1, 2, 3] rfl rfl ?_
      exact lw_load hi hL h hz hN
    · refine wtb 32 (hn.trans (by omega)) rfl rfl ?_
      refine wp_keys [0, 1, 2, 3] rfl rfl ?_
      exact lw_night hi hL h hz hN
    · refine wtb 33 (hn.trans (by omega)) rfl rfl ?_
      refine wp_keys [0, 1, 2, 3] rfl rfl ?_
      exact lw_guess hi hL h hz hN
    · refine wtb 34 (hn.trans (by omega)) rfl rfl ?_
      refine wp_keys [0, 1, 2, 3] rfl rfl ?_
      exact lw_best hi hL h hz hN
    · refine wtb 35 (hn.trans (by omega)) rfl rfl ?_
      refine wp_keys [0, 1, 2, 3] rfl rfl ?_
      exact lw_slop hi hL h hz hN
    · refine wtb 36 (hn.trans (by omega)) rfl rfl ?_
      refine wp_keys [0, 1, 2, 3] rfl rfl ?_
      exact lw_still hi hL h hz hN
    · refine wtb 37 (hn.trans (by omega)) rfl rfl ?_
      refine wp_keys [0, 1, 2, 3] rfl rfl ?_
      exact lw_floods hi hL h hz hN
    · refine wtb 38 (hn.trans (by omega)) rfl rfl ?_
      refine wp_keys [0, 1, 2, 3] rfl rfl ?_
      exact lw_leaves hi hL h hz hN
    · refine wtb 39 (hn.trans (by omega)) rfl rfl ?_
      refine wp_keys [0, 1, 2, 3] rfl rfl ?_
      exact lw_count hi hL h hz hN
    · refine wtb 40 (hn.trans (by omega)) rfl rfl ?_
      refine wp_keys [0, 1, 2, 3] rfl rfl ?_
      exact lw_image hi hL h hz hN
    · refine wtb 41 (hn.trans (by omega)) rfl rfl ?_
      refine wp_keys [0, 1, 2, 3] rfl rfl ?_
      exact lw_back hi hL h hz hN
set_option maxRecDepth 100000 in
theorem lw_loop (hL : E.1 ≤ 3584) (hQ : ∀ I' J' A', Q (some (.int 1)) (mm I' J' A')) : ∀ (m i : Nat) (I : Nat → Nat → Int32) (J : Nat → Nat → Int64) (A : Nat → Option Nat) (x : Int32), E.1 ≤ i + m → i ≤ 4000 → Inv I J → ZO (mm I J A) → x = iZ i → wp E 1000 264 18 [(0, .float 2000), (1, .ref 0), (2, .ref 265), (3, .int x)] [] (mm I J A) Q := by
  intro m
  induction m with
  | zero =>
    intro i I J A x hm hi h hz e
    subst e
    have c0 : Int32.ofNat E.1 - iZ 7 < iZ (i : Int) := by
      have e : Int32.ofNat E.1 = iZ (E.1 : Int) := (iZ_nat E.1).symm
      rw [e]
      ((try simp (disch := omega) only [z_i8, z_i16, z_of, z_ofN, z_lofN, z_0, z_1, z_m1, z_l0, z_l1, iZ_add, iZ_sub, iZ_mul, iZ_neg, lZ_add, lZ_sub, lZ_mul, lZ_neg, z_div, z_ldiv, z_l, z_i, z_lt, z_le, z_eq, z_llt, z_lle, z_leq, z_cgt, z_cge, z_clt, z_cle, z_ceq, z_cl, z_nat, Int.toNat_natCast, mm_I, mm_J, z_cln, z_abs, z_max, z_min, z_lmax, z_lmin, z_sin, Int.cast_ofNat_Int, uI_I, uI_J, uL_I, uL_J, uA_I, uA_J, sI_eq, sI_ne, sL_eq, sL_ne, up_eq, up_ne, uL_eq, uL_ne, z_toInt, Int.reduceToNat]) <;> omega)
    exact wf (hs := []) 30 18 (by decide) (wt c0 (And.intro rfl (hQ I J A)))
  | succ m ih =>
    intro i I J A x hm hi h hz e
    subst e
    by_cases q : i + 6 < E.1
    · refine lw_body q hL h hz (fun I' J' A' h' hz' => ?_)
      refine wf (hs := [18]) 20 1657 (by decide) ?_
      refine wp_keys [0, 1, 2, 3] rfl rfl ?_
      exact ih (i + 7) I' J' A' _ (by omega) (by omega) h' hz' (iZ_add i 7)
    · have c0 : Int32.ofNat E.1 - iZ 7 < iZ (i : Int) := by
        have e : Int32.ofNat E.1 = iZ (E.1 : Int) := (iZ_nat E.1).symm
        rw [e]
        ((try simp (disch := omega) only [z_i8, z_i16, z_of, z_ofN, z_lofN, z_0, z_1, z_m1, z_l0, z_l1, iZ_add, iZ_sub, iZ_mul, iZ_neg, lZ_add, lZ_sub, lZ_mul, lZ_neg, z_div, z_ldiv, z_l, z_i, z_lt, z_le, z_eq, z_llt, z_lle, z_leq, z_cgt, z_cge, z_clt, z_cle, z_ceq, z_cl, z_nat, Int.toNat_natCast, mm_I, mm_J, z_cln, z_abs, z_max, z_min, z_lmax, z_lmin, z_sin, Int.cast_ofNat_Int, uI_I, uI_J, uL_I, uL_J, uA_I, uA_J, sI_eq, sI_ne, sL_eq, sL_ne, up_eq, up_ne, uL_eq, uL_ne, z_toInt, Int.reduceToNat]) <;> omega)
      exact wf (hs := []) 30 18 (by decide) (wt c0 (And.intro rfl (hQ I J A)))
theorem ZO_0 : ZO am_M0 := fun a t n i h _ => by
  have h : ([] : List am_L)[a]? = some (.inr (t, n)) := h
  simp at h
set_option maxRecDepth 100000 in
theorem lw_start (hL : E.1 ≤ 3584) (hQ : ∀ I' J' A', Q (some (.int 1)) (mm I' J' A')) : wp E 1000 264 0 [(0, .float 2000)] [] am_M0 Q := by
  obtain ⟨M2, I, J, A, hl, hrec, h1, h2, hv⟩ := cx_ex
  have z1 : ZO cx_M1 := zo_new ZO_0
  have k1 := wpC_zo z1 (h1 E)
  have S : wp E 1000 264 4 [(0, .float 2000)] [.ref 0, .ref 0] cx_M1 Q := by
    refine (wr_c (E := E) (d := 999) (k := 264) (pc := 4) (lo := [(0, .float 2000)]) (st := [.ref 0, .ref 0]) (M := cx_M1) (Q := Q) (j := 82) (as := [.ref 0]) (rest := [.ref 0]) rfl rfl rfl rfl rfl rfl rfl).mpr ?_
    refine wpC_mono k1 (fun r M hh => ?_)
    obtain ⟨⟨hr0, hM0⟩, z2⟩ := hh
    rw [hM0] at z2
    rw [hr0, hM0]
    have z3 : ZO (am_new M2 (.inl 12)) := zo_new z2
    have k2 := wpC_zo z3 (h2 E)
    have T : wp E 1000 264 12 [(1, .ref 0), (0, .float 2000)] [.ref M2.1.length, .ref M2.1.length] (am_new M2 (.inl 12)) Q := by
      rw [hl]
      have hc : am_c (.invokespecial 12) 138 1 [.ref 265, .ref 265] (am_new M2 (.inl 12)) = some (138, [.ref 265], [.ref 265]) := if_pos ⟨by decide, by decide, by decide, by decide, by decide, hrec⟩
      refine (wr_c (E := E) (d := 999) (k := 264) (pc := 12) (lo := [(1, .ref 0), (0, .float 2000)]) (st := [.ref 265, .ref 265]) (M := am_new M2 (.inl 12)) (Q := Q) (j := 138) (as := [.ref 265]) (rest := [.ref 265]) rfl rfl rfl rfl rfl rfl hc).mpr ?_
      refine wpC_mono k2 (fun r M hh => ?_)
      obtain ⟨⟨rfl, rfl⟩, z4⟩ := hh
      refine wf (hs := [18]) 20 15 (by decide) ?_
      refine wp_keys [0, 1, 2, 3] rfl rfl ?_
      exact lw_loop hL hQ E.1 0 I J A _ (by omega) (by omega) hv z4 rfl
    exact wf (hs := [12]) 20 7 (by decide) T
  exact wf (hs := [4]) 20 0 (by decide) S
theorem am_goal : am_Goal := by
  intro L xs hL
  obtain ⟨n, r, M', h1, h2⟩ := lw_start (E := (L, xs)) (Q := fun r M => r = some (.int 1) ∧ ∃ I J A, M = mm I J A) hL (fun I J A => ⟨rfl, I, J, A, rfl⟩)
  obtain ⟨rfl, I, J, A, rfl⟩ := h2
  refine ⟨n, _, h1, ?_, ?_⟩
  · show am_lay0.length ≤ 600000
    decide +kernel
  · show (am_lay0.map am_sz).sum ≤ 7302250
    decide +kernel
end LAW2
