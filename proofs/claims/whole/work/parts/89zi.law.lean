/-! ===== the law, call by call (made by genlaw.py) ===== -/
section LAW
variable {E : Nat × (Nat → Int32)} {I : Nat → Nat → Int32} {J : Nat → Nat → Int64} {A : Nat → Option Nat} {Q : Option Value → am_M → Prop} {i : Nat}
theorem rng32 (x : Int32) : -2147483648 ≤ x.toInt ∧ x.toInt ≤ 2147483647 := ⟨by have := x.le_toInt; omega, by have := x.toInt_lt; omega⟩
theorem cmp_self (z : Int64) : lg_cmp z z = 0 := (lg_cmp_eq z z).mpr rfl
theorem lwI {n j : Nat} (hj : i + j < n) (hn : n ≤ 3584) : vp_in (iZ (i : Int) + iZ (j : Int)) n := by
  rw [iZ_add]
  exact z_in (by omega) (by omega) (by omega)
theorem ol_ship {x1 x2 x3 x4 : Int32} (h : Inv I J) : wpC E 999 83 [.ref 0, .int x1, .int x2, .int x3, .int x4] (mm I J A) (QI E 999 146 [.int x1, .int x2, .int x3, .int x4]) := by
  have w := op_ship (E := E) (d := 996) (A := A) h (rng32 x1) (rng32 x2) (rng32 x3) (rng32 x4)
  rw [iZ_of x1, iZ_of x2, iZ_of x3, iZ_of x4] at w
  exact w
theorem ol_form {x1 x2 : Int32} (h : Inv I J) : wpC E 999 84 [.ref 0, .int x1, .int x2] (mm I J A) (QI E 999 147 [.int x1, .int x2]) := by
  have w := op_form (E := E) (d := 996) (A := A) h (rng32 x1) (rng32 x2)
  rw [iZ_of x1, iZ_of x2] at w
  exact w
theorem ol_place {x1 x2 x3 x4 x5 x6 : Int32} (h : Inv I J) : wpC E 999 85 [.ref 0, .int x1, .int x2, .int x3, .int x4, .int x5, .int x6] (mm I J A) (QI E 999 148 [.int x1, .int x2, .int x3, .int x4, .int x5, .int x6]) := by
  have w := op_place (E := E) (d := 996) (A := A) h (rng32 x1) (rng32 x2) (rng32 x3) (rng32 x4) (rng32 x5) (rng32 x6)
  rw [iZ_of x1, iZ_of x2, iZ_of x3, iZ_of x4, iZ_of x5, iZ_of x6] at w
  exact w
theorem ol_water {x1 x2 : Int32} (h : Inv I J) : wpC E 999 86 [.ref 0, .int x1, .int x2] (mm I J A) (QI E 999 151 [.int x1, .int x2]) := by
  have w := op_water (E := E) (d := 996) (A := A) h (rng32 x1) (rng32 x2)
  rw [iZ_of x1, iZ_of x2] at w
  exact w
theorem ol_walls {x1 x2 : Int32} (h : Inv I J) : wpC E 999 87 [.ref 0, .int x1, .int x2] (mm I J A) (QI E 999 152 [.int x1, .int x2]) := by
  have w := op_walls (E := E) (d := 996) (A := A) h (rng32 x1) (rng32 x2)
  rw [iZ_of x1, iZ_of x2] at w
  exact w
theorem ol_cargo {x1 x2 x3 x4 : Int32} (h : Inv I J) : wpC E 999 88 [.ref 0, .int x1, .int x2, .int x3, .int x4] (mm I J A) (QI E 999 153 [.int x1, .int x2, .int x3, .int x4]) := by
  have w := op_cargo (E := E) (d := 996) (A := A) h (rng32 x1) (rng32 x2) (rng32 x3) (rng32 x4)
  rw [iZ_of x1, iZ_of x2, iZ_of x3, iZ_of x4] at w
  exact w
theorem ol_door {x1 x2 x3 x4 : Int32} (h : Inv I J) : wpC E 999 89 [.ref 0, .int x1, .int x2, .int x3, .int x4] (mm I J A) (QI E 999 155 [.int x1, .int x2, .int x3, .int x4]) := by
  have w := op_holeD (E := E) (d := 996) (A := A) h (rng32 x1) (rng32 x2) (rng32 x3) (rng32 x4)
  rw [iZ_of x1, iZ_of x2, iZ_of x3, iZ_of x4] at w
  exact w
theorem ol_port {x1 x2 x3 x4 : Int32} (h : Inv I J) : wpC E 999 90 [.ref 0, .int x1, .int x2, .int x3, .int x4] (mm I J A) (QI E 999 156 [.int x1, .int x2, .int x3, .int x4]) := by
  have w := op_holeO (E := E) (d := 996) (A := A) h (rng32 x1) (rng32 x2) (rng32 x3) (rng32 x4)
  rw [iZ_of x1, iZ_of x2, iZ_of x3, iZ_of x4] at w
  exact w
theorem ol_sets {x1 x2 : Int32} (h : Inv I J) : wpC E 999 92 [.ref 0, .int x1, .int x2] (mm I J A) (QI E 999 157 [.int x1, .int x2]) := by
  have w := op_sets (E := E) (d := 996) (A := A) h (rng32 x1) (rng32 x2)
  rw [iZ_of x1, iZ_of x2] at w
  exact w
theorem ol_feed {x1 x2 x3 x4 x5 : Int32} (h : Inv I J) : wpC E 999 93 [.ref 0, .int x1, .int x2, .int x3, .int x4, .int x5] (mm I J A) (QI E 999 186 [.int x1, .int x2, .int x3, .int x4, .int x5]) := op_feed (d := 997) h
theorem ol_end {x1 : Int32} (h : Inv I J) : wpC E 999 95 [.ref 0, .int x1] (mm I J A) (QI E 999 188 [.int x1]) := by
  have w := op_end (E := E) (d := 997) (A := A) h (rng32 x1)
  rw [iZ_of x1] at w
  exact w
theorem ol_plan (h : Inv I J) : wpC E 999 96 [.ref 0] (mm I J A) (QI E 999 212 []) := op_plan (d := 972) h
theorem ol_run {x1 x2 : Int32} (h : Inv I J) : wpC E 999 97 [.ref 0, .int x1, .int x2] (mm I J A) (QI E 999 225 [.int x1, .int x2]) := by
  have w := op_run (E := E) (d := 991) (A := A) h (rng32 x1) (rng32 x2)
  rw [iZ_of x1, iZ_of x2] at w
  exact w
theorem ol_tells {x1 : Int32} (h : Inv I J) : wpC E 999 99 [.ref 0, .int x1] (mm I J A) (QI E 999 174 [.int x1]) := by
  have w := op_tells (E := E) (d := 992) (A := A) h (rng32 x1)
  rw [iZ_of x1] at w
  exact w
theorem ol_up (h : Inv I J) : wpC E 999 100 [.ref 0] (mm I J A) (QJ E 999 175 []) := op_up (d := 992) h
theorem ol_turn {x1 : Int32} (h : Inv I J) : wpC E 999 101 [.ref 0, .int x1] (mm I J A) (QJ E 999 176 [.int x1]) := by
  have w := op_turn (E := E) (d := 992) (A := A) h (rng32 x1)
  rw [iZ_of x1] at w
  exact w
theorem ol_rest {x1 : Int32} (h : Inv I J) : wpC E 999 102 [.ref 0, .int x1] (mm I J A) (QI E 999 177 [.int x1]) := by
  have w := op_rest (E := E) (d := 992) (A := A) h (rng32 x1)
  rw [iZ_of x1] at w
  exact w
theorem ol_lever {x1 : Int32} (h : Inv I J) : wpC E 999 103 [.ref 0, .int x1] (mm I J A) (QI E 999 178 [.int x1]) := by
  have w := op_lever (E := E) (d := 992) (A := A) h (rng32 x1)
  rw [iZ_of x1] at w
  exact w
theorem ol_of {x1 x2 : Int32} (h : Inv I J) : wpC E 999 104 [.ref 0, .int x1, .int x2] (mm I J A) (QI E 999 179 [.int x1, .int x2]) := by
  have w := op_of (E := E) (d := 992) (A := A) h (rng32 x1) (rng32 x2)
  rw [iZ_of x1, iZ_of x2] at w
  exact w
theorem ol_flows {x1 x2 : Int32} (h : Inv I J) : wpC E 999 105 [.ref 0, .int x1, .int x2] (mm I J A) (QJ E 999 180 [.int x1, .int x2]) := by
  have w := op_flows (E := E) (d := 992) (A := A) h (rng32 x1) (rng32 x2)
  rw [iZ_of x1, iZ_of x2] at w
  exact w
theorem ol_inside {x1 x2 : Int32} (h : Inv I J) : wpC E 999 106 [.ref 0, .int x1, .int x2] (mm I J A) (QI E 999 183 [.int x1, .int x2]) := by
  have w := op_inside (E := E) (d := 992) (A := A) h (rng32 x1) (rng32 x2)
  rw [iZ_of x1, iZ_of x2] at w
  exact w
theorem ol_outside {x1 : Int32} (h : Inv I J) : wpC E 999 107 [.ref 0, .int x1] (mm I J A) (QI E 999 184 [.int x1]) := by
  have w := op_outside (E := E) (d := 992) (A := A) h (rng32 x1)
  rw [iZ_of x1] at w
  exact w
theorem ol_slid {x1 : Int32} (h : Inv I J) : wpC E 999 108 [.ref 0, .int x1] (mm I J A) (QI E 999 185 [.int x1]) := by
  have w := op_slid (E := E) (d := 992) (A := A) h (rng32 x1)
  rw [iZ_of x1] at w
  exact w
theorem ol_sinks {x1 : Int32} (h : Inv I J) : wpC E 999 109 [.ref 0, .int x1] (mm I J A) (QI E 999 230 [.int x1]) := by
  have w := op_sinks (E := E) (d := 992) (A := A) h (rng32 x1)
  rw [iZ_of x1] at w
  exact w
theorem ol_parts {x1 : Int32} (h : Inv I J) : wpC E 999 110 [.ref 0, .int x1] (mm I J A) (QI E 999 231 [.int x1]) := by
  have w := op_parts (E := E) (d := 992) (A := A) h (rng32 x1)
  rw [iZ_of x1] at w
  exact w
theorem ol_carried {x1 x2 x3 : Int32} (h : Inv I J) : wpC E 999 111 [.ref 0, .int x1, .int x2, .int x3] (mm I J A) (QI E 999 232 [.int x1, .int x2, .int x3]) := by
  have w := op_carried (E := E) (d := 992) (A := A) h (rng32 x1) (rng32 x2) (rng32 x3)
  rw [iZ_of x1, iZ_of x2, iZ_of x3] at w
  exact w
theorem ol_order {x1 x2 x3 : Int32} (h : Inv I J) (hz : ZO (mm I J A)) : wpC E 999 112 [.ref 0, .int x1, .int x2, .int x3] (mm I J A) (QI E 999 236 [.int x1, .int x2, .int x3]) := by
  have w := op_order (E := E) (d := 986) (A := A) h hz (rng32 x1) (rng32 x2) (rng32 x3)
  rw [iZ_of x1, iZ_of x2, iZ_of x3] at w
  exact w
theorem ol_ahead {x1 x2 x3 : Int32} (h : Inv I J) (hz : ZO (mm I J A)) : wpC E 999 113 [.ref 0, .int x1, .int x2, .int x3] (mm I J A) (QI E 999 238 [.int x1, .int x2, .int x3]) := by
  have w := op_ahead (E := E) (d := 991) (A := A) h hz (rng32 x1) (rng32 x2) (rng32 x3)
  rw [iZ_of x1, iZ_of x2, iZ_of x3] at w
  exact w
theorem ol_saved {x1 x2 x3 x4 : Int32} (h : Inv I J) (hz : ZO (mm I J A)) : wpC E 999 114 [.ref 0, .int x1, .int x2, .int x3, .int x4] (mm I J A) (QI E 999 239 [.int x1, .int x2, .int x3, .int x4]) := by
  have w := op_saved (E := E) (d := 991) (A := A) h hz (rng32 x1) (rng32 x2) (rng32 x3) (rng32 x4)
  rw [iZ_of x1, iZ_of x2, iZ_of x3, iZ_of x4] at w
  exact w
theorem ol_hoses {x1 x2 x3 : Int32} (h : Inv I J) (hz : ZO (mm I J A)) : wpC E 999 115 [.ref 0, .int x1, .int x2, .int x3] (mm I J A) (QI E 999 240 [.int x1, .int x2, .int x3]) := by
  have w := op_hoses (E := E) (d := 991) (A := A) h hz (rng32 x1) (rng32 x2) (rng32 x3)
  rw [iZ_of x1, iZ_of x2, iZ_of x3] at w
  exact w
theorem ol_ice {x1 x2 : Int32} (h : Inv I J) : wpC E 999 116 [.ref 0, .int x1, .int x2] (mm I J A) (QI E 999 241 [.int x1, .int x2]) := by
  have w := op_ice (E := E) (d := 992) (A := A) h (rng32 x1) (rng32 x2)
  rw [iZ_of x1, iZ_of x2] at w
  exact w
theorem ol_load {x1 x2 : Int32} (h : Inv I J) : wpC E 999 117 [.ref 0, .int x1, .int x2] (mm I J A) (QI E 999 242 [.int x1, .int x2]) := by
  have w := op_load (E := E) (d := 996) (A := A) h (rng32 x1) (rng32 x2)
  rw [iZ_of x1, iZ_of x2] at w
  exact w
theorem ol_night {x1 x2 : Int32} (h : Inv I J) : wpC E 999 118 [.ref 0, .int x1, .int x2] (mm I J A) (QI E 999 244 [.int x1, .int x2]) := by
  have w := op_night (E := E) (d := 993) (A := A) h (rng32 x1) (rng32 x2)
  rw [iZ_of x1, iZ_of x2] at w
  exact w
theorem ol_guess {x1 x2 x3 : Int32} (h : Inv I J) : wpC E 999 121 [.ref 0, .int x1, .int x2, .int x3] (mm I J A) (QI E 999 245 [.int x1, .int x2, .int x3]) := by
  have w := op_guess (E := E) (d := 993) (A := A) h (rng32 x1) (rng32 x2) (rng32 x3)
  rw [iZ_of x1, iZ_of x2, iZ_of x3] at w
  exact w
theorem ol_best {x1 x2 x3 : Int32} (h : Inv I J) (hz : ZO (mm I J A)) : wpC E 999 123 [.ref 0, .int x1, .int x2, .int x3] (mm I J A) (QI E 999 247 [.int x1, .int x2, .int x3]) := by
  have w := op_best (E := E) (d := 988) (A := A) h hz (rng32 x1) (rng32 x2) (rng32 x3)
  rw [iZ_of x1, iZ_of x2, iZ_of x3] at w
  exact w
theorem ol_slop {x1 : Int32} (h : Inv I J) : wpC E 999 124 [.ref 0, .int x1] (mm I J A) (QI E 999 249 [.int x1]) := by
  have w := op_slop (E := E) (d := 992) (A := A) h (rng32 x1)
  rw [iZ_of x1] at w
  exact w
theorem ol_still {x1 : Int32} (h : Inv I J) : wpC E 999 125 [.ref 0, .int x1] (mm I J A) (QI E 999 250 [.int x1]) := by
  have w := op_still (E := E) (d := 992) (A := A) h (rng32 x1)
  rw [iZ_of x1] at w
  exact w
theorem ol_floods {x1 x2 : Int32} (h : Inv I J) : wpC E 999 126 [.ref 0, .int x1, .int x2] (mm I J A) (QI E 999 251 [.int x1, .int x2]) := by
  have w := op_floods (E := E) (d := 995) (A := A) h (rng32 x1) (rng32 x2)
  rw [iZ_of x1, iZ_of x2] at w
  exact w
theorem ol_leaves {x1 x2 : Int32} (h : Inv I J) : wpC E 999 127 [.ref 0, .int x1, .int x2] (mm I J A) (QI E 999 252 [.int x1, .int x2]) := by
  have w := op_leaves (E := E) (d := 993) (A := A) h (rng32 x1) (rng32 x2)
  rw [iZ_of x1, iZ_of x2] at w
  exact w
theorem ol_count {x1 : Int32} (h : Inv I J) : wpC E 999 129 [.ref 0, .int x1] (mm I J A) (QI E 999 253 [.int x1]) := by
  have w := op_count (E := E) (d := 992) (A := A) h (rng32 x1)
  rw [iZ_of x1] at w
  exact w
theorem ol_image {x1 : Int32} (h : Inv I J) (hz : ZO (mm I J A)) : wpC E 999 130 [.ref 0, .int x1] (mm I J A) (QI E 999 228 [.int x1]) := by
  have w := op_image (E := E) (d := 996) (A := A) h hz (rng32 x1)
  rw [iZ_of x1] at w
  exact w
theorem ol_back {x1 : Int32} (h : Inv I J) (hz : ZO (mm I J A)) : wpC E 999 131 [.ref 0, .int x1] (mm I J A) (QI E 999 229 [.int x1]) := by
  have w := op_back (E := E) (d := 996) (A := A) h hz (rng32 x1)
  rw [iZ_of x1] at w
  exact w
set_option maxRecDepth 100000 in
theorem lw_ship (hi : i + 6 < E.1) (hL : E.1 ≤ 3584) (h : Inv I J) (hz : ZO (mm I J A)) (hN : ∀ I' J' A', Inv I' J' → ZO (mm I' J' A') → wp E 1000 264 1657 [(0, .float 2000), (1, .ref 0), (2, .ref 265), (3, .int (iZ i))] [] (mm I' J' A') Q) : wp E 1000 264 216 [(0, .float 2000), (1, .ref 0), (2, .ref 265), (3, .int (iZ i))] [] (mm I J A) Q := by
  refine wf (hs := [1657]) 78 216 (by decide) (And.intro (lwI (j := 1) (by omega) hL) (And.intro (lwI (j := 2) (by omega) hL) (And.intro (lwI (j := 3) (by omega) hL) (And.intro (lwI (j := 4) (by omega) hL) (And.intro rfl (wpC_mono (wpC_zo hz (ol_ship h)) (fun r M hh => ?_)))))))
  obtain ⟨⟨z, I1, J1, A1, rfl, rfl, hm⟩, hz1⟩ := hh
  refine And.intro (lwI (j := 1) (by omega) hL) (And.intro (lwI (j := 2) (by omega) hL) (And.intro (lwI (j := 3) (by omega) hL) (And.intro (lwI (j := 4) (by omega) hL) (And.intro rfl (wpC_mono (wpC_zo hz1 hm) (fun r M hh => ?_))))))
  obtain ⟨⟨rfl, I2, J2, A2, rfl, hv⟩, hz2⟩ := hh
  refine wt rfl ?_
  refine wp_keys [0, 1, 2, 3] rfl rfl ?_
  exact hN I2 J2 A2 hv hz2
set_option maxRecDepth 100000 in
theorem lw_form (hi : i + 6 < E.1) (hL : E.1 ≤ 3584) (h : Inv I J) (hz : ZO (mm I J A)) (hN : ∀ I' J' A', Inv I' J' → ZO (mm I' J' A') → wp E 1000 264 1657 [(0, .float 2000), (1, .ref 0), (2, .ref 265), (3, .int (iZ i))] [] (mm I' J' A') Q) : wp E 1000 264 269 [(0, .float 2000), (1, .ref 0), (2, .ref 265), (3, .int (iZ i))] [] (mm I J A) Q := by
  refine wf (hs := [1657]) 54 269 (by decide) (And.intro (lwI (j := 1) (by omega) hL) (And.intro (lwI (j := 2) (by omega) hL) (And.intro rfl (wpC_mono (wpC_zo hz (ol_form h)) (fun r M hh => ?_)))))
  obtain ⟨⟨z, I1, J1, A1, rfl, rfl, hm⟩, hz1⟩ := hh
  refine And.intro (lwI (j := 1) (by omega) hL) (And.intro (lwI (j := 2) (by omega) hL) (And.intro rfl (wpC_mono (wpC_zo hz1 hm) (fun r M hh => ?_))))
  obtain ⟨⟨rfl, I2, J2, A2, rfl, hv⟩, hz2⟩ := hh
  refine wt rfl ?_
  refine wp_keys [0, 1, 2, 3] rfl rfl ?_
  exact hN I2 J2 A2 hv hz2
set_option maxRecDepth 100000 in
theorem lw_place (hi : i + 6 < E.1) (hL : E.1 ≤ 3584) (h : Inv I J) (hz : ZO (mm I J A)) (hN : ∀ I' J' A', Inv I' J' → ZO (mm I' J' A') → wp E 1000 264 1657 [(0, .float 2000), (1, .ref 0), (2, .ref 265), (3, .int (iZ i))] [] (mm I' J' A') Q) : wp E 1000 264 302 [(0, .float 2000), (1, .ref 0), (2, .ref 265), (3, .int (iZ i))] [] (mm I J A) Q := by
  refine wf (hs := [1657]) 102 302 (by decide) (And.intro (lwI (j := 1) (by omega) hL) (And.intro (lwI (j := 2) (by omega) hL) (And.intro (lwI (j := 3) (by omega) hL) (And.intro (lwI (j := 4) (by omega) hL) (And.intro (lwI (j := 5) (by omega) hL) (And.intro (lwI (j := 6) (by omega) hL) (And.intro rfl (wpC_mono (wpC_zo hz (ol_place h)) (fun r M hh => ?_)))))))))
  obtain ⟨⟨z, I1, J1, A1, rfl, rfl, hm⟩, hz1⟩ := hh
  refine And.intro (lwI (j := 1) (by omega) hL) (And.intro (lwI (j := 2) (by omega) hL) (And.intro (lwI (j := 3) (by omega) hL) (And.intro (lwI (j := 4) (by omega) hL) (And.intro (lwI (j := 5) (by omega) hL) (And.intro (lwI (j := 6) (by omega) hL) (And.intro rfl (wpC_mono (wpC_zo hz1 hm) (fun r M hh => ?_))))))))
  obtain ⟨⟨rfl, I2, J2, A2, rfl, hv⟩, hz2⟩ := hh
  refine wt rfl ?_
  refine wp_keys [0, 1, 2, 3] rfl rfl ?_
  exact hN I2 J2 A2 hv hz2
set_option maxRecDepth 100000 in
theorem lw_water (hi : i + 6 < E.1) (hL : E.1 ≤ 3584) (h : Inv I J) (hz : ZO (mm I J A)) (hN : ∀ I' J' A', Inv I' J' → ZO (mm I' J' A') → wp E 1000 264 1657 [(0, .float 2000), (1, .ref 0), (2, .ref 265), (3, .int (iZ i))] [] (mm I' J' A') Q) : wp E 1000 264 377 [(0, .float 2000), (1, .ref 0), (2, .ref 265), (3, .int (iZ i))] [] (mm I J A) Q := by
  refine wf (hs := [1657]) 54 377 (by decide) (And.intro (lwI (j := 1) (by omega) hL) (And.intro (lwI (j := 2) (by omega) hL) (And.intro rfl (wpC_mono (wpC_zo hz (ol_water h)) (fun r M hh => ?_)))))
  obtain ⟨⟨z, I1, J1, A1, rfl, rfl, hm⟩, hz1⟩ := hh
  refine And.intro (lwI (j := 1) (by omega) hL) (And.intro (lwI (j := 2) (by omega) hL) (And.intro rfl (wpC_mono (wpC_zo hz1 hm) (fun r M hh => ?_))))
  obtain ⟨⟨rfl, I2, J2, A2, rfl, hv⟩, hz2⟩ := hh
  refine wt rfl ?_
  refine wp_keys [0, 1, 2, 3] rfl rfl ?_
  exact hN I2 J2 A2 hv hz2
set_option maxRecDepth 100000 in
theorem lw_walls (hi : i + 6 < E.1) (hL : E.1 ≤ 3584) (h : Inv I J) (hz : ZO (mm I J A)) (hN : ∀ I' J' A', Inv I' J' → ZO (mm I' J' A') → wp E 1000 264 1657 [(0, .float 2000), (1, .ref 0), (2, .ref 265), (3, .int (iZ i))] [] (mm I' J' A') Q) : wp E 1000 264 410 [(0, .float 2000), (1, .ref 0), (2, .ref 265), (3, .int (iZ i))] [] (mm I J A) Q := by
  refine wf (hs := [1657]) 54 410 (by decide) (And.intro (lwI (j := 1) (by omega) hL) (And.intro (lwI (j := 2) (by omega) hL) (And.intro rfl (wpC_mono (wpC_zo hz (ol_walls h)) (fun r M hh => ?_)))))
  obtain ⟨⟨z, I1, J1, A1, rfl, rfl, hm⟩, hz1⟩ := hh
  refine And.intro (lwI (j := 1) (by omega) hL) (And.intro (lwI (j := 2) (by omega) hL) (And.intro rfl (wpC_mono (wpC_zo hz1 hm) (fun r M hh => ?_))))
  obtain ⟨⟨rfl, I2, J2, A2, rfl, hv⟩, hz2⟩ := hh
  refine wt rfl ?_
  refine wp_keys [0, 1, 2, 3] rfl rfl ?_
  exact hN I2 J2 A2 hv hz2
set_option maxRecDepth 100000 in
theorem lw_cargo (hi : i + 6 < E.1) (hL : E.1 ≤ 3584) (h : Inv I J) (hz : ZO (mm I J A)) (hN : ∀ I' J' A', Inv I' J' → ZO (mm I' J' A') → wp E 1000 264 1657 [(0, .float 2000), (1, .ref 0), (2, .ref 265), (3, .int (iZ i))] [] (mm I' J' A') Q) : wp E 1000 264 443 [(0, .float 2000), (1, .ref 0), (2, .ref 265), (3, .int (iZ i))] [] (mm I J A) Q := by
  refine wf (hs := [1657]) 78 443 (by decide) (And.intro (lwI (j := 1) (by omega) hL) (And.intro (lwI (j := 2) (by omega) hL) (And.intro (lwI (j := 3) (by omega) hL) (And.intro (lwI (j := 4) (by omega) hL) (And.intro rfl (wpC_mono (wpC_zo hz (ol_cargo h)) (fun r M hh => ?_)))))))
  obtain ⟨⟨z, I1, J1, A1, rfl, rfl, hm⟩, hz1⟩ := hh
  refine And.intro (lwI (j := 1) (by omega) hL) (And.intro (lwI (j := 2) (by omega) hL) (And.intro (lwI (j := 3) (by omega) hL) (And.intro (lwI (j := 4) (by omega) hL) (And.intro rfl (wpC_mono (wpC_zo hz1 hm) (fun r M hh => ?_))))))
  obtain ⟨⟨rfl, I2, J2, A2, rfl, hv⟩, hz2⟩ := hh
  refine wt rfl ?_
  refine wp_keys [0, 1, 2, 3] rfl rfl ?_
  exact hN I2 J2 A2 hv hz2
set_option maxRecDepth 100000 in
theorem lw_door (hi : i + 6 < E.1) (hL : E.1 ≤ 3584) (h : Inv I J) (hz : ZO (mm I J A)) (hN : ∀ I' J' A', Inv I' J' → ZO (mm I' J' A') → wp E 1000 264 1657 [(0, .float 2000), (1, .ref 0), (2, .ref 265), (3, .int (iZ i))] [] (mm I' J' A') Q) : wp E 1000 264 496 [(0, .float 2000), (1, .ref 0), (2, .ref 265), (3, .int (iZ i))] [] (mm I J A) Q := by
  refine wf (hs := [1657]) 78 496 (by decide) (And.intro (lwI (j := 1) (by omega) hL) (And.intro (lwI (j := 2) (by omega) hL) (And.intro (lwI (j := 3) (by omega) hL) (And.intro (lwI (j := 4) (by omega) hL) (And.intro rfl (wpC_mono (wpC_zo hz (ol_door h)) (fun r M hh => ?_)))))))
  obtain ⟨⟨z, I1, J1, A1, rfl, rfl, hm⟩, hz1⟩ := hh
  refine And.intro (lwI (j := 1) (by omega) hL) (And.intro (lwI (j := 2) (by omega) hL) (And.intro (lwI (j := 3) (by omega) hL) (And.intro (lwI (j := 4) (by omega) hL) (And.intro rfl (wpC_mono (wpC_zo hz1 hm) (fun r M hh => ?_))))))
  obtain ⟨⟨rfl, I2, J2, A2, rfl, hv⟩, hz2⟩ := hh
  refine wt rfl ?_
  refine wp_keys [0, 1, 2, 3] rfl rfl ?_
  exact hN I2 J2 A2 hv hz2
set_option maxRecDepth 100000 in
theorem lw_port (hi : i + 6 < E.1) (hL : E.1 ≤ 3584) (h : Inv I J) (hz : ZO (mm I J A)) (hN : ∀ I' J' A', Inv I' J' → ZO (mm I' J' A') → wp E 1000 264 1657 [(0, .float 2000), (1, .ref 0), (2, .ref 265), (3, .int (iZ i))] [] (mm I' J' A') Q) : wp E 1000 264 549 [(0, .float 2000), (1, .ref 0), (2, .ref 265), (3, .int (iZ i))] [] (mm I J A) Q := by
  refine wf (hs := [1657]) 78 549 (by decide) (And.intro (lwI (j := 1) (by omega) hL) (And.intro (lwI (j := 2) (by omega) hL) (And.intro (lwI (j := 3) (by omega) hL) (And.intro (lwI (j := 4) (by omega) hL) (And.intro rfl (wpC_mono (wpC_zo hz (ol_port h)) (fun r M hh => ?_)))))))
  obtain ⟨⟨z, I1, J1, A1, rfl, rfl, hm⟩, hz1⟩ := hh
  refine And.intro (lwI (j := 1) (by omega) hL) (And.intro (lwI (j := 2) (by omega) hL) (And.intro (lwI (j := 3) (by omega) hL) (And.intro (lwI (j := 4) (by omega) hL) (And.intro rfl (wpC_mono (wpC_zo hz1 hm) (fun r M hh => ?_))))))
  obtain ⟨⟨rfl, I2, J2, A2, rfl, hv⟩, hz2⟩ := hh
  refine wt rfl ?_
  refine wp_keys [0, 1, 2, 3] rfl rfl ?_
  exact hN I2 J2 A2 hv hz2
set_option maxRecDepth 100000 in
theorem lw_sets (hi : i + 6 < E.1) (hL : E.1 ≤ 3584) (h : Inv I J) (hz : ZO (mm I J A)) (hN : ∀ I' J' A', Inv I' J' → ZO (mm I' J' A') → wp E 1000 264 1657 [(0, .float 2000), (1, .ref 0), (2, .ref 265), (3, .int (iZ i))] [] (mm I' J' A') Q) : wp E 1000 264 602 [(0, .float 2000), (1, .ref 0), (2, .ref 265), (3, .int (iZ i))] [] (mm I J A) Q := by
  refine wf (hs := [1657]) 54 602 (by decide) (And.intro (lwI (j := 1) (by omega) hL) (And.intro (lwI (j := 2) (by omega) hL) (And.intro rfl (wpC_mono (wpC_zo hz (ol_sets h)) (fun r M hh => ?_)))))
  obtain ⟨⟨z, I1, J1, A1, rfl, rfl, hm⟩, hz1⟩ := hh
  refine And.intro (lwI (j := 1) (by omega) hL) (And.intro (lwI (j := 2) (by omega) hL) (And.intro rfl (wpC_mono (wpC_zo hz1 hm) (fun r M hh => ?_))))
  obtain ⟨⟨rfl, I2, J2, A2, rfl, hv⟩, hz2⟩ := hh
  refine wt rfl ?_
  refine wp_keys [0, 1, 2, 3] rfl rfl ?_
  exact hN I2 J2 A2 hv hz2
set_option maxRecDepth 100000 in
theorem lw_feed (hi : i + 6 < E.1) (hL : E.1 ≤ 3584) (h : Inv I J) (hz : ZO (mm I J A)) (hN : ∀ I' J' A', Inv I' J' → ZO (mm I' J' A') → wp E 1000 264 1657 [(0, .float 2000), (1, .ref 0), (2, .ref 265), (3, .int (iZ i))] [] (mm I' J' A') Q) : wp E 1000 264 635 [(0, .float 2000), (1, .ref 0), (2, .ref 265), (3, .int (iZ i))] [] (mm I J A) Q := by
  refine wf (hs := [1657]) 90 635 (by decide) (And.intro (lwI (j := 1) (by omega) hL) (And.intro (lwI (j := 2) (by omega) hL) (And.intro (lwI (j := 3) (by omega) hL) (And.intro (lwI (j := 4) (by omega) hL) (And.intro (lwI (j := 5) (by omega) hL) (And.intro rfl (wpC_mono (wpC_zo hz (ol_feed h)) (fun r M hh => ?_))))))))
  obtain ⟨⟨z, I1, J1, A1, rfl, rfl, hm⟩, hz1⟩ := hh
  refine And.intro (lwI (j := 1) (by omega) hL) (And.intro (lwI (j := 2) (by omega) hL) (And.intro (lwI (j := 3) (by omega) hL) (And.intro (lwI (j := 4) (by omega) hL) (And.intro (lwI (j := 5) (by omega) hL) (And.intro rfl (wpC_mono (wpC_zo hz1 hm) (fun r M hh => ?_)))))))
  obtain ⟨⟨rfl, I2, J2, A2, rfl, hv⟩, hz2⟩ := hh
  refine wt rfl ?_
  refine wp_keys [0, 1, 2, 3] rfl rfl ?_
  exact hN I2 J2 A2 hv hz2
set_option maxRecDepth 100000 in
theorem lw_end (hi : i + 6 < E.1) (hL : E.1 ≤ 3584) (h : Inv I J) (hz : ZO (mm I J A)) (hN : ∀ I' J' A', Inv I' J' → ZO (mm I' J' A') → wp E 1000 264 1657 [(0, .float 2000), (1, .ref 0), (2, .ref 265), (3, .int (iZ i))] [] (mm I' J' A') Q) : wp E 1000 264 698 [(0, .float 2000), (1, .ref 0), (2, .ref 265), (3, .int (iZ i))] [] (mm I J A) Q := by
  refine wf (hs := [1657]) 42 698 (by decide) (And.intro (lwI (j := 1) (by omega) hL) (And.intro rfl (wpC_mono (wpC_zo hz (ol_end h)) (fun r M hh => ?_))))
  obtain ⟨⟨z, I1, J1, A1, rfl, rfl, hm⟩, hz1⟩ := hh
  refine And.intro (lwI (j := 1) (by omega) hL) (And.intro rfl (wpC_mono (wpC_zo hz1 hm) (fun r M hh => ?_)))
  obtain ⟨⟨rfl, I2, J2, A2, rfl, hv⟩, hz2⟩ := hh
  refine wt rfl ?_
  refine wp_keys [0, 1, 2, 3] rfl rfl ?_
  exact hN I2 J2 A2 hv hz2
set_option maxRecDepth 100000 in
theorem lw_plan (hi : i + 6 < E.1) (hL : E.1 ≤ 3584) (h : Inv I J) (hz : ZO (mm I J A)) (hN : ∀ I' J' A', Inv I' J' → ZO (mm I' J' A') → wp E 1000 264 1657 [(0, .float 2000), (1, .ref 0), (2, .ref 265), (3, .int (iZ i))] [] (mm I' J' A') Q) : wp E 1000 264 721 [(0, .float 2000), (1, .ref 0), (2, .ref 265), (3, .int (iZ i))] [] (mm I J A) Q := by
  refine wf (hs := [1657]) 30 721 (by decide) (And.intro rfl (wpC_mono (wpC_zo hz (ol_plan h)) (fun r M hh => ?_)))
  obtain ⟨⟨z, I1, J1, A1, rfl, rfl, hm⟩, hz1⟩ := hh
  refine And.intro rfl (wpC_mono (wpC_zo hz1 hm) (fun r M hh => ?_))
  obtain ⟨⟨rfl, I2, J2, A2, rfl, hv⟩, hz2⟩ := hh
  refine wt rfl ?_
  refine wp_keys [0, 1, 2, 3] rfl rfl ?_
  exact hN I2 J2 A2 hv hz2
set_option maxRecDepth 100000 in
theorem lw_run (hi : i + 6 < E.1) (hL : E.1 ≤ 3584) (h : Inv I J) (hz : ZO (mm I J A)) (hN : ∀ I' J' A', Inv I' J' → ZO (mm I' J' A') → wp E 1000 264 1657 [(0, .float 2000), (1, .ref 0), (2, .ref 265), (3, .int (iZ i))] [] (mm I' J' A') Q) : wp E 1000 264 734 [(0, .float 2000), (1, .ref 0), (2, .ref 265), (3, .int (iZ i))] [] (mm I J A) Q := by
  refine wf (hs := [1657]) 54 734 (by decide) (And.intro (lwI (j := 1) (by omega) hL) (And.intro (lwI (j := 2) (by omega) hL) (And.intro rfl (wpC_mono (wpC_zo hz (ol_run h)) (fun r M hh => ?_)))))
  obtain ⟨⟨z, I1, J1, A1, rfl, rfl, hm⟩, hz1⟩ := hh
  refine And.intro (lwI (j := 1) (by omega) hL) (And.intro (lwI (j := 2) (by omega) hL) (And.intro rfl (wpC_mono (wpC_zo hz1 hm) (fun r M hh => ?_))))
  obtain ⟨⟨rfl, I2, J2, A2, rfl, hv⟩, hz2⟩ := hh
  refine wt rfl ?_
  refine wp_keys [0, 1, 2, 3] rfl rfl ?_
  exact hN I2 J2 A2 hv hz2
set_option maxRecDepth 100000 in
theorem lw_tells (hi : i + 6 < E.1) (hL : E.1 ≤ 3584) (h : Inv I J) (hz : ZO (mm I J A)) (hN : ∀ I' J' A', Inv I' J' → ZO (mm I' J' A') → wp E 1000 264 1657 [(0, .float 2000), (1, .ref 0), (2, .ref 265), (3, .int (iZ i))] [] (mm I' J' A') Q) : wp E 1000 264 767 [(0, .float 2000), (1, .ref 0), (2, .ref 265), (3, .int (iZ i))] [] (mm I J A) Q := by
  refine wf (hs := [1657]) 42 767 (by decide) (And.intro (lwI (j := 1) (by omega) hL) (And.intro rfl (wpC_mono (wpC_zo hz (ol_tells h)) (fun r M hh => ?_))))
  obtain ⟨⟨z, I1, J1, A1, rfl, rfl, hm⟩, hz1⟩ := hh
  refine And.intro (lwI (j := 1) (by omega) hL) (And.intro rfl (wpC_mono (wpC_zo hz1 hm) (fun r M hh => ?_)))
  obtain ⟨⟨rfl, I2, J2, A2, rfl, hv⟩, hz2⟩ := hh
  refine wt rfl ?_
  refine wp_keys [0, 1, 2, 3] rfl rfl ?_
  exact hN I2 J2 A2 hv hz2
set_option maxRecDepth 100000 in
theorem lw_up (hi : i + 6 < E.1) (hL : E.1 ≤ 3584) (h : Inv I J) (hz : ZO (mm I J A)) (hN : ∀ I' J' A', Inv I' J' → ZO (mm I' J' A') → wp E 1000 264 1657 [(0, .float 2000), (1, .ref 0), (2, .ref 265), (3, .int (iZ i))] [] (mm I' J' A') Q) : wp E 1000 264 790 [(0, .float 2000), (1, .ref 0), (2, .ref 265), (3, .int (iZ i))] [] (mm I J A) Q := by
  refine wf (hs := [1657]) 30 790 (by decide) (And.intro rfl (wpC_mono (wpC_zo hz (ol_up h)) (fun r M hh => ?_)))
  obtain ⟨⟨z, I1, J1, A1, rfl, rfl, hm⟩, hz1⟩ := hh
  refine And.intro rfl (wpC_mono (wpC_zo hz1 hm) (fun r M hh => ?_))
  obtain ⟨⟨rfl, I2, J2, A2, rfl, hv⟩, hz2⟩ := hh
  refine wt (cmp_self z) ?_
  refine wp_keys [0, 1, 2, 3] rfl rfl ?_
  exact hN I2 J2 A2 hv hz2
set_option maxRecDepth 100000 in
theorem lw_turn (hi : i + 6 < E.1) (hL : E.1 ≤ 3584) (h : Inv I J) (hz : ZO (mm I J A)) (hN : ∀ I' J' A', Inv I' J' → ZO (mm I' J' A') → wp E 1000 264 1657 [(0, .float 2000), (1, .ref 0), (2, .ref 265), (3, .int (iZ i))] [] (mm I' J' A') Q) : wp E 1000 264 804 [(0, .float 2000), (1, .ref 0), (2, .ref 265), (3, .int (iZ i))] [] (mm I J A) Q := by
  refine wf (hs := [1657]) 42 804 (by decide) (And.intro (lwI (j := 1) (by omega) hL) (And.intro rfl (wpC_mono (wpC_zo hz (ol_turn h)) (fun r M hh => ?_))))
  obtain ⟨⟨z, I1, J1, A1, rfl, rfl, hm⟩, hz1⟩ := hh
  refine And.intro (lwI (j := 1) (by omega) hL) (And.intro rfl (wpC_mono (wpC_zo hz1 hm) (fun r M hh => ?_)))
  obtain ⟨⟨rfl, I2, J2, A2, rfl, hv⟩, hz2⟩ := hh
  refine wt (cmp_self z) ?_
  refine wp_keys [0, 1, 2, 3] rfl rfl ?_
  exact hN I2 J2 A2 hv hz2
set_option maxRecDepth 100000 in
theorem lw_rest (hi : i + 6 < E.1) (hL : E.1 ≤ 3584) (h : Inv I J) (hz : ZO (mm I J A)) (hN : ∀ I' J' A', Inv I' J' → ZO (mm I' J' A') → wp E 1000 264 1657 [(0, .float 2000), (1, .ref 0), (2, .ref 265), (3, .int (iZ i))] [] (mm I' J' A') Q) : wp E 1000 264 828 [(0, .float 2000), (1, .ref 0), (2, .ref 265), (3, .int (iZ i))] [] (mm I J A) Q := by
  refine wf (hs := [1657]) 42 828 (by decide) (And.intro (lwI (j := 1) (by omega) hL) (And.intro rfl (wpC_mono (wpC_zo hz (ol_rest h)) (fun r M hh => ?_))))
  obtain ⟨⟨z, I1, J1, A1, rfl, rfl, hm⟩, hz1⟩ := hh
  refine And.intro (lwI (j := 1) (by omega) hL) (And.intro rfl (wpC_mono (wpC_zo hz1 hm) (fun r M hh => ?_)))
  obtain ⟨⟨rfl, I2, J2, A2, rfl, hv⟩, hz2⟩ := hh
  refine wt rfl ?_
  refine wp_keys [0, 1, 2, 3] rfl rfl ?_
  exact hN I2 J2 A2 hv hz2
set_option maxRecDepth 100000 in
theorem lw_lever (hi : i + 6 < E.1) (hL : E.1 ≤ 3584) (h : Inv I J) (hz : ZO (mm I J A)) (hN : ∀ I' J' A', Inv I' J' → ZO (mm I' J' A') → wp E 1000 264 1657 [(0, .float 2000), (1, .ref 0), (2, .ref 265), (3, .int (iZ i))] [] (mm I' J' A') Q) : wp E 1000 264 851 [(0, .float 2000), (1, .ref 0), (2, .ref 265), (3, .int (iZ i))] [] (mm I J A) Q := by
  refine wf (hs := [1657]) 42 851 (by decide) (And.intro (lwI (j := 1) (by omega) hL) (And.intro rfl (wpC_mono (wpC_zo hz (ol_lever h)) (fun r M hh => ?_))))
  obtain ⟨⟨z, I1, J1, A1, rfl, rfl, hm⟩, hz1⟩ := hh
  refine And.intro (lwI (j := 1) (by omega) hL) (And.intro rfl (wpC_mono (wpC_zo hz1 hm) (fun r M hh => ?_)))
  obtain ⟨⟨rfl, I2, J2, A2, rfl, hv⟩, hz2⟩ := hh
  refine wt rfl ?_
  refine wp_keys [0, 1, 2, 3] rfl rfl ?_
  exact hN I2 J2 A2 hv hz2
set_option maxRecDepth 100000 in
theorem lw_of (hi : i + 6 < E.1) (hL : E.1 ≤ 3584) (h : Inv I J) (hz : ZO (mm I J A)) (hN : ∀ I' J' A', Inv I' J' → ZO (mm I' J' A') → wp E 1000 264 1657 [(0, .float 2000), (1, .ref 0), (2, .ref 265), (3, .int (iZ i))] [] (mm I' J' A') Q) : wp E 1000 264 874 [(0, .float 2000), (1, .ref 0), (2, .ref 265), (3, .int (iZ i))] [] (mm I J A) Q := by
  refine wf (hs := [1657]) 54 874 (by decide) (And.intro (lwI (j := 1) (by omega) hL) (And.intro (lwI (j := 2) (by omega) hL) (And.intro rfl (wpC_mono (wpC_zo hz (ol_of h)) (fun r M hh => ?_)))))
  obtain ⟨⟨z, I1, J1, A1, rfl, rfl, hm⟩, hz1⟩ := hh
  refine And.intro (lwI (j := 1) (by omega) hL) (And.intro (lwI (j := 2) (by omega) hL) (And.intro rfl (wpC_mono (wpC_zo hz1 hm) (fun r M hh => ?_))))
  obtain ⟨⟨rfl, I2, J2, A2, rfl, hv⟩, hz2⟩ := hh
  refine wt rfl ?_
  refine wp_keys [0, 1, 2, 3] rfl rfl ?_
  exact hN I2 J2 A2 hv hz2
set_option maxRecDepth 100000 in
theorem lw_flows (hi : i + 6 < E.1) (hL : E.1 ≤ 3584) (h : Inv I J) (hz : ZO (mm I J A)) (hN : ∀ I' J' A', Inv I' J' → ZO (mm I' J' A') → wp E 1000 264 1657 [(0, .float 2000), (1, .ref 0), (2, .ref 265), (3, .int (iZ i))] [] (mm I' J' A') Q) : wp E 1000 264 907 [(0, .float 2000), (1, .ref 0), (2, .ref 265), (3, .int (iZ i))] [] (mm I J A) Q := by
  refine wf (hs := [1657]) 54 907 (by decide) (And.intro (lwI (j := 1) (by omega) hL) (And.intro (lwI (j := 2) (by omega) hL) (And.intro rfl (wpC_mono (wpC_zo hz (ol_flows h)) (fun r M hh => ?_)))))
  obtain ⟨⟨z, I1, J1, A1, rfl, rfl, hm⟩, hz1⟩ := hh
  refine And.intro (lwI (j := 1) (by omega) hL) (And.intro (lwI (j := 2) (by omega) hL) (And.intro rfl (wpC_mono (wpC_zo hz1 hm) (fun r M hh => ?_))))
  obtain ⟨⟨rfl, I2, J2, A2, rfl, hv⟩, hz2⟩ := hh
  refine wt (cmp_self z) ?_
  refine wp_keys [0, 1, 2, 3] rfl rfl ?_
  exact hN I2 J2 A2 hv hz2
set_option maxRecDepth 100000 in
theorem lw_inside (hi : i + 6 < E.1) (hL : E.1 ≤ 3584) (h : Inv I J) (hz : ZO (mm I J A)) (hN : ∀ I' J' A', Inv I' J' → ZO (mm I' J' A') → wp E 1000 264 1657 [(0, .float 2000), (1, .ref 0), (2, .ref 265), (3, .int (iZ i))] [] (mm I' J' A') Q) : wp E 1000 264 941 [(0, .float 2000), (1, .ref 0), (2, .ref 265), (3, .int (iZ i))] [] (mm I J A) Q := by
  refine wf (hs := [1657]) 54 941 (by decide) (And.intro (lwI (j := 1) (by omega) hL) (And.intro (lwI (j := 2) (by omega) hL) (And.intro rfl (wpC_mono (wpC_zo hz (ol_inside h)) (fun r M hh => ?_)))))
  obtain ⟨⟨z, I1, J1, A1, rfl, rfl, hm⟩, hz1⟩ := hh
  refine And.intro (lwI (j := 1) (by omega) hL) (And.intro (lwI (j := 2) (by omega) hL) (And.intro rfl (wpC_mono (wpC_zo hz1 hm) (fun r M hh => ?_))))
  obtain ⟨⟨rfl, I2, J2, A2, rfl, hv⟩, hz2⟩ := hh
  refine wt rfl ?_
  refine wp_keys [0, 1, 2, 3] rfl rfl ?_
  exact hN I2 J2 A2 hv hz2
set_option maxRecDepth 100000 in
theorem lw_outside (hi : i + 6 < E.1) (hL : E.1 ≤ 3584) (h : Inv I J) (hz : ZO (mm I J A)) (hN : ∀ I' J' A', Inv I' J' → ZO (mm I' J' A') → wp E 1000 264 1657 [(0, .float 2000), (1, .ref 0), (2, .ref 265), (3, .int (iZ i))] [] (mm I' J' A') Q) : wp E 1000 264 974 [(0, .float 2000), (1, .ref 0), (2, .ref 265), (3, .int (iZ i))] [] (mm I J A) Q := by
  refine wf (hs := [1657]) 42 974 (by decide) (And.intro (lwI (j := 1) (by omega) hL) (And.intro rfl (wpC_mono (wpC_zo hz (ol_outside h)) (fun r M hh => ?_))))
  obtain ⟨⟨z, I1, J1, A1, rfl, rfl, hm⟩, hz1⟩ := hh
  refine And.intro (lwI (j := 1) (by omega) hL) (And.intro rfl (wpC_mono (wpC_zo hz1 hm) (fun r M hh => ?_)))
  obtain ⟨⟨rfl, I2, J2, A2, rfl, hv⟩, hz2⟩ := hh
  refine wt rfl ?_
  refine wp_keys [0, 1, 2, 3] rfl rfl ?_
  exact hN I2 J2 A2 hv hz2
set_option maxRecDepth 100000 in
theorem lw_slid (hi : i + 6 < E.1) (hL : E.1 ≤ 3584) (h : Inv I J) (hz : ZO (mm I J A)) (hN : ∀ I' J' A', Inv I' J' → ZO (mm I' J' A') → wp E 1000 264 1657 [(0, .float 2000), (1, .ref 0), (2, .ref 265), (3, .int (iZ i))] [] (mm I' J' A') Q) : wp E 1000 264 997 [(0, .float 2000), (1, .ref 0), (2, .ref 265), (3, .int (iZ i))] [] (mm I J A) Q := by
  refine wf (hs := [1657]) 42 997 (by decide) (And.intro (lwI (j := 1) (by omega) hL) (And.intro rfl (wpC_mono (wpC_zo hz (ol_slid h)) (fun r M hh => ?_))))
  obtain ⟨⟨z, I1, J1, A1, rfl, rfl, hm⟩, hz1⟩ := hh
  refine And.intro (lwI (j := 1) (by omega) hL) (And.intro rfl (wpC_mono (wpC_zo hz1 hm) (fun r M hh => ?_)))
  obtain ⟨⟨rfl, I2, J2, A2, rfl, hv⟩, hz2⟩ := hh
  refine wt rfl ?_
  refine wp_keys [0, 1, 2, 3] rfl rfl ?_
  exact hN I2 J2 A2 hv hz2
set_option maxRecDepth 100000 in
theorem lw_sinks (hi : i + 6 < E.1) (hL : E.1 ≤ 3584) (h : Inv I J) (hz : ZO (mm I J A)) (hN : ∀ I' J' A', Inv I' J' → ZO (mm I' J' A') → wp E 1000 264 1657 [(0, .float 2000), (1, .ref 0), (2, .ref 265), (3, .int (iZ i))] [] (mm I' J' A') Q) : wp E 1000 264 1020 [(0, .float 2000), (1, .ref 0), (2, .ref 265), (3, .int (iZ i))] [] (mm I J A) Q := by
  refine wf (hs := [1657]) 42 1020 (by decide) (And.intro (lwI (j := 1) (by omega) hL) (And.intro rfl (wpC_mono (wpC_zo hz (ol_sinks h)) (fun r M hh => ?_))))
  obtain ⟨⟨z, I1, J1, A1, rfl, rfl, hm⟩, hz1⟩ := hh
  refine And.intro (lwI (j := 1) (by omega) hL) (And.intro rfl (wpC_mono (wpC_zo hz1 hm) (fun r M hh => ?_)))
  obtain ⟨⟨rfl, I2, J2, A2, rfl, hv⟩, hz2⟩ := hh
  refine wt rfl ?_
  refine wp_keys [0, 1, 2, 3] rfl rfl ?_
  exact hN I2 J2 A2 hv hz2
set_option maxRecDepth 100000 in
theorem lw_parts (hi : i + 6 < E.1) (hL : E.1 ≤ 3584) (h : Inv I J) (hz : ZO (mm I J A)) (hN : ∀ I' J' A', Inv I' J' → ZO (mm I' J' A') → wp E 1000 264 1657 [(0, .float 2000), (1, .ref 0), (2, .ref 265), (3, .int (iZ i))] [] (mm I' J' A') Q) : wp E 1000 264 1043 [(0, .float 2000), (1, .ref 0), (2, .ref 265), (3, .int (iZ i))] [] (mm I J A) Q := by
  refine wf (hs := [1657]) 42 1043 (by decide) (And.intro (lwI (j := 1) (by omega) hL) (And.intro rfl (wpC_mono (wpC_zo hz (ol_parts h)) (fun r M hh => ?_))))
  obtain ⟨⟨z, I1, J1, A1, rfl, rfl, hm⟩, hz1⟩ := hh
  refine And.intro (lwI (j := 1) (by omega) hL) (And.intro rfl (wpC_mono (wpC_zo hz1 hm) (fun r M hh => ?_)))
  obtain ⟨⟨rfl, I2, J2, A2, rfl, hv⟩, hz2⟩ := hh
  refine wt rfl ?_
  refine wp_keys [0, 1, 2, 3] rfl rfl ?_
  exact hN I2 J2 A2 hv hz2
set_option maxRecDepth 100000 in
theorem lw_carried (hi : i + 6 < E.1) (hL : E.1 ≤ 3584) (h : Inv I J) (hz : ZO (mm I J A)) (hN : ∀ I' J' A', Inv I' J' → ZO (mm I' J' A') → wp E 1000 264 1657 [(0, .float 2000), (1, .ref 0), (2, .ref 265), (3, .int (iZ i))] [] (mm I' J' A') Q) : wp E 1000 264 1066 [(0, .float 2000), (1, .ref 0), (2, .ref 265), (3, .int (iZ i))] [] (mm I J A) Q := by
  refine wf (hs := [1657]) 66 1066 (by decide) (And.intro (lwI (j := 1) (by omega) hL) (And.intro (lwI (j := 2) (by omega) hL) (And.intro (lwI (j := 3) (by omega) hL) (And.intro rfl (wpC_mono (wpC_zo hz (ol_carried h)) (fun r M hh => ?_))))))
  obtain ⟨⟨z, I1, J1, A1, rfl, rfl, hm⟩, hz1⟩ := hh
  refine And.intro (lwI (j := 1) (by omega) hL) (And.intro (lwI (j := 2) (by omega) hL) (And.intro (lwI (j := 3) (by omega) hL) (And.intro rfl (wpC_mono (wpC_zo hz1 hm) (fun r M hh => ?_)))))
  obtain ⟨⟨rfl, I2, J2, A2, rfl, hv⟩, hz2⟩ := hh
  refine wt rfl ?_
  refine wp_keys [0, 1, 2, 3] rfl rfl ?_
  exact hN I2 J2 A2 hv hz2
set_option maxRecDepth 100000 in
theorem lw_order (hi : i + 6 < E.1) (hL : E.1 ≤ 3584) (h : Inv I J) (hz : ZO (mm I J A)) (hN : ∀ I' J' A', Inv I' J' → ZO (mm I' J' A') → wp E 1000 264 1657 [(0, .float 2000), (1, .ref 0), (2, .ref 265), (3, .int (iZ i))] [] (mm I' J' A') Q) : wp E 1000 264 1109 [(0, .float 2000), (1, .ref 0), (2, .ref 265), (3, .int (iZ i))] [] (mm I J A) Q := by
  refine wf (hs := [1657]) 66 1109 (by decide) (And.intro (lwI (j := 1) (by omega) hL) (And.intro (lwI (j := 2) (by omega) hL) (And.intro (lwI (j := 3) (by omega) hL) (And.intro rfl (wpC_mono (wpC_zo hz (ol_order h hz)) (fun r M hh => ?_))))))
  obtain ⟨⟨z, I1, J1, A1, rfl, rfl, hm⟩, hz1⟩ := hh
  refine And.intro (lwI (j := 1) (by omega) hL) (And.intro (lwI (j := 2) (by omega) hL) (And.intro (lwI (j := 3) (by omega) hL) (And.intro rfl (wpC_mono (wpC_zo hz1 hm) (fun r M hh => ?_)))))
  obtain ⟨⟨rfl, I2, J2, A2, rfl, hv⟩, hz2⟩ := hh
  refine wt rfl ?_
  refine wp_keys [0, 1, 2, 3] rfl rfl ?_
  exact hN I2 J2 A2 hv hz2
set_option maxRecDepth 100000 in
theorem lw_ahead (hi : i + 6 < E.1) (hL : E.1 ≤ 3584) (h : Inv I J) (hz : ZO (mm I J A)) (hN : ∀ I' J' A', Inv I' J' → ZO (mm I' J' A') → wp E 1000 264 1657 [(0, .float 2000), (1, .ref 0), (2, .ref 265), (3, .int (iZ i))] [] (mm I' J' A') Q) : wp E 1000 264 1152 [(0, .float 2000), (1, .ref 0), (2, .ref 265), (3, .int (iZ i))] [] (mm I J A) Q := by
  refine wf (hs := [1657]) 66 1152 (by decide) (And.intro (lwI (j := 1) (by omega) hL) (And.intro (lwI (j := 2) (by omega) hL) (And.intro (lwI (j := 3) (by omega) hL) (And.intro rfl (wpC_mono (wpC_zo hz (ol_ahead h hz)) (fun r M hh => ?_))))))
  obtain ⟨⟨z, I1, J1, A1, rfl, rfl, hm⟩, hz1⟩ := hh
  refine And.intro (lwI (j := 1) (by omega) hL) (And.intro (lwI (j := 2) (by omega) hL) (And.intro (lwI (j := 3) (by omega) hL) (And.intro rfl (wpC_mono (wpC_zo hz1 hm) (fun r M hh => ?_)))))
  obtain ⟨⟨rfl, I2, J2, A2, rfl, hv⟩, hz2⟩ := hh
  refine wt rfl ?_
  refine wp_keys [0, 1, 2, 3] rfl rfl ?_
  exact hN I2 J2 A2 hv hz2
set_option maxRecDepth 100000 in
theorem lw_saved (hi : i + 6 < E.1) (hL : E.1 ≤ 3584) (h : Inv I J) (hz : ZO (mm I J A)) (hN : ∀ I' J' A', Inv I' J' → ZO (mm I' J' A') → wp E 1000 264 1657 [(0, .float 2000), (1, .ref 0), (2, .ref 265), (3, .int (iZ i))] [] (mm I' J' A') Q) : wp E 1000 264 1195 [(0, .float 2000), (1, .ref 0), (2, .ref 265), (3, .int (iZ i))] [] (mm I J A) Q := by
  refine wf (hs := [1657]) 78 1195 (by decide) (And.intro (lwI (j := 1) (by omega) hL) (And.intro (lwI (j := 2) (by omega) hL) (And.intro (lwI (j := 3) (by omega) hL) (And.intro (lwI (j := 4) (by omega) hL) (And.intro rfl (wpC_mono (wpC_zo hz (ol_saved h hz)) (fun r M hh => ?_)))))))
  obtain ⟨⟨z, I1, J1, A1, rfl, rfl, hm⟩, hz1⟩ := hh
  refine And.intro (lwI (j := 1) (by omega) hL) (And.intro (lwI (j := 2) (by omega) hL) (And.intro (lwI (j := 3) (by omega) hL) (And.intro (lwI (j := 4) (by omega) hL) (And.intro rfl (wpC_mono (wpC_zo hz1 hm) (fun r M hh => ?_))))))
  obtain ⟨⟨rfl, I2, J2, A2, rfl, hv⟩, hz2⟩ := hh
  refine wt rfl ?_
  refine wp_keys [0, 1, 2, 3] rfl rfl ?_
  exact hN I2 J2 A2 hv hz2
set_option maxRecDepth 100000 in
theorem lw_hoses (hi : i + 6 < E.1) (hL : E.1 ≤ 3584) (h : Inv I J) (hz : ZO (mm I J A)) (hN : ∀ I' J' A', Inv I' J' → ZO (mm I' J' A') → wp E 1000 264 1657 [(0, .float 2000), (1, .ref 0), (2, .ref 265), (3, .int (iZ i))] [] (mm I' J' A') Q) : wp E 1000 264 1248 [(0, .float 2000), (1, .ref 0), (2, .ref 265), (3, .int (iZ i))] [] (mm I J A) Q := by
  refine wf (hs := [1657]) 66 1248 (by decide) (And.intro (lwI (j := 1) (by omega) hL) (And.intro (lwI (j := 2) (by omega) hL) (And.intro (lwI (j := 3) (by omega) hL) (And.intro rfl (wpC_mono (wpC_zo hz (ol_hoses h hz)) (fun r M hh => ?_))))))
  obtain ⟨⟨z, I1, J1, A1, rfl, rfl, hm⟩, hz1⟩ := hh
  refine And.intro (lwI (j := 1) (by omega) hL) (And.intro (lwI (j := 2) (by omega) hL) (And.intro (lwI (j := 3) (by omega) hL) (And.intro rfl (wpC_mono (wpC_zo hz1 hm) (fun r M hh => ?_)))))
  obtain ⟨⟨rfl, I2, J2, A2, rfl, hv⟩, hz2⟩ := hh
  refine wt rfl ?_
  refine wp_keys [0, 1, 2, 3] rfl rfl ?_
  exact hN I2 J2 A2 hv hz2
set_option maxRecDepth 100000 in
theorem lw_ice (hi : i + 6 < E.1) (hL : E.1 ≤ 3584) (h : Inv I J) (hz : ZO (mm I J A)) (hN : ∀ I' J' A', Inv I' J' → ZO (mm I' J' A') → wp E 1000 264 1657 [(0, .float 2000), (1, .ref 0), (2, .ref 265), (3, .int (iZ i))] [] (mm I' J' A') Q) : wp E 1000 264 1291 [(0, .float 2000), (1, .ref 0), (2, .ref 265), (3, .int (iZ i))] [] (mm I J A) Q := by
  refine wf (hs := [1657]) 54 1291 (by decide) (And.intro (lwI (j := 1) (by omega) hL) (And.intro (lwI (j := 2) (by omega) hL) (And.intro rfl (wpC_mono (wpC_zo hz (ol_ice h)) (fun r M hh => ?_)))))
  obtain ⟨⟨z, I1, J1, A1, rfl, rfl, hm⟩, hz1⟩ := hh
  refine And.intro (lwI (j := 1) (by omega) hL) (And.intro (lwI (j := 2) (by omega) hL) (And.intro rfl (wpC_mono (wpC_zo hz1 hm) (fun r M hh => ?_))))
  obtain ⟨⟨rfl, I2, J2, A2, rfl, hv⟩, hz2⟩ := hh
  refine wt rfl ?_
  refine wp_keys [0, 1, 2, 3] rfl rfl ?_
  exact hN I2 J2 A2 hv hz2
set_option maxRecDepth 100000 in
theorem lw_load (hi : i + 6 < E.1) (hL : E.1 ≤ 3584) (h : Inv I J) (hz : ZO (mm I J A)) (hN : ∀ I' J' A', Inv I' J' → ZO (mm I' J' A') → wp E 1000 264 1657 [(0, .float 2000), (1, .ref 0), (2, .ref 265), (3, .int (iZ i))] [] (mm I' J' A') Q) : wp E 1000 264 1324 [(0, .float 2000), (1, .ref 0), (2, .ref 265), (3, .int (iZ i))] [] (mm I J A) Q := by
  refine wf (hs := [1657]) 54 1324 (by decide) (And.intro (lwI (j := 1) (by omega) hL) (And.intro (lwI (j := 2) (by omega) hL) (And.intro rfl (wpC_mono (wpC_zo hz (ol_load h)) (fun r M hh => ?_)))))
  obtain ⟨⟨z, I1, J1, A1, rfl, rfl, hm⟩, hz1⟩ := hh
  refine And.intro (lwI (j := 1) (by omega) hL) (And.intro (lwI (j := 2) (by omega) hL) (And.intro rfl (wpC_mono (wpC_zo hz1 hm) (fun r M hh => ?_))))
  obtain ⟨⟨rfl, I2, J2, A2, rfl, hv⟩, hz2⟩ := hh
  refine wt rfl ?_
  refine wp_keys [0, 1, 2, 3] rfl rfl ?_
  exact hN I2 J2 A2 hv hz2
set_option maxRecDepth 100000 in
theorem lw_night (hi : i + 6 < E.1) (hL : E.1 ≤ 3584) (h : Inv I J) (hz : ZO (mm I J A)) (hN : ∀ I' J' A', Inv I' J' → ZO (mm I' J' A') → wp E 1000 264 1657 [(0, .float 2000), (1, .ref 0), (2, .ref 265), (3, .int (iZ i))] [] (mm I' J' A') Q) : wp E 1000 264 1357 [(0, .float 2000), (1, .ref 0), (2, .ref 265), (3, .int (iZ i))] [] (mm I J A) Q := by
  refine wf (hs := [1657]) 54 1357 (by decide) (And.intro (lwI (j := 1) (by omega) hL) (And.intro (lwI (j := 2) (by omega) hL) (And.intro rfl (wpC_mono (wpC_zo hz (ol_night h)) (fun r M hh => ?_)))))
  obtain ⟨⟨z, I1, J1, A1, rfl, rfl, hm⟩, hz1⟩ := hh
  refine And.intro (lwI (j := 1) (by omega) hL) (And.intro (lwI (j := 2) (by omega) hL) (And.intro rfl (wpC_mono (wpC_zo hz1 hm) (fun r M hh => ?_))))
  obtain ⟨⟨rfl, I2, J2, A2, rfl, hv⟩, hz2⟩ := hh
  refine wt rfl ?_
  refine wp_keys [0, 1, 2, 3] rfl rfl ?_
  exact hN I2 J2 A2 hv hz2
set_option maxRecDepth 100000 in
theorem lw_guess (hi : i + 6 < E.1) (hL : E.1 ≤ 3584) (h : Inv I J) (hz : ZO (mm I J A)) (hN : ∀ I' J' A', Inv I' J' → ZO (mm I' J' A') → wp E 1000 264 1657 [(0, .float 2000), (1, .ref 0), (2, .ref 265), (3, .int (iZ i))] [] (mm I' J' A') Q) : wp E 1000 264 1390 [(0, .float 2000), (1, .ref 0), (2, .ref 265), (3, .int (iZ i))] [] (mm I J A) Q := by
  refine wf (hs := [1657]) 66 1390 (by decide) (And.intro (lwI (j := 1) (by omega) hL) (And.intro (lwI (j := 2) (by omega) hL) (And.intro (lwI (j := 3) (by omega) hL) (And.intro rfl (wpC_mono (wpC_zo hz (ol_guess h)) (fun r M hh => ?_))))))
  obtain ⟨⟨z, I1, J1, A1, rfl, rfl, hm⟩, hz1⟩ := hh
  refine And.intro (lwI (j := 1) (by omega) hL) (And.intro (lwI (j := 2) (by omega) hL) (And.intro (lwI (j := 3) (by omega) hL) (And.intro rfl (wpC_mono (wpC_zo hz1 hm) (fun r M hh => ?_)))))
  obtain ⟨⟨rfl, I2, J2, A2, rfl, hv⟩, hz2⟩ := hh
  refine wt rfl ?_
  refine wp_keys [0, 1, 2, 3] rfl rfl ?_
  exact hN I2 J2 A2 hv hz2
set_option maxRecDepth 100000 in
theorem lw_best (hi : i + 6 < E.1) (hL : E.1 ≤ 3584) (h : Inv I J) (hz : ZO (mm I J A)) (hN : ∀ I' J' A', Inv I' J' → ZO (mm I' J' A') → wp E 1000 264 1657 [(0, .float 2000), (1, .ref 0), (2, .ref 265), (3, .int (iZ i))] [] (mm I' J' A') Q) : wp E 1000 264 1433 [(0, .float 2000), (1, .ref 0), (2, .ref 265), (3, .int (iZ i))] [] (mm I J A) Q := by
  refine wf (hs := [1657]) 66 1433 (by decide) (And.intro (lwI (j := 1) (by omega) hL) (And.intro (lwI (j := 2) (by omega) hL) (And.intro (lwI (j := 3) (by omega) hL) (And.intro rfl (wpC_mono (wpC_zo hz (ol_best h hz)) (fun r M hh => ?_))))))
  obtain ⟨⟨z, I1, J1, A1, rfl, rfl, hm⟩, hz1⟩ := hh
  refine And.intro (lwI (j := 1) (by omega) hL) (And.intro (lwI (j := 2) (by omega) hL) (And.intro (lwI (j := 3) (by omega) hL) (And.intro rfl (wpC_mono (wpC_zo hz1 hm) (fun r M hh => ?_)))))
  obtain ⟨⟨rfl, I2, J2, A2, rfl, hv⟩, hz2⟩ := hh
  refine wt rfl ?_
  refine wp_keys [0, 1, 2, 3] rfl rfl ?_
  exact hN I2 J2 A2 hv hz2
set_option maxRecDepth 100000 in
theorem lw_slop (hi : i + 6 < E.1) (hL : E.1 ≤ 3584) (h : Inv I J) (hz : ZO (mm I J A)) (hN : ∀ I' J' A', Inv I' J' → ZO (mm I' J' A') → wp E 1000 264 1657 [(0, .float 2000), (1, .ref 0), (2, .ref 265), (3, .int (iZ i))] [] (mm I' J' A') Q) : wp E 1000 264 1476 [(0, .float 2000), (1, .ref 0), (2, .ref 265), (3, .int (iZ i))] [] (mm I J A) Q := by
  refine wf (hs := [1657]) 42 1476 (by decide) (And.intro (lwI (j := 1) (by omega) hL) (And.intro rfl (wpC_mono (wpC_zo hz (ol_slop h)) (fun r M hh => ?_))))
  obtain ⟨⟨z, I1, J1, A1, rfl, rfl, hm⟩, hz1⟩ := hh
  refine And.intro (lwI (j := 1) (by omega) hL) (And.intro rfl (wpC_mono (wpC_zo hz1 hm) (fun r M hh => ?_)))
  obtain ⟨⟨rfl, I2, J2, A2, rfl, hv⟩, hz2⟩ := hh
  refine wt rfl ?_
  refine wp_keys [0, 1, 2, 3] rfl rfl ?_
  exact hN I2 J2 A2 hv hz2
set_option maxRecDepth 100000 in
theorem lw_still (hi : i + 6 < E.1) (hL : E.1 ≤ 3584) (h : Inv I J) (hz : ZO (mm I J A)) (hN : ∀ I' J' A', Inv I' J' → ZO (mm I' J' A') → wp E 1000 264 1657 [(0, .float 2000), (1, .ref 0), (2, .ref 265), (3, .int (iZ i))] [] (mm I' J' A') Q) : wp E 1000 264 1499 [(0, .float 2000), (1, .ref 0), (2, .ref 265), (3, .int (iZ i))] [] (mm I J A) Q := by
  refine wf (hs := [1657]) 42 1499 (by decide) (And.intro (lwI (j := 1) (by omega) hL) (And.intro rfl (wpC_mono (wpC_zo hz (ol_still h)) (fun r M hh => ?_))))
  obtain ⟨⟨z, I1, J1, A1, rfl, rfl, hm⟩, hz1⟩ := hh
  refine And.intro (lwI (j := 1) (by omega) hL) (And.intro rfl (wpC_mono (wpC_zo hz1 hm) (fun r M hh => ?_)))
  obtain ⟨⟨rfl, I2, J2, A2, rfl, hv⟩, hz2⟩ := hh
  refine wt rfl ?_
  refine wp_keys [0, 1, 2, 3] rfl rfl ?_
  exact hN I2 J2 A2 hv hz2
set_option maxRecDepth 100000 in
theorem lw_floods (hi : i + 6 < E.1) (hL : E.1 ≤ 3584) (h : Inv I J) (hz : ZO (mm I J A)) (hN : ∀ I' J' A', Inv I' J' → ZO (mm I' J' A') → wp E 1000 264 1657 [(0, .float 2000), (1, .ref 0), (2, .ref 265), (3, .int (iZ i))] [] (mm I' J' A') Q) : wp E 1000 264 1522 [(0, .float 2000), (1, .ref 0), (2, .ref 265), (3, .int (iZ i))] [] (mm I J A) Q := by
  refine wf (hs := [1657]) 54 1522 (by decide) (And.intro (lwI (j := 1) (by omega) hL) (And.intro (lwI (j := 2) (by omega) hL) (And.intro rfl (wpC_mono (wpC_zo hz (ol_floods h)) (fun r M hh => ?_)))))
  obtain ⟨⟨z, I1, J1, A1, rfl, rfl, hm⟩, hz1⟩ := hh
  refine And.intro (lwI (j := 1) (by omega) hL) (And.intro (lwI (j := 2) (by omega) hL) (And.intro rfl (wpC_mono (wpC_zo hz1 hm) (fun r M hh => ?_))))
  obtain ⟨⟨rfl, I2, J2, A2, rfl, hv⟩, hz2⟩ := hh
  refine wt rfl ?_
  refine wp_keys [0, 1, 2, 3] rfl rfl ?_
  exact hN I2 J2 A2 hv hz2
set_option maxRecDepth 100000 in
theorem lw_leaves (hi : i + 6 < E.1) (hL : E.1 ≤ 3584) (h : Inv I J) (hz : ZO (mm I J A)) (hN : ∀ I' J' A', Inv I' J' → ZO (mm I' J' A') → wp E 1000 264 1657 [(0, .float 2000), (1, .ref 0), (2, .ref 265), (3, .int (iZ i))] [] (mm I' J' A') Q) : wp E 1000 264 1555 [(0, .float 2000), (1, .ref 0), (2, .ref 265), (3, .int (iZ i))] [] (mm I J A) Q := by
  refine wf (hs := [1657]) 54 1555 (by decide) (And.intro (lwI (j := 1) (by omega) hL) (And.intro (lwI (j := 2) (by omega) hL) (And.intro rfl (wpC_mono (wpC_zo hz (ol_leaves h)) (fun r M hh => ?_)))))
  obtain ⟨⟨z, I1, J1, A1, rfl, rfl, hm⟩, hz1⟩ := hh
  refine And.intro (lwI (j := 1) (by omega) hL) (And.intro (lwI (j := 2) (by omega) hL) (And.intro rfl (wpC_mono (wpC_zo hz1 hm) (fun r M hh => ?_))))
  obtain ⟨⟨rfl, I2, J2, A2, rfl, hv⟩, hz2⟩ := hh
  refine wt rfl ?_
  refine wp_keys [0, 1, 2, 3] rfl rfl ?_
  exact hN I2 J2 A2 hv hz2
set_option maxRecDepth 100000 in
theorem lw_count (hi : i + 6 < E.1) (hL : E.1 ≤ 3584) (h : Inv I J) (hz : ZO (mm I J A)) (hN : ∀ I' J' A', Inv I' J' → ZO (mm I' J' A') → wp E 1000 264 1657 [(0, .float 2000), (1, .ref 0), (2, .ref 265), (3, .int (iZ i))] [] (mm I' J' A') Q) : wp E 1000 264 1588 [(0, .float 2000), (1, .ref 0), (2, .ref 265), (3, .int (iZ i))] [] (mm I J A) Q := by
  refine wf (hs := [1657]) 42 1588 (by decide) (And.intro (lwI (j := 1) (by omega) hL) (And.intro rfl (wpC_mono (wpC_zo hz (ol_count h)) (fun r M hh => ?_))))
  obtain ⟨⟨z, I1, J1, A1, rfl, rfl, hm⟩, hz1⟩ := hh
  refine And.intro (lwI (j := 1) (by omega) hL) (And.intro rfl (wpC_mono (wpC_zo hz1 hm) (fun r M hh => ?_)))
  obtain ⟨⟨rfl, I2, J2, A2, rfl, hv⟩, hz2⟩ := hh
  refine wt rfl ?_
  refine wp_keys [0, 1, 2, 3] rfl rfl ?_
  exact hN I2 J2 A2 hv hz2
set_option maxRecDepth 100000 in
theorem lw_image (hi : i + 6 < E.1) (hL : E.1 ≤ 3584) (h : Inv I J) (hz : ZO (mm I J A)) (hN : ∀ I' J' A', Inv I' J' → ZO (mm I' J' A') → wp E 1000 264 1657 [(0, .float 2000), (1, .ref 0), (2, .ref 265), (3, .int (iZ i))] [] (mm I' J' A') Q) : wp E 1000 264 1611 [(0, .float 2000), (1, .ref 0), (2, .ref 265), (3, .int (iZ i))] [] (mm I J A) Q := by
  refine wf (hs := [1657]) 42 1611 (by decide) (And.intro (lwI (j := 1) (by omega) hL) (And.intro rfl (wpC_mono (wpC_zo hz (ol_image h hz)) (fun r M hh => ?_))))
  obtain ⟨⟨z, I1, J1, A1, rfl, rfl, hm⟩, hz1⟩ := hh
  refine And.intro (lwI (j := 1) (by omega) hL) (And.intro rfl (wpC_mono (wpC_zo hz1 hm) (fun r M hh => ?_)))
  obtain ⟨⟨rfl, I2, J2, A2, rfl, hv⟩, hz2⟩ := hh
  refine wt rfl ?_
  refine wp_keys [0, 1, 2, 3] rfl rfl ?_
  exact hN I2 J2 A2 hv hz2
set_option maxRecDepth 100000 in
theorem lw_back (hi : i + 6 < E.1) (hL : E.1 ≤ 3584) (h : Inv I J) (hz : ZO (mm I J A)) (hN : ∀ I' J' A', Inv I' J' → ZO (mm I' J' A') → wp E 1000 264 1657 [(0, .float 2000), (1, .ref 0), (2, .ref 265), (3, .int (iZ i))] [] (mm I' J' A') Q) : wp E 1000 264 1634 [(0, .float 2000), (1, .ref 0), (2, .ref 265), (3, .int (iZ i))] [] (mm I J A) Q := by
  refine wf (hs := [1657]) 42 1634 (by decide) (And.intro (lwI (j := 1) (by omega) hL) (And.intro rfl (wpC_mono (wpC_zo hz (ol_back h hz)) (fun r M hh => ?_))))
  obtain ⟨⟨z, I1, J1, A1, rfl, rfl, hm⟩, hz1⟩ := hh
  refine And.intro (lwI (j := 1) (by omega) hL) (And.intro rfl (wpC_mono (wpC_zo hz1 hm) (fun r M hh => ?_)))
  obtain ⟨⟨rfl, I2, J2, A2, rfl, hv⟩, hz2⟩ := hh
  refine wt rfl ?_
  refine wp_keys [0, 1, 2, 3] rfl rfl ?_
  exact hN I2 J2 A2 hv hz2
end LAW
