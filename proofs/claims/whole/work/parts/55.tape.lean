/-! ===== the tape; images ===== -/
def byZ (x : Int32) (r : Nat) : Int := x.toInt / (2 ^ (24 - 8 * r) : Nat) % 256
def sgZ (b : Int) : Int := if b < 128 then b else b - 256
theorem byB {x : Int32} {r : Nat} : 0 ≤ byZ x r ∧ byZ x r ≤ 255 := by
  unfold byZ
  omega
theorem toN (x : Int32) : (x.toBitVec.toNat : Int) = x.toInt ∨ (x.toBitVec.toNat : Int) = x.toInt + 4294967296 := by
  have : x.toInt = x.toBitVec.toInt := rfl
  rw [this, BitVec.toInt_eq_toNat_cond]
  have h := x.toBitVec.isLt
  split
  · left; rfl
  · right; omega
theorem by_c {x : Int32} {r : Nat} (hr : r < 4) : (x.toUInt32 >>> ((iZ (24 - 8 * (r : Int))).toUInt32 &&& Int32.toUInt32 31)).toInt32 &&& iZ 255 = iZ (byZ x r) := by
  have n := toN x
  have rx := rI_of x
  unfold rI at rx
  have hc : r = 0 ∨ r = 1 ∨ r = 2 ∨ r = 3 := by omega
  rw [pk_and _ 8 (by decide)]
  rcases hc with rfl | rfl | rfl | rfl
  · rw [pk_ushr x _ 24 (by decide), ← iZ_nat]
    congr 1
    unfold byZ
    simp only [Nat.reducePow, Nat.reduceMul, Nat.reduceSub]
    omega
  · rw [pk_ushr x _ 16 (by decide), ← iZ_nat]
    congr 1
    unfold byZ
    simp only [Nat.reducePow, Nat.reduceMul, Nat.reduceSub]
    omega
  · rw [pk_ushr x _ 8 (by decide), ← iZ_nat]
    congr 1
    unfold byZ
    simp only [Nat.reducePow, Nat.reduceMul, Nat.reduceSub]
    omega
  · rw [pk_ushr x _ 0 (by decide), ← iZ_nat]
    congr 1
    unfold byZ
    simp only [Nat.reducePow, Nat.reduceMul, Nat.reduceSub]
    omega
theorem by_m {x : Int32} {r : Nat} (hr : r < 4) : (x >>> (iZ (24 - 8 * (r : Int)) &&& 31)).toInt8.toInt32 = iZ (sgZ (byZ x r)) := by
  have hc : r = 0 ∨ r = 1 ∨ r = 2 ∨ r = 3 := by omega
  have sb : -128 ≤ sgZ (byZ x r) ∧ sgZ (byZ x r) ≤ 127 := by
    have := byB (x := x) (r := r)
    unfold sgZ
    omega
  rw [← Int32.toInt_inj, Int8.toInt_toInt32, Int32.toInt_toInt8, z_toInt (by omega) (by omega)]
  have key : ∀ k : Nat, (x >>> (iZ (24 - 8 * (r : Int)) &&& 31)).toInt = x.toInt / (2 ^ k : Nat) → k = 24 - 8 * r → (x >>> (iZ (24 - 8 * (r : Int)) &&& 31)).toInt.bmod (2 ^ 8) = sgZ (byZ x r) := by
    intro k h hk
    rw [h, hk]
    unfold sgZ byZ Int.bmod
    rfl
  rcases hc with rfl | rfl | rfl | rfl
  · exact key 24 (by rw [pk_shr x _ 24 (by decide), Int.shiftRight_eq_div_pow]) rfl
  · exact key 16 (by rw [pk_shr x _ 16 (by decide), Int.shiftRight_eq_div_pow]) rfl
  · exact key 8 (by rw [pk_shr x _ 8 (by decide), Int.shiftRight_eq_div_pow]) rfl
  · exact key 0 (by rw [pk_shr x _ 0 (by decide), Int.shiftRight_eq_div_pow]) rfl
section TPE
variable {E : Nat × (Nat → Int32)} {d : Nat} {I I1 : Nat → Nat → Int32} {J J1 : Nat → Nat → Int64} {A A1 : Nat → Option Nat} {Q : Option Value → am_M → Prop} {M : am_M}
/-- bytes written from t on: the row at cell c, the count at (o, s) -/
def apN (I : Nat → Nat → Int32) (c o s t : Nat) (f : Nat → Int) (n : Nat) : Nat → Nat → Int32 := fun a j => if a = c ∧ t ≤ j ∧ j < t + n then iZ (f (j - t)) else if a = o ∧ j = s then iZ (t + n : Nat) else I a j
theorem apN_0 {c o s t : Nat} {f : Nat → Int} (h : I o s = iZ t) : apN I c o s t f 0 = I := by
  funext a j
  unfold apN
  rw [if_neg (by omega)]
  split
  · rename_i q; rw [q.1, q.2, h]; rfl
  · rfl
theorem apN_s {c o s t n k : Nat} {f : Nat → Int} {x y : Int32} (hc : c ≠ o) (hk : k = t + n) (hx : x = iZ (f n)) (hy : y = iZ ((t + (n + 1) : Nat) : Int)) : setI (setI (apN I c o s t f n) c k x) o s y = apN I c o s t f (n + 1) := by
  subst hk; subst hx; subst hy
  funext a j
  rw [setI_at, setI_at]
  unfold apN
  by_cases h1 : a = o ∧ j = s
  · rw [if_pos h1, if_neg (by omega), if_pos h1]
  · rw [if_neg h1]
    by_cases h2 : a = c ∧ j = t + n
    · rw [if_pos h2, if_pos (by omega), h2.2, show t + n - t = n by omega]
    · rw [if_neg h2]
      by_cases h3 : a = c ∧ t ≤ j ∧ j < t + n
      · rw [if_pos h3, if_pos (by omega)]
      · rw [if_neg h3, if_neg h1, if_neg (by omega), if_neg h1]
theorem apN_add {c o s t n m : Nat} {f g : Nat → Int} (hc : c ≠ o) : apN (apN I c o s t f n) c o s (t + n) g m = apN I c o s t (fun i => if i < n then f i else g (i - n)) (n + m) := by
  funext a j
  unfold apN
  by_cases h1 : a = c ∧ t + n ≤ j ∧ j < t + n + m
  · rw [if_pos h1, if_pos (by omega)]
    simp only []
    rw [if_neg (by omega)]
    congr 2; omega
  · rw [if_neg h1]
    by_cases h2 : a = o ∧ j = s
    · rw [if_pos h2, if_neg (by omega), if_pos h2]
      congr 1; omega
    · rw [if_neg h2]
      by_cases h3 : a = c ∧ t ≤ j ∧ j < t + n
      · rw [if_pos h3, if_pos (by omega)]
        simp only []
        rw [if_pos (by omega)]
      · rw [if_neg h3, if_neg h2, if_neg (by omega), if_neg h2]
theorem c_append {t : Nat} {x : Int32} (ht : t + 4 ≤ 400) (h5 : I 0 5 = iZ t) (hQ : Q none (mm (apN I 222 0 5 t (byZ x) 4) J A)) : wpC E d 94 [.ref 0, .int x] (mm I J A) Q := by
  have g5 : ∀ n, apN I 222 0 5 t (byZ x) n 0 5 = iZ ((t + n : Nat) : Int) := fun n => by unfold apN; rw [if_neg (by omega), if_pos ⟨rfl, rfl⟩]
  have L : ∀ (m n : Nat) (y : Int32), n + m = 4 → y = iZ (24 - 8 * (n : Int)) → wp E d 94 3 [(0, .ref 0), (1, .int x), (2, .int y)] [] (mm (apN I 222 0 5 t (byZ x) n) J A) Q := by
    intro m
    induction m with
    | zero =>
      intro n y hn ey
      subst ey
      have : n = 4 := by omega
      subst this
      exact wf (hs := [3]) 20 3 (by decide) (wt (by decide) hQ)
    | succ m ih =>
      intro n y hn ey
      subst ey
      have nx := ih (n + 1) (iZ (24 - 8 * (n : Int)) + iZ (-8)) (by omega) (by rw [iZ_add]; congr 1; omega)
      have cl : (apN I 222 0 5 t (byZ x) n 0 5).toNatClampNeg = t + n := by rw [g5]; exact z_cln (by omega)
      rw [← apN_s (n := n) (k := (apN I 222 0 5 t (byZ x) n 0 5).toNatClampNeg) (x := (x.toUInt32 >>> ((iZ (24 - 8 * (n : Int))).toUInt32 &&& Int32.toUInt32 31)).toInt32 &&& iZ 255) (y := setI (apN I 222 0 5 t (byZ x) n) 222 (apN I 222 0 5 t (byZ x) n 0 5).toNatClampNeg ((x.toUInt32 >>> ((iZ (24 - 8 * (n : Int))).toUInt32 &&& Int32.toUInt32 31)).toInt32 &&& iZ 255) 0 5 + Int32.ofInt 1) (by omega) cl (by_c (by omega)) (by rw [setI_at, if_neg (by omega), g5]; exact iZ_add _ 1)] at nx
      refine wf (hs := [3]) 30 3 (by decide) (wF (by ((try simp (disch := omega) only [z_i8, z_i16, z_of, z_ofN, z_lofN, z_0, z_1, z_m1, z_l0, z_l1, iZ_add, iZ_sub, iZ_mul, iZ_neg, lZ_add, lZ_sub, lZ_mul, lZ_neg, z_div, z_ldiv, z_l, z_i, z_lt, z_le, z_eq, z_llt, z_lle, z_leq, z_cgt, z_cge, z_clt, z_cle, z_ceq, z_cl, z_nat, Int.toNat_natCast, mm_I, mm_J, z_cln, z_abs, z_max, z_min, z_lmax, z_lmin, z_sin, Int.cast_ofNat_Int, uI_I, uI_J, uL_I, uL_J, uA_I, uA_J, sI_eq, sI_ne, sL_eq, sL_ne, up_eq, up_ne, uL_eq, uL_ne, z_toInt, Int.reduceToNat]) <;> omega)) (wF ?_ (And.intro ?_ ?_)))
      · show ¬ iZ 400 ≤ apN I 222 0 5 t (byZ x) n 0 5
        rw [g5]; ((try simp (disch := omega) only [z_i8, z_i16, z_of, z_ofN, z_lofN, z_0, z_1, z_m1, z_l0, z_l1, iZ_add, iZ_sub, iZ_mul, iZ_neg, lZ_add, lZ_sub, lZ_mul, lZ_neg, z_div, z_ldiv, z_l, z_i, z_lt, z_le, z_eq, z_llt, z_lle, z_leq, z_cgt, z_cge, z_clt, z_cle, z_ceq, z_cl, z_nat, Int.toNat_natCast, mm_I, mm_J, z_cln, z_abs, z_max, z_min, z_lmax, z_lmin, z_sin, Int.cast_ofNat_Int, uI_I, uI_J, uL_I, uL_J, uA_I, uA_J, sI_eq, sI_ne, sL_eq, sL_ne, up_eq, up_ne, uL_eq, uL_ne, z_toInt, Int.reduceToNat]) <;> omega)
      · show vp_in (apN I 222 0 5 t (byZ x) n 0 5) 400
        rw [g5]; exact z_in (by omega) (by omega) (by omega)
      · refine wp_keys [0, 1, 2] rfl rfl ?_
        exact nx
  refine wc (hs := [3]) 20 (by decide) ?_
  refine wp_keys [0, 1, 2] rfl rfl ?_
  have := L 4 0 (iZ 24) (by omega) rfl
  rw [apN_0 h5] at this
  exact this
theorem m_put {t : Nat} {x : Int32} (ht : t + 4 ≤ 400) (h5 : I 265 27 = iZ t) (hQ : Q none (mm (apN I 290 265 27 t (fun r => sgZ (byZ x r)) 4) J A)) : wpC E d 187 [.ref 265, .int x] (mm I J A) Q := by
  have g5 : ∀ n, apN I 290 265 27 t (fun r => sgZ (byZ x r)) n 265 27 = iZ ((t + n : Nat) : Int) := fun n => by unfold apN; rw [if_neg (by omega), if_pos ⟨rfl, rfl⟩]
  have L : ∀ (m n : Nat) (y : Int32), n + m = 4 → y = iZ (24 - 8 * (n : Int)) → wp E d 187 3 [(0, .ref 265), (1, .int x), (2, .int y)] [] (mm (apN I 290 265 27 t (fun r => sgZ (byZ x r)) n) J A) Q := by
    intro m
    induction m with
    | zero =>
      intro n y hn ey
      subst ey
      have : n = 4 := by omega
      subst this
      exact wf (hs := [3]) 20 3 (by decide) (wt (by decide) hQ)
    | succ m ih =>
      intro n y hn ey
      subst ey
      have nx := ih (n + 1) (iZ (24 - 8 * (n : Int)) + iZ (-8)) (by omega) (by rw [iZ_add]; congr 1; omega)
      have cl : (apN I 290 265 27 t (fun r => sgZ (byZ x r)) n 265 27).toNatClampNeg = t + n := by rw [g5]; exact z_cln (by omega)
      rw [← apN_s (n := n) (k := (apN I 290 265 27 t (fun r => sgZ (byZ x r)) n 265 27).toNatClampNeg) (x := vp_nar .byte (x >>> (iZ (24 - 8 * (n : Int)) &&& 31)).toInt8.toInt32) (y := setI (apN I 290 265 27 t (fun r => sgZ (byZ x r)) n) 290 (apN I 290 265 27 t (fun r => sgZ (byZ x r)) n 265 27).toNatClampNeg (vp_nar .byte (x >>> (iZ (24 - 8 * (n : Int)) &&& 31)).toInt8.toInt32) 265 27 + Int32.ofInt 1) (by omega) cl (by rw [pk_vb]; exact by_m (by omega)) (by rw [setI_at, if_neg (by omega), g5]; exact iZ_add _ 1)] at nx
      refine wf (hs := [3]) 30 3 (by decide) (wF (by ((try simp (disch := omega) only [z_i8, z_i16, z_of, z_ofN, z_lofN, z_0, z_1, z_m1, z_l0, z_l1, iZ_add, iZ_sub, iZ_mul, iZ_neg, lZ_add, lZ_sub, lZ_mul, lZ_neg, z_div, z_ldiv, z_l, z_i, z_lt, z_le, z_eq, z_llt, z_lle, z_leq, z_cgt, z_cge, z_clt, z_cle, z_ceq, z_cl, z_nat, Int.toNat_natCast, mm_I, mm_J, z_cln, z_abs, z_max, z_min, z_lmax, z_lmin, z_sin, Int.cast_ofNat_Int, uI_I, uI_J, uL_I, uL_J, uA_I, uA_J, sI_eq, sI_ne, sL_eq, sL_ne, up_eq, up_ne, uL_eq, uL_ne, z_toInt, Int.reduceToNat]) <;> omega)) (And.intro ?_ ?_))
      · show vp_in (apN I 290 265 27 t (fun r => sgZ (byZ x r)) n 265 27) 400
        rw [g5]; exact z_in (by omega) (by omega) (by omega)
      · refine wp_keys [0, 1, 2] rfl rfl ?_
        exact nx
  refine wc (hs := [3]) 20 (by decide) ?_
  refine wp_keys [0, 1, 2] rfl rfl ?_
  have := L 4 0 (iZ 24) (by omega) rfl
  rw [apN_0 h5] at this
  exact this
theorem ap_cnt {c o s t n : Nat} {f : Nat → Int} (hc : c ≠ o) : apN I c o s t f n o s = iZ ((t + n : Nat) : Int) := by
  unfold apN
  rw [if_neg (by omega), if_pos ⟨rfl, rfl⟩]
theorem ap_in {c o s t n i : Nat} {f : Nat → Int} (h : i < n) : apN I c o s t f n c (t + i) = iZ (f i) := by
  unfold apN
  rw [if_pos (by omega), show t + i - t = i by omega]
theorem ap_out {c o s t n a j : Nat} {f : Nat → Int} (h : ¬ (a = c ∧ t ≤ j)) (h' : ¬ (a = o ∧ j = s)) : apN I c o s t f n a j = I a j := by
  unfold apN
  rw [if_neg (by omega), if_neg h']
/-- the bytes of five ints -/
def five (f1 f2 f3 f4 f5 : Nat → Int) (i : Nat) : Int := if i < 16 then (if i < 12 then (if i < 8 then (if i < 4 then f1 i else f2 (i - 4)) else f3 (i - 8)) else f4 (i - 12)) else f5 (i - 16)
theorem ap5 {c o s t : Nat} {f1 f2 f3 f4 f5 : Nat → Int} (hc : c ≠ o) : apN (apN (apN (apN (apN I c o s t f1 4) c o s (t + 4) f2 4) c o s (t + 4 + 4) f3 4) c o s (t + 4 + 4 + 4) f4 4) c o s (t + 4 + 4 + 4 + 4) f5 4 = apN I c o s t (five f1 f2 f3 f4 f5) 20 := by
  have e1 := apN_add (I := I) (c := c) (o := o) (s := s) (t := t) (n := 4) (m := 4) (f := f1) (g := f2) hc
  have e2 := (congrArg (fun X => apN X c o s (t + 4 + 4) f3 4) e1).trans (apN_add (n := 8) (m := 4) hc)
  have e3 := (congrArg (fun X => apN X c o s (t + 4 + 4 + 4) f4 4) e2).trans (apN_add (n := 12) (m := 4) hc)
  exact (congrArg (fun X => apN X c o s (t + 4 + 4 + 4 + 4) f5 4) e3).trans (apN_add (n := 16) (m := 4) hc)
theorem fiveB {f1 f2 f3 f4 f5 : Nat → Int} (h : ∀ g, g = f1 ∨ g = f2 ∨ g = f3 ∨ g = f4 ∨ g = f5 → ∀ i, 0 ≤ g i ∧ g i ≤ 255) (i : Nat) : 0 ≤ five f1 f2 f3 f4 f5 i ∧ five f1 f2 f3 f4 f5 i ≤ 255 := by
  unfold five
  repeat' split
  · exact h f1 (by simp) _
  · exact h f2 (by simp) _
  · exact h f3 (by simp) _
  · exact h f4 (by simp) _
  · exact h f5 (by simp) _
theorem fiveS {f1 f2 f3 f4 f5 : Nat → Int} (i : Nat) : five (fun r => sgZ (f1 r)) (fun r => sgZ (f2 r)) (fun r => sgZ (f3 r)) (fun r => sgZ (f4 r)) (fun r => sgZ (f5 r)) i = sgZ (five f1 f2 f3 f4 f5 i) := by
  unfold five
  repeat' split
  all_goals rfl
theorem Inv_tape {I' : Nat → Nat → Int32} (h : Inv I J) (h0 : ∀ j, j ≠ 5 → I' 0 j = I 0 j) (h265 : ∀ j, j ≠ 27 → I' 265 j = I 265 j) (ho : ∀ a, a ≠ 0 → a ≠ 265 → a ≠ 222 → a ≠ 290 → I' a = I a) (hT : Tp I') : Inv I' J := by
  obtain ⟨hV, hI, -, hP, m0, h19⟩ := h
  have ev : vC I' = vC I := vC_eq (fun a h1 h2 => ho a (by omega) (by omega) (by omega) (by omega))
  refine ⟨?_, fun k hk => ?_, hT, ?_, ?_, by rw [h265 36 (by omega)]; exact h19⟩
  · unfold Vs
    rw [ev, ho 266 (by omega) (by omega) (by omega) (by omega), ho 1 (by omega) (by omega) (by omega) (by omega)]
    rcases hV with h | ⟨g1, g2, g3, g4, g5⟩
    · exact Or.inl h
    · exact Or.inr ⟨g1, g2, g3, RS_eq (fun a q1 q2 => ⟨ho a (by omega) (by omega) (by omega) (by omega), rfl⟩) g4, g5⟩
  · exact Im_eq hk (hI k hk) (ho 305 (by omega) (by omega) (by omega) (by omega)) (imV_eq (ho 304 (by omega) (by omega) (by omega) (by omega))) (fun a q1 q2 => ⟨ho a (by omega) (by omega) (by omega) (by omega), rfl⟩) (fun q => by rw [ho 266 (by omega) (by omega) (by omega) (by omega)]; exact q)
  · obtain ⟨n, hn, e1, e2, hp⟩ := hP
    refine ⟨n, hn, (h0 3 (by omega)).trans e1, (h265 31 (by omega)).trans e2, fun r hr => ?_⟩
    have ge := plV_cells (I := I) (I' := I') (r := r) (by omega) (fun a q1 q2 => ho a (by omega) (by omega) (by omega) (by omega))
    obtain ⟨g1, g2⟩ := hp r hr
    refine ⟨Ge_G ge g1, Ge_MG ge ?_⟩
    unfold MG MGi vI at g2 ⊢
    rw [ho 291 (by omega) (by omega) (by omega) (by omega), ho 292 (by omega) (by omega) (by omega) (by omega), ho 293 (by omega) (by omega) (by omega) (by omega), ho 294 (by omega) (by omega) (by omega) (by omega), ho 295 (by omega) (by omega) (by omega) (by omega), ho 296 (by omega) (by omega) (by omega) (by omega), ho 297 (by omega) (by omega) (by omega) (by omega), ho 298 (by omega) (by omega) (by omega) (by omega), ho 299 (by omega) (by omega) (by omega) (by omega), ho 300 (by omega) (by omega) (by omega) (by omega)]
    exact g2
  · unfold M0 vI at m0 ⊢
    rw [h265 25 (by omega)]
    exact m0
theorem op_feed {x1 x2 x3 x4 x5 : Int32} (h : Inv I J) : wpC E (d + 2) 93 [.ref 0, .int x1, .int x2, .int x3, .int x4, .int x5] (mm I J A) (QI E (d + 2) 186 [.int x1, .int x2, .int x3, .int x4, .int x5]) := by
  obtain ⟨t, ht, f1, f2, hb⟩ := id h.2.2.1
  by_cases hc : t + 20 ≤ 400
  · have fin : QI E (d + 2) 186 [.int x1, .int x2, .int x3, .int x4, .int x5] (some (.int (iZ ((t + 20 : Nat) : Int)))) (mm (apN I 222 0 5 t (five (byZ x1) (byZ x2) (byZ x3) (byZ x4) (byZ x5)) 20) J A) := by
      obtain ⟨F, hF⟩ : ∃ F, F = five (byZ x1) (byZ x2) (byZ x3) (byZ x4) (byZ x5) := ⟨_, rfl⟩
      have FB : ∀ i, 0 ≤ F i ∧ F i ≤ 255 := fun i => by
        rw [hF]
        refine fiveB (fun g hg i => ?_) i
        rcases hg with rfl | rfl | rfl | rfl | rfl <;> exact byB
      rw [← hF]
      have e27 : apN I 222 0 5 t F 20 265 27 = iZ t := by rw [ap_out (by omega) (by omega)]; exact f2
      refine QI_mk (wc (hs := []) 40 (by decide) (wt (by ((try simp (disch := omega) only [z_i8, z_i16, z_of, z_ofN, z_lofN, z_0, z_1, z_m1, z_l0, z_l1, iZ_add, iZ_sub, iZ_mul, iZ_neg, lZ_add, lZ_sub, lZ_mul, lZ_neg, z_div, z_ldiv, z_l, z_i, z_lt, z_le, z_eq, z_llt, z_lle, z_leq, z_cgt, z_cge, z_clt, z_cle, z_ceq, z_cl, z_nat, Int.toNat_natCast, mm_I, mm_J, z_cln, z_abs, z_max, z_min, z_lmax, z_lmin, z_sin, Int.cast_ofNat_Int, uI_I, uI_J, uL_I, uL_J, uA_I, uA_J, sI_eq, sI_ne, sL_eq, sL_ne, up_eq, up_ne, uL_eq, uL_ne, z_toInt, Int.reduceToNat, e27]) <;> omega)) ?_))
      refine And.intro rfl (m_put (t := t) (by omega) e27 ?_)
      refine And.intro rfl (m_put (t := t + 4) (by omega) (ap_cnt (by omega)) ?_)
      refine And.intro rfl (m_put (t := t + 4 + 4) (by omega) (ap_cnt (by omega)) ?_)
      refine And.intro rfl (m_put (t := t + 4 + 4 + 4) (by omega) (ap_cnt (by omega)) ?_)
      refine And.intro rfl (m_put (t := t + 4 + 4 + 4 + 4) (by omega) (ap_cnt (by omega)) ?_)
      suffices fin : RI (iZ ((t + 20 : Nat) : Int)) (some (.int (apN (apN I 222 0 5 t F 20) 290 265 27 t (five (fun r => sgZ (byZ x1 r)) (fun r => sgZ (byZ x2 r)) (fun r => sgZ (byZ x3 r)) (fun r => sgZ (byZ x4 r)) (fun r => sgZ (byZ x5 r))) 20 265 27))) (mm (apN (apN I 222 0 5 t F 20) 290 265 27 t (five (fun r => sgZ (byZ x1 r)) (fun r => sgZ (byZ x2 r)) (fun r => sgZ (byZ x3 r)) (fun r => sgZ (byZ x4 r)) (fun r => sgZ (byZ x5 r))) 20) J A) by
        rw [← ap5 (by omega)] at fin
        exact fin
      refine ⟨by rw [ap_cnt (by omega)], _, J, A, rfl, Inv_tape h (fun j hj => ?_) (fun j hj => ?_) (fun a h1 h2 h3 h4 => ?_) ⟨t + 20, by omega, ?_, ap_cnt (by omega), fun i hi => ?_⟩⟩
      · rw [ap_out (by omega) (by omega), ap_out (by omega) (by omega)]
      · rw [ap_out (by omega) (by omega), ap_out (by omega) (by omega)]
      · funext j
        rw [ap_out (by omega) (by omega), ap_out (by omega) (by omega)]
      · rw [ap_out (by omega) (by omega), ap_cnt (by omega)]
      · unfold vI
        by_cases hit : i < t
        · rw [ap_out (a := 222) (by omega) (by omega), ap_out (a := 222) (by omega) (by omega), ap_out (a := 290) (by omega) (by omega), ap_out (a := 290) (by omega) (by omega)]
          exact hb i hit
        · obtain ⟨k, rfl⟩ : ∃ k, i = t + k := ⟨i - t, by omega⟩
          have fk := FB k
          rw [ap_out (a := 222) (by omega) (by omega), ap_in (by omega), ap_in (by omega), fiveS, ← hF, z_toInt (by omega) (by omega), z_toInt (by unfold sgZ; omega) (by unfold sgZ; omega)]
          exact ⟨fk, rfl⟩
    refine wc (hs := []) 40 (by decide) (wt (by ((try simp (disch := omega) only [z_i8, z_i16, z_of, z_ofN, z_lofN, z_0, z_1, z_m1, z_l0, z_l1, iZ_add, iZ_sub, iZ_mul, iZ_neg, lZ_add, lZ_sub, lZ_mul, lZ_neg, z_div, z_ldiv, z_l, z_i, z_lt, z_le, z_eq, z_llt, z_lle, z_leq, z_cgt, z_cge, z_clt, z_cle, z_ceq, z_cl, z_nat, Int.toNat_natCast, mm_I, mm_J, z_cln, z_abs, z_max, z_min, z_lmax, z_lmin, z_sin, Int.cast_ofNat_Int, uI_I, uI_J, uL_I, uL_J, uA_I, uA_J, sI_eq, sI_ne, sL_eq, sL_ne, up_eq, up_ne, uL_eq, uL_ne, z_toInt, Int.reduceToNat, f1]) <;> omega)) ?_)
    refine And.intro rfl (c_append (t := t) (by omega) f1 ?_)
    refine And.intro rfl (c_append (t := t + 4) (by omega) (ap_cnt (by omega)) ?_)
    refine And.intro rfl (c_append (t := t + 4 + 4) (by omega) (ap_cnt (by omega)) ?_)
    refine And.intro rfl (c_append (t := t + 4 + 4 + 4) (by omega) (ap_cnt (by omega)) ?_)
    refine And.intro rfl (c_append (t := t + 4 + 4 + 4 + 4) (by omega) (ap_cnt (by omega)) ?_)
    have fin2 : QI E (d + 2) 186 [.int x1, .int x2, .int x3, .int x4, .int x5] (some (.int (apN I 222 0 5 t (five (byZ x1) (byZ x2) (byZ x3) (byZ x4) (byZ x5)) 20 0 5))) (mm (apN I 222 0 5 t (five (byZ x1) (byZ x2) (byZ x3) (byZ x4) (byZ x5)) 20) J A) := by
      rw [ap_cnt (by omega)]; exact fin
    rw [← ap5 (by omega)] at fin2
    exact fin2
  · refine wc (hs := []) 40 (by decide) (wF (by ((try simp (disch := omega) only [z_i8, z_i16, z_of, z_ofN, z_lofN, z_0, z_1, z_m1, z_l0, z_l1, iZ_add, iZ_sub, iZ_mul, iZ_neg, lZ_add, lZ_sub, lZ_mul, lZ_neg, z_div, z_ldiv, z_l, z_i, z_lt, z_le, z_eq, z_llt, z_lle, z_leq, z_cgt, z_cge, z_clt, z_cle, z_ceq, z_cl, z_nat, Int.toNat_natCast, mm_I, mm_J, z_cln, z_abs, z_max, z_min, z_lmax, z_lmin, z_sin, Int.cast_ofNat_Int, uI_I, uI_J, uL_I, uL_J, uA_I, uA_J, sI_eq, sI_ne, sL_eq, sL_ne, up_eq, up_ne, uL_eq, uL_ne, z_toInt, Int.reduceToNat, f1]) <;> omega)) (rd_mk h FS_refl ?_))
    exact wc (hs := []) 40 (by decide) (wF (by ((try simp (disch := omega) only [z_i8, z_i16, z_of, z_ofN, z_lofN, z_0, z_1, z_m1, z_l0, z_l1, iZ_add, iZ_sub, iZ_mul, iZ_neg, lZ_add, lZ_sub, lZ_mul, lZ_neg, z_div, z_ldiv, z_l, z_i, z_lt, z_le, z_eq, z_llt, z_lle, z_leq, z_cgt, z_cge, z_clt, z_cle, z_ceq, z_cl, z_nat, Int.toNat_natCast, mm_I, mm_J, z_cln, z_abs, z_max, z_min, z_lmax, z_lmin, z_sin, Int.cast_ofNat_Int, uI_I, uI_J, uL_I, uL_J, uA_I, uA_J, sI_eq, sI_ne, sL_eq, sL_ne, up_eq, up_ne, uL_eq, uL_ne, z_toInt, Int.reduceToNat, f2]) <;> omega)) ⟨rfl, rfl⟩)
theorem op_end {n : Int} (h : Inv I J) (hn : -2147483648 ≤ n ∧ n ≤ 2147483647) : wpC E (d + 2) 95 [.ref 0, .int (iZ n)] (mm I J A) (QI E (d + 2) 188 [.int (iZ n)]) := by
  obtain ⟨t, ht, f1, f2, hb⟩ := id h.2.2.1
  by_cases hc : 0 ≤ n ∧ n ≤ t
  · have fin : QI E (d + 2) 188 [.int (iZ n)] (some (.int (iZ n))) (mm (setI I 0 5 (iZ n)) J A) := by
      have e27 : setI I 0 5 (iZ n) 265 27 = iZ t := f2
      suffices fin : RI (iZ n) (some (.int (iZ n))) (mm (setI (setI I 0 5 (iZ n)) 265 27 (iZ n)) J A) from QI_mk (wc (hs := []) 40 (by decide) (wF (by ((try simp (disch := omega) only [z_i8, z_i16, z_of, z_ofN, z_lofN, z_0, z_1, z_m1, z_l0, z_l1, iZ_add, iZ_sub, iZ_mul, iZ_neg, lZ_add, lZ_sub, lZ_mul, lZ_neg, z_div, z_ldiv, z_l, z_i, z_lt, z_le, z_eq, z_llt, z_lle, z_leq, z_cgt, z_cge, z_clt, z_cle, z_ceq, z_cl, z_nat, Int.toNat_natCast, mm_I, mm_J, z_cln, z_abs, z_max, z_min, z_lmax, z_lmin, z_sin, Int.cast_ofNat_Int, uI_I, uI_J, uL_I, uL_J, uA_I, uA_J, sI_eq, sI_ne, sL_eq, sL_ne, up_eq, up_ne, uL_eq, uL_ne, z_toInt, Int.reduceToNat]) <;> omega)) (wt (by ((try simp (disch := omega) only [z_i8, z_i16, z_of, z_ofN, z_lofN, z_0, z_1, z_m1, z_l0, z_l1, iZ_add, iZ_sub, iZ_mul, iZ_neg, lZ_add, lZ_sub, lZ_mul, lZ_neg, z_div, z_ldiv, z_l, z_i, z_lt, z_le, z_eq, z_llt, z_lle, z_leq, z_cgt, z_cge, z_clt, z_cle, z_ceq, z_cl, z_nat, Int.toNat_natCast, mm_I, mm_J, z_cln, z_abs, z_max, z_min, z_lmax, z_lmin, z_sin, Int.cast_ofNat_Int, uI_I, uI_J, uL_I, uL_J, uA_I, uA_J, sI_eq, sI_ne, sL_eq, sL_ne, up_eq, up_ne, uL_eq, uL_ne, z_toInt, Int.reduceToNat, e27]) <;> omega)) fin)))
      refine ⟨rfl, _, J, A, rfl, Inv_tape h (fun j hj => ?_) (fun j hj => ?_) (fun a h1 h2 h3 h4 => ?_) ⟨n.toNat, by omega, ?_, ?_, fun i hi => ?_⟩⟩
      · rw [setI_at, if_neg (by omega), setI_at, if_neg (by omega)]
      · rw [setI_at, if_neg (by omega), setI_at, if_neg (by omega)]
      · funext j
        rw [setI_at, if_neg (by omega), setI_at, if_neg (by omega)]
      · rw [setI_at, if_neg (by omega), setI_at, if_pos ⟨rfl, rfl⟩]
        congr 1; omega
      · rw [setI_at, if_pos ⟨rfl, rfl⟩]
        congr 1; omega
      · exact hb i (by omega)
    exact wc (hs := []) 40 (by decide) (And.intro rfl (cW (z := n) (lo := 0) (hi := t) rfl rfl f1 hn (by omega) (by omega) (fun _ => wF (by decide) fin) (fun g => absurd hc g)))
  · have fin : QI E (d + 2) 188 [.int (iZ n)] (some (.int (iZ (-1)))) (mm I J A) := by
      refine rd_mk h FS_refl (wc (hs := []) 40 (by decide) (And.intro (fun q => ⟨rfl, rfl⟩) (fun q => ?_)))
      simp (disch := omega) only [z_i8, z_i16, z_of, z_ofN, z_lofN, z_0, z_1, z_m1, z_l0, z_l1, iZ_add, iZ_sub, iZ_mul, iZ_neg, lZ_add, lZ_sub, lZ_mul, lZ_neg, z_div, z_ldiv, z_l, z_i, z_lt, z_le, z_eq, z_llt, z_lle, z_leq, z_cgt, z_cge, z_clt, z_cle, z_ceq, z_cl, z_nat, Int.toNat_natCast, mm_I, mm_J, z_cln, z_abs, z_max, z_min, z_lmax, z_lmin, z_sin, Int.cast_ofNat_Int, uI_I, uI_J, uL_I, uL_J, uA_I, uA_J, sI_eq, sI_ne, sL_eq, sL_ne, up_eq, up_ne, uL_eq, uL_ne, z_toInt, Int.reduceToNat] at q
      exact wF (by ((try simp (disch := omega) only [z_i8, z_i16, z_of, z_ofN, z_lofN, z_0, z_1, z_m1, z_l0, z_l1, iZ_add, iZ_sub, iZ_mul, iZ_neg, lZ_add, lZ_sub, lZ_mul, lZ_neg, z_div, z_ldiv, z_l, z_i, z_lt, z_le, z_eq, z_llt, z_lle, z_leq, z_cgt, z_cge, z_clt, z_cle, z_ceq, z_cl, z_nat, Int.toNat_natCast, mm_I, mm_J, z_cln, z_abs, z_max, z_min, z_lmax, z_lmin, z_sin, Int.cast_ofNat_Int, uI_I, uI_J, uL_I, uL_J, uA_I, uA_J, sI_eq, sI_ne, sL_eq, sL_ne, up_eq, up_ne, uL_eq, uL_ne, z_toInt, Int.reduceToNat, f2]) <;> omega)) ⟨rfl, rfl⟩
    exact wc (hs := []) 40 (by decide) (And.intro rfl (cW (z := n) (lo := 0) (hi := t) rfl rfl f1 hn (by omega) (by omega) (fun g => absurd g hc) (fun _ => wt rfl fin)))
end TPE
