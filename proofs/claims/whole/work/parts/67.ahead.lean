/-! ===== ahead told to both ===== -/
noncomputable def ahF (g : Nat → Nat → Int) : Nat → Nat → Int → am_V → Int
  | 0, _, f, _ => f
  | n + 1, i, f, v => ahF g n (i + 1) (if f < 0 ∧ (rndZ g v 266 7 = 60 ∨ rndZ g v 266 7 = -60) then (i : Int) else f) (rndZ g v)
noncomputable def aheadZ (g : Nat → Nat → Int) (n : Nat) (what : Int) (v : am_V) : Int := if what = 0 then rnN g n v 266 7 else if what = 1 then (if rnN g n v 266 7 = 60 ∨ rnN g n v 266 7 = -60 then 1 else 0) else if what = 2 then sm (nP (rnN g n v)) (fun k => rnN g n v 276 k) else ahF g n 1 (if v 266 7 = 60 ∨ v 266 7 = -60 then 0 else -2) v
section AHEAD
variable {E : Nat × (Nat → Int32)} {d : Nat} {I I0 I1 : Nat → Nat → Int32} {J J0 J1 : Nat → Nat → Int64} {A A1 : Nat → Option Nat} {Q : Option Value → am_M → Prop} {M : am_M} {v w : am_V} {b : Nat}
theorem c_allW (hR : RS I J 1 w) (hW : Wf w) (hQ : Q (some (.int (iZ (sm (nP w) (fun k => w 276 k))))) (mm I J A)) : wpC E d 33 [.ref 3] (mm I J A) Q := by
  have h12 := nP12 hW
  have p0 : I 3 0 = iZ (nP w) := hR.2.2.1.1
  have L := lpU (σ := Int32 × Int32) (fun _ s => wp E d 33 4 [(0, .ref 3), (1, .int s.1), (2, .int s.2)] [] (mm I J A) Q) (fun i s => s.1 = iZ (sm i (fun k => w 276 k)) ∧ s.2 = iZ i) (nP w) ?_ ?_
  · refine wc (hs := [4]) 20 (by decide) ?_
    refine wp_keys [0, 1, 2] rfl rfl ?_
    exact L 0 (_, _) (by omega) ⟨rfl, rfl⟩
  · rintro ⟨x, y⟩ ⟨ex, ey⟩
    dsimp only at ex ey
    subst ex; subst ey
    exact wf (hs := [4]) 20 4 (by decide) (wt (Int32.le_of_eq p0) hQ)
  · rintro i ⟨x, y⟩ hi ⟨ex, ey⟩ ih
    dsimp only at ex ey
    subst ex; subst ey
    have c0 : ¬ I 3 0 ≤ iZ (i : Int) := by rw [p0]; ((try simp (disch := omega) only [z_i8, z_i16, z_of, z_ofN, z_lofN, z_0, z_1, z_m1, z_l0, z_l1, iZ_add, iZ_sub, iZ_mul, iZ_neg, lZ_add, lZ_sub, lZ_mul, lZ_neg, z_div, z_ldiv, z_l, z_i, z_lt, z_le, z_eq, z_llt, z_lle, z_leq, z_cgt, z_cge, z_clt, z_cle, z_ceq, z_cl, z_nat, Int.toNat_natCast, mm_I, mm_J, z_cln, z_abs, z_max, z_min, z_lmax, z_lmin, z_sin, Int.cast_ofNat_Int, uI_I, uI_J, uL_I, uL_J, uA_I, uA_J, sI_eq, sI_ne, sL_eq, sL_ne, up_eq, up_ne, uL_eq, uL_ne, z_toInt, Int.reduceToNat]) <;> omega)
    have e11 : I 11 i = iZ (w 276 i) := (hR.2.2.1.2.1 i hi).2.2.2.2.2.2.2.1
    have cl : (iZ (i : Int)).toNatClampNeg = i := z_cln (by omega)
    refine wf (hs := [4]) 30 4 (by decide) (wF c0 (And.intro (z_in (by omega) (by omega) (by omega)) ?_))
    refine wp_keys [0, 1, 2] rfl rfl ?_
    refine ih (_, _) ⟨?_, iZ_add i 1⟩
    dsimp only
    show iZ (sm i (fun k => w 276 k)) + I 11 (iZ (i : Int)).toNatClampNeg = _
    rw [cl, e11, iZ_add]; rfl
theorem m_allW (hW : Wf (vI I)) (hQ : Q (some (.int (iZ (sm (nP (vI I)) (fun k => vI I 276 k))))) (mm I J A)) : wpC E d 237 [.ref 265] (mm I J A) Q := by
  have h12 := nP12 hW
  have b9 := hW.1.2.2.2.2.2.2.2.2.1
  have p0 : I 266 9 = iZ (nP (vI I) : Nat) := by rw [vI_eq I 266 9]; congr 1; unfold nP; omega
  have L := lpU (σ := Int32 × Int32) (fun _ s => wp E d 237 4 [(0, .ref 265), (1, .int s.1), (2, .int s.2)] [] (mm I J A) Q) (fun i s => s.1 = iZ (sm i (fun k => vI I 276 k)) ∧ s.2 = iZ i) (nP (vI I)) ?_ ?_
  · refine wc (hs := [4]) 20 (by decide) ?_
    refine wp_keys [0, 1, 2] rfl rfl ?_
    exact L 0 (_, _) (by omega) ⟨rfl, rfl⟩
  · rintro ⟨x, y⟩ ⟨ex, ey⟩
    dsimp only at ex ey
    subst ex; subst ey
    exact wf (hs := [4]) 20 4 (by decide) (And.intro (inL (by decide)) (wt (Int32.le_of_eq p0) hQ))
  · rintro i ⟨x, y⟩ hi ⟨ex, ey⟩ ih
    dsimp only at ex ey
    subst ex; subst ey
    have c0 : ¬ I 266 9 ≤ iZ (i : Int) := by rw [p0]; ((try simp (disch := omega) only [z_i8, z_i16, z_of, z_ofN, z_lofN, z_0, z_1, z_m1, z_l0, z_l1, iZ_add, iZ_sub, iZ_mul, iZ_neg, lZ_add, lZ_sub, lZ_mul, lZ_neg, z_div, z_ldiv, z_l, z_i, z_lt, z_le, z_eq, z_llt, z_lle, z_leq, z_cgt, z_cge, z_clt, z_cle, z_ceq, z_cl, z_nat, Int.toNat_natCast, mm_I, mm_J, z_cln, z_abs, z_max, z_min, z_lmax, z_lmin, z_sin, Int.cast_ofNat_Int, uI_I, uI_J, uL_I, uL_J, uA_I, uA_J, sI_eq, sI_ne, sL_eq, sL_ne, up_eq, up_ne, uL_eq, uL_ne, z_toInt, Int.reduceToNat]) <;> omega)
    have cl : (iZ (i : Int)).toNatClampNeg = i := z_cln (by omega)
    refine wf (hs := [4]) 30 4 (by decide) (And.intro (inL (by decide)) (wF c0 (And.intro (z_in (by omega) (by omega) (by omega)) ?_)))
    refine wp_keys [0, 1, 2] rfl rfl ?_
    refine ih (_, _) ⟨?_, iZ_add i 1⟩
    dsimp only
    show iZ (sm i (fun k => vI I 276 k)) + I 276 (iZ (i : Int)).toNatClampNeg = _
    rw [cl, vI_eq I 276 i, iZ_add]; rfl
theorem ahF_rng (g : Nat → Nat → Int) : ∀ (n i : Nat) (f : Int) (v : am_V), (f = -2 ∨ (0 ≤ f ∧ f ≤ 60)) → i + n ≤ 61 → ahF g n i f v = -2 ∨ (0 ≤ ahF g n i f v ∧ ahF g n i f v ≤ 60) := by
  intro n
  induction n with
  | zero => intro i f v h _; exact h
  | succ n ih =>
    intro i f v h hi
    refine ih (i + 1) _ _ ?_ (by omega)
    split
    · omega
    · exact h
def GAh (I : Nat → Nat → Int32) (N : Nat) (k m q : Int) : Prop := I 266 0 = 1 ∧ (0 ≤ k ∧ k < N) ∧ (0 ≤ m ∧ m ≤ 60) ∧ (0 ≤ q ∧ q ≤ 3)
theorem m_aheadT {q : Int} {n : Nat} {k : Nat} {F : Int} {x5 : Int32} {RES : Int} (h : MSt I0 J0 A v I J w) (hWv : Wf v) (hHv : WfH v) (hq : 0 ≤ q ∧ q ≤ 3) (he : (if q = 0 then w 266 7 else if q = 1 then (if w 266 7 = 60 ∨ w 266 7 = -60 then 1 else 0) else if q = 2 then sm (nP w) (fun k => w 276 k) else F) = RES) (hQ : ∀ I' J', MSt I0 J0 A v I' J' v → Q (some (.int (iZ RES))) (mm I' J' A)) : wp E (d + 7) 238 99 [(0, .ref 265), (1, .int (iZ k)), (2, .int (iZ n)), (3, .int (iZ q)), (4, .int (iZ F)), (5, .int x5)] [] (mm I J A) Q := by
  have hW := h.2.2.2.2.1
  have T : ∀ x : Int32, x = iZ RES → wp E (d + 7) 238 147 [(0, .ref 265), (1, .int (iZ k)), (2, .int (iZ n)), (3, .int (iZ q)), (4, .int (iZ F)), (5, .int x5)] [.int x] (mm I J A) Q := fun x ex => by
    subst ex
    exact wf (hs := []) 20 147 (by decide) (And.intro rfl (ms_back h hWv hHv rfl (fun I' h' => hQ I' J h')))
  have hc : q = 0 ∨ q = 1 ∨ q = 2 ∨ q = 3 := by omega
  rcases hc with rfl | rfl | rfl | rfl
  · rw [if_pos rfl] at he
    refine wf (hs := [147]) 30 99 (by decide) (wt rfl (And.intro (inL (by decide)) (T _ ?_)))
    have ev := h.2.2.2.1
    rw [← he, ← ev]
    exact vI_eq I 266 7
  · rw [if_neg (by omega), if_pos rfl] at he
    refine wf (hs := [147]) 30 99 (by decide) (wF (by decide) (wt rfl (And.intro rfl (ms_over h (fun p => wF (by decide) (T _ ?_)) (fun p => wt rfl (T _ ?_))))))
    · rw [if_pos p] at he; rw [← he]; rfl
    · rw [if_neg p] at he; rw [← he]; rfl
  · rw [if_neg (by omega), if_neg (by omega), if_pos rfl] at he
    have ev := h.2.2.2.1
    subst ev
    have hW : Wf (vI I) := hW
    refine wf (hs := [147]) 30 99 (by decide) (wF (by decide) (wF (by decide) (wt rfl (And.intro rfl (m_allW hW (T _ ?_))))))
    rw [← he]; rfl
  · rw [if_neg (by omega), if_neg (by omega), if_neg (by omega)] at he
    exact wf (hs := [147]) 30 99 (by decide) (wF (by decide) (wF (by decide) (wF (by decide) (T _ (by rw [he])))))
theorem m_aheadL {q : Int} {n : Nat} {g : Nat → Nat → Int} {k : Nat} {F : Int} {RES : Int} (h : MSt I0 J0 A v I J w) (m0 : M0 I0 J0) (hk : k < 6) (hg : WfG g) (hm : MG I0 k g) (hWv : Wf v) (hHv : WfH v) (hq : 0 ≤ q ∧ q ≤ 3) (hn : n ≤ 60) (h8 : w 266 8 + n ≤ 99999) (hF : F = -2 ∨ (0 ≤ F ∧ F ≤ 60)) (he : (if q = 0 then rnN g n w 266 7 else if q = 1 then (if rnN g n w 266 7 = 60 ∨ rnN g n w 266 7 = -60 then 1 else 0) else if q = 2 then sm (nP (rnN g n w)) (fun k => rnN g n w 276 k) else ahF g n 1 F w) = RES) (hQ : ∀ I' J', MSt I0 J0 A v I' J' v → Q (some (.int (iZ RES))) (mm I' J' A)) : wp E (d + 7) 238 59 [(0, .ref 265), (1, .int (iZ k)), (2, .int (iZ n)), (3, .int (iZ q)), (4, .int (iZ F)), (5, .int (iZ 1))] [] (mm I J A) Q := by
  have L : ∀ (m i : Nat) (I : Nat → Nat → Int32) (J : Nat → Nat → Int64) (w : am_V) (F : Int) (x4 x5 : Int32), i + m = n + 1 → 1 ≤ i → MSt I0 J0 A v I J w → w 266 8 + m ≤ 99999 → (F = -2 ∨ (0 ≤ F ∧ F ≤ 60)) → (if q = 0 then rnN g m w 266 7 else if q = 1 then (if rnN g m w 266 7 = 60 ∨ rnN g m w 266 7 = -60 then 1 else 0) else if q = 2 then sm (nP (rnN g m w)) (fun k => rnN g m w 276 k) else ahF g m i F w) = RES → x4 = iZ F → x5 = iZ i → wp E (d + 7) 238 59 [(0, .ref 265), (1, .int (iZ k)), (2, .int (iZ n)), (3, .int (iZ q)), (4, .int x4), (5, .int x5)] [] (mm I J A) Q := by
    intro m
    induction m with
    | zero =>
      intro i I J w F x4 x5 hi h1 h h8 hF he e4 e5
      subst e4; subst e5
      exact wf (hs := [59, 99]) 20 59 (by decide) (wt (by ((try simp (disch := omega) only [z_i8, z_i16, z_of, z_ofN, z_lofN, z_0, z_1, z_m1, z_l0, z_l1, iZ_add, iZ_sub, iZ_mul, iZ_neg, lZ_add, lZ_sub, lZ_mul, lZ_neg, z_div, z_ldiv, z_l, z_i, z_lt, z_le, z_eq, z_llt, z_lle, z_leq, z_cgt, z_cge, z_clt, z_cle, z_ceq, z_cl, z_nat, Int.toNat_natCast, mm_I, mm_J, z_cln, z_abs, z_max, z_min, z_lmax, z_lmin, z_sin, Int.cast_ofNat_Int, uI_I, uI_J, uL_I, uL_J, uA_I, uA_J, sI_eq, sI_ne, sL_eq, sL_ne, up_eq, up_ne, uL_eq, uL_ne, z_toInt, Int.reduceToNat]) <;> omega)) (m_aheadT h hWv hHv hq he hQ))
    | succ m ih =>
      intro i I J w F x4 x5 hi h1 h h8 hF he e4 e5
      subst e4; subst e5
      refine wf (hs := [59, 99]) 40 59 (by decide) (wF (by ((try simp (disch := omega) only [z_i8, z_i16, z_of, z_ofN, z_lofN, z_0, z_1, z_m1, z_l0, z_l1, iZ_add, iZ_sub, iZ_mul, iZ_neg, lZ_add, lZ_sub, lZ_mul, lZ_neg, z_div, z_ldiv, z_l, z_i, z_lt, z_le, z_eq, z_llt, z_lle, z_leq, z_cgt, z_cge, z_clt, z_cle, z_ceq, z_cl, z_nat, Int.toNat_natCast, mm_I, mm_J, z_cln, z_abs, z_max, z_min, z_lmax, z_lmin, z_sin, Int.cast_ofNat_Int, uI_I, uI_J, uL_I, uL_J, uA_I, uA_J, sI_eq, sI_ne, sL_eq, sL_ne, up_eq, up_ne, uL_eq, uL_ne, z_toInt, Int.reduceToNat]) <;> omega)) (And.intro rfl (ms_go h m0 hk hg hm (by omega) rfl (fun I' J' h' => ?_))))
      have nx : ∀ x4, x4 = iZ (if F < 0 ∧ (rndZ g w 266 7 = 60 ∨ rndZ g w 266 7 = -60) then (i : Int) else F) → wp E (d + 7) 238 59 [(0, .ref 265), (1, .int (iZ k)), (2, .int (iZ n)), (3, .int (iZ q)), (4, .int x4), (5, .int (iZ (i : Int) + 1))] [] (mm I' J' A) Q := fun x4 e4 => by
        refine ih (i + 1) I' J' _ _ x4 _ (by omega) (by omega) h' (by rw [rnd_8]; omega) ?_ ?_ e4 (iZ_add i 1)
        · split <;> omega
        · exact he
      refine And.intro (fun p => ?_) (fun p => ?_)
      · simp (disch := omega) only [z_i8, z_i16, z_of, z_ofN, z_lofN, z_0, z_1, z_m1, z_l0, z_l1, iZ_add, iZ_sub, iZ_mul, iZ_neg, lZ_add, lZ_sub, lZ_mul, lZ_neg, z_div, z_ldiv, z_l, z_i, z_lt, z_le, z_eq, z_llt, z_lle, z_leq, z_cgt, z_cge, z_clt, z_cle, z_ceq, z_cl, z_nat, Int.toNat_natCast, mm_I, mm_J, z_cln, z_abs, z_max, z_min, z_lmax, z_lmin, z_sin, Int.cast_ofNat_Int, uI_I, uI_J, uL_I, uL_J, uA_I, uA_J, sI_eq, sI_ne, sL_eq, sL_ne, up_eq, up_ne, uL_eq, uL_ne, z_toInt, Int.reduceToNat] at p
        refine And.intro rfl (ms_over h' (fun o => wF (by decide) ?_) (fun o => wt rfl ?_))
        · refine wp_keys [0, 1, 2, 3, 4, 5] rfl rfl ?_
          exact nx _ (by rw [if_pos ⟨by omega, o⟩])
        · refine wp_keys [0, 1, 2, 3, 4, 5] rfl rfl ?_
          exact nx _ (by rw [if_neg (fun q => o q.2)])
      · have p : ¬ F = -2 := by
          intro q; rw [q] at p; exact p rfl
        refine wp_keys [0, 1, 2, 3, 4, 5] rfl rfl ?_
        exact nx _ (by rw [if_neg (by omega)])
  exact L n 1 I J w F _ _ (by omega) (by omega) h h8 hF he rfl rfl
theorem m_ahead {k m q : Int} {N : Nat} {g : Nat → Nat → Nat → Int} (hV : Vm I) (h0 : M0 I J) (hz : ZO (mm I J A)) (h9 : vC I 266 8 ≤ 9999) (e31 : I 265 31 = iZ N) (hN : N ≤ 6) (hp : ∀ r : Nat, r < N → WfG (g r) ∧ MG I r (g r)) (hk : -2147483648 ≤ k ∧ k ≤ 2147483647) (hm : -2147483648 ≤ m ∧ m ≤ 2147483647) (hq : -2147483648 ≤ q ∧ q ≤ 2147483647) (h1 : GAh I N k m q → ∀ I' J', MSt I J A (vC I) I' J' (vC I) → Q (some (.int (iZ (aheadZ (g k.toNat) m.toNat q (vC I))))) (mm I' J' A)) (hno : ¬ GAh I N k m q → Q (some (.int (iZ (-1000000)))) (mm I J A)) : wpC E (d + 7) 238 [.ref 265, .int (iZ k), .int (iZ m), .int (iZ q)] (mm I J A) Q := by
  have T : I 266 0 = 1 ∧ 0 ≤ k ∧ k < N → 0 ≤ m ∧ m ≤ 60 → 0 ≤ q ∧ q ≤ 3 → wp E (d + 7) 238 35 [(0, .ref 265), (1, .int (iZ k)), (2, .int (iZ m)), (3, .int (iZ q))] [] (mm I J A) Q := fun p g2 g3 => by
    have hW := (hV p.1).1
    have hH := (hV p.1).2
    have pp := hp k.toNat (by omega)
    have H := h1 ⟨p.1, p.2, g2, g3⟩
    obtain ⟨κ, hκ, rfl⟩ : ∃ κ : Nat, κ < N ∧ k = κ := ⟨k.toNat, by omega, by omega⟩
    obtain ⟨μ, hμ, rfl⟩ : ∃ μ : Nat, μ ≤ 60 ∧ m = μ := ⟨m.toNat, by omega, by omega⟩
    rw [Int.toNat_natCast] at pp H
    rw [Int.toNat_natCast] at H
    refine wf (hs := [59]) 40 35 (by decide) (And.intro rfl (ms_lay hz hW hH rfl (fun I1 s1 => ?_)))
    refine And.intro rfl (ms_over s1 (fun o => wF (by decide) ?_) (fun o => wt rfl ?_))
    · refine wp_keys [0, 1, 2, 3, 4, 5] rfl rfl ?_
      refine m_aheadL (F := 0) s1 h0 (by omega) pp.1 pp.2 hW hH g3 hμ (by omega) (by omega) ?_ H
      unfold aheadZ
      rw [if_pos o]
    · refine wp_keys [0, 1, 2, 3, 4, 5] rfl rfl ?_
      refine m_aheadL (F := -2) s1 h0 (by omega) pp.1 pp.2 hW hH g3 hμ (by omega) (by omega) ?_ H
      unfold aheadZ
      rw [if_neg o]
  refine wc (hs := [35]) 60 (by decide) (And.intro rfl (m_isPlan e31 hN hk rfl (fun p => wF (by decide) ?_) (fun p => wt rfl (hno fun q => p ⟨q.1, q.2.1⟩))))
  refine And.intro rfl (mW (z := m) (lo := 0) (hi := 60) (z_l (by omega) (by omega)) rfl rfl hm (by omega) (by omega) (fun g2 => wF (by decide) ?_) (fun g2 => wt rfl (hno fun q => g2 q.2.2.1)))
  refine And.intro rfl (mW (z := q) (lo := 0) (hi := 3) (z_l (by omega) (by omega)) rfl rfl hq (by omega) (by omega) (fun g3 => wF (by decide) ?_) (fun g3 => wt rfl (hno fun q => g3 q.2.2.2)))
  exact T p g2 g3
theorem c_aheadT {q : Int} {n : Nat} {k : Nat} {F : Int} {x5 : Int32} {RES : Int} (h : CSt I0 J0 1 v I J w) (hWv : Wf v) (hHv : WfH v) (hq : 0 ≤ q ∧ q ≤ 3) (he : (if q = 0 then w 266 7 else if q = 1 then (if w 266 7 = 60 ∨ w 266 7 = -60 then 1 else 0) else if q = 2 then sm (nP w) (fun k => w 276 k) else F) = RES) (hQ : ∀ I' J' A', CSt I0 J0 1 v I' J' v → Q (some (.int (iZ RES))) (mm I' J' A')) : wp E (d + 7) 113 121 [(0, .ref 0), (1, .int (iZ k)), (2, .int (iZ n)), (3, .int (iZ q)), (4, .int (iZ F)), (5, .int x5)] [] (mm I J A) Q := by
  have T : ∀ x : Int32, x = iZ RES → wp E (d + 7) 113 183 [(0, .ref 0), (1, .int (iZ k)), (2, .int (iZ n)), (3, .int (iZ q)), (4, .int (iZ F)), (5, .int x)] [] (mm I J A) Q := fun x ex => by
    subst ex
    exact wf (hs := []) 20 183 (by decide) (And.intro rfl (cs_back (Or.inl rfl) h hWv hHv rfl (fun I' h' => hQ I' J A h')))
  have hW := h.2.2.2.2.1
  have hc : q = 0 ∨ q = 1 ∨ q = 2 ∨ q = 3 := by omega
  rcases hc with rfl | rfl | rfl | rfl
  · rw [if_pos rfl] at he
    refine wf (hs := [183]) 30 121 (by decide) (wt rfl ?_)
    refine wp_keys [0, 1, 2, 3, 4, 5] rfl rfl ?_
    refine T _ ?_
    rw [← he]
    exact h.2.2.1.1.2.2.2.2.2.2.2.1
  · rw [if_neg (by omega), if_pos rfl] at he
    refine wf (hs := [183]) 40 121 (by decide) (wF (by decide) (wt rfl (And.intro rfl (cs_over (Or.inl rfl) h (fun p => wF (by decide) ?_) (fun p => wt rfl ?_)))))
    · refine wp_keys [0, 1, 2, 3, 4, 5] rfl rfl ?_
      rw [if_pos p] at he
      exact T _ (by rw [← he]; rfl)
    · refine wp_keys [0, 1, 2, 3, 4, 5] rfl rfl ?_
      rw [if_neg p] at he
      exact T _ (by rw [← he]; rfl)
  · rw [if_neg (by omega), if_neg (by omega), if_pos rfl] at he
    refine wf (hs := [183]) 40 121 (by decide) (wF (by decide) (wF (by decide) (wt rfl (And.intro rfl (c_allW h.2.2.1 hW ?_)))))
    refine wp_keys [0, 1, 2, 3, 4, 5] rfl rfl ?_
    exact T _ (by rw [he])
  · rw [if_neg (by omega), if_neg (by omega), if_neg (by omega)] at he
    refine wf (hs := [183]) 40 121 (by decide) (wF (by decide) (wF (by decide) (wF (by decide) ?_)))
    refine wp_keys [0, 1, 2, 3, 4, 5] rfl rfl ?_
    exact T _ (by rw [he])
theorem c_aheadL {q : Int} {n : Nat} {k : Nat} {F : Int} {RES : Int} (h : CSt I0 J0 1 v I J w) (hk : k < 6) (hg : WfG (plV I0 (168 + 9 * k))) (hWv : Wf v) (hHv : WfH v) (hq : 0 ≤ q ∧ q ≤ 3) (hn : n ≤ 60) (h8 : w 266 8 + n ≤ 99999) (hF : F = -2 ∨ (0 ≤ F ∧ F ≤ 60)) (he : (if q = 0 then rnN (plV I0 (168 + 9 * k)) n w 266 7 else if q = 1 then (if rnN (plV I0 (168 + 9 * k)) n w 266 7 = 60 ∨ rnN (plV I0 (168 + 9 * k)) n w 266 7 = -60 then 1 else 0) else if q = 2 then sm (nP (rnN (plV I0 (168 + 9 * k)) n w)) (fun j => rnN (plV I0 (168 + 9 * k)) n w 276 j) else ahF (plV I0 (168 + 9 * k)) n 1 F w) = RES) (hQ : ∀ I' J' A', CSt I0 J0 1 v I' J' v → Q (some (.int (iZ RES))) (mm I' J' A')) : wp E (d + 7) 113 73 [(0, .ref 0), (1, .int (iZ k)), (2, .int (iZ n)), (3, .int (iZ q)), (4, .int (iZ F)), (5, .int (iZ 1))] [] (mm I J A) Q := by
  obtain ⟨g, eg⟩ : ∃ g, g = plV I0 (168 + 9 * k) := ⟨_, rfl⟩
  rw [← eg] at he
  have L : ∀ (m i : Nat) (I : Nat → Nat → Int32) (J : Nat → Nat → Int64) (A : Nat → Option Nat) (w : am_V) (F : Int) (x4 x5 : Int32), i + m = n + 1 → 1 ≤ i → CSt I0 J0 1 v I J w → w 266 8 + m ≤ 99999 → (F = -2 ∨ (0 ≤ F ∧ F ≤ 60)) → (if q = 0 then rnN g m w 266 7 else if q = 1 then (if rnN g m w 266 7 = 60 ∨ rnN g m w 266 7 = -60 then 1 else 0) else if q = 2 then sm (nP (rnN g m w)) (fun k => rnN g m w 276 k) else ahF g m i F w) = RES → x4 = iZ F → x5 = iZ i → wp E (d + 7) 113 73 [(0, .ref 0), (1, .int (iZ k)), (2, .int (iZ n)), (3, .int (iZ q)), (4, .int x4), (5, .int x5)] [] (mm I J A) Q := by
    intro m
    induction m with
    | zero =>
      intro i I J A w F x4 x5 hi h1 h h8 hF he e4 e5
      subst e4; subst e5
      exact wf (hs := [73, 121]) 20 73 (by decide) (wt (by ((try simp (disch := omega) only [z_i8, z_i16, z_of, z_ofN, z_lofN, z_0, z_1, z_m1, z_l0, z_l1, iZ_add, iZ_sub, iZ_mul, iZ_neg, lZ_add, lZ_sub, lZ_mul, lZ_neg, z_div, z_ldiv, z_l, z_i, z_lt, z_le, z_eq, z_llt, z_lle, z_leq, z_cgt, z_cge, z_clt, z_cle, z_ceq, z_cl, z_nat, Int.toNat_natCast, mm_I, mm_J, z_cln, z_abs, z_max, z_min, z_lmax, z_lmin, z_sin, Int.cast_ofNat_Int, uI_I, uI_J, uL_I, uL_J, uA_I, uA_J, sI_eq, sI_ne, sL_eq, sL_ne, up_eq, up_ne, uL_eq, uL_ne, z_toInt, Int.reduceToNat]) <;> omega)) (c_aheadT h hWv hHv hq he hQ))
    | succ m ih =>
      intro i I J A w F x4 x5 hi h1 h h8 hF he e4 e5
      subst e4; subst e5
      have go := cs_go (E := E) (d := d + 1) (A := A) (r := k) (Q := fun q M => q = none ∧ ∃ I2 J2 A2, M = mm I2 J2 A2 ∧ CSt I0 J0 1 v I2 J2 (rndZ g w)) (Or.inl rfl) h hk hg (by omega) (fun I2 J2 A2 q1 => ⟨rfl, I2, J2, A2, rfl, by rw [eg]; exact q1⟩)
      have nx : ∀ I' J' A', CSt I0 J0 1 v I' J' (rndZ g w) → wp E (d + 7) 113 96 [(0, .ref 0), (1, .int (iZ k)), (2, .int (iZ n)), (3, .int (iZ q)), (4, .int (iZ F)), (5, .int (iZ (i : Int)))] [] (mm I' J' A') Q := fun I' J' A' h' => by
        have nx2 : ∀ x4, x4 = iZ (if F < 0 ∧ (rndZ g w 266 7 = 60 ∨ rndZ g w 266 7 = -60) then (i : Int) else F) → wp E (d + 7) 113 73 [(0, .ref 0), (1, .int (iZ k)), (2, .int (iZ n)), (3, .int (iZ q)), (4, .int x4), (5, .int (iZ (i : Int) + 1))] [] (mm I' J' A') Q := fun x4 e4 => by
          refine ih (i + 1) I' J' A' _ _ x4 _ (by omega) (by omega) h' (by rw [rnd_8]; omega) ?_ ?_ e4 (iZ_add i 1)
          · split <;> omega
          · exact he
        refine wf (hs := [73]) 40 96 (by decide) (And.intro (fun p => ?_) (fun p => ?_))
        · simp (disch := omega) only [z_i8, z_i16, z_of, z_ofN, z_lofN, z_0, z_1, z_m1, z_l0, z_l1, iZ_add, iZ_sub, iZ_mul, iZ_neg, lZ_add, lZ_sub, lZ_mul, lZ_neg, z_div, z_ldiv, z_l, z_i, z_lt, z_le, z_eq, z_llt, z_lle, z_leq, z_cgt, z_cge, z_clt, z_cle, z_ceq, z_cl, z_nat, Int.toNat_natCast, mm_I, mm_J, z_cln, z_abs, z_max, z_min, z_lmax, z_lmin, z_sin, Int.cast_ofNat_Int, uI_I, uI_J, uL_I, uL_J, uA_I, uA_J, sI_eq, sI_ne, sL_eq, sL_ne, up_eq, up_ne, uL_eq, uL_ne, z_toInt, Int.reduceToNat] at p
          refine wp_keys [0, 1, 2, 3, 4, 5] rfl rfl ?_
          exact nx2 _ (by rw [if_neg (by omega)])
        · simp (disch := omega) only [z_i8, z_i16, z_of, z_ofN, z_lofN, z_0, z_1, z_m1, z_l0, z_l1, iZ_add, iZ_sub, iZ_mul, iZ_neg, lZ_add, lZ_sub, lZ_mul, lZ_neg, z_div, z_ldiv, z_l, z_i, z_lt, z_le, z_eq, z_llt, z_lle, z_leq, z_cgt, z_cge, z_clt, z_cle, z_ceq, z_cl, z_nat, Int.toNat_natCast, mm_I, mm_J, z_cln, z_abs, z_max, z_min, z_lmax, z_lmin, z_sin, Int.cast_ofNat_Int, uI_I, uI_J, uL_I, uL_J, uA_I, uA_J, sI_eq, sI_ne, sL_eq, sL_ne, up_eq, up_ne, uL_eq, uL_ne, z_toInt, Int.reduceToNat] at p
          refine And.intro rfl (cs_over (Or.inl rfl) h' (fun o => wF (by decide) ?_) (fun o => wt rfl ?_))
          · refine wp_keys [0, 1, 2, 3, 4, 5] rfl rfl ?_
            exact nx2 _ (by rw [if_pos ⟨by omega, o⟩])
          · refine wp_keys [0, 1, 2, 3, 4, 5] rfl rfl ?_
            exact nx2 _ (by rw [if_neg (fun q => o q.2)])
      have hc : k = 0 ∨ k = 1 ∨ k = 2 ∨ k = 3 ∨ k = 4 ∨ k = 5 := by omega
      clear ih hQ he eg
      rcases hc with rfl | rfl | rfl | rfl | rfl | rfl
      all_goals (
        refine wf (hs := [73, 96]) 40 73 (by decide) (wF (by ((try simp (disch := omega) only [z_i8, z_i16, z_of, z_ofN, z_lofN, z_0, z_1, z_m1, z_l0, z_l1, iZ_add, iZ_sub, iZ_mul, iZ_neg, lZ_add, lZ_sub, lZ_mul, lZ_neg, z_div, z_ldiv, z_l, z_i, z_lt, z_le, z_eq, z_llt, z_lle, z_leq, z_cgt, z_cge, z_clt, z_cle, z_ceq, z_cl, z_nat, Int.toNat_natCast, mm_I, mm_J, z_cln, z_abs, z_max, z_min, z_lmax, z_lmin, z_sin, Int.cast_ofNat_Int, uI_I, uI_J, uL_I, uL_J, uA_I, uA_J, sI_eq, sI_ne, sL_eq, sL_ne, up_eq, up_ne, uL_eq, uL_ne, z_toInt, Int.reduceToNat]) <;> omega)) (And.intro (inL (by decide)) ⟨_, rfl, And.intro rfl (wpC_mono go (fun q M hh => ?_))⟩))
        obtain ⟨rfl, I2, J2, A2, rfl, h2⟩ := hh
        exact nx I2 J2 A2 h2)
  exact L n 1 I J A w F _ _ (by omega) (by omega) h h8 hF he rfl rfl
theorem op_ahead {k m q : Int} (h : Inv I J) (hz : ZO (mm I J A)) (hk : -2147483648 ≤ k ∧ k ≤ 2147483647) (hm : -2147483648 ≤ m ∧ m ≤ 2147483647) (hq : -2147483648 ≤ q ∧ q ≤ 2147483647) : wpC E (d + 8) 113 [.ref 0, .int (iZ k), .int (iZ m), .int (iZ q)] (mm I J A) (QI E (d + 8) 238 [.int (iZ k), .int (iZ m), .int (iZ q)]) := by
  obtain ⟨N, hN, e3, e31, hp⟩ := id h.2.2.2.1
  have F : ¬ GAh I N k m q → ZO (mm I J A) → QI E (d + 8) 238 [.int (iZ k), .int (iZ m), .int (iZ q)] (some (.int (iZ (-1000000)))) (mm I J A) := fun p _ => by
    by_cases g0 : I 266 0 = 1
    · exact rd_mk h FS_refl (m_ahead (Vs_m h.1) h.2.2.2.2.1 hz (Vs_on h.1 g0).2.2.2 e31 hN hp hk hm hq (fun g => absurd g p) (fun _ => ⟨rfl, rfl⟩))
    · refine rd_mk h FS_refl (wc (hs := []) 20 (by decide) (And.intro rfl (m_isPlan e31 hN hk rfl (fun q => absurd q.1 g0) (fun _ => wt rfl ⟨rfl, rfl⟩))))
  refine wpC_mono (wpC_zo hz (Q := fun r M => ZO M → QI E (d + 8) 238 [.int (iZ k), .int (iZ m), .int (iZ q)] r M) ?_) (fun r M hh => hh.1 hh.2)
  rcases h.1 with ⟨g0, g1⟩ | ⟨g0, hW, hH, hR, h8⟩
  · exact wc (hs := []) 20 (by decide) (wt g1 (F fun q => by rw [q.1] at g0; cases g0))
  · have b1 : ¬ I 1 0 = 0 := by have : I 1 0 = 1 := hR.1.1; rw [this]; decide
    have T : (0 ≤ k ∧ k < N) → 0 ≤ m ∧ m ≤ 60 → 0 ≤ q ∧ q ≤ 3 → wp E (d + 8) 113 40 [(0, .ref 0), (1, .int (iZ k)), (2, .int (iZ m)), (3, .int (iZ q))] [] (mm I J A) (fun r M => ZO M → QI E (d + 8) 238 [.int (iZ k), .int (iZ m), .int (iZ q)] r M) := fun p g2 g3 => by
      have pp := hp k.toNat (by omega)
      have fin : ∀ I' J' A', CSt I J 1 (vC I) I' J' (vC I) → ZO (mm I' J' A') → QI E (d + 8) 238 [.int (iZ k), .int (iZ m), .int (iZ q)] (some (.int (iZ (aheadZ (plV I (168 + 9 * k.toNat)) m.toNat q (vC I))))) (mm I' J' A') := fun I' J' A' c z => by
        have hF : FV I J I' J' := fun a q1 q2 => c.1 a (by omega) q2
        have hv := FV_vC hF
        refine QI_mk (m_ahead (g := fun r => plV I (168 + 9 * r)) (FV_m hF (Vs_m h.1)) (M0_FV hF h.2.2.2.2.1) z (by rw [hv]; exact h8) (by rw [(hF 265 (by omega) (by omega)).1]; exact e31) hN (fun r hr => ⟨(hp r hr).1, MG_eq (hp r hr).2 (fun a q1 q2 => (hF a (by omega) (by omega)).1)⟩) hk hm hq (fun _ I2 J2 s => ?_) (fun x => absurd ⟨by rw [(hF 266 (by omega) (by omega)).1]; exact g0, p, g2, g3⟩ x))
        rw [hv] at s
        rw [hv]
        exact ⟨rfl, I2, J2, A', rfl, Inv_L h g0 (Or.inl rfl) c.1 s.1 s.2.2.2.1 c.2.2.1 ⟨fun _ => rfl, fun j hj e => by omega⟩⟩
      obtain ⟨κ, hκ, rfl⟩ : ∃ κ : Nat, κ < N ∧ k = κ := ⟨k.toNat, by omega, by omega⟩
      obtain ⟨μ, hμ, rfl⟩ : ∃ μ : Nat, μ ≤ 60 ∧ m = μ := ⟨m.toNat, by omega, by omega⟩
      rw [Int.toNat_natCast] at pp
      rw [Int.toNat_natCast, Int.toNat_natCast] at fin
      refine wf (hs := [73]) 40 40 (by decide) (And.intro rfl (cs_keep (Or.inl rfl) hR hW hH rfl (fun I1 s1 => ?_)))
      refine And.intro rfl (cs_over (Or.inl rfl) s1 (fun o => wF (by decide) ?_) (fun o => wt rfl ?_))
      · refine wp_keys [0, 1, 2, 3, 4, 5] rfl rfl ?_
        refine c_aheadL (d := d + 1) (Q := fun r M => ZO M → QI E (d + 8) 238 [.int (iZ (κ : Int)), .int (iZ (μ : Int)), .int (iZ q)] r M) (F := 0) s1 (by omega) pp.1 hW hH g3 hμ (by omega) (by omega) ?_ fin
        unfold aheadZ
        rw [if_pos o]
      · refine wp_keys [0, 1, 2, 3, 4, 5] rfl rfl ?_
        refine c_aheadL (d := d + 1) (Q := fun r M => ZO M → QI E (d + 8) 238 [.int (iZ (κ : Int)), .int (iZ (μ : Int)), .int (iZ q)] r M) (F := -2) s1 (by omega) pp.1 hW hH g3 hμ (by omega) (by omega) ?_ fin
        unfold aheadZ
        rw [if_neg o]
    refine wc (hs := [40]) 60 (by decide) (wF b1 (And.intro rfl (c_hasPlan e3 hN hk rfl (fun p => wF (by decide) ?_) (fun p => wt rfl (F fun q => p q.2.1)))))
    refine And.intro rfl (cW (z := m) (lo := 0) (hi := 60) rfl rfl rfl hm (by omega) (by omega) (fun g2 => wF (by decide) ?_) (fun g2 => wt rfl (F fun q => g2 q.2.2.1)))
    refine And.intro rfl (cW (z := q) (lo := 0) (hi := 3) rfl rfl rfl hq (by omega) (by omega) (fun g3 => wF (by decide) ?_) (fun g3 => wt rfl (F fun q => g3 q.2.2.2)))
    exact T p g2 g3
end AHEAD
