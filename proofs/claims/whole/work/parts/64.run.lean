/-! ===== rounds one after another, run ===== -/
theorem Ge_cls {g g' : Nat → Nat → Int} {v : am_V} (h : Ge g g') : ∀ n, clsN g' v n = clsN g v n := by
  intro n
  induction n with
  | zero => rfl
  | succ n ih =>
    show clZ g' (clsN g' v n) n = clZ g (clsN g v n) n
    rw [ih]
    by_cases q : tstZ g (clsN g v n) n
    · rw [clZ_pos q, clZ_pos (by rw [Ge_ts h]; exact q), Ge_do h]
    · rw [clZ_neg q, clZ_neg (by rw [Ge_ts h]; exact q)]
theorem Ge_rnd {g g' : Nat → Nat → Int} {v : am_V} (h : Ge g g') : rndZ g' v = rndZ g v := by
  have e : rd1 g' v = rd1 g v := by
    unfold rd1
    rw [Ge_cls h, h.1]
  unfold rndZ
  rw [e]
noncomputable def rnN (g : Nat → Nat → Int) : Nat → am_V → am_V
  | 0, v => v
  | n + 1, v => rnN g n (rndZ g v)
theorem Ge_rnN {g g' : Nat → Nat → Int} (h : Ge g g') : ∀ (n : Nat) (v : am_V), rnN g' n v = rnN g n v := by
  intro n
  induction n with
  | zero => intro v; rfl
  | succ n ih => intro v; show rnN g' n (rndZ g' v) = rnN g n (rndZ g v); rw [Ge_rnd h, ih]
theorem rnN_ok {g : Nat → Nat → Int} (hg : WfG g) : ∀ (n : Nat) (v : am_V), Wf v → WfH v → v 266 8 + n ≤ 99999 → Wf (rnN g n v) ∧ WfH (rnN g n v) := by
  intro n
  induction n with
  | zero => intro v h1 h2 _; exact ⟨h1, h2⟩
  | succ n ih =>
    intro v h1 h2 h8
    have w := Wf_rnd h1 h2 hg (by omega)
    exact ih (rndZ g v) w.1 w.2 (by rw [rnd_8]; omega)
theorem rnN_8 {g : Nat → Nat → Int} : ∀ (n : Nat) (v : am_V), rnN g n v 266 8 = v 266 8 + n := by
  intro n
  induction n with
  | zero => intro v; show v 266 8 = v 266 8 + ((0 : Nat) : Int); omega
  | succ n ih => intro v; show rnN g n (rndZ g v) 266 8 = _; rw [ih, rnd_8]; omega
theorem rnN_ne {g : Nat → Nat → Int} {a k : Nat} (h : a ≠ 276) (h' : a ≠ 266) (h'' : a ≠ 281) : ∀ (n : Nat) (v : am_V), rnN g n v a k = v a k := by
  intro n
  induction n with
  | zero => intro v; rfl
  | succ n ih => intro v; show rnN g n (rndZ g v) a k = _; rw [ih, rnd_ne h h' h'']
theorem rnN_cut {g : Nat → Nat → Int} : ∀ (n : Nat) (v : am_V), rnN g n (cutV v) = cutV (rnN g n v) := by
  intro n
  induction n with
  | zero => intro v; rfl
  | succ n ih => intro v; show rnN g n (rndZ g (cutV v)) = cutV (rnN g n (rndZ g v)); rw [rnd_cut, ih]
theorem SS_rnN {g : Nat → Nat → Int} : ∀ (n : Nat) (v : am_V), SS v (rnN g n v) := by
  intro n
  induction n with
  | zero => intro v; exact SS_refl
  | succ n ih => intro v; exact SS_trans SS_rnd (ih (rndZ g v))
section RUN
variable {E : Nat × (Nat → Int32)} {d : Nat} {I I1 : Nat → Nat → Int32} {J J1 : Nat → Nat → Int64} {A A1 : Nat → Option Nat} {Q : Option Value → am_M → Prop} {M : am_M}
theorem c_hasPlan {k : Int} {n : Nat} {x : Int32} (e : I 0 3 = iZ n) (hn : n ≤ 6) (hk : -2147483648 ≤ k ∧ k ≤ 2147483647) (ex : x = iZ k) (h1 : 0 ≤ k ∧ k < n → Q (some (.int 1)) (mm I J A)) (h0 : ¬ (0 ≤ k ∧ k < n) → Q (some (.int 0)) (mm I J A)) : wpC E d 133 [.ref 0, .int x] (mm I J A) Q := by
  subst ex
  refine wc (hs := []) 30 (by decide) (And.intro (fun q => ?_) (fun q => ?_))
  · simp (disch := omega) only [z_i8, z_i16, z_of, z_ofN, z_lofN, z_0, z_1, z_m1, z_l0, z_l1, iZ_add, iZ_sub, iZ_mul, iZ_neg, lZ_add, lZ_sub, lZ_mul, lZ_neg, z_div, z_ldiv, z_l, z_i, z_lt, z_le, z_eq, z_llt, z_lle, z_leq, z_cgt, z_cge, z_clt, z_cle, z_ceq, z_cl, z_nat, Int.toNat_natCast, mm_I, mm_J, z_cln, z_abs, z_max, z_min, z_lmax, z_lmin, z_sin, Int.cast_ofNat_Int, uI_I, uI_J, uL_I, uL_J, uA_I, uA_J, sI_eq, sI_ne, sL_eq, sL_ne, up_eq, up_ne, uL_eq, uL_ne, z_toInt, Int.reduceToNat] at q
    exact And.intro rfl (h0 (by omega))
  · simp (disch := omega) only [z_i8, z_i16, z_of, z_ofN, z_lofN, z_0, z_1, z_m1, z_l0, z_l1, iZ_add, iZ_sub, iZ_mul, iZ_neg, lZ_add, lZ_sub, lZ_mul, lZ_neg, z_div, z_ldiv, z_l, z_i, z_lt, z_le, z_eq, z_llt, z_lle, z_leq, z_cgt, z_cge, z_clt, z_cle, z_ceq, z_cl, z_nat, Int.toNat_natCast, mm_I, mm_J, z_cln, z_abs, z_max, z_min, z_lmax, z_lmin, z_sin, Int.cast_ofNat_Int, uI_I, uI_J, uL_I, uL_J, uA_I, uA_J, sI_eq, sI_ne, sL_eq, sL_ne, up_eq, up_ne, uL_eq, uL_ne, z_toInt, Int.reduceToNat] at q
    refine And.intro (fun q2 => ?_) (fun q2 => ?_)
    · simp (disch := omega) only [z_i8, z_i16, z_of, z_ofN, z_lofN, z_0, z_1, z_m1, z_l0, z_l1, iZ_add, iZ_sub, iZ_mul, iZ_neg, lZ_add, lZ_sub, lZ_mul, lZ_neg, z_div, z_ldiv, z_l, z_i, z_lt, z_le, z_eq, z_llt, z_lle, z_leq, z_cgt, z_cge, z_clt, z_cle, z_ceq, z_cl, z_nat, Int.toNat_natCast, mm_I, mm_J, z_cln, z_abs, z_max, z_min, z_lmax, z_lmin, z_sin, Int.cast_ofNat_Int, uI_I, uI_J, uL_I, uL_J, uA_I, uA_J, sI_eq, sI_ne, sL_eq, sL_ne, up_eq, up_ne, uL_eq, uL_ne, z_toInt, Int.reduceToNat, e] at q2
      exact And.intro rfl (h0 (by omega))
    · simp (disch := omega) only [z_i8, z_i16, z_of, z_ofN, z_lofN, z_0, z_1, z_m1, z_l0, z_l1, iZ_add, iZ_sub, iZ_mul, iZ_neg, lZ_add, lZ_sub, lZ_mul, lZ_neg, z_div, z_ldiv, z_l, z_i, z_lt, z_le, z_eq, z_llt, z_lle, z_leq, z_cgt, z_cge, z_clt, z_cle, z_ceq, z_cl, z_nat, Int.toNat_natCast, mm_I, mm_J, z_cln, z_abs, z_max, z_min, z_lmax, z_lmin, z_sin, Int.cast_ofNat_Int, uI_I, uI_J, uL_I, uL_J, uA_I, uA_J, sI_eq, sI_ne, sL_eq, sL_ne, up_eq, up_ne, uL_eq, uL_ne, z_toInt, Int.reduceToNat, e] at q2
      exact And.intro rfl (h1 (by omega))
theorem m_isPlan {k : Int} {n : Nat} {x : Int32} (e : I 265 31 = iZ n) (hn : n ≤ 6) (hk : -2147483648 ≤ k ∧ k ≤ 2147483647) (ex : x = iZ k) (h1 : I 266 0 = 1 ∧ 0 ≤ k ∧ k < n → Q (some (.int 1)) (mm I J A)) (h0 : ¬ (I 266 0 = 1 ∧ 0 ≤ k ∧ k < n) → Q (some (.int 0)) (mm I J A)) : wpC E (d + 1) 213 [.ref 265, .int x] (mm I J A) Q := by
  subst ex
  have eb : (I 265 31 - iZ 1).toInt64 = lZ ((n : Int) - 1) := by rw [e]; simp (disch := omega) only [z_i8, z_i16, z_of, z_ofN, z_lofN, z_0, z_1, z_m1, z_l0, z_l1, iZ_add, iZ_sub, iZ_mul, iZ_neg, lZ_add, lZ_sub, lZ_mul, lZ_neg, z_div, z_ldiv, z_l, z_i, z_lt, z_le, z_eq, z_llt, z_lle, z_leq, z_cgt, z_cge, z_clt, z_cle, z_ceq, z_cl, z_nat, Int.toNat_natCast, mm_I, mm_J, z_cln, z_abs, z_max, z_min, z_lmax, z_lmin, z_sin, Int.cast_ofNat_Int, uI_I, uI_J, uL_I, uL_J, uA_I, uA_J, sI_eq, sI_ne, sL_eq, sL_ne, up_eq, up_ne, uL_eq, uL_ne, z_toInt, Int.reduceToNat]
  refine wc (hs := []) 40 (by decide) (And.intro rfl (m_isShip (fun p => wF (by decide) ?_) (fun p => wt rfl (And.intro rfl (h0 fun q => p q.1)))))
  exact And.intro rfl (mW (z := k) (lo := 0) (hi := (n : Int) - 1) (z_l (by omega) (by omega)) rfl eb (by omega) (by omega) (by omega) (fun g => wF (by decide) (And.intro rfl (h1 ⟨p, by omega, by omega⟩))) (fun g => wt rfl (And.intro rfl (h0 fun q => g (by omega)))))
theorem c_goBy {v : am_V} {b r n : Nat} {x y : Int32} (hb : B5 b) (hR : RS I J b v) (hW : Wf v) (hH : WfH v) (hr : r < 6) (hg : WfG (plV I (168 + 9 * r))) (hn : n ≤ 1000) (h8 : v 266 8 + n ≤ 99999) (ex : x = iZ r) (ey : y = iZ n) (hQ : ∀ I' J' A', RS I' J' b (rnN (plV I (168 + 9 * r)) n v) → F2 240 b I J I' J' → Q none (mm I' J' A')) : wpC E (d + 6) 98 [.ref 0, .ref b, .int x, .int y] (mm I J A) Q := by
  subst ex; subst ey
  have hrh : RhS 240 b := Or.inl ⟨rfl, hb⟩
  have hp : PP (168 + 9 * r) := by unfold PP; omega
  obtain ⟨V, hV⟩ : ∃ V, V = rnN (plV I (168 + 9 * r)) n v := ⟨_, rfl⟩
  rw [← hV] at hQ
  have L : ∀ (m i : Nat) (I' : Nat → Nat → Int32) (J' : Nat → Nat → Int64) (A' : Nat → Option Nat) (w : am_V) (x4 : Int32), i + m = n → RS I' J' b w → Wf w → WfH w → F2 240 b I J I' J' → w 266 8 + m ≤ 99999 → rnN (plV I (168 + 9 * r)) m w = V → x4 = iZ i → wp E (d + 6) 98 3 [(0, .ref 0), (1, .ref b), (2, .int (iZ r)), (3, .int (iZ n)), (4, .int x4)] [] (mm I' J' A') Q := by
    intro m
    induction m with
    | zero =>
      intro i I' J' A' w x4 hi hR' hW' hH' hF' h8' he e4
      subst e4
      have he : w = V := he
      subst he
      exact wf (hs := [3]) 30 3 (by decide) (wt (by ((try simp (disch := omega) only [z_i8, z_i16, z_of, z_ofN, z_lofN, z_0, z_1, z_m1, z_l0, z_l1, iZ_add, iZ_sub, iZ_mul, iZ_neg, lZ_add, lZ_sub, lZ_mul, lZ_neg, z_div, z_ldiv, z_l, z_i, z_lt, z_le, z_eq, z_llt, z_lle, z_leq, z_cgt, z_cge, z_clt, z_cle, z_ceq, z_cl, z_nat, Int.toNat_natCast, mm_I, mm_J, z_cln, z_abs, z_max, z_min, z_lmax, z_lmin, z_sin, Int.cast_ofNat_Int, uI_I, uI_J, uL_I, uL_J, uA_I, uA_J, sI_eq, sI_ne, sL_eq, sL_ne, up_eq, up_ne, uL_eq, uL_ne, z_toInt, Int.reduceToNat]) <;> omega)) (hQ I' J' A' hR' hF'))
    | succ m ih =>
      intro i I' J' A' w x4 hi hR' hW' hH' hF' h8' he e4
      subst e4
      have ge : Ge (plV I (168 + 9 * r)) (plV I' (168 + 9 * r)) := plV_F2 hrh hp hF'
      have he : rnN (plV I (168 + 9 * r)) m (rndZ (plV I (168 + 9 * r)) w) = V := he
      have go := c_go (E := E) (d := d) (A := A') (Q := fun q M => q = none ∧ ∃ I2 J2 A2, M = mm I2 J2 A2 ∧ RS I2 J2 b (rndZ (plV I' (168 + 9 * r)) w) ∧ F2 240 b I' J' I2 J2) hrh hp hR' hW' hH' (Ge_G ge hg) (by omega) (fun I2 J2 A2 q1 q2 => ⟨rfl, I2, J2, A2, rfl, q1, q2⟩)
      have nx : ∀ I2 J2 A2, RS I2 J2 b (rndZ (plV I' (168 + 9 * r)) w) → F2 240 b I' J' I2 J2 → wp E (d + 6) 98 3 [(0, .ref 0), (1, .ref b), (2, .int (iZ r)), (3, .int (iZ n)), (4, .int (iZ (i : Int) + 1))] [] (mm I2 J2 A2) Q := by
        intro I2 J2 A2 hR2 hF2
        rw [Ge_rnd ge] at hR2
        have w2 := Wf_rnd hW' hH' hg (by omega)
        exact ih (i + 1) I2 J2 A2 _ _ (by omega) hR2 w2.1 w2.2 (F2_trans hF' hF2) (by rw [rnd_8]; omega) he (iZ_add i 1)
      have hc : r = 0 ∨ r = 1 ∨ r = 2 ∨ r = 3 ∨ r = 4 ∨ r = 5 := by omega
      clear ih hQ hV
      rcases hc with rfl | rfl | rfl | rfl | rfl | rfl
      all_goals (
        refine wf (hs := [3]) 40 3 (by decide) (wF (by ((try simp (disch := omega) only [z_i8, z_i16, z_of, z_ofN, z_lofN, z_0, z_1, z_m1, z_l0, z_l1, iZ_add, iZ_sub, iZ_mul, iZ_neg, lZ_add, lZ_sub, lZ_mul, lZ_neg, z_div, z_ldiv, z_l, z_i, z_lt, z_le, z_eq, z_llt, z_lle, z_leq, z_cgt, z_cge, z_clt, z_cle, z_ceq, z_cl, z_nat, Int.toNat_natCast, mm_I, mm_J, z_cln, z_abs, z_max, z_min, z_lmax, z_lmin, z_sin, Int.cast_ofNat_Int, uI_I, uI_J, uL_I, uL_J, uA_I, uA_J, sI_eq, sI_ne, sL_eq, sL_ne, up_eq, up_ne, uL_eq, uL_ne, z_toInt, Int.reduceToNat]) <;> omega)) (And.intro (inL (by decide)) ⟨_, rfl, And.intro rfl (wpC_mono go (fun q M hh => ?_))⟩))
        obtain ⟨rfl, I2, J2, A2, rfl, hR2, hF2⟩ := hh
        refine wp_keys [0, 1, 2, 3, 4] rfl rfl ?_
        exact nx I2 J2 A2 hR2 hF2)
  refine wc (hs := [3]) 20 (by decide) ?_
  refine wp_keys [0, 1, 2, 3, 4] rfl rfl ?_
  exact L n 0 I J A v (iZ 0) (by omega) hR hW hH F2_refl h8 hV.symm rfl
theorem m_goesOn {r n : Nat} {g : Nat → Nat → Int} {x y : Int32} (hW : Wf (vI I)) (hH : WfH (vI I)) (h0 : M0 I J) (hr : r < 6) (hg : WfG g) (hm : MG I r g) (hn : n ≤ 1000) (h8 : vI I 266 8 + n ≤ 99999) (ex : x = iZ r) (ey : y = iZ n) (hQ : ∀ I' J', vI I' = rnN g n (vI I) → JF J J' → Q none (mm I' J' A)) : wpC E (d + 7) 224 [.ref 265, .int x, .int y] (mm I J A) Q := by
  subst ex; subst ey
  have L : ∀ (m i : Nat) (I' : Nat → Nat → Int32) (J' : Nat → Nat → Int64) (x3 : Int32), i + m = n → Wf (vI I') → WfH (vI I') → M0 I' J' → MG I' r g → JF J J' → vI I' 266 8 + m ≤ 99999 → rnN g m (vI I') = rnN g n (vI I) → x3 = iZ i → wp E (d + 7) 224 2 [(0, .ref 265), (1, .int (iZ r)), (2, .int (iZ n)), (3, .int x3)] [] (mm I' J' A) Q := by
    intro m
    induction m with
    | zero =>
      intro i I' J' x3 hi hW' hH' m0 hm' hJ h8' he e3
      subst e3
      exact wf (hs := [2]) 30 2 (by decide) (wt (by ((try simp (disch := omega) only [z_i8, z_i16, z_of, z_ofN, z_lofN, z_0, z_1, z_m1, z_l0, z_l1, iZ_add, iZ_sub, iZ_mul, iZ_neg, lZ_add, lZ_sub, lZ_mul, lZ_neg, z_div, z_ldiv, z_l, z_i, z_lt, z_le, z_eq, z_llt, z_lle, z_leq, z_cgt, z_cge, z_clt, z_cle, z_ceq, z_cl, z_nat, Int.toNat_natCast, mm_I, mm_J, z_cln, z_abs, z_max, z_min, z_lmax, z_lmin, z_sin, Int.cast_ofNat_Int, uI_I, uI_J, uL_I, uL_J, uA_I, uA_J, sI_eq, sI_ne, sL_eq, sL_ne, up_eq, up_ne, uL_eq, uL_ne, z_toInt, Int.reduceToNat]) <;> omega)) (hQ I' J' he hJ))
    | succ m ih =>
      intro i I' J' x3 hi hW' hH' m0 hm' hJ h8' he e3
      subst e3
      have he : rnN g m (rndZ g (vI I')) = rnN g n (vI I) := he
      refine wf (hs := [2]) 30 2 (by decide) (wF (by ((try simp (disch := omega) only [z_i8, z_i16, z_of, z_ofN, z_lofN, z_0, z_1, z_m1, z_l0, z_l1, iZ_add, iZ_sub, iZ_mul, iZ_neg, lZ_add, lZ_sub, lZ_mul, lZ_neg, z_div, z_ldiv, z_l, z_i, z_lt, z_le, z_eq, z_llt, z_lle, z_leq, z_cgt, z_cge, z_clt, z_cle, z_ceq, z_cl, z_nat, Int.toNat_natCast, mm_I, mm_J, z_cln, z_abs, z_max, z_min, z_lmax, z_lmin, z_sin, Int.cast_ofNat_Int, uI_I, uI_J, uL_I, uL_J, uA_I, uA_J, sI_eq, sI_ne, sL_eq, sL_ne, up_eq, up_ne, uL_eq, uL_ne, z_toInt, Int.reduceToNat]) <;> omega)) (And.intro rfl (m_goesBy hW' hH' m0 hr hg hm' (by omega) rfl (fun I2 J2 e2 hJ2 => ?_))))
      have w2 := Wf_rnd hW' hH' hg (by omega)
      have c : ∀ a, a ≠ 276 → a ≠ 266 → a ≠ 281 → I2 a = I' a := fun a q1 q2 q3 => vI_cell (fun k => by rw [e2, rnd_ne q1 q2 q3])
      rw [← e2] at w2 he
      refine wp_keys [0, 1, 2, 3] rfl rfl ?_
      exact ih (i + 1) I2 J2 _ (by omega) w2.1 w2.2 (M0_eq m0 (c 265 (by omega) (by omega) (by omega)) (hJ2 265 (by omega) (by omega))) (MG_eq hm' (fun a q1 q2 => c a (by omega) (by omega) (by omega))) (JF_trans hJ hJ2) (by rw [e2, rnd_8]; omega) he (iZ_add i 1)
  refine wc (hs := [2]) 20 (by decide) ?_
  refine wp_keys [0, 1, 2, 3] rfl rfl ?_
  exact L n 0 I J (iZ 0) (by omega) hW hH h0 hm JF_refl h8 rfl rfl
end RUN
