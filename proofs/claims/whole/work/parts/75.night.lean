/-! ===== night in the reference ===== -/
def lwZ (v : am_V) (n f : Nat) : Int := sm n (fun i => if f.testBit i then v 268 i else 0)
def luZ (v : am_V) (n f : Nat) : Int := sm n (fun i => if f.testBit i then v 268 i * v 269 i else 0)
def stN (v : am_V) (n f : Nat) : Int := stfZ v (lwZ v n f) (luZ v n f)
def stpN (v : am_V) (n : Nat) (b : Int) : Nat → Int → Nat → Option Int := fun f _ i => if b ≤ stN v n (f ||| 2 ^ i) then some 0 else none
def resL (o : Option (List Nat)) (k : Nat) : Int := match o with
  | some l => (gtL l k : Int)
  | none => -2
theorem tb_or {f i k : Nat} : (f ||| 2 ^ i).testBit k = (f.testBit k || decide (i = k)) := by
  rw [Nat.testBit_or, Nat.testBit_two_pow]
theorem lw_more {v : am_V} {n f i : Nat} (hi : i < n) (hf : f.testBit i = false) : lwZ v n (f ||| 2 ^ i) = lwZ v n f + v 268 i := by
  unfold lwZ
  rw [sm_set (p := i) (f := fun i => if f.testBit i then v 268 i else 0) hi (fun k hk => by rw [tb_or, decide_eq_false (fun q => hk q.symm), Bool.or_false])]
  rw [tb_or, hf, decide_eq_true rfl]
  simp
theorem lu_more {v : am_V} {n f i : Nat} (hi : i < n) (hf : f.testBit i = false) : luZ v n (f ||| 2 ^ i) = luZ v n f + v 268 i * v 269 i := by
  unfold luZ
  rw [sm_set (p := i) (f := fun i => if f.testBit i then v 268 i * v 269 i else 0) hi (fun k hk => by rw [tb_or, decide_eq_false (fun q => hk q.symm), Bool.or_false])]
  rw [tb_or, hf, decide_eq_true rfl]
  simp
theorem ld_ok {v : am_V} {n f : Nat} (hH : WfH v) (hn : n ≤ nL v) (h6 : n ≤ 6) : WW (lwZ v n f) (luZ v n f) := by
  have a : ∀ m : Nat, m ≤ n → (0 ≤ sm m (fun i => if f.testBit i then v 268 i else 0) ∧ sm m (fun i => if f.testBit i then v 268 i else 0) ≤ 9999 * m) ∧ (0 ≤ sm m (fun i => if f.testBit i then v 268 i * v 269 i else 0) ∧ sm m (fun i => if f.testBit i then v 268 i * v 269 i else 0) ≤ 3000 * sm m (fun i => if f.testBit i then v 268 i else 0)) := by
    intro m
    induction m with
    | zero =>
      intro _
      exact ⟨⟨Int.le_refl 0, by show (0 : Int) ≤ 9999 * ((0 : Nat) : Int); omega⟩, Int.le_refl 0, by show (0 : Int) ≤ 3000 * 0; omega⟩
    | succ m ih =>
      intro hm
      have h := ih (by omega)
      have w := hH.2.2 m (by omega)
      have p := mulb (a := v 268 m) (b := v 269 m) (A := 9999) (B := 3000) (by have := w.1; omega) w.1.2 w.2.1 w.2.2
      have q := Int.mul_le_mul_of_nonneg_left (c := v 268 m) w.2.2 (by have := w.1; omega)
      have w1 := w.1
      rw [sm, sm]
      by_cases b : f.testBit m = true
      · rw [if_pos b, if_pos b]
        omega
      · rw [if_neg b, if_neg b]
        omega
  have := a n (Nat.le_refl n)
  unfold WW lwZ luZ
  omega
theorem stpN_cut {v : am_V} {n : Nat} {b : Int} : stpN (cutV v) n b = stpN v n b := rfl
theorem ps_mem {n k f : Nat} {l : List Nat} (h : l ∈ PS n (k + 1) f) : ∃ i l', l = i :: l' ∧ i < n ∧ f.testBit i = false ∧ l' ∈ PS n k (f ||| 2 ^ i) := by
  unfold PS at h
  obtain ⟨i, hi, hl⟩ := List.mem_flatMap.mp h
  obtain ⟨l', h1, h2⟩ := List.mem_map.mp hl
  unfold avl at hi
  rw [List.mem_filter, List.mem_range] at hi
  exact ⟨i, l', h2.symm, hi.1, by simpa using hi.2, h1⟩
section NIGHT
variable {E : Nat × (Nat → Int32)} {d : Nat} {I I0 I1 : Nat → Nat → Int32} {J J0 J1 : Nat → Nat → Int64} {A A1 : Nat → Option Nat} {Q : Option Value → am_M → Prop} {M : am_M}
theorem setL_two {J : Nat → Nat → Int64} {a i : Nat} {x y : Int64} : setL (setL J a i x) a i y = setL J a i y := by
  funext a' j
  rw [setL_at, setL_at, setL_at]
  by_cases q : a' = a ∧ j = i
  · rw [if_pos q, if_pos q]
  · rw [if_neg q, if_neg q, if_neg q]
theorem setL_same {J : Nat → Nat → Int64} {a i : Nat} : setL J a i (J a i) = J := by
  funext a' j
  rw [setL_at]
  by_cases q : a' = a ∧ j = i
  · rw [if_pos q, q.1, q.2]
  · rw [if_neg q]
def bI (b : Bool) : Int := if b then 1 else 0
theorem m_borne {n : Nat} {b : Int} {l : List Nat} {x y : Int32} (hW : Wf (vI I)) (hH : WfH (vI I)) (h0 : M0 I J) (hn : n ≤ 6 ∧ n ≤ nL (vI I)) (hb : -99999 ≤ b ∧ b ≤ 99999) (hl : l ∈ PS n n 0) (hr : RW n (fun i => i) (gtL l) I) (ex : x = iZ n) (ey : y = iZ b) (hQ : Q (some (.int (iZ (bI (gdr (stpN (vC I) n b) l 0 0))))) (mm I J A)) : wpC E (d + 4) 243 [.ref 265, .int x, .int y] (mm I J A) Q := by
  subst ex; subst ey
  rw [show stpN (vC I) n b = stpN (vI I) n b from stpN_cut] at hQ
  obtain ⟨v, hv⟩ : ∃ v, v = vI I := ⟨_, rfl⟩
  rw [← hv] at hW hH hn hQ
  have e25 : I 265 25 = iZ 0 := by rw [vI_eq I 265 25, h0.1]
  have e26 : J 265 26 = lZ 0 := by rw [vJ_eq J 265 26, h0.2]
  obtain ⟨RES, hRES⟩ : ∃ R, R = gdr (stpN v n b) l 0 0 := ⟨_, rfl⟩
  rw [← hRES] at hQ
  have ends : ∀ (g : Int32) (y : Int32) (z : Int64) (x4 : Int32), g = iZ (bI RES) → wp E (d + 4) 243 102 [(0, .ref 265), (1, .int (iZ n)), (2, .int (iZ b)), (3, .int g), (4, .int x4)] [] (mm (setI I 265 25 y) (setL J 265 26 z) A) Q := by
    intro g y z x4 eg
    subst eg
    have eI : setI (setI I 265 25 y) 265 25 (iZ 0) = I := by rw [setI_two, ← e25]; exact setI_same
    have eJ : setL (setL J 265 26 z) 265 26 (lZ 0) = J := by rw [setL_two, ← e26]; exact setL_same
    rw [← eI, ← eJ] at hQ
    have nb : narrow .boolean (.int (iZ (bI RES))) = .int (iZ (bI RES)) := by cases RES <;> rfl
    exact wf (hs := []) 30 102 (by decide) (And.intro nb hQ)
  have L : ∀ (k f j : Nat) (l' : List Nat) (x3 x4 : Int32), l' ∈ PS n k f → j + k = n → (∀ t, t < k → gtL l (j + t) = gtL l' t) → gdr (stpN v n b) l' f 0 = RES → x3 = iZ 1 → x4 = iZ j → wp E (d + 4) 243 15 [(0, .ref 265), (1, .int (iZ n)), (2, .int (iZ b)), (3, .int x3), (4, .int x4)] [] (mm (setI I 265 25 (iZ (lwZ v n f))) (setL J 265 26 (lZ (luZ v n f))) A) Q := by
    intro k
    induction k with
    | zero =>
      intro f j l' x3 x4 hm hj hg he e3 e4
      subst e3; subst e4
      have : l' = [] := by unfold PS at hm; simpa using hm
      subst this
      have he : true = RES := he
      exact wf (hs := [15, 102]) 20 15 (by decide) (wt (by ((try simp (disch := omega) only [z_i8, z_i16, z_of, z_ofN, z_lofN, z_0, z_1, z_m1, z_l0, z_l1, iZ_add, iZ_sub, iZ_mul, iZ_neg, lZ_add, lZ_sub, lZ_mul, lZ_neg, z_div, z_ldiv, z_l, z_i, z_lt, z_le, z_eq, z_llt, z_lle, z_leq, z_cgt, z_cge, z_clt, z_cle, z_ceq, z_cl, z_nat, Int.toNat_natCast, mm_I, mm_J, z_cln, z_abs, z_max, z_min, z_lmax, z_lmin, z_sin, Int.cast_ofNat_Int, uI_I, uI_J, uL_I, uL_J, uA_I, uA_J, sI_eq, sI_ne, sL_eq, sL_ne, up_eq, up_ne, uL_eq, uL_ne, z_toInt, Int.reduceToNat]) <;> omega)) (ends _ _ _ _ (by rw [← he]; rfl)))
    | succ k ih =>
      intro f j l' x3 x4 hm hj hg he e3 e4
      subst e3; subst e4
      obtain ⟨i, l2, rfl, hi, hf, hm2⟩ := ps_mem hm
      have gj : gtL l j = i := hg 0 (by omega)
      have cj : (iZ (j : Int)).toNatClampNeg = j := z_cln (by omega)
      have ci : (iZ (i : Int)).toNatClampNeg = i := z_cln (by omega)
      have inj : vp_in (iZ (j : Int)) 12 := z_in (by omega) (by omega) (by omega)
      have ini : vp_in (iZ (i : Int)) 6 := z_in (by omega) (by omega) (by omega)
      have r0 : I 306 (iZ (j : Int)).toNatClampNeg = iZ (i : Int) := by rw [cj, (hr j (by omega)).2, gj]
      have w := hH.2.2 i (by omega)
      have ww := ld_ok (f := f) hH hn.2 hn.1
      have ww2 := ld_ok (f := f ||| 2 ^ i) hH hn.2 hn.1
      have lw := lw_more (v := v) hi hf
      have lu := lu_more (v := v) hi hf
      have e268 : I 268 i = iZ (v 268 i) := by rw [vI_eq I 268 i, hv]
      have e269 : I 269 i = iZ (v 269 i) := by rw [vI_eq I 269 i, hv]
      have stp1 : gdr (stpN v n b) (i :: l2) f 0 = if b ≤ stN v n (f ||| 2 ^ i) then gdr (stpN v n b) l2 (f ||| 2 ^ i) 0 else false := by
        rw [gdr]
        unfold stpN
        by_cases q : b ≤ stN v n (f ||| 2 ^ i)
        · rw [if_pos q, if_pos q]
        · rw [if_neg q, if_neg q]
      rw [stp1] at he
      obtain ⟨⟨u1, u2⟩, u3, u4⟩ := id ww
      obtain ⟨⟨t1, t2⟩, t3, t4⟩ := id ww2
      have mb := mulb (a := v 268 i) (b := v 269 i) (A := 9999) (B := 3000) (by have := w.1; omega) w.1.2 w.2.1 w.2.2
      have w1 := w.1
      have w2 := w.2
      -- the new sums
      have ey : setI I 265 25 (iZ (lwZ v n f)) 265 25 + I 268 i = iZ (lwZ v n (f ||| 2 ^ i)) := by
        rw [setI_at, if_pos ⟨rfl, rfl⟩, e268, iZ_add, lw]
      have ez : setL J 265 26 (lZ (luZ v n f)) 265 26 + (I 268 i).toInt64 * (I 269 i).toInt64 = lZ (luZ v n (f ||| 2 ^ i)) := by
        rw [setL_at, if_pos ⟨rfl, rfl⟩, e268, e269, lu]
        simp (disch := omega) only [z_i8, z_i16, z_of, z_ofN, z_lofN, z_0, z_1, z_m1, z_l0, z_l1, iZ_add, iZ_sub, iZ_mul, iZ_neg, lZ_add, lZ_sub, lZ_mul, lZ_neg, z_div, z_ldiv, z_l, z_i, z_lt, z_le, z_eq, z_llt, z_lle, z_leq, z_cgt, z_cge, z_clt, z_cle, z_ceq, z_cl, z_nat, Int.toNat_natCast, mm_I, mm_J, z_cln, z_abs, z_max, z_min, z_lmax, z_lmin, z_sin, Int.cast_ofNat_Int, uI_I, uI_J, uL_I, uL_J, uA_I, uA_J, sI_eq, sI_ne, sL_eq, sL_ne, up_eq, up_ne, uL_eq, uL_ne, z_toInt, Int.reduceToNat]
      obtain ⟨I2, hI2⟩ : ∃ I2, I2 = setI I 265 25 (iZ (lwZ v n (f ||| 2 ^ i))) := ⟨_, rfl⟩
      obtain ⟨J2, hJ2⟩ : ∃ J2, J2 = setL J 265 26 (lZ (luZ v n (f ||| 2 ^ i))) := ⟨_, rfl⟩
      have ev : vI I2 = vset v 265 25 (lwZ v n (f ||| 2 ^ i)) := by rw [hI2, vI_setZ (z := lwZ v n (f ||| 2 ^ i)) rfl (by omega) (by omega), ← hv]
      have e25' : vI I2 265 25 = lwZ v n (f ||| 2 ^ i) := by rw [ev, vset_eq]
      have e26' : vJ J2 265 26 = luZ v n (f ||| 2 ^ i) := by
        rw [hJ2]
        unfold vJ
        rw [setL_at, if_pos ⟨rfl, rfl⟩, lZ_toInt ⟨by omega, by omega⟩]
      have wm : WM I2 J2 := ⟨by rw [ev]; exact hW, by rw [e25']; omega, by rw [e25', e26']; exact ⟨t3, t4⟩⟩
      have es : sM I2 J2 = stN v n (f ||| 2 ^ i) := by
        unfold sM
        rw [e25', e26', ev]; rfl
      have sb := stfB (v := v) hW ⟨t1, t2⟩ ⟨t3, t4⟩
      have sb2 : -40000 ≤ stN v n (f ||| 2 ^ i) ∧ stN v n (f ||| 2 ^ i) ≤ 40000 := ⟨sb.2.1, sb.2.2⟩
      have ms := m_stiff (E := E) (d := d) (A := A) (Q := fun r M => r = some (.int (iZ (stN v n (f ||| 2 ^ i)))) ∧ M = mm I2 J2 A) wm ⟨by rw [es], rfl⟩
      have eI2 : setI (setI I 265 25 (iZ (lwZ v n f))) 265 25 (setI I 265 25 (iZ (lwZ v n f)) 265 25 + I 268 i) = I2 := by rw [setI_two, ey, hI2]
      have eJ2 : setL (setL J 265 26 (lZ (luZ v n f))) 265 26 (setL J 265 26 (lZ (luZ v n f)) 265 26 + (I 268 i).toInt64 * (I 269 i).toInt64) = J2 := by rw [setL_two, ez, hJ2]
      rw [← eI2, ← eJ2] at ms
      rw [← ci] at ms
      rw [← r0] at ms ini
      refine wf (hs := [15, 102]) 80 15 (by decide) (wF (by ((try simp (disch := omega) only [z_i8, z_i16, z_of, z_ofN, z_lofN, z_0, z_1, z_m1, z_l0, z_l1, iZ_add, iZ_sub, iZ_mul, iZ_neg, lZ_add, lZ_sub, lZ_mul, lZ_neg, z_div, z_ldiv, z_l, z_i, z_lt, z_le, z_eq, z_llt, z_lle, z_leq, z_cgt, z_cge, z_clt, z_cle, z_ceq, z_cl, z_nat, Int.toNat_natCast, mm_I, mm_J, z_cln, z_abs, z_max, z_min, z_lmax, z_lmin, z_sin, Int.cast_ofNat_Int, uI_I, uI_J, uL_I, uL_J, uA_I, uA_J, sI_eq, sI_ne, sL_eq, sL_ne, up_eq, up_ne, uL_eq, uL_ne, z_toInt, Int.reduceToNat]) <;> omega)) (wF (by decide) (And.intro inj (And.intro ini (And.intro inj (And.intro ini (And.intro inj (And.intro ini (And.intro rfl (wpC_mono ms (fun r M hh => ?_)))))))))))
      obtain ⟨rfl, rfl⟩ := hh
      rw [r0, ci, eI2, eJ2, hI2, hJ2]
      generalize stN v n (f ||| 2 ^ i) = S at sb2 he
      refine And.intro (fun q => ?_) (fun q => ?_)
      · simp (disch := omega) only [z_i8, z_i16, z_of, z_ofN, z_lofN, z_0, z_1, z_m1, z_l0, z_l1, iZ_add, iZ_sub, iZ_mul, iZ_neg, lZ_add, lZ_sub, lZ_mul, lZ_neg, z_div, z_ldiv, z_l, z_i, z_lt, z_le, z_eq, z_llt, z_lle, z_leq, z_cgt, z_cge, z_clt, z_cle, z_ceq, z_cl, z_nat, Int.toNat_natCast, mm_I, mm_J, z_cln, z_abs, z_max, z_min, z_lmax, z_lmin, z_sin, Int.cast_ofNat_Int, uI_I, uI_J, uL_I, uL_J, uA_I, uA_J, sI_eq, sI_ne, sL_eq, sL_ne, up_eq, up_ne, uL_eq, uL_ne, z_toInt, Int.reduceToNat] at q
        rw [if_neg (by omega)] at he
        refine wp_keys [0, 1, 2, 3, 4] rfl rfl ?_
        have E1 := fun x4 => ends (iZ 0) (iZ (lwZ v n (f ||| 2 ^ i))) (lZ (luZ v n (f ||| 2 ^ i))) x4 (by rw [← he]; rfl)
        exact wf (hs := [102]) 30 15 (by decide) (And.intro (fun _ => E1 _) (fun _ => wt rfl (E1 _)))
      · simp (disch := omega) only [z_i8, z_i16, z_of, z_ofN, z_lofN, z_0, z_1, z_m1, z_l0, z_l1, iZ_add, iZ_sub, iZ_mul, iZ_neg, lZ_add, lZ_sub, lZ_mul, lZ_neg, z_div, z_ldiv, z_l, z_i, z_lt, z_le, z_eq, z_llt, z_lle, z_leq, z_cgt, z_cge, z_clt, z_cle, z_ceq, z_cl, z_nat, Int.toNat_natCast, mm_I, mm_J, z_cln, z_abs, z_max, z_min, z_lmax, z_lmin, z_sin, Int.cast_ofNat_Int, uI_I, uI_J, uL_I, uL_J, uA_I, uA_J, sI_eq, sI_ne, sL_eq, sL_ne, up_eq, up_ne, uL_eq, uL_ne, z_toInt, Int.reduceToNat] at q
        rw [if_pos (by omega)] at he
        refine wp_keys [0, 1, 2, 3, 4] rfl rfl ?_
        refine ih (f ||| 2 ^ i) (j + 1) l2 _ _ hm2 (by omega) (fun t ht => ?_) he rfl (iZ_add j 1)
        have := hg (t + 1) (by omega)
        rw [show j + 1 + t = j + (t + 1) by omega, this]; rfl
  have z0 : lwZ v n 0 = 0 ∧ luZ v n 0 = 0 := by
    have s0 : ∀ m, sm m (fun _ => (0 : Int)) = 0 := by
      intro m
      induction m with
      | zero => rfl
      | succ m ih => rw [sm, ih]; rfl
    unfold lwZ luZ
    have t0 : ∀ i, Nat.testBit 0 i = false := fun i => by simp
    constructor
    · exact (sm_congr (g := fun _ => (0 : Int)) (fun k _ => by rw [t0]; rfl)).trans (s0 n)
    · exact (sm_congr (g := fun _ => (0 : Int)) (fun k _ => by rw [t0]; rfl)).trans (s0 n)
  have := L n 0 0 l (iZ 1) (iZ 0) hl (by omega) (fun t _ => by rw [Nat.zero_add]) hRES.symm rfl rfl
  rw [z0.1, z0.2] at this
  refine wc (hs := [15]) 30 (by decide) ?_
  refine wp_keys [0, 1, 2, 3, 4] rfl rfl ?_
  exact this
theorem m_nightL {n k : Nat} {b : Int} (hW : Wf (vC I)) (hH : WfH (vC I)) (h0 : M0 I J) (hn : 0 < n ∧ n ≤ 6 ∧ n ≤ nL (vC I)) (hb : -99999 ≤ b ∧ b ≤ 99999) (hk : k < n) : ∀ (t : List (List Nat)) (l : List Nat) (I' : Nat → Nat → Int32) (x4 : Int32), (∀ x ∈ l :: t, x ∈ PS n n 0) → chn n (l :: t) = true → (∀ c, c ≠ 306 → I' c = I c) → RW n (fun i => i) (gtL l) I' → x4 = iZ (bI (gdr (stpN (vC I) n b) l 0 0)) → (∀ I'', (∀ c, c ≠ 306 → I'' c = I c) → Q (some (.int (iZ (resL ((l :: t).find? (fun x => gdr (stpN (vC I) n b) x 0 0)) k)))) (mm I'' J A)) → wp E (d + 5) 244 76 [(0, .ref 265), (1, .int (iZ b)), (2, .int (iZ k)), (3, .int (iZ n)), (4, .int x4)] [] (mm I' J A) Q := by
  intro t
  induction t with
  | nil =>
    intro l I' x4 hm hc hI hr e4 hQ
    subst e4
    have inr := chn_1 hc
    cases hg : gdr (stpN (vC I) n b) l 0 0 with
    | true =>
      have H := hQ I' hI
      rw [List.find?_cons, hg] at H
      have cl : (iZ (k : Int)).toNatClampNeg = k := z_cln (by omega)
      refine wf (hs := []) 40 76 (by decide) (wF (by decide) (wF (by decide) (And.intro (z_in (by omega) (by omega) (by omega)) (q_i H ?_))))
      show I' 306 (iZ (k : Int)).toNatClampNeg = _
      rw [cl, (hr k hk).2]; rfl
    | false =>
      have H := hQ I' hI
      rw [List.find?_cons, hg] at H
      refine wf (hs := []) 40 76 (by decide) (wt rfl (And.intro rfl (m_isNext ⟨hn.1, hn.2.1⟩ ⟨fun i j q _ => q, fun i hi => by omega⟩ hr rfl (fun _ => wt rfl (wt rfl H)) (fun q => absurd (chn_last hc) q))))
  | cons l' t ih =>
    intro l I' x4 hm hc hI hr e4 hQ
    subst e4
    obtain ⟨c1, c2, c3⟩ := chn_more hc
    cases hg : gdr (stpN (vC I) n b) l 0 0 with
    | true =>
      have H := hQ I' hI
      rw [List.find?_cons, hg] at H
      have cl : (iZ (k : Int)).toNatClampNeg = k := z_cln (by omega)
      refine wf (hs := []) 40 76 (by decide) (wF (by decide) (wF (by decide) (And.intro (z_in (by omega) (by omega) (by omega)) (q_i H ?_))))
      show I' 306 (iZ (k : Int)).toNatClampNeg = _
      rw [cl, (hr k hk).2]; rfl
    | false =>
      rw [List.find?_cons, hg] at hQ
      refine wf (hs := [76]) 40 76 (by decide) (wt rfl (And.intro rfl (m_isNext ⟨hn.1, hn.2.1⟩ ⟨fun i j q _ => q, fun i hi => by omega⟩ hr rfl (fun q => absurd q c1) (fun _ I2 hr2 hI2 => wF (by decide) ?_))))
      have hI3 : ∀ c, c ≠ 306 → I2 c = I c := fun c h => (hI2 c h).trans (hI c h)
      have ev : vC I2 = vC I := vC_eq (fun a q1 q2 => hI3 a (by omega))
      have r2 : RW n (fun i => i) (gtL l') I2 := fun i hi => by
        have := hr2 i hi
        rw [c2 i hi] at this
        exact this
      have W2 : Wf (vC I2) := by rw [ev]; exact hW
      have H2 : WfH (vC I2) := by rw [ev]; exact hH
      have n2 : n ≤ nL (vC I2) := by rw [ev]; exact hn.2.2
      refine And.intro rfl (m_borne W2 H2 (M0_eq h0 (hI3 265 (by omega)) rfl) ⟨hn.2.1, n2⟩ hb (hm l' (List.mem_cons_of_mem _ List.mem_cons_self)) r2 rfl rfl ?_)
      refine wp_keys [0, 1, 2, 3, 4] rfl rfl ?_
      rw [ev]
      exact ih l' I2 _ (fun x hx => hm x (List.mem_cons_of_mem _ hx)) c3 hI3 r2 rfl hQ
def GNi (I : Nat → Nat → Int32) (b k : Int) : Prop := I 266 0 = 1 ∧ (-99999 ≤ b ∧ b ≤ 99999) ∧ (0 ≤ k ∧ k < nL (vC I))
theorem m_night {b k : Int} (hV : Vm I) (h0 : M0 I J) (hb : -2147483648 ≤ b ∧ b ≤ 2147483647) (hk : -2147483648 ≤ k ∧ k ≤ 2147483647) (h1 : GNi I b k → ∀ I', (∀ c, c ≠ 306 → I' c = I c) → Q (some (.int (iZ (resL (SRc (stpN (vC I) (nL (vC I)) b) (nL (vC I)) (nL (vC I)) 0 0) k.toNat)))) (mm I' J A)) (hno : ¬ GNi I b k → Q (some (.int (iZ (-1)))) (mm I J A)) : wpC E (d + 5) 244 [.ref 265, .int (iZ b), .int (iZ k)] (mm I J A) Q := by
  refine wc (hs := [44]) 60 (by decide) (And.intro (inL (by decide)) (And.intro rfl (m_isShip (fun p => wF (by decide) ?_) (fun p => wt rfl (hno fun q => p q.1)))))
  have hW := (hV p).1
  have hH := (hV p).2
  have b13 := hW.1.2.2.2.2.2.2.2.2.2.2.2.2
  have e13 : I 266 13 = iZ (nL (vC I) : Nat) := by
    rw [vI_eq I 266 13]
    congr 1
    show vC I 266 13 = _
    unfold nL; omega
  have n6 : nL (vC I) ≤ 6 := by unfold nL; omega
  have en : (I 266 13 - iZ 1).toInt64 = lZ ((nL (vC I) : Int) - 1) := by rw [e13]; simp (disch := omega) only [z_i8, z_i16, z_of, z_ofN, z_lofN, z_0, z_1, z_m1, z_l0, z_l1, iZ_add, iZ_sub, iZ_mul, iZ_neg, lZ_add, lZ_sub, lZ_mul, lZ_neg, z_div, z_ldiv, z_l, z_i, z_lt, z_le, z_eq, z_llt, z_lle, z_leq, z_cgt, z_cge, z_clt, z_cle, z_ceq, z_cl, z_nat, Int.toNat_natCast, mm_I, mm_J, z_cln, z_abs, z_max, z_min, z_lmax, z_lmin, z_sin, Int.cast_ofNat_Int, uI_I, uI_J, uL_I, uL_J, uA_I, uA_J, sI_eq, sI_ne, sL_eq, sL_ne, up_eq, up_ne, uL_eq, uL_ne, z_toInt, Int.reduceToNat]
  refine And.intro rfl (mW (z := b) (lo := -99999) (hi := 99999) (z_l (by omega) (by omega)) (by decide +kernel) rfl hb (by omega) (by omega) (fun g1 => wF (by decide) ?_) (fun g1 => wt rfl (hno fun q => g1 q.2.1)))
  refine And.intro rfl (mW (z := k) (lo := 0) (hi := (nL (vC I) : Int) - 1) (z_l (by omega) (by omega)) rfl en hk (by omega) (by omega) (fun g2 => wF (by decide) ?_) (fun g2 => wt rfl (hno fun q => g2 (by have := q.2.2; omega))))
  have H := h1 ⟨p, g1, by omega, by omega⟩
  obtain ⟨κ, hκ, rfl⟩ : ∃ κ : Nat, κ < nL (vC I) ∧ k = κ := ⟨k.toNat, by omega, by omega⟩
  rw [Int.toNat_natCast] at H
  generalize hn : nL (vC I) = n at H n6 e13 hκ
  obtain ⟨t, ht⟩ := ps_head n (by omega)
  have hc := chn_all n (by omega) (by omega)
  rw [← find_SR] at H
  rw [ht] at hc H
  have L := lpU (σ := (Nat → Nat → Int32) × Int32) (fun _ s => wp E (d + 5) 244 47 [(0, .ref 265), (1, .int (iZ b)), (2, .int (iZ κ)), (3, .int (iZ n)), (4, .int s.2)] [] (mm s.1 J A) Q) (fun i s => (∀ c, c ≠ 306 → s.1 c = I c) ∧ (∀ j, j < i → s.1 306 j = iZ (j : Int)) ∧ s.2 = iZ i) n ?_ ?_
  · have T := L 0 (I, _) (by omega) ⟨fun _ _ => rfl, fun j hj => by omega, rfl⟩
    dsimp only at T
    rw [← e13] at T
    refine wf (hs := [47]) 20 44 (by decide) ?_
    refine wp_keys [0, 1, 2, 3, 4] rfl rfl ?_
    exact T
  · rintro ⟨I', x4⟩ ⟨c1, c2, e4⟩
    dsimp only at c1 c2 e4
    subst e4
    have ev : vC I' = vC I := vC_eq (fun a q1 q2 => c1 a (by omega))
    have rw0 : RW n (fun i => i) (gtL (List.range n)) I' := fun i hi => by
      have e : gtL (List.range n) i = i := by
        unfold gtL
        rw [List.getD_eq_getElem?_getD, List.getElem?_range hi]; rfl
      rw [e]
      exact ⟨hi, c2 i hi⟩
    have W2 : Wf (vC I') := by rw [ev]; exact hW
    have H2 : WfH (vC I') := by rw [ev]; exact hH
    have n2 : n ≤ nL (vC I') := by rw [ev, hn]; exact Nat.le_refl _
    refine wf (hs := [47, 76]) 40 47 (by decide) (wt (by ((try simp (disch := omega) only [z_i8, z_i16, z_of, z_ofN, z_lofN, z_0, z_1, z_m1, z_l0, z_l1, iZ_add, iZ_sub, iZ_mul, iZ_neg, lZ_add, lZ_sub, lZ_mul, lZ_neg, z_div, z_ldiv, z_l, z_i, z_lt, z_le, z_eq, z_llt, z_lle, z_leq, z_cgt, z_cge, z_clt, z_cle, z_ceq, z_cl, z_nat, Int.toNat_natCast, mm_I, mm_J, z_cln, z_abs, z_max, z_min, z_lmax, z_lmin, z_sin, Int.cast_ofNat_Int, uI_I, uI_J, uL_I, uL_J, uA_I, uA_J, sI_eq, sI_ne, sL_eq, sL_ne, up_eq, up_ne, uL_eq, uL_ne, z_toInt, Int.reduceToNat]) <;> omega)) (And.intro rfl (m_borne W2 H2 (M0_eq h0 (c1 265 (by omega)) rfl) ⟨n6, n2⟩ g1 (by rw [ht]; exact List.mem_cons_self) rw0 rfl rfl ?_)))
    refine wp_keys [0, 1, 2, 3, 4] rfl rfl ?_
    rw [ev]
    exact m_nightL hW hH h0 ⟨by omega, n6, by rw [hn]; exact Nat.le_refl _⟩ g1 hκ t _ I' _ (fun x hx => by rw [ht]; exact hx) hc c1 rw0 rfl H
  · rintro i ⟨I', x4⟩ hi ⟨c1, c2, e4⟩ ih
    dsimp only at c1 c2 e4
    subst e4
    have cl : (iZ (i : Int)).toNatClampNeg = i := z_cln (by omega)
    refine wf (hs := [47]) 40 47 (by decide) (wF (by ((try simp (disch := omega) only [z_i8, z_i16, z_of, z_ofN, z_lofN, z_0, z_1, z_m1, z_l0, z_l1, iZ_add, iZ_sub, iZ_mul, iZ_neg, lZ_add, lZ_sub, lZ_mul, lZ_neg, z_div, z_ldiv, z_l, z_i, z_lt, z_le, z_eq, z_llt, z_lle, z_leq, z_cgt, z_cge, z_clt, z_cle, z_ceq, z_cl, z_nat, Int.toNat_natCast, mm_I, mm_J, z_cln, z_abs, z_max, z_min, z_lmax, z_lmin, z_sin, Int.cast_ofNat_Int, uI_I, uI_J, uL_I, uL_J, uA_I, uA_J, sI_eq, sI_ne, sL_eq, sL_ne, up_eq, up_ne, uL_eq, uL_ne, z_toInt, Int.reduceToNat]) <;> omega)) (And.intro (z_in (by omega) (by omega) (by omega)) ?_))
    refine wp_keys [0, 1, 2, 3, 4] rfl rfl ?_
    refine ih (setI I' 306 (iZ (i : Int)).toNatClampNeg (iZ i), _) ⟨fun c hc => ?_, fun j hj => ?_, iZ_add i 1⟩
    · dsimp only
      rw [← c1 c hc]
      funext j
      rw [setI_at, if_neg (fun q => hc q.1)]
    · dsimp only
      rw [setI_at, cl]
      by_cases q : j = i
      · rw [if_pos ⟨rfl, q⟩, q]
      · rw [if_neg (fun x => q x.2)]
        exact c2 j (by omega)
end NIGHT
