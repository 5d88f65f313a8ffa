/-! ===== hoses told to both ===== -/
noncomputable def hsI (g : Nat → Nat → Int) (p : Nat) (h : Int) : Nat → am_V → am_V
  | 0, v => v
  | n + 1, v => hsI g p h n (rndZ g (porZ v p h))
def ovP (v : am_V) : Prop := v 266 7 = 60 ∨ v 266 7 = -60
theorem ov_rnd {g : Nat → Nat → Int} {v : am_V} (h : ovP v) : ovP (rndZ g v) := by
  unfold ovP at h ⊢
  unfold rndZ
  rw [if_pos h]
  exact h
theorem ov_por {v : am_V} {p : Nat} {n : Int} : ovP (porZ v p n) ↔ ovP v := by
  unfold ovP
  rw [por_ne (by decide)]
theorem ov_hs {g : Nat → Nat → Int} {p : Nat} {h : Int} : ∀ (n : Nat) (v : am_V), ovP v → ovP (hsI g p h n v) := by
  intro n
  induction n with
  | zero => intro v q; exact q
  | succ n ih => intro v q; exact ih _ (ov_rnd (ov_por.mpr q))
noncomputable def hoZ (g : Nat → Nat → Int) (p n : Nat) (v : am_V) : Nat → Int
  | 0 => -2
  | k + 1 => if hsI g p k n v 266 7 = 60 ∨ hsI g p k n v 266 7 = -60 then hoZ g p n v k else k
theorem nP_rnd {g : Nat → Nat → Int} {v : am_V} : nP (rndZ g v) = nP v := by
  unfold nP
  rw [SS_rnd (g := g) (v := v) 266 9 (by omega) (by omega) (by omega)]
theorem nP_por {v : am_V} {p : Nat} {n : Int} : nP (porZ v p n) = nP v := by
  unfold nP
  rw [por_ne (by decide)]
section HOSES
variable {E : Nat × (Nat → Int32)} {d : Nat} {I I0 I1 : Nat → Nat → Int32} {J J0 J1 : Nat → Nat → Int64} {A A1 : Nat → Option Nat} {Q : Option Value → am_M → Prop} {M : am_M} {v w : am_V} {b : Nat}
theorem m_hosesI {κ p n h : Nat} {g : Nat → Nat → Int} (s : MSt I0 J0 A v I J w) (m0 : M0 I0 J0) (hκ : κ < 6) (hg : WfG g) (hm : MG I0 κ g) (hp : p < nP w) (hn : n ≤ 20) (hh : h ≤ 99) (h8 : w 266 8 + n ≤ 99999) (hQ : ∀ I' J' x6, MSt I0 J0 A v I' J' (hsI g p h n w) → wp E (d + 7) 240 83 [(0, .ref 265), (1, .int (iZ κ)), (2, .int (iZ p)), (3, .int (iZ n)), (4, .int (iZ (-2))), (5, .int (iZ h)), (6, .int x6)] [] (mm I' J' A) Q) : wp E (d + 7) 240 59 [(0, .ref 265), (1, .int (iZ κ)), (2, .int (iZ p)), (3, .int (iZ n)), (4, .int (iZ (-2))), (5, .int (iZ h)), (6, .int (iZ 0))] [] (mm I J A) Q := by
  obtain ⟨V, hV⟩ : ∃ V, V = hsI g p h n w := ⟨_, rfl⟩
  rw [← hV] at hQ
  have L : ∀ (m i : Nat) I J w x6, i + m = n → MSt I0 J0 A v I J w → p < nP w → w 266 8 + m ≤ 99999 → hsI g p h m w = V → x6 = iZ i → wp E (d + 7) 240 59 [(0, .ref 265), (1, .int (iZ κ)), (2, .int (iZ p)), (3, .int (iZ n)), (4, .int (iZ (-2))), (5, .int (iZ h)), (6, .int x6)] [] (mm I J A) Q := by
    intro m
    induction m with
    | zero =>
      intro i I J w x6 hi s hp h8 he e6
      subst e6
      have he : w = V := he
      subst he
      exact wf (hs := [59, 83]) 20 59 (by decide) (wt (by ((try simp (disch := omega) only [z_i8, z_i16, z_of, z_ofN, z_lofN, z_0, z_1, z_m1, z_l0, z_l1, iZ_add, iZ_sub, iZ_mul, iZ_neg, lZ_add, lZ_sub, lZ_mul, lZ_neg, z_div, z_ldiv, z_l, z_i, z_lt, z_le, z_eq, z_llt, z_lle, z_leq, z_cgt, z_cge, z_clt, z_cle, z_ceq, z_cl, z_nat, Int.toNat_natCast, mm_I, mm_J, z_cln, z_abs, z_max, z_min, z_lmax, z_lmin, z_sin, Int.cast_ofNat_Int, uI_I, uI_J, uL_I, uL_J, uA_I, uA_J, sI_eq, sI_ne, sL_eq, sL_ne, up_eq, up_ne, uL_eq, uL_ne, z_toInt, Int.reduceToNat]) <;> omega)) (hQ I J _ s))
    | succ m ih =>
      intro i I J w x6 hi s hp h8 he e6
      subst e6
      have h12 := nP12 s.2.2.2.2.1
      have e8 : porZ w p h 266 8 = w 266 8 := por_ne (by decide)
      refine wf (hs := [59, 83]) 30 59 (by decide) (wF (by ((try simp (disch := omega) only [z_i8, z_i16, z_of, z_ofN, z_lofN, z_0, z_1, z_m1, z_l0, z_l1, iZ_add, iZ_sub, iZ_mul, iZ_neg, lZ_add, lZ_sub, lZ_mul, lZ_neg, z_div, z_ldiv, z_l, z_i, z_lt, z_le, z_eq, z_llt, z_lle, z_leq, z_cgt, z_cge, z_clt, z_cle, z_ceq, z_cl, z_nat, Int.toNat_natCast, mm_I, mm_J, z_cln, z_abs, z_max, z_min, z_lmax, z_lmin, z_sin, Int.cast_ofNat_Int, uI_I, uI_J, uL_I, uL_J, uA_I, uA_J, sI_eq, sI_ne, sL_eq, sL_ne, up_eq, up_ne, uL_eq, uL_ne, z_toInt, Int.reduceToNat]) <;> omega)) (And.intro rfl (ms_pour (n := (h : Int)) s hp (by omega) rfl rfl (fun I1 s1 => ?_))))
      refine And.intro rfl (ms_go s1 m0 hκ hg hm (by omega) rfl (fun I2 J2 s2 => ?_))
      refine wp_keys [0, 1, 2, 3, 4, 5, 6] rfl rfl ?_
      exact ih (i + 1) I2 J2 _ _ (by omega) s2 (by rw [nP_rnd, nP_por]; exact hp) (by rw [rnd_8, e8]; omega) he (iZ_add i 1)
  exact L n 0 I J w _ (by omega) s hp h8 hV.symm rfl
theorem m_hosesL {κ p n : Nat} {g : Nat → Nat → Int} {RES : Int} (s : MSt I0 J0 A v I J v) (m0 : M0 I0 J0) (hκ : κ < 6) (hg : WfG g) (hm : MG I0 κ g) (hW : Wf v) (hH : WfH v) (hp : p < nP v) (hn : n ≤ 20) (h8 : v 266 8 ≤ 9999) (he : hoZ g p n v 100 = RES) (hQ : ∀ I' J', MSt I0 J0 A v I' J' v → Q (some (.int (iZ RES))) (mm I' J' A)) : wp E (d + 7) 240 44 [(0, .ref 265), (1, .int (iZ κ)), (2, .int (iZ p)), (3, .int (iZ n)), (4, .int (iZ (-2))), (5, .int (iZ 99))] [] (mm I J A) Q := by
  have ends : ∀ I J x5, MSt I0 J0 A v I J v → wp E (d + 7) 240 111 [(0, .ref 265), (1, .int (iZ κ)), (2, .int (iZ p)), (3, .int (iZ n)), (4, .int (iZ RES)), (5, .int x5)] [] (mm I J A) Q := fun I J x5 s => wf (hs := []) 20 111 (by decide) (hQ I J s)
  have L : ∀ (m : Nat) I J x5, m ≤ 100 → MSt I0 J0 A v I J v → x5 = iZ ((m : Int) - 1) → hoZ g p n v m = RES → wp E (d + 7) 240 44 [(0, .ref 265), (1, .int (iZ κ)), (2, .int (iZ p)), (3, .int (iZ n)), (4, .int (iZ (-2))), (5, .int x5)] [] (mm I J A) Q := by
    intro m
    induction m with
    | zero =>
      intro I J x5 hi s e5 he
      subst e5
      have he : (-2 : Int) = RES := he
      have := ends I J (iZ (((0 : Nat) : Int) - 1)) s
      rw [← he] at this
      exact wf (hs := [44, 111]) 20 44 (by decide) (wt (by decide) this)
    | succ k ih =>
      intro I J x5 hi s e5 he
      have e5 : x5 = iZ (k : Int) := e5.trans (by congr 1; omega)
      subst e5
      unfold hoZ at he
      refine wf (hs := [44, 59, 111]) 40 44 (by decide) (wF (by ((try simp (disch := omega) only [z_i8, z_i16, z_of, z_ofN, z_lofN, z_0, z_1, z_m1, z_l0, z_l1, iZ_add, iZ_sub, iZ_mul, iZ_neg, lZ_add, lZ_sub, lZ_mul, lZ_neg, z_div, z_ldiv, z_l, z_i, z_lt, z_le, z_eq, z_llt, z_lle, z_leq, z_cgt, z_cge, z_clt, z_cle, z_ceq, z_cl, z_nat, Int.toNat_natCast, mm_I, mm_J, z_cln, z_abs, z_max, z_min, z_lmax, z_lmin, z_sin, Int.cast_ofNat_Int, uI_I, uI_J, uL_I, uL_J, uA_I, uA_J, sI_eq, sI_ne, sL_eq, sL_ne, up_eq, up_ne, uL_eq, uL_ne, z_toInt, Int.reduceToNat]) <;> omega)) (wt rfl ?_))
      refine wp_keys [0, 1, 2, 3, 4, 5, 6] rfl rfl ?_
      refine m_hosesI s m0 hκ hg hm hp hn (by omega) (by omega) (fun I2 J2 x6 s2 => ?_)
      have bk : ∀ x4, (∀ I' J', MSt I0 J0 A v I' J' v → wp E (d + 7) 240 44 [(0, .ref 265), (1, .int (iZ κ)), (2, .int (iZ p)), (3, .int (iZ n)), (4, .int x4), (5, .int (iZ (k : Int) + iZ (-1)))] [] (mm I' J' A) Q) → wp E (d + 7) 240 97 [(0, .ref 265), (1, .int (iZ κ)), (2, .int (iZ p)), (3, .int (iZ n)), (4, .int (iZ (-2))), (5, .int (iZ k)), (6, .int x6)] [.int x4] (mm I2 J2 A) Q := fun x4 nx => by
        refine wf (hs := [44]) 30 97 (by decide) (And.intro rfl (ms_back s2 hW hH rfl (fun I3 s3 => ?_)))
        refine wp_keys [0, 1, 2, 3, 4, 5] rfl rfl ?_
        exact nx I3 J2 s3
      refine wf (hs := [97]) 30 83 (by decide) (And.intro rfl (ms_over s2 (fun o => wF (by decide) ?_) (fun o => wt rfl ?_)))
      · rw [if_pos o] at he
        exact bk _ (fun I' J' s' => ih I' J' _ (by omega) s' iZ_m1 he)
      · rw [if_neg o] at he
        refine bk _ (fun I' J' s' => ?_)
        have en := ends I' J' (iZ (k : Int) + iZ (-1)) s'
        rw [← he] at en
        exact wf (hs := [111]) 30 44 (by decide) (And.intro (fun _ => en) (fun _ => wF (by ((try simp (disch := omega) only [z_i8, z_i16, z_of, z_ofN, z_lofN, z_0, z_1, z_m1, z_l0, z_l1, iZ_add, iZ_sub, iZ_mul, iZ_neg, lZ_add, lZ_sub, lZ_mul, lZ_neg, z_div, z_ldiv, z_l, z_i, z_lt, z_le, z_eq, z_llt, z_lle, z_leq, z_cgt, z_cge, z_clt, z_cle, z_ceq, z_cl, z_nat, Int.toNat_natCast, mm_I, mm_J, z_cln, z_abs, z_max, z_min, z_lmax, z_lmin, z_sin, Int.cast_ofNat_Int, uI_I, uI_J, uL_I, uL_J, uA_I, uA_J, sI_eq, sI_ne, sL_eq, sL_ne, up_eq, up_ne, uL_eq, uL_ne, z_toInt, Int.reduceToNat]) <;> omega)) en))
  exact L 100 I J _ (by omega) s rfl he
def GHo (I : Nat → Nat → Int32) (N : Nat) (k p n : Int) : Prop := PG I p ∧ (0 ≤ k ∧ k < N) ∧ (1 ≤ n ∧ n ≤ 20)
theorem m_hoses {k p n : Int} {N : Nat} {g : Nat → Nat → Nat → Int} (h0 : M0 I J) (hz : ZO (mm I J A)) (hV : Vm I) (h9 : I 266 0 = 1 → vC I 266 8 ≤ 9999) (e31 : I 265 31 = iZ N) (hN : N ≤ 6) (hp : ∀ r : Nat, r < N → WfG (g r) ∧ MG I r (g r)) (hk : -2147483648 ≤ k ∧ k ≤ 2147483647) (hq : -2147483648 ≤ p ∧ p ≤ 2147483647) (hn : -2147483648 ≤ n ∧ n ≤ 2147483647) (h1 : GHo I N k p n → ∀ I' J', MSt I J A (vC I) I' J' (vC I) → Q (some (.int (iZ (hoZ (g k.toNat) p.toNat n.toNat (vC I) 100)))) (mm I' J' A)) (hno : ¬ GHo I N k p n → Q (some (.int (iZ (-1)))) (mm I J A)) : wpC E (d + 7) 240 [.ref 265, .int (iZ k), .int (iZ p), .int (iZ n)] (mm I J A) Q := by
  have T : PG I p → 0 ≤ k ∧ k < N → 1 ≤ n ∧ n ≤ 20 → wp E (d + 7) 240 30 [(0, .ref 265), (1, .int (iZ k)), (2, .int (iZ p)), (3, .int (iZ n))] [] (mm I J A) Q := fun g1 g3 g5 => by
    have H := h1 ⟨g1, g3, g5⟩
    have pa := hp k.toNat (by omega)
    have hW := (hV g1.1).1
    have hH := (hV g1.1).2
    have h8 := h9 g1.1
    obtain ⟨α, hα, rfl⟩ : ∃ α : Nat, α < N ∧ k = α := ⟨k.toNat, by omega, by omega⟩
    obtain ⟨β, hβ, rfl⟩ : ∃ β : Nat, β < nP (vC I) ∧ p = β := ⟨p.toNat, by have := g1.2; omega, by have := g1.2; omega⟩
    obtain ⟨ν, hν, rfl⟩ : ∃ ν : Nat, ν ≤ 20 ∧ n = ν := ⟨n.toNat, by omega, by omega⟩
    simp only [Int.toNat_natCast] at H pa
    refine wf (hs := [44]) 30 30 (by decide) (And.intro rfl (ms_lay hz hW hH rfl (fun I1 s1 => ?_)))
    refine wp_keys [0, 1, 2, 3, 4, 5] rfl rfl ?_
    exact m_hosesL s1 h0 (by omega) pa.1 pa.2 hW hH hβ hν h8 rfl H
  refine wc (hs := [30]) 60 (by decide) (And.intro rfl (m_isPlan e31 hN hk rfl (fun g3 => wF (by decide) ?_) (fun g3 => wt rfl (hno fun q => g3 ⟨q.1.1, q.2.1⟩))))
  refine And.intro rfl (m_isPlaceZ hV hq rfl (fun g1 => wF (by decide) ?_) (fun g1 => wt rfl (hno fun q => g1 q.1)))
  refine And.intro rfl (mW (z := n) (lo := 1) (hi := 20) (z_l (by omega) (by omega)) rfl rfl hn (by omega) (by omega) (fun g5 => wF (by decide) ?_) (fun g5 => wt rfl (hno fun q => g5 q.2.2)))
  exact T g1 g3.2 g5
theorem c_hosesI {κ p n h : Nat} {RES : Prop} (s : CSt I0 J0 1 v I J w) (hκ : κ < 6) (hg : WfG (plV I0 (168 + 9 * κ))) (hp : p < nP w) (hn : n ≤ 20) (hh : h ≤ 99) (h8 : w 266 8 + n ≤ 99999) (he : ovP (hsI (plV I0 (168 + 9 * κ)) p h n w) ↔ RES) (hQ : ∀ I' J' A' w x6, CSt I0 J0 1 v I' J' w → (ovP w ↔ RES) → wp E (d + 7) 115 110 [(0, .ref 0), (1, .int (iZ κ)), (2, .int (iZ p)), (3, .int (iZ n)), (4, .int (iZ (-2))), (5, .int (iZ h)), (6, .int x6)] [] (mm I' J' A') Q) : wp E (d + 7) 115 61 [(0, .ref 0), (1, .int (iZ κ)), (2, .int (iZ p)), (3, .int (iZ n)), (4, .int (iZ (-2))), (5, .int (iZ h)), (6, .int (iZ 0))] [] (mm I J A) Q := by
  have L : ∀ (m i : Nat) I J A w x6, i + m = n → CSt I0 J0 1 v I J w → p < nP w → w 266 8 + m ≤ 99999 → (ovP (hsI (plV I0 (168 + 9 * κ)) p h m w) ↔ RES) → x6 = iZ i → wp E (d + 7) 115 61 [(0, .ref 0), (1, .int (iZ κ)), (2, .int (iZ p)), (3, .int (iZ n)), (4, .int (iZ (-2))), (5, .int (iZ h)), (6, .int x6)] [] (mm I J A) Q := by
    intro m
    induction m with
    | zero =>
      intro i I J A w x6 hi s hp h8 he e6
      subst e6
      exact wf (hs := [61, 110]) 20 61 (by decide) (wt (by ((try simp (disch := omega) only [z_i8, z_i16, z_of, z_ofN, z_lofN, z_0, z_1, z_m1, z_l0, z_l1, iZ_add, iZ_sub, iZ_mul, iZ_neg, lZ_add, lZ_sub, lZ_mul, lZ_neg, z_div, z_ldiv, z_l, z_i, z_lt, z_le, z_eq, z_llt, z_lle, z_leq, z_cgt, z_cge, z_clt, z_cle, z_ceq, z_cl, z_nat, Int.toNat_natCast, mm_I, mm_J, z_cln, z_abs, z_max, z_min, z_lmax, z_lmin, z_sin, Int.cast_ofNat_Int, uI_I, uI_J, uL_I, uL_J, uA_I, uA_J, sI_eq, sI_ne, sL_eq, sL_ne, up_eq, up_ne, uL_eq, uL_ne, z_toInt, Int.reduceToNat]) <;> omega)) (hQ I J A w _ s he))
    | succ m ih =>
      intro i I J A w x6 hi s hp h8 he e6
      subst e6
      have h12 := nP12 s.2.2.2.2.1
      have e8 : porZ w p h 266 8 = w 266 8 := por_ne (by decide)
      have nx : ∀ I1, CSt I0 J0 1 v I1 J (porZ w p h) → wp E (d + 7) 115 87 [(0, .ref 0), (1, .int (iZ κ)), (2, .int (iZ p)), (3, .int (iZ n)), (4, .int (iZ (-2))), (5, .int (iZ h)), (6, .int (iZ i))] [] (mm I1 J A) Q := fun I1 s1 => by
        have go := cs_go (E := E) (d := d + 1) (A := A) (r := κ) (Q := fun q M => q = none ∧ ∃ I2 J2 A2, M = mm I2 J2 A2 ∧ CSt I0 J0 1 v I2 J2 (rndZ (plV I0 (168 + 9 * κ)) (porZ w p h))) (Or.inl rfl) s1 hκ hg (by omega) (fun I2 J2 A2 q1 => ⟨rfl, I2, J2, A2, rfl, q1⟩)
        have nx2 : ∀ I2 J2 A2, CSt I0 J0 1 v I2 J2 (rndZ (plV I0 (168 + 9 * κ)) (porZ w p h)) → wp E (d + 7) 115 61 [(0, .ref 0), (1, .int (iZ κ)), (2, .int (iZ p)), (3, .int (iZ n)), (4, .int (iZ (-2))), (5, .int (iZ h)), (6, .int (iZ (i : Int) + 1))] [] (mm I2 J2 A2) Q := fun I2 J2 A2 s2 => ih (i + 1) I2 J2 A2 _ _ (by omega) s2 (by rw [nP_rnd, nP_por]; exact hp) (by rw [rnd_8, e8]; omega) he (iZ_add i 1)
        have hc : κ = 0 ∨ κ = 1 ∨ κ = 2 ∨ κ = 3 ∨ κ = 4 ∨ κ = 5 := by omega
        clear ih hQ he
        rcases hc with rfl | rfl | rfl | rfl | rfl | rfl
        all_goals (
          refine wf (hs := [61]) 40 87 (by decide) (And.intro (inL (by decide)) ⟨_, rfl, And.intro rfl (wpC_mono go (fun q M hh => ?_))⟩)
          obtain ⟨rfl, I2, J2, A2, rfl, h2⟩ := hh
          refine wp_keys [0, 1, 2, 3, 4, 5, 6] rfl rfl ?_
          exact nx2 I2 J2 A2 h2)
      refine wf (hs := [61, 87, 110]) 30 61 (by decide) (wF (by ((try simp (disch := omega) only [z_i8, z_i16, z_of, z_ofN, z_lofN, z_0, z_1, z_m1, z_l0, z_l1, iZ_add, iZ_sub, iZ_mul, iZ_neg, lZ_add, lZ_sub, lZ_mul, lZ_neg, z_div, z_ldiv, z_l, z_i, z_lt, z_le, z_eq, z_llt, z_lle, z_leq, z_cgt, z_cge, z_clt, z_cle, z_ceq, z_cl, z_nat, Int.toNat_natCast, mm_I, mm_J, z_cln, z_abs, z_max, z_min, z_lmax, z_lmin, z_sin, Int.cast_ofNat_Int, uI_I, uI_J, uL_I, uL_J, uA_I, uA_J, sI_eq, sI_ne, sL_eq, sL_ne, up_eq, up_ne, uL_eq, uL_ne, z_toInt, Int.reduceToNat]) <;> omega)) (And.intro rfl (cs_over (Or.inl rfl) s (fun o => wF (by decide) ?_) (fun o => wt rfl ?_))))
      · refine hQ I J A w _ s ⟨fun _ => he.mp (ov_hs _ _ o), fun _ => o⟩
      · exact And.intro rfl (cs_add (n := (h : Int)) (Or.inl rfl) s hp (by omega) rfl rfl (fun I1 s1 => nx I1 s1))
  exact L n 0 I J A w _ (by omega) s hp h8 he rfl
theorem c_hosesL {κ p n : Nat} {RES : Int} (s : CSt I0 J0 1 v I J v) (hκ : κ < 6) (hg : WfG (plV I0 (168 + 9 * κ))) (hW : Wf v) (hH : WfH v) (hp : p < nP v) (hn : n ≤ 20) (h8 : v 266 8 ≤ 9999) (he : hoZ (plV I0 (168 + 9 * κ)) p n v 100 = RES) (hQ : ∀ I' J' A', CSt I0 J0 1 v I' J' v → Q (some (.int (iZ RES))) (mm I' J' A')) : wp E (d + 7) 115 48 [(0, .ref 0), (1, .int (iZ κ)), (2, .int (iZ p)), (3, .int (iZ n)), (4, .int (iZ (-2))), (5, .int (iZ 99))] [] (mm I J A) Q := by
  have ends : ∀ I J A x5, CSt I0 J0 1 v I J v → wp E (d + 7) 115 142 [(0, .ref 0), (1, .int (iZ κ)), (2, .int (iZ p)), (3, .int (iZ n)), (4, .int (iZ RES)), (5, .int x5)] [] (mm I J A) Q := fun I J A x5 s => wf (hs := []) 20 142 (by decide) (hQ I J A s)
  have L : ∀ (m : Nat) I J A x5, m ≤ 100 → CSt I0 J0 1 v I J v → x5 = iZ ((m : Int) - 1) → hoZ (plV I0 (168 + 9 * κ)) p n v m = RES → wp E (d + 7) 115 48 [(0, .ref 0), (1, .int (iZ κ)), (2, .int (iZ p)), (3, .int (iZ n)), (4, .int (iZ (-2))), (5, .int x5)] [] (mm I J A) Q := by
    intro m
    induction m with
    | zero =>
      intro I J A x5 hi s e5 he
      subst e5
      have he : (-2 : Int) = RES := he
      have := ends I J A (iZ (((0 : Nat) : Int) - 1)) s
      rw [← he] at this
      exact wf (hs := [48, 142]) 20 48 (by decide) (wt (by decide) this)
    | succ k ih =>
      intro I J A x5 hi s e5 he
      have e5 : x5 = iZ (k : Int) := e5.trans (by congr 1; omega)
      subst e5
      unfold hoZ at he
      refine wf (hs := [48, 61, 142]) 40 48 (by decide) (wF (by ((try simp (disch := omega) only [z_i8, z_i16, z_of, z_ofN, z_lofN, z_0, z_1, z_m1, z_l0, z_l1, iZ_add, iZ_sub, iZ_mul, iZ_neg, lZ_add, lZ_sub, lZ_mul, lZ_neg, z_div, z_ldiv, z_l, z_i, z_lt, z_le, z_eq, z_llt, z_lle, z_leq, z_cgt, z_cge, z_clt, z_cle, z_ceq, z_cl, z_nat, Int.toNat_natCast, mm_I, mm_J, z_cln, z_abs, z_max, z_min, z_lmax, z_lmin, z_sin, Int.cast_ofNat_Int, uI_I, uI_J, uL_I, uL_J, uA_I, uA_J, sI_eq, sI_ne, sL_eq, sL_ne, up_eq, up_ne, uL_eq, uL_ne, z_toInt, Int.reduceToNat]) <;> omega)) (wF (by decide) ?_))
      refine wp_keys [0, 1, 2, 3, 4, 5, 6] rfl rfl ?_
      refine c_hosesI s hκ hg hp hn (by omega) (by omega) Iff.rfl (fun I2 J2 A2 w2 x6 s2 ho => ?_)
      have bk : ∀ x4, (∀ I' J' A', CSt I0 J0 1 v I' J' v → wp E (d + 7) 115 48 [(0, .ref 0), (1, .int (iZ κ)), (2, .int (iZ p)), (3, .int (iZ n)), (4, .int x4), (5, .int (iZ (k : Int) + iZ (-1)))] [] (mm I' J' A') Q) → wp E (d + 7) 115 124 [(0, .ref 0), (1, .int (iZ κ)), (2, .int (iZ p)), (3, .int (iZ n)), (4, .int x4), (5, .int (iZ k)), (6, .int x6)] [] (mm I2 J2 A2) Q := fun x4 nx => by
        refine wf (hs := [48]) 30 124 (by decide) (And.intro rfl (cs_back (Or.inl rfl) s2 hW hH rfl (fun I3 s3 => ?_)))
        refine wp_keys [0, 1, 2, 3, 4, 5] rfl rfl ?_
        exact nx I3 J2 A2 s3
      refine wf (hs := [124]) 30 110 (by decide) (And.intro rfl (cs_over (Or.inl rfl) s2 (fun o => wF (by decide) ?_) (fun o => wt rfl ?_)))
      · have o2 := ho.mp o
        unfold ovP at o2
        rw [if_pos o2] at he
        exact bk _ (fun I' J' A' s' => ih I' J' A' _ (by omega) s' iZ_m1 he)
      · have o2 : ¬ ovP _ := fun q => o (ho.mpr q)
        unfold ovP at o2
        rw [if_neg o2] at he
        refine wp_keys [0, 1, 2, 3, 4, 5, 6] rfl rfl ?_
        refine bk _ (fun I' J' A' s' => ?_)
        have en := ends I' J' A' (iZ (k : Int) + iZ (-1)) s'
        rw [← he] at en
        refine wf (hs := [142]) 30 48 (by decide) (And.intro (fun _ => en) (fun _ => wt ?_ en))
        show iZ 0 ≤ iZ (k : Int)
        ((try simp (disch := omega) only [z_i8, z_i16, z_of, z_ofN, z_lofN, z_0, z_1, z_m1, z_l0, z_l1, iZ_add, iZ_sub, iZ_mul, iZ_neg, lZ_add, lZ_sub, lZ_mul, lZ_neg, z_div, z_ldiv, z_l, z_i, z_lt, z_le, z_eq, z_llt, z_lle, z_leq, z_cgt, z_cge, z_clt, z_cle, z_ceq, z_cl, z_nat, Int.toNat_natCast, mm_I, mm_J, z_cln, z_abs, z_max, z_min, z_lmax, z_lmin, z_sin, Int.cast_ofNat_Int, uI_I, uI_J, uL_I, uL_J, uA_I, uA_J, sI_eq, sI_ne, sL_eq, sL_ne, up_eq, up_ne, uL_eq, uL_ne, z_toInt, Int.reduceToNat]) <;> omega)
  exact L 100 I J A _ (by omega) s rfl he
theorem op_hoses {k p n : Int} (h : Inv I J) (hz : ZO (mm I J A)) (hk : -2147483648 ≤ k ∧ k ≤ 2147483647) (hq : -2147483648 ≤ p ∧ p ≤ 2147483647) (hn : -2147483648 ≤ n ∧ n ≤ 2147483647) : wpC E (d + 8) 115 [.ref 0, .int (iZ k), .int (iZ p), .int (iZ n)] (mm I J A) (QI E (d + 8) 240 [.int (iZ k), .int (iZ p), .int (iZ n)]) := by
  obtain ⟨N, hN, e3, e31, hp⟩ := id h.2.2.2.1
  have h9 : I 266 0 = 1 → vC I 266 8 ≤ 9999 := fun q => (Vs_on h.1 q).2.2.2
  have F : ¬ GHo I N k p n → ZO (mm I J A) → QI E (d + 8) 240 [.int (iZ k), .int (iZ p), .int (iZ n)] (some (.int (iZ (-1)))) (mm I J A) := fun g _ => rd_mk h FS_refl (m_hoses h.2.2.2.2.1 hz (Vs_m h.1) h9 e31 hN hp hk hq hn (fun x => absurd x g) (fun _ => ⟨rfl, rfl⟩))
  refine wpC_mono (wpC_zo hz (Q := fun r M => ZO M → QI E (d + 8) 240 [.int (iZ k), .int (iZ p), .int (iZ n)] r M) ?_) (fun r M hh => hh.1 hh.2)
  have T : PG I p → 0 ≤ k ∧ k < N → 1 ≤ n ∧ n ≤ 20 → wp E (d + 8) 115 28 [(0, .ref 0), (1, .int (iZ k)), (2, .int (iZ p)), (3, .int (iZ n))] [] (mm I J A) (fun r M => ZO M → QI E (d + 8) 240 [.int (iZ k), .int (iZ p), .int (iZ n)] r M) := fun g1 g3 g5 => by
    have pp := hp k.toNat (by omega)
    obtain ⟨hW, hH, hR, h8⟩ := Vs_on h.1 g1.1
    have fin : ∀ I' J' A', CSt I J 1 (vC I) I' J' (vC I) → ZO (mm I' J' A') → QI E (d + 8) 240 [.int (iZ k), .int (iZ p), .int (iZ n)] (some (.int (iZ (hoZ (plV I (168 + 9 * k.toNat)) p.toNat n.toNat (vC I) 100)))) (mm I' J' A') := fun I' J' A' c z => by
      have hF : FV I J I' J' := fun a q1 q2 => c.1 a (by omega) q2
      have hv := FV_vC hF
      refine QI_mk (m_hoses (g := fun r => plV I (168 + 9 * r)) (M0_FV hF h.2.2.2.2.1) z (FV_m hF (Vs_m h.1)) (by rw [hv]; exact fun _ => h8) (by rw [(hF 265 (by omega) (by omega)).1]; exact e31) hN (fun r hr => ⟨(hp r hr).1, MG_eq (hp r hr).2 (fun a q1 q2 => (hF a (by omega) (by omega)).1)⟩) hk hq hn (fun _ I2 J2 s => ?_) (fun x => absurd ⟨(FV_PG hF).mpr g1, g3, g5⟩ x))
      rw [hv] at s
      rw [hv]
      exact ⟨rfl, I2, J2, A', rfl, Inv_L h g1.1 (Or.inl rfl) c.1 s.1 s.2.2.2.1 c.2.2.1 ⟨fun _ => rfl, fun j hj e => by omega⟩⟩
    obtain ⟨α, hα, rfl⟩ : ∃ α : Nat, α < N ∧ k = α := ⟨k.toNat, by omega, by omega⟩
    obtain ⟨β, hβ, rfl⟩ : ∃ β : Nat, β < nP (vC I) ∧ p = β := ⟨p.toNat, by have := g1.2; omega, by have := g1.2; omega⟩
    obtain ⟨ν, hν, rfl⟩ : ∃ ν : Nat, ν ≤ 20 ∧ n = ν := ⟨n.toNat, by omega, by omega⟩
    simp only [Int.toNat_natCast] at fin pp
    refine wf (hs := [48]) 40 28 (by decide) (And.intro rfl (cs_keep (Or.inl rfl) hR hW hH rfl (fun I1 s1 => ?_)))
    refine wp_keys [0, 1, 2, 3, 4, 5] rfl rfl ?_
    exact c_hosesL (d := d + 1) (Q := fun r M => ZO M → QI E (d + 8) 240 [.int (iZ (α : Int)), .int (iZ (β : Int)), .int (iZ (ν : Int))] r M) s1 (by omega) pp.1 hW hH hβ hν h8 rfl fin
  refine wc (hs := [28]) 60 (by decide) (And.intro rfl (c_hasPlace h.1 hq rfl (fun g1 => wF (by decide) ?_) (fun g1 => wt rfl (F fun q => g1 q.1))))
  refine And.intro rfl (c_hasPlan e3 hN hk rfl (fun g3 => wF (by decide) ?_) (fun g3 => wt rfl (F fun q => g3 q.2.1)))
  refine And.intro rfl (cW (z := n) (lo := 1) (hi := 20) rfl rfl rfl hn (by omega) (by omega) (fun g5 => wF (by decide) ?_) (fun g5 => wt rfl (F fun q => g5 q.2.2)))
  exact T g1 g3 g5
end HOSES
