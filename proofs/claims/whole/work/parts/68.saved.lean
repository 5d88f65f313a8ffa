/-! ===== saved told to both ===== -/
noncomputable def svZ (g h : Nat → Nat → Int) (n : Nat) (v : am_V) : Nat → Int
  | 0 => -2
  | k + 1 => if rnN h (n - k) (rnN g k v) 266 7 = 60 ∨ rnN h (n - k) (rnN g k v) 266 7 = -60 then svZ g h n v k else k
section SAVED
variable {E : Nat × (Nat → Int32)} {d : Nat} {I I0 I1 : Nat → Nat → Int32} {J J0 J1 : Nat → Nat → Int64} {A A1 : Nat → Option Nat} {Q : Option Value → am_M → Prop} {M : am_M} {v w : am_V} {b : Nat}
theorem iZ_m1 {k : Nat} : iZ (k : Int) + iZ (-1) = iZ (((k : Nat) : Int) - 1) := (iZ_add k (-1)).trans (by congr 1)
theorem m_savedL {κ a b n : Nat} {g h : Nat → Nat → Int} {RES : Int} (s : MSt I0 J0 A v I J w) (m0 : M0 I0 J0) (hκ : κ < 4) (ha : a < 6) (hb : b < 6) (hg : WfG g) (hm : MG I0 a g) (hg' : WfG h) (hm' : MG I0 b h) (hWv : Wf v) (hHv : WfH v) (hW : Wf (imV I0 κ)) (hH : WfH (imV I0 κ)) (h8 : imV I0 κ 266 8 ≤ 9999) (hn : n ≤ 30) (he : svZ g h n (imV I0 κ) (n + 1) = RES) (hQ : ∀ I' J', MSt I0 J0 A v I' J' v → Q (some (.int (iZ RES))) (mm I' J' A)) : wp E (d + 8) 239 66 [(0, .ref 265), (1, .int (iZ κ)), (2, .int (iZ a)), (3, .int (iZ b)), (4, .int (iZ n)), (5, .int (iZ (-2))), (6, .int (iZ n))] [] (mm I J A) Q := by
  have ends : ∀ I J w x6, MSt I0 J0 A v I J w → wp E (d + 8) 239 123 [(0, .ref 265), (1, .int (iZ κ)), (2, .int (iZ a)), (3, .int (iZ b)), (4, .int (iZ n)), (5, .int (iZ RES)), (6, .int x6)] [] (mm I J A) Q := fun I J w x6 s => wf (hs := []) 20 123 (by decide) (And.intro rfl (ms_back s hWv hHv rfl (fun I' s' => hQ I' J s')))
  have L : ∀ (m : Nat) I J w x6, m ≤ n + 1 → MSt I0 J0 A v I J w → x6 = iZ ((m : Int) - 1) → svZ g h n (imV I0 κ) m = RES → wp E (d + 8) 239 66 [(0, .ref 265), (1, .int (iZ κ)), (2, .int (iZ a)), (3, .int (iZ b)), (4, .int (iZ n)), (5, .int (iZ (-2))), (6, .int x6)] [] (mm I J A) Q := by
    intro m
    induction m with
    | zero =>
      intro I J w x6 hi s e6 he
      subst e6
      have he : (-2 : Int) = RES := he
      have := ends I J w (iZ (((0 : Nat) : Int) - 1)) s
      rw [← he] at this
      exact wf (hs := [66, 123]) 20 66 (by decide) (wt (by decide) this)
    | succ k ih =>
      intro I J w x6 hi s e6 he
      have e6 : x6 = iZ (k : Int) := e6.trans (by congr 1; omega)
      subst e6
      unfold svZ at he
      have r1 := rnN_8 (g := g) k (imV I0 κ)
      refine wf (hs := [66, 123]) 60 66 (by decide) (wF (by ((try simp (disch := omega) only [z_i8, z_i16, z_of, z_ofN, z_lofN, z_0, z_1, z_m1, z_l0, z_l1, iZ_add, iZ_sub, iZ_mul, iZ_neg, lZ_add, lZ_sub, lZ_mul, lZ_neg, z_div, z_ldiv, z_l, z_i, z_lt, z_le, z_eq, z_llt, z_lle, z_leq, z_cgt, z_cge, z_clt, z_cle, z_ceq, z_cl, z_nat, Int.toNat_natCast, mm_I, mm_J, z_cln, z_abs, z_max, z_min, z_lmax, z_lmin, z_sin, Int.cast_ofNat_Int, uI_I, uI_J, uL_I, uL_J, uA_I, uA_J, sI_eq, sI_ne, sL_eq, sL_ne, up_eq, up_ne, uL_eq, uL_ne, z_toInt, Int.reduceToNat]) <;> omega)) (wt rfl (And.intro rfl (ms_img s hκ hW hH rfl (fun I1 s1 => ?_)))))
      refine And.intro rfl (ms_goesOn (n := k) s1 m0 ha hg hm (by omega) (by omega) rfl rfl (fun I2 J2 s2 => ?_))
      refine And.intro rfl (ms_goesOn (n := n - k) s2 m0 hb hg' hm' (by omega) (by omega) rfl ((iZ_sub n k).trans (by congr 1; omega)) (fun I3 J3 s3 => ?_))
      refine And.intro rfl (ms_over s3 (fun o => wF (by decide) ?_) (fun o => wt rfl ?_))
      · rw [if_pos o] at he
        refine wp_keys [0, 1, 2, 3, 4, 5, 6] rfl rfl ?_
        exact ih I3 J3 _ _ (by omega) s3 iZ_m1 he
      · rw [if_neg o] at he
        refine wp_keys [0, 1, 2, 3, 4, 5, 6] rfl rfl ?_
        have en := ends I3 J3 _ (iZ (k : Int) + iZ (-1)) s3
        rw [← he] at en
        exact wf (hs := [123]) 30 66 (by decide) (And.intro (fun _ => en) (fun _ => wF (by ((try simp (disch := omega) only [z_i8, z_i16, z_of, z_ofN, z_lofN, z_0, z_1, z_m1, z_l0, z_l1, iZ_add, iZ_sub, iZ_mul, iZ_neg, lZ_add, lZ_sub, lZ_mul, lZ_neg, z_div, z_ldiv, z_l, z_i, z_lt, z_le, z_eq, z_llt, z_lle, z_leq, z_cgt, z_cge, z_clt, z_cle, z_ceq, z_cl, z_nat, Int.toNat_natCast, mm_I, mm_J, z_cln, z_abs, z_max, z_min, z_lmax, z_lmin, z_sin, Int.cast_ofNat_Int, uI_I, uI_J, uL_I, uL_J, uA_I, uA_J, sI_eq, sI_ne, sL_eq, sL_ne, up_eq, up_ne, uL_eq, uL_ne, z_toInt, Int.reduceToNat]) <;> omega)) en))
  exact L (n + 1) I J w _ (by omega) s (by congr 1; omega) he
def GSv (I : Nat → Nat → Int32) (N : Nat) (k a b n : Int) : Prop := ((0 ≤ k ∧ k ≤ 3) ∧ I 305 k.toNat = 1) ∧ (0 ≤ a ∧ a < N) ∧ (0 ≤ b ∧ b < N) ∧ (0 ≤ n ∧ n ≤ 30)
theorem m_saved {k a b n : Int} {N : Nat} {g : Nat → Nat → Nat → Int} (h0 : M0 I J) (hz : ZO (mm I J A)) (hI : ∀ κ : Nat, κ < 4 → (I 305 κ = 0 ∨ (I 305 κ = 1 ∧ Wf (imV I κ) ∧ WfH (imV I κ) ∧ imV I κ 266 8 ≤ 9999 ∧ I 266 0 = 1))) (hV : Vm I) (e31 : I 265 31 = iZ N) (hN : N ≤ 6) (hp : ∀ r : Nat, r < N → WfG (g r) ∧ MG I r (g r)) (hk : -2147483648 ≤ k ∧ k ≤ 2147483647) (ha : -2147483648 ≤ a ∧ a ≤ 2147483647) (hb : -2147483648 ≤ b ∧ b ≤ 2147483647) (hn : -2147483648 ≤ n ∧ n ≤ 2147483647) (h1 : GSv I N k a b n → ∀ I' J', MSt I J A (vC I) I' J' (vC I) → Q (some (.int (iZ (svZ (g a.toNat) (g b.toNat) n.toNat (imV I k.toNat) (n.toNat + 1))))) (mm I' J' A)) (hno : ¬ GSv I N k a b n → Q (some (.int (iZ (-1)))) (mm I J A)) : wpC E (d + 8) 239 [.ref 265, .int (iZ k), .int (iZ a), .int (iZ b), .int (iZ n)] (mm I J A) Q := by
  have T3 : (0 ≤ k ∧ k ≤ 3) → I 305 k.toNat = 1 → 0 ≤ a ∧ a < N → 0 ≤ b ∧ b < N → wp E (d + 8) 239 37 [(0, .ref 265), (1, .int (iZ k)), (2, .int (iZ a)), (3, .int (iZ b)), (4, .int (iZ n))] [] (mm I J A) Q := fun g1 g2 g3 g4 => by
    refine wf (hs := [66]) 60 37 (by decide) (And.intro rfl (mW (z := n) (lo := 0) (hi := 30) (z_l (by omega) (by omega)) rfl rfl hn (by omega) (by omega) (fun g5 => wF (by decide) ?_) (fun g5 => wt rfl (hno fun q => g5 q.2.2.2))))
    have H := h1 ⟨⟨g1, g2⟩, g3, g4, g5⟩
    have pa := hp a.toNat (by omega)
    have pb := hp b.toNat (by omega)
    have hi := hI k.toNat (by omega)
    obtain ⟨κ, hκ, rfl⟩ : ∃ κ : Nat, κ < 4 ∧ k = κ := ⟨k.toNat, by omega, by omega⟩
    obtain ⟨α, hα, rfl⟩ : ∃ α : Nat, α < N ∧ a = α := ⟨a.toNat, by omega, by omega⟩
    obtain ⟨β, hβ, rfl⟩ : ∃ β : Nat, β < N ∧ b = β := ⟨b.toNat, by omega, by omega⟩
    obtain ⟨ν, hν, rfl⟩ : ∃ ν : Nat, ν ≤ 30 ∧ n = ν := ⟨n.toNat, by omega, by omega⟩
    simp only [Int.toNat_natCast] at H pa pb hi g2
    rcases hi with hi | ⟨-, hW, hH, h8, hs⟩
    · rw [hi] at g2; cases g2
    · refine And.intro rfl (ms_lay hz (hV hs).1 (hV hs).2 rfl (fun I1 s1 => ?_))
      refine wp_keys [0, 1, 2, 3, 4, 5, 6] rfl rfl ?_
      exact m_savedL s1 h0 hκ (by omega) (by omega) pa.1 pa.2 pb.1 pb.2 (hV hs).1 (hV hs).2 hW hH h8 hν rfl H
  refine wc (hs := [37]) 60 (by decide) (And.intro rfl (mW (z := k) (lo := 0) (hi := 3) (z_l (by omega) (by omega)) rfl rfl hk (by omega) (by omega) (fun g1 => wF (by decide) ?_) (fun g1 => wt rfl (hno fun q => g1 q.1.1))))
  have cl : (iZ k).toNatClampNeg = k.toNat := z_cl (by omega) (by omega)
  refine And.intro (z_in (by omega) (by omega) (by omega)) ?_
  rcases hI k.toNat (by omega) with hi | ⟨hi, -, -, -, hs⟩
  · refine wt ?_ (hno fun q => by have := q.1.2; rw [hi] at this; cases this)
    show I 305 (iZ k).toNatClampNeg = 0
    rw [cl]; exact hi
  · refine wF ?_ ?_
    · show ¬ I 305 (iZ k).toNatClampNeg = 0
      rw [cl, hi]; decide
    refine And.intro rfl (m_isPlan e31 hN ha rfl (fun p => wF (by decide) ?_) (fun p => wt rfl (hno fun q => p ⟨hs, q.2.1⟩)))
    refine And.intro rfl (m_isPlan e31 hN hb rfl (fun p2 => wF (by decide) ?_) (fun p2 => wt rfl (hno fun q => p2 ⟨hs, q.2.2.1⟩)))
    exact T3 g1 hi p.2 p2.2
theorem c_savedL {κ a a' n : Nat} {RES : Int} (hb : B5 b) (s : CSt I0 J0 b v I J v) (ha : a < 6) (ha' : a' < 6) (hg : WfG (plV I0 (168 + 9 * a))) (hg' : WfG (plV I0 (168 + 9 * a'))) (hWv : Wf v) (hHv : WfH v) (h8 : v 266 8 ≤ 9999) (hn : n ≤ 30) (he : svZ (plV I0 (168 + 9 * a)) (plV I0 (168 + 9 * a')) n v (n + 1) = RES) (hQ : ∀ I' J' A', CSt I0 J0 b v I' J' v → Q (some (.int (iZ RES))) (mm I' J' A')) : wp E (d + 7) 114 63 [(0, .ref 0), (1, .int (iZ κ)), (2, .int (iZ a)), (3, .int (iZ a')), (4, .int (iZ n)), (5, .ref b), (6, .int (iZ (-2))), (7, .int (iZ n))] [] (mm I J A) Q := by
  have ends : ∀ I J A x7, CSt I0 J0 b v I J v → wp E (d + 7) 114 122 [(0, .ref 0), (1, .int (iZ κ)), (2, .int (iZ a)), (3, .int (iZ a')), (4, .int (iZ n)), (5, .ref b), (6, .int (iZ RES)), (7, .int x7)] [] (mm I J A) Q := fun I J A x7 s => wf (hs := []) 20 122 (by decide) (hQ I J A s)
  have L : ∀ (m : Nat) I J A x7, m ≤ n + 1 → CSt I0 J0 b v I J v → x7 = iZ ((m : Int) - 1) → svZ (plV I0 (168 + 9 * a)) (plV I0 (168 + 9 * a')) n v m = RES → wp E (d + 7) 114 63 [(0, .ref 0), (1, .int (iZ κ)), (2, .int (iZ a)), (3, .int (iZ a')), (4, .int (iZ n)), (5, .ref b), (6, .int (iZ (-2))), (7, .int x7)] [] (mm I J A) Q := by
    intro m
    induction m with
    | zero =>
      intro I J A x7 hi s e7 he
      subst e7
      have he : (-2 : Int) = RES := he
      have := ends I J A (iZ (((0 : Nat) : Int) - 1)) s
      rw [← he] at this
      exact wf (hs := [63, 122]) 20 63 (by decide) (wt (by decide) this)
    | succ k ih =>
      intro I J A x7 hi s e7 he
      have e7 : x7 = iZ (k : Int) := e7.trans (by congr 1; omega)
      subst e7
      unfold svZ at he
      have r1 := rnN_8 (g := plV I0 (168 + 9 * a)) k v
      refine wf (hs := [63, 106, 122]) 60 63 (by decide) (wF (by ((try simp (disch := omega) only [z_i8, z_i16, z_of, z_ofN, z_lofN, z_0, z_1, z_m1, z_l0, z_l1, iZ_add, iZ_sub, iZ_mul, iZ_neg, lZ_add, lZ_sub, lZ_mul, lZ_neg, z_div, z_ldiv, z_l, z_i, z_lt, z_le, z_eq, z_llt, z_lle, z_leq, z_cgt, z_cge, z_clt, z_cle, z_ceq, z_cl, z_nat, Int.toNat_natCast, mm_I, mm_J, z_cln, z_abs, z_max, z_min, z_lmax, z_lmin, z_sin, Int.cast_ofNat_Int, uI_I, uI_J, uL_I, uL_J, uA_I, uA_J, sI_eq, sI_ne, sL_eq, sL_ne, up_eq, up_ne, uL_eq, uL_ne, z_toInt, Int.reduceToNat]) <;> omega)) (wF (by decide) (And.intro rfl (cs_goBy (n := k) hb s ha hg (by omega) (by omega) rfl rfl (fun I1 J1 A1 s1 => ?_)))))
      refine And.intro rfl (cs_goBy (n := n - k) hb s1 ha' hg' (by omega) (by omega) rfl ((iZ_sub n k).trans (by congr 1; omega)) (fun I2 J2 A2 s2 => ?_))
      have bk : ∀ x6, (∀ I' J' A', CSt I0 J0 b v I' J' v → wp E (d + 7) 114 63 [(0, .ref 0), (1, .int (iZ κ)), (2, .int (iZ a)), (3, .int (iZ a')), (4, .int (iZ n)), (5, .ref b), (6, .int x6), (7, .int (iZ (k : Int) + iZ (-1)))] [] (mm I' J' A') Q) → wp E (d + 7) 114 106 [(0, .ref 0), (1, .int (iZ κ)), (2, .int (iZ a)), (3, .int (iZ a')), (4, .int (iZ n)), (5, .ref b), (6, .int x6), (7, .int (iZ k))] [] (mm I2 J2 A2) Q := fun x6 nx => by
        refine wf (hs := [63]) 30 106 (by decide) (And.intro (by rcases hb with rfl | rfl | rfl | rfl | rfl <;> rfl) (cs_back hb s2 hWv hHv rfl (fun I3 s3 => ?_)))
        refine wp_keys [0, 1, 2, 3, 4, 5, 6, 7] rfl rfl ?_
        exact nx I3 J2 A2 s3
      refine And.intro (by rcases hb with rfl | rfl | rfl | rfl | rfl <;> rfl) (cs_over hb s2 (fun o => wF (by decide) ?_) (fun o => wt rfl ?_))
      · rw [if_pos o] at he
        exact bk _ (fun I' J' A' s' => ih I' J' A' _ (by omega) s' iZ_m1 he)
      · rw [if_neg o] at he
        refine wp_keys [0, 1, 2, 3, 4, 5, 6, 7] rfl rfl ?_
        refine bk _ (fun I' J' A' s' => ?_)
        have en := ends I' J' A' (iZ (k : Int) + iZ (-1)) s'
        rw [← he] at en
        refine wf (hs := [122]) 30 63 (by decide) (And.intro (fun _ => en) (fun _ => wt ?_ en))
        show iZ 0 ≤ iZ (k : Int)
        ((try simp (disch := omega) only [z_i8, z_i16, z_of, z_ofN, z_lofN, z_0, z_1, z_m1, z_l0, z_l1, iZ_add, iZ_sub, iZ_mul, iZ_neg, lZ_add, lZ_sub, lZ_mul, lZ_neg, z_div, z_ldiv, z_l, z_i, z_lt, z_le, z_eq, z_llt, z_lle, z_leq, z_cgt, z_cge, z_clt, z_cle, z_ceq, z_cl, z_nat, Int.toNat_natCast, mm_I, mm_J, z_cln, z_abs, z_max, z_min, z_lmax, z_lmin, z_sin, Int.cast_ofNat_Int, uI_I, uI_J, uL_I, uL_J, uA_I, uA_J, sI_eq, sI_ne, sL_eq, sL_ne, up_eq, up_ne, uL_eq, uL_ne, z_toInt, Int.reduceToNat]) <;> omega)
  exact L (n + 1) I J A _ (by omega) s (by congr 1; omega) he
theorem c_hasImage {k : Int} {x : Int32} (h : ∀ κ : Nat, κ < 4 → Im I J κ) (hk : -2147483648 ≤ k ∧ k ≤ 2147483647) (ex : x = iZ k) (h1 : (0 ≤ k ∧ k ≤ 3) ∧ I 305 k.toNat = 1 → Q (some (.int 1)) (mm I J A)) (h0 : ¬ ((0 ≤ k ∧ k ≤ 3) ∧ I 305 k.toNat = 1) → Q (some (.int 0)) (mm I J A)) : wpC E (d + 1) 134 [.ref 0, .int x] (mm I J A) Q := by
  subst ex
  refine wc (hs := []) 40 (by decide) (And.intro rfl (cW (z := k) (lo := 0) (hi := 3) rfl rfl rfl hk (by omega) (by omega) (fun g => wF (by decide) ?_) (fun g => wt rfl (And.intro rfl (h0 fun q => g q.1)))))
  obtain ⟨κ, hκ, rfl⟩ : ∃ κ : Nat, κ < 4 ∧ k = κ := ⟨k.toNat, by omega, by omega⟩
  rw [Int.toNat_natCast] at h1 h0
  have hi := h κ hκ
  have hc : κ = 0 ∨ κ = 1 ∨ κ = 2 ∨ κ = 3 := by omega
  rcases hi with ⟨e1, e2⟩ | ⟨e1, -, -, hR, -⟩
  · have H := h0 (fun q => by rw [e1] at q; cases q.2)
    rcases hc with rfl | rfl | rfl | rfl
    all_goals exact And.intro (inL (by decide)) ⟨_, rfl, wt e2 (And.intro rfl H)⟩
  · have H := h1 ⟨g, e1⟩
    have e2 : ¬ I (35 + 33 * κ) 0 = 0 := by have : I (35 + 33 * κ) 0 = 1 := hR.1.1; rw [this]; decide
    rcases hc with rfl | rfl | rfl | rfl
    all_goals exact And.intro (inL (by decide)) ⟨_, rfl, wF e2 (And.intro rfl H)⟩
theorem op_saved {k a b n : Int} (h : Inv I J) (hz : ZO (mm I J A)) (hk : -2147483648 ≤ k ∧ k ≤ 2147483647) (ha : -2147483648 ≤ a ∧ a ≤ 2147483647) (hb : -2147483648 ≤ b ∧ b ≤ 2147483647) (hn : -2147483648 ≤ n ∧ n ≤ 2147483647) : wpC E (d + 8) 114 [.ref 0, .int (iZ k), .int (iZ a), .int (iZ b), .int (iZ n)] (mm I J A) (QI E (d + 8) 239 [.int (iZ k), .int (iZ a), .int (iZ b), .int (iZ n)]) := by
  obtain ⟨N, hN, e3, e31, hp⟩ := id h.2.2.2.1
  have hI : ∀ κ : Nat, κ < 4 → (I 305 κ = 0 ∨ (I 305 κ = 1 ∧ Wf (imV I κ) ∧ WfH (imV I κ) ∧ imV I κ 266 8 ≤ 9999 ∧ I 266 0 = 1)) := fun κ hκ => by
    rcases h.2.1 κ hκ with ⟨e1, -⟩ | ⟨e1, q1, q2, -, q3, -, q4⟩
    · exact Or.inl e1
    · exact Or.inr ⟨e1, q1, q2, q3, q4⟩
  have F : ¬ GSv I N k a b n → ZO (mm I J A) → QI E (d + 8) 239 [.int (iZ k), .int (iZ a), .int (iZ b), .int (iZ n)] (some (.int (iZ (-1)))) (mm I J A) := fun p _ => rd_mk h FS_refl (m_saved h.2.2.2.2.1 hz hI (Vs_m h.1) e31 hN hp hk ha hb hn (fun g => absurd g p) (fun _ => ⟨rfl, rfl⟩))
  refine wpC_mono (wpC_zo hz (Q := fun r M => ZO M → QI E (d + 8) 239 [.int (iZ k), .int (iZ a), .int (iZ b), .int (iZ n)] r M) ?_) (fun r M hh => hh.1 hh.2)
  have T : ((0 ≤ k ∧ k ≤ 3) ∧ I 305 k.toNat = 1) → 0 ≤ a ∧ a < N → 0 ≤ b ∧ b < N → 0 ≤ n ∧ n ≤ 30 → wp E (d + 8) 114 37 [(0, .ref 0), (1, .int (iZ k)), (2, .int (iZ a)), (3, .int (iZ b)), (4, .int (iZ n))] [] (mm I J A) (fun r M => ZO M → QI E (d + 8) 239 [.int (iZ k), .int (iZ a), .int (iZ b), .int (iZ n)] r M) := fun g1 g3 g4 g5 => by
    have pa := hp a.toNat (by omega)
    have pb := hp b.toNat (by omega)
    obtain ⟨κ, hκ, rfl⟩ : ∃ κ : Nat, κ < 4 ∧ k = κ := ⟨k.toNat, by omega, by omega⟩
    have hi := h.2.1 κ hκ
    have g2 := g1.2
    rw [Int.toNat_natCast] at g2
    rcases hi with ⟨hi, -⟩ | ⟨-, hW, hH, hR, h8, -, hs⟩
    · rw [hi] at g2; cases g2
    have hB : B5 (35 + 33 * κ) := by unfold B5; omega
    have fin : ∀ I' J' A', CSt I J (35 + 33 * κ) (imV I κ) I' J' (imV I κ) → ZO (mm I' J' A') → QI E (d + 8) 239 [.int (iZ (κ : Int)), .int (iZ a), .int (iZ b), .int (iZ n)] (some (.int (iZ (svZ (plV I (168 + 9 * a.toNat)) (plV I (168 + 9 * b.toNat)) n.toNat (imV I κ) (n.toNat + 1))))) (mm I' J' A') := fun I' J' A' c z => by
      have f : ∀ a, 168 ≤ a → (a < 223 ∨ 265 ≤ a) → I' a = I a ∧ J' a = J a := fun a q1 q2 => c.1 a (by omega) q2
      have hv : vC I' = vC I := vC_eq (fun a q1 q2 => (f a (by omega) (by omega)).1)
      have im : imV I' κ = imV I κ := imV_eq (f 304 (by omega) (by omega)).1
      have e305 : I' 305 = I 305 := (f 305 (by omega) (by omega)).1
      have e266 : I' 266 = I 266 := (f 266 (by omega) (by omega)).1
      refine QI_mk (m_saved (g := fun r => plV I (168 + 9 * r)) (M0_eq h.2.2.2.2.1 (f 265 (by omega) (by omega)).1 (f 265 (by omega) (by omega)).2) z (fun j hj => ?_) (fun q => ?_) (by rw [(f 265 (by omega) (by omega)).1]; exact e31) hN (fun r hr => ⟨(hp r hr).1, MG_eq (hp r hr).2 (fun a q1 q2 => (f a (by omega) (by omega)).1)⟩) hk ha hb hn (fun _ I2 J2 s => ?_) (fun x => absurd ⟨⟨g1.1, by rw [e305]; exact g1.2⟩, g3, g4, g5⟩ x))
      · rw [e305, e266, imV_eq (f 304 (by omega) (by omega)).1]; exact hI j hj
      · rw [hv]; rw [e266] at q; exact Vs_m h.1 q
      · rw [hv] at s
        rw [Int.toNat_natCast, im]
        refine ⟨rfl, I2, J2, A', rfl, Inv_L h hs hB c.1 s.1 s.2.2.2.1 c.2.2.1 ⟨fun e => by omega, fun j hj e => ?_⟩⟩
        have : j = κ := by omega
        subst this
        exact ⟨rfl, g2⟩
    obtain ⟨α, hα, rfl⟩ : ∃ α : Nat, α < N ∧ a = α := ⟨a.toNat, by omega, by omega⟩
    obtain ⟨β, hβ, rfl⟩ : ∃ β : Nat, β < N ∧ b = β := ⟨b.toNat, by omega, by omega⟩
    obtain ⟨ν, hν, rfl⟩ : ∃ ν : Nat, ν ≤ 30 ∧ n = ν := ⟨n.toNat, by omega, by omega⟩
    simp only [Int.toNat_natCast] at fin pa pb
    have kp := cs_keep (E := E) (d := d + 6) (A := A) (x := iZ (0 : Nat)) (Q := fun r M => r = none ∧ ∃ I1, M = mm I1 J A ∧ CSt I J (35 + 33 * κ) (imV I κ) I1 J (imV I κ)) hB hR hW hH rfl (fun I1 s1 => ⟨rfl, I1, rfl, s1⟩)
    have nx : ∀ I1, CSt I J (35 + 33 * κ) (imV I κ) I1 J (imV I κ) → wp E (d + 8) 114 63 [(0, .ref 0), (1, .int (iZ κ)), (2, .int (iZ α)), (3, .int (iZ β)), (4, .int (iZ ν)), (5, .ref (35 + 33 * κ)), (6, .int (iZ (-2))), (7, .int (iZ ν))] [] (mm I1 J A) (fun r M => ZO M → QI E (d + 8) 239 [.int (iZ (κ : Int)), .int (iZ (α : Int)), .int (iZ (β : Int)), .int (iZ (ν : Int))] r M) := fun I1 s1 => c_savedL (d := d + 1) hB s1 (by omega) (by omega) pa.1 pb.1 hW hH h8 hν rfl fin
    have hc : κ = 0 ∨ κ = 1 ∨ κ = 2 ∨ κ = 3 := by omega
    clear fin
    rcases hc with rfl | rfl | rfl | rfl
    all_goals (
      refine wf (hs := [63]) 40 37 (by decide) (And.intro (inL (by decide)) ⟨_, rfl, And.intro rfl (wpC_mono kp (fun r M hh => ?_))⟩)
      obtain ⟨rfl, I1, rfl, s1⟩ := hh
      refine wp_keys [0, 1, 2, 3, 4, 5, 6, 7] rfl rfl ?_
      exact nx I1 s1)
  refine wc (hs := [37]) 60 (by decide) (And.intro rfl (c_hasImage h.2.1 hk rfl (fun g1 => wF (by decide) ?_) (fun g1 => wt rfl (F fun q => g1 q.1))))
  refine And.intro rfl (c_hasPlan e3 hN ha rfl (fun p => wF (by decide) ?_) (fun p => wt rfl (F fun q => p q.2.1)))
  refine And.intro rfl (c_hasPlan e3 hN hb rfl (fun p2 => wF (by decide) ?_) (fun p2 => wt rfl (F fun q => p2 q.2.2.1)))
  refine And.intro rfl (cW (z := n) (lo := 0) (hi := 30) rfl rfl rfl hn (by omega) (by omega) (fun g5 => wF (by decide) ?_) (fun g5 => wt rfl (F fun q => g5 q.2.2.2)))
  exact T g1 p p2 g5
end SAVED
