/-! ===== ice, carried ===== -/
theorem RB_bear {I : Nat → Nat → Int32} {J : Nat → Nat → Int64} {A : Nat → Option Nat} {v : am_V} {mw mu mom w h : Int} {x y : Int64} (hx : x = lZ (totZ v (mw + w))) (hy : y = lZ (upZ v (mu + w * h))) (hB : RB I J A 236 1 v mw mu mom) : RB I (setL (setL J 236 2 x) 236 3 y) A 236 1 v (mw + w) (mu + w * h) mom := by
  obtain ⟨hA, h1, h2, h3, h4, ⟨l, hl, h5, h6, h7⟩, h8⟩ := hB
  have e2 : setL (setL J 236 2 x) 236 3 y (236 + 2) = J (236 + 2) := by funext j; rw [setL_at, if_neg (by omega), setL_at, if_neg (by omega)]
  have e3 : setL (setL J 236 2 x) 236 3 y (236 + 3) = J (236 + 3) := by funext j; rw [setL_at, if_neg (by omega), setL_at, if_neg (by omega)]
  refine ⟨hA, h1, ?_, ?_, ?_, ⟨l, hl, h5, ?_, ?_⟩, h8⟩
  · rw [setL_at, if_neg (by omega), setL_at, if_pos ⟨rfl, rfl⟩]; exact hx
  · rw [setL_at, if_pos ⟨rfl, rfl⟩]; exact hy
  · rw [setL_at, if_neg (by omega), setL_at, if_neg (by omega)]; exact h4
  · unfold vJ at h6 ⊢
    rw [e2, e3]; exact h6
  · unfold vJ at h7 ⊢
    rw [e2, e3]; exact h7
def iceZ (v : am_V) (w h : Int) : Nat → Nat → Int
  | 0, _ => -2
  | m + 1, n => if 0 ≤ upsZ v (n * w) (n * w * h) 1 then n else iceZ v w h m (n + 1)
theorem iceW {w h : Int} {n : Nat} (hw : 1 ≤ w ∧ w ≤ 999) (hh : 0 ≤ h ∧ h ≤ 3000) (hn : n ≤ 200) : WW (n * w) (n * w * h) := by
  have m := mulb (a := (n : Int)) (b := w) (A := 200) (B := 999) (by omega) (by omega) (by omega) hw.2
  have m2 : n * w * h ≤ n * w * 3000 := Int.mul_le_mul_of_nonneg_left hh.2 m.1
  exact ⟨⟨m.1, by omega⟩, Int.mul_nonneg m.1 hh.1, by omega⟩
theorem ice_cut {v : am_V} {w h : Int} : ∀ (m n : Nat), iceZ (cutV v) w h m n = iceZ v w h m n := by
  intro m
  induction m with
  | zero => intro n; rfl
  | succ m ih =>
    intro n
    show (if 0 ≤ upsZ v (n * w) (n * w * h) 1 then (n : Int) else iceZ (cutV v) w h m (n + 1)) = _
    rw [ih]; rfl
section ICE
variable {E : Nat × (Nat → Int32)} {d : Nat} {I I1 : Nat → Nat → Int32} {J J1 : Nat → Nat → Int64} {A A1 : Nat → Option Nat} {Q : Option Value → am_M → Prop} {M : am_M}
theorem c_bear {v : am_V} {mw mu mom w h : Int} {x y : Int32} (hB : RB I J A 236 1 v mw mu mom) (hw : 0 ≤ w ∧ w ≤ 9999) (hh : 0 ≤ h ∧ h ≤ 3000) (ex : x = iZ w) (ey : y = iZ h) (hQ : ∀ J', RB I J' A 236 1 v (mw + w) (mu + w * h) mom → (∀ a, a ≠ 236 → J' a = J a) → Q none (mm I J' A)) : wpC E d 2 [.ref 236, .int x, .int y] (mm I J A) Q := by
  subst ex; subst ey
  have h2 := hB.2.2.1
  have h3 := hB.2.2.2.1
  suffices fin : Q none (mm I (setL (setL J 236 2 (J 236 2 + (iZ w).toInt64)) 236 3 (setL J 236 2 (J 236 2 + (iZ w).toInt64) 236 3 + (iZ w).toInt64 * (iZ h).toInt64)) A) from wc (hs := []) 30 (by decide) fin
  refine hQ _ (RB_bear ?_ ?_ hB) (fun a ha => ?_)
  · rw [h2, z_l (by omega) (by omega), lZ_add]
    congr 1
    unfold totZ; omega
  · rw [setL_at, if_neg (by omega), h3, z_l (by omega) (by omega), z_l (by omega) (by omega), lZ_mul, lZ_add]
    congr 1
    unfold upZ; omega
  · funext j
    rw [setL_at, if_neg (by omega), setL_at, if_neg (by omega)]
theorem m_ice {w h : Int} (hV : Vm I) (h0 : M0 I J) (hw : -2147483648 ≤ w ∧ w ≤ 2147483647) (hh : -2147483648 ≤ h ∧ h ≤ 2147483647) (h1 : I 266 0 = 1 → (1 ≤ w ∧ w ≤ 999) ∧ (0 ≤ h ∧ h ≤ 3000) → Q (some (.int (iZ (iceZ (vC I) w h 201 0)))) (mm I J A)) (hn : ¬ (I 266 0 = 1 ∧ (1 ≤ w ∧ w ≤ 999) ∧ (0 ≤ h ∧ h ≤ 3000)) → Q (some (.int (iZ (-1)))) (mm I J A)) : wpC E (d + 6) 241 [.ref 265, .int (iZ w), .int (iZ h)] (mm I J A) Q := by
  refine wc (hs := [39]) 40 (by decide) (And.intro rfl (m_isShip (fun p => wF (by decide) ?_) (fun p => wt rfl (hn fun q => p q.1))))
  have F : ¬ ((1 ≤ w ∧ w ≤ 999) ∧ (0 ≤ h ∧ h ≤ 3000)) → Q (some (.int (iZ (-1)))) (mm I J A) := fun q => hn fun r => q r.2
  refine And.intro rfl (mW (z := w) (lo := 1) (hi := 999) (z_l (by omega) (by omega)) rfl rfl (by omega) (by omega) (by omega) (fun g => wF (by decide) ?_) (fun g => wt rfl (F (by omega))))
  refine And.intro rfl (mW (z := h) (lo := 0) (hi := 3000) (z_l (by omega) (by omega)) rfl rfl (by omega) (by omega) (by omega) (fun g => wF (by decide) ?_) (fun g => wt rfl (F (by omega))))
  have H : Q (some (.int (iZ (iceZ (vI I) w h 201 0)))) (mm I J A) := by rw [← ice_cut]; exact h1 p ⟨by omega, by omega⟩
  have hW : Wf (vI I) := (hV p).1
  have e25 : I 265 25 = iZ 0 := by rw [vI_eq I 265 25, h0.1]
  have e26 : J 265 26 = lZ 0 := by rw [vJ_eq J 265 26, h0.2]
  have ends : ∀ (y : Int32) (z : Int64) (r : Int) (x4 : Int32), Q (some (.int (iZ r))) (mm I J A) → wp E (d + 6) 241 95 [(0, .ref 265), (1, .int (iZ w)), (2, .int (iZ h)), (3, .int (iZ r)), (4, .int x4)] [] (mm (setI I 265 25 y) (setL J 265 26 z) A) Q := by
    intro y z r x4 hQ
    have eI : setI (setI I 265 25 y) 265 25 (iZ 0) = I := by rw [setI_two, ← e25]; exact setI_same
    have eJ : setL (setL J 265 26 z) 265 26 (lZ 0) = J := by
      funext a j
      rw [setL_at, setL_at]
      by_cases q : a = 265 ∧ j = 26
      · rw [if_pos q, q.1, q.2, e26]
      · rw [if_neg q, if_neg q]
    rw [← eI, ← eJ] at hQ
    exact wf (hs := []) 30 95 (by decide) hQ
  have L : ∀ (m n : Nat) (y : Int32) (z : Int64) (x4 : Int32), n + m = 201 → x4 = iZ n → Q (some (.int (iZ (iceZ (vI I) w h m n)))) (mm I J A) → wp E (d + 6) 241 39 [(0, .ref 265), (1, .int (iZ w)), (2, .int (iZ h)), (3, .int (iZ (-2))), (4, .int x4)] [] (mm (setI I 265 25 y) (setL J 265 26 z) A) Q := by
    intro m
    induction m with
    | zero =>
      intro n y z x4 hi e4 hQ
      subst e4
      exact wf (hs := [39, 95]) 40 39 (by decide) (wt (by ((try simp (disch := omega) only [z_i8, z_i16, z_of, z_ofN, z_lofN, z_0, z_1, z_m1, z_l0, z_l1, iZ_add, iZ_sub, iZ_mul, iZ_neg, lZ_add, lZ_sub, lZ_mul, lZ_neg, z_div, z_ldiv, z_l, z_i, z_lt, z_le, z_eq, z_llt, z_lle, z_leq, z_cgt, z_cge, z_clt, z_cle, z_ceq, z_cl, z_nat, Int.toNat_natCast, mm_I, mm_J, z_cln, z_abs, z_max, z_min, z_lmax, z_lmin, z_sin, Int.cast_ofNat_Int, uI_I, uI_J, uL_I, uL_J, uA_I, uA_J, sI_eq, sI_ne, sL_eq, sL_ne, up_eq, up_ne, uL_eq, uL_ne, z_toInt, Int.reduceToNat]) <;> omega)) (ends y z (-2) _ hQ))
    | succ m ih =>
      intro n y z x4 hi e4 hQ
      subst e4
      have iw := iceW (n := n) (w := w) (h := h) (by omega) (by omega) (by omega)
      obtain ⟨⟨iw1, iw2⟩, iw3, iw4⟩ := id iw
      have ey : iZ (n : Int) * iZ w = iZ (n * w) := iZ_mul _ _
      have ez : (iZ (n : Int)).toInt64 * (iZ w).toInt64 * (iZ h).toInt64 = lZ (n * w * h) := by simp (disch := omega) only [z_i8, z_i16, z_of, z_ofN, z_lofN, z_0, z_1, z_m1, z_l0, z_l1, iZ_add, iZ_sub, iZ_mul, iZ_neg, lZ_add, lZ_sub, lZ_mul, lZ_neg, z_div, z_ldiv, z_l, z_i, z_lt, z_le, z_eq, z_llt, z_lle, z_leq, z_cgt, z_cge, z_clt, z_cle, z_ceq, z_cl, z_nat, Int.toNat_natCast, mm_I, mm_J, z_cln, z_abs, z_max, z_min, z_lmax, z_lmin, z_sin, Int.cast_ofNat_Int, uI_I, uI_J, uL_I, uL_J, uA_I, uA_J, sI_eq, sI_ne, sL_eq, sL_ne, up_eq, up_ne, uL_eq, uL_ne, z_toInt, Int.reduceToNat]
      have e1 : setI (setI I 265 25 y) 265 25 (iZ (n : Int) * iZ w) = setI I 265 25 (iZ (n * w)) := by rw [setI_two, ey]
      have e2 : setL (setL J 265 26 z) 265 26 ((iZ (n : Int)).toInt64 * (iZ w).toInt64 * (iZ h).toInt64) = setL J 265 26 (lZ (n * w * h)) := by
        rw [ez]
        funext a j
        rw [setL_at, setL_at, setL_at]
        by_cases q : a = 265 ∧ j = 26
        · rw [if_pos q, if_pos q]
        · rw [if_neg q, if_neg q, if_neg q]
      have ev : vI (setI I 265 25 (iZ (n * w))) = vset (vI I) 265 25 (n * w) := vI_setZ rfl (by omega) (by omega)
      have e25' : vI (setI I 265 25 (iZ (n * w))) 265 25 = n * w := by rw [ev, vset_eq]
      have e26' : vJ (setL J 265 26 (lZ (n * w * h))) 265 26 = n * w * h := by
        unfold vJ
        rw [setL_at, if_pos ⟨rfl, rfl⟩, lZ_toInt ⟨by omega, by omega⟩]
      have hW2 : Wf (vI (setI I 265 25 (iZ (n * w)))) := by rw [ev]; exact hW
      have wm : WM (setI I 265 25 (iZ (n * w))) (setL J 265 26 (lZ (n * w * h))) := ⟨hW2, by rw [e25']; omega, by rw [e25', e26']; exact ⟨iw3, iw4⟩⟩
      have et : tM (setI I 265 25 (iZ (n * w))) (setL J 265 26 (lZ (n * w * h))) 0 = trnZ (vI I) (n * w) (n * w * h) 0 := by
        unfold tM
        rw [e25', e26', ev]; rfl
      have ml := m_loll (E := E) (d := d) (A := A) (Q := fun r M => r = some (.int (iZ (rstZ (trnZ (vI I) (n * w) (n * w * h) 0) 1))) ∧ M = mm (setI I 265 25 (iZ (n * w))) (setL J 265 26 (lZ (n * w * h))) A) wm ⟨by rw [et], rfl⟩
      have rr := rst_rng (t := trnZ (vI I) (n * w) (n * w * h) 0) (z := 1) (by omega)
      have li := loll_iff (v := vI I) (mw := n * w) (mu := n * w * h)
      rw [← e1, ← e2] at ml
      refine wf (hs := [39, 95]) 60 39 (by decide) (wF (by ((try simp (disch := omega) only [z_i8, z_i16, z_of, z_ofN, z_lofN, z_0, z_1, z_m1, z_l0, z_l1, iZ_add, iZ_sub, iZ_mul, iZ_neg, lZ_add, lZ_sub, lZ_mul, lZ_neg, z_div, z_ldiv, z_l, z_i, z_lt, z_le, z_eq, z_llt, z_lle, z_leq, z_cgt, z_cge, z_clt, z_cle, z_ceq, z_cl, z_nat, Int.toNat_natCast, mm_I, mm_J, z_cln, z_abs, z_max, z_min, z_lmax, z_lmin, z_sin, Int.cast_ofNat_Int, uI_I, uI_J, uL_I, uL_J, uA_I, uA_J, sI_eq, sI_ne, sL_eq, sL_ne, up_eq, up_ne, uL_eq, uL_ne, z_toInt, Int.reduceToNat]) <;> omega)) (wt rfl (And.intro rfl (wpC_mono ml (fun r M hh => ?_)))))
      obtain ⟨rfl, rfl⟩ := hh
      rw [e1, e2]
      generalize hrs : rstZ (trnZ (vI I) (n * w) (n * w * h) 0) 1 = rs at rr li ⊢
      unfold iceZ at hQ
      refine And.intro (fun q => ?_) (fun q => ?_)
      · simp (disch := omega) only [z_i8, z_i16, z_of, z_ofN, z_lofN, z_0, z_1, z_m1, z_l0, z_l1, iZ_add, iZ_sub, iZ_mul, iZ_neg, lZ_add, lZ_sub, lZ_mul, lZ_neg, z_div, z_ldiv, z_l, z_i, z_lt, z_le, z_eq, z_llt, z_lle, z_leq, z_cgt, z_cge, z_clt, z_cle, z_ceq, z_cl, z_nat, Int.toNat_natCast, mm_I, mm_J, z_cln, z_abs, z_max, z_min, z_lmax, z_lmin, z_sin, Int.cast_ofNat_Int, uI_I, uI_J, uL_I, uL_J, uA_I, uA_J, sI_eq, sI_ne, sL_eq, sL_ne, up_eq, up_ne, uL_eq, uL_ne, z_toInt, Int.reduceToNat] at q
        have := li.mp q
        rw [if_neg (by omega)] at hQ
        refine wp_keys [0, 1, 2, 3, 4] rfl rfl ?_
        exact ih (n + 1) _ _ _ (by omega) (iZ_add n 1) hQ
      · simp (disch := omega) only [z_i8, z_i16, z_of, z_ofN, z_lofN, z_0, z_1, z_m1, z_l0, z_l1, iZ_add, iZ_sub, iZ_mul, iZ_neg, lZ_add, lZ_sub, lZ_mul, lZ_neg, z_div, z_ldiv, z_l, z_i, z_lt, z_le, z_eq, z_llt, z_lle, z_leq, z_cgt, z_cge, z_clt, z_cle, z_ceq, z_cl, z_nat, Int.toNat_natCast, mm_I, mm_J, z_cln, z_abs, z_max, z_min, z_lmax, z_lmin, z_sin, Int.cast_ofNat_Int, uI_I, uI_J, uL_I, uL_J, uA_I, uA_J, sI_eq, sI_ne, sL_eq, sL_ne, up_eq, up_ne, uL_eq, uL_ne, z_toInt, Int.reduceToNat] at q
        have : ¬ upsZ (vI I) (n * w) (n * w * h) 1 < 0 := fun y => q (li.mpr y)
        rw [if_pos (by omega)] at hQ
        refine wp_keys [0, 1, 2, 3, 4] rfl rfl ?_
        have E1 := ends (iZ (n * w)) (lZ (n * w * h)) n (iZ n + 1) hQ
        refine wf (hs := [95]) 40 39 (by decide) (And.intro (fun _ => E1) (fun _ => wF ?_ E1))
        show ¬ iZ (n : Int) = iZ (-2)
        ((try simp (disch := omega) only [z_i8, z_i16, z_of, z_ofN, z_lofN, z_0, z_1, z_m1, z_l0, z_l1, iZ_add, iZ_sub, iZ_mul, iZ_neg, lZ_add, lZ_sub, lZ_mul, lZ_neg, z_div, z_ldiv, z_l, z_i, z_lt, z_le, z_eq, z_llt, z_lle, z_leq, z_cgt, z_cge, z_clt, z_cle, z_ceq, z_cl, z_nat, Int.toNat_natCast, mm_I, mm_J, z_cln, z_abs, z_max, z_min, z_lmax, z_lmin, z_sin, Int.cast_ofNat_Int, uI_I, uI_J, uL_I, uL_J, uA_I, uA_J, sI_eq, sI_ne, sL_eq, sL_ne, up_eq, up_ne, uL_eq, uL_ne, z_toInt, Int.reduceToNat]) <;> omega)
  have sj : setL J 265 26 (J 265 26) = J := by
    funext a j
    rw [setL_at]
    by_cases q : a = 265 ∧ j = 26
    · rw [if_pos q, q.1, q.2]
    · rw [if_neg q]
  have := L 201 0 (I 265 25) (J 265 26) (iZ 0) (by omega) rfl H
  rw [setI_same, sj] at this
  refine wp_keys [0, 1, 2, 3, 4] rfl rfl ?_
  exact this
theorem op_ice {w h : Int} (hh : Inv I J) (rw' : -2147483648 ≤ w ∧ w ≤ 2147483647) (rh : -2147483648 ≤ h ∧ h ≤ 2147483647) : wpC E (d + 7) 116 [.ref 0, .int (iZ w), .int (iZ h)] (mm I J A) (QI E (d + 7) 241 [.int (iZ w), .int (iZ h)]) := by
  have F' : ¬ (I 266 0 = 1 ∧ (1 ≤ w ∧ w ≤ 999) ∧ (0 ≤ h ∧ h ≤ 3000)) → QI E (d + 7) 241 [.int (iZ w), .int (iZ h)] (some (.int (iZ (-1)))) (mm I J A) := fun q => rd_mk hh FS_refl (m_ice (Vs_m hh.1) hh.2.2.2.2.1 rw' rh (fun p1 p2 => absurd ⟨p1, p2⟩ q) (fun _ => ⟨rfl, rfl⟩))
  rcases hh.1 with ⟨g0, g1⟩ | ⟨g0, hW, hH, hR, h8⟩
  · exact wc (hs := []) 20 (by decide) (wt g1 (F' fun q => by rw [q.1] at g0; cases g0))
  · have b1 : ¬ I 1 0 = 0 := by have : I 1 0 = 1 := hR.1.1; rw [this]; decide
    have F : ¬ ((1 ≤ w ∧ w ≤ 999) ∧ (0 ≤ h ∧ h ≤ 3000)) → QI E (d + 7) 241 [.int (iZ w), .int (iZ h)] (some (.int (iZ (-1)))) (mm I J A) := fun q => F' fun r => q r.2
    refine wc (hs := [47]) 40 (by decide) (wF b1 ?_)
    refine And.intro rfl (cW (z := w) (lo := 1) (hi := 999) rfl rfl rfl (by omega) (by omega) (by omega) (fun g => wF (by decide) ?_) (fun g => wt rfl (F (by omega))))
    refine And.intro rfl (cW (z := h) (lo := 0) (hi := 3000) rfl rfl rfl (by omega) (by omega) (by omega) (fun g => wF (by decide) ?_) (fun g => wt rfl (F (by omega))))
    have hg : (1 ≤ w ∧ w ≤ 999) ∧ (0 ≤ h ∧ h ≤ 3000) := ⟨by omega, by omega⟩
    obtain ⟨RES, hRES⟩ : ∃ R, R = iceZ (vC I) w h 201 0 := ⟨_, rfl⟩
    have ends : ∀ I1 J1 A1, FS I J I1 J1 → QI E (d + 7) 241 [.int (iZ w), .int (iZ h)] (some (.int (iZ RES))) (mm I1 J1 A1) := fun I1 J1 A1 hF => rd_mk hh hF (m_ice (FS_m hF hh).1 (FS_m hF hh).2 rw' rh (fun _ _ => ⟨by rw [FS_v hF, hRES], rfl⟩) (fun q => absurd ⟨(FS_0 hF).trans g0, hg⟩ q))
    have L : ∀ (m n : Nat) (I1 : Nat → Nat → Int32) (J1 : Nat → Nat → Int64) (A1 : Nat → Option Nat) (x3 : Int32), n + m = 201 → FS I J I1 J1 → RB I1 J1 A1 236 1 (vC I) (n * w) (n * w * h) (asdZ (vC I)) → x3 = iZ n → iceZ (vC I) w h m n = RES → wp E (d + 7) 116 47 [(0, .ref 0), (1, .int (iZ w)), (2, .int (iZ h)), (3, .int x3)] [] (mm I1 J1 A1) (QI E (d + 7) 241 [.int (iZ w), .int (iZ h)]) := by
      intro m
      induction m with
      | zero =>
        intro n I1 J1 A1 x3 hi hF hB e3 he
        subst e3
        have he : (-2 : Int) = RES := he
        have := ends I1 J1 A1 hF
        rw [← he] at this
        exact wf (hs := [47]) 30 47 (by decide) (wt (by ((try simp (disch := omega) only [z_i8, z_i16, z_of, z_ofN, z_lofN, z_0, z_1, z_m1, z_l0, z_l1, iZ_add, iZ_sub, iZ_mul, iZ_neg, lZ_add, lZ_sub, lZ_mul, lZ_neg, z_div, z_ldiv, z_l, z_i, z_lt, z_le, z_eq, z_llt, z_lle, z_leq, z_cgt, z_cge, z_clt, z_cle, z_ceq, z_cl, z_nat, Int.toNat_natCast, mm_I, mm_J, z_cln, z_abs, z_max, z_min, z_lmax, z_lmin, z_sin, Int.cast_ofNat_Int, uI_I, uI_J, uL_I, uL_J, uA_I, uA_J, sI_eq, sI_ne, sL_eq, sL_ne, up_eq, up_ne, uL_eq, uL_ne, z_toInt, Int.reduceToNat]) <;> omega)) this)
      | succ m ih =>
        intro n I1 J1 A1 x3 hi hF hB e3 he
        subst e3
        have iw := iceW (n := n) (w := w) (h := h) (by omega) (by omega) (by omega)
        unfold iceZ at he
        refine wf (hs := [47]) 40 47 (by decide) (wF (by ((try simp (disch := omega) only [z_i8, z_i16, z_of, z_ofN, z_lofN, z_0, z_1, z_m1, z_l0, z_l1, iZ_add, iZ_sub, iZ_mul, iZ_neg, lZ_add, lZ_sub, lZ_mul, lZ_neg, z_div, z_ldiv, z_l, z_i, z_lt, z_le, z_eq, z_llt, z_lle, z_leq, z_cgt, z_cge, z_clt, z_cle, z_ceq, z_cl, z_nat, Int.toNat_natCast, mm_I, mm_J, z_cln, z_abs, z_max, z_min, z_lmax, z_lmin, z_sin, Int.cast_ofNat_Int, uI_I, uI_J, uL_I, uL_J, uA_I, uA_J, sI_eq, sI_ne, sL_eq, sL_ne, up_eq, up_ne, uL_eq, uL_ne, z_toInt, Int.reduceToNat]) <;> omega)) (And.intro rfl (c_lolls (Or.inl ⟨rfl, rfl⟩) hB hW iw (fun q => wF (by decide) ?_) (fun q => wt rfl ?_))))
        · rw [if_pos q] at he
          have := ends I1 J1 A1 hF
          rw [← he] at this
          exact this
        · rw [if_neg (by omega)] at he
          refine And.intro rfl (c_bear hB (by omega) hg.2 rfl rfl (fun J2 hB2 hJ2 => ?_))
          refine wp_keys [0, 1, 2, 3] rfl rfl ?_
          have e1 : (n : Int) * w + w = ((n + 1 : Nat) : Int) * w := by
            have : ((n + 1 : Nat) : Int) = (n : Int) + 1 := by omega
            rw [this, Int.add_mul, Int.one_mul]
          have e2 : (n : Int) * w * h + w * h = ((n + 1 : Nat) : Int) * w * h := by rw [← e1, Int.add_mul]
          rw [e1, e2] at hB2
          exact ih (n + 1) I1 J2 A1 _ (by omega) (FS_trans hF (fun a ha => ⟨rfl, hJ2 a (by omega)⟩)) hB2 (iZ_add n 1) he
    refine And.intro rfl (c_takeV hW hR (fun I1 J1 A1 hB hR1 hF => ?_))
    refine wp_keys [0, 1, 2, 3] rfl rfl ?_
    exact L 201 0 I1 J1 A1 (iZ 0) (by omega) hF (by simpa using hB) rfl hRES.symm
def crdZ (v : am_V) (w f k : Int) : Int :=
  let now := rstZ (trnZ v 0 0 (asdZ v)) (v 266 7)
  let then_ := rstZ (trnZ v 0 0 (asdZ v + 10 * (w * f))) (v 266 7)
  let a := min ((then_ - now).natAbs : Int) 90
  if k = 0 then then_ else if a = 0 then -1000000 else (w * f * 10000 / (totZ v 0 * sinZ a))
theorem sin_pos {z : Int} (h0 : 1 ≤ z) (h1 : z ≤ 90) : 1 ≤ sinZ z := by
  obtain ⟨b0, b1⟩ := sinB (z := z) (by omega) h1
  have b2 : 4000 * z * (180 - z) = 4000 * (z * (180 - z)) := Int.mul_assoc _ _ _
  have b3 : 1 * 90 ≤ z * (180 - z) := Int.mul_le_mul h0 (by omega) (by omega) (by omega)
  unfold sinZ
  rw [b2]
  exact Int.le_ediv_of_mul_le (by omega) (by omega)
def GCr (w f k : Int) : Prop := (1 ≤ w ∧ w ≤ 999) ∧ (1 ≤ f ∧ f ≤ 999) ∧ (0 ≤ k ∧ k ≤ 1)
theorem m_carriedT {w f k : Int} (hW : Wf (vI I)) (h0 : M0 I J) (hg : GCr w f k) (H : Q (some (.int (iZ (crdZ (vI I) w f k)))) (mm I J A)) : wp E (d + 6) 232 45 [(0, .ref 265), (1, .int (iZ w)), (2, .int (iZ f)), (3, .int (iZ k))] [] (mm I J A) Q := by
  obtain ⟨g1, g2, g3⟩ := hg
  have wm := M0_WM hW h0
  have l := hW.1.2.2.2.2.2.2.1
  have ab := asdB hW
  have tt := totB hW (mw := 0) ⟨by omega, by omega⟩
  have m1 := mulb (a := w) (b := f) (A := 999) (B := 999) (by omega) (by omega) (by omega) (by omega)
  have e7 := vI_eq I 266 7
  have rn := rst_rng (t := trnZ (vI I) 0 0 (asdZ (vI I))) l
  have rt := rst_rng (t := trnZ (vI I) 0 0 (asdZ (vI I) + 10 * (w * f))) l
  unfold crdZ at H
  dsimp only at H
  obtain ⟨nw, hnw⟩ : ∃ z, z = rstZ (trnZ (vI I) 0 0 (asdZ (vI I))) (vI I 266 7) := ⟨_, rfl⟩
  obtain ⟨th, hth⟩ : ∃ z, z = rstZ (trnZ (vI I) 0 0 (asdZ (vI I) + 10 * (w * f))) (vI I 266 7) := ⟨_, rfl⟩
  rw [← hnw] at rn H
  rw [← hth] at rt H
  have ed : iZ th - iZ nw = iZ (th - nw) := iZ_sub _ _
  have tail : ∀ x8 : Int32, ¬ k = 0 → x8 = iZ (min ((th - nw).natAbs : Int) 90) → wp E (d + 6) 232 124 [(0, .ref 265), (4, .long ((iZ w).toInt64 * (iZ f).toInt64)), (8, .int x8)] [] (mm I J A) Q := by
    intro x8 hk0 e8
    subst e8
    rw [if_neg hk0] at H
    generalize hm : min ((th - nw).natAbs : Int) 90 = a at H ⊢
    refine wf (hs := []) 40 124 (by decide) (And.intro (fun q => ?_) (fun q => ?_))
    · simp (disch := omega) only [z_i8, z_i16, z_of, z_ofN, z_lofN, z_0, z_1, z_m1, z_l0, z_l1, iZ_add, iZ_sub, iZ_mul, iZ_neg, lZ_add, lZ_sub, lZ_mul, lZ_neg, z_div, z_ldiv, z_l, z_i, z_lt, z_le, z_eq, z_llt, z_lle, z_leq, z_cgt, z_cge, z_clt, z_cle, z_ceq, z_cl, z_nat, Int.toNat_natCast, mm_I, mm_J, z_cln, z_abs, z_max, z_min, z_lmax, z_lmin, z_sin, Int.cast_ofNat_Int, uI_I, uI_J, uL_I, uL_J, uA_I, uA_J, sI_eq, sI_ne, sL_eq, sL_ne, up_eq, up_ne, uL_eq, uL_ne, z_toInt, Int.reduceToNat] at q
      rw [if_pos q] at H
      exact H
    · simp (disch := omega) only [z_i8, z_i16, z_of, z_ofN, z_lofN, z_0, z_1, z_m1, z_l0, z_l1, iZ_add, iZ_sub, iZ_mul, iZ_neg, lZ_add, lZ_sub, lZ_mul, lZ_neg, z_div, z_ldiv, z_l, z_i, z_lt, z_le, z_eq, z_llt, z_lle, z_leq, z_cgt, z_cge, z_clt, z_cle, z_ceq, z_cl, z_nat, Int.toNat_natCast, mm_I, mm_J, z_cln, z_abs, z_max, z_min, z_lmax, z_lmin, z_sin, Int.cast_ofNat_Int, uI_I, uI_J, uL_I, uL_J, uA_I, uA_J, sI_eq, sI_ne, sL_eq, sL_ne, up_eq, up_ne, uL_eq, uL_ne, z_toInt, Int.reduceToNat] at q
      rw [if_neg q] at H
      have sp := sin_pos (z := a) (by omega) (by omega)
      have sr := sinR (z := a) (by omega) (by omega)
      have m2 := mulb (a := totZ (vI I) 0) (b := sinZ a) (A := 2000000) (B := 1000) (by omega) tt.2 (by omega) sr.2
      have m3 : 1 * 1 ≤ totZ (vI I) 0 * sinZ a := Int.mul_le_mul tt.1 sp (by omega) (by omega)
      have d1 := Int.ediv_nonneg (a := w * f * 10000) (b := totZ (vI I) 0 * sinZ a) (by omega) (by omega)
      have d2 := Int.ediv_le_self (a := w * f * 10000) (totZ (vI I) 0 * sinZ a) (by omega)
      have et : totZ (vI I) (vI I 265 25) = totZ (vI I) 0 := by rw [h0.1]
      have ev : ((iZ w).toInt64 * (iZ f).toInt64 * Int64.ofNat 10000 / ((iZ (totZ (vI I) (vI I 265 25))).toInt64 * (iZ (sinZ a)).toInt64)).toInt32 = iZ (w * f * 10000 / (totZ (vI I) 0 * sinZ a)) := by
        rw [et]; simp (disch := omega) only [z_i8, z_i16, z_of, z_ofN, z_lofN, z_0, z_1, z_m1, z_l0, z_l1, iZ_add, iZ_sub, iZ_mul, iZ_neg, lZ_add, lZ_sub, lZ_mul, lZ_neg, z_div, z_ldiv, z_l, z_i, z_lt, z_le, z_eq, z_llt, z_lle, z_leq, z_cgt, z_cge, z_clt, z_cle, z_ceq, z_cl, z_nat, Int.toNat_natCast, mm_I, mm_J, z_cln, z_abs, z_max, z_min, z_lmax, z_lmin, z_sin, Int.cast_ofNat_Int, uI_I, uI_J, uL_I, uL_J, uA_I, uA_J, sI_eq, sI_ne, sL_eq, sL_ne, up_eq, up_ne, uL_eq, uL_ne, z_toInt, Int.reduceToNat]
      have ne : ¬ (iZ (totZ (vI I) (vI I 265 25))).toInt64 * (iZ (sinZ a)).toInt64 = 0 := by
        rw [et]; simp (disch := omega) only [z_i8, z_i16, z_of, z_ofN, z_lofN, z_0, z_1, z_m1, z_l0, z_l1, iZ_add, iZ_sub, iZ_mul, iZ_neg, lZ_add, lZ_sub, lZ_mul, lZ_neg, z_div, z_ldiv, z_l, z_i, z_lt, z_le, z_eq, z_llt, z_lle, z_leq, z_cgt, z_cge, z_clt, z_cle, z_ceq, z_cl, z_nat, Int.toNat_natCast, mm_I, mm_J, z_cln, z_abs, z_max, z_min, z_lmax, z_lmin, z_sin, Int.cast_ofNat_Int, uI_I, uI_J, uL_I, uL_J, uA_I, uA_J, sI_eq, sI_ne, sL_eq, sL_ne, up_eq, up_ne, uL_eq, uL_ne, z_toInt, Int.reduceToNat]; omega
      refine And.intro rfl (m_total hW.1 (And.intro rfl (m_sineE rfl (by omega) (by omega) (And.intro ne (q_i H ev)))))
  have S96 : ¬ k = 0 → wp E (d + 6) 232 96 [(0, .ref 265), (4, .long ((iZ w).toInt64 * (iZ f).toInt64)), (6, .int (iZ nw)), (7, .int (iZ th))] [] (mm I J A) Q := by
    intro hk0
    refine wf (hs := [124]) 40 96 (by decide) (And.intro rfl (m_withoutE ed ⟨by omega, by omega⟩ (And.intro (fun q2 => ?_) (fun q2 => ?_))))
    · simp (disch := omega) only [z_i8, z_i16, z_of, z_ofN, z_lofN, z_0, z_1, z_m1, z_l0, z_l1, iZ_add, iZ_sub, iZ_mul, iZ_neg, lZ_add, lZ_sub, lZ_mul, lZ_neg, z_div, z_ldiv, z_l, z_i, z_lt, z_le, z_eq, z_llt, z_lle, z_leq, z_cgt, z_cge, z_clt, z_cle, z_ceq, z_cl, z_nat, Int.toNat_natCast, mm_I, mm_J, z_cln, z_abs, z_max, z_min, z_lmax, z_lmin, z_sin, Int.cast_ofNat_Int, uI_I, uI_J, uL_I, uL_J, uA_I, uA_J, sI_eq, sI_ne, sL_eq, sL_ne, up_eq, up_ne, uL_eq, uL_ne, z_toInt, Int.reduceToNat] at q2
      refine And.intro rfl (m_withoutE ed ⟨by omega, by omega⟩ ?_)
      refine wp_keys [0, 4, 8] rfl rfl ?_
      exact tail _ hk0 (by congr 1; omega)
    · simp (disch := omega) only [z_i8, z_i16, z_of, z_ofN, z_lofN, z_0, z_1, z_m1, z_l0, z_l1, iZ_add, iZ_sub, iZ_mul, iZ_neg, lZ_add, lZ_sub, lZ_mul, lZ_neg, z_div, z_ldiv, z_l, z_i, z_lt, z_le, z_eq, z_llt, z_lle, z_leq, z_cgt, z_cge, z_clt, z_cle, z_ceq, z_cl, z_nat, Int.toNat_natCast, mm_I, mm_J, z_cln, z_abs, z_max, z_min, z_lmax, z_lmin, z_sin, Int.cast_ofNat_Int, uI_I, uI_J, uL_I, uL_J, uA_I, uA_J, sI_eq, sI_ne, sL_eq, sL_ne, up_eq, up_ne, uL_eq, uL_ne, z_toInt, Int.reduceToNat] at q2
      refine wp_keys [0, 4, 8] rfl rfl ?_
      exact tail _ hk0 (by show iZ 90 = _; congr 1; omega)
  have S65 : wp E (d + 6) 232 65 [(0, .ref 265), (3, .int (iZ k)), (4, .long ((iZ w).toInt64 * (iZ f).toInt64)), (6, .int (iZ nw))] [] (mm I J A) Q := by
    have ea : lZ (asdZ (vI I)) + lZ 10 * ((iZ w).toInt64 * (iZ f).toInt64) = lZ (asdZ (vI I) + 10 * (w * f)) := by simp (disch := omega) only [z_i8, z_i16, z_of, z_ofN, z_lofN, z_0, z_1, z_m1, z_l0, z_l1, iZ_add, iZ_sub, iZ_mul, iZ_neg, lZ_add, lZ_sub, lZ_mul, lZ_neg, z_div, z_ldiv, z_l, z_i, z_lt, z_le, z_eq, z_llt, z_lle, z_leq, z_cgt, z_cge, z_clt, z_cle, z_ceq, z_cl, z_nat, Int.toNat_natCast, mm_I, mm_J, z_cln, z_abs, z_max, z_min, z_lmax, z_lmin, z_sin, Int.cast_ofNat_Int, uI_I, uI_J, uL_I, uL_J, uA_I, uA_J, sI_eq, sI_ne, sL_eq, sL_ne, up_eq, up_ne, uL_eq, uL_ne, z_toInt, Int.reduceToNat]
    have rb := m_restBy (E := E) (d := d + 1) (A := A) (a := asdZ (vI I) + 10 * (w * f)) (z := vI I 266 7) (Q := fun r M => r = some (.int (iZ th)) ∧ M = mm I J A) wm ⟨by omega, by omega⟩ l ⟨by rw [M0_tM h0, hth], rfl⟩
    rw [← ea, ← e7] at rb
    refine wf (hs := [96]) 40 65 (by decide) (And.intro rfl (m_asideNow hW (And.intro (inL (by decide)) (And.intro rfl (wpC_mono rb (fun r M hh => ?_))))))
    obtain ⟨rfl, rfl⟩ := hh
    refine And.intro (fun q => ?_) (fun q => ?_)
    · simp (disch := omega) only [z_i8, z_i16, z_of, z_ofN, z_lofN, z_0, z_1, z_m1, z_l0, z_l1, iZ_add, iZ_sub, iZ_mul, iZ_neg, lZ_add, lZ_sub, lZ_mul, lZ_neg, z_div, z_ldiv, z_l, z_i, z_lt, z_le, z_eq, z_llt, z_lle, z_leq, z_cgt, z_cge, z_clt, z_cle, z_ceq, z_cl, z_nat, Int.toNat_natCast, mm_I, mm_J, z_cln, z_abs, z_max, z_min, z_lmax, z_lmin, z_sin, Int.cast_ofNat_Int, uI_I, uI_J, uL_I, uL_J, uA_I, uA_J, sI_eq, sI_ne, sL_eq, sL_ne, up_eq, up_ne, uL_eq, uL_ne, z_toInt, Int.reduceToNat] at q
      rw [if_pos q] at H
      exact H
    · simp (disch := omega) only [z_i8, z_i16, z_of, z_ofN, z_lofN, z_0, z_1, z_m1, z_l0, z_l1, iZ_add, iZ_sub, iZ_mul, iZ_neg, lZ_add, lZ_sub, lZ_mul, lZ_neg, z_div, z_ldiv, z_l, z_i, z_lt, z_le, z_eq, z_llt, z_lle, z_leq, z_cgt, z_cge, z_clt, z_cle, z_ceq, z_cl, z_nat, Int.toNat_natCast, mm_I, mm_J, z_cln, z_abs, z_max, z_min, z_lmax, z_lmin, z_sin, Int.cast_ofNat_Int, uI_I, uI_J, uL_I, uL_J, uA_I, uA_J, sI_eq, sI_ne, sL_eq, sL_ne, up_eq, up_ne, uL_eq, uL_ne, z_toInt, Int.reduceToNat] at q
      refine wp_keys [0, 4, 6, 7] rfl rfl ?_
      exact S96 q
  refine wf (hs := [65]) 40 45 (by decide) (And.intro (inL (by decide)) (And.intro rfl (m_restFromE (z := vI I 266 7) e7 wm l ?_)))
  rw [M0_tM h0, ← hnw]
  refine wp_keys [0, 3, 4, 6] rfl rfl ?_
  exact S65
theorem crd_cut (v : am_V) (w f k : Int) : crdZ (cutV v) w f k = crdZ v w f k := by
  have a1 : asdZ (cutV v) = asdZ v := rfl
  have a2 : ∀ m, trnZ (cutV v) 0 0 m = trnZ v 0 0 m := fun _ => rfl
  have a3 : totZ (cutV v) 0 = totZ v 0 := rfl
  have a4 : cutV v 266 7 = v 266 7 := rfl
  unfold crdZ
  dsimp only
  rw [a1, a2, a2, a3, a4]
theorem m_carried1 {w f k : Int} (hk : -2147483648 ≤ k ∧ k ≤ 2147483647) (h1 : 0 ≤ k ∧ k ≤ 1 → wp E (d + 6) 232 45 [(0, .ref 265), (1, .int (iZ w)), (2, .int (iZ f)), (3, .int (iZ k))] [] (mm I J A) Q) (F : ¬ (0 ≤ k ∧ k ≤ 1) → Q (some (.int (Int32.ofNat 4292967296))) (mm I J A)) : wp E (d + 6) 232 31 [(0, .ref 265), (1, .int (iZ w)), (2, .int (iZ f)), (3, .int (iZ k))] [] (mm I J A) Q := by
  refine wf (hs := [45]) 40 31 (by decide) (And.intro rfl (mW (z := k) (lo := 0) (hi := 1) (z_l (by omega) (by omega)) rfl rfl (by omega) (by omega) (by omega) (fun g => wF (by decide) ?_) (fun g => wt rfl (F g))))
  refine wp_keys [0, 1, 2, 3] rfl rfl ?_
  exact h1 g
theorem m_carried2 {w f k : Int} (hf : -2147483648 ≤ f ∧ f ≤ 2147483647) (h1 : 1 ≤ f ∧ f ≤ 999 → wp E (d + 6) 232 31 [(0, .ref 265), (1, .int (iZ w)), (2, .int (iZ f)), (3, .int (iZ k))] [] (mm I J A) Q) (F : ¬ (1 ≤ f ∧ f ≤ 999) → Q (some (.int (Int32.ofNat 4292967296))) (mm I J A)) : wp E (d + 6) 232 19 [(0, .ref 265), (1, .int (iZ w)), (2, .int (iZ f)), (3, .int (iZ k))] [] (mm I J A) Q := by
  refine wf (hs := [31]) 40 19 (by decide) (And.intro rfl (mW (z := f) (lo := 1) (hi := 999) (z_l (by omega) (by omega)) rfl rfl (by omega) (by omega) (by omega) (fun g => wF (by decide) ?_) (fun g => wt rfl (F g))))
  refine wp_keys [0, 1, 2, 3] rfl rfl ?_
  exact h1 g
theorem m_carried {w f k : Int} (hV : Vm I) (h0 : M0 I J) (hw : -2147483648 ≤ w ∧ w ≤ 2147483647) (hf : -2147483648 ≤ f ∧ f ≤ 2147483647) (hk : -2147483648 ≤ k ∧ k ≤ 2147483647) (h1 : I 266 0 = 1 → GCr w f k → Q (some (.int (iZ (crdZ (vC I) w f k)))) (mm I J A)) (hn : ¬ (I 266 0 = 1 ∧ GCr w f k) → Q (some (.int (Int32.ofNat 4292967296))) (mm I J A)) : wpC E (d + 6) 232 [.ref 265, .int (iZ w), .int (iZ f), .int (iZ k)] (mm I J A) Q := by
  refine wc (hs := [19]) 40 (by decide) (And.intro rfl (m_isShip (fun p => wF (by decide) ?_) (fun p => wt rfl (hn fun q => p q.1))))
  have F : ¬ GCr w f k → Q (some (.int (Int32.ofNat 4292967296))) (mm I J A) := fun q => hn fun r => q r.2
  unfold GCr at F
  refine And.intro rfl (mW (z := w) (lo := 1) (hi := 999) (z_l (by omega) (by omega)) rfl rfl (by omega) (by omega) (by omega) (fun g => wF (by decide) ?_) (fun g => wt rfl (F (by omega))))
  refine wp_keys [0, 1, 2, 3] rfl rfl ?_
  refine m_carried2 hf (fun g => ?_) (fun g => F (by omega))
  refine m_carried1 hk (fun g => ?_) (fun g => F (by omega))
  have hg : GCr w f k := by unfold GCr; omega
  have z := h1 p hg
  unfold vC at z
  rw [crd_cut] at z
  exact m_carriedT (hV p).1 h0 hg z
theorem op_carried {w f k : Int} (h : Inv I J) (hw : -2147483648 ≤ w ∧ w ≤ 2147483647) (hf : -2147483648 ≤ f ∧ f ≤ 2147483647) (hk : -2147483648 ≤ k ∧ k ≤ 2147483647) : wpC E (d + 7) 111 [.ref 0, .int (iZ w), .int (iZ f), .int (iZ k)] (mm I J A) (QI E (d + 7) 232 [.int (iZ w), .int (iZ f), .int (iZ k)]) := by
  have F' : ¬ (I 266 0 = 1 ∧ GCr w f k) → QI E (d + 7) 232 [.int (iZ w), .int (iZ f), .int (iZ k)] (some (.int (Int32.ofNat 4292967296))) (mm I J A) := fun q => rd_mk h FS_refl (m_carried (Vs_m h.1) h.2.2.2.2.1 hw hf hk (fun p1 p2 => absurd ⟨p1, p2⟩ q) (fun _ => ⟨rfl, rfl⟩))
  rcases h.1 with ⟨g0, g1⟩ | ⟨g0, hW, hH, hR, h8⟩
  · exact wc (hs := []) 20 (by decide) (wt g1 (F' fun q => by rw [q.1] at g0; cases g0))
  · have b1 : ¬ I 1 0 = 0 := by have : I 1 0 = 1 := hR.1.1; rw [this]; decide
    have F : ¬ GCr w f k → QI E (d + 7) 232 [.int (iZ w), .int (iZ f), .int (iZ k)] (some (.int (Int32.ofNat 4292967296))) (mm I J A) := fun q => F' fun r => q r.2
    unfold GCr at F
    refine wc (hs := [45]) 40 (by decide) (wF b1 ?_)
    refine And.intro rfl (cW (z := w) (lo := 1) (hi := 999) rfl rfl rfl (by omega) (by omega) (by omega) (fun g => wF (by decide) ?_) (fun g => wt rfl (F (by omega))))
    refine And.intro rfl (cW (z := f) (lo := 1) (hi := 999) rfl rfl rfl (by omega) (by omega) (by omega) (fun g => wF (by decide) ?_) (fun g => wt rfl (F (by omega))))
    refine And.intro rfl (cW (z := k) (lo := 0) (hi := 1) rfl rfl rfl (by omega) (by omega) (by omega) (fun g => wF (by decide) ?_) (fun g => wt rfl (F (by omega))))
    have hg : GCr w f k := by unfold GCr; omega
    obtain ⟨RES, hRES⟩ : ∃ R, R = crdZ (vC I) w f k := ⟨_, rfl⟩
    have ends : ∀ I1 J1 A1, FS I J I1 J1 → QI E (d + 7) 232 [.int (iZ w), .int (iZ f), .int (iZ k)] (some (.int (iZ RES))) (mm I1 J1 A1) := fun I1 J1 A1 hF => rd_mk h hF (m_carried (FS_m hF h).1 (FS_m hF h).2 hw hf hk (fun _ _ => ⟨by rw [FS_v hF, hRES], rfl⟩) (fun q => absurd ⟨(FS_0 hF).trans g0, hg⟩ q))
    obtain ⟨h1, h2, h3⟩ := id hg
    have l := hW.1.2.2.2.2.2.2.1
    have ab := asdB hW
    have tt := totB hW (mw := 0) ⟨by omega, by omega⟩
    have m1 := mulb (a := w) (b := f) (A := 999) (B := 999) (by omega) (by omega) (by omega) (by omega)
    have rn := rst_rng (t := trnZ (vC I) 0 0 (asdZ (vC I))) l
    have rt := rst_rng (t := trnZ (vC I) 0 0 (asdZ (vC I) + 10 * (w * f))) l
    unfold crdZ at hRES
    dsimp only at hRES
    obtain ⟨nw, hnw⟩ : ∃ z, z = rstZ (trnZ (vC I) 0 0 (asdZ (vC I))) (vC I 266 7) := ⟨_, rfl⟩
    obtain ⟨th, hth⟩ : ∃ z, z = rstZ (trnZ (vC I) 0 0 (asdZ (vC I) + 10 * (w * f))) (vC I 266 7) := ⟨_, rfl⟩
    rw [← hnw] at rn hRES
    rw [← hth] at rt hRES
    have S139 : ∀ (I1 : Nat → Nat → Int32) (J1 : Nat → Nat → Int64) (A1 : Nat → Option Nat) (x8 : Int32), ¬ k = 0 → FS I J I1 J1 → J1 236 2 = lZ (totZ (vC I) 0) → x8 = iZ (min ((th - nw).natAbs : Int) 90) → wp E (d + 7) 111 139 [(0, .ref 0), (5, .long ((iZ w).toInt64 * (iZ f).toInt64 * lZ 10)), (8, .int x8)] [] (mm I1 J1 A1) (QI E (d + 7) 232 [.int (iZ w), .int (iZ f), .int (iZ k)]) := by
      intro I1 J1 A1 x8 hk0 hF e2 e8
      subst e8
      have en := ends I1 J1 A1 hF
      rw [if_neg hk0] at hRES
      generalize hm : min ((th - nw).natAbs : Int) 90 = a at hRES ⊢
      have sr := sinR (z := a) (by omega) (by omega)
      have m2 := mulb (a := totZ (vC I) 0) (b := sinZ a) (A := 2000000) (B := 1000) (by omega) tt.2 sr.1 sr.2
      have es : am_sin (iZ a).toNatClampNeg = iZ (sinZ a) := by rw [z_cl (by omega) (by omega)]; exact z_sin (by omega) (by omega)
      have eg : J1 236 2 * (am_sin (iZ a).toNatClampNeg).toInt64 = lZ (totZ (vC I) 0 * sinZ a) := by rw [e2, es]; simp (disch := omega) only [z_i8, z_i16, z_of, z_ofN, z_lofN, z_0, z_1, z_m1, z_l0, z_l1, iZ_add, iZ_sub, iZ_mul, iZ_neg, lZ_add, lZ_sub, lZ_mul, lZ_neg, z_div, z_ldiv, z_l, z_i, z_lt, z_le, z_eq, z_llt, z_lle, z_leq, z_cgt, z_cge, z_clt, z_cle, z_ceq, z_cl, z_nat, Int.toNat_natCast, mm_I, mm_J, z_cln, z_abs, z_max, z_min, z_lmax, z_lmin, z_sin, Int.cast_ofNat_Int, uI_I, uI_J, uL_I, uL_J, uA_I, uA_J, sI_eq, sI_ne, sL_eq, sL_ne, up_eq, up_ne, uL_eq, uL_ne, z_toInt, Int.reduceToNat]
      refine wf (hs := []) 40 139 (by decide) (And.intro (z_in (by omega) (by omega) (by omega)) (And.intro (fun q => ?_) (fun q => ?_)))
      · have q : 0 < lg_cmp (J1 236 2 * (am_sin (iZ a).toNatClampNeg).toInt64) (lZ 0) := q
        rw [eg] at q
        have q : iZ 0 < lg_cmp (lZ (totZ (vC I) 0 * sinZ a)) (lZ 0) := q
        simp (disch := omega) only [z_i8, z_i16, z_of, z_ofN, z_lofN, z_0, z_1, z_m1, z_l0, z_l1, iZ_add, iZ_sub, iZ_mul, iZ_neg, lZ_add, lZ_sub, lZ_mul, lZ_neg, z_div, z_ldiv, z_l, z_i, z_lt, z_le, z_eq, z_llt, z_lle, z_leq, z_cgt, z_cge, z_clt, z_cle, z_ceq, z_cl, z_nat, Int.toNat_natCast, mm_I, mm_J, z_cln, z_abs, z_max, z_min, z_lmax, z_lmin, z_sin, Int.cast_ofNat_Int, uI_I, uI_J, uL_I, uL_J, uA_I, uA_J, sI_eq, sI_ne, sL_eq, sL_ne, up_eq, up_ne, uL_eq, uL_ne, z_toInt, Int.reduceToNat] at q
        have ha : ¬ a = 0 := fun e => by
          have : sinZ a = 0 := by rw [e]; decide
          rw [this, Int.mul_zero] at q
          omega
        rw [if_neg ha] at hRES
        have d1 := Int.ediv_nonneg (a := w * f * 10000) (b := totZ (vC I) 0 * sinZ a) (by omega) (by omega)
        have d2 := Int.ediv_le_self (a := w * f * 10000) (totZ (vC I) 0 * sinZ a) (by omega)
        have ev : ((iZ w).toInt64 * (iZ f).toInt64 * lZ 10 * Int64.ofNat 1000 / (J1 236 2 * (am_sin (iZ a).toNatClampNeg).toInt64)).toInt32 = iZ RES := by
          rw [eg, hRES]
          have e4 : (iZ w).toInt64 * (iZ f).toInt64 * lZ 10 * Int64.ofNat 1000 = lZ (w * f * 10000) := by
            simp (disch := omega) only [z_i8, z_i16, z_of, z_ofN, z_lofN, z_0, z_1, z_m1, z_l0, z_l1, iZ_add, iZ_sub, iZ_mul, iZ_neg, lZ_add, lZ_sub, lZ_mul, lZ_neg, z_div, z_ldiv, z_l, z_i, z_lt, z_le, z_eq, z_llt, z_lle, z_leq, z_cgt, z_cge, z_clt, z_cle, z_ceq, z_cl, z_nat, Int.toNat_natCast, mm_I, mm_J, z_cln, z_abs, z_max, z_min, z_lmax, z_lmin, z_sin, Int.cast_ofNat_Int, uI_I, uI_J, uL_I, uL_J, uA_I, uA_J, sI_eq, sI_ne, sL_eq, sL_ne, up_eq, up_ne, uL_eq, uL_ne, z_toInt, Int.reduceToNat]
            omega
          rw [e4]
          simp (disch := omega) only [z_i8, z_i16, z_of, z_ofN, z_lofN, z_0, z_1, z_m1, z_l0, z_l1, iZ_add, iZ_sub, iZ_mul, iZ_neg, lZ_add, lZ_sub, lZ_mul, lZ_neg, z_div, z_ldiv, z_l, z_i, z_lt, z_le, z_eq, z_llt, z_lle, z_leq, z_cgt, z_cge, z_clt, z_cle, z_ceq, z_cl, z_nat, Int.toNat_natCast, mm_I, mm_J, z_cln, z_abs, z_max, z_min, z_lmax, z_lmin, z_sin, Int.cast_ofNat_Int, uI_I, uI_J, uL_I, uL_J, uA_I, uA_J, sI_eq, sI_ne, sL_eq, sL_ne, up_eq, up_ne, uL_eq, uL_ne, z_toInt, Int.reduceToNat]
        have ne : ¬ J1 236 2 * (am_sin (iZ a).toNatClampNeg).toInt64 = 0 := by
          rw [eg]; simp (disch := omega) only [z_i8, z_i16, z_of, z_ofN, z_lofN, z_0, z_1, z_m1, z_l0, z_l1, iZ_add, iZ_sub, iZ_mul, iZ_neg, lZ_add, lZ_sub, lZ_mul, lZ_neg, z_div, z_ldiv, z_l, z_i, z_lt, z_le, z_eq, z_llt, z_lle, z_leq, z_cgt, z_cge, z_clt, z_cle, z_ceq, z_cl, z_nat, Int.toNat_natCast, mm_I, mm_J, z_cln, z_abs, z_max, z_min, z_lmax, z_lmin, z_sin, Int.cast_ofNat_Int, uI_I, uI_J, uL_I, uL_J, uA_I, uA_J, sI_eq, sI_ne, sL_eq, sL_ne, up_eq, up_ne, uL_eq, uL_ne, z_toInt, Int.reduceToNat]; omega
        exact And.intro ne (q_i en ev)
      · have q : ¬ 0 < lg_cmp (J1 236 2 * (am_sin (iZ a).toNatClampNeg).toInt64) (lZ 0) := q
        rw [eg] at q
        have q : ¬ iZ 0 < lg_cmp (lZ (totZ (vC I) 0 * sinZ a)) (lZ 0) := q
        simp (disch := omega) only [z_i8, z_i16, z_of, z_ofN, z_lofN, z_0, z_1, z_m1, z_l0, z_l1, iZ_add, iZ_sub, iZ_mul, iZ_neg, lZ_add, lZ_sub, lZ_mul, lZ_neg, z_div, z_ldiv, z_l, z_i, z_lt, z_le, z_eq, z_llt, z_lle, z_leq, z_cgt, z_cge, z_clt, z_cle, z_ceq, z_cl, z_nat, Int.toNat_natCast, mm_I, mm_J, z_cln, z_abs, z_max, z_min, z_lmax, z_lmin, z_sin, Int.cast_ofNat_Int, uI_I, uI_J, uL_I, uL_J, uA_I, uA_J, sI_eq, sI_ne, sL_eq, sL_ne, up_eq, up_ne, uL_eq, uL_ne, z_toInt, Int.reduceToNat] at q
        have ha : a = 0 := by
          rcases Int.lt_or_le 0 a with z | z
          · have sp := sin_pos (z := a) (by omega) (by omega)
            have m3 : 1 * 1 ≤ totZ (vC I) 0 * sinZ a := Int.mul_le_mul tt.1 sp (by omega) (by omega)
            omega
          · omega
        rw [if_pos ha] at hRES
        rw [hRES] at en
        exact en
    have S85 : ∀ (I1 : Nat → Nat → Int32) (J1 : Nat → Nat → Int64) (A1 : Nat → Option Nat), FS I J I1 J1 → RS I1 J1 1 (vC I) → RB I1 J1 A1 236 1 (vC I) 0 0 (asdZ (vC I)) → wp E (d + 7) 111 85 [(0, .ref 0), (3, .int (iZ k)), (4, .int (iZ nw)), (5, .long ((iZ w).toInt64 * (iZ f).toInt64 * lZ 10))] [] (mm I1 J1 A1) (QI E (d + 7) 232 [.int (iZ w), .int (iZ f), .int (iZ k)]) := by
      intro I1 J1 A1 hF hR1 hB
      have e4 := hB.2.2.2.2.1
      have ea : J1 236 4 + (iZ w).toInt64 * (iZ f).toInt64 * lZ 10 = lZ (asdZ (vC I) + 10 * (w * f)) := by
        rw [e4]; simp (disch := omega) only [z_i8, z_i16, z_of, z_ofN, z_lofN, z_0, z_1, z_m1, z_l0, z_l1, iZ_add, iZ_sub, iZ_mul, iZ_neg, lZ_add, lZ_sub, lZ_mul, lZ_neg, z_div, z_ldiv, z_l, z_i, z_lt, z_le, z_eq, z_llt, z_lle, z_leq, z_cgt, z_cge, z_clt, z_cle, z_ceq, z_cl, z_nat, Int.toNat_natCast, mm_I, mm_J, z_cln, z_abs, z_max, z_min, z_lmax, z_lmin, z_sin, Int.cast_ofNat_Int, uI_I, uI_J, uL_I, uL_J, uA_I, uA_J, sI_eq, sI_ne, sL_eq, sL_ne, up_eq, up_ne, uL_eq, uL_ne, z_toInt, Int.reduceToNat]; omega
      have hB2 := RB_mom (m := asdZ (vC I) + 10 * (w * f)) ea hB
      have hF2 : FS I J I1 (setL J1 236 4 (J1 236 4 + (iZ w).toInt64 * (iZ f).toInt64 * lZ 10)) := FS_trans hF (fun a ha => ⟨rfl, by funext j; rw [setL_at, if_neg (by omega)]⟩)
      have rf := c_restFrom (E := E) (d := d + 3) (z := vC I 266 7) (N := 120) (x := I1 1 7) (y := iZ 120) (Q := fun r M => r = some (.int (iZ th)) ∧ M = mm I1 (setL J1 236 4 (J1 236 4 + (iZ w).toInt64 * (iZ f).toInt64 * lZ 10)) A1) (Or.inl ⟨rfl, rfl⟩) hB2 hW WW0 ⟨by omega, by omega⟩ (by omega) l hR1.1.2.2.2.2.2.2.2.1 rfl ⟨by rw [hth]; rfl, rfl⟩
      refine wf (hs := [139]) 60 85 (by decide) (And.intro rfl (wpC_mono rf (fun r M hh => ?_)))
      obtain ⟨rfl, rfl⟩ := hh
      refine And.intro (fun q => ?_) (fun q => ?_)
      · simp (disch := omega) only [z_i8, z_i16, z_of, z_ofN, z_lofN, z_0, z_1, z_m1, z_l0, z_l1, iZ_add, iZ_sub, iZ_mul, iZ_neg, lZ_add, lZ_sub, lZ_mul, lZ_neg, z_div, z_ldiv, z_l, z_i, z_lt, z_le, z_eq, z_llt, z_lle, z_leq, z_cgt, z_cge, z_clt, z_cle, z_ceq, z_cl, z_nat, Int.toNat_natCast, mm_I, mm_J, z_cln, z_abs, z_max, z_min, z_lmax, z_lmin, z_sin, Int.cast_ofNat_Int, uI_I, uI_J, uL_I, uL_J, uA_I, uA_J, sI_eq, sI_ne, sL_eq, sL_ne, up_eq, up_ne, uL_eq, uL_ne, z_toInt, Int.reduceToNat] at q
        rw [if_pos q] at hRES
        have en := ends I1 _ A1 hF2
        rw [hRES] at en
        exact en
      · simp (disch := omega) only [z_i8, z_i16, z_of, z_ofN, z_lofN, z_0, z_1, z_m1, z_l0, z_l1, iZ_add, iZ_sub, iZ_mul, iZ_neg, lZ_add, lZ_sub, lZ_mul, lZ_neg, z_div, z_ldiv, z_l, z_i, z_lt, z_le, z_eq, z_llt, z_lle, z_leq, z_cgt, z_cge, z_clt, z_cle, z_ceq, z_cl, z_nat, Int.toNat_natCast, mm_I, mm_J, z_cln, z_abs, z_max, z_min, z_lmax, z_lmin, z_sin, Int.cast_ofNat_Int, uI_I, uI_J, uL_I, uL_J, uA_I, uA_J, sI_eq, sI_ne, sL_eq, sL_ne, up_eq, up_ne, uL_eq, uL_ne, z_toInt, Int.reduceToNat] at q
        have em : (if iZ 90 < (if 0 ≤ iZ th - iZ nw then iZ th - iZ nw else 0 - (iZ th - iZ nw)) then iZ 90 else (if 0 ≤ iZ th - iZ nw then iZ th - iZ nw else 0 - (iZ th - iZ nw))) = iZ (min ((th - nw).natAbs : Int) 90) := by
          show (if iZ 90 < (if iZ 0 ≤ iZ th - iZ nw then iZ th - iZ nw else iZ 0 - (iZ th - iZ nw)) then iZ 90 else (if iZ 0 ≤ iZ th - iZ nw then iZ th - iZ nw else iZ 0 - (iZ th - iZ nw))) = iZ (min ((th - nw).natAbs : Int) 90)
          simp (disch := omega) only [z_i8, z_i16, z_of, z_ofN, z_lofN, z_0, z_1, z_m1, z_l0, z_l1, iZ_add, iZ_sub, iZ_mul, iZ_neg, lZ_add, lZ_sub, lZ_mul, lZ_neg, z_div, z_ldiv, z_l, z_i, z_lt, z_le, z_eq, z_llt, z_lle, z_leq, z_cgt, z_cge, z_clt, z_cle, z_ceq, z_cl, z_nat, Int.toNat_natCast, mm_I, mm_J, z_cln, z_abs, z_max, z_min, z_lmax, z_lmin, z_sin, Int.cast_ofNat_Int, uI_I, uI_J, uL_I, uL_J, uA_I, uA_J, sI_eq, sI_ne, sL_eq, sL_ne, up_eq, up_ne, uL_eq, uL_ne, z_toInt, Int.reduceToNat]
        refine wp_keys [0, 5, 8] rfl rfl ?_
        exact S139 I1 _ A1 _ q hF2 (by rw [setL_at, if_neg (by omega)]; exact hB.2.2.1) em
    refine wp_keys [0, 1, 2, 3] rfl rfl ?_
    refine wf (hs := [85]) 40 45 (by decide) (And.intro rfl (c_takeV hW hR (fun I1 J1 A1 hB hR1 hF => ?_)))
    refine And.intro rfl (c_restFrom (z := vC I 266 7) (N := 120) (Or.inl ⟨rfl, rfl⟩) hB hW WW0 ⟨by omega, by omega⟩ (by omega) l hR1.1.2.2.2.2.2.2.2.1 rfl ?_)
    have e : wkN (trnZ (vC I) 0 0 (asdZ (vC I))) 120 (vC I 266 7) = nw := by rw [hnw]; rfl
    rw [e]
    refine wp_keys [0, 3, 4, 5] rfl rfl ?_
    exact S85 I1 J1 A1 hF hR1 hB
end ICE
