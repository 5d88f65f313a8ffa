/-! ===== the class reads signs, the whole text ===== -/
def tg46 (c : Nat) : Nat := if c = 42 then 98 else if c = 43 then 92 else if c = 45 then 95 else if c = 47 then 101 else if c = 59 then 131 else if c = 60 then 104 else if c = 61 then 116 else if c = 62 then 119 else if c = 91 then 134 else if c = 93 then 137 else 140
set_option maxRecDepth 100000 in
theorem b46' : ∀ c, c < 256 → (am_b (.lookupswitch 139 #[(42, 97), (43, 91), (45, 94), (47, 100), (59, 130), (60, 103), (61, 115), (62, 118), (91, 133), (93, 136)]) 1 [.int (nI c)]).map (fun q => (q.1, q.2.length)) = some (tg46 c, 0) := by decide +kernel
theorem b46 {c : Nat} (h : c < 256) : am_b (.lookupswitch 139 #[(42, 97), (43, 91), (45, 94), (47, 100), (59, 130), (60, 103), (61, 115), (62, 118), (91, 133), (93, 136)]) 1 [.int (iZ (c : Int))] = some (tg46 c, []) := by
  rw [iZ_nat]
  have := b46' c h
  cases e : am_b (.lookupswitch 139 #[(42, 97), (43, 91), (45, 94), (47, 100), (59, 130), (60, 103), (61, 115), (62, 118), (91, 133), (93, 136)]) 1 [.int (nI c)] with
  | none => rw [e] at this; cases this
  | some q =>
    rw [e] at this
    obtain ⟨q1, q2⟩ := q
    simp only [Option.map_some, Option.some.injEq, Prod.mk.injEq] at this
    rw [this.1, List.eq_nil_of_length_eq_zero this.2]
section SCAN2
variable {E : Nat × (Nat → Int32)} {d : Nat} {I I0 I1 : Nat → Nat → Int32} {J : Nat → Nat → Int64} {A : Nat → Option Nat} {Q : Option Value → am_M → Prop} {M : am_M} {T : Nat → Int} {t p : Nat}
theorem c_signOf {c : Int} {eb : Bool} {x y : Int32} (hc : 0 ≤ c ∧ c ≤ 255) (ex : x = iZ c) (ey : y = iZ (tB eb)) (hQ : Q (some (.int (iZ (sgn c eb)))) M) : wpC E d 46 [.int x, .int y] M Q := by
  subst ex; subst ey
  obtain ⟨n, hn, rfl⟩ : ∃ n : Nat, n < 256 ∧ c = n := ⟨c.toNat, by omega, by omega⟩
  refine wc (hs := [1]) 10 (by decide) ?_
  have T : wp E d 46 (tg46 n) [(0, .int (iZ (n : Int))), (1, .int (iZ (tB eb)))] [] M Q := by
    unfold tg46
    unfold sgn at hQ
    by_cases c1 : n = 42
    · rw [if_pos c1]; rw [if_neg (by omega), if_neg (by omega), if_pos (by omega)] at hQ
      exact wf (hs := []) 10 98 (by decide) hQ
    rw [if_neg c1]
    by_cases c2 : n = 43
    · rw [if_pos c2]; rw [if_pos (by omega)] at hQ
      exact wf (hs := []) 10 92 (by decide) hQ
    rw [if_neg c2]
    by_cases c3 : n = 45
    · rw [if_pos c3]; rw [if_neg (by omega), if_pos (by omega)] at hQ
      exact wf (hs := []) 10 95 (by decide) hQ
    rw [if_neg c3]
    by_cases c4 : n = 47
    · rw [if_pos c4]; rw [if_neg (by omega), if_neg (by omega), if_neg (by omega), if_pos (by omega)] at hQ
      exact wf (hs := []) 10 101 (by decide) hQ
    rw [if_neg c4]
    rw [if_neg (by omega), if_neg (by omega), if_neg (by omega), if_neg (by omega)] at hQ
    by_cases c5 : n = 59
    · rw [if_pos c5]; rw [if_neg (by omega), if_neg (by omega), if_neg (by omega), if_pos (by omega)] at hQ
      exact wf (hs := []) 10 131 (by decide) hQ
    rw [if_neg c5]
    by_cases c6 : n = 60
    · rw [if_pos c6]; rw [if_pos (by omega)] at hQ
      cases eb with
      | true => exact wf (hs := []) 10 104 (by decide) (wF (by decide) hQ)
      | false => exact wf (hs := []) 10 104 (by decide) (wt rfl hQ)
    rw [if_neg c6]
    rw [if_neg (by omega)] at hQ
    by_cases c7 : n = 61
    · rw [if_pos c7]; rw [if_pos (by omega)] at hQ
      exact wf (hs := []) 10 116 (by decide) hQ
    rw [if_neg c7]
    rw [if_neg (by omega)] at hQ
    by_cases c8 : n = 62
    · rw [if_pos c8]; rw [if_pos (by omega)] at hQ
      cases eb with
      | true => exact wf (hs := []) 10 119 (by decide) (wF (by decide) hQ)
      | false => exact wf (hs := []) 10 119 (by decide) (wt rfl hQ)
    rw [if_neg c8]
    rw [if_neg (by omega), if_neg (by omega)] at hQ
    by_cases c9 : n = 91
    · rw [if_pos c9]; rw [if_pos (by omega)] at hQ
      exact wf (hs := []) 10 134 (by decide) hQ
    rw [if_neg c9]
    rw [if_neg (by omega)] at hQ
    by_cases c10 : n = 93
    · rw [if_pos c10]; rw [if_pos (by omega)] at hQ
      exact wf (hs := []) 10 137 (by decide) hQ
    rw [if_neg c10]
    rw [if_neg (by omega)] at hQ
    exact wf (hs := []) 10 140 (by decide) hQ
  have B := b46 (c := n) hn
  have W := wr_b (E := E) (d := d) (k := 46) (pc := 1) (lo := [(0, .int (iZ (n : Int))), (1, .int (iZ (tB eb)))]) (st := [.int (iZ (n : Int))]) (M := M) (Q := Q) (ins := .lookupswitch 139 #[(42, 97), (43, 91), (45, 94), (47, 100), (59, 130), (60, 103), (61, 115), (62, 118), (91, 133), (93, 136)]) (h := rfl) rfl rfl B
  exact W.mpr T
/-- the signs of the text as the class holds them; m is the last one's number -/
def TKS (I : Nat → Nat → Int32) (T : Nat → Int) (t m : Nat) : Prop := m ≤ 400 ∧ I 223 1 = iZ ((m + 1 : Nat) : Int) ∧ posN T t m = t ∧ (∀ i, i < m → posN T t i < t) ∧ ∀ i, i ≤ m → I 233 i = iZ (tkZ T t (posN T t i)) ∧ I 234 i = iZ (posN T t i : Nat) ∧ I 235 i = iZ (nuK T t (posN T t i))
theorem c_scan {x2 : Int32} (hT : TP I T t) (e2 : x2 = iZ t) (hQ : ∀ I' m, TKS I' T t m → (∀ a, a ≠ 223 → a ≠ 233 → a ≠ 234 → a ≠ 235 → I' a = I a) → (∀ j, j ≠ 1 → I' 223 j = I 223 j) → Q none (mm I' J A)) : wpC E (d + 6) 40 [.ref 223, .ref 222, .int x2] (mm I J A) Q := by
  subst e2
  have t4 := hT.1
  -- the state of the loop
  have L : ∀ (n f m : Nat) (turn : Nat) (I' : Nat → Nat → Int32) (x3 x4 : Int32), f + n = t → turn ≤ f → m ≤ f → skp T t f = posN T t m → I' 223 1 = iZ m → (∀ i, i < m → posN T t i < t ∧ I' 233 i = iZ (tkZ T t (posN T t i)) ∧ I' 234 i = iZ (posN T t i : Nat) ∧ I' 235 i = iZ (nuK T t (posN T t i))) → (∀ a, a ≠ 223 → a ≠ 233 → a ≠ 234 → a ≠ 235 → I' a = I a) → (∀ j, j ≠ 1 → I' 223 j = I 223 j) → x3 = iZ f → x4 = iZ turn → wp E (d + 6) 40 10 [(0, .ref 223), (1, .ref 222), (2, .int (iZ t)), (3, .int x3), (4, .int x4)] [] (mm I' J A) Q := by
    intro n
    induction n using Nat.strongRecOn with
    | ind n IH =>
      intro f m turn I' x3 x4 hf ht hm hs h1 hi c1 c2 e3 e4
      subst e3; subst e4
      -- the end
      have END : f = t → wp E (d + 6) 40 193 [(0, .ref 223), (1, .ref 222), (2, .int (iZ t)), (3, .int (iZ f)), (4, .int (iZ turn))] [] (mm I' J A) Q := fun q => by
        subst q
        rw [skp_ge (Nat.le_refl _)] at hs
        refine wf (hs := []) 20 193 (by decide) (And.intro rfl (c_put (m := m) (k := 40) (s := (f : Int)) (n := 0) h1 (by omega) rfl rfl rfl (fun I2 p1 p2 p3 p4 p5 p6 p7 => ?_)))
        refine hQ I2 m ⟨by omega, p1, hs.symm, fun i q => (hi i q).1, fun i q => ?_⟩ (fun a q1 q2 q3 q4 => (p5 a q1 q2 q3 q4).trans (c1 a q1 q2 q3 q4)) (fun j q => (p6 j q).trans (c2 j q))
        by_cases e : i = m
        · subst e
          rw [p2, p3, p4, ← hs]
          have tk : tkZ T f f = 40 := (tk_rng (T := T) (t := f) (p := f)).2.mpr (Nat.le_refl _)
          refine ⟨by rw [tk], rfl, ?_⟩
          unfold nuK
          rw [tk, if_neg (by omega)]
        · have := p7 i e
          rw [this.1, this.2.1, this.2.2]
          exact (hi i (by omega)).2
      by_cases q : f < t
      · have tf : (0 ≤ T f ∧ T f ≤ 255) ∧ I' 222 f = iZ (T f) := ⟨(hT.2 f q).1, by rw [c1 222 (by omega) (by omega) (by omega) (by omega)]; exact (hT.2 f q).2⟩
        have hT' : TP I' T t := ⟨t4, fun i h => ⟨(hT.2 i h).1, by rw [c1 222 (by omega) (by omega) (by omega) (by omega)]; exact (hT.2 i h).2⟩⟩
        have cl : (iZ (f : Int)).toNatClampNeg = f := z_cln (by omega)
        have hin : vp_in (iZ (f : Int)) 400 := z_in (by omega) (by omega) (by omega)
        have ef : I' 222 (iZ (f : Int)).toNatClampNeg = iZ (T f) := by rw [cl]; exact tf.2
        -- behind a sign that was put
        have NX : ∀ (I2 : Nat → Nat → Int32) (e : Nat) (x5 x6 : Int32), T f ≠ 32 → e = enZ T t f → I2 223 1 = iZ ((m + 1 : Nat) : Int) → I2 233 m = iZ (tkZ T t f) → I2 234 m = iZ (f : Int) → I2 235 m = iZ (nuK T t f) → (∀ a, a ≠ 223 → a ≠ 233 → a ≠ 234 → a ≠ 235 → I2 a = I' a) → (∀ j, j ≠ 1 → I2 223 j = I' 223 j) → (∀ j, j ≠ m → I2 233 j = I' 233 j ∧ I2 234 j = I' 234 j ∧ I2 235 j = I' 235 j) → x6 = iZ e → wp E (d + 6) 40 184 [(0, .ref 223), (1, .ref 222), (2, .int (iZ t)), (3, .int (iZ f)), (4, .int (iZ turn)), (5, .int x5), (6, .int x6)] [] (mm I2 J A) Q := fun I2 e x5 x6 n32 he p1 p2 p3 p4 p5 p6 p7 e6 => by
          subst e6
          have eb := en_b (T := T) q
          have pf : posN T t m = f := by rw [← hs, skp_lt q, if_neg n32]
          refine wf (hs := [10]) 20 184 (by decide) ?_
          refine wp_keys [0, 1, 2, 3, 4] rfl rfl ?_
          refine IH (t - e) (by omega) e (m + 1) (turn + 1) I2 _ _ (by omega) (by omega) (by omega) ?_ p1 (fun i hi2 => ?_) (fun a q1 q2 q3 q4 => (p5 a q1 q2 q3 q4).trans (c1 a q1 q2 q3 q4)) (fun j q => (p6 j q).trans (c2 j q)) rfl (iZ_add turn 1)
          · show _ = nxZ T t (posN T t m)
            rw [pf, he]; rfl
          · by_cases e2 : i = m
            · subst e2
              rw [pf, p2, p3, p4]
              exact ⟨q, rfl, rfl, rfl⟩
            · have := p7 i e2
              rw [this.1, this.2.1, this.2.2]
              exact hi i (by omega)
        have tk0 : tkZ T t f = if 48 ≤ T f ∧ T f ≤ 57 then 39 else if 97 ≤ T f ∧ T f ≤ 122 then wdZ T f (rex T t 97 122 f) else sgn (T f) (eqB T t f) := by
          unfold tkZ
          rw [if_neg (by omega)]
        -- signs
        have SG : ¬ (48 ≤ T f ∧ T f ≤ 57) → ¬ (97 ≤ T f ∧ T f ≤ 122) → T f ≠ 32 → ∀ x5, x5 = iZ (T f) → wp E (d + 6) 40 141 [(0, .ref 223), (1, .ref 222), (2, .int (iZ t)), (3, .int (iZ f)), (4, .int (iZ turn)), (5, .int x5), (6, .int (iZ (f : Int) + iZ 1))] [.int (iZ (tB (eqB T t f)))] (mm I' J A) Q := fun n1 n2 n3 x5 e5 => by
          subst e5
          rw [if_neg n1, if_neg n2] at tk0
          have sr := sgn_rng (c := T f) (e := eqB T t f)
          refine wf (hs := [184]) 60 141 (by decide) (And.intro rfl (c_signOf (c := T f) (eb := eqB T t f) tf.1 rfl rfl ?_))
          refine And.intro rfl (c_put (m := m) (k := sgn (T f) (eqB T t f)) (s := (f : Int)) (n := 0) h1 (by omega) rfl rfl rfl (fun I2 p1 p2 p3 p4 p5 p6 p7 => ?_))
          have en : enZ T t f = if sgn (T f) (eqB T t f) = 32 ∨ sgn (T f) (eqB T t f) = 34 then f + 2 else f + 1 := by
            unfold enZ
            rw [if_neg n1, if_neg n2, tk0]
          have nk : nuK T t f = 0 := by
            unfold nuK
            rw [tk0, if_neg sr.2.2.1]
          rw [← tk0] at p2
          rw [← nk] at p4
          refine And.intro (fun g => ?_) (fun g => And.intro (fun g2 => ?_) (fun g2 => ?_))
          · simp (disch := omega) only [z_i8, z_i16, z_of, z_ofN, z_lofN, z_0, z_1, z_m1, z_l0, z_l1, iZ_add, iZ_sub, iZ_mul, iZ_neg, lZ_add, lZ_sub, lZ_mul, lZ_neg, z_div, z_ldiv, z_l, z_i, z_lt, z_le, z_eq, z_llt, z_lle, z_leq, z_cgt, z_cge, z_clt, z_cle, z_ceq, z_cl, z_nat, Int.toNat_natCast, mm_I, mm_J, z_cln, z_abs, z_max, z_min, z_lmax, z_lmin, z_sin, Int.cast_ofNat_Int, uI_I, uI_J, uL_I, uL_J, uA_I, uA_J, sI_eq, sI_ne, sL_eq, sL_ne, up_eq, up_ne, uL_eq, uL_ne, z_toInt, Int.reduceToNat] at g
            refine wp_keys [0, 1, 2, 3, 4, 5, 6] rfl rfl ?_
            refine NX I2 (f + 2) _ _ n3 (by rw [en, if_pos (Or.inl g)]) p1 p2 p3 p4 p5 p6 p7 ?_
            show iZ (f : Int) + iZ 1 + iZ 1 = _
            rw [iZ_add, iZ_add]; congr 1
          · simp (disch := omega) only [z_i8, z_i16, z_of, z_ofN, z_lofN, z_0, z_1, z_m1, z_l0, z_l1, iZ_add, iZ_sub, iZ_mul, iZ_neg, lZ_add, lZ_sub, lZ_mul, lZ_neg, z_div, z_ldiv, z_l, z_i, z_lt, z_le, z_eq, z_llt, z_lle, z_leq, z_cgt, z_cge, z_clt, z_cle, z_ceq, z_cl, z_nat, Int.toNat_natCast, mm_I, mm_J, z_cln, z_abs, z_max, z_min, z_lmax, z_lmin, z_sin, Int.cast_ofNat_Int, uI_I, uI_J, uL_I, uL_J, uA_I, uA_J, sI_eq, sI_ne, sL_eq, sL_ne, up_eq, up_ne, uL_eq, uL_ne, z_toInt, Int.reduceToNat] at g2
            refine wp_keys [0, 1, 2, 3, 4, 5, 6] rfl rfl ?_
            refine NX I2 (f + 2) _ _ n3 (by rw [en, if_pos (Or.inr g2)]) p1 p2 p3 p4 p5 p6 p7 ?_
            show iZ (f : Int) + iZ 1 + iZ 1 = _
            rw [iZ_add, iZ_add]; congr 1
          · simp (disch := omega) only [z_i8, z_i16, z_of, z_ofN, z_lofN, z_0, z_1, z_m1, z_l0, z_l1, iZ_add, iZ_sub, iZ_mul, iZ_neg, lZ_add, lZ_sub, lZ_mul, lZ_neg, z_div, z_ldiv, z_l, z_i, z_lt, z_le, z_eq, z_llt, z_lle, z_leq, z_cgt, z_cge, z_clt, z_cle, z_ceq, z_cl, z_nat, Int.toNat_natCast, mm_I, mm_J, z_cln, z_abs, z_max, z_min, z_lmax, z_lmin, z_sin, Int.cast_ofNat_Int, uI_I, uI_J, uL_I, uL_J, uA_I, uA_J, sI_eq, sI_ne, sL_eq, sL_ne, up_eq, up_ne, uL_eq, uL_ne, z_toInt, Int.reduceToNat] at g
            simp (disch := omega) only [z_i8, z_i16, z_of, z_ofN, z_lofN, z_0, z_1, z_m1, z_l0, z_l1, iZ_add, iZ_sub, iZ_mul, iZ_neg, lZ_add, lZ_sub, lZ_mul, lZ_neg, z_div, z_ldiv, z_l, z_i, z_lt, z_le, z_eq, z_llt, z_lle, z_leq, z_cgt, z_cge, z_clt, z_cle, z_ceq, z_cl, z_nat, Int.toNat_natCast, mm_I, mm_J, z_cln, z_abs, z_max, z_min, z_lmax, z_lmin, z_sin, Int.cast_ofNat_Int, uI_I, uI_J, uL_I, uL_J, uA_I, uA_J, sI_eq, sI_ne, sL_eq, sL_ne, up_eq, up_ne, uL_eq, uL_ne, z_toInt, Int.reduceToNat] at g2
            refine wp_keys [0, 1, 2, 3, 4, 5, 6] rfl rfl ?_
            refine NX I2 (f + 1) _ _ n3 (by rw [en, if_neg (by omega)]) p1 p2 p3 p4 p5 p6 p7 ?_
            show iZ (f : Int) + iZ 1 + iZ 0 = _
            rw [iZ_add, iZ_add]; congr 1
        -- neither figure nor letter
        have OT : ¬ (48 ≤ T f ∧ T f ≤ 57) → ¬ (97 ≤ T f ∧ T f ≤ 122) → ∀ x5, x5 = iZ (T f) → wp E (d + 6) 40 114 [(0, .ref 223), (1, .ref 222), (2, .int (iZ t)), (3, .int (iZ f)), (4, .int (iZ turn)), (5, .int x5), (6, .int (iZ (f : Int) + iZ 1))] [] (mm I' J A) Q := fun n1 n2 x5 e5 => by
          subst e5
          have ea : iZ (f : Int) + iZ 1 = iZ ((f + 1 : Nat) : Int) := (iZ_add _ _).trans (by congr 1)
          refine wf (hs := [141, 184]) 60 114 (by decide) (And.intro (fun g => ?_) (fun g => ?_))
          · simp (disch := omega) only [z_i8, z_i16, z_of, z_ofN, z_lofN, z_0, z_1, z_m1, z_l0, z_l1, iZ_add, iZ_sub, iZ_mul, iZ_neg, lZ_add, lZ_sub, lZ_mul, lZ_neg, z_div, z_ldiv, z_l, z_i, z_lt, z_le, z_eq, z_llt, z_lle, z_leq, z_cgt, z_cge, z_clt, z_cle, z_ceq, z_cl, z_nat, Int.toNat_natCast, mm_I, mm_J, z_cln, z_abs, z_max, z_min, z_lmax, z_lmin, z_sin, Int.cast_ofNat_Int, uI_I, uI_J, uL_I, uL_J, uA_I, uA_J, sI_eq, sI_ne, sL_eq, sL_ne, up_eq, up_ne, uL_eq, uL_ne, z_toInt, Int.reduceToNat] at g
            refine wf (hs := [10]) 20 184 (by decide) ?_
            refine wp_keys [0, 1, 2, 3, 4] rfl rfl ?_
            exact IH (t - (f + 1)) (by omega) (f + 1) m (turn + 1) I' _ _ (by omega) (by omega) (by omega) (by rw [← hs, skp_lt q, if_pos g]) h1 hi c1 c2 ea (iZ_add turn 1)
          · simp (disch := omega) only [z_i8, z_i16, z_of, z_ofN, z_lofN, z_0, z_1, z_m1, z_l0, z_l1, iZ_add, iZ_sub, iZ_mul, iZ_neg, lZ_add, lZ_sub, lZ_mul, lZ_neg, z_div, z_ldiv, z_l, z_i, z_lt, z_le, z_eq, z_llt, z_lle, z_leq, z_cgt, z_cge, z_clt, z_cle, z_ceq, z_cl, z_nat, Int.toNat_natCast, mm_I, mm_J, z_cln, z_abs, z_max, z_min, z_lmax, z_lmin, z_sin, Int.cast_ofNat_Int, uI_I, uI_J, uL_I, uL_J, uA_I, uA_J, sI_eq, sI_ne, sL_eq, sL_ne, up_eq, up_ne, uL_eq, uL_ne, z_toInt, Int.reduceToNat] at g
            by_cases g2 : f + 1 < t
            · have n4 : ¬ iZ (t : Int) ≤ iZ (f : Int) + iZ 1 := by rw [ea]; ((try simp (disch := omega) only [z_i8, z_i16, z_of, z_ofN, z_lofN, z_0, z_1, z_m1, z_l0, z_l1, iZ_add, iZ_sub, iZ_mul, iZ_neg, lZ_add, lZ_sub, lZ_mul, lZ_neg, z_div, z_ldiv, z_l, z_i, z_lt, z_le, z_eq, z_llt, z_lle, z_leq, z_cgt, z_cge, z_clt, z_cle, z_ceq, z_cl, z_nat, Int.toNat_natCast, mm_I, mm_J, z_cln, z_abs, z_max, z_min, z_lmax, z_lmin, z_sin, Int.cast_ofNat_Int, uI_I, uI_J, uL_I, uL_J, uA_I, uA_J, sI_eq, sI_ne, sL_eq, sL_ne, up_eq, up_ne, uL_eq, uL_ne, z_toInt, Int.reduceToNat]) <;> omega)
              have cl1 : (iZ (f : Int) + iZ 1).toNatClampNeg = f + 1 := by rw [ea]; exact z_cln (by omega)
              have hin1 : vp_in (iZ (f : Int) + iZ 1) 400 := by rw [ea]; exact z_in (by omega) (by omega) (by omega)
              have e1 : I' 222 (iZ (f : Int) + iZ 1).toNatClampNeg = iZ (T (f + 1)) := by rw [cl1]; exact (hT'.2 (f + 1) g2).2
              have b1 := (hT.2 (f + 1) g2).1
              refine wF n4 (And.intro hin1 ?_)
              by_cases g3 : T (f + 1) = 61
              · have e3 : I' 222 (iZ (f : Int) + iZ 1).toNatClampNeg = iZ 61 := by rw [e1, g3]
                have eqt : eqB T t f = true := decide_eq_true ⟨g2, g3⟩
                have S := SG n1 n2 g (iZ (T f)) rfl
                rw [eqt] at S
                exact wt e3 S
              · have e3 : ¬ I' 222 (iZ (f : Int) + iZ 1).toNatClampNeg = iZ 61 := by rw [e1]; ((try simp (disch := omega) only [z_i8, z_i16, z_of, z_ofN, z_lofN, z_0, z_1, z_m1, z_l0, z_l1, iZ_add, iZ_sub, iZ_mul, iZ_neg, lZ_add, lZ_sub, lZ_mul, lZ_neg, z_div, z_ldiv, z_l, z_i, z_lt, z_le, z_eq, z_llt, z_lle, z_leq, z_cgt, z_cge, z_clt, z_cle, z_ceq, z_cl, z_nat, Int.toNat_natCast, mm_I, mm_J, z_cln, z_abs, z_max, z_min, z_lmax, z_lmin, z_sin, Int.cast_ofNat_Int, uI_I, uI_J, uL_I, uL_J, uA_I, uA_J, sI_eq, sI_ne, sL_eq, sL_ne, up_eq, up_ne, uL_eq, uL_ne, z_toInt, Int.reduceToNat]) <;> omega)
                have eqt : eqB T t f = false := decide_eq_false (fun x => g3 x.2)
                have S := SG n1 n2 g (iZ (T f)) rfl
                rw [eqt] at S
                exact wF e3 S
            · have n4 : iZ (t : Int) ≤ iZ (f : Int) + iZ 1 := by rw [ea]; ((try simp (disch := omega) only [z_i8, z_i16, z_of, z_ofN, z_lofN, z_0, z_1, z_m1, z_l0, z_l1, iZ_add, iZ_sub, iZ_mul, iZ_neg, lZ_add, lZ_sub, lZ_mul, lZ_neg, z_div, z_ldiv, z_l, z_i, z_lt, z_le, z_eq, z_llt, z_lle, z_leq, z_cgt, z_cge, z_clt, z_cle, z_ceq, z_cl, z_nat, Int.toNat_natCast, mm_I, mm_J, z_cln, z_abs, z_max, z_min, z_lmax, z_lmin, z_sin, Int.cast_ofNat_Int, uI_I, uI_J, uL_I, uL_J, uA_I, uA_J, sI_eq, sI_ne, sL_eq, sL_ne, up_eq, up_ne, uL_eq, uL_ne, z_toInt, Int.reduceToNat]) <;> omega)
              have eqt : eqB T t f = false := decide_eq_false (fun x => g2 x.1)
              have S := SG n1 n2 g (iZ (T f)) rfl
              rw [eqt] at S
              exact wt n4 S
        -- letters
        have LT : ¬ (48 ≤ T f ∧ T f ≤ 57) → ∀ x5, x5 = iZ (T f) → wp E (d + 6) 40 74 [(0, .ref 223), (1, .ref 222), (2, .int (iZ t)), (3, .int (iZ f)), (4, .int (iZ turn)), (5, .int x5), (6, .int (iZ (f : Int) + iZ 1))] [] (mm I' J A) Q := fun n1 x5 e5 => by
          subst e5
          refine wf (hs := [114, 184]) 60 74 (by decide) (And.intro rfl (cW (z := T f) (lo := 97) (hi := 122) rfl rfl rfl (by omega) (by omega) (by omega) (fun g => wF (by decide) ?_) (fun g => wt rfl (OT n1 g _ rfl))))
          have ru := rex_up q g
          have rb := (rex_b (T := T) (lo := 97) (hi := 122) (show f ≤ t by omega)).1
          refine And.intro rfl (c_rangeEnd (lo := 97) (hi := 122) hT' (by omega) (by omega) (by omega) rfl rfl rfl rfl ?_)
          refine And.intro rfl (c_wordAt (d := d) hT' ru rb.2 rfl rfl ?_)
          rw [if_neg n1, if_pos g] at tk0
          refine And.intro rfl (c_put (m := m) (k := wdZ T f (rex T t 97 122 f)) (s := (f : Int)) (n := 0) h1 (by omega) rfl rfl rfl (fun I2 p1 p2 p3 p4 p5 p6 p7 => ?_))
          have en : enZ T t f = rex T t 97 122 f := by
            unfold enZ
            rw [if_neg n1, if_pos g]
          have wr := wd_rng (T := T) (p := f) (e := rex T t 97 122 f) g.1
          have nk : nuK T t f = 0 := by
            unfold nuK
            rw [tk0, if_neg (by omega)]
          rw [← tk0] at p2
          rw [← nk] at p4
          refine wp_keys [0, 1, 2, 3, 4, 5, 6] rfl rfl ?_
          exact NX I2 (rex T t 97 122 f) _ _ (by omega) en.symm p1 p2 p3 p4 p5 p6 p7 rfl
        refine wf (hs := [74, 184]) 60 10 (by decide) (wF (by ((try simp (disch := omega) only [z_i8, z_i16, z_of, z_ofN, z_lofN, z_0, z_1, z_m1, z_l0, z_l1, iZ_add, iZ_sub, iZ_mul, iZ_neg, lZ_add, lZ_sub, lZ_mul, lZ_neg, z_div, z_ldiv, z_l, z_i, z_lt, z_le, z_eq, z_llt, z_lle, z_leq, z_cgt, z_cge, z_clt, z_cle, z_ceq, z_cl, z_nat, Int.toNat_natCast, mm_I, mm_J, z_cln, z_abs, z_max, z_min, z_lmax, z_lmin, z_sin, Int.cast_ofNat_Int, uI_I, uI_J, uL_I, uL_J, uA_I, uA_J, sI_eq, sI_ne, sL_eq, sL_ne, up_eq, up_ne, uL_eq, uL_ne, z_toInt, Int.reduceToNat]) <;> omega)) (wF (by ((try simp (disch := omega) only [z_i8, z_i16, z_of, z_ofN, z_lofN, z_0, z_1, z_m1, z_l0, z_l1, iZ_add, iZ_sub, iZ_mul, iZ_neg, lZ_add, lZ_sub, lZ_mul, lZ_neg, z_div, z_ldiv, z_l, z_i, z_lt, z_le, z_eq, z_llt, z_lle, z_leq, z_cgt, z_cge, z_clt, z_cle, z_ceq, z_cl, z_nat, Int.toNat_natCast, mm_I, mm_J, z_cln, z_abs, z_max, z_min, z_lmax, z_lmin, z_sin, Int.cast_ofNat_Int, uI_I, uI_J, uL_I, uL_J, uA_I, uA_J, sI_eq, sI_ne, sL_eq, sL_ne, up_eq, up_ne, uL_eq, uL_ne, z_toInt, Int.reduceToNat]) <;> omega)) (And.intro hin ?_)))
        refine And.intro rfl (cW (z := T f) (lo := 48) (hi := 57) ef rfl rfl (by omega) (by omega) (by omega) (fun g => wF (by decide) ?_) (fun g => wt rfl ?_))
        · have ru := rex_up q g
          have rb := (rex_b (T := T) (lo := 48) (hi := 57) (show f ≤ t by omega)).1
          refine And.intro rfl (c_rangeEnd (lo := 48) (hi := 57) hT' (by omega) (by omega) (by omega) rfl rfl rfl rfl ?_)
          refine And.intro rfl (c_numeral hT' rb.1 rb.2 rfl rfl ?_)
          rw [if_pos g] at tk0
          refine And.intro rfl (c_put (m := m) (k := 39) (s := (f : Int)) (n := nuZ T t f) h1 (by omega) rfl rfl rfl (fun I2 p1 p2 p3 p4 p5 p6 p7 => ?_))
          have en : enZ T t f = rex T t 48 57 f := by
            unfold enZ
            rw [if_pos g]
          have nk : nuK T t f = nuZ T t f := by
            unfold nuK
            rw [tk0, if_pos rfl]
          rw [← tk0] at p2
          rw [← nk] at p4
          refine wp_keys [0, 1, 2, 3, 4, 5, 6] rfl rfl ?_
          exact NX I2 (rex T t 48 57 f) _ _ (by omega) en.symm p1 p2 p3 p4 p5 p6 p7 rfl
        · refine wp_keys [0, 1, 2, 3, 4, 5, 6] rfl rfl ?_
          exact LT g _ ef
      · have N := END (by omega)
        refine wf (hs := [193]) 30 10 (by decide) (And.intro (fun _ => N) (fun _ => wt (by ((try simp (disch := omega) only [z_i8, z_i16, z_of, z_ofN, z_lofN, z_0, z_1, z_m1, z_l0, z_l1, iZ_add, iZ_sub, iZ_mul, iZ_neg, lZ_add, lZ_sub, lZ_mul, lZ_neg, z_div, z_ldiv, z_l, z_i, z_lt, z_le, z_eq, z_llt, z_lle, z_leq, z_cgt, z_cge, z_clt, z_cle, z_ceq, z_cl, z_nat, Int.toNat_natCast, mm_I, mm_J, z_cln, z_abs, z_max, z_min, z_lmax, z_lmin, z_sin, Int.cast_ofNat_Int, uI_I, uI_J, uL_I, uL_J, uA_I, uA_J, sI_eq, sI_ne, sL_eq, sL_ne, up_eq, up_ne, uL_eq, uL_ne, z_toInt, Int.reduceToNat]) <;> omega)) N))
  refine wc (hs := [10]) 20 (by decide) ?_
  refine wp_keys [0, 1, 2, 3, 4] rfl rfl ?_
  refine L t 0 0 0 (setI I 223 1 (iZ 0)) _ _ (by omega) (by omega) (by omega) rfl ?_ (fun i hi => by omega) (fun a h1 h2 h3 h4 => ?_) (fun j hj => ?_) rfl rfl
  · rw [setI_at, if_pos ⟨rfl, rfl⟩]; rfl
  · funext j
    rw [setI_at, if_neg (fun q => h1 q.1)]
  · rw [setI_at, if_neg (fun q => hj q.2)]
end SCAN2
