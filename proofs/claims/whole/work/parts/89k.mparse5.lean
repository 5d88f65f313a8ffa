/-! ===== the reference reads comparisons ===== -/
section MCMP
variable {E : Nat × (Nat → Int32)} {d : Nat} {I I0 I1 : Nat → Nat → Int32} {J : Nat → Nat → Int64} {A : Nat → Option Nat} {Q : Option Value → am_M → Prop} {M : am_M} {T : Nat → Int} {t r q : Nat} {f c : Int} {L : List Int} {s : pS}
def cmK (g : Int) (sm : Bool) : Int := if g = 61 then 6 else if g = 60 then (if sm then 5 else 4) else (if sm then 7 else 8)
theorem m_compared (hT : TM I0 T t) (hr : r < 6) (h30 : I0 265 30 = iZ r) (h36 : I0 265 36 = iZ 19) (h : MX I0 I r q f c L) (hq : q ≤ 500) (hi : INx T t q f c L s) (hQ : ∀ I' q' f' c' L', MX I0 I' r q' f' c' L' → PRy t f (cmZ T t s) q' f' c' L' → Q none (mm I' J A)) : wpC E (d + 8) 203 [.ref 265] (mm I J A) Q := by
  have t4 := hT.1
  have hb := fun i hi => (hT.2.2 i hi).1
  refine wc (hs := [4]) 20 (by decide) (And.intro rfl (m_sum (d := d) hT hr h30 h36 h hq hi (fun I1 q1 f1 c1 L1 h1 p1 => ?_)))
  refine wp_keys [0] rfl rfl ?_
  have hT1 := MX_TM hT h1
  have q15 := p1.1
  have sr := sgA_rng (p := q1) hT1
  -- what the first sum gave
  have F0 : f = 0 → (f1 ≠ 0 ∧ cmZ T t s = .error f1) ∨ (f1 = 0 ∧ ∃ s1, sumZ T t s = .ok s1 ∧ q1 = s1.1 ∧ q1 ≤ t ∧ c1 = (s1.2.1 : Nat) ∧ L1 = s1.2.2 ∧ GBk t 3 s1) := fun w => by
    have p13 := p1.2.2 w
    cases hv : sumZ T t s with
    | error e =>
      rw [hv] at p13
      refine Or.inl ⟨by omega, ?_⟩
      unfold cmZ
      rw [hv, p13.1]; rfl
    | ok s1 =>
      rw [hv] at p13
      obtain ⟨w1, w2, w3, w4, w5⟩ := p13
      exact Or.inr ⟨w1, s1, rfl, w3, w2, w4, w5, GB_PP (hi w).2.2.2.2 (sum_ok hb hv)⟩
  have c160 : f1 = 0 → 0 ≤ c1 ∧ c1 ≤ 60 := fun w => by
    by_cases f0 : f = 0
    · rcases F0 f0 with ⟨x, -⟩ | ⟨-, s1, -, -, -, e1, -, g⟩
      · exact absurd w x
      · have := g.2.1; omega
    · exact absurd ((p1.2.1 f0).symm.trans w) f0
  -- the comparison itself
  have B37 : (sgA T t q1 = 60 ∨ sgA T t q1 = 61 ∨ sgA T t q1 = 62) → wp E (d + 8) 203 37 [(0, .ref 265), (1, .int (iZ (sgA T t q1)))] [] (mm I1 J A) Q := fun hg => by
    have qt : q1 < t := by
      apply Classical.byContradiction
      intro n
      unfold sgA at hg
      rw [if_neg n] at hg
      omega
    have tkc := cmp_tk hg
    refine wf (hs := [55]) 40 37 (by decide) (And.intro rfl (m_counted (pl := q1) h1 c160 (by omega) h1.1 (fun I2 h2 => ?_)))
    obtain ⟨f2, hf2⟩ : ∃ f2, f2 = if f1 = 0 ∧ c1 = 60 then flt 3 q1 else f1 := ⟨_, rfl⟩
    rw [← hf2] at h2
    refine wp_keys [0, 1] rfl rfl ?_
    refine (?_ : ∀ I3, MX I0 I3 r (q1 + 1) f2 (c1 + 1) L1 → wp E (d + 8) 203 55 [(0, .ref 265), (1, .int (iZ (sgA T t q1)))] [] (mm I3 J A) Q) _ (MX_up h2)
    intro I3 h3
    have hT3 := MX_TM hT h3
    -- behind 'or the same'
    have B76 : ∀ sm : Bool, (sm = true ↔ (sgA T t q1 ≠ 61 ∧ sgA T t (q1 + 1) = 61)) → wp E (d + 8) 203 76 [(0, .ref 265), (1, .int (iZ (sgA T t q1))), (2, .int (iZ (tB sm)))] [] (mm I3 J A) Q := fun sm hsm => by
      have q2l : q1 + 1 + sm.toNat ≤ t := by
        cases sm with
        | false => show q1 + 1 + 0 ≤ t; omega
        | true =>
          have := (hsm.mp rfl).2
          unfold sgA at this
          by_cases w : q1 + 1 < t
          · show q1 + 1 + 1 ≤ t; omega
          · rw [if_neg w] at this; omega
      have eqs : sm = true ↔ (sgA T t q1 ≠ 61 ∧ eqB T t q1 = true) := by
        rw [hsm]
        constructor
        · rintro ⟨x1, x2⟩
          refine ⟨x1, ?_⟩
          unfold sgA at x2
          by_cases w : q1 + 1 < t
          · rw [if_pos w] at x2; exact decide_eq_true ⟨w, x2⟩
          · rw [if_neg w] at x2; omega
        · rintro ⟨x1, x2⟩
          have := of_decide_eq_true x2
          refine ⟨x1, ?_⟩
          unfold sgA
          rw [if_pos this.1]; exact this.2
      have tks : tkZ T t q1 = (if sgA T t q1 = 61 then 33 else if sgA T t q1 = 60 then (if sm then 32 else 31) else (if sm then 34 else 35)) := by
        have smE : sgA T t q1 ≠ 61 → sm = eqB T t q1 := fun w => by
          rw [Bool.eq_iff_iff, eqs]
          exact ⟨fun y => y.2, fun y => ⟨w, y⟩⟩
        rcases tk_cmp tkc with ⟨a1, a2⟩ | ⟨a1, a2⟩ | ⟨a1, a2⟩
        · rw [smE (by omega), if_neg (show ¬ sgA T t q1 = 61 by omega), if_pos a1]; exact a2
        · rw [if_pos a1]; exact a2
        · rw [smE (by omega), if_neg (show ¬ sgA T t q1 = 61 by omega), if_neg (show ¬ sgA T t q1 = 60 by omega)]; exact a2
      have en : enZ T t q1 = q1 + 1 + sm.toNat := by
        rw [en_sign (by omega)]
        cases sm with
        | true =>
          have := (hsm.mp rfl).1
          rw [if_neg this] at tks
          rw [if_pos (by by_cases w : sgA T t q1 = 60 <;> simp [w] at tks <;> omega)]
          rfl
        | false =>
          rw [if_neg (by by_cases w : sgA T t q1 = 61 <;> by_cases w2 : sgA T t q1 = 60 <;> simp [w, w2] at tks <;> omega)]
          rfl
      -- the second sum
      have B94 : ∀ I4, MX I0 I4 r (q1 + 1 + sm.toNat) f2 (c1 + 1) L1 → wp E (d + 8) 203 94 [(0, .ref 265), (1, .int (iZ (sgA T t q1))), (2, .int (iZ (tB sm)))] [] (mm I4 J A) Q := fun I4 h4 => by
        obtain ⟨s2, hs2⟩ : ∃ s2 : pS, s2 = (nxZ T t q1, (c1 + 1).toNat, L1) := ⟨_, rfl⟩
        have gb2 : f2 = 0 → GBk t 3 s2 := fun w => by
          have f10 : f1 = 0 := by
            rw [w] at hf2
            by_cases y : f1 = 0 ∧ c1 = 60
            · exact y.1
            · rw [if_neg y] at hf2; exact hf2.symm
          have cne : c1 ≠ 60 := fun y => by
            rw [w, if_pos ⟨f10, y⟩] at hf2
            unfold flt at hf2; omega
          by_cases f0 : f = 0
          · rcases F0 f0 with ⟨x, -⟩ | ⟨-, s1, x1, x2, x3, x4, x5, x6⟩
            · exact absurd f10 x
            · have g := x6
              have nb := nx_b (T := T) qt
              have cc := c160 f10
              rw [hs2]
              refine ⟨nb.2, by show (c1 + 1).toNat ≤ 60; omega, ?_⟩
              have := g.2.2
              show 3 * (L1.length : Int) + 3 ≤ 6 * ((c1 + 1).toNat : Int) + (nxZ T t q1 : Int)
              rw [x5]
              omega
          · exact absurd ((p1.2.1 f0).symm.trans f10) f0
        have in2 : INx T t (q1 + 1 + sm.toNat) f2 (c1 + 1) L1 s2 := fun w => by
          have g := gb2 w
          have f10 : f1 = 0 := by
            rw [w] at hf2
            by_cases y : f1 = 0 ∧ c1 = 60
            · exact y.1
            · rw [if_neg y] at hf2; exact hf2.symm
          have cc := c160 f10
          refine ⟨q2l, ?_, ?_, by rw [hs2], ⟨g.1, g.2.1, by have := g.2.2; omega⟩⟩
          · rw [hs2]
            show skp T t (q1 + 1 + sm.toNat) = nxZ T t q1
            unfold nxZ
            rw [en]
          · rw [hs2]
            show c1 + 1 = (((c1 + 1).toNat : Nat) : Int)
            omega
        refine wf (hs := [139]) 60 94 (by decide) (And.intro rfl (m_sum (d := d) hT hr h30 h36 h4 (by omega) in2 (fun I5 q5 f5 c5 L5 h5 p5 => ?_)))
        -- the entry
        have l5 : f5 = 0 → L5.length < 300 := fun w => by
          by_cases y : f2 = 0
          · have p53 := p5.2.2 y
            cases hv : sumZ T t s2 with
            | error e => rw [hv] at p53; omega
            | ok s3 =>
              rw [hv] at p53
              rw [p53.2.2.2.2]
              exact GB_l300 t4 (by omega) (GB_PP (gb2 y) (sum_ok hb hv))
          · exact absurd ((p5.2.1 y).symm.trans w) y
        have EN : wp E (d + 8) 203 139 [(0, .ref 265), (1, .int (iZ (sgA T t q1))), (2, .int (iZ (tB sm)))] [.int (iZ (cmK (sgA T t q1) sm)), .ref 265] (mm I5 J A) Q := by
          have ent : ENT (tkZ T t q1) (cmK (sgA T t q1) sm) 0 := by
            have sx : cmK (sgA T t q1) sm = smp (tkZ T t q1) := by
              rw [tks]
              unfold cmK
              by_cases w : sgA T t q1 = 61
              · rw [if_pos w, if_pos w]; rfl
              · rw [if_neg w, if_neg w]
                by_cases w2 : sgA T t q1 = 60
                · rw [if_pos w2, if_pos w2]; cases sm <;> rfl
                · rw [if_neg w2, if_neg w2]; cases sm <;> rfl
            unfold ENT
            rw [sx]
            exact ⟨fun y => by omega, fun y => by omega, fun y => by omega, fun _ => rfl⟩
          have kb : -2147483648 ≤ cmK (sgA T t q1) sm ∧ cmK (sgA T t q1) sm ≤ 2147483647 := by
            unfold cmK
            (repeat' split) <;> omega
          refine wf (hs := []) 20 139 (by decide) (And.intro rfl (m_entry (a := cmK (sgA T t q1) sm) (b := 0) (x := tkZ T t q1) hr h5 h30 l5 (fun _ => ent) kb (by omega) rfl rfl (fun I6 h6 => hQ I6 _ _ _ _ h6 ⟨p5.1, fun w => ?_, fun w => ?_⟩)))
          · have e1 := p1.2.1 w
            rw [e1] at hf2
            rw [if_neg (fun y => w y.1)] at hf2
            have := p5.2.1 (by rw [hf2]; exact w)
            rw [this, hf2]
          · rcases F0 w with ⟨x1, x2⟩ | ⟨x0, s1, x1, x2, x3, x4, x5, x6⟩
            · rw [if_neg (fun y => x1 y.1)] at hf2
              have := p5.2.1 (by rw [hf2]; exact x1)
              rw [x2]
              exact ⟨this.trans hf2, x1⟩
            · have tks1 : 31 ≤ tkZ T t s1.1 ∧ tkZ T t s1.1 ≤ 35 := by rw [← x2]; exact tkc
              by_cases y : c1 = 60
              · rw [if_pos ⟨x0, y⟩] at hf2
                have fne : flt 3 q1 ≠ 0 := by unfold flt; omega
                have := p5.2.1 (by rw [hf2]; exact fne)
                have e : cmZ T t s = .error (flt 3 q1) := by
                  unfold cmZ
                  rw [x1]
                  show (if 31 ≤ tkZ T t s1.1 ∧ tkZ T t s1.1 ≤ 35 then _ else _) = _
                  rw [if_pos tks1, if_pos (by omega), x2]
                rw [e]
                exact ⟨this.trans hf2, fne⟩
              · rw [if_neg (fun z => y z.2), x0] at hf2
                have p53 := p5.2.2 hf2
                have cc := c160 x0
                have es2 : s2 = (nxZ T t s1.1, s1.2.1 + 1, s1.2.2) := by
                  rw [hs2, x2, x5, x4]
                  congr 2
                have e : cmZ T t s = bnd (sumZ T t s2) (fun s3 => .ok (apL (tkZ T t s1.1) s3)) := by
                  unfold cmZ
                  rw [x1]
                  show (if 31 ≤ tkZ T t s1.1 ∧ tkZ T t s1.1 ≤ 35 then _ else _) = _
                  rw [if_pos tks1, if_neg (by omega), es2]
                rw [e]
                cases hv : sumZ T t s2 with
                | error e2 =>
                  rw [hv] at p53
                  exact p53
                | ok s3 =>
                  rw [hv] at p53
                  obtain ⟨v1, v2, v3, v4, v5⟩ := p53
                  refine ⟨v1, v2, v3, v4, ?_⟩
                  rw [if_pos v1, v5, x2]
                  rfl
        have ksel : ∀ g, sgA T t q1 = g → wp E (d + 8) 203 139 [(0, .ref 265), (1, .int (iZ g)), (2, .int (iZ (tB sm)))] [.int (iZ (cmK g sm)), .ref 265] (mm I5 J A) Q := fun g hgg => by rw [← hgg]; exact EN
        rcases hg with g | g | g
        · rw [g]
          have K := ksel 60 g
          cases sm with
          | true => exact wF (by decide) (wt rfl (wF (by decide) K))
          | false => exact wF (by decide) (wt rfl (wt rfl K))
        · rw [g]
          exact wt rfl (ksel 61 g)
        · rw [g]
          have K := ksel 62 g
          cases sm with
          | true => exact wF (by decide) (wF (by decide) (wF (by decide) K))
          | false => exact wF (by decide) (wF (by decide) (wt rfl K))
      cases sm with
      | true =>
        have h4 := MX_up h3
        exact wf (hs := [94]) 20 76 (by decide) (wF (by decide) (B94 _ h4))
      | false =>
        have e0 : setI I3 265 28 (I3 265 28 + iZ 0) = I3 := by
          rw [h3.1, iZ_add, Int.add_zero, ← h3.1]; exact setI_same
        have N := B94 I3 h3
        rw [← e0] at N
        exact wf (hs := [94]) 20 76 (by decide) (wt rfl N)
    by_cases g61 : sgA T t q1 = 61
    · have N := B76 false ⟨fun y => by (cases y), fun y => absurd g61 y.1⟩
      rw [g61] at N ⊢
      refine wf (hs := [76]) 30 55 (by decide) (wt rfl ?_)
      refine wp_keys [0, 1, 2] rfl rfl ?_
      exact N
    · have n1 : ¬ iZ (sgA T t q1) = iZ 61 := by ((try simp (disch := omega) only [z_i8, z_i16, z_of, z_ofN, z_lofN, z_0, z_1, z_m1, z_l0, z_l1, iZ_add, iZ_sub, iZ_mul, iZ_neg, lZ_add, lZ_sub, lZ_mul, lZ_neg, z_div, z_ldiv, z_l, z_i, z_lt, z_le, z_eq, z_llt, z_lle, z_leq, z_cgt, z_cge, z_clt, z_cle, z_ceq, z_cl, z_nat, Int.toNat_natCast, mm_I, mm_J, z_cln, z_abs, z_max, z_min, z_lmax, z_lmin, z_sin, Int.cast_ofNat_Int, uI_I, uI_J, uL_I, uL_J, uA_I, uA_J, sI_eq, sI_ne, sL_eq, sL_ne, up_eq, up_ne, uL_eq, uL_ne, z_toInt, Int.reduceToNat]) <;> omega)
      have sr1 := sgA_rng (p := q1 + 1) hT3
      refine wf (hs := [76]) 30 55 (by decide) (wF n1 (And.intro rfl (m_sign (p := q1 + 1) hT3 h3.1 (by omega) ?_)))
      by_cases g2 : sgA T t (q1 + 1) = 61
      · rw [g2]
        refine wt rfl ?_
        refine wp_keys [0, 1, 2] rfl rfl ?_
        exact B76 true ⟨fun _ => ⟨g61, g2⟩, fun _ => rfl⟩
      · have n2 : ¬ iZ (sgA T t (q1 + 1)) = iZ 61 := by ((try simp (disch := omega) only [z_i8, z_i16, z_of, z_ofN, z_lofN, z_0, z_1, z_m1, z_l0, z_l1, iZ_add, iZ_sub, iZ_mul, iZ_neg, lZ_add, lZ_sub, lZ_mul, lZ_neg, z_div, z_ldiv, z_l, z_i, z_lt, z_le, z_eq, z_llt, z_lle, z_leq, z_cgt, z_cge, z_clt, z_cle, z_ceq, z_cl, z_nat, Int.toNat_natCast, mm_I, mm_J, z_cln, z_abs, z_max, z_min, z_lmax, z_lmin, z_sin, Int.cast_ofNat_Int, uI_I, uI_J, uL_I, uL_J, uA_I, uA_J, sI_eq, sI_ne, sL_eq, sL_ne, up_eq, up_ne, uL_eq, uL_ne, z_toInt, Int.reduceToNat]) <;> omega)
        refine wF n2 ?_
        refine wp_keys [0, 1, 2] rfl rfl ?_
        exact B76 false ⟨fun y => by (cases y), fun y => absurd y.2 g2⟩
  refine wf (hs := [37]) 40 4 (by decide) (And.intro rfl (m_sign hT1 h1.1 (by omega) ?_))
  refine And.intro (fun g => ?_) (fun g => And.intro (fun g2 => ?_) (fun g2 => And.intro (fun g3 => ?_) (fun g3 => ?_)))
  · have g : iZ (sgA T t q1) = iZ 60 := g
    simp (disch := omega) only [z_i8, z_i16, z_of, z_ofN, z_lofN, z_0, z_1, z_m1, z_l0, z_l1, iZ_add, iZ_sub, iZ_mul, iZ_neg, lZ_add, lZ_sub, lZ_mul, lZ_neg, z_div, z_ldiv, z_l, z_i, z_lt, z_le, z_eq, z_llt, z_lle, z_leq, z_cgt, z_cge, z_clt, z_cle, z_ceq, z_cl, z_nat, Int.toNat_natCast, mm_I, mm_J, z_cln, z_abs, z_max, z_min, z_lmax, z_lmin, z_sin, Int.cast_ofNat_Int, uI_I, uI_J, uL_I, uL_J, uA_I, uA_J, sI_eq, sI_ne, sL_eq, sL_ne, up_eq, up_ne, uL_eq, uL_ne, z_toInt, Int.reduceToNat] at g
    refine wp_keys [0, 1] rfl rfl ?_
    exact B37 (Or.inl g)
  · have g2 : iZ (sgA T t q1) = iZ 61 := g2
    simp (disch := omega) only [z_i8, z_i16, z_of, z_ofN, z_lofN, z_0, z_1, z_m1, z_l0, z_l1, iZ_add, iZ_sub, iZ_mul, iZ_neg, lZ_add, lZ_sub, lZ_mul, lZ_neg, z_div, z_ldiv, z_l, z_i, z_lt, z_le, z_eq, z_llt, z_lle, z_leq, z_cgt, z_cge, z_clt, z_cle, z_ceq, z_cl, z_nat, Int.toNat_natCast, mm_I, mm_J, z_cln, z_abs, z_max, z_min, z_lmax, z_lmin, z_sin, Int.cast_ofNat_Int, uI_I, uI_J, uL_I, uL_J, uA_I, uA_J, sI_eq, sI_ne, sL_eq, sL_ne, up_eq, up_ne, uL_eq, uL_ne, z_toInt, Int.reduceToNat] at g2
    refine wp_keys [0, 1] rfl rfl ?_
    exact B37 (Or.inr (Or.inl g2))
  · have g3 : iZ (sgA T t q1) = iZ 62 := g3
    simp (disch := omega) only [z_i8, z_i16, z_of, z_ofN, z_lofN, z_0, z_1, z_m1, z_l0, z_l1, iZ_add, iZ_sub, iZ_mul, iZ_neg, lZ_add, lZ_sub, lZ_mul, lZ_neg, z_div, z_ldiv, z_l, z_i, z_lt, z_le, z_eq, z_llt, z_lle, z_leq, z_cgt, z_cge, z_clt, z_cle, z_ceq, z_cl, z_nat, Int.toNat_natCast, mm_I, mm_J, z_cln, z_abs, z_max, z_min, z_lmax, z_lmin, z_sin, Int.cast_ofNat_Int, uI_I, uI_J, uL_I, uL_J, uA_I, uA_J, sI_eq, sI_ne, sL_eq, sL_ne, up_eq, up_ne, uL_eq, uL_ne, z_toInt, Int.reduceToNat] at g3
    refine wp_keys [0, 1] rfl rfl ?_
    exact B37 (Or.inr (Or.inr g3))
  · have g : ¬ iZ (sgA T t q1) = iZ 60 := g
    have g2 : ¬ iZ (sgA T t q1) = iZ 61 := g2
    have g3 : ¬ iZ (sgA T t q1) = iZ 62 := g3
    simp (disch := omega) only [z_i8, z_i16, z_of, z_ofN, z_lofN, z_0, z_1, z_m1, z_l0, z_l1, iZ_add, iZ_sub, iZ_mul, iZ_neg, lZ_add, lZ_sub, lZ_mul, lZ_neg, z_div, z_ldiv, z_l, z_i, z_lt, z_le, z_eq, z_llt, z_lle, z_leq, z_cgt, z_cge, z_clt, z_cle, z_ceq, z_cl, z_nat, Int.toNat_natCast, mm_I, mm_J, z_cln, z_abs, z_max, z_min, z_lmax, z_lmin, z_sin, Int.cast_ofNat_Int, uI_I, uI_J, uL_I, uL_J, uA_I, uA_J, sI_eq, sI_ne, sL_eq, sL_ne, up_eq, up_ne, uL_eq, uL_ne, z_toInt, Int.reduceToNat] at g
    simp (disch := omega) only [z_i8, z_i16, z_of, z_ofN, z_lofN, z_0, z_1, z_m1, z_l0, z_l1, iZ_add, iZ_sub, iZ_mul, iZ_neg, lZ_add, lZ_sub, lZ_mul, lZ_neg, z_div, z_ldiv, z_l, z_i, z_lt, z_le, z_eq, z_llt, z_lle, z_leq, z_cgt, z_cge, z_clt, z_cle, z_ceq, z_cl, z_nat, Int.toNat_natCast, mm_I, mm_J, z_cln, z_abs, z_max, z_min, z_lmax, z_lmin, z_sin, Int.cast_ofNat_Int, uI_I, uI_J, uL_I, uL_J, uA_I, uA_J, sI_eq, sI_ne, sL_eq, sL_ne, up_eq, up_ne, uL_eq, uL_ne, z_toInt, Int.reduceToNat] at g2
    simp (disch := omega) only [z_i8, z_i16, z_of, z_ofN, z_lofN, z_0, z_1, z_m1, z_l0, z_l1, iZ_add, iZ_sub, iZ_mul, iZ_neg, lZ_add, lZ_sub, lZ_mul, lZ_neg, z_div, z_ldiv, z_l, z_i, z_lt, z_le, z_eq, z_llt, z_lle, z_leq, z_cgt, z_cge, z_clt, z_cle, z_ceq, z_cl, z_nat, Int.toNat_natCast, mm_I, mm_J, z_cln, z_abs, z_max, z_min, z_lmax, z_lmin, z_sin, Int.cast_ofNat_Int, uI_I, uI_J, uL_I, uL_J, uA_I, uA_J, sI_eq, sI_ne, sL_eq, sL_ne, up_eq, up_ne, uL_eq, uL_ne, z_toInt, Int.reduceToNat] at g3
    refine And.intro rfl (m_fails (k := 0) (pl := q1) h1 (by omega) (by omega) rfl h1.1 (fun I2 h2 => hQ I2 _ _ _ _ h2 ⟨q15, fun w => ?_, fun w => ?_⟩))
    · have e1 := p1.2.1 w
      rw [e1, if_neg w]
    · rcases F0 w with ⟨x1, x2⟩ | ⟨x0, s1, x1, x2, x3, x4, x5, x6⟩
      · rw [x2, if_neg x1]; exact ⟨rfl, x1⟩
      · have e : cmZ T t s = .error (flt 0 q1) := by
          unfold cmZ
          rw [x1]
          show (if 31 ≤ tkZ T t s1.1 ∧ tkZ T t s1.1 ≤ 35 then _ else _) = _
          rw [if_neg ?_, x2]
          rw [← x2]
          intro y
          rcases tk_cmp y with ⟨a, -⟩ | ⟨a, -⟩ | ⟨a, -⟩ <;> omega
        rw [e, if_pos x0]
        exact ⟨rfl, by unfold flt; omega⟩
end MCMP
