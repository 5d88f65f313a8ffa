/-! ===== the reference reads a clause's letters ===== -/
def fgA (T : Nat → Int) (t : Nat) (v : Int) (x : pS × Int × Int) : Except Int hR := match fgZ T t 9999 x.1 with
  | .error e => .error e
  | .ok s4 => .ok (s4.1, v, x.2.1, x.2.2, s4.2)
def ltZ (T : Nat → Int) (t k : Nat) (s : pS) : Except Int (pS × Int × Int) := match pnZ T t s with
  | .error e => .error e
  | .ok y => if k = 2 then (match pnZ T t y.1 with
    | .error e => .error e
    | .ok z => .ok (z.1, y.2, z.2)) else .ok (y.1, y.2, 0)
theorem bd_lt {T : Nat → Int} {t k : Nat} (hk : k < 3) (s : pS) : bdZ T t ((19 + k : Nat) : Int) s = match ltZ T t k s with
  | .error e => .error e
  | .ok x => fgA T t ((19 + k : Nat) : Int) x := by
  unfold bdZ ltZ fgA
  rw [if_neg (by omega), if_neg (by omega)]
  cases pnZ T t s with
  | error e => rfl
  | ok y =>
    dsimp only
    by_cases w : k = 2
    · rw [if_pos (by omega), if_pos w]
      cases pnZ T t y.1 with
      | error e => rfl
      | ok z => rfl
    · rw [if_neg (by omega), if_neg w]
      rfl
theorem pn_st {T : Nat → Int} {t : Nat} {s : pS} {y : pS × Int} (h : pnZ T t s = .ok y) : y.1.2 = s.2 := by
  unfold pnZ at h
  by_cases w : tkZ T t s.1 ≤ 11
  · rw [if_pos w] at h; cases h; rfl
  · rw [if_neg w] at h; cases h
theorem fg_st {T : Nat → Int} {t : Nat} {m : Int} {s : pS} {y : pS × Int} (hv : fgZ T t m s = .ok y) : y.1.2 = s.2 := by
  unfold fgZ at hv
  by_cases u1 : tkZ T t s.1 = 39
  · rw [if_pos u1] at hv
    by_cases u2 : 0 ≤ nuZ T t s.1 ∧ nuZ T t s.1 ≤ m
    · rw [if_pos u2] at hv; cases hv; rfl
    · rw [if_neg u2] at hv; cases hv
  · rw [if_neg u1] at hv; cases hv
section MCLAUSE4
variable {E : Nat × (Nat → Int32)} {d : Nat} {I I0 I1 I' : Nat → Nat → Int32} {J : Nat → Nat → Int64} {A : Nat → Option Nat} {Q : Option Value → am_M → Prop} {M : am_M} {T : Nat → Int} {t r q i : Nat} {f c : Int} {L : List Int} {s : pS}
theorem m_cl147L {k : Nat} {x3 x4 : Int32} (hT : TM I0 T t) (hr : r < 6) (hi : i < 12) (hk : k < 3) (h : KS I0 I1 r i q f (s.2.1 : Nat) s.2.2) (hq : q ≤ 500) (e3 : x3 = iZ k) (e4 : x4 = iZ (12 * r + i : Nat)) (p1 : f ≠ 0 → ltZ T t k s = .error f) (p2 : f = 0 → ∃ x, ltZ T t k s = .ok x ∧ q ≤ t ∧ skp T t q = x.1.1 ∧ x.1.2 = s.2 ∧ I1 295 (12 * r + i) = iZ x.2.1 ∧ I1 296 (12 * r + i) = iZ x.2.2) (e5 : I1 294 = I 294 ∧ I1 298 = I 298)
    (hQ : ∀ I' q' f' c' L', HB I0 I I' T t r i k q' f' c' L' (bdZ T t ((19 + k : Nat) : Int) s) → wp E (d + 11) 211 183 [(0, .ref 265), (4, .int (iZ (12 * r + i : Nat)))] [] (mm I' J A) Q) : wp E (d + 11) 211 147 [(0, .ref 265), (3, .int x3), (4, .int x4)] [] (mm I1 J A) Q := by
  have fr : ∀ {I2 : Nat → Nat → Int32}, (∀ a, 294 ≤ a → a ≤ 300 → a ≠ 297 → I2 a = I1 a) → I2 294 = I 294 ∧ I2 298 = I 298 := fun p => ⟨(p 294 (by omega) (by omega) (by omega)).trans e5.1, (p 298 (by omega) (by omega) (by omega)).trans e5.2⟩
  by_cases f0 : f = 0
  · obtain ⟨x, w1, w2, w3, w4, w5, w6⟩ := p2 f0
    have bd : bdZ T t ((19 + k : Nat) : Int) s = fgA T t ((19 + k : Nat) : Int) x := by rw [bd_lt hk, w1]
    refine m_cl147 (k := k) (s := x.1) hT hr hi (by omega) h hq (fun _ => ⟨w2, w3⟩) e3 e4 (fun I2 q2 f2 v h2 o1 o2 o3 o4 o5 => hQ I2 q2 f2 _ _ ⟨h2, o1, fun w => ?_, fun w => ?_, (fr o5).1, (fr o5).2⟩)
    · have o3 := o3 f0
      rw [if_neg (by omega)] at o3
      rw [bd]
      unfold fgA
      cases hv : fgZ T t 9999 x.1 with
      | error e => rw [hv] at o3; show Except.error e = _; rw [o3.1]
      | ok y => rw [hv] at o3; exact absurd o3.1 w
    · have o3 := o3 f0
      rw [if_neg (by omega)] at o3
      rw [bd]
      unfold fgA
      cases hv : fgZ T t 9999 x.1 with
      | error e => rw [hv] at o3; exact absurd (o3.1.symm.trans w) o3.2
      | ok y =>
        rw [hv] at o3
        obtain ⟨u1, u2, u3, u4⟩ := o3
        have y2 := (fg_st hv).trans w4
        exact ⟨_, rfl, u3, u4, by show _ = ((y.1.2.1 : Nat) : Int); rw [y2], by show _ = y.1.2.2; rw [y2], fun _ => ⟨by rw [o5 295 (by omega) (by omega) (by omega)]; exact w5, by rw [o5 296 (by omega) (by omega) (by omega)]; exact w6⟩, fun _ => by rw [o4, u2]⟩
  · have bd : bdZ T t ((19 + k : Nat) : Int) s = .error f := by rw [bd_lt hk, p1 f0]
    refine m_cl147 (k := k) (s := s) hT hr hi (by omega) h hq (fun w => absurd w f0) e3 e4 (fun I2 q2 f2 v h2 o1 o2 o3 o4 o5 => hQ I2 q2 f2 _ _ ⟨h2, o1, fun w => ?_, fun w => ?_, (fr o5).1, (fr o5).2⟩)
    · rw [bd, o2 f0]
    · exact absurd ((o2 f0).symm.trans w) f0
theorem m_cl104l {k : Nat} {x3 x4 : Int32} (hT : TM I0 T t) (hr : r < 6) (hi : i < 12) (h36 : I0 265 36 = iZ 19) (hk : k < 3) (h : KS I0 I r i q 0 (s.2.1 : Nat) s.2.2) (hq : q ≤ t) (hs : skp T t q = s.1) (e3 : x3 = iZ k) (e4 : x4 = iZ (12 * r + i : Nat))
    (hQ : ∀ I' q' f' c' L', HB I0 I I' T t r i k q' f' c' L' (bdZ T t ((19 + k : Nat) : Int) s) → wp E (d + 11) 211 183 [(0, .ref 265), (4, .int (iZ (12 * r + i : Nat)))] [] (mm I' J A) Q) : wp E (d + 11) 211 104 [(0, .ref 265), (3, .int x3), (4, .int x4)] [] (mm I J A) Q := by
  subst e3; subst e4
  have t4 := hT.1
  have cl : (iZ ((12 * r + i : Nat) : Int)).toNatClampNeg = 12 * r + i := z_cln (by omega)
  have hin : vp_in (iZ ((12 * r + i : Nat) : Int)) 72 := z_in (by omega) (by omega) (by omega)
  have c3 : ¬ iZ 3 ≤ iZ (k : Int) := by ((try simp (disch := omega) only [z_i8, z_i16, z_of, z_ofN, z_lofN, z_0, z_1, z_m1, z_l0, z_l1, iZ_add, iZ_sub, iZ_mul, iZ_neg, lZ_add, lZ_sub, lZ_mul, lZ_neg, z_div, z_ldiv, z_l, z_i, z_lt, z_le, z_eq, z_llt, z_lle, z_leq, z_cgt, z_cge, z_clt, z_cle, z_ceq, z_cl, z_nat, Int.toNat_natCast, mm_I, mm_J, z_cln, z_abs, z_max, z_min, z_lmax, z_lmin, z_sin, Int.cast_ofNat_Int, uI_I, uI_J, uL_I, uL_J, uA_I, uA_J, sI_eq, sI_ne, sL_eq, sL_ne, up_eq, up_ne, uL_eq, uL_ne, z_toInt, Int.reduceToNat]) <;> omega)
  refine wf (hs := [120]) 60 104 (by decide) (wF c3 (And.intro rfl (m_letter (d := d + 5) (s := s) (KS_TM hT h.2.1) (KS_36 h36 h.2.1) h.1 hq hs (fun I2 q2 f2 v h2 p1 p2 p3 => And.intro hin ?_))))
  refine wp_keys [0, 3, 4] rfl rfl ?_
  obtain ⟨k2, e2⟩ := KS_re h h2
  have F : ∀ I3, I3 = setI I2 295 (iZ ((12 * r + i : Nat) : Int)).toNatClampNeg (iZ v) → wp E (d + 11) 211 120 [(0, .ref 265), (3, .int (iZ k)), (4, .int (iZ (12 * r + i : Nat)))] [] (mm I3 J A) Q := fun I3 hI3 => by
    have k3 : KS I0 I3 r i q2 f2 (s.2.1 : Nat) s.2.2 := by rw [hI3]; exact KS_row k2 (by omega) cl
    have r3 : I3 295 (12 * r + i) = iZ v := by rw [hI3, setI_at, if_pos ⟨rfl, cl.symm⟩]
    have f3 : ∀ a, 294 ≤ a → a ≤ 300 → a ≠ 295 → I3 a = I a := fun a w1 w2 w3 => by rw [← e2 a w1 w2, hI3]; funext j; rw [setI_at, if_neg (fun y => w3 y.1)]
    -- the second letter stored
    have G : ∀ I4 q4 f4 v4, KS I0 I4 r i q4 f4 (s.2.1 : Nat) s.2.2 → (∀ a, 294 ≤ a → a ≤ 300 → I4 a = I3 a) → q4 ≤ 500 → (f4 ≠ 0 → ltZ T t k s = .error f4) → (f4 = 0 → ∃ x, ltZ T t k s = .ok x ∧ q4 ≤ t ∧ skp T t q4 = x.1.1 ∧ x.1.2 = s.2 ∧ v = x.2.1 ∧ v4 = x.2.2) → wp E (d + 11) 211 147 [(0, .ref 265), (3, .int (iZ k)), (4, .int (iZ (12 * r + i : Nat)))] [] (mm (setI I4 296 (iZ ((12 * r + i : Nat) : Int)).toNatClampNeg (iZ v4)) J A) Q := fun I4 q4 f4 v4 k4 f4e o1 o2 o3 => by
      have at5 : ∀ a, a ≠ 296 → setI I4 296 (iZ ((12 * r + i : Nat) : Int)).toNatClampNeg (iZ v4) a = I4 a := fun a w => by funext j; rw [setI_at, if_neg (fun y => w y.1)]
      refine m_cl147L (d := d) (I := I) hT hr hi hk (KS_row (x := iZ v4) k4 (by omega) cl) o1 rfl rfl o2 (fun w => ?_) ⟨?_, ?_⟩ hQ
      · obtain ⟨x, u1, u2, u3, u4, u5, u6⟩ := o3 w
        refine ⟨x, u1, u2, u3, u4, ?_, ?_⟩
        · rw [at5 295 (by omega), f4e 295 (by omega) (by omega), ← u5]; exact r3
        · rw [setI_at, if_pos ⟨rfl, cl.symm⟩, u6]
      · rw [at5 294 (by omega), f4e 294 (by omega) (by omega)]; exact f3 294 (by omega) (by omega) (by omega)
      · rw [at5 298 (by omega), f4e 298 (by omega) (by omega)]; exact f3 298 (by omega) (by omega) (by omega)
    by_cases w2 : k = 2
    · subst w2
      by_cases f0 : f2 = 0
      · subst f0
        have c0 : I3 265 29 = 0 := k3.1.2.1
        cases hv : pnZ T t s with
        | error e => rw [hv] at p3; exact absurd p3.1.symm p3.2
        | ok y =>
          rw [hv] at p3
          obtain ⟨-, u2, u3, u4⟩ := p3
          have y2 := pn_st hv
          refine wf (hs := [147]) 60 120 (by decide) (wt rfl (wt c0 (And.intro rfl (m_letter (d := d + 5) (s := y.1) (KS_TM hT k3.2.1) (KS_36 h36 k3.2.1) k3.1 u3 u4 (fun I4 q4 f4 v4 h4 o1 o2 o3 => And.intro hin ?_)))))
          refine wp_keys [0, 3, 4] rfl rfl ?_
          obtain ⟨k4, e4⟩ := KS_re k3 h4
          refine G I4 q4 f4 v4 k4 e4 o1 (fun w => ?_) (fun w => ?_)
          · unfold ltZ
            rw [hv]
            dsimp only
            rw [if_pos rfl]
            cases hv2 : pnZ T t y.1 with
            | error e => rw [hv2] at o3; show Except.error e = _; rw [o3.1]
            | ok z => rw [hv2] at o3; exact absurd o3.1 w
          · unfold ltZ
            rw [hv]
            dsimp only
            rw [if_pos rfl]
            cases hv2 : pnZ T t y.1 with
            | error e => rw [hv2] at o3; exact absurd (o3.1.symm.trans w) o3.2
            | ok z =>
              rw [hv2] at o3
              exact ⟨_, rfl, o3.2.2.1, o3.2.2.2, (pn_st hv2).trans y2, u2, o3.2.1⟩
      · refine wf (hs := [147]) 60 120 (by decide) (wt rfl (wF (f_ne k3.1 f0) (And.intro hin ?_)))
        refine wp_keys [0, 3, 4] rfl rfl ?_
        refine G I3 q2 f2 0 k3 (fun _ _ _ => rfl) p1 (fun w => ?_) (fun w => absurd w f0)
        unfold ltZ
        cases hv : pnZ T t s with
        | error e => rw [hv] at p3; show Except.error e = _; rw [p3.1]
        | ok y => rw [hv] at p3; exact absurd p3.1 f0
    · have c2 : ¬ iZ (k : Int) = iZ 2 := by ((try simp (disch := omega) only [z_i8, z_i16, z_of, z_ofN, z_lofN, z_0, z_1, z_m1, z_l0, z_l1, iZ_add, iZ_sub, iZ_mul, iZ_neg, lZ_add, lZ_sub, lZ_mul, lZ_neg, z_div, z_ldiv, z_l, z_i, z_lt, z_le, z_eq, z_llt, z_lle, z_leq, z_cgt, z_cge, z_clt, z_cle, z_ceq, z_cl, z_nat, Int.toNat_natCast, mm_I, mm_J, z_cln, z_abs, z_max, z_min, z_lmax, z_lmin, z_sin, Int.cast_ofNat_Int, uI_I, uI_J, uL_I, uL_J, uA_I, uA_J, sI_eq, sI_ne, sL_eq, sL_ne, up_eq, up_ne, uL_eq, uL_ne, z_toInt, Int.reduceToNat]) <;> omega)
      refine wf (hs := [147]) 60 120 (by decide) (wF c2 (And.intro hin ?_))
      refine wp_keys [0, 3, 4] rfl rfl ?_
      refine G I3 q2 f2 0 k3 (fun _ _ _ => rfl) p1 (fun w => ?_) (fun w => ?_)
      · unfold ltZ
        cases hv : pnZ T t s with
        | error e => rw [hv] at p3; show Except.error e = _; rw [p3.1]
        | ok y => rw [hv] at p3; exact absurd p3.1 w
      · unfold ltZ
        cases hv : pnZ T t s with
        | error e => rw [hv] at p3; exact absurd (p3.1.symm.trans w) p3.2
        | ok y =>
          rw [hv] at p3
          dsimp only
          rw [if_neg w2]
          exact ⟨_, rfl, p3.2.2.1, p3.2.2.2, pn_st hv, p3.2.1, rfl⟩
  exact F _ rfl
end MCLAUSE4
