/-! ===== the class reads sums, facts, tests ===== -/
def GBk (t : Nat) (k : Int) (s : pS) : Prop := s.1 ≤ t ∧ s.2.1 ≤ 60 ∧ 3 * (s.2.2.length : Int) + k ≤ 6 * (s.2.1 : Int) + s.1
def CP (I0 I : Nat → Nat → Int32) (T : Nat → Int) (t m : Nat) (s : pS) : Prop := (∃ a : Nat, a ≤ m ∧ posN T t a = s.1 ∧ I 223 5 = iZ a) ∧ I 223 6 = iZ (s.2.1 : Nat) ∧ I 223 7 = iZ 0 ∧ I 224 8 = iZ (s.2.2.length : Nat) ∧ (∀ j, j < s.2.2.length → I 232 j = iZ (s.2.2.getD j 0)) ∧ (∀ a, a ≠ 223 → a ≠ 224 → a ≠ 232 → I a = I0 a) ∧ (∀ j, j ≠ 5 → j ≠ 6 → j ≠ 7 → I 223 j = I0 223 j) ∧ (∀ j, j ≠ 8 → I 224 j = I0 224 j) ∧ GBk t 0 s
def CFt (I0 I : Nat → Nat → Int32) (e : Int) : Prop := I 223 7 = iZ e ∧ ∀ a, a ≠ 223 → a ≠ 224 → a ≠ 232 → I a = I0 a
theorem GB_PP {t : Nat} {k : Int} {s s' : pS} (h : GBk t k s) (p : PPx t 0 1 3 s s') : GBk t (k + 3) s' := by
  obtain ⟨h1, h2, h3⟩ := h
  obtain ⟨p1, p2, e, p3, p4, p5⟩ := p
  refine ⟨p1.2, p2.2, ?_⟩
  rw [p3, List.length_append]
  omega
section CPARSE
variable {E : Nat × (Nat → Int32)} {d : Nat} {I I0 I1 : Nat → Nat → Int32} {J : Nat → Nat → Int64} {A : Nat → Option Nat} {Q : Option Value → am_M → Prop} {M : am_M} {T : Nat → Int} {t m : Nat} {s : pS}
theorem cp_tok (hK : TKS I0 T t m) (h : CP I0 I T t m s) : ∃ a : Nat, a ≤ m ∧ posN T t a = s.1 ∧ I 223 5 = iZ a ∧ I 223 1 = iZ ((m + 1 : Nat) : Int) ∧ I 233 a = iZ (tkZ T t s.1) ∧ I 234 a = iZ (s.1 : Nat) ∧ I 235 a = iZ (nuK T t s.1) := by
  obtain ⟨⟨a, h1, h2, h3⟩, -, -, -, -, f1, f2, -, -⟩ := h
  obtain ⟨-, k1, -, -, k2⟩ := hK
  have := k2 a h1
  rw [h2] at this
  exact ⟨a, h1, h2, h3, by rw [f2 1 (by omega) (by omega) (by omega)]; exact k1, by rw [f1 233 (by omega) (by omega) (by omega)]; exact this.1, by rw [f1 234 (by omega) (by omega) (by omega)]; exact this.2.1, by rw [f1 235 (by omega) (by omega) (by omega)]; exact this.2.2⟩
theorem c_token (hK : TKS I0 T t m) (h : CP I0 I T t m s) (hQ : Q (some (.int (iZ (tkZ T t s.1)))) (mm I J A)) : wpC E d 47 [.ref 223] (mm I J A) Q := by
  obtain ⟨a, h1, h2, h3, k1, k2, -, -⟩ := cp_tok hK h
  have m4 := hK.1
  have cl : (I 223 5).toNatClampNeg = a := by rw [h3]; exact z_cln (by omega)
  have hin : vp_in (I 223 5) 401 := by rw [h3]; exact z_in (by omega) (by omega) (by omega)
  have c0 : ¬ I 223 1 ≤ I 223 5 := by rw [h3, k1]; ((try simp (disch := omega) only [z_i8, z_i16, z_of, z_ofN, z_lofN, z_0, z_1, z_m1, z_l0, z_l1, iZ_add, iZ_sub, iZ_mul, iZ_neg, lZ_add, lZ_sub, lZ_mul, lZ_neg, z_div, z_ldiv, z_l, z_i, z_lt, z_le, z_eq, z_llt, z_lle, z_leq, z_cgt, z_cge, z_clt, z_cle, z_ceq, z_cl, z_nat, Int.toNat_natCast, mm_I, mm_J, z_cln, z_abs, z_max, z_min, z_lmax, z_lmin, z_sin, Int.cast_ofNat_Int, uI_I, uI_J, uL_I, uL_J, uA_I, uA_J, sI_eq, sI_ne, sL_eq, sL_ne, up_eq, up_ne, uL_eq, uL_ne, z_toInt, Int.reduceToNat]) <;> omega)
  refine wc (hs := []) 20 (by decide) (wF c0 (And.intro hin (q_i hQ ?_)))
  show I 233 (I 223 5).toNatClampNeg = _
  rw [cl]; exact k2
theorem c_fail {k : Int} {x : Int32} (hK : TKS I0 T t m) (h : CP I0 I T t m s) (ex : x = iZ k) (hQ : ∀ I', CFt I0 I' (flt k s.1) → Q (some (.int 0)) (mm I' J A)) : wpC E d 48 [.ref 223, .int x] (mm I J A) Q := by
  subst ex
  obtain ⟨a, h1, h2, h3, k1, -, k2, -⟩ := cp_tok hK h
  have m4 := hK.1
  have cl : (I 223 5).toNatClampNeg = a := by rw [h3]; exact z_cln (by omega)
  have hin : vp_in (I 223 5) 401 := by rw [h3]; exact z_in (by omega) (by omega) (by omega)
  have c0 : ¬ I 223 1 ≤ I 223 5 := by rw [h3, k1]; ((try simp (disch := omega) only [z_i8, z_i16, z_of, z_ofN, z_lofN, z_0, z_1, z_m1, z_l0, z_l1, iZ_add, iZ_sub, iZ_mul, iZ_neg, lZ_add, lZ_sub, lZ_mul, lZ_neg, z_div, z_ldiv, z_l, z_i, z_lt, z_le, z_eq, z_llt, z_lle, z_leq, z_cgt, z_cge, z_clt, z_cle, z_ceq, z_cl, z_nat, Int.toNat_natCast, mm_I, mm_J, z_cln, z_abs, z_max, z_min, z_lmax, z_lmin, z_sin, Int.cast_ofNat_Int, uI_I, uI_J, uL_I, uL_J, uA_I, uA_J, sI_eq, sI_ne, sL_eq, sL_ne, up_eq, up_ne, uL_eq, uL_ne, z_toInt, Int.reduceToNat]) <;> omega)
  have H := hQ (setI I 223 7 (iZ 1 + iZ 8 * I 234 (I 223 5).toNatClampNeg + iZ k)) ⟨?_, fun a q1 q2 q3 => ?_⟩
  · exact wc (hs := []) 30 (by decide) (wF c0 (And.intro hin (And.intro rfl H)))
  · rw [setI_at, if_pos ⟨rfl, rfl⟩, cl, k2, iZ_mul, iZ_add, iZ_add]; rfl
  · rw [← h.2.2.2.2.2.1 a q1 q2 q3]
    funext j
    rw [setI_at, if_neg (fun q => q1 q.1)]
theorem cp_stp (hK : TKS I0 T t m) (h : CP I0 I T t m s) (hp : s.1 < t) : CP I0 (setI I 223 5 (I 223 5 + iZ 1)) T t m (stp1 T t s) := by
  obtain ⟨⟨a, h1, h2, h3⟩, g1, g2, g3, g4, f1, f2, f3, g5⟩ := h
  obtain ⟨-, -, k1, k2, -⟩ := hK
  have nb := nx_b (T := T) hp
  have am : a < m := by
    apply Classical.byContradiction
    intro q
    have : a = m := by omega
    rw [this, k1] at h2
    omega
  have at1 : ∀ c j, c ≠ 223 ∨ j ≠ 5 → setI I 223 5 (I 223 5 + iZ 1) c j = I c j := fun c j q => by rw [setI_at, if_neg (by omega)]
  refine ⟨⟨a + 1, by omega, ?_, ?_⟩, ?_, ?_, ?_, fun j hj => ?_, fun c q1 q2 q3 => ?_, fun j q1 q2 q3 => ?_, fun j q1 => ?_, ⟨nb.2, g5.2.1, ?_⟩⟩
  · show nxZ T t (posN T t a) = nxZ T t s.1
    rw [h2]
  · rw [setI_at, if_pos ⟨rfl, rfl⟩, h3, iZ_add]; rfl
  · rw [at1 223 6 (by omega)]; exact g1
  · rw [at1 223 7 (by omega)]; exact g2
  · rw [at1 224 8 (by omega)]; exact g3
  · rw [at1 232 j (by omega)]; exact g4 j hj
  · rw [← f1 c q1 q2 q3]; funext j; exact at1 c j (by omega)
  · rw [at1 223 j (by omega)]; exact f2 j q1 q2 q3
  · rw [at1 224 j (by omega)]; exact f3 j q1
  · have := g5.2.2
    show 3 * (s.2.2.length : Int) + 0 ≤ 6 * (s.2.1 : Int) + (nxZ T t s.1 : Int)
    omega
theorem cp_cnt (h : CP I0 I T t m s) (hc : s.2.1 < 60) : CP I0 (setI I 223 6 (I 223 6 + iZ 1)) T t m (s.1, s.2.1 + 1, s.2.2) := by
  obtain ⟨⟨a, h1, h2, h3⟩, g1, g2, g3, g4, f1, f2, f3, g5⟩ := h
  have at1 : ∀ c j, c ≠ 223 ∨ j ≠ 6 → setI I 223 6 (I 223 6 + iZ 1) c j = I c j := fun c j q => by rw [setI_at, if_neg (by omega)]
  refine ⟨⟨a, h1, h2, by rw [at1 223 5 (by omega)]; exact h3⟩, ?_, ?_, ?_, fun j hj => ?_, fun c q1 q2 q3 => ?_, fun j q1 q2 q3 => ?_, fun j q1 => ?_, ⟨g5.1, by show s.2.1 + 1 ≤ 60; omega, ?_⟩⟩
  · rw [setI_at, if_pos ⟨rfl, rfl⟩, g1, iZ_add]; rfl
  · rw [at1 223 7 (by omega)]; exact g2
  · rw [at1 224 8 (by omega)]; exact g3
  · rw [at1 232 j (by omega)]; exact g4 j hj
  · rw [← f1 c q1 q2 q3]; funext j; exact at1 c j (by omega)
  · rw [at1 223 j (by omega)]; exact f2 j q1 q2 q3
  · rw [at1 224 j (by omega)]; exact f3 j q1
  · have := g5.2.2
    show 3 * (s.2.2.length : Int) + 0 ≤ 6 * ((s.2.1 + 1 : Nat) : Int) + (s.1 : Int)
    omega
theorem c_emit {x : Int} {y : Int32} (h : CP I0 I T t m s) (h4 : t ≤ 400) (hg : GBk t 3 s) (ey : y = iZ x) (hQ : ∀ I', CP I0 I' T t m (apL x s) → Q none (mm I' J A)) : wpC E d 49 [.ref 223, .int y] (mm I J A) Q := by
  subst ey
  obtain ⟨⟨a, h1, h2, h3⟩, g1, g2, g3, g4, f1, f2, f3, g5⟩ := h
  have l4 : s.2.2.length < 400 := by have := hg.2.2; have := hg.2.1; have := hg.1; omega
  have cl : (I 224 8).toNatClampNeg = s.2.2.length := by rw [g3]; exact z_cln (by omega)
  have hin : vp_in (I 224 8) 400 := by rw [g3]; exact z_in (by omega) (by omega) (by omega)
  have c0 : ¬ iZ 400 ≤ I 224 8 := by rw [g3]; ((try simp (disch := omega) only [z_i8, z_i16, z_of, z_ofN, z_lofN, z_0, z_1, z_m1, z_l0, z_l1, iZ_add, iZ_sub, iZ_mul, iZ_neg, lZ_add, lZ_sub, lZ_mul, lZ_neg, z_div, z_ldiv, z_l, z_i, z_lt, z_le, z_eq, z_llt, z_lle, z_leq, z_cgt, z_cge, z_clt, z_cle, z_ceq, z_cl, z_nat, Int.toNat_natCast, mm_I, mm_J, z_cln, z_abs, z_max, z_min, z_lmax, z_lmin, z_sin, Int.cast_ofNat_Int, uI_I, uI_J, uL_I, uL_J, uA_I, uA_J, sI_eq, sI_ne, sL_eq, sL_ne, up_eq, up_ne, uL_eq, uL_ne, z_toInt, Int.reduceToNat]) <;> omega)
  have at1 : ∀ c j, setI (setI I 232 (I 224 8).toNatClampNeg (iZ x)) 224 8 (setI I 232 (I 224 8).toNatClampNeg (iZ x) 224 8 + iZ 1) c j = if c = 224 ∧ j = 8 then iZ ((s.2.2.length + 1 : Nat) : Int) else if c = 232 ∧ j = s.2.2.length then iZ x else I c j := fun c j => by
    rw [setI_at, setI_at, setI_at, if_neg (show ¬ ((224 : Nat) = 232 ∧ (8 : Nat) = (I 224 8).toNatClampNeg) by omega), cl, g3, iZ_add]; rfl
  have H := hQ (setI (setI I 232 (I 224 8).toNatClampNeg (iZ x)) 224 8 (setI I 232 (I 224 8).toNatClampNeg (iZ x) 224 8 + iZ 1)) ⟨⟨a, h1, h2, by rw [at1, if_neg (by omega), if_neg (by omega)]; exact h3⟩, by rw [at1, if_neg (by omega), if_neg (by omega)]; exact g1, by rw [at1, if_neg (by omega), if_neg (by omega)]; exact g2, ?_, fun j hj => ?_, fun c q1 q2 q3 => ?_, fun j q1 q2 q3 => by rw [at1, if_neg (by omega), if_neg (by omega)]; exact f2 j q1 q2 q3, fun j q1 => by rw [at1, if_neg (by omega), if_neg (by omega)]; exact f3 j q1, ⟨hg.1, hg.2.1, ?_⟩⟩
  · exact wc (hs := []) 30 (by decide) (wF c0 (And.intro hin H))
  · rw [at1, if_pos ⟨rfl, rfl⟩]
    show _ = iZ (((s.2.2 ++ [x]).length : Nat) : Int)
    rw [List.length_append]; rfl
  · have hj : j < (s.2.2 ++ [x]).length := hj
    rw [List.length_append] at hj
    have l1 : [x].length = 1 := rfl
    rw [l1] at hj
    rw [at1, if_neg (by omega)]
    show _ = iZ ((s.2.2 ++ [x]).getD j 0)
    rw [List.getD_eq_getElem?_getD]
    by_cases q : j = s.2.2.length
    · rw [if_pos ⟨rfl, q⟩, q, List.getElem?_append_right (Nat.le_refl _), Nat.sub_self]; rfl
    · rw [if_neg (fun y => q y.2), List.getElem?_append_left (by omega), ← List.getD_eq_getElem?_getD]
      exact g4 j (by omega)
  · rw [← f1 c q1 q2 q3]; funext j
    rw [at1, if_neg (by omega), if_neg (by omega)]
  · have := hg.2.2
    show 3 * (((s.2.2 ++ [x]).length : Nat) : Int) + 0 ≤ 6 * (s.2.1 : Int) + (s.1 : Int)
    rw [List.length_append]
    have l1 : [x].length = 1 := rfl
    omega
theorem c_value (hK : TKS I0 T t m) (h4 : t ≤ 400) (hT : ∀ i, i < t → 0 ≤ T i ∧ T i ≤ 255) (h : CP I0 I T t m s) (h1 : ∀ s' I', vlZ T t s = .ok s' → CP I0 I' T t m s' → Q (some (.int 1)) (mm I' J A)) (h0 : ∀ e I', vlZ T t s = .error e → CFt I0 I' e → Q (some (.int 0)) (mm I' J A)) : wpC E (d + 1) 57 [.ref 223] (mm I J A) Q := by
  obtain ⟨p, c, L⟩ := s
  obtain ⟨a, a1, a2, a3, k1, k2, k3, k4⟩ := cp_tok hK h
  have m4 := hK.1
  have tr := tk_rng (T := T) (t := t) (p := p)
  have g6 : I 223 6 = iZ (c : Nat) := h.2.1
  have gb : p ≤ t ∧ c ≤ 60 ∧ 3 * (L.length : Int) + 0 ≤ 6 * (c : Int) + p := h.2.2.2.2.2.2.2.2
  have cl : (I 223 5).toNatClampNeg = a := by rw [a3]; exact z_cln (by omega)
  have hin : vp_in (I 223 5) 401 := by rw [a3]; exact z_in (by omega) (by omega) (by omega)
  unfold vlZ at h1 h0
  dsimp only at h1 h0 k2 k4
  -- from counted on
  have CNT : ∀ (nb : Bool) (x : Int), (nb = true → 0 ≤ nuZ T t p ∧ nuZ T t p ≤ 99999 ∧ tkZ T t p = 39 ∧ x = 100 + nuZ T t p) → (nb = false → x = tkZ T t p) → p < t → (¬ 60 ≤ c → ∀ I', CP I0 I' T t m (nxZ T t p, c + 1, L ++ [x]) → Q (some (.int 1)) (mm I' J A)) → (60 ≤ c → ∀ I', CFt I0 I' (flt 3 p) → Q (some (.int 0)) (mm I' J A)) → wp E (d + 1) 57 60 [(0, .ref 223), (1, .int (iZ (tB nb)))] [] (mm I J A) Q := fun nb x hn hn2 pt o1 o0 => by
    by_cases q3 : 60 ≤ c
    · have c6 : ¬ I 223 6 < iZ 60 := by rw [g6]; ((try simp (disch := omega) only [z_i8, z_i16, z_of, z_ofN, z_lofN, z_0, z_1, z_m1, z_l0, z_l1, iZ_add, iZ_sub, iZ_mul, iZ_neg, lZ_add, lZ_sub, lZ_mul, lZ_neg, z_div, z_ldiv, z_l, z_i, z_lt, z_le, z_eq, z_llt, z_lle, z_leq, z_cgt, z_cge, z_clt, z_cle, z_ceq, z_cl, z_nat, Int.toNat_natCast, mm_I, mm_J, z_cln, z_abs, z_max, z_min, z_lmax, z_lmin, z_sin, Int.cast_ofNat_Int, uI_I, uI_J, uL_I, uL_J, uA_I, uA_J, sI_eq, sI_ne, sL_eq, sL_ne, up_eq, up_ne, uL_eq, uL_ne, z_toInt, Int.reduceToNat]) <;> omega)
      refine wf (hs := []) 30 60 (by decide) (wF c6 (And.intro rfl (c_fail hK h rfl (fun I' hf => And.intro rfl (o0 q3 I' hf)))))
    · have c6 : I 223 6 < iZ 60 := by have := gb.2.1; rw [g6]; ((try simp (disch := omega) only [z_i8, z_i16, z_of, z_ofN, z_lofN, z_0, z_1, z_m1, z_l0, z_l1, iZ_add, iZ_sub, iZ_mul, iZ_neg, lZ_add, lZ_sub, lZ_mul, lZ_neg, z_div, z_ldiv, z_l, z_i, z_lt, z_le, z_eq, z_llt, z_lle, z_leq, z_cgt, z_cge, z_clt, z_cle, z_ceq, z_cl, z_nat, Int.toNat_natCast, mm_I, mm_J, z_cln, z_abs, z_max, z_min, z_lmax, z_lmin, z_sin, Int.cast_ofNat_Int, uI_I, uI_J, uL_I, uL_J, uA_I, uA_J, sI_eq, sI_ne, sL_eq, sL_ne, up_eq, up_ne, uL_eq, uL_ne, z_toInt, Int.reduceToNat]) <;> omega)
      have hc := cp_cnt h (by show c < 60; omega)
      have EM : ∀ y : Int32, y = iZ x → wp E (d + 1) 57 109 [(0, .ref 223), (1, .int (iZ (tB nb)))] [.int y, .ref 223] (mm (setI I 223 6 (I 223 6 + iZ 1)) J A) Q := fun y ey => by
        refine wf (hs := []) 40 109 (by decide) (And.intro rfl (c_emit hc h4 ⟨gb.1, by show c + 1 ≤ 60; omega, by have := gb.2.2; show 3 * (L.length : Int) + 3 ≤ 6 * ((c + 1 : Nat) : Int) + (p : Int); omega⟩ ey (fun I2 hc2 => ?_)))
        exact And.intro rfl (o1 q3 _ (cp_stp hK hc2 pt))
      cases nb with
      | true =>
        obtain ⟨n1, n2, n3, rfl⟩ := hn rfl
        have in2 : vp_in (setI I 223 6 (I 223 6 + iZ 1) 223 5) 401 := by rw [setI_at, if_neg (by omega)]; exact hin
        refine wf (hs := [109]) 40 60 (by decide) (wt c6 (wF (by decide) (And.intro in2 (EM _ ?_))))
        show iZ 100 + setI I 223 6 (I 223 6 + iZ 1) 235 (setI I 223 6 (I 223 6 + iZ 1) 223 5).toNatClampNeg = _
        rw [setI_at, if_neg (by omega), setI_at, if_neg (by omega), cl, k4]
        unfold nuK
        rw [if_pos n3, iZ_add]
      | false =>
        have e := hn2 rfl
        subst e
        refine wf (hs := [109]) 40 60 (by decide) (wt c6 (wt rfl (And.intro rfl (c_token hK hc (EM _ rfl)))))
  by_cases q1 : tkZ T t p = 39
  · have pt := tk_lt (T := T) (t := t) (p := p) (by omega)
    have nr := nu_rng hT (p := p) (by omega)
    rw [if_pos q1] at h1 h0
    have e5 : I 235 (I 223 5).toNatClampNeg = iZ (nuZ T t p) := by
      rw [cl, k4]; unfold nuK; rw [if_pos q1]
    refine wc (hs := [60]) 40 (by decide) (And.intro rfl (c_token hK h ?_))
    refine wt (by show iZ (tkZ T t p) = iZ 39; rw [q1]) (wF (by decide) (wF (by decide) (And.intro hin ?_)))
    by_cases q2 : nuZ T t p < 0
    · rw [if_pos q2] at h0
      have c0 : ¬ (0 : Int32) ≤ I 235 (I 223 5).toNatClampNeg := by
        rw [e5]
        show ¬ iZ 0 ≤ iZ _
        ((try simp (disch := omega) only [z_i8, z_i16, z_of, z_ofN, z_lofN, z_0, z_1, z_m1, z_l0, z_l1, iZ_add, iZ_sub, iZ_mul, iZ_neg, lZ_add, lZ_sub, lZ_mul, lZ_neg, z_div, z_ldiv, z_l, z_i, z_lt, z_le, z_eq, z_llt, z_lle, z_leq, z_cgt, z_cge, z_clt, z_cle, z_ceq, z_cl, z_nat, Int.toNat_natCast, mm_I, mm_J, z_cln, z_abs, z_max, z_min, z_lmax, z_lmin, z_sin, Int.cast_ofNat_Int, uI_I, uI_J, uL_I, uL_J, uA_I, uA_J, sI_eq, sI_ne, sL_eq, sL_ne, up_eq, up_ne, uL_eq, uL_ne, z_toInt, Int.reduceToNat]) <;> omega)
      exact wF c0 (And.intro rfl (c_fail hK h rfl (fun I' hf => And.intro rfl (h0 _ I' rfl hf))))
    · rw [if_neg q2] at h1 h0
      have c0 : (0 : Int32) ≤ I 235 (I 223 5).toNatClampNeg := by
        rw [e5]
        show iZ 0 ≤ iZ _
        ((try simp (disch := omega) only [z_i8, z_i16, z_of, z_ofN, z_lofN, z_0, z_1, z_m1, z_l0, z_l1, iZ_add, iZ_sub, iZ_mul, iZ_neg, lZ_add, lZ_sub, lZ_mul, lZ_neg, z_div, z_ldiv, z_l, z_i, z_lt, z_le, z_eq, z_llt, z_lle, z_leq, z_cgt, z_cge, z_clt, z_cle, z_ceq, z_cl, z_nat, Int.toNat_natCast, mm_I, mm_J, z_cln, z_abs, z_max, z_min, z_lmax, z_lmin, z_sin, Int.cast_ofNat_Int, uI_I, uI_J, uL_I, uL_J, uA_I, uA_J, sI_eq, sI_ne, sL_eq, sL_ne, up_eq, up_ne, uL_eq, uL_ne, z_toInt, Int.reduceToNat]) <;> omega)
      refine wt c0 ?_
      refine wp_keys [0, 1] rfl rfl ?_
      refine CNT true (100 + nuZ T t p) (fun _ => ⟨by omega, by omega, q1, rfl⟩) (fun q => by cases q) pt (fun q3 I' hc => ?_) (fun q3 I' hf => ?_)
      · rw [if_neg q3] at h1; exact h1 _ I' rfl hc
      · rw [if_pos q3] at h0; exact h0 _ I' rfl hf
  · rw [if_neg q1] at h1 h0
    refine wc (hs := [60]) 40 (by decide) (And.intro rfl (c_token hK h ?_))
    refine wF (by show ¬ iZ (tkZ T t p) = iZ 39; ((try simp (disch := omega) only [z_i8, z_i16, z_of, z_ofN, z_lofN, z_0, z_1, z_m1, z_l0, z_l1, iZ_add, iZ_sub, iZ_mul, iZ_neg, lZ_add, lZ_sub, lZ_mul, lZ_neg, z_div, z_ldiv, z_l, z_i, z_lt, z_le, z_eq, z_llt, z_lle, z_leq, z_cgt, z_cge, z_clt, z_cle, z_ceq, z_cl, z_nat, Int.toNat_natCast, mm_I, mm_J, z_cln, z_abs, z_max, z_min, z_lmax, z_lmin, z_sin, Int.cast_ofNat_Int, uI_I, uI_J, uL_I, uL_J, uA_I, uA_J, sI_eq, sI_ne, sL_eq, sL_ne, up_eq, up_ne, uL_eq, uL_ne, z_toInt, Int.reduceToNat]) <;> omega)) (wt rfl (And.intro rfl (c_token hK h ?_)))
    refine And.intro rfl (cW (z := tkZ T t p) (lo := 0) (hi := 18) rfl rfl rfl (by omega) (by omega) (by omega) (fun g => wF (by decide) ?_) (fun g => wt rfl ?_))
    · rw [if_pos g.2] at h1 h0
      have pt := tk_lt (T := T) (t := t) (p := p) (by omega)
      refine wt rfl ?_
      refine wp_keys [0, 1] rfl rfl ?_
      refine CNT false (tkZ T t p) (fun q => by cases q) (fun _ => rfl) pt (fun q3 I' hc => ?_) (fun q3 I' hf => ?_)
      · rw [if_neg q3] at h1; exact h1 _ I' rfl hc
      · rw [if_pos q3] at h0; exact h0 _ I' rfl hf
    · rw [if_neg (by omega)] at h0
      exact And.intro rfl (c_fail hK h rfl (fun I' hf => And.intro rfl (h0 _ I' rfl hf)))
theorem c_sum (hK : TKS I0 T t m) (h4 : t ≤ 400) (hT : ∀ i, i < t → 0 ≤ T i ∧ T i ≤ 255) (h : CP I0 I T t m s) (h1 : ∀ s' I', sumZ T t s = .ok s' → CP I0 I' T t m s' → Q (some (.int 1)) (mm I' J A)) (h0 : ∀ e I', sumZ T t s = .error e → CFt I0 I' e → Q (some (.int 0)) (mm I' J A)) : wpC E (d + 2) 56 [.ref 223] (mm I J A) Q := by
  rw [← cs_sum h4 hT h.2.2.2.2.2.2.2.2.1] at h1 h0
  obtain ⟨RES, hRES⟩ : ∃ R, R = csL T t 401 0 0 s := ⟨_, rfl⟩
  rw [← hRES] at h1 h0
  have L : ∀ (n i : Nat) (a b : Int) (s : pS) (I : Nat → Nat → Int32) (x1 x2 x3 : Int32), i + n = 401 → i ≤ s.1 → (a = 0 ∨ a = 29 ∨ a = 30) → (b = 0 ∨ b = 27 ∨ b = 28) → CP I0 I T t m s → GBk t ((if a = 0 then 0 else 3) + (if b = 0 then 0 else 3)) s → csL T t n a b s = RES → x1 = iZ a → x2 = iZ b → x3 = iZ i → wp E (d + 2) 56 6 [(0, .ref 223), (1, .int x1), (2, .int x2), (3, .int x3)] [] (mm I J A) Q := by
    intro n
    induction n with
    | zero =>
      intro i a b s I x1 x2 x3 hi hp ha hb h hg he e1 e2 e3
      have := hg.1
      omega
    | succ n ih =>
      intro i a b s I x1 x2 x3 hi hp ha hb h hg he e1 e2 e3
      subst e1; subst e2; subst e3
      unfold csL at he
      refine wf (hs := [6, 22]) 40 6 (by decide) (wF (by have := hg.1; ((try simp (disch := omega) only [z_i8, z_i16, z_of, z_ofN, z_lofN, z_0, z_1, z_m1, z_l0, z_l1, iZ_add, iZ_sub, iZ_mul, iZ_neg, lZ_add, lZ_sub, lZ_mul, lZ_neg, z_div, z_ldiv, z_l, z_i, z_lt, z_le, z_eq, z_llt, z_lle, z_leq, z_cgt, z_cge, z_clt, z_cle, z_ceq, z_cl, z_nat, Int.toNat_natCast, mm_I, mm_J, z_cln, z_abs, z_max, z_min, z_lmax, z_lmin, z_sin, Int.cast_ofNat_Int, uI_I, uI_J, uL_I, uL_J, uA_I, uA_J, sI_eq, sI_ne, sL_eq, sL_ne, up_eq, up_ne, uL_eq, uL_ne, z_toInt, Int.reduceToNat]) <;> omega)) (And.intro rfl (c_value hK h4 hT h (fun s1 I1 hv hc1 => wF (by decide) ?_) (fun e I1 hv hf => wt rfl (And.intro rfl (h0 e I1 ?_ hf))))))
      · rw [hv] at he
        have pp := vl_ok hT hv
        have p1 := pp.1
        have tr := tk_rng (T := T) (t := t) (p := s1.1)
        have g1 := GB_PP hg pp
        have he : (if tkZ T t s1.1 = 29 ∨ tkZ T t s1.1 = 30 then csL T t n (tkZ T t s1.1) b (stp1 T t (apB (decide (a ≠ 0)) a s1)) else if tkZ T t s1.1 = 27 ∨ tkZ T t s1.1 = 28 then csL T t n 0 (tkZ T t s1.1) (stp1 T t (apB (decide (b ≠ 0)) b (apB (decide (a ≠ 0)) a s1))) else .ok (apB (decide (b ≠ 0)) b (apB (decide (a ≠ 0)) a s1))) = RES := he
        generalize hs2 : apB (decide (a ≠ 0)) a s1 = s2 at he
        have e2 : s2.1 = s1.1 := by rw [← hs2]; exact apB_1
        -- behind the last sign of a sum
        have B31 : ∀ I2, CP I0 I2 T t m s2 → GBk t (3 + (if b = 0 then 0 else 3)) s2 → wp E (d + 2) 56 31 [(0, .ref 223), (1, .int (iZ a)), (2, .int (iZ b)), (3, .int (iZ i))] [] (mm I2 J A) Q := fun I2 hc2 g2 => by
          have ek : tkZ T t s2.1 = tkZ T t s1.1 := by rw [e2]
          rw [← ek] at he tr
          have B67 : ∀ s3 I3, s3.1 = s2.1 → CP I0 I3 T t m s3 → GBk t 3 s3 → ¬ (tkZ T t s2.1 = 29 ∨ tkZ T t s2.1 = 30) → (if tkZ T t s2.1 = 27 ∨ tkZ T t s2.1 = 28 then csL T t n 0 (tkZ T t s2.1) (stp1 T t s3) else .ok s3) = RES → wp E (d + 2) 56 67 [(0, .ref 223), (1, .int (iZ 0)), (2, .int (iZ b)), (3, .int (iZ i))] [] (mm I3 J A) Q := fun s3 I3 e3 hc3 g3 nq he3 => by
            refine wf (hs := [6, 96]) 60 67 (by decide) (And.intro rfl (c_token hK hc3 ?_))
            rw [e3]
            refine And.intro rfl (cW (z := tkZ T t s2.1) (lo := 27) (hi := 28) rfl rfl rfl (by omega) (by omega) (by omega) (fun g => wF (by decide) (And.intro rfl (c_token hK hc3 ?_))) (fun g => wt rfl (wt rfl ?_)))
            · rw [e3]
              have q2 : tkZ T t s2.1 = 27 ∨ tkZ T t s2.1 = 28 := by omega
              rw [if_pos q2] at he3
              have n0 : ¬ iZ (tkZ T t s2.1) = 0 := by
                show ¬ iZ _ = iZ 0
                ((try simp (disch := omega) only [z_i8, z_i16, z_of, z_ofN, z_lofN, z_0, z_1, z_m1, z_l0, z_l1, iZ_add, iZ_sub, iZ_mul, iZ_neg, lZ_add, lZ_sub, lZ_mul, lZ_neg, z_div, z_ldiv, z_l, z_i, z_lt, z_le, z_eq, z_llt, z_lle, z_leq, z_cgt, z_cge, z_clt, z_cle, z_ceq, z_cl, z_nat, Int.toNat_natCast, mm_I, mm_J, z_cln, z_abs, z_max, z_min, z_lmax, z_lmin, z_sin, Int.cast_ofNat_Int, uI_I, uI_J, uL_I, uL_J, uA_I, uA_J, sI_eq, sI_ne, sL_eq, sL_ne, up_eq, up_ne, uL_eq, uL_ne, z_toInt, Int.reduceToNat]) <;> omega)
              refine wF n0 ?_
              have pt := tk_lt (T := T) (t := t) (p := s3.1) (by rw [e3]; omega)
              have nb := nx_b (T := T) pt
              refine wp_keys [0, 1, 2, 3] rfl rfl ?_
              refine wf (hs := [6]) 20 96 (by decide) ?_
              refine wp_keys [0, 1, 2, 3] rfl rfl ?_
              refine ih (i + 1) 0 (tkZ T t s2.1) (stp1 T t s3) _ _ _ _ (by omega) (by show i + 1 ≤ nxZ T t s3.1; rw [e3] at nb ⊢; omega) (Or.inl rfl) (Or.inr q2) (cp_stp hK hc3 pt) ⟨nb.2, g3.2.1, ?_⟩ he3 rfl rfl (iZ_add i 1)
              rw [if_pos rfl, if_neg (by omega)]
              have := g3.2.2
              show 3 * (s3.2.2.length : Int) + (0 + 3) ≤ 6 * (s3.2.1 : Int) + (nxZ T t s3.1 : Int)
              omega
            · rw [if_neg (by omega)] at he3
              exact And.intro rfl (h1 s3 I3 he3.symm hc3)
          refine wf (hs := [6, 58, 96]) 60 31 (by decide) (And.intro rfl (c_token hK hc2 ?_))
          refine And.intro rfl (cW (z := tkZ T t s2.1) (lo := 29) (hi := 30) rfl rfl rfl (by omega) (by omega) (by omega) (fun g => wF (by decide) (And.intro rfl (c_token hK hc2 ?_))) (fun g => wt rfl (wt rfl ?_)))
          · have q2 : tkZ T t s2.1 = 29 ∨ tkZ T t s2.1 = 30 := by omega
            rw [if_pos q2] at he
            have n0 : ¬ iZ (tkZ T t s2.1) = 0 := by
              show ¬ iZ _ = iZ 0
              ((try simp (disch := omega) only [z_i8, z_i16, z_of, z_ofN, z_lofN, z_0, z_1, z_m1, z_l0, z_l1, iZ_add, iZ_sub, iZ_mul, iZ_neg, lZ_add, lZ_sub, lZ_mul, lZ_neg, z_div, z_ldiv, z_l, z_i, z_lt, z_le, z_eq, z_llt, z_lle, z_leq, z_cgt, z_cge, z_clt, z_cle, z_ceq, z_cl, z_nat, Int.toNat_natCast, mm_I, mm_J, z_cln, z_abs, z_max, z_min, z_lmax, z_lmin, z_sin, Int.cast_ofNat_Int, uI_I, uI_J, uL_I, uL_J, uA_I, uA_J, sI_eq, sI_ne, sL_eq, sL_ne, up_eq, up_ne, uL_eq, uL_ne, z_toInt, Int.reduceToNat]) <;> omega)
            refine wF n0 ?_
            have pt := tk_lt (T := T) (t := t) (p := s2.1) (by omega)
            have nb := nx_b (T := T) pt
            refine wp_keys [0, 1, 2, 3] rfl rfl ?_
            refine wf (hs := [6]) 20 96 (by decide) ?_
            refine wp_keys [0, 1, 2, 3] rfl rfl ?_
            refine ih (i + 1) (tkZ T t s2.1) b (stp1 T t s2) _ _ _ _ (by omega) (by show i + 1 ≤ nxZ T t s2.1; omega) (Or.inr q2) hb (cp_stp hK hc2 pt) ⟨nb.2, g2.2.1, ?_⟩ he rfl rfl (iZ_add i 1)
            rw [if_neg (by omega)]
            have := g2.2.2
            show 3 * (s2.2.2.length : Int) + (3 + (if b = 0 then 0 else 3)) ≤ 6 * (s2.2.1 : Int) + (nxZ T t s2.1 : Int)
            omega
          · have q2 : ¬ (tkZ T t s2.1 = 29 ∨ tkZ T t s2.1 = 30) := by omega
            rw [if_neg q2] at he
            refine wp_keys [0, 1, 2, 3] rfl rfl ?_
            by_cases b0 : b = 0
            · subst b0
              rw [if_pos rfl] at g2
              exact wf (hs := [67]) 20 58 (by decide) (wt rfl (B67 s2 I2 rfl hc2 (by rw [Int.add_zero] at g2; exact g2) q2 he))
            · have n0 : ¬ iZ b = 0 := by
                show ¬ iZ _ = iZ 0
                ((try simp (disch := omega) only [z_i8, z_i16, z_of, z_ofN, z_lofN, z_0, z_1, z_m1, z_l0, z_l1, iZ_add, iZ_sub, iZ_mul, iZ_neg, lZ_add, lZ_sub, lZ_mul, lZ_neg, z_div, z_ldiv, z_l, z_i, z_lt, z_le, z_eq, z_llt, z_lle, z_leq, z_cgt, z_cge, z_clt, z_cle, z_ceq, z_cl, z_nat, Int.toNat_natCast, mm_I, mm_J, z_cln, z_abs, z_max, z_min, z_lmax, z_lmin, z_sin, Int.cast_ofNat_Int, uI_I, uI_J, uL_I, uL_J, uA_I, uA_J, sI_eq, sI_ne, sL_eq, sL_ne, up_eq, up_ne, uL_eq, uL_ne, z_toInt, Int.reduceToNat]) <;> omega)
              rw [if_neg b0] at g2
              have db : decide (b ≠ 0) = true := decide_eq_true b0
              rw [db] at he
              refine wf (hs := [67]) 20 58 (by decide) (wF n0 (And.intro rfl (c_emit hc2 h4 ⟨g2.1, g2.2.1, by have := g2.2.2; omega⟩ rfl (fun I3 hc3 => ?_))))
              refine B67 (apL b s2) I3 rfl hc3 ⟨g2.1, g2.2.1, ?_⟩ q2 he
              have := g2.2.2
              show 3 * (((s2.2.2 ++ [b]).length : Nat) : Int) + 3 ≤ 6 * (s2.2.1 : Int) + (s2.1 : Int)
              rw [List.length_append]
              have l1 : [b].length = 1 := rfl
              omega
        refine wp_keys [0, 1, 2, 3] rfl rfl ?_
        by_cases a0 : a = 0
        · subst a0
          have : s2 = s1 := hs2.symm
          subst this
          rw [if_pos rfl] at g1
          exact wf (hs := [31]) 20 22 (by decide) (wt rfl (B31 I1 hc1 ⟨g1.1, g1.2.1, by have := g1.2.2; omega⟩))
        · have n0 : ¬ iZ a = 0 := by
            show ¬ iZ _ = iZ 0
            ((try simp (disch := omega) only [z_i8, z_i16, z_of, z_ofN, z_lofN, z_0, z_1, z_m1, z_l0, z_l1, iZ_add, iZ_sub, iZ_mul, iZ_neg, lZ_add, lZ_sub, lZ_mul, lZ_neg, z_div, z_ldiv, z_l, z_i, z_lt, z_le, z_eq, z_llt, z_lle, z_leq, z_cgt, z_cge, z_clt, z_cle, z_ceq, z_cl, z_nat, Int.toNat_natCast, mm_I, mm_J, z_cln, z_abs, z_max, z_min, z_lmax, z_lmin, z_sin, Int.cast_ofNat_Int, uI_I, uI_J, uL_I, uL_J, uA_I, uA_J, sI_eq, sI_ne, sL_eq, sL_ne, up_eq, up_ne, uL_eq, uL_ne, z_toInt, Int.reduceToNat]) <;> omega)
          rw [if_neg a0] at g1
          have da : decide (a ≠ 0) = true := decide_eq_true a0
          rw [da] at hs2
          have hs3 : apL a s1 = s2 := hs2
          refine wf (hs := [31]) 20 22 (by decide) (wF n0 (And.intro rfl (c_emit hc1 h4 ⟨g1.1, g1.2.1, by have := g1.2.2; split at this <;> omega⟩ rfl (fun I2 hc2 => ?_))))
          rw [hs3] at hc2
          refine B31 I2 hc2 ⟨by rw [e2]; exact g1.1, by rw [← hs3]; exact g1.2.1, ?_⟩
          have := g1.2.2
          rw [← hs3]
          show 3 * (((s1.2.2 ++ [a]).length : Nat) : Int) + (3 + (if b = 0 then 0 else 3)) ≤ 6 * (s1.2.1 : Int) + (s1.1 : Int)
          rw [List.length_append]
          have l1 : [a].length = 1 := rfl
          omega
      · rw [← he, hv]; rfl
  refine wc (hs := [6]) 20 (by decide) ?_
  refine wp_keys [0, 1, 2, 3] rfl rfl ?_
  have g := h.2.2.2.2.2.2.2.2
  exact L 401 0 0 0 s I _ _ _ (by omega) (by omega) (Or.inl rfl) (Or.inl rfl) h ⟨g.1, g.2.1, by rw [if_pos rfl]; exact g.2.2⟩ hRES.symm rfl rfl rfl
end CPARSE
