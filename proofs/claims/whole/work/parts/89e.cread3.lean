/-! ===== the class reads a plan and keeps it ===== -/
section CREAD3
variable {E : Nat × (Nat → Int32)} {d : Nat} {I I0 I1 : Nat → Nat → Int32} {J : Nat → Nat → Int64} {A : Nat → Option Nat} {Q : Option Value → am_M → Prop} {M : am_M} {T : Nat → Int} {t m : Nat} {s : pS}
theorem getD_app {l : List (Nat → Int)} {r z : Nat → Int} {j : Nat} : (l ++ [r]).getD j z = if j < l.length then l.getD j z else if j = l.length then r else z := by
  rw [List.getD_eq_getElem?_getD]
  by_cases q : j < l.length
  · rw [if_pos q, List.getElem?_append_left q, ← List.getD_eq_getElem?_getD]
  · rw [if_neg q, List.getElem?_append_right (by omega)]
    by_cases q2 : j = l.length
    · rw [if_pos q2, q2, Nat.sub_self]; rfl
    · rw [if_neg q2]
      have : j - l.length = (j - l.length - 1) + 1 := by omega
      rw [this]; rfl
theorem RC_eq {i : Nat} {r : Nat → Int} {I' : Nat → Nat → Int32} (h : RCi I i r) (e : ∀ a, 225 ≤ a → a ≤ 231 → I' a i = I a i) : RCi I' i r := by
  unfold RCi at h ⊢
  rw [e 225 (by omega) (by omega), e 226 (by omega) (by omega), e 227 (by omega) (by omega), e 228 (by omega) (by omega), e 229 (by omega) (by omega), e 230 (by omega) (by omega), e 231 (by omega) (by omega)]
  exact h
theorem c_readL (h4 : t ≤ 400) (hT : ∀ i, i < t → 0 ≤ T i ∧ T i ≤ 255) {RES : rR} (h1 : ∀ s' acc I', RES = .ok (s', acc) → CB I' T t m s' → acc.length ≤ 12 → I' 224 0 = iZ (acc.length : Nat) → (∀ j, j < acc.length → RCi I' j (acc.getD j (fun _ => 0))) → (∀ a, a < 223 ∨ 236 ≤ a → I' a = I0 a) → Q (some (.int 0)) (mm I' J A)) (h0 : ∀ e I', RES = .error e → (∀ a, a < 223 ∨ 236 ≤ a → I' a = I0 a) → Q (some (.int (iZ e))) (mm I' J A)) : ∀ (n i : Nat) (s : pS) (acc : List (Nat → Int)) (I : Nat → Nat → Int32) (x3 : Int32), i + n = 13 → CB I T t m s → acc.length = i → (∀ j, j < i → RCi I j (acc.getD j (fun _ => 0))) → (∀ a, a < 223 ∨ 236 ≤ a → I a = I0 a) → rdL T t n i s acc = RES → x3 = iZ i → wp E (d + 26) 39 39 [(0, .ref 223), (1, .ref 222), (2, .int (iZ t)), (3, .int x3)] [] (mm I J A) Q := by
  intro n
  induction n with
  | zero =>
    intro i s acc I x3 hi hC ha hr hF he e3
    subst e3
    have : i = 13 := by omega
    subst this
    have he : (.error 0 : rR) = RES := he
    have f7 : I 223 7 = iZ 0 := hC.2.2.2.1
    refine wf (hs := [39]) 20 39 (by decide) (wt (by decide) (q_i (h0 0 I he.symm hF) ?_))
    exact f7
  | succ n ih =>
    intro i s acc I x3 hi hC ha hr hF he e3
    subst e3
    have c12 : ¬ iZ 12 < iZ (i : Int) := by ((try simp (disch := omega) only [z_i8, z_i16, z_of, z_ofN, z_lofN, z_0, z_1, z_m1, z_l0, z_l1, iZ_add, iZ_sub, iZ_mul, iZ_neg, lZ_add, lZ_sub, lZ_mul, lZ_neg, z_div, z_ldiv, z_l, z_i, z_lt, z_le, z_eq, z_llt, z_lle, z_leq, z_cgt, z_cge, z_clt, z_cle, z_ceq, z_cl, z_nat, Int.toNat_natCast, mm_I, mm_J, z_cln, z_abs, z_max, z_min, z_lmax, z_lmin, z_sin, Int.cast_ofNat_Int, uI_I, uI_J, uL_I, uL_J, uA_I, uA_J, sI_eq, sI_ne, sL_eq, sL_ne, up_eq, up_ne, uL_eq, uL_ne, z_toInt, Int.reduceToNat]) <;> omega)
    unfold rdL at he
    refine wf (hs := [39, 53]) 40 39 (by decide) (wF c12 (And.intro rfl (c_clause (d := d + 22) h4 hT (by omega) hC rfl (fun h I1 hv i12 hC1 r1 r2 r3 r4 r5 r6 k1 => wF (by decide) ?_) (fun e I1 hv k1 k2 => wt rfl ?_))))
    · rw [hv] at he
      dsimp only at he
      have ci : (iZ (i : Int)).toNatClampNeg = i := z_cln (by omega)
      have iin : vp_in (iZ (i : Int)) 12 := z_in (by omega) (by omega) (by omega)
      have F1 : ∀ a, a < 223 ∨ 236 ≤ a → I1 a = I0 a := fun a q => (k1.1 a (by omega)).trans (hF a q)
      refine wp_keys [0, 1, 2, 3] rfl rfl ?_
      obtain ⟨I2, hI2⟩ : ∃ I2, I2 = setI I1 230 (iZ (i : Int)).toNatClampNeg (I1 224 8) := ⟨_, rfl⟩
      have at2 : ∀ a, a ≠ 230 → I2 a = I1 a := fun a q => by
        rw [hI2]; funext j; rw [setI_at, if_neg (fun x => q x.1)]
      have cb2 : CB I2 T t m h.1 := CB_eq hC1 (at2 223 (by omega)) (at2 233 (by omega)) (at2 234 (by omega)) (at2 235 (by omega)) (by rw [at2 224 (by omega)]) (at2 232 (by omega))
      have v230 : I2 230 i = iZ (h.1.2.2.length : Nat) := by
        rw [hI2, setI_at, ci, if_pos ⟨rfl, rfl⟩]
        exact hC1.2.2.2.2.1
      have k2 : CFr i I1 I2 := ⟨fun a q => at2 a (by omega), fun a j q1 q2 q3 => by rw [hI2, setI_at, ci, if_neg (fun x => q3 x.2)]⟩
      -- behind the test
      have B101 : ∀ (s3 : pS) (I3 : Nat → Nat → Int32), ttZ T t h.1 = .ok s3 → CB I3 T t m s3 → (∀ a, a ≠ 223 → a ≠ 224 → a ≠ 232 → I3 a = I2 a) → I3 224 0 = I2 224 0 → wp E (d + 26) 39 101 [(0, .ref 223), (1, .ref 222), (2, .int (iZ t)), (3, .int (iZ i))] [] (mm I3 J A) Q := fun s3 I3 hv3 cb3 u1 u2 => by
        rw [hv3] at he
        dsimp only at he
        obtain ⟨I4, hI4⟩ : ∃ I4, I4 = setI I3 231 (iZ (i : Int)).toNatClampNeg (I3 224 8) := ⟨_, rfl⟩
        have at4 : ∀ a, a ≠ 231 → I4 a = I3 a := fun a q => by
          rw [hI4]; funext j; rw [setI_at, if_neg (fun x => q x.1)]
        have cb4 : CB I4 T t m s3 := CB_eq cb3 (at4 223 (by omega)) (at4 233 (by omega)) (at4 234 (by omega)) (at4 235 (by omega)) (by rw [at4 224 (by omega)]) (at4 232 (by omega))
        have v231 : I4 231 i = iZ (s3.2.2.length : Nat) := by
          rw [hI4, setI_at, ci, if_pos ⟨rfl, rfl⟩]
          exact cb3.2.2.2.2.1
        have o4 : ∀ a, 225 ≤ a → a ≤ 229 → I4 a = I1 a := fun a q1 q2 => by rw [at4 a (by omega), u1 a (by omega) (by omega) (by omega), at2 a (by omega)]
        have F4 : ∀ a, a < 223 ∨ 236 ≤ a → I4 a = I0 a := fun a q => by rw [at4 a (by omega), u1 a (by omega) (by omega) (by omega), at2 a (by omega)]; exact F1 a q
        obtain ⟨r, hrr⟩ : ∃ r, r = rcZ h s.2.2.length h.1.2.2.length s3.2.2.length := ⟨_, rfl⟩
        rw [← hrr] at he
        have rci : RCi I4 i r := by
          rw [hrr]
          refine ⟨by rw [o4 225 (by omega) (by omega)]; exact r1, fun q => by rw [o4 226 (by omega) (by omega)]; exact r2 q, fun q => by rw [o4 227 (by omega) (by omega)]; exact r3 q, fun q => by rw [o4 228 (by omega) (by omega)]; exact r4 q, by rw [o4 229 (by omega) (by omega)]; exact r5, ?_, v231⟩
          rw [at4 230 (by omega), u1 230 (by omega) (by omega) (by omega)]; exact v230
        have rall : ∀ I5, (∀ a, 225 ≤ a → a ≤ 231 → I5 a = I4 a) → ∀ j, j < i + 1 → RCi I5 j ((acc ++ [r]).getD j (fun _ => 0)) := fun I5 h5 j hj => by
          rw [getD_app, ha]
          by_cases q : j < i
          · rw [if_pos q]
            refine RC_eq (hr j q) (fun a q1 q2 => ?_)
            rw [h5 a q1 q2, hI4, setI_at, ci, if_neg (by omega), u1 a (by omega) (by omega) (by omega), hI2, setI_at, ci, if_neg (by omega)]
            exact k1.2 a j q1 q2 (by omega)
          · rw [if_neg q, if_pos (by omega)]
            have : j = i := by omega
            rw [this]
            exact RC_eq rci (fun a q1 q2 => by rw [h5 a q1 q2])
        have la : (acc ++ [r]).length = i + 1 := by rw [List.length_append, ha]; rfl
        have c224 : I4 224 0 = iZ ((i + 1 : Nat) : Int) := by rw [at4 224 (by omega), u2, at2 224 (by omega)]; exact r6
        have tr := tk_rng (T := T) (t := t) (p := s3.1)
        have R : wp E (d + 26) 39 117 [(0, .ref 223), (1, .ref 222), (2, .int (iZ t)), (3, .int (iZ i))] [] (mm I4 J A) Q := by
          refine wf (hs := [39, 128]) 40 117 (by decide) (And.intro rfl (c_token cb4.1 cb4.2 (And.intro (fun g => ?_) (fun g => ?_))))
          · have g : iZ (tkZ T t s3.1) = iZ 40 := g
            simp (disch := omega) only [z_i8, z_i16, z_of, z_ofN, z_lofN, z_0, z_1, z_m1, z_l0, z_l1, iZ_add, iZ_sub, iZ_mul, iZ_neg, lZ_add, lZ_sub, lZ_mul, lZ_neg, z_div, z_ldiv, z_l, z_i, z_lt, z_le, z_eq, z_llt, z_lle, z_leq, z_cgt, z_cge, z_clt, z_cle, z_ceq, z_cl, z_nat, Int.toNat_natCast, mm_I, mm_J, z_cln, z_abs, z_max, z_min, z_lmax, z_lmin, z_sin, Int.cast_ofNat_Int, uI_I, uI_J, uL_I, uL_J, uA_I, uA_J, sI_eq, sI_ne, sL_eq, sL_ne, up_eq, up_ne, uL_eq, uL_ne, z_toInt, Int.reduceToNat] at g
            rw [if_pos g] at he
            exact h1 _ _ I4 he.symm cb4 (by omega) (by rw [la]; exact c224) (fun j hj => rall I4 (fun _ _ _ => rfl) j (by omega)) F4
          · have g : ¬ iZ (tkZ T t s3.1) = iZ 40 := g
            simp (disch := omega) only [z_i8, z_i16, z_of, z_ofN, z_lofN, z_0, z_1, z_m1, z_l0, z_l1, iZ_add, iZ_sub, iZ_mul, iZ_neg, lZ_add, lZ_sub, lZ_mul, lZ_neg, z_div, z_ldiv, z_l, z_i, z_lt, z_le, z_eq, z_llt, z_lle, z_leq, z_cgt, z_cge, z_clt, z_cle, z_ceq, z_cl, z_nat, Int.toNat_natCast, mm_I, mm_J, z_cln, z_abs, z_max, z_min, z_lmax, z_lmin, z_sin, Int.cast_ofNat_Int, uI_I, uI_J, uL_I, uL_J, uA_I, uA_J, sI_eq, sI_ne, sL_eq, sL_ne, up_eq, up_ne, uL_eq, uL_ne, z_toInt, Int.reduceToNat] at g
            rw [if_neg g] at he
            refine wf (hs := [39]) 40 128 (by decide) (And.intro rfl (c_token cb4.1 cb4.2 (And.intro (fun g2 => ?_) (fun g2 => ?_))))
            · have g2 : iZ (tkZ T t s3.1) = iZ 36 := g2
              simp (disch := omega) only [z_i8, z_i16, z_of, z_ofN, z_lofN, z_0, z_1, z_m1, z_l0, z_l1, iZ_add, iZ_sub, iZ_mul, iZ_neg, lZ_add, lZ_sub, lZ_mul, lZ_neg, z_div, z_ldiv, z_l, z_i, z_lt, z_le, z_eq, z_llt, z_lle, z_leq, z_cgt, z_cge, z_clt, z_cle, z_ceq, z_cl, z_nat, Int.toNat_natCast, mm_I, mm_J, z_cln, z_abs, z_max, z_min, z_lmax, z_lmin, z_sin, Int.cast_ofNat_Int, uI_I, uI_J, uL_I, uL_J, uA_I, uA_J, sI_eq, sI_ne, sL_eq, sL_ne, up_eq, up_ne, uL_eq, uL_ne, z_toInt, Int.reduceToNat] at g2
              rw [if_pos g2] at he
              have pt := tk_lt (T := T) (t := t) (p := s3.1) (by omega)
              have c5 := cp_stp cb4.1 cb4.2 pt
              refine wp_keys [0, 1, 2, 3] rfl rfl ?_
              exact ih (i + 1) (stp1 T t s3) (acc ++ [r]) _ _ (by omega) (CP_CB cb4.1 c5) la (fun j hj => rall _ (fun a q1 q2 => c5.2.2.2.2.2.1 a (by omega) (by omega) (by omega) |>.trans rfl) j hj) (fun a q => (c5.2.2.2.2.2.1 a (by omega) (by omega) (by omega)).trans (F4 a q)) he (iZ_add i 1)
            · have g2 : ¬ iZ (tkZ T t s3.1) = iZ 36 := g2
              simp (disch := omega) only [z_i8, z_i16, z_of, z_ofN, z_lofN, z_0, z_1, z_m1, z_l0, z_l1, iZ_add, iZ_sub, iZ_mul, iZ_neg, lZ_add, lZ_sub, lZ_mul, lZ_neg, z_div, z_ldiv, z_l, z_i, z_lt, z_le, z_eq, z_llt, z_lle, z_leq, z_cgt, z_cge, z_clt, z_cle, z_ceq, z_cl, z_nat, Int.toNat_natCast, mm_I, mm_J, z_cln, z_abs, z_max, z_min, z_lmax, z_lmin, z_sin, Int.cast_ofNat_Int, uI_I, uI_J, uL_I, uL_J, uA_I, uA_J, sI_eq, sI_ne, sL_eq, sL_ne, up_eq, up_ne, uL_eq, uL_ne, z_toInt, Int.reduceToNat] at g2
              rw [if_neg g2] at he
              refine And.intro rfl (c_fail cb4.1 cb4.2 rfl (fun I' hf => ?_))
              exact q_i (h0 _ I' he.symm (fun a q => (hf.2 a (by omega) (by omega) (by omega)).trans (F4 a q))) hf.1
        rw [hI4] at R
        exact wf (hs := [117]) 40 101 (by decide) (And.intro iin R)
      have tr1 := tk_rng (T := T) (t := t) (p := h.1.1)
      have R69 : wp E (d + 26) 39 69 [(0, .ref 223), (1, .ref 222), (2, .int (iZ t)), (3, .int (iZ i))] [] (mm I2 J A) Q := by
        refine wf (hs := [101]) 60 69 (by decide) (And.intro rfl (c_token cb2.1 cb2.2 (And.intro (fun g => ?_) (fun g => ?_))))
        · have g : iZ (tkZ T t h.1.1) = iZ 23 := g
          simp (disch := omega) only [z_i8, z_i16, z_of, z_ofN, z_lofN, z_0, z_1, z_m1, z_l0, z_l1, iZ_add, iZ_sub, iZ_mul, iZ_neg, lZ_add, lZ_sub, lZ_mul, lZ_neg, z_div, z_ldiv, z_l, z_i, z_lt, z_le, z_eq, z_llt, z_lle, z_leq, z_cgt, z_cge, z_clt, z_cle, z_ceq, z_cl, z_nat, Int.toNat_natCast, mm_I, mm_J, z_cln, z_abs, z_max, z_min, z_lmax, z_lmin, z_sin, Int.cast_ofNat_Int, uI_I, uI_J, uL_I, uL_J, uA_I, uA_J, sI_eq, sI_ne, sL_eq, sL_ne, up_eq, up_ne, uL_eq, uL_ne, z_toInt, Int.reduceToNat] at g
          have pt := tk_lt (T := T) (t := t) (p := h.1.1) (by omega)
          have c3 := cp_stp cb2.1 cb2.2 pt
          have cb3 := CP_CB cb2.1 c3
          have ett : ttZ T t h.1 = tsZ T t 10 (stp1 T t h.1) := by
            unfold ttZ
            rw [if_pos g]
          have fs := c_fact (E := E) (J := J) (A := A) cb3.1 h4 hT 10 (d + 24) (by omega) (by omega)
          refine And.intro rfl (c_test (k := 10) (D := d + 24) fs (by omega) cb3.1 h4 hT cb3.2 rfl (fun s3 I3 hv3 hc3 => wF (by decide) ?_) (fun e I3 hv3 hf => wt rfl ?_))
          · refine wp_keys [0, 1, 2, 3] rfl rfl ?_
            exact B101 s3 I3 (ett.trans hv3) (CP_CB cb3.1 hc3) (fun a q1 q2 q3 => (hc3.2.2.2.2.2.1 a q1 q2 q3).trans (c3.2.2.2.2.2.1 a q1 q2 q3)) ((hc3.2.2.2.2.2.2.2.1 0 (by omega)).trans (c3.2.2.2.2.2.2.2.1 0 (by omega)))
          · rw [ett, hv3] at he
            refine q_i (h0 e I3 he.symm (fun a q => ?_)) hf.1
            rw [hf.2 a (by omega) (by omega) (by omega), c3.2.2.2.2.2.1 a (by omega) (by omega) (by omega), at2 a (by omega)]
            exact F1 a q
        · have g : ¬ iZ (tkZ T t h.1.1) = iZ 23 := g
          simp (disch := omega) only [z_i8, z_i16, z_of, z_ofN, z_lofN, z_0, z_1, z_m1, z_l0, z_l1, iZ_add, iZ_sub, iZ_mul, iZ_neg, lZ_add, lZ_sub, lZ_mul, lZ_neg, z_div, z_ldiv, z_l, z_i, z_lt, z_le, z_eq, z_llt, z_lle, z_leq, z_cgt, z_cge, z_clt, z_cle, z_ceq, z_cl, z_nat, Int.toNat_natCast, mm_I, mm_J, z_cln, z_abs, z_max, z_min, z_lmax, z_lmin, z_sin, Int.cast_ofNat_Int, uI_I, uI_J, uL_I, uL_J, uA_I, uA_J, sI_eq, sI_ne, sL_eq, sL_ne, up_eq, up_ne, uL_eq, uL_ne, z_toInt, Int.reduceToNat] at g
          exact B101 h.1 I2 (by unfold ttZ; rw [if_neg g]) cb2 (fun _ _ _ _ => rfl) rfl
      rw [hI2] at R69
      exact wf (hs := [69]) 40 53 (by decide) (And.intro iin R69)
    · rw [hv] at he
      exact q_i (h0 e I1 he.symm (fun a q => (k2.1 a (by omega)).trans (hF a q))) k1
theorem c_read {x2 : Int32} (hT : TP I T t) (e2 : x2 = iZ t) (h1 : ∀ m s' acc I', rdZ T t = .ok (s', acc) → CB I' T t m s' → acc.length ≤ 12 → I' 224 0 = iZ (acc.length : Nat) → (∀ j, j < acc.length → RCi I' j (acc.getD j (fun _ => 0))) → (∀ a, a < 223 ∨ 236 ≤ a → I' a = I a) → Q (some (.int 0)) (mm I' J A)) (h0 : ∀ e I', rdZ T t = .error e → (∀ a, a < 223 ∨ 236 ≤ a → I' a = I a) → Q (some (.int (iZ e))) (mm I' J A)) : wpC E (d + 26) 39 [.ref 223, .ref 222, .int x2] (mm I J A) Q := by
  subst e2
  refine wc (hs := [39]) 60 (by decide) (And.intro rfl (c_scan (d := d + 19) hT rfl (fun I1 m hK f1 f2 => ?_)))
  obtain ⟨I2, hI2⟩ : ∃ I2, I2 = setI (setI (setI (setI (setI I1 223 5 (iZ 0)) 223 6 (iZ 0)) 223 7 (iZ 0)) 224 0 (iZ 0)) 224 8 (iZ 0) := ⟨_, rfl⟩
  have at2 : ∀ a, a ≠ 223 → a ≠ 224 → I2 a = I1 a := fun a q1 q2 => by
    rw [hI2]; funext j
    simp only [setI_at, q1, q2, false_and, if_false]
  have at3 : ∀ j, I2 223 j = if j = 5 ∨ j = 6 ∨ j = 7 then iZ 0 else I1 223 j := fun j => by
    rw [hI2]
    simp only [setI_at]
    by_cases q5 : j = 5
    · subst q5; simp
    · by_cases q6 : j = 6
      · subst q6; simp
      · by_cases q7 : j = 7
        · subst q7; simp
        · simp [q5, q6, q7]
  have v8 : I2 224 8 = iZ 0 := by rw [hI2, setI_at, if_pos ⟨rfl, rfl⟩]
  have hK2 : TKS I2 T t m := TKS_eq hK (by rw [at3, if_neg (by omega)]) (at2 233 (by omega) (by omega)) (at2 234 (by omega) (by omega)) (at2 235 (by omega) (by omega))
  have cb : CB I2 T t m (skp T t 0, 0, []) := ⟨hK2, ⟨0, by omega, rfl, by rw [at3, if_pos (by omega)]; rfl⟩, by rw [at3, if_pos (by omega)]; rfl, by rw [at3, if_pos (by omega)], v8, fun j hj => absurd hj (Nat.not_lt_zero j), fun _ _ _ _ => rfl, fun _ _ _ _ => rfl, fun _ _ => rfl, ⟨(skp_b (Nat.zero_le t)).2.1, Nat.zero_le 60, by
    show 3 * ((0 : Nat) : Int) + 0 ≤ 6 * ((0 : Nat) : Int) + ((skp T t 0 : Nat) : Int)
    omega⟩⟩
  have F2 : ∀ a, a < 223 ∨ 236 ≤ a → I2 a = I a := fun a q => by rw [at2 a (by omega) (by omega)]; exact f1 a (by omega) (by omega) (by omega) (by omega)
  have LL := c_readL (E := E) (d := d) (I0 := I) (J := J) (A := A) (Q := Q) (m := m) hT.1 (fun i hi => (hT.2 i hi).1) (RES := rdZ T t) (fun s' acc I' => h1 m s' acc I') h0 13 0 (skp T t 0, 0, []) [] I2 (iZ (0 : Nat)) (by omega) cb rfl (fun j hj => by omega) F2 rfl rfl
  rw [hI2] at LL
  refine wp_keys [0, 1, 2, 3] rfl rfl ?_
  exact LL
end CREAD3
