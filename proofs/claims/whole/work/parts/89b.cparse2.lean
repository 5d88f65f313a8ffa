/-! ===== the class reads comparisons, facts, tests ===== -/
section CPARSE2
variable {E : Nat × (Nat → Int32)} {d : Nat} {I I0 I1 : Nat → Nat → Int32} {J : Nat → Nat → Int64} {A : Nat → Option Nat} {Q : Option Value → am_M → Prop} {M : am_M} {T : Nat → Int} {t m : Nat} {s : pS}
theorem CP_gb (h : CP I0 I T t m s) : GBk t 0 s := h.2.2.2.2.2.2.2.2
theorem c_comparison (hK : TKS I0 T t m) (h4 : t ≤ 400) (hT : ∀ i, i < t → 0 ≤ T i ∧ T i ≤ 255) (h : CP I0 I T t m s) (h1 : ∀ s' I', cmZ T t s = .ok s' → CP I0 I' T t m s' → Q (some (.int 1)) (mm I' J A)) (h0 : ∀ e I', cmZ T t s = .error e → CFt I0 I' e → Q (some (.int 0)) (mm I' J A)) : wpC E (d + 3) 55 [.ref 223] (mm I J A) Q := by
  unfold cmZ at h1 h0
  refine wc (hs := [9]) 30 (by decide) (And.intro rfl (c_sum hK h4 hT h (fun s1 I1 hv hc1 => wF (by decide) ?_) (fun e I1 hv hf => wt rfl (And.intro rfl (h0 e I1 (by rw [hv]; rfl) hf)))))
  refine wp_keys [0] rfl rfl ?_
  rw [hv] at h1 h0
  have h1 : ∀ s' I', (if 31 ≤ tkZ T t s1.1 ∧ tkZ T t s1.1 ≤ 35 then (if 60 ≤ s1.2.1 then (.error (flt 3 s1.1) : pR) else bnd (sumZ T t (nxZ T t s1.1, s1.2.1 + 1, s1.2.2)) (fun s2 => .ok (apL (tkZ T t s1.1) s2))) else .error (flt 0 s1.1)) = .ok s' → CP I0 I' T t m s' → Q (some (.int 1)) (mm I' J A) := h1
  have h0 : ∀ e I', (if 31 ≤ tkZ T t s1.1 ∧ tkZ T t s1.1 ≤ 35 then (if 60 ≤ s1.2.1 then (.error (flt 3 s1.1) : pR) else bnd (sumZ T t (nxZ T t s1.1, s1.2.1 + 1, s1.2.2)) (fun s2 => .ok (apL (tkZ T t s1.1) s2))) else .error (flt 0 s1.1)) = .error e → CFt I0 I' e → Q (some (.int 0)) (mm I' J A) := h0
  have tr := tk_rng (T := T) (t := t) (p := s1.1)
  have g1 := GB_PP (CP_gb h) (sum_ok hT hv)
  have B31 : 31 ≤ tkZ T t s1.1 ∧ tkZ T t s1.1 ≤ 35 → wp E (d + 3) 55 31 [(0, .ref 223), (1, .int (iZ (tkZ T t s1.1)))] [] (mm I1 J A) Q := fun g => by
    rw [if_pos g] at h1 h0
    have g6 : I1 223 6 = iZ (s1.2.1 : Nat) := hc1.2.1
    by_cases q3 : 60 ≤ s1.2.1
    · rw [if_pos q3] at h0
      have c6 : ¬ I1 223 6 < iZ 60 := by have := g1.2.1; rw [g6]; ((try simp (disch := omega) only [z_i8, z_i16, z_of, z_ofN, z_lofN, z_0, z_1, z_m1, z_l0, z_l1, iZ_add, iZ_sub, iZ_mul, iZ_neg, lZ_add, lZ_sub, lZ_mul, lZ_neg, z_div, z_ldiv, z_l, z_i, z_lt, z_le, z_eq, z_llt, z_lle, z_leq, z_cgt, z_cge, z_clt, z_cle, z_ceq, z_cl, z_nat, Int.toNat_natCast, mm_I, mm_J, z_cln, z_abs, z_max, z_min, z_lmax, z_lmin, z_sin, Int.cast_ofNat_Int, uI_I, uI_J, uL_I, uL_J, uA_I, uA_J, sI_eq, sI_ne, sL_eq, sL_ne, up_eq, up_ne, uL_eq, uL_ne, z_toInt, Int.reduceToNat]) <;> omega)
      exact wf (hs := []) 30 31 (by decide) (wF c6 (And.intro rfl (c_fail hK hc1 rfl (fun I' hf => And.intro rfl (h0 _ I' rfl hf)))))
    · rw [if_neg q3] at h1 h0
      have c6 : I1 223 6 < iZ 60 := by rw [g6]; ((try simp (disch := omega) only [z_i8, z_i16, z_of, z_ofN, z_lofN, z_0, z_1, z_m1, z_l0, z_l1, iZ_add, iZ_sub, iZ_mul, iZ_neg, lZ_add, lZ_sub, lZ_mul, lZ_neg, z_div, z_ldiv, z_l, z_i, z_lt, z_le, z_eq, z_llt, z_lle, z_leq, z_cgt, z_cge, z_clt, z_cle, z_ceq, z_cl, z_nat, Int.toNat_natCast, mm_I, mm_J, z_cln, z_abs, z_max, z_min, z_lmax, z_lmin, z_sin, Int.cast_ofNat_Int, uI_I, uI_J, uL_I, uL_J, uA_I, uA_J, sI_eq, sI_ne, sL_eq, sL_ne, up_eq, up_ne, uL_eq, uL_ne, z_toInt, Int.reduceToNat]) <;> omega)
      have pt := tk_lt (T := T) (t := t) (p := s1.1) (by omega)
      have hc2 := cp_stp hK (cp_cnt hc1 (by omega)) pt
      refine wf (hs := []) 60 31 (by decide) (wt c6 (And.intro rfl (c_sum hK h4 hT hc2 (fun s2 I2 hv2 hc3 => wF (by decide) ?_) (fun e I2 hv2 hf => wt rfl (And.intro rfl (h0 e I2 ?_ hf))))))
      · have pp := sum_ok hT hv2
        have g2 : GBk t 3 (nxZ T t s1.1, s1.2.1 + 1, s1.2.2) := ⟨(nx_b pt).2, by show s1.2.1 + 1 ≤ 60; omega, by
          have := g1.2.2
          have := (nx_b (T := T) pt).1
          show 3 * (s1.2.2.length : Int) + 3 ≤ 6 * ((s1.2.1 + 1 : Nat) : Int) + (nxZ T t s1.1 : Int)
          omega⟩
        have g3 := GB_PP g2 pp
        refine And.intro rfl (c_emit hc3 h4 ⟨g3.1, g3.2.1, by have := g3.2.2; omega⟩ rfl (fun I3 hc4 => And.intro rfl (h1 _ I3 ?_ hc4)))
        have hv3 : sumZ T t (nxZ T t s1.1, s1.2.1 + 1, s1.2.2) = .ok s2 := hv2
        rw [hv3]; rfl
      · have hv3 : sumZ T t (nxZ T t s1.1, s1.2.1 + 1, s1.2.2) = .error e := hv2
        rw [hv3]; rfl
  refine wf (hs := [31]) 30 9 (by decide) (And.intro rfl (c_token hK hc1 ?_))
  refine And.intro rfl (cW (z := tkZ T t s1.1) (lo := 31) (hi := 35) rfl rfl rfl (by omega) (by omega) (by omega) (fun g => wF (by decide) ?_) (fun g => wt rfl ?_))
  · refine wp_keys [0, 1] rfl rfl ?_
    exact B31 g
  · rw [if_neg g] at h0
    exact And.intro rfl (c_fail hK hc1 rfl (fun I' hf => And.intro rfl (h0 _ I' rfl hf)))
def FSp (E : Nat × (Nat → Int32)) (J : Nat → Nat → Int64) (A : Nat → Option Nat) (I0 : Nat → Nat → Int32) (T : Nat → Int) (t m D k : Nat) : Prop := ∀ (s : pS) (I : Nat → Nat → Int32) (x : Int32) (Q : Option Value → am_M → Prop), CP I0 I T t m s → x = iZ ((10 - k : Nat) : Int) → (∀ s' I', fcZ T t k s = .ok s' → CP I0 I' T t m s' → Q (some (.int 1)) (mm I' J A)) → (∀ e I', fcZ T t k s = .error e → CFt I0 I' e → Q (some (.int 0)) (mm I' J A)) → wpC E D 54 [.ref 223, .int x] (mm I J A) Q
theorem c_test {D k : Nat} {x : Int32} (hF : FSp E J A I0 T t m D k) (hD : 1 ≤ D) (hK : TKS I0 T t m) (h4 : t ≤ 400) (hT : ∀ i, i < t → 0 ≤ T i ∧ T i ≤ 255) (h : CP I0 I T t m s) (ex : x = iZ ((10 - k : Nat) : Int)) (h1 : ∀ s' I', tsZ T t k s = .ok s' → CP I0 I' T t m s' → Q (some (.int 1)) (mm I' J A)) (h0 : ∀ e I', tsZ T t k s = .error e → CFt I0 I' e → Q (some (.int 0)) (mm I' J A)) : wpC E (D + 1) 53 [.ref 223, .int x] (mm I J A) Q := by
  subst ex
  obtain ⟨RES, hRES⟩ : ∃ R, R = tsZ T t k s := ⟨_, rfl⟩
  rw [← hRES] at h1 h0
  obtain ⟨D', rfl⟩ : ∃ D', D = D' + 1 := ⟨D - 1, by omega⟩
  have L : ∀ (n i : Nat) (a o : Bool) (s : pS) (I : Nat → Nat → Int32) (x2 x3 x4 : Int32), i + n = 401 → i ≤ s.1 → CP I0 I T t m s → GBk t ((if a then 3 else 0) + (if o then 3 else 0)) s → tsL T t (fcZ T t k) n a o s = RES → x2 = iZ (tB a) → x3 = iZ (tB o) → x4 = iZ i → wp E (D' + 1 + 1) 53 7 [(0, .ref 223), (1, .int (iZ ((10 - k : Nat) : Int))), (2, .int x2), (3, .int x3), (4, .int x4)] [] (mm I J A) Q := by
    intro n
    induction n with
    | zero =>
      intro i a o s I x2 x3 x4 hi hp h hg he e2 e3 e4
      have := hg.1
      omega
    | succ n ih =>
      intro i a o s I x2 x3 x4 hi hp h hg he e2 e3 e4
      subst e2; subst e3; subst e4
      unfold tsL at he
      refine wf (hs := [7, 25]) 40 7 (by decide) (wF (by have := hg.1; ((try simp (disch := omega) only [z_i8, z_i16, z_of, z_ofN, z_lofN, z_0, z_1, z_m1, z_l0, z_l1, iZ_add, iZ_sub, iZ_mul, iZ_neg, lZ_add, lZ_sub, lZ_mul, lZ_neg, z_div, z_ldiv, z_l, z_i, z_lt, z_le, z_eq, z_llt, z_lle, z_leq, z_cgt, z_cge, z_clt, z_cle, z_ceq, z_cl, z_nat, Int.toNat_natCast, mm_I, mm_J, z_cln, z_abs, z_max, z_min, z_lmax, z_lmin, z_sin, Int.cast_ofNat_Int, uI_I, uI_J, uL_I, uL_J, uA_I, uA_J, sI_eq, sI_ne, sL_eq, sL_ne, up_eq, up_ne, uL_eq, uL_ne, z_toInt, Int.reduceToNat]) <;> omega)) (And.intro rfl (hF s I _ _ h rfl (fun s1 I1 hv hc1 => wF (by decide) ?_) (fun e I1 hv hf => wt rfl (And.intro rfl (h0 e I1 ?_ hf))))))
      · rw [hv] at he
        have pp := fc_ok hT k s s1 hv
        have p1 := pp.1
        have tr := tk_rng (T := T) (t := t) (p := s1.1)
        have g1 := GB_PP hg pp
        have he : (if tkZ T t s1.1 = 24 then tsL T t (fcZ T t k) n true o (stp1 T t (apB a 24 s1)) else if tkZ T t s1.1 = 25 then tsL T t (fcZ T t k) n false true (stp1 T t (apB o 25 (apB a 24 s1))) else .ok (apB o 25 (apB a 24 s1))) = RES := he
        generalize hs2 : apB a 24 s1 = s2 at he
        have e2 : s2.1 = s1.1 := by rw [← hs2]; exact apB_1
        have ek : tkZ T t s2.1 = tkZ T t s1.1 := by rw [e2]
        rw [← ek] at he tr
        have B85 : ∀ (s3 : pS) (I3 : Nat → Nat → Int32) (a' o' : Bool) (x2 x3 : Int32), s3.1 = s2.1 → CP I0 I3 T t m s3 → GBk t ((if a' then 3 else 0) + (if o' then 3 else 0)) s3 → tkZ T t s2.1 ≠ 40 → tsL T t (fcZ T t k) n a' o' (stp1 T t s3) = RES → x2 = iZ (tB a') → x3 = iZ (tB o') → wp E (D' + 1 + 1) 53 85 [(0, .ref 223), (1, .int (iZ ((10 - k : Nat) : Int))), (2, .int x2), (3, .int x3), (4, .int (iZ i))] [] (mm I3 J A) Q := fun s3 I3 a' o' x2 x3 e3 hc3 g3 nk he3 ex2 ex3 => by
          have pt := tk_lt (T := T) (t := t) (p := s3.1) (by rw [e3]; exact nk)
          have nb := nx_b (T := T) pt
          refine wf (hs := [7]) 20 85 (by decide) ?_
          refine wp_keys [0, 1, 2, 3, 4] rfl rfl ?_
          refine ih (i + 1) a' o' (stp1 T t s3) _ _ _ _ (by omega) (by show i + 1 ≤ nxZ T t s3.1; rw [e3] at nb ⊢; omega) (cp_stp hK hc3 pt) ⟨nb.2, g3.2.1, ?_⟩ he3 ex2 ex3 (iZ_add i 1)
          have := g3.2.2
          show 3 * (s3.2.2.length : Int) + ((if a' then 3 else 0) + (if o' then 3 else 0)) ≤ 6 * (s3.2.1 : Int) + (nxZ T t s3.1 : Int)
          omega
        have B64 : ∀ s3 I3, s3.1 = s2.1 → CP I0 I3 T t m s3 → GBk t 3 s3 → tkZ T t s2.1 ≠ 24 → (if tkZ T t s2.1 = 25 then tsL T t (fcZ T t k) n false true (stp1 T t s3) else .ok s3) = RES → wp E (D' + 1 + 1) 53 64 [(0, .ref 223), (1, .int (iZ ((10 - k : Nat) : Int))), (2, .int (iZ 0)), (3, .int (iZ (tB o))), (4, .int (iZ i))] [] (mm I3 J A) Q := fun s3 I3 e3 hc3 g3 nq he3 => by
          refine wf (hs := [85]) 60 64 (by decide) (And.intro rfl (c_token hK hc3 ?_))
          rw [e3]
          refine And.intro (fun g => ?_) (fun g => ?_)
          · have g : iZ (tkZ T t s2.1) = iZ 25 := g
            simp (disch := omega) only [z_i8, z_i16, z_of, z_ofN, z_lofN, z_0, z_1, z_m1, z_l0, z_l1, iZ_add, iZ_sub, iZ_mul, iZ_neg, lZ_add, lZ_sub, lZ_mul, lZ_neg, z_div, z_ldiv, z_l, z_i, z_lt, z_le, z_eq, z_llt, z_lle, z_leq, z_cgt, z_cge, z_clt, z_cle, z_ceq, z_cl, z_nat, Int.toNat_natCast, mm_I, mm_J, z_cln, z_abs, z_max, z_min, z_lmax, z_lmin, z_sin, Int.cast_ofNat_Int, uI_I, uI_J, uL_I, uL_J, uA_I, uA_J, sI_eq, sI_ne, sL_eq, sL_ne, up_eq, up_ne, uL_eq, uL_ne, z_toInt, Int.reduceToNat] at g
            rw [if_pos g] at he3
            refine wF (by decide) ?_
            refine wp_keys [0, 1, 2, 3, 4] rfl rfl ?_
            exact B85 s3 I3 false true _ _ e3 hc3 (by rw [if_neg (by decide), if_pos rfl, Int.zero_add]; exact g3) (by omega) he3 rfl rfl
          · have g : ¬ iZ (tkZ T t s2.1) = iZ 25 := g
            simp (disch := omega) only [z_i8, z_i16, z_of, z_ofN, z_lofN, z_0, z_1, z_m1, z_l0, z_l1, iZ_add, iZ_sub, iZ_mul, iZ_neg, lZ_add, lZ_sub, lZ_mul, lZ_neg, z_div, z_ldiv, z_l, z_i, z_lt, z_le, z_eq, z_llt, z_lle, z_leq, z_cgt, z_cge, z_clt, z_cle, z_ceq, z_cl, z_nat, Int.toNat_natCast, mm_I, mm_J, z_cln, z_abs, z_max, z_min, z_lmax, z_lmin, z_sin, Int.cast_ofNat_Int, uI_I, uI_J, uL_I, uL_J, uA_I, uA_J, sI_eq, sI_ne, sL_eq, sL_ne, up_eq, up_ne, uL_eq, uL_ne, z_toInt, Int.reduceToNat] at g
            rw [if_neg g] at he3
            exact wt rfl (And.intro rfl (h1 s3 I3 he3.symm hc3))
        have B35 : ∀ I2, CP I0 I2 T t m s2 → GBk t (3 + (if o then 3 else 0)) s2 → wp E (D' + 1 + 1) 53 35 [(0, .ref 223), (1, .int (iZ ((10 - k : Nat) : Int))), (2, .int (iZ (tB a))), (3, .int (iZ (tB o))), (4, .int (iZ i))] [] (mm I2 J A) Q := fun I2 hc2 g2 => by
          refine wf (hs := [54, 85]) 60 35 (by decide) (And.intro rfl (c_token hK hc2 ?_))
          refine And.intro (fun g => ?_) (fun g => ?_)
          · have g : iZ (tkZ T t s2.1) = iZ 24 := g
            simp (disch := omega) only [z_i8, z_i16, z_of, z_ofN, z_lofN, z_0, z_1, z_m1, z_l0, z_l1, iZ_add, iZ_sub, iZ_mul, iZ_neg, lZ_add, lZ_sub, lZ_mul, lZ_neg, z_div, z_ldiv, z_l, z_i, z_lt, z_le, z_eq, z_llt, z_lle, z_leq, z_cgt, z_cge, z_clt, z_cle, z_ceq, z_cl, z_nat, Int.toNat_natCast, mm_I, mm_J, z_cln, z_abs, z_max, z_min, z_lmax, z_lmin, z_sin, Int.cast_ofNat_Int, uI_I, uI_J, uL_I, uL_J, uA_I, uA_J, sI_eq, sI_ne, sL_eq, sL_ne, up_eq, up_ne, uL_eq, uL_ne, z_toInt, Int.reduceToNat] at g
            rw [if_pos g] at he
            refine wF (by decide) ?_
            refine wp_keys [0, 1, 2, 3, 4] rfl rfl ?_
            exact B85 s2 I2 true o _ _ rfl hc2 (by rw [if_pos rfl]; exact g2) (by omega) he rfl rfl
          · have g : ¬ iZ (tkZ T t s2.1) = iZ 24 := g
            simp (disch := omega) only [z_i8, z_i16, z_of, z_ofN, z_lofN, z_0, z_1, z_m1, z_l0, z_l1, iZ_add, iZ_sub, iZ_mul, iZ_neg, lZ_add, lZ_sub, lZ_mul, lZ_neg, z_div, z_ldiv, z_l, z_i, z_lt, z_le, z_eq, z_llt, z_lle, z_leq, z_cgt, z_cge, z_clt, z_cle, z_ceq, z_cl, z_nat, Int.toNat_natCast, mm_I, mm_J, z_cln, z_abs, z_max, z_min, z_lmax, z_lmin, z_sin, Int.cast_ofNat_Int, uI_I, uI_J, uL_I, uL_J, uA_I, uA_J, sI_eq, sI_ne, sL_eq, sL_ne, up_eq, up_ne, uL_eq, uL_ne, z_toInt, Int.reduceToNat] at g
            rw [if_neg g] at he
            refine wt rfl ?_
            refine wp_keys [0, 1, 2, 3, 4] rfl rfl ?_
            cases o with
            | false =>
              exact wf (hs := [64]) 20 54 (by decide) (wt rfl (B64 s2 I2 rfl hc2 ⟨g2.1, g2.2.1, by have := g2.2.2; rw [if_neg (by decide)] at this; omega⟩ g he))
            | true =>
              have g22 := g2.2.2
              rw [if_pos rfl] at g22
              refine wf (hs := [64]) 20 54 (by decide) (wF (by decide) (And.intro rfl (c_emit (x := 25) hc2 h4 ⟨g2.1, g2.2.1, by omega⟩ rfl (fun I3 hc3 => ?_))))
              refine B64 (apL 25 s2) I3 rfl hc3 ⟨g2.1, g2.2.1, ?_⟩ g he
              show 3 * (((s2.2.2 ++ [25]).length : Nat) : Int) + 3 ≤ 6 * (s2.2.1 : Int) + (s2.1 : Int)
              rw [List.length_append]
              have l1 : [(25 : Int)].length = 1 := rfl
              omega
        refine wp_keys [0, 1, 2, 3, 4] rfl rfl ?_
        cases a with
        | false =>
          have : s2 = s1 := hs2.symm
          subst this
          exact wf (hs := [35]) 20 25 (by decide) (wt rfl (B35 I1 hc1 ⟨g1.1, g1.2.1, by have := g1.2.2; rw [if_neg (by decide)] at this; omega⟩))
        | true =>
          have hs3 : apL 24 s1 = s2 := hs2
          have g12 := g1.2.2
          rw [if_pos rfl] at g12
          refine wf (hs := [35]) 20 25 (by decide) (wF (by decide) (And.intro rfl (c_emit (x := 24) hc1 h4 ⟨g1.1, g1.2.1, by split at g12 <;> omega⟩ rfl (fun I2 hc2 => ?_))))
          rw [hs3] at hc2
          refine B35 I2 hc2 ⟨by rw [e2]; exact g1.1, by rw [← hs3]; exact g1.2.1, ?_⟩
          rw [← hs3]
          show 3 * (((s1.2.2 ++ [24]).length : Nat) : Int) + (3 + (if o then 3 else 0)) ≤ 6 * (s1.2.1 : Int) + (s1.1 : Int)
          rw [List.length_append]
          have l1 : [(24 : Int)].length = 1 := rfl
          omega
      · rw [← he, hv]; rfl
  refine wc (hs := [7]) 20 (by decide) ?_
  refine wp_keys [0, 1, 2, 3, 4] rfl rfl ?_
  have g := CP_gb h
  exact L 401 0 false false s I _ _ _ (by omega) (by omega) h ⟨g.1, g.2.1, by rw [if_neg (by decide), Int.add_zero]; exact g.2.2⟩ hRES.symm rfl rfl rfl
theorem c_fact (hK : TKS I0 T t m) (h4 : t ≤ 400) (hT : ∀ i, i < t → 0 ≤ T i ∧ T i ≤ 255) : ∀ k D, k ≤ 10 → 2 * k + 4 ≤ D → FSp E J A I0 T t m D k := by
  intro k
  induction k with
  | zero =>
    intro D _ hD s I x Q h ex h1 h0
    subst ex
    obtain ⟨D', rfl⟩ : ∃ D', D = D' + 4 := ⟨D - 4, by omega⟩
    unfold fcZ at h1 h0
    have tr := tk_rng (T := T) (t := t) (p := s.1)
    have B22 : (tkZ T t s.1 = 26 ∨ tkZ T t s.1 = 37) → wp E (D' + 4) 54 22 [(0, .ref 223), (1, .int (iZ ((10 - 0 : Nat) : Int))), (2, .int (iZ (tkZ T t s.1)))] [] (mm I J A) Q := fun q => by
      rw [if_pos q] at h0
      exact wf (hs := []) 20 22 (by decide) (wF (by decide) (And.intro rfl (c_fail hK h rfl (fun I' hf => And.intro rfl (h0 _ I' rfl hf)))))
    refine wc (hs := [22]) 40 (by decide) (And.intro rfl (c_token hK h ?_))
    refine And.intro (fun g => ?_) (fun g => And.intro (fun g2 => ?_) (fun g2 => ?_))
    · have g : iZ (tkZ T t s.1) = iZ 26 := g
      simp (disch := omega) only [z_i8, z_i16, z_of, z_ofN, z_lofN, z_0, z_1, z_m1, z_l0, z_l1, iZ_add, iZ_sub, iZ_mul, iZ_neg, lZ_add, lZ_sub, lZ_mul, lZ_neg, z_div, z_ldiv, z_l, z_i, z_lt, z_le, z_eq, z_llt, z_lle, z_leq, z_cgt, z_cge, z_clt, z_cle, z_ceq, z_cl, z_nat, Int.toNat_natCast, mm_I, mm_J, z_cln, z_abs, z_max, z_min, z_lmax, z_lmin, z_sin, Int.cast_ofNat_Int, uI_I, uI_J, uL_I, uL_J, uA_I, uA_J, sI_eq, sI_ne, sL_eq, sL_ne, up_eq, up_ne, uL_eq, uL_ne, z_toInt, Int.reduceToNat] at g
      refine wp_keys [0, 1, 2] rfl rfl ?_
      exact B22 (Or.inl g)
    · have g2 : iZ (tkZ T t s.1) = iZ 37 := g2
      simp (disch := omega) only [z_i8, z_i16, z_of, z_ofN, z_lofN, z_0, z_1, z_m1, z_l0, z_l1, iZ_add, iZ_sub, iZ_mul, iZ_neg, lZ_add, lZ_sub, lZ_mul, lZ_neg, z_div, z_ldiv, z_l, z_i, z_lt, z_le, z_eq, z_llt, z_lle, z_leq, z_cgt, z_cge, z_clt, z_cle, z_ceq, z_cl, z_nat, Int.toNat_natCast, mm_I, mm_J, z_cln, z_abs, z_max, z_min, z_lmax, z_lmin, z_sin, Int.cast_ofNat_Int, uI_I, uI_J, uL_I, uL_J, uA_I, uA_J, sI_eq, sI_ne, sL_eq, sL_ne, up_eq, up_ne, uL_eq, uL_ne, z_toInt, Int.reduceToNat] at g2
      refine wp_keys [0, 1, 2] rfl rfl ?_
      exact B22 (Or.inr g2)
    · have g : ¬ iZ (tkZ T t s.1) = iZ 26 := g
      have g2 : ¬ iZ (tkZ T t s.1) = iZ 37 := g2
      simp (disch := omega) only [z_i8, z_i16, z_of, z_ofN, z_lofN, z_0, z_1, z_m1, z_l0, z_l1, iZ_add, iZ_sub, iZ_mul, iZ_neg, lZ_add, lZ_sub, lZ_mul, lZ_neg, z_div, z_ldiv, z_l, z_i, z_lt, z_le, z_eq, z_llt, z_lle, z_leq, z_cgt, z_cge, z_clt, z_cle, z_ceq, z_cl, z_nat, Int.toNat_natCast, mm_I, mm_J, z_cln, z_abs, z_max, z_min, z_lmax, z_lmin, z_sin, Int.cast_ofNat_Int, uI_I, uI_J, uL_I, uL_J, uA_I, uA_J, sI_eq, sI_ne, sL_eq, sL_ne, up_eq, up_ne, uL_eq, uL_ne, z_toInt, Int.reduceToNat] at g
      simp (disch := omega) only [z_i8, z_i16, z_of, z_ofN, z_lofN, z_0, z_1, z_m1, z_l0, z_l1, iZ_add, iZ_sub, iZ_mul, iZ_neg, lZ_add, lZ_sub, lZ_mul, lZ_neg, z_div, z_ldiv, z_l, z_i, z_lt, z_le, z_eq, z_llt, z_lle, z_leq, z_cgt, z_cge, z_clt, z_cle, z_ceq, z_cl, z_nat, Int.toNat_natCast, mm_I, mm_J, z_cln, z_abs, z_max, z_min, z_lmax, z_lmin, z_sin, Int.cast_ofNat_Int, uI_I, uI_J, uL_I, uL_J, uA_I, uA_J, sI_eq, sI_ne, sL_eq, sL_ne, up_eq, up_ne, uL_eq, uL_ne, z_toInt, Int.reduceToNat] at g2
      rw [if_neg (by omega)] at h1 h0
      exact And.intro rfl (c_comparison hK h4 hT h (fun s' I' hv hc => And.intro rfl (h1 s' I' hv hc)) (fun e I' hv hf => And.intro rfl (h0 e I' hv hf)))
  | succ k ih =>
    intro D hk hD s I x Q h ex h1 h0
    subst ex
    obtain ⟨D', rfl⟩ : ∃ D', D = D' + 6 := ⟨D - 6, by omega⟩
    unfold fcZ at h1 h0
    have tr := tk_rng (T := T) (t := t) (p := s.1)
    have dk : iZ ((10 - (k + 1) : Nat) : Int) + iZ 1 = iZ ((10 - k : Nat) : Int) := (iZ_add _ _).trans (by congr 1; omega)
    have B22 : (tkZ T t s.1 = 26 ∨ tkZ T t s.1 = 37) → wp E (D' + 6) 54 22 [(0, .ref 223), (1, .int (iZ ((10 - (k + 1) : Nat) : Int))), (2, .int (iZ (tkZ T t s.1)))] [] (mm I J A) Q := fun q => by
      have pt := tk_lt (T := T) (t := t) (p := s.1) (by omega)
      have hc := cp_stp hK h pt
      have c1 : iZ ((10 - (k + 1) : Nat) : Int) < iZ 10 := by ((try simp (disch := omega) only [z_i8, z_i16, z_of, z_ofN, z_lofN, z_0, z_1, z_m1, z_l0, z_l1, iZ_add, iZ_sub, iZ_mul, iZ_neg, lZ_add, lZ_sub, lZ_mul, lZ_neg, z_div, z_ldiv, z_l, z_i, z_lt, z_le, z_eq, z_llt, z_lle, z_leq, z_cgt, z_cge, z_clt, z_cle, z_ceq, z_cl, z_nat, Int.toNat_natCast, mm_I, mm_J, z_cln, z_abs, z_max, z_min, z_lmax, z_lmin, z_sin, Int.cast_ofNat_Int, uI_I, uI_J, uL_I, uL_J, uA_I, uA_J, sI_eq, sI_ne, sL_eq, sL_ne, up_eq, up_ne, uL_eq, uL_ne, z_toInt, Int.reduceToNat]) <;> omega)
      refine wf (hs := []) 60 22 (by decide) (wt c1 (And.intro (fun g => ?_) (fun g => ?_)))
      · have g : iZ (tkZ T t s.1) = iZ 26 := g
        simp (disch := omega) only [z_i8, z_i16, z_of, z_ofN, z_lofN, z_0, z_1, z_m1, z_l0, z_l1, iZ_add, iZ_sub, iZ_mul, iZ_neg, lZ_add, lZ_sub, lZ_mul, lZ_neg, z_div, z_ldiv, z_l, z_i, z_lt, z_le, z_eq, z_llt, z_lle, z_leq, z_cgt, z_cge, z_clt, z_cle, z_ceq, z_cl, z_nat, Int.toNat_natCast, mm_I, mm_J, z_cln, z_abs, z_max, z_min, z_lmax, z_lmin, z_sin, Int.cast_ofNat_Int, uI_I, uI_J, uL_I, uL_J, uA_I, uA_J, sI_eq, sI_ne, sL_eq, sL_ne, up_eq, up_ne, uL_eq, uL_ne, z_toInt, Int.reduceToNat] at g
        rw [if_pos g] at h1 h0
        refine And.intro rfl (ih (D' + 5) (by omega) (by omega) _ _ _ _ hc dk (fun s1 I1 hv hc1 => wF (by decide) ?_) (fun e I1 hv hf => wt rfl (And.intro rfl (h0 e I1 (by rw [hv]; rfl) hf))))
        have pp := fc_ok hT k _ _ hv
        have g1 := GB_PP (CP_gb hc) pp
        exact And.intro rfl (c_emit hc1 h4 ⟨g1.1, g1.2.1, by have := g1.2.2; omega⟩ rfl (fun I2 hc2 => And.intro rfl (h1 _ I2 (by rw [hv]; rfl) hc2)))
      · have g : ¬ iZ (tkZ T t s.1) = iZ 26 := g
        simp (disch := omega) only [z_i8, z_i16, z_of, z_ofN, z_lofN, z_0, z_1, z_m1, z_l0, z_l1, iZ_add, iZ_sub, iZ_mul, iZ_neg, lZ_add, lZ_sub, lZ_mul, lZ_neg, z_div, z_ldiv, z_l, z_i, z_lt, z_le, z_eq, z_llt, z_lle, z_leq, z_cgt, z_cge, z_clt, z_cle, z_ceq, z_cl, z_nat, Int.toNat_natCast, mm_I, mm_J, z_cln, z_abs, z_max, z_min, z_lmax, z_lmin, z_sin, Int.cast_ofNat_Int, uI_I, uI_J, uL_I, uL_J, uA_I, uA_J, sI_eq, sI_ne, sL_eq, sL_ne, up_eq, up_ne, uL_eq, uL_ne, z_toInt, Int.reduceToNat] at g
        have q37 : tkZ T t s.1 = 37 := by omega
        rw [if_neg g, if_pos q37] at h1 h0
        refine And.intro rfl (c_test (D := D' + 4) (ih (D' + 4) (by omega) (by omega)) (by omega) hK h4 hT hc dk (fun s1 I1 hv hc1 => wF (by decide) ?_) (fun e I1 hv hf => wt rfl (And.intro rfl (h0 e I1 ?_ hf))))
        · have hv2 : tsL T t (fcZ T t k) 401 false false (stp1 T t s) = .ok s1 := hv
          rw [hv2] at h1 h0
          have h1 : ∀ s' I', (if tkZ T t s1.1 = 38 then (.ok (stp1 T t s1) : pR) else .error (flt 0 s1.1)) = .ok s' → CP I0 I' T t m s' → Q (some (.int 1)) (mm I' J A) := h1
          have h0 : ∀ e I', (if tkZ T t s1.1 = 38 then (.ok (stp1 T t s1) : pR) else .error (flt 0 s1.1)) = .error e → CFt I0 I' e → Q (some (.int 0)) (mm I' J A) := h0
          have tr1 := tk_rng (T := T) (t := t) (p := s1.1)
          refine And.intro rfl (c_token hK hc1 (And.intro (fun w => ?_) (fun w => ?_)))
          · have w : iZ (tkZ T t s1.1) = iZ 38 := w
            simp (disch := omega) only [z_i8, z_i16, z_of, z_ofN, z_lofN, z_0, z_1, z_m1, z_l0, z_l1, iZ_add, iZ_sub, iZ_mul, iZ_neg, lZ_add, lZ_sub, lZ_mul, lZ_neg, z_div, z_ldiv, z_l, z_i, z_lt, z_le, z_eq, z_llt, z_lle, z_leq, z_cgt, z_cge, z_clt, z_cle, z_ceq, z_cl, z_nat, Int.toNat_natCast, mm_I, mm_J, z_cln, z_abs, z_max, z_min, z_lmax, z_lmin, z_sin, Int.cast_ofNat_Int, uI_I, uI_J, uL_I, uL_J, uA_I, uA_J, sI_eq, sI_ne, sL_eq, sL_ne, up_eq, up_ne, uL_eq, uL_ne, z_toInt, Int.reduceToNat] at w
            rw [if_pos w] at h1
            have pt1 := tk_lt (T := T) (t := t) (p := s1.1) (by omega)
            exact And.intro rfl (h1 _ _ rfl (cp_stp hK hc1 pt1))
          · have w : ¬ iZ (tkZ T t s1.1) = iZ 38 := w
            simp (disch := omega) only [z_i8, z_i16, z_of, z_ofN, z_lofN, z_0, z_1, z_m1, z_l0, z_l1, iZ_add, iZ_sub, iZ_mul, iZ_neg, lZ_add, lZ_sub, lZ_mul, lZ_neg, z_div, z_ldiv, z_l, z_i, z_lt, z_le, z_eq, z_llt, z_lle, z_leq, z_cgt, z_cge, z_clt, z_cle, z_ceq, z_cl, z_nat, Int.toNat_natCast, mm_I, mm_J, z_cln, z_abs, z_max, z_min, z_lmax, z_lmin, z_sin, Int.cast_ofNat_Int, uI_I, uI_J, uL_I, uL_J, uA_I, uA_J, sI_eq, sI_ne, sL_eq, sL_ne, up_eq, up_ne, uL_eq, uL_ne, z_toInt, Int.reduceToNat] at w
            rw [if_neg w] at h0
            exact And.intro rfl (c_fail hK hc1 rfl (fun I' hf => And.intro rfl (h0 _ I' rfl hf)))
        · have hv2 : tsL T t (fcZ T t k) 401 false false (stp1 T t s) = .error e := hv
          rw [hv2]; rfl
    refine wc (hs := [22]) 40 (by decide) (And.intro rfl (c_token hK h ?_))
    refine And.intro (fun g => ?_) (fun g => And.intro (fun g2 => ?_) (fun g2 => ?_))
    · have g : iZ (tkZ T t s.1) = iZ 26 := g
      simp (disch := omega) only [z_i8, z_i16, z_of, z_ofN, z_lofN, z_0, z_1, z_m1, z_l0, z_l1, iZ_add, iZ_sub, iZ_mul, iZ_neg, lZ_add, lZ_sub, lZ_mul, lZ_neg, z_div, z_ldiv, z_l, z_i, z_lt, z_le, z_eq, z_llt, z_lle, z_leq, z_cgt, z_cge, z_clt, z_cle, z_ceq, z_cl, z_nat, Int.toNat_natCast, mm_I, mm_J, z_cln, z_abs, z_max, z_min, z_lmax, z_lmin, z_sin, Int.cast_ofNat_Int, uI_I, uI_J, uL_I, uL_J, uA_I, uA_J, sI_eq, sI_ne, sL_eq, sL_ne, up_eq, up_ne, uL_eq, uL_ne, z_toInt, Int.reduceToNat] at g
      refine wp_keys [0, 1, 2] rfl rfl ?_
      exact B22 (Or.inl g)
    · have g2 : iZ (tkZ T t s.1) = iZ 37 := g2
      simp (disch := omega) only [z_i8, z_i16, z_of, z_ofN, z_lofN, z_0, z_1, z_m1, z_l0, z_l1, iZ_add, iZ_sub, iZ_mul, iZ_neg, lZ_add, lZ_sub, lZ_mul, lZ_neg, z_div, z_ldiv, z_l, z_i, z_lt, z_le, z_eq, z_llt, z_lle, z_leq, z_cgt, z_cge, z_clt, z_cle, z_ceq, z_cl, z_nat, Int.toNat_natCast, mm_I, mm_J, z_cln, z_abs, z_max, z_min, z_lmax, z_lmin, z_sin, Int.cast_ofNat_Int, uI_I, uI_J, uL_I, uL_J, uA_I, uA_J, sI_eq, sI_ne, sL_eq, sL_ne, up_eq, up_ne, uL_eq, uL_ne, z_toInt, Int.reduceToNat] at g2
      refine wp_keys [0, 1, 2] rfl rfl ?_
      exact B22 (Or.inr g2)
    · have g : ¬ iZ (tkZ T t s.1) = iZ 26 := g
      have g2 : ¬ iZ (tkZ T t s.1) = iZ 37 := g2
      simp (disch := omega) only [z_i8, z_i16, z_of, z_ofN, z_lofN, z_0, z_1, z_m1, z_l0, z_l1, iZ_add, iZ_sub, iZ_mul, iZ_neg, lZ_add, lZ_sub, lZ_mul, lZ_neg, z_div, z_ldiv, z_l, z_i, z_lt, z_le, z_eq, z_llt, z_lle, z_leq, z_cgt, z_cge, z_clt, z_cle, z_ceq, z_cl, z_nat, Int.toNat_natCast, mm_I, mm_J, z_cln, z_abs, z_max, z_min, z_lmax, z_lmin, z_sin, Int.cast_ofNat_Int, uI_I, uI_J, uL_I, uL_J, uA_I, uA_J, sI_eq, sI_ne, sL_eq, sL_ne, up_eq, up_ne, uL_eq, uL_ne, z_toInt, Int.reduceToNat] at g
      simp (disch := omega) only [z_i8, z_i16, z_of, z_ofN, z_lofN, z_0, z_1, z_m1, z_l0, z_l1, iZ_add, iZ_sub, iZ_mul, iZ_neg, lZ_add, lZ_sub, lZ_mul, lZ_neg, z_div, z_ldiv, z_l, z_i, z_lt, z_le, z_eq, z_llt, z_lle, z_leq, z_cgt, z_cge, z_clt, z_cle, z_ceq, z_cl, z_nat, Int.toNat_natCast, mm_I, mm_J, z_cln, z_abs, z_max, z_min, z_lmax, z_lmin, z_sin, Int.cast_ofNat_Int, uI_I, uI_J, uL_I, uL_J, uA_I, uA_J, sI_eq, sI_ne, sL_eq, sL_ne, up_eq, up_ne, uL_eq, uL_ne, z_toInt, Int.reduceToNat] at g2
      rw [if_neg g, if_neg g2] at h1 h0
      exact And.intro rfl (c_comparison (d := D' + 2) hK h4 hT h (fun s' I' hv hc => And.intro rfl (h1 s' I' hv hc)) (fun e I' hv hf => And.intro rfl (h0 e I' hv hf)))
end CPARSE2
