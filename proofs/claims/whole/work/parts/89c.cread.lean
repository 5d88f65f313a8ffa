/-! ===== clauses; the class reads a plan ===== -/
abbrev hR : Type := pS × Int × Int × Int × Int
section PURE2
variable (T : Nat → Int) (t : Nat)
def pnZ (s : pS) : Except Int (pS × Int) := if tkZ T t s.1 ≤ 11 then .ok (stp1 T t s, tkZ T t s.1) else .error (flt 0 s.1)
def fgZ (most : Int) (s : pS) : Except Int (pS × Int) := if tkZ T t s.1 = 39 then (if 0 ≤ nuZ T t s.1 ∧ nuZ T t s.1 ≤ most then .ok (stp1 T t s, nuZ T t s.1) else .error (flt 1 s.1)) else .error (flt 0 s.1)
def bdZ (v : Int) (s1 : pS) : Except Int hR :=
  if v = 22 then (match sumZ T t s1 with
    | .error e => .error e
    | .ok s2 => .ok (s2, v, 0, 0, 0))
  else if v = 16 then (match fgZ T t 99 s1 with
    | .error e => .error e
    | .ok s2 => .ok (s2.1, v, 0, 0, s2.2))
  else (match pnZ T t s1 with
    | .error e => .error e
    | .ok s2 => if v = 21 then (match pnZ T t s2.1 with
      | .error e => .error e
      | .ok s3 => (match fgZ T t 9999 s3.1 with
        | .error e => .error e
        | .ok s4 => .ok (s4.1, v, s2.2, s3.2, s4.2)))
      else (match fgZ T t 9999 s2.1 with
        | .error e => .error e
        | .ok s4 => .ok (s4.1, v, s2.2, 0, s4.2)))
def hdZ (i : Nat) (s : pS) : Except Int hR := if tkZ T t s.1 = 16 ∨ (19 ≤ tkZ T t s.1 ∧ tkZ T t s.1 ≤ 22) then (if 12 ≤ i then .error (flt 4 s.1) else bdZ T t (tkZ T t s.1) (stp1 T t s)) else .error (flt 0 s.1)
def ttZ (s : pS) : pR := if tkZ T t s.1 = 23 then tsZ T t 10 (stp1 T t s) else .ok s
end PURE2
theorem TKS_eq {I I' : Nat → Nat → Int32} {T : Nat → Int} {t m : Nat} (h : TKS I T t m) (h1 : I' 223 1 = I 223 1) (h2 : I' 233 = I 233) (h3 : I' 234 = I 234) (h4 : I' 235 = I 235) : TKS I' T t m := by
  obtain ⟨a, b, c, e, f⟩ := h
  exact ⟨a, by rw [h1]; exact b, c, e, fun i hi => by rw [h2, h3, h4]; exact f i hi⟩
/-- the class between its pieces -/
def CB (I : Nat → Nat → Int32) (T : Nat → Int) (t m : Nat) (s : pS) : Prop := TKS I T t m ∧ CP I I T t m s
theorem CP_CB {I0 I : Nat → Nat → Int32} {T : Nat → Int} {t m : Nat} {s : pS} (hK : TKS I0 T t m) (h : CP I0 I T t m s) : CB I T t m s := by
  obtain ⟨a, b, c, e, f, f1, f2, f3, g⟩ := h
  exact ⟨TKS_eq hK (f2 1 (by omega) (by omega) (by omega)) (f1 233 (by omega) (by omega) (by omega)) (f1 234 (by omega) (by omega) (by omega)) (f1 235 (by omega) (by omega) (by omega)), a, b, c, e, f, fun _ _ _ _ => rfl, fun _ _ _ _ => rfl, fun _ _ => rfl, g⟩
theorem CB_eq {I I' : Nat → Nat → Int32} {T : Nat → Int} {t m : Nat} {s : pS} (h : CB I T t m s) (h1 : I' 223 = I 223) (h2 : I' 233 = I 233) (h3 : I' 234 = I 234) (h4 : I' 235 = I 235) (h5 : I' 224 8 = I 224 8) (h6 : I' 232 = I 232) : CB I' T t m s := by
  obtain ⟨hK, a, b, c, e, f, f1, f2, f3, g⟩ := h
  refine ⟨TKS_eq hK (by rw [h1]) h2 h3 h4, ?_, by rw [h1]; exact b, by rw [h1]; exact c, by rw [h5]; exact e, fun j hj => by rw [h6]; exact f j hj, fun _ _ _ _ => rfl, fun _ _ _ _ => rfl, fun _ _ => rfl, g⟩
  rw [h1]; exact a
section CREAD
variable {E : Nat × (Nat → Int32)} {d : Nat} {I I0 I1 : Nat → Nat → Int32} {J : Nat → Nat → Int64} {A : Nat → Option Nat} {Q : Option Value → am_M → Prop} {M : am_M} {T : Nat → Int} {t m : Nat} {s : pS}
/-- what a piece leaves: rows 225 to 231 but at i, and all that isn't the reader's -/
def CFr (i : Nat) (I I' : Nat → Nat → Int32) : Prop := (∀ a, a < 223 ∨ 233 ≤ a → I' a = I a) ∧ (∀ a j, 225 ≤ a → a ≤ 231 → j ≠ i → I' a j = I a j)
theorem CFr_trans {i : Nat} {I I' I'' : Nat → Nat → Int32} (h : CFr i I I') (h' : CFr i I' I'') : CFr i I I'' := ⟨fun a q => (h'.1 a q).trans (h.1 a q), fun a j q1 q2 q3 => (h'.2 a j q1 q2 q3).trans (h.2 a j q1 q2 q3)⟩
theorem CP_fr {i : Nat} (h : CP I I1 T t m s) : CFr i I I1 := ⟨fun a q => h.2.2.2.2.2.1 a (by omega) (by omega) (by omega), fun a j q1 q2 _ => by rw [h.2.2.2.2.2.1 a (by omega) (by omega) (by omega)]⟩
theorem CF_fr {i : Nat} {e : Int} (h : CFt I I1 e) : CFr i I I1 := ⟨fun a q => h.2 a (by omega) (by omega) (by omega), fun a j q1 q2 _ => by rw [h.2 a (by omega) (by omega) (by omega)]⟩
theorem c_placeName {i row : Nat} {x : Int32} (hrow : row = 226 ∨ row = 227) (hi : i < 12) (h : CB I T t m s) (ex : x = iZ i) (h1 : ∀ s' I', pnZ T t s = .ok s' → CB I' T t m s'.1 → I' row i = iZ s'.2 → (∀ a, a ≠ 223 → a ≠ row → I' a = I a) → CFr i I I' → Q (some (.int 1)) (mm I' J A)) (h0 : ∀ e I', pnZ T t s = .error e → I' 223 7 = iZ e → CFr i I I' → Q (some (.int 0)) (mm I' J A)) : wpC E (d + 1) 51 [.ref 223, .ref row, .int x] (mm I J A) Q := by
  subst ex
  obtain ⟨hK, hC⟩ := h
  have tr := tk_rng (T := T) (t := t) (p := s.1)
  have cl : (iZ (i : Int)).toNatClampNeg = i := z_cln (by omega)
  have hin : vp_in (iZ (i : Int)) 12 := z_in (by omega) (by omega) (by omega)
  unfold pnZ at h1 h0
  have fin : tkZ T t s.1 ≤ 11 → Q (some (.int 1)) (mm (setI (setI I row (iZ (i : Int)).toNatClampNeg (iZ (tkZ T t s.1))) 223 5 (setI I row (iZ (i : Int)).toNatClampNeg (iZ (tkZ T t s.1)) 223 5 + iZ 1)) J A) := fun g => by
    rw [if_pos g] at h1
    have pt := tk_lt (T := T) (t := t) (p := s.1) (by omega)
    obtain ⟨I2, hI2⟩ : ∃ I2, I2 = setI I row (iZ (i : Int)).toNatClampNeg (iZ (tkZ T t s.1)) := ⟨_, rfl⟩
    rw [← hI2]
    have at2 : ∀ a, a ≠ row → I2 a = I a := fun a q => by
      rw [hI2]; funext j; rw [setI_at, if_neg (fun x => q x.1)]
    have cb2 : CB I2 T t m s := CB_eq ⟨hK, hC⟩ (at2 223 (by omega)) (at2 233 (by omega)) (at2 234 (by omega)) (at2 235 (by omega)) (by rw [at2 224 (by omega)]) (at2 232 (by omega))
    have c3 := cp_stp cb2.1 cb2.2 pt
    have at3 : ∀ a, a ≠ 223 → setI I2 223 5 (I2 223 5 + iZ 1) a = I2 a := fun a q => by
      funext j; rw [setI_at, if_neg (fun x => q x.1)]
    refine h1 _ _ rfl (CP_CB cb2.1 c3) ?_ (fun a q1 q2 => (at3 a q1).trans (at2 a q2)) ⟨fun a q => (at3 a (by omega)).trans (at2 a (by omega)), fun a j q1 q2 q3 => ?_⟩
    · rw [at3 row (by omega), hI2, setI_at, cl, if_pos ⟨rfl, rfl⟩]
    · rw [at3 a (by omega), hI2, setI_at, cl, if_neg (fun x => q3 x.2)]
  refine wc (hs := [19]) 40 (by decide) (And.intro rfl (c_token hK hC ?_))
  refine And.intro rfl (cW (z := tkZ T t s.1) (lo := 0) (hi := 11) rfl rfl rfl (by omega) (by omega) (by omega) (fun g => wF (by decide) ?_) (fun g => wt rfl ?_))
  · refine wp_keys [0, 1, 2] rfl rfl ?_
    rcases hrow with rfl | rfl
    · exact wf (hs := []) 40 19 (by decide) (And.intro rfl (c_token hK hC (And.intro hin (And.intro rfl (fin g.2)))))
    · exact wf (hs := []) 40 19 (by decide) (And.intro rfl (c_token hK hC (And.intro hin (And.intro rfl (fin g.2)))))
  · rw [if_neg (by omega)] at h0
    exact And.intro rfl (c_fail hK hC rfl (fun I' hf => And.intro rfl (h0 _ I' rfl hf.1 (CF_fr hf))))
theorem c_figure {i : Nat} {most : Int} {x y : Int32} (hi : i < 12) (hm : 0 ≤ most ∧ most ≤ 99999) (h : CB I T t m s) (hT : ∀ i, i < t → 0 ≤ T i ∧ T i ≤ 255) (ex : x = iZ i) (ey : y = iZ most) (h1 : ∀ s' I', fgZ T t most s = .ok s' → CB I' T t m s'.1 → I' 228 i = iZ s'.2 → (∀ a, a ≠ 223 → a ≠ 228 → I' a = I a) → CFr i I I' → Q (some (.int 1)) (mm I' J A)) (h0 : ∀ e I', fgZ T t most s = .error e → I' 223 7 = iZ e → CFr i I I' → Q (some (.int 0)) (mm I' J A)) : wpC E (d + 1) 52 [.ref 223, .int x, .int y] (mm I J A) Q := by
  subst ex; subst ey
  obtain ⟨hK, hC⟩ := h
  have tr := tk_rng (T := T) (t := t) (p := s.1)
  have ci : (iZ (i : Int)).toNatClampNeg = i := z_cln (by omega)
  have iin : vp_in (iZ (i : Int)) 12 := z_in (by omega) (by omega) (by omega)
  obtain ⟨a, a1, a2, a3, k1, k2, k3, k4⟩ := cp_tok hK hC
  have m4 := hK.1
  have cl : (I 223 5).toNatClampNeg = a := by rw [a3]; exact z_cln (by omega)
  have hin : vp_in (I 223 5) 401 := by rw [a3]; exact z_in (by omega) (by omega) (by omega)
  unfold fgZ at h1 h0
  refine wc (hs := [15]) 40 (by decide) (And.intro rfl (c_token hK hC (And.intro (fun g => ?_) (fun g => ?_))))
  · have g : iZ (tkZ T t s.1) = iZ 39 := g
    simp (disch := omega) only [z_i8, z_i16, z_of, z_ofN, z_lofN, z_0, z_1, z_m1, z_l0, z_l1, iZ_add, iZ_sub, iZ_mul, iZ_neg, lZ_add, lZ_sub, lZ_mul, lZ_neg, z_div, z_ldiv, z_l, z_i, z_lt, z_le, z_eq, z_llt, z_lle, z_leq, z_cgt, z_cge, z_clt, z_cle, z_ceq, z_cl, z_nat, Int.toNat_natCast, mm_I, mm_J, z_cln, z_abs, z_max, z_min, z_lmax, z_lmin, z_sin, Int.cast_ofNat_Int, uI_I, uI_J, uL_I, uL_J, uA_I, uA_J, sI_eq, sI_ne, sL_eq, sL_ne, up_eq, up_ne, uL_eq, uL_ne, z_toInt, Int.reduceToNat] at g
    rw [if_pos g] at h1 h0
    have pt := tk_lt (T := T) (t := t) (p := s.1) (by omega)
    have nr := nu_rng hT (p := s.1) (by omega)
    have e5 : I 235 (I 223 5).toNatClampNeg = iZ (nuZ T t s.1) := by
      rw [cl, k4]; unfold nuK; rw [if_pos g]
    refine wp_keys [0, 1, 2] rfl rfl ?_
    refine wf (hs := []) 60 15 (by decide) (And.intro hin (And.intro rfl (cW (z := nuZ T t s.1) (lo := 0) (hi := most) e5 rfl rfl (by omega) (by omega) (by omega) (fun w => wF (by decide) ?_) (fun w => wt rfl ?_))))
    · rw [if_pos w] at h1
      obtain ⟨I2, hI2⟩ : ∃ I2, I2 = setI I 228 (iZ (i : Int)).toNatClampNeg (I 235 (I 223 5).toNatClampNeg) := ⟨_, rfl⟩
      have at2 : ∀ a, a ≠ 228 → I2 a = I a := fun a q => by
        rw [hI2]; funext j; rw [setI_at, if_neg (fun x => q x.1)]
      have cb2 : CB I2 T t m s := CB_eq ⟨hK, hC⟩ (at2 223 (by omega)) (at2 233 (by omega)) (at2 234 (by omega)) (at2 235 (by omega)) (by rw [at2 224 (by omega)]) (at2 232 (by omega))
      have c3 := cp_stp cb2.1 cb2.2 pt
      have at3 : ∀ a, a ≠ 223 → setI I2 223 5 (I2 223 5 + iZ 1) a = I2 a := fun a q => by
        funext j; rw [setI_at, if_neg (fun x => q x.1)]
      have H := h1 _ _ rfl (CP_CB cb2.1 c3) (by rw [at3 228 (by omega), hI2, setI_at, ci, if_pos ⟨rfl, rfl⟩, e5]) (fun a q1 q2 => (at3 a q1).trans (at2 a q2)) ⟨fun a q => (at3 a (by omega)).trans (at2 a (by omega)), fun a j q1 q2 q3 => by rw [at3 a (by omega), hI2, setI_at, ci, if_neg (fun x => q3 x.2)]⟩
      rw [hI2] at H
      exact And.intro hin (And.intro iin (And.intro rfl H))
    · rw [if_neg w] at h0
      exact And.intro rfl (c_fail hK hC rfl (fun I' hf => And.intro rfl (h0 _ I' rfl hf.1 (CF_fr hf))))
  · have g : ¬ iZ (tkZ T t s.1) = iZ 39 := g
    simp (disch := omega) only [z_i8, z_i16, z_of, z_ofN, z_lofN, z_0, z_1, z_m1, z_l0, z_l1, iZ_add, iZ_sub, iZ_mul, iZ_neg, lZ_add, lZ_sub, lZ_mul, lZ_neg, z_div, z_ldiv, z_l, z_i, z_lt, z_le, z_eq, z_llt, z_lle, z_leq, z_cgt, z_cge, z_clt, z_cle, z_ceq, z_cl, z_nat, Int.toNat_natCast, mm_I, mm_J, z_cln, z_abs, z_max, z_min, z_lmax, z_lmin, z_sin, Int.cast_ofNat_Int, uI_I, uI_J, uL_I, uL_J, uA_I, uA_J, sI_eq, sI_ne, sL_eq, sL_ne, up_eq, up_ne, uL_eq, uL_ne, z_toInt, Int.reduceToNat] at g
    rw [if_neg g] at h0
    exact And.intro rfl (c_fail hK hC rfl (fun I' hf => And.intro rfl (h0 _ I' rfl hf.1 (CF_fr hf))))
end CREAD
