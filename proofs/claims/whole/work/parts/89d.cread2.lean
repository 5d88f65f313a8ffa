/-! ===== the class reads a plan, the whole ===== -/
def rcZ (h : hR) (a b c : Nat) : Nat → Int := fun j => if j = 1 then h.2.1 else if j = 2 then h.2.2.1 else if j = 3 then h.2.2.2.1 else if j = 4 then h.2.2.2.2 else if j = 5 then (a : Int) else if j = 6 then (b : Int) else (c : Int)
abbrev rR : Type := Except Int (pS × List (Nat → Int))
def rdL (T : Nat → Int) (t : Nat) : Nat → Nat → pS → List (Nat → Int) → rR
  | 0, _, _, _ => .error 0
  | n + 1, i, s, acc => match hdZ T t i s with
    | .error e => .error e
    | .ok h => match ttZ T t h.1 with
      | .error e => .error e
      | .ok s3 => if tkZ T t s3.1 = 40 then .ok (s3, acc ++ [rcZ h s.2.2.length h.1.2.2.length s3.2.2.length]) else if tkZ T t s3.1 = 36 then rdL T t n (i + 1) (stp1 T t s3) (acc ++ [rcZ h s.2.2.length h.1.2.2.length s3.2.2.length]) else .error (flt 0 s3.1)
def rdZ (T : Nat → Int) (t : Nat) : rR := rdL T t 13 0 (skp T t 0, 0, []) []
def RCi (I : Nat → Nat → Int32) (i : Nat) (r : Nat → Int) : Prop := I 225 i = iZ (r 1) ∧ (r 1 = 19 ∨ r 1 = 20 ∨ r 1 = 21 → I 226 i = iZ (r 2)) ∧ (r 1 = 21 → I 227 i = iZ (r 3)) ∧ (r 1 ≠ 22 → I 228 i = iZ (r 4)) ∧ I 229 i = iZ (r 5) ∧ I 230 i = iZ (r 6) ∧ I 231 i = iZ (r 7)
section CREAD2
variable {E : Nat × (Nat → Int32)} {d : Nat} {I I0 I1 : Nat → Nat → Int32} {J : Nat → Nat → Int64} {A : Nat → Option Nat} {Q : Option Value → am_M → Prop} {M : am_M} {T : Nat → Int} {t m : Nat} {s : pS}
theorem c_clause {i : Nat} {x : Int32} (h4 : t ≤ 400) (hT : ∀ i, i < t → 0 ≤ T i ∧ T i ≤ 255) (hi : i ≤ 12) (h : CB I T t m s) (ex : x = iZ i) (h1 : ∀ h I', hdZ T t i s = .ok h → i < 12 → CB I' T t m h.1 → I' 225 i = iZ h.2.1 → (h.2.1 = 19 ∨ h.2.1 = 20 ∨ h.2.1 = 21 → I' 226 i = iZ h.2.2.1) → (h.2.1 = 21 → I' 227 i = iZ h.2.2.2.1) → (h.2.1 ≠ 22 → I' 228 i = iZ h.2.2.2.2) → I' 229 i = iZ (s.2.2.length : Nat) → I' 224 0 = iZ ((i + 1 : Nat) : Int) → CFr i I I' → Q (some (.int 1)) (mm I' J A)) (h0 : ∀ e I', hdZ T t i s = .error e → I' 223 7 = iZ e → CFr i I I' → Q (some (.int 0)) (mm I' J A)) : wpC E (d + 3) 50 [.ref 223, .int x] (mm I J A) Q := by
  subst ex
  have hCB := h
  obtain ⟨hK, hC⟩ := h
  have tr := tk_rng (T := T) (t := t) (p := s.1)
  unfold hdZ at h1 h0
  have B28 : (tkZ T t s.1 = 16 ∨ (19 ≤ tkZ T t s.1 ∧ tkZ T t s.1 ≤ 22)) → wp E (d + 3) 50 28 [(0, .ref 223), (1, .int (iZ i)), (2, .int (iZ (tkZ T t s.1)))] [] (mm I J A) Q := fun g => by
    rw [if_pos g] at h1 h0
    by_cases i12 : 12 ≤ i
    · rw [if_pos i12] at h0
      have c1 : ¬ iZ (i : Int) < iZ 12 := by ((try simp (disch := omega) only [z_i8, z_i16, z_of, z_ofN, z_lofN, z_0, z_1, z_m1, z_l0, z_l1, iZ_add, iZ_sub, iZ_mul, iZ_neg, lZ_add, lZ_sub, lZ_mul, lZ_neg, z_div, z_ldiv, z_l, z_i, z_lt, z_le, z_eq, z_llt, z_lle, z_leq, z_cgt, z_cge, z_clt, z_cle, z_ceq, z_cl, z_nat, Int.toNat_natCast, mm_I, mm_J, z_cln, z_abs, z_max, z_min, z_lmax, z_lmin, z_sin, Int.cast_ofNat_Int, uI_I, uI_J, uL_I, uL_J, uA_I, uA_J, sI_eq, sI_ne, sL_eq, sL_ne, up_eq, up_ne, uL_eq, uL_ne, z_toInt, Int.reduceToNat]) <;> omega)
      exact wf (hs := []) 20 28 (by decide) (wF c1 (And.intro rfl (c_fail hK hC rfl (fun I' hf => And.intro rfl (h0 _ I' rfl hf.1 (CF_fr hf))))))
    · rw [if_neg i12] at h1 h0
      have c1 : iZ (i : Int) < iZ 12 := by ((try simp (disch := omega) only [z_i8, z_i16, z_of, z_ofN, z_lofN, z_0, z_1, z_m1, z_l0, z_l1, iZ_add, iZ_sub, iZ_mul, iZ_neg, lZ_add, lZ_sub, lZ_mul, lZ_neg, z_div, z_ldiv, z_l, z_i, z_lt, z_le, z_eq, z_llt, z_lle, z_leq, z_cgt, z_cge, z_clt, z_cle, z_ceq, z_cl, z_nat, Int.toNat_natCast, mm_I, mm_J, z_cln, z_abs, z_max, z_min, z_lmax, z_lmin, z_sin, Int.cast_ofNat_Int, uI_I, uI_J, uL_I, uL_J, uA_I, uA_J, sI_eq, sI_ne, sL_eq, sL_ne, up_eq, up_ne, uL_eq, uL_ne, z_toInt, Int.reduceToNat]) <;> omega)
      have pt := tk_lt (T := T) (t := t) (p := s.1) (by omega)
      have ci : (iZ (i : Int)).toNatClampNeg = i := z_cln (by omega)
      have iin : vp_in (iZ (i : Int)) 12 := z_in (by omega) (by omega) (by omega)
      obtain ⟨I1, hI1⟩ : ∃ I1, I1 = setI I 223 5 (I 223 5 + iZ 1) := ⟨_, rfl⟩
      have c2 := cp_stp hK hC pt
      rw [← hI1] at c2
      have cb1 := CP_CB hK c2
      obtain ⟨I2, hI2⟩ : ∃ I2, I2 = setI (setI (setI I1 224 0 (iZ (i : Int) + iZ 1)) 225 (iZ (i : Int)).toNatClampNeg (iZ (tkZ T t s.1))) 229 (iZ (i : Int)).toNatClampNeg (setI (setI I1 224 0 (iZ (i : Int) + iZ 1)) 225 (iZ (i : Int)).toNatClampNeg (iZ (tkZ T t s.1)) 224 8) := ⟨_, rfl⟩
      have at2 : ∀ a j, I2 a j = if a = 229 ∧ j = i then I1 224 8 else if a = 225 ∧ j = i then iZ (tkZ T t s.1) else if a = 224 ∧ j = 0 then iZ ((i + 1 : Nat) : Int) else I1 a j := fun a j => by
        rw [hI2, setI_at, setI_at, setI_at, setI_at, setI_at, ci, if_neg (show ¬ ((224 : Nat) = 225 ∧ (8 : Nat) = i) by omega), if_neg (show ¬ ((224 : Nat) = 224 ∧ (8 : Nat) = 0) by omega), iZ_add]
        rfl
      have row2 : ∀ a, a ≠ 229 → a ≠ 225 → a ≠ 224 → I2 a = I1 a := fun a q1 q2 q3 => by
        funext j
        rw [at2, if_neg (fun x => q1 x.1), if_neg (fun x => q2 x.1), if_neg (fun x => q3 x.1)]
      have cb2 : CB I2 T t m (stp1 T t s) := CB_eq cb1 (row2 223 (by omega) (by omega) (by omega)) (row2 233 (by omega) (by omega) (by omega)) (row2 234 (by omega) (by omega) (by omega)) (row2 235 (by omega) (by omega) (by omega)) (by rw [at2, if_neg (by omega), if_neg (by omega), if_neg (by omega)]) (row2 232 (by omega) (by omega) (by omega))
      have f12 : CFr i I I2 := by
        refine CFr_trans (CP_fr c2) ⟨fun a q => row2 a (by omega) (by omega) (by omega), fun a j q1 q2 q3 => ?_⟩
        rw [at2, if_neg (fun x => q3 x.2), if_neg (fun x => q3 x.2), if_neg (by omega)]
      have v225 : I2 225 i = iZ (tkZ T t s.1) := by rw [at2, if_neg (by omega), if_pos ⟨rfl, rfl⟩]
      have v229 : I2 229 i = iZ (s.2.2.length : Nat) := by
        rw [at2, if_pos ⟨rfl, rfl⟩]
        exact c2.2.2.2.1
      have v224 : I2 224 0 = iZ ((i + 1 : Nat) : Int) := by rw [at2, if_neg (by omega), if_neg (by omega), if_pos ⟨rfl, rfl⟩]
      have B86 : wp E (d + 3) 50 86 [(0, .ref 223), (1, .int (iZ i)), (2, .int (iZ (tkZ T t s.1)))] [] (mm I2 J A) Q := by
        generalize hv : tkZ T t s.1 = v at h1 h0 g v225 tr
        unfold bdZ at h1 h0
        refine wf (hs := [97]) 40 86 (by decide) (And.intro (fun w => ?_) (fun w => ?_))
        · have w : iZ v = iZ 22 := w
          simp (disch := omega) only [z_i8, z_i16, z_of, z_ofN, z_lofN, z_0, z_1, z_m1, z_l0, z_l1, iZ_add, iZ_sub, iZ_mul, iZ_neg, lZ_add, lZ_sub, lZ_mul, lZ_neg, z_div, z_ldiv, z_l, z_i, z_lt, z_le, z_eq, z_llt, z_lle, z_leq, z_cgt, z_cge, z_clt, z_cle, z_ceq, z_cl, z_nat, Int.toNat_natCast, mm_I, mm_J, z_cln, z_abs, z_max, z_min, z_lmax, z_lmin, z_sin, Int.cast_ofNat_Int, uI_I, uI_J, uL_I, uL_J, uA_I, uA_J, sI_eq, sI_ne, sL_eq, sL_ne, up_eq, up_ne, uL_eq, uL_ne, z_toInt, Int.reduceToNat] at w
          rw [if_pos w] at h1 h0
          refine And.intro rfl (c_sum cb2.1 h4 hT cb2.2 (fun s2 I3 hv2 hc3 => And.intro rfl ?_) (fun e I3 hv2 hf => And.intro rfl ?_))
          · rw [hv2] at h1
            have u : ∀ a, a ≠ 223 → a ≠ 224 → a ≠ 232 → I3 a = I2 a := hc3.2.2.2.2.2.1
            exact h1 _ I3 rfl (by omega) (CP_CB cb2.1 hc3) (by rw [u 225 (by omega) (by omega) (by omega)]; exact v225) (fun q => by dsimp only at q; omega) (fun q => by dsimp only at q; omega) (fun q => absurd w q) (by rw [u 229 (by omega) (by omega) (by omega)]; exact v229) (by rw [hc3.2.2.2.2.2.2.2.1 0 (by omega)]; exact v224) (CFr_trans f12 (CP_fr hc3))
          · rw [hv2] at h0
            exact h0 e I3 rfl hf.1 (CFr_trans f12 (CF_fr hf))
        · have w : ¬ iZ v = iZ 22 := w
          simp (disch := omega) only [z_i8, z_i16, z_of, z_ofN, z_lofN, z_0, z_1, z_m1, z_l0, z_l1, iZ_add, iZ_sub, iZ_mul, iZ_neg, lZ_add, lZ_sub, lZ_mul, lZ_neg, z_div, z_ldiv, z_l, z_i, z_lt, z_le, z_eq, z_llt, z_lle, z_leq, z_cgt, z_cge, z_clt, z_cle, z_ceq, z_cl, z_nat, Int.toNat_natCast, mm_I, mm_J, z_cln, z_abs, z_max, z_min, z_lmax, z_lmin, z_sin, Int.cast_ofNat_Int, uI_I, uI_J, uL_I, uL_J, uA_I, uA_J, sI_eq, sI_ne, sL_eq, sL_ne, up_eq, up_ne, uL_eq, uL_ne, z_toInt, Int.reduceToNat] at w
          rw [if_neg w] at h1 h0
          refine wf (hs := [111]) 40 97 (by decide) (And.intro (fun w2 => ?_) (fun w2 => ?_))
          · have w2 : iZ v = iZ 16 := w2
            simp (disch := omega) only [z_i8, z_i16, z_of, z_ofN, z_lofN, z_0, z_1, z_m1, z_l0, z_l1, iZ_add, iZ_sub, iZ_mul, iZ_neg, lZ_add, lZ_sub, lZ_mul, lZ_neg, z_div, z_ldiv, z_l, z_i, z_lt, z_le, z_eq, z_llt, z_lle, z_leq, z_cgt, z_cge, z_clt, z_cle, z_ceq, z_cl, z_nat, Int.toNat_natCast, mm_I, mm_J, z_cln, z_abs, z_max, z_min, z_lmax, z_lmin, z_sin, Int.cast_ofNat_Int, uI_I, uI_J, uL_I, uL_J, uA_I, uA_J, sI_eq, sI_ne, sL_eq, sL_ne, up_eq, up_ne, uL_eq, uL_ne, z_toInt, Int.reduceToNat] at w2
            rw [if_pos w2] at h1 h0
            refine And.intro rfl (c_figure (i := i) (most := 99) (by omega) (by omega) cb2 hT rfl rfl (fun s2 I3 hv2 hc3 k1 k2 k3 => And.intro rfl ?_) (fun e I3 hv2 k1 k2 => And.intro rfl ?_))
            · rw [hv2] at h1
              exact h1 _ I3 rfl (by omega) hc3 (by rw [k2 225 (by omega) (by omega)]; exact v225) (fun q => by dsimp only at q; omega) (fun q => by dsimp only at q; omega) (fun _ => k1) (by rw [k2 229 (by omega) (by omega)]; exact v229) (by rw [k2 224 (by omega) (by omega)]; exact v224) (CFr_trans f12 k3)
            · rw [hv2] at h0
              exact h0 e I3 rfl k1 (CFr_trans f12 k2)
          · have w2 : ¬ iZ v = iZ 16 := w2
            simp (disch := omega) only [z_i8, z_i16, z_of, z_ofN, z_lofN, z_0, z_1, z_m1, z_l0, z_l1, iZ_add, iZ_sub, iZ_mul, iZ_neg, lZ_add, lZ_sub, lZ_mul, lZ_neg, z_div, z_ldiv, z_l, z_i, z_lt, z_le, z_eq, z_llt, z_lle, z_leq, z_cgt, z_cge, z_clt, z_cle, z_ceq, z_cl, z_nat, Int.toNat_natCast, mm_I, mm_J, z_cln, z_abs, z_max, z_min, z_lmax, z_lmin, z_sin, Int.cast_ofNat_Int, uI_I, uI_J, uL_I, uL_J, uA_I, uA_J, sI_eq, sI_ne, sL_eq, sL_ne, up_eq, up_ne, uL_eq, uL_ne, z_toInt, Int.reduceToNat] at w2
            rw [if_neg w2] at h1 h0
            have ok1 : v = 19 ∨ v = 20 ∨ v = 21 := by omega
            refine wf (hs := [126, 162]) 40 111 (by decide) (And.intro rfl (c_placeName (i := i) (row := 226) (Or.inl rfl) (by omega) cb2 rfl (fun s2 I3 hv2 hc3 k1 k2 k3 => wF (by decide) ?_) (fun e I3 hv2 k1 k2 => wt rfl ?_)))
            · rw [hv2] at h1 h0
              dsimp only at h1 h0
              have FG : ∀ (s3 : pS) (I4 : Nat → Nat → Int32) (f2 : Int), CB I4 T t m s3 → I4 225 i = iZ v → I4 226 i = iZ s2.2 → (v = 21 → I4 227 i = iZ f2) → I4 229 i = iZ (s.2.2.length : Nat) → I4 224 0 = iZ ((i + 1 : Nat) : Int) → CFr i I I4 → (∀ h I', (match fgZ T t 9999 s3 with
                  | .error e => (.error e : Except Int hR)
                  | .ok s4 => .ok (s4.1, v, s2.2, f2, s4.2)) = .ok h → i < 12 → CB I' T t m h.1 → I' 225 i = iZ h.2.1 → (h.2.1 = 19 ∨ h.2.1 = 20 ∨ h.2.1 = 21 → I' 226 i = iZ h.2.2.1) → (h.2.1 = 21 → I' 227 i = iZ h.2.2.2.1) → (h.2.1 ≠ 22 → I' 228 i = iZ h.2.2.2.2) → I' 229 i = iZ (s.2.2.length : Nat) → I' 224 0 = iZ ((i + 1 : Nat) : Int) → CFr i I I' → Q (some (.int 1)) (mm I' J A)) → (∀ e I', (match fgZ T t 9999 s3 with
                  | .error e => (.error e : Except Int hR)
                  | .ok s4 => .ok (s4.1, v, s2.2, f2, s4.2)) = .error e → I' 223 7 = iZ e → CFr i I I' → Q (some (.int 0)) (mm I' J A)) → wp E (d + 3) 50 147 [(0, .ref 223), (1, .int (iZ i)), (2, .int (iZ v))] [] (mm I4 J A) Q := fun s3 I4 f2 hc4 u1 u2 u3 u4 u5 u6 o1 o0 => by
                refine wf (hs := []) 40 147 (by decide) (And.intro rfl (c_figure (i := i) (most := 9999) (by omega) (by omega) hc4 hT rfl rfl (fun s5 I5 hv5 hc5 k1 k2 k3 => wF (by decide) (And.intro rfl ?_)) (fun e I5 hv5 k1 k2 => wt rfl (And.intro rfl ?_))))
                · rw [hv5] at o1
                  exact o1 _ I5 rfl (by omega) hc5 (by rw [k2 225 (by omega) (by omega)]; exact u1) (fun _ => by rw [k2 226 (by omega) (by omega)]; exact u2) (fun q => by rw [k2 227 (by omega) (by omega)]; exact u3 q) (fun _ => k1) (by rw [k2 229 (by omega) (by omega)]; exact u4) (by rw [k2 224 (by omega) (by omega)]; exact u5) (CFr_trans u6 k3)
                · rw [hv5] at o0
                  exact o0 e I5 rfl k1 (CFr_trans u6 k2)
              have y1 : I3 225 i = iZ v := by rw [k2 225 (by omega) (by omega)]; exact v225
              have y2 : I3 229 i = iZ (s.2.2.length : Nat) := by rw [k2 229 (by omega) (by omega)]; exact v229
              have y3 : I3 224 0 = iZ ((i + 1 : Nat) : Int) := by rw [k2 224 (by omega) (by omega)]; exact v224
              refine wf (hs := [147, 162]) 40 126 (by decide) (And.intro (fun w3 => ?_) (fun w3 => ?_))
              · have w3 : iZ v = iZ 21 := w3
                simp (disch := omega) only [z_i8, z_i16, z_of, z_ofN, z_lofN, z_0, z_1, z_m1, z_l0, z_l1, iZ_add, iZ_sub, iZ_mul, iZ_neg, lZ_add, lZ_sub, lZ_mul, lZ_neg, z_div, z_ldiv, z_l, z_i, z_lt, z_le, z_eq, z_llt, z_lle, z_leq, z_cgt, z_cge, z_clt, z_cle, z_ceq, z_cl, z_nat, Int.toNat_natCast, mm_I, mm_J, z_cln, z_abs, z_max, z_min, z_lmax, z_lmin, z_sin, Int.cast_ofNat_Int, uI_I, uI_J, uL_I, uL_J, uA_I, uA_J, sI_eq, sI_ne, sL_eq, sL_ne, up_eq, up_ne, uL_eq, uL_ne, z_toInt, Int.reduceToNat] at w3
                rw [if_pos w3] at h1 h0
                refine And.intro rfl (c_placeName (i := i) (row := 227) (Or.inr rfl) (by omega) hc3 rfl (fun s4 I4 hv4 hc4 k4 k5 k6 => wF (by decide) ?_) (fun e I4 hv4 k4 k5 => wt rfl ?_))
                · rw [hv4] at h1 h0
                  dsimp only at h1 h0
                  exact FG s4.1 I4 s4.2 hc4 (by rw [k5 225 (by omega) (by omega)]; exact y1) (by rw [k5 226 (by omega) (by omega)]; exact k1) (fun _ => k4) (by rw [k5 229 (by omega) (by omega)]; exact y2) (by rw [k5 224 (by omega) (by omega)]; exact y3) (CFr_trans f12 (CFr_trans k3 k6)) h1 h0
                · rw [hv4] at h0
                  exact wf (hs := []) 20 162 (by decide) (And.intro rfl (h0 e I4 rfl k4 (CFr_trans f12 (CFr_trans k3 k5))))
              · have w3 : ¬ iZ v = iZ 21 := w3
                simp (disch := omega) only [z_i8, z_i16, z_of, z_ofN, z_lofN, z_0, z_1, z_m1, z_l0, z_l1, iZ_add, iZ_sub, iZ_mul, iZ_neg, lZ_add, lZ_sub, lZ_mul, lZ_neg, z_div, z_ldiv, z_l, z_i, z_lt, z_le, z_eq, z_llt, z_lle, z_leq, z_cgt, z_cge, z_clt, z_cle, z_ceq, z_cl, z_nat, Int.toNat_natCast, mm_I, mm_J, z_cln, z_abs, z_max, z_min, z_lmax, z_lmin, z_sin, Int.cast_ofNat_Int, uI_I, uI_J, uL_I, uL_J, uA_I, uA_J, sI_eq, sI_ne, sL_eq, sL_ne, up_eq, up_ne, uL_eq, uL_ne, z_toInt, Int.reduceToNat] at w3
                rw [if_neg w3] at h1 h0
                exact FG s2.1 I3 0 hc3 y1 k1 (fun q => absurd q w3) y2 y3 (CFr_trans f12 k3) h1 h0
            · rw [hv2] at h0
              exact wf (hs := []) 20 162 (by decide) (And.intro rfl (h0 e I3 rfl k1 (CFr_trans f12 k2)))
      rw [hI2, hI1] at B86
      exact wf (hs := [86]) 40 28 (by decide) (wt c1 (And.intro iin (And.intro iin B86)))
  refine wc (hs := [28]) 40 (by decide) (And.intro rfl (c_token hK hC (And.intro (fun g => ?_) (fun g => ?_))))
  · have g : iZ (tkZ T t s.1) = iZ 16 := g
    simp (disch := omega) only [z_i8, z_i16, z_of, z_ofN, z_lofN, z_0, z_1, z_m1, z_l0, z_l1, iZ_add, iZ_sub, iZ_mul, iZ_neg, lZ_add, lZ_sub, lZ_mul, lZ_neg, z_div, z_ldiv, z_l, z_i, z_lt, z_le, z_eq, z_llt, z_lle, z_leq, z_cgt, z_cge, z_clt, z_cle, z_ceq, z_cl, z_nat, Int.toNat_natCast, mm_I, mm_J, z_cln, z_abs, z_max, z_min, z_lmax, z_lmin, z_sin, Int.cast_ofNat_Int, uI_I, uI_J, uL_I, uL_J, uA_I, uA_J, sI_eq, sI_ne, sL_eq, sL_ne, up_eq, up_ne, uL_eq, uL_ne, z_toInt, Int.reduceToNat] at g
    refine wp_keys [0, 1, 2] rfl rfl ?_
    exact B28 (Or.inl g)
  · have g : ¬ iZ (tkZ T t s.1) = iZ 16 := g
    simp (disch := omega) only [z_i8, z_i16, z_of, z_ofN, z_lofN, z_0, z_1, z_m1, z_l0, z_l1, iZ_add, iZ_sub, iZ_mul, iZ_neg, lZ_add, lZ_sub, lZ_mul, lZ_neg, z_div, z_ldiv, z_l, z_i, z_lt, z_le, z_eq, z_llt, z_lle, z_leq, z_cgt, z_cge, z_clt, z_cle, z_ceq, z_cl, z_nat, Int.toNat_natCast, mm_I, mm_J, z_cln, z_abs, z_max, z_min, z_lmax, z_lmin, z_sin, Int.cast_ofNat_Int, uI_I, uI_J, uL_I, uL_J, uA_I, uA_J, sI_eq, sI_ne, sL_eq, sL_ne, up_eq, up_ne, uL_eq, uL_ne, z_toInt, Int.reduceToNat] at g
    refine And.intro rfl (cW (z := tkZ T t s.1) (lo := 19) (hi := 22) rfl rfl rfl (by omega) (by omega) (by omega) (fun w => wF (by decide) ?_) (fun w => wt rfl ?_))
    · refine wp_keys [0, 1, 2] rfl rfl ?_
      exact B28 (Or.inr w)
    · rw [if_neg (by omega)] at h0
      exact And.intro rfl (c_fail hK hC rfl (fun I' hf => And.intro rfl (h0 _ I' rfl hf.1 (CF_fr hf))))
end CREAD2
