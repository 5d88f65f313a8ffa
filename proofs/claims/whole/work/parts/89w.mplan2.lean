theorem hd_gb {T : Nat → Int} {t i : Nat} (hT : ∀ i, i < t → 0 ≤ T i ∧ T i ≤ 255) {s : pS} {h : hR} (hg : GBk t 0 s) (hv : hdZ T t i s = .ok h) : GBk t 0 h.1 := by
  unfold hdZ at hv
  by_cases w : tkZ T t s.1 = 16 ∨ (19 ≤ tkZ T t s.1 ∧ tkZ T t s.1 ≤ 22)
  · rw [if_pos w] at hv
    by_cases w2 : 12 ≤ i
    · rw [if_pos w2] at hv; cases hv
    · rw [if_neg w2] at hv
      exact (bd_gb hT (gb_stp (tk_lt (T := T) (t := t) (p := s.1) (by omega)) hg) hv).1
  · rw [if_neg w] at hv; cases hv
theorem tt_gb {T : Nat → Int} {t : Nat} (hT : ∀ i, i < t → 0 ≤ T i ∧ T i ≤ 255) {s s2 : pS} (hg : GBk t 0 s) (hv : ttZ T t s = .ok s2) : GBk t 0 s2 := by
  unfold ttZ at hv
  by_cases w : tkZ T t s.1 = 23
  · rw [if_pos w] at hv
    have pt := tk_lt (T := T) (t := t) (p := s.1) (by omega)
    have nb := nx_b (T := T) pt
    have g := GB_PP (gb_stp (T := T) pt hg) (ts_ok (T := T) (s0 := stp1 T t s) (fc_ok hT 10) 401 false false _ _ (PQ_0 nb.2) hv)
    exact ⟨g.1, g.2.1, by have := g.2.2; omega⟩
  · rw [if_neg w] at hv; cases hv; exact hg
section MPLAN2
variable {E : Nat × (Nat → Int32)} {d : Nat} {I0 : Nat → Nat → Int32} {J : Nat → Nat → Int64} {A : Nat → Option Nat} {Q : Option Value → am_M → Prop} {M : am_M} {T : Nat → Int} {t r : Nat}
theorem m_planL {RES : rR} (hT : TM I0 T t) (hr : r < 6) (h30 : I0 265 30 = iZ r) (h36 : I0 265 36 = iZ 19)
    (hOK : ∀ s' acc I' q', RES = .ok (s', acc) → MX I' I' r q' 0 (s'.2.1 : Nat) s'.2.2 → acc.length ≤ 12 → (∀ j, j < acc.length → RRi I' (12 * r + j) (acc.getD j (fun _ => 0))) → FP r I0 I' → GBk t 0 s' → wp E (d + 12) 212 137 [(0, .ref 265), (1, .int (iZ (acc.length : Nat)))] [] (mm I' J A) Q)
    (hER : ∀ e I' n, RES = .error e → I' 265 29 = iZ e → (0 < e ∧ e ≤ 1000000) → FP r I0 I' → n ≤ 13 → wp E (d + 12) 212 137 [(0, .ref 265), (1, .int (iZ (n : Nat)))] [] (mm I' J A) Q) : ∀ (n i : Nat) (s : pS) (acc : List (Nat → Int)) (I : Nat → Nat → Int32) (q : Nat) (x1 : Int32), i + n = 13 → i ≤ 12 → acc.length = i → MX I I r q 0 (s.2.1 : Nat) s.2.2 → FP r I0 I → I 265 33 = iZ 0 → q ≤ t → skp T t q = s.1 → GBk t 0 s → (∀ j, j < i → RRi I (12 * r + j) (acc.getD j (fun _ => 0))) → rdL T t n i s acc = RES → x1 = iZ i → wp E (d + 12) 212 48 [(0, .ref 265), (1, .int x1), (2, .int (iZ 1))] [] (mm I J A) Q := by
  have t4 := hT.1
  have hb := fun i hi => (hT.2.2 i hi).1
  intro n
  induction n with
  | zero => intro i s acc I q x1 hn hi; omega
  | succ n ih =>
    intro i s acc I q x1 hn hi ha h hF h33 hq hs hg hrow he e1
    subst e1
    unfold rdL at he
    have g30 : I 265 30 = iZ r := by rw [hF.2.1 30 (by omega) (by omega) (by omega) (by omega) (by omega) (by omega)]; exact h30
    have g36 : I 265 36 = iZ 19 := by rw [hF.2.1 36 (by omega) (by omega) (by omega) (by omega) (by omega) (by omega)]; exact h36
    refine wf (hs := [57]) 30 48 (by decide) (wF (by decide) (And.intro rfl (m_clause (d := d) (FP_TM hT hF) hr (by omega) g30 g36 h h33 hq hs hg rfl (fun e I2 hv ke => ?_) (fun hh e I2 hv hv2 ke => ?_) (fun hh s2 q2 I2 k b1 b2 b3 b4 b5 b6 b7 b8 b9 b10 b11 => ?_))))
    · refine wp_keys [0, 1] rfl rfl ?_
      obtain ⟨w1, w2, ⟨q', w3, w4⟩, w5⟩ := ke
      rw [hv] at he
      exact m_pl57E (d := d) hT (FP_c hF w5) w1 w2 w4 w3 rfl (fun I3 o1 o2 => hER e I3 (i + 1) he.symm o1 w2 o2 (by omega))
    · refine wp_keys [0, 1] rfl rfl ?_
      obtain ⟨w1, w2, ⟨q', w3, w4⟩, w5⟩ := ke
      rw [hv] at he
      dsimp only at he
      rw [hv2] at he
      exact m_pl57E (d := d) hT (FP_c hF w5) w1 w2 w4 w3 rfl (fun I3 o1 o2 => hER e I3 (i + 1) he.symm o1 w2 o2 (by omega))
    · refine wp_keys [0, 1] rfl rfl ?_
      rw [b1] at he
      dsimp only at he
      rw [b2] at he
      dsimp only at he
      have F2 := FP_c hF b6.2.1
      have h3 := MX_q (q' := skp T t q2) b6.1
      have s2t := (skp_b (T := T) b7).2.1
      refine wf (hs := [64]) 20 57 (by decide) (And.intro rfl (m_blanks (d := d + 10) (FP_TM hT F2) b6.1.1 (by omega) ?_))
      rw [b8] at h3 s2t ⊢
      generalize setI I2 265 28 (iZ (s2.1 : Nat)) = I3 at h3 ⊢
      obtain ⟨F3, g33, e3⟩ := FP_r F2 h3
      have h3s := MX_self h3
      have hT3 := FP_TM hT F3
      have i27 := hT3.2.1
      have i28 := h3s.1
      have c0 : I3 265 29 = 0 := h3s.2.1
      have g2 : GBk t 0 s2 := tt_gb hb (hd_gb hb hg b1) b2
      obtain ⟨rc, hrc⟩ : ∃ rc, rc = rcZ hh s.2.2.length hh.1.2.2.length s2.2.2.length := ⟨_, rfl⟩
      rw [← hrc] at he
      have row3 : ∀ I4 : Nat → Nat → Int32, (∀ a, 294 ≤ a → a ≤ 300 → I4 a = I3 a) → ∀ j, j < i + 1 → RRi I4 (12 * r + j) ((acc ++ [rc]).getD j (fun _ => 0)) := fun I4 e4 j hj => by
        rw [getD_app]
        by_cases w : j < acc.length
        · rw [if_pos w]
          refine RRi_eq (hrow j (by omega)) (fun a w1 w2 => ?_)
          rw [e4 a w1 w2, e3 a w1 w2]; exact b6.2.1.2.2.2 a _ w1 w2 (by omega)
        · have wj : j = i := by omega
          rw [if_neg w, if_pos (by omega), wj]
          obtain ⟨u1, u2, u3, u4⟩ := b9
          have R2 : RRi I2 (12 * r + i) rc := by rw [hrc]; exact ⟨k, b4, b5, u1, u2, u3, u4, b10, b11⟩
          exact RRi_eq R2 (fun a w1 w2 => by rw [e4 a w1 w2, e3 a w1 w2])
      have la : (acc ++ [rc]).length = i + 1 := by rw [List.length_append, ha]; rfl
      have tr := (tk_rng (T := T) (t := t) (p := s2.1)).2
      have ei : iZ (i : Int) + iZ 1 = iZ ((i + 1 : Nat) : Int) := iZ_add i 1
      refine wp_keys [0, 1] rfl rfl ?_
      by_cases wt0 : t ≤ s2.1
      · rw [if_pos (tr.mpr wt0)] at he
        have cA : I3 265 27 ≤ I3 265 28 := by rw [i27, i28]; ((try simp (disch := omega) only [z_i8, z_i16, z_of, z_ofN, z_lofN, z_0, z_1, z_m1, z_l0, z_l1, iZ_add, iZ_sub, iZ_mul, iZ_neg, lZ_add, lZ_sub, lZ_mul, lZ_neg, z_div, z_ldiv, z_l, z_i, z_lt, z_le, z_eq, z_llt, z_lle, z_leq, z_cgt, z_cge, z_clt, z_cle, z_ceq, z_cl, z_nat, Int.toNat_natCast, mm_I, mm_J, z_cln, z_abs, z_max, z_min, z_lmax, z_lmin, z_sin, Int.cast_ofNat_Int, uI_I, uI_J, uL_I, uL_J, uA_I, uA_J, sI_eq, sI_ne, sL_eq, sL_ne, up_eq, up_ne, uL_eq, uL_ne, z_toInt, Int.reduceToNat]) <;> omega)
        have h5 := MX_self (MX_add (n := 1) h3s)
        obtain ⟨F5, -, e5⟩ := FP_r F3 (MX_add (n := 1) h3s)
        refine wf (hs := [48]) 60 64 (by decide) (wt c0 (wt cA (wt c0 (wt cA ?_))))
        refine wp_keys [0, 1, 2] rfl rfl ?_
        refine wf (hs := [137]) 20 48 (by decide) (wt rfl ?_)
        refine wp_keys [0, 1] rfl rfl ?_
        have N := hOK s2 (acc ++ [rc]) _ (s2.1 + 1) he.symm h5 (by omega) (fun j hj => row3 _ e5 j (by omega)) F5 g2
        rw [la, ← ei] at N
        exact N
      · have cB : ¬ I3 265 27 ≤ I3 265 28 := by rw [i27, i28]; ((try simp (disch := omega) only [z_i8, z_i16, z_of, z_ofN, z_lofN, z_0, z_1, z_m1, z_l0, z_l1, iZ_add, iZ_sub, iZ_mul, iZ_neg, lZ_add, lZ_sub, lZ_mul, lZ_neg, z_div, z_ldiv, z_l, z_i, z_lt, z_le, z_eq, z_llt, z_lle, z_leq, z_cgt, z_cge, z_clt, z_cle, z_ceq, z_cl, z_nat, Int.toNat_natCast, mm_I, mm_J, z_cln, z_abs, z_max, z_min, z_lmax, z_lmin, z_sin, Int.cast_ofNat_Int, uI_I, uI_J, uL_I, uL_J, uA_I, uA_J, sI_eq, sI_ne, sL_eq, sL_ne, up_eq, up_ne, uL_eq, uL_ne, z_toInt, Int.reduceToNat]) <;> omega)
        rw [if_neg (fun y => wt0 (tr.mp y))] at he
        have sr := sgA_rng (p := s2.1) hT3
        refine wf (hs := [48]) 60 64 (by decide) (wt c0 (wF cB (And.intro rfl (m_sign hT3 i28 (by omega) ?_))))
        by_cases w : sgA T t s2.1 = 59
        · have tk := sg36.mp w
          rw [if_pos tk] at he
          have h5 := MX_self (MX_add (n := 1) h3s)
          obtain ⟨F5, k33, e5⟩ := FP_r F3 (MX_add (n := 1) h3s)
          have pt := tk_lt (T := T) (t := t) (p := s2.1) (by omega)
          have en : enZ T t s2.1 = s2.1 + 1 := by rw [en_sign (by omega), if_neg (by omega)]
          rw [w]
          refine wt rfl (wt c0 (wF cB ?_))
          refine wp_keys [0, 1, 2] rfl rfl ?_
          exact ih (i + 1) (stp1 T t s2) (acc ++ [rc]) _ (s2.1 + 1) _ (by omega) (by omega) la h5 F5 ((k33.trans g33).trans b6.2.2) (by omega) (by show _ = nxZ T t s2.1; unfold nxZ; rw [en]) (gb_stp pt g2) (fun j hj => row3 _ e5 j hj) he ei
        · have n1 : ¬ iZ (sgA T t s2.1) = iZ 59 := by ((try simp (disch := omega) only [z_i8, z_i16, z_of, z_ofN, z_lofN, z_0, z_1, z_m1, z_l0, z_l1, iZ_add, iZ_sub, iZ_mul, iZ_neg, lZ_add, lZ_sub, lZ_mul, lZ_neg, z_div, z_ldiv, z_l, z_i, z_lt, z_le, z_eq, z_llt, z_lle, z_leq, z_cgt, z_cge, z_clt, z_cle, z_ceq, z_cl, z_nat, Int.toNat_natCast, mm_I, mm_J, z_cln, z_abs, z_max, z_min, z_lmax, z_lmin, z_sin, Int.cast_ofNat_Int, uI_I, uI_J, uL_I, uL_J, uA_I, uA_J, sI_eq, sI_ne, sL_eq, sL_ne, up_eq, up_ne, uL_eq, uL_ne, z_toInt, Int.reduceToNat]) <;> omega)
          rw [if_neg (fun y => w (sg36.mpr y))] at he
          refine wF n1 (And.intro rfl (m_fails (k := 0) (pl := s2.1) h3s (by omega) (by omega) rfl i28 (fun I4 h4 => ?_)))
          rw [if_pos rfl] at h4
          have fne : flt 0 s2.1 ≠ 0 := by unfold flt; omega
          obtain ⟨F4, -, -⟩ := FP_r F3 h4
          have h4s := MX_self h4
          refine wF (f_ne h4s fne) ?_
          refine wp_keys [0, 1, 2] rfl rfl ?_
          refine wf (hs := [137]) 20 48 (by decide) (wt rfl ?_)
          refine wp_keys [0, 1] rfl rfl ?_
          have N := hER (flt 0 s2.1) (setI I4 265 28 (I4 265 28 + iZ 1)) (i + 1) he.symm (by rw [setI_at, if_neg (by omega)]; exact h4s.2.1) (by unfold flt; omega) (FP_28 F4 (Or.inl rfl)) (by omega)
          rw [← ei] at N
          exact N
end MPLAN2
