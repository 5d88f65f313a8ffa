section MCLAUSE6
variable {E : Nat × (Nat → Int32)} {d : Nat} {I I0 I1 I' : Nat → Nat → Int32} {J : Nat → Nat → Int64} {A : Nat → Option Nat} {Q : Option Value → am_M → Prop} {M : am_M} {T : Nat → Int} {t r q i : Nat} {f c : Int} {L : List Int} {s : pS}
theorem m_clause {x1 : Int32} (hT : TM I T t) (hr : r < 6) (hi : i ≤ 12) (h30 : I 265 30 = iZ r) (h36 : I 265 36 = iZ 19) (h : MX I I r q 0 (s.2.1 : Nat) s.2.2) (h33 : I 265 33 = iZ 0) (hq : q ≤ t) (hs : skp T t q = s.1) (hg : GBk t 0 s) (ex : x1 = iZ i)
    (hE : ∀ e I', hdZ T t i s = .error e → KE I I' r i e → Q none (mm I' J A))
    (hE2 : ∀ h e I', hdZ T t i s = .ok h → ttZ T t h.1 = .error e → KE I I' r i e → Q none (mm I' J A))
    (hQ : ∀ h s2 q' I' k, hdZ T t i s = .ok h → ttZ T t h.1 = .ok s2 → i < 12 → k < 5 → h.2.1 = (cdW (ctx k) : Nat) → KS I I' r i q' 0 (s2.2.1 : Nat) s2.2.2 → q' ≤ t → skp T t q' = s2.1 → RWi I' (12 * r + i) k h.2.2.1 h.2.2.2.1 h.2.2.2.2 s.2.2.length → I' 299 (12 * r + i) = iZ (h.1.2.2.length : Nat) → I' 300 (12 * r + i) = iZ (s2.2.2.length : Nat) → Q none (mm I' J A)) : wpC E (d + 11) 211 [.ref 265, .int x1] (mm I J A) Q := by
  subst ex
  have t4 := hT.1
  have hb := fun i hi => (hT.2.2 i hi).1
  have k0 : KS I I r i q 0 (s.2.1 : Nat) s.2.2 := ⟨h, ⟨fun _ _ _ _ _ => rfl, fun _ _ _ _ _ _ _ => rfl, fun _ _ => ⟨rfl, rfl⟩, fun _ _ _ _ _ => rfl⟩, h33⟩
  refine wc (hs := [11]) 40 (by decide) (And.intro rfl (m_blanks (d := d + 9) hT h.1 (by omega) ?_))
  have h1 := MX_q (q' := skp T t q) h
  have sb := (skp_b (T := T) hq).2.1
  rw [hs] at h1 sb ⊢
  obtain ⟨k1, -⟩ := KS_re k0 h1
  generalize hI1 : setI I 265 28 (iZ (s.1 : Nat)) = I1 at k1 ⊢
  have i28 : I1 265 28 = iZ (s.1 : Nat) := k1.1.1
  have hT1 := KS_TM hT k1.2.1
  have Lw : ∀ (n k : Nat) (x2 x3 : Int32), k + n = 5 → (∀ j, j < k → stB T t (ctx j) s.1 = false) → x2 = iZ (s.1 : Nat) → x3 = iZ k → wp E (d + 11) 211 11 [(0, .ref 265), (1, .int (iZ i)), (2, .int x2), (3, .int x3)] [] (mm I1 J A) Q := by
    intro n
    induction n with
    | zero =>
      intro k x2 x3 hk hno e2 e3
      subst e2; subst e3
      have : k = 5 := by omega
      subst this
      refine wf (hs := [11]) 40 11 (by decide) (wt (by decide) (wt rfl (And.intro rfl (m_fails (k := 0) (pl := s.1) k1.1 (by omega) (by omega) rfl rfl (fun I3 h3 => ?_)))))
      rw [if_pos rfl] at h3
      refine hE (flt 0 s.1) I3 ?_ (KS_err (KS_re k1 h3).1 (by omega) (by unfold flt; omega))
      unfold hdZ
      rw [if_neg ?_]
      intro h11
      have k18 : ∃ j, j < 5 ∧ ((if j = 3 then 16 else if j = 4 then 22 else 19 + j : Nat) : Int) = tkZ T t s.1 := by
        rcases h11 with w | w
        · exact ⟨3, by omega, by rw [w]; rfl⟩
        · by_cases w2 : tkZ T t s.1 = 22
          · exact ⟨4, by omega, by rw [w2]; rfl⟩
          · exact ⟨(tkZ T t s.1).toNat - 19, by omega, by rw [if_neg (by omega), if_neg (by omega)]; omega⟩
      obtain ⟨j, j1, j2⟩ := k18
      obtain ⟨w1, w2, -, -⟩ := ctx_cd j j1
      have := (st_iff (T := T) w2 sb).mpr (by rw [w1]; exact j2.symm)
      rw [hno j j1] at this
      cases this
    | succ n ih =>
      intro k x2 x3 hk hno e2 e3
      subst e2; subst e3
      obtain ⟨w1, w2, w3, w3b⟩ := ctx_cd k (by omega)
      have c1 : ¬ iZ 5 ≤ iZ (k : Int) := by ((try simp (disch := omega) only [z_i8, z_i16, z_of, z_ofN, z_lofN, z_0, z_1, z_m1, z_l0, z_l1, iZ_add, iZ_sub, iZ_mul, iZ_neg, lZ_add, lZ_sub, lZ_mul, lZ_neg, z_div, z_ldiv, z_l, z_i, z_lt, z_le, z_eq, z_llt, z_lle, z_leq, z_cgt, z_cge, z_clt, z_cle, z_ceq, z_cl, z_nat, Int.toNat_natCast, mm_I, mm_J, z_cln, z_abs, z_max, z_min, z_lmax, z_lmin, z_sin, Int.cast_ofNat_Int, uI_I, uI_J, uL_I, uL_J, uA_I, uA_J, sI_eq, sI_ne, sL_eq, sL_ne, up_eq, up_ne, uL_eq, uL_ne, z_toInt, Int.reduceToNat]) <;> omega)
      have B33 : stB T t (ctx k) s.1 = true → wp E (d + 11) 211 33 [(0, .ref 265), (1, .int (iZ i)), (2, .int (iZ (s.1 : Nat))), (3, .int (iZ k))] [] (mm I1 J A) Q := fun hst => by
        have c5 : ¬ iZ (k : Int) = iZ 5 := by ((try simp (disch := omega) only [z_i8, z_i16, z_of, z_ofN, z_lofN, z_0, z_1, z_m1, z_l0, z_l1, iZ_add, iZ_sub, iZ_mul, iZ_neg, lZ_add, lZ_sub, lZ_mul, lZ_neg, z_div, z_ldiv, z_l, z_i, z_lt, z_le, z_eq, z_llt, z_lle, z_leq, z_cgt, z_cge, z_clt, z_cle, z_ceq, z_cl, z_nat, Int.toNat_natCast, mm_I, mm_J, z_cln, z_abs, z_max, z_min, z_lmax, z_lmin, z_sin, Int.cast_ofNat_Int, uI_I, uI_J, uL_I, uL_J, uA_I, uA_J, sI_eq, sI_ne, sL_eq, sL_ne, up_eq, up_ne, uL_eq, uL_ne, z_toInt, Int.reduceToNat]) <;> omega)
        have tk := (st_iff (T := T) w2 sb).mp hst
        have hv : tkZ T t s.1 = 16 ∨ (19 ≤ tkZ T t s.1 ∧ tkZ T t s.1 ≤ 22) := by
          rw [w1] at tk
          by_cases y3 : k = 3
          · rw [if_pos y3] at tk; omega
          · by_cases y4 : k = 4
            · rw [if_neg y3, if_pos y4] at tk; omega
            · rw [if_neg y3, if_neg y4] at tk; omega
        unfold hdZ at hE hE2 hQ
        rw [if_pos hv] at hE hE2 hQ
        by_cases i12 : i = 12
        · rw [if_pos (by omega)] at hE
          have c12 : iZ (i : Int) = iZ 12 := by rw [i12]; rfl
          refine wf (hs := []) 40 33 (by decide) (wF c5 (wt c12 (And.intro rfl (m_fails (k := 4) (pl := s.1) k1.1 (by omega) (by omega) rfl rfl (fun I3 h3 => ?_)))))
          rw [if_pos rfl] at h3
          exact hE (flt 4 s.1) I3 rfl (KS_err (KS_re k1 h3).1 (by omega) (by unfold flt; omega))
        · rw [if_neg (by omega)] at hE hE2 hQ
          have c12 : ¬ iZ (i : Int) = iZ 12 := by ((try simp (disch := omega) only [z_i8, z_i16, z_of, z_ofN, z_lofN, z_0, z_1, z_m1, z_l0, z_l1, iZ_add, iZ_sub, iZ_mul, iZ_neg, lZ_add, lZ_sub, lZ_mul, lZ_neg, z_div, z_ldiv, z_l, z_i, z_lt, z_le, z_eq, z_llt, z_lle, z_leq, z_cgt, z_cge, z_clt, z_cle, z_ceq, z_cl, z_nat, Int.toNat_natCast, mm_I, mm_J, z_cln, z_abs, z_max, z_min, z_lmax, z_lmin, z_sin, Int.cast_ofNat_Int, uI_I, uI_J, uL_I, uL_J, uA_I, uA_J, sI_eq, sI_ne, sL_eq, sL_ne, up_eq, up_ne, uL_eq, uL_ne, z_toInt, Int.reduceToNat]) <;> omega)
          have we := wd_en (T := T) (k := ctx k) w2 sb tk
          have pt := tk_lt (T := T) (t := t) (p := s.1) (by omega)
          have h4 := MX_add (n := txL (ctx k)) k1.1
          obtain ⟨k4, -⟩ := KS_re k1 h4
          rw [tk] at hE hE2 hQ
          refine wf (hs := [74]) 60 33 (by decide) (wF c5 (wF c12 (And.intro rfl (m_clauseOf (k := k) (by omega) rfl (And.intro (rc_len (by omega) cat2) (tx_len (d := d + 9) (by omega) ?_))))))
          refine wp_keys [0, 1, 3] rfl rfl ?_
          exact m_cl74 (d := d) (s := stp1 T t s) hT hr (by omega) h30 h36 (by omega) k4 we.2 (by show _ = nxZ T t s.1; unfold nxZ; rw [we.1]) (gb_stp pt hg) rfl rfl hE hE2 (fun hh s2 q' I' b1 b2 b3 b4 b5 b6 b7 b8 => hQ hh s2 q' I' k b1 b2 (by omega) (by omega) (bd_gb hb (gb_stp pt hg) b1).2 b3 b4 b5 b6 b7 b8)
      refine wf (hs := [11, 33]) 40 11 (by decide) (wF c1 (And.intro rfl (m_clauseOf (k := k) (by omega) rfl (And.intro rfl (m_stands (d := d + 6) (k := ctx k) (by omega) w3 hT1 i28 (by omega) rfl (fun g => wF (by decide) ?_) (fun g => wt rfl ?_))))))
      · refine wp_keys [0, 1, 2, 3] rfl rfl ?_
        exact B33 g
      · refine wp_keys [0, 1, 2, 3] rfl rfl ?_
        refine ih (k + 1) _ _ (by omega) (fun j hj => ?_) rfl (iZ_add k 1)
        by_cases w5 : j = k
        · rw [w5]; exact g
        · exact hno j (by omega)
  refine wp_keys [0, 1, 2, 3] rfl rfl ?_
  exact Lw 5 0 _ _ (by omega) (fun j hj => by omega) i28 rfl
end MCLAUSE6
