/-! ===== best told to both ===== -/
section BEST4
variable {E : Nat × (Nat → Int32)} {d : Nat} {I I0 I1 : Nat → Nat → Int32} {J J0 J1 : Nat → Nat → Int64} {A A1 : Nat → Option Nat} {Q : Option Value → am_M → Prop} {M : am_M} {v w : am_V} {b : Nat}
theorem c_bestBegin {P n r : Nat} {x2 x3 x4 : Int32} (hR : RS I J 1 v) (hW : Wf v) (e2 : x2 = iZ P) (e3 : x3 = iZ n) (e4 : x4 = iZ r) (hQ : ∀ I', KP I' 263 0 v → BE I J P n r (61, 0) I' J → RS I' J 1 v → Q none (mm I' J A)) : wpC E (d + 2) 12 [.ref 254, .ref 1, .int x2, .int x3, .int x4] (mm I J A) Q := by
  subst e2; subst e3; subst e4
  obtain ⟨I1, h1⟩ : ∃ I1, I1 = setI (setI (setI (setI I 254 1 (iZ P)) 254 2 (iZ n)) 254 3 (iZ r)) 254 6 (iZ 61) := ⟨_, rfl⟩
  have at1 : ∀ a, a ≠ 254 → I1 a = I a := fun a ha => by
    rw [h1]
    funext j
    simp only [setI_at, ha, false_and, if_false]
  have hR1 : RS I1 J 1 v := RS_eq (fun a q1 q2 => ⟨at1 a (by omega), rfl⟩) hR
  have ck := c_keep (E := E) (d := d) (A := A) (r := 263) (f := 0) (x := iZ (0 : Nat)) (Q := fun q M => q = none ∧ Q none M) (Or.inr ⟨rfl, rfl⟩) hR1 hW ⟨fun _ => rfl, by omega⟩ rfl (fun I' q1 q2 q3 => ⟨rfl, hQ I' q1 ⟨fun a p1 p2 => ⟨(q2 a (by omega)).trans (at1 a (by omega)), rfl⟩, by rw [q2 254 (by omega), h1]; simp [setI_at], by rw [q2 254 (by omega), h1]; simp [setI_at], by rw [q2 254 (by omega), h1]; simp [setI_at], by rw [q2 254 (by omega), h1]; simp [setI_at], ⟨by dsimp only; omega, by dsimp only; omega⟩, fun q => by dsimp only at q; omega⟩ (RS_eq (fun a p1 p2 => ⟨q2 a (by omega), rfl⟩) hR1)⟩)
  rw [h1] at ck
  refine wc (hs := []) 40 (by decide) (And.intro rfl (wpC_mono ck (fun r M hh => ?_)))
  obtain ⟨rfl, hh⟩ := hh
  exact hh
theorem op_best {n r k : Int} (h : Inv I J) (hz : ZO (mm I J A)) (hn : -2147483648 ≤ n ∧ n ≤ 2147483647) (hr : -2147483648 ≤ r ∧ r ≤ 2147483647) (hk : -2147483648 ≤ k ∧ k ≤ 2147483647) : wpC E (d + 11) 123 [.ref 0, .int (iZ n), .int (iZ r), .int (iZ k)] (mm I J A) (QI E (d + 11) 247 [.int (iZ n), .int (iZ r), .int (iZ k)]) := by
  obtain ⟨P, hP, e3, e31, hp⟩ := id h.2.2.2.1
  have h9 : I 266 0 = 1 → vC I 266 8 ≤ 9999 := fun q => (Vs_on h.1 q).2.2.2
  have F : ¬ GBs I n r k → ZO (mm I J A) → QI E (d + 11) 247 [.int (iZ n), .int (iZ r), .int (iZ k)] (some (.int (iZ (-3)))) (mm I J A) := fun g _ => rd_mk h FS_refl (m_best h.2.2.2.2.1 hz (Vs_m h.1) h9 e31 hP hp hn hr hk (fun x => absurd x g) (fun x => absurd x g) (fun _ => ⟨rfl, rfl⟩))
  refine wpC_mono (wpC_zo hz (Q := fun r' M => ZO M → QI E (d + 11) 247 [.int (iZ n), .int (iZ r), .int (iZ k)] r' M) ?_) (fun r M hh => hh.1 hh.2)
  rcases h.1 with ⟨g0, g1⟩ | ⟨g0, hW, hH, hR, h8⟩
  · exact wc (hs := []) 20 (by decide) (wt g1 (F fun q => by rw [q.1] at g0; cases g0))
  · have b1 : ¬ I 1 0 = 0 := by have : I 1 0 = 1 := hR.1.1; rw [this]; decide
    have T : 1 ≤ n ∧ n ≤ 4 → 1 ≤ r ∧ r ≤ 10 → -1 ≤ k ∧ k ≤ n - 1 → wp E (d + 11) 123 43 [(0, .ref 0), (1, .int (iZ n)), (2, .int (iZ r)), (3, .int (iZ k))] [] (mm I J A) (fun r' M => ZO M → QI E (d + 11) 247 [.int (iZ n), .int (iZ r), .int (iZ k)] r' M) := fun g1 g2 g3 => by
      by_cases p0 : P = 0
      · refine wf (hs := []) 20 43 (by decide) (wt ?_ (fun _ => rd_mk h FS_refl (m_best h.2.2.2.2.1 hz (Vs_m h.1) h9 e31 hP hp hn hr hk (fun _ x => absurd p0 (by omega)) (fun _ _ => ⟨rfl, rfl⟩) (fun x => absurd ⟨g0, g1, g2, g3⟩ x))))
        show I 0 3 = 0
        rw [e3, p0]; rfl
      have n3 : ¬ I 0 3 = 0 := by rw [e3]; exact nz_ne (by omega) (by omega)
      have fin : ∀ I' J' A', F3 1 I J I' J' → RS I' J' 1 (vC I) → ZO (mm I' J' A') → QI E (d + 11) 247 [.int (iZ n), .int (iZ r), .int (iZ k)] (some (.int (iZ (bsA P n.toNat k (bsF P r.toNat (fun p => plV I (168 + 9 * p)) n.toNat (vC I) 0 0 (61, 0)))))) (mm I' J' A') := fun I' J' A' c hR' z => by
        have hF : FV I J I' J' := fun a q1 q2 => c a (by omega) q2
        have hv := FV_vC hF
        refine QI_mk (m_best (G := fun p => plV I (168 + 9 * p)) (M0_FV hF h.2.2.2.2.1) z (FV_m hF (Vs_m h.1)) (by rw [hv]; exact fun _ => h8) (by rw [(hF 265 (by omega) (by omega)).1]; exact e31) hP (fun p hpp => ⟨(hp p hpp).1, MG_eq (hp p hpp).2 (fun a q1 q2 => (hF a (by omega) (by omega)).1)⟩) hn hr hk (fun _ _ I2 J2 s => ?_) (fun _ x => absurd x p0) (fun x => absurd ⟨by rw [(hF 266 (by omega) (by omega)).1]; exact g0, g1, g2, g3⟩ x))
        rw [hv] at s
        rw [hv]
        exact ⟨rfl, I2, J2, A', rfl, Inv_L h g0 (Or.inl rfl) c s.1 s.2.2.2.1 hR' ⟨fun _ => rfl, fun j hj e => by omega⟩⟩
      obtain ⟨ν, hν, rfl⟩ : ∃ ν : Nat, ν ≤ 4 ∧ n = ν := ⟨n.toNat, by omega, by omega⟩
      obtain ⟨ρ, hρ, rfl⟩ : ∃ ρ : Nat, ρ ≤ 10 ∧ r = ρ := ⟨r.toNat, by omega, by omega⟩
      simp only [Int.toNat_natCast] at fin
      obtain ⟨m, rfl⟩ : ∃ m, ν = m + 1 := ⟨ν - 1, by omega⟩
      have low := bs_low (P := P) (r := ρ) (G := fun p => plV I (168 + 9 * p)) (by omega) hρ (fun p hpp => (hp p hpp).1) (m + 1) (vC I) 0 0 (61, 0) hW hH (by omega) (by omega)
      obtain ⟨R, hRR⟩ : ∃ R, R = bsF P ρ (fun p => plV I (168 + 9 * p)) (m + 1) (vC I) 0 0 (61, 0) := ⟨_, rfl⟩
      rw [← hRR] at fin low
      refine wf (hs := []) 60 43 (by decide) (wF n3 (And.intro rfl (c_bestBegin (P := P) (n := m + 1) (r := ρ) hR hW e3 rfl rfl (fun I1 hK1 hB1 hR1 => ?_))))
      have ce := c_ext (E := E) (d := d + 4 - m) (I0 := I) (J0 := J) (P := P) (n := m + 1) (r := ρ) ⟨by omega, hP⟩ hν hρ (fun p hpp => (hp p hpp).1) m 0 I1 J A (vC I) (vC I) 0 0 (61, 0) (iZ (0 : Nat)) (iZ 0) (fun q M => q = none ∧ ∃ I2 J2 A2 u, M = mm I2 J2 A2 ∧ BE I J P (m + 1) ρ R I2 J2 ∧ RS I2 J2 1 u ∧ SS (vC I) u ∧ ∀ j, j < 47 → I2 263 j = I1 263 j) (by omega) hB1 hR1 SS_refl hW hH hK1 (fun i hi => by omega) (by omega) (by omega) rfl rfl (fun I2 J2 A2 u q1 q2 q3 q4 q5 => ⟨rfl, I2, J2, A2, u, rfl, by rw [hRR]; exact q1, q2, q3, fun j hj => q4 j (by omega)⟩)
      rw [show d + 4 - m + m + 6 = d + 10 by omega] at ce
      refine And.intro rfl (wpC_mono ce (fun r' M hh => ?_))
      obtain ⟨rfl, I2, J2, A2, u, rfl, hB2, hR2, hS2, h263⟩ := hh
      refine And.intro rfl (c_restore (b := 1) (r := 263) (f := 0) (v := vC I) (Or.inr ⟨rfl, rfl⟩) hR2 hS2 hW (KP_row (nP12 hW) (nC6 hW) (fun j _ q => h263 j (by omega)) hK1) ⟨fun _ => rfl, by omega⟩ rfl (fun I3 hR3 hF3 => ?_))
      have e254 : I3 254 = I2 254 := hF3 254 (by omega)
      have e262 : I3 262 = I2 262 := hF3 262 (by omega)
      have f3 : F3 1 I J I3 J2 := F3_trans hB2.1 (fun a q1 q2 => ⟨hF3 a (by omega), rfl⟩)
      have H := fin I3 J2 A2 f3 hR3
      refine And.intro (fun q => ?_) (fun q => ?_)
      · simp (disch := omega) only [z_i8, z_i16, z_of, z_ofN, z_lofN, z_0, z_1, z_m1, z_l0, z_l1, iZ_add, iZ_sub, iZ_mul, iZ_neg, lZ_add, lZ_sub, lZ_mul, lZ_neg, z_div, z_ldiv, z_l, z_i, z_lt, z_le, z_eq, z_llt, z_lle, z_leq, z_cgt, z_cge, z_clt, z_cle, z_ceq, z_cl, z_nat, Int.toNat_natCast, mm_I, mm_J, z_cln, z_abs, z_max, z_min, z_lmax, z_lmin, z_sin, Int.cast_ofNat_Int, uI_I, uI_J, uL_I, uL_J, uA_I, uA_J, sI_eq, sI_ne, sL_eq, sL_ne, up_eq, up_ne, uL_eq, uL_ne, z_toInt, Int.reduceToNat] at q
        have hin : vp_in (iZ k) 4 := z_in (by omega) (by omega) (by omega)
        have cl : (iZ k).toNatClampNeg = k.toNat := z_cl (by omega) (by omega)
        refine And.intro hin (fun z => q_i (H z) ?_)
        show I3 262 (iZ k).toNatClampNeg = _
        rw [cl, e262, hB2.2.2.2.2.2.2 (by omega) k.toNat (by omega)]
        unfold bsA
        rw [if_neg (by omega)]
      · simp (disch := omega) only [z_i8, z_i16, z_of, z_ofN, z_lofN, z_0, z_1, z_m1, z_l0, z_l1, iZ_add, iZ_sub, iZ_mul, iZ_neg, lZ_add, lZ_sub, lZ_mul, lZ_neg, z_div, z_ldiv, z_l, z_i, z_lt, z_le, z_eq, z_llt, z_lle, z_leq, z_cgt, z_cge, z_clt, z_cle, z_ceq, z_cl, z_nat, Int.toNat_natCast, mm_I, mm_J, z_cln, z_abs, z_max, z_min, z_lmax, z_lmin, z_sin, Int.cast_ofNat_Int, uI_I, uI_J, uL_I, uL_J, uA_I, uA_J, sI_eq, sI_ne, sL_eq, sL_ne, up_eq, up_ne, uL_eq, uL_ne, z_toInt, Int.reduceToNat] at q
        refine fun z => q_i (H z) ?_
        show I3 254 6 = _
        rw [e254, hB2.2.2.2.2.1]
        unfold bsA
        rw [if_pos (by omega)]
    have T2 : 1 ≤ n ∧ n ≤ 4 → 1 ≤ r ∧ r ≤ 10 → wp E (d + 11) 123 29 [(0, .ref 0), (1, .int (iZ n)), (2, .int (iZ r)), (3, .int (iZ k))] [] (mm I J A) (fun r' M => ZO M → QI E (d + 11) 247 [.int (iZ n), .int (iZ r), .int (iZ k)] r' M) := fun g1 g2 => by
      refine wf (hs := [43]) 60 29 (by decide) (And.intro rfl (cW (z := k) (lo := -1) (hi := n - 1) rfl rfl (iZ_sub n 1) hk (by omega) (by omega) (fun g3 => wF (by decide) (T g1 g2 g3)) (fun g3 => wt rfl (F fun q => g3 q.2.2.2))))
    refine wc (hs := [29]) 60 (by decide) (wF b1 (And.intro rfl (cW (z := n) (lo := 1) (hi := 4) rfl rfl rfl hn (by omega) (by omega) (fun g1 => wF (by decide) ?_) (fun g1 => wt rfl (F fun q => g1 q.2.1)))))
    exact And.intro rfl (cW (z := r) (lo := 1) (hi := 10) rfl rfl rfl hr (by omega) (by omega) (fun g2 => wF (by decide) (T2 g1 g2)) (fun g2 => wt rfl (F fun q => g2 q.2.2.1)))
end BEST4
