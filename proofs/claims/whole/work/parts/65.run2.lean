/-! ===== run told to both ===== -/
section RUN2
variable {E : Nat × (Nat → Int32)} {d : Nat} {I I1 : Nat → Nat → Int32} {J J1 : Nat → Nat → Int64} {A A1 : Nat → Option Nat} {Q : Option Value → am_M → Prop} {M : am_M}
def GRn (I : Nat → Nat → Int32) (N : Nat) (k m : Int) : Prop := I 266 0 = 1 ∧ (0 ≤ k ∧ k < N) ∧ (1 ≤ m ∧ m ≤ 60) ∧ vC I 266 8 + m ≤ 9999
theorem m_run {k m : Int} {N : Nat} {g : Nat → Nat → Nat → Int} (hV : Vm I) (h0 : M0 I J) (e31 : I 265 31 = iZ N) (hN : N ≤ 6) (hp : ∀ r : Nat, r < N → WfG (g r) ∧ MG I r (g r)) (hk : -2147483648 ≤ k ∧ k ≤ 2147483647) (hm : -2147483648 ≤ m ∧ m ≤ 2147483647) (h1 : GRn I N k m → ∀ I' J', vI I' = rnN (g k.toNat) m.toNat (vI I) → JF J J' → Q (some (.int (I' 266 7))) (mm I' J' A)) (hno : ¬ GRn I N k m → Q (some (.int (iZ (-1000000)))) (mm I J A)) : wpC E (d + 8) 225 [.ref 265, .int (iZ k), .int (iZ m)] (mm I J A) Q := by
  refine wc (hs := []) 60 (by decide) (And.intro rfl (m_isPlan e31 hN hk rfl (fun p => wF (by decide) ?_) (fun p => wt rfl (hno fun q => p ⟨q.1, q.2.1⟩))))
  refine And.intro rfl (mW (z := m) (lo := 1) (hi := 60) (z_l (by omega) (by omega)) rfl rfl hm (by omega) (by omega) (fun g2 => wF (by decide) ?_) (fun g2 => wt rfl (hno fun q => g2 q.2.2.1)))
  have hW : Wf (vI I) := (hV p.1).1
  have hH : WfH (vI I) := (hV p.1).2
  have b8 := hW.1.2.2.2.2.2.2.2.1
  have e8 : I 266 8 = iZ (vI I 266 8) := vI_eq I 266 8
  refine And.intro (inL (by decide)) (And.intro (fun q => ?_) (fun q => ?_))
  · simp (disch := omega) only [z_i8, z_i16, z_of, z_ofN, z_lofN, z_0, z_1, z_m1, z_l0, z_l1, iZ_add, iZ_sub, iZ_mul, iZ_neg, lZ_add, lZ_sub, lZ_mul, lZ_neg, z_div, z_ldiv, z_l, z_i, z_lt, z_le, z_eq, z_llt, z_lle, z_leq, z_cgt, z_cge, z_clt, z_cle, z_ceq, z_cl, z_nat, Int.toNat_natCast, mm_I, mm_J, z_cln, z_abs, z_max, z_min, z_lmax, z_lmin, z_sin, Int.cast_ofNat_Int, uI_I, uI_J, uL_I, uL_J, uA_I, uA_J, sI_eq, sI_ne, sL_eq, sL_ne, up_eq, up_ne, uL_eq, uL_ne, z_toInt, Int.reduceToNat, e8] at q
    have hg : GRn I N k m := ⟨p.1, p.2, g2, by show vI I 266 8 + m ≤ 9999; omega⟩
    have pp := hp k.toNat (by omega)
    refine And.intro rfl (m_goesOn (r := k.toNat) (n := m.toNat) hW hH h0 (by omega) pp.1 pp.2 (by omega) (by omega) (by congr 1; omega) (by congr 1; omega) (fun I' J' e hJ => ?_))
    exact And.intro (inL (by decide)) (h1 hg I' J' e hJ)
  · simp (disch := omega) only [z_i8, z_i16, z_of, z_ofN, z_lofN, z_0, z_1, z_m1, z_l0, z_l1, iZ_add, iZ_sub, iZ_mul, iZ_neg, lZ_add, lZ_sub, lZ_mul, lZ_neg, z_div, z_ldiv, z_l, z_i, z_lt, z_le, z_eq, z_llt, z_lle, z_leq, z_cgt, z_cge, z_clt, z_cle, z_ceq, z_cl, z_nat, Int.toNat_natCast, mm_I, mm_J, z_cln, z_abs, z_max, z_min, z_lmax, z_lmin, z_sin, Int.cast_ofNat_Int, uI_I, uI_J, uL_I, uL_J, uA_I, uA_J, sI_eq, sI_ne, sL_eq, sL_ne, up_eq, up_ne, uL_eq, uL_ne, z_toInt, Int.reduceToNat, e8] at q
    exact hno fun r => by have := r.2.2.2; have e : vC I 266 8 = vI I 266 8 := rfl; omega
theorem op_run {k m : Int} (h : Inv I J) (hk : -2147483648 ≤ k ∧ k ≤ 2147483647) (hm : -2147483648 ≤ m ∧ m ≤ 2147483647) : wpC E (d + 8) 97 [.ref 0, .int (iZ k), .int (iZ m)] (mm I J A) (QI E (d + 8) 225 [.int (iZ k), .int (iZ m)]) := by
  obtain ⟨N, hN, e3, e31, hp⟩ := id h.2.2.2.1
  have F : ¬ GRn I N k m → QI E (d + 8) 225 [.int (iZ k), .int (iZ m)] (some (.int (iZ (-1000000)))) (mm I J A) := fun q => rd_mk h FS_refl (m_run (Vs_m h.1) h.2.2.2.2.1 e31 hN hp hk hm (fun p => absurd p q) (fun _ => ⟨rfl, rfl⟩))
  rcases h.1 with ⟨g0, g1⟩ | ⟨g0, hW, hH, hR, h8⟩
  · exact wc (hs := []) 20 (by decide) (wt g1 (F fun q => by rw [q.1] at g0; cases g0))
  · have b1 : ¬ I 1 0 = 0 := by have : I 1 0 = 1 := hR.1.1; rw [this]; decide
    have b8 := hW.1.2.2.2.2.2.2.2.1
    have e8 : I 1 8 = iZ (vC I 266 8) := hR.1.2.2.2.2.2.2.2.2.1
    refine wc (hs := []) 60 (by decide) (wF b1 (And.intro rfl (c_hasPlan e3 hN hk rfl (fun p => wF (by decide) ?_) (fun p => wt rfl (F fun q => p q.2.1)))))
    refine And.intro rfl (cW (z := m) (lo := 1) (hi := 60) rfl rfl rfl hm (by omega) (by omega) (fun g2 => wF (by decide) ?_) (fun g2 => wt rfl (F fun q => g2 q.2.2.1)))
    refine And.intro (fun q => ?_) (fun q => ?_)
    · simp (disch := omega) only [z_i8, z_i16, z_of, z_ofN, z_lofN, z_0, z_1, z_m1, z_l0, z_l1, iZ_add, iZ_sub, iZ_mul, iZ_neg, lZ_add, lZ_sub, lZ_mul, lZ_neg, z_div, z_ldiv, z_l, z_i, z_lt, z_le, z_eq, z_llt, z_lle, z_leq, z_cgt, z_cge, z_clt, z_cle, z_ceq, z_cl, z_nat, Int.toNat_natCast, mm_I, mm_J, z_cln, z_abs, z_max, z_min, z_lmax, z_lmin, z_sin, Int.cast_ofNat_Int, uI_I, uI_J, uL_I, uL_J, uA_I, uA_J, sI_eq, sI_ne, sL_eq, sL_ne, up_eq, up_ne, uL_eq, uL_ne, z_toInt, Int.reduceToNat, e8] at q
      have pp := hp k.toNat (by omega)
      refine And.intro rfl (c_goBy (b := 1) (r := k.toNat) (n := m.toNat) (Or.inl rfl) hR hW hH (by omega) pp.1 (by omega) (by omega) (by congr 1; omega) (by congr 1; omega) (fun I1 J1 A1 hR1 hF1 => ?_))
      have hF := F2_FV (Or.inl rfl) hF1
      have hv := FV_vC hF
      have e7 : I1 1 7 = iZ (rnN (plV I (168 + 9 * k.toNat)) m.toNat (vC I) 266 7) := hR1.1.2.2.2.2.2.2.2.1
      have H : QI E (d + 8) 225 [.int (iZ k), .int (iZ m)] (some (.int (iZ (rnN (plV I (168 + 9 * k.toNat)) m.toNat (vC I) 266 7)))) (mm I1 J1 A1) := by
        refine QI_mk (m_run (g := fun r => plV I (168 + 9 * r)) (FV_m hF (Vs_m h.1)) (M0_FV hF h.2.2.2.2.1) (by rw [(hF 265 (by omega) (by omega)).1]; exact e31) hN (fun r hr => ⟨(hp r hr).1, MG_eq (hp r hr).2 (fun a q1 q2 => (hF a (by omega) (by omega)).1)⟩) hk hm (fun _ I' J' e hJ => ?_) (fun q2 => absurd ⟨by rw [(hF 266 (by omega) (by omega)).1]; exact g0, p, g2, by rw [hv]; omega⟩ q2))
        have w := rnN_ok pp.1 m.toNat (vC I) hW hH (by omega)
        have ev : vC I' = rnN (plV I (168 + 9 * k.toNat)) m.toNat (vC I) := by
          show cutV (vI I') = _
          rw [e, ← rnN_cut, ← hv]; rfl
        refine ⟨?_, I', J', A1, rfl, Inv_upd h hF (fun a ha => vI_cell (fun j => by rw [e]; exact rnN_ne (by omega) (by omega) (by omega) _ _)) hJ hR1 ev ?_ w.1 w.2 ?_⟩
        · rw [← ev]; exact congrArg (fun x => some (Value.int x)) (vI_eq I' 266 7)
        · have := SS_rnN (g := plV I (168 + 9 * k.toNat)) m.toNat (vC I) 266 0 (by omega) (by omega) (by omega)
          rw [this]; exact vC_0 g0
        · rw [rnN_8]; omega
      exact q_i H e7
    · simp (disch := omega) only [z_i8, z_i16, z_of, z_ofN, z_lofN, z_0, z_1, z_m1, z_l0, z_l1, iZ_add, iZ_sub, iZ_mul, iZ_neg, lZ_add, lZ_sub, lZ_mul, lZ_neg, z_div, z_ldiv, z_l, z_i, z_lt, z_le, z_eq, z_llt, z_lle, z_leq, z_cgt, z_cge, z_clt, z_cle, z_ceq, z_cl, z_nat, Int.toNat_natCast, mm_I, mm_J, z_cln, z_abs, z_max, z_min, z_lmax, z_lmin, z_sin, Int.cast_ofNat_Int, uI_I, uI_J, uL_I, uL_J, uA_I, uA_J, sI_eq, sI_ne, sL_eq, sL_ne, up_eq, up_ne, uL_eq, uL_ne, z_toInt, Int.reduceToNat, e8] at q
      exact F fun r => by have := r.2.2.2; omega
end RUN2
