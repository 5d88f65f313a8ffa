/-! ===== inside, outside, slid, slop, count, tells ===== -/
section RD3
variable {E : Nat × (Nat → Int32)} {d : Nat} {I I1 : Nat → Nat → Int32} {J J1 : Nat → Nat → Int64} {A A1 : Nat → Option Nat} {Q : Option Value → am_M → Prop} {M : am_M}
theorem m_inside {k s : Int} (hV : Vm I) (hk : -2147483648 ≤ k ∧ k ≤ 2147483647) (hs : -2147483648 ≤ s ∧ s ≤ 2147483647) (h1 : PG I k → -1 ≤ s ∧ s ≤ 1 → Q (some (.int (iZ (insZ (vC I) k.toNat s)))) (mm I J A)) (hn : ¬ (PG I k ∧ -1 ≤ s ∧ s ≤ 1) → Q (some (.int (iZ (-1000000)))) (mm I J A)) : wpC E (d + 2) 183 [.ref 265, .int (iZ k), .int (iZ s)] (mm I J A) Q := by
  refine wc (hs := []) 40 (by decide) (And.intro rfl (m_isPlaceZ hV hk rfl (fun p => wF (by decide) ?_) (fun p => wt rfl (hn fun q => p q.1))))
  have hW : Wf (vI I) := (hV p.1).1
  have p2 : 0 ≤ k ∧ k < nP (vI I) := p.2
  refine And.intro rfl (mW (z := s) (lo := -1) (hi := 1) (z_l (by omega) (by omega)) (by decide +kernel) rfl hs (by omega) (by omega) (fun g => wF (by decide) ?_) (fun g => wt rfl (hn fun q => g q.2)))
  exact And.intro rfl (m_insideAt hW (k := k.toNat) (by omega) g (by congr 1; omega) rfl (h1 p g))
theorem op_inside {k s : Int} (h : Inv I J) (hk : -2147483648 ≤ k ∧ k ≤ 2147483647) (hs : -2147483648 ≤ s ∧ s ≤ 2147483647) : wpC E (d + 7) 106 [.ref 0, .int (iZ k), .int (iZ s)] (mm I J A) (QI E (d + 7) 183 [.int (iZ k), .int (iZ s)]) := by
  have F : ¬ (PG I k ∧ -1 ≤ s ∧ s ≤ 1) → QI E (d + 7) 183 [.int (iZ k), .int (iZ s)] (some (.int (iZ (-1000000)))) (mm I J A) := fun q => rd_mk h FS_refl (m_inside (Vs_m h.1) hk hs (fun p1 p2 => absurd ⟨p1, p2⟩ q) (fun _ => ⟨rfl, rfl⟩))
  refine wc (hs := []) 60 (by decide) (And.intro rfl (c_hasPlace h.1 hk rfl (fun p => wF (by decide) ?_) (fun p => wt rfl (F fun q => p q.1))))
  refine And.intro rfl (cW (z := s) (lo := -1) (hi := 1) rfl rfl rfl hs (by omega) (by omega) (fun g => wF (by decide) ?_) (fun g => wt rfl (F fun q => g q.2)))
  obtain ⟨hW, hH, hR, h8⟩ := Vs_on h.1 p.1
  have p2 := p.2
  exact And.intro rfl (c_inner (b := 1) (k := k.toNat) (Or.inl rfl) hR hW (by omega) g (by congr 1; omega) rfl (rd_mk h FS_refl (m_inside (Vs_m h.1) hk hs (fun _ _ => ⟨rfl, rfl⟩) (fun q => absurd ⟨p, g⟩ q))))
theorem m_outside {s : Int} (hV : Vm I) (h0 : M0 I J) (hs : -2147483648 ≤ s ∧ s ≤ 2147483647) (h1 : I 266 0 = 1 → -1 ≤ s ∧ s ≤ 1 → Q (some (.int (iZ (outZ (vC I) (vC I 266 7) s)))) (mm I J A)) (hn : ¬ (I 266 0 = 1 ∧ -1 ≤ s ∧ s ≤ 1) → Q (some (.int (iZ (-1000000)))) (mm I J A)) : wpC E (d + 3) 184 [.ref 265, .int (iZ s)] (mm I J A) Q := by
  refine wc (hs := []) 40 (by decide) (And.intro rfl (m_isShip (fun p => wF (by decide) ?_) (fun p => wt rfl (hn fun q => p q.1))))
  have hW : Wf (vI I) := (hV p).1
  refine And.intro rfl (mW (z := s) (lo := -1) (hi := 1) (z_l (by omega) (by omega)) (by decide +kernel) rfl hs (by omega) (by omega) (fun g => wF (by decide) ?_) (fun g => wt rfl (hn fun q => g q.2)))
  exact And.intro rfl (m_outsideAt hW h0.1 g rfl (h1 p g))
theorem op_outside {s : Int} (h : Inv I J) (hs : -2147483648 ≤ s ∧ s ≤ 2147483647) : wpC E (d + 7) 107 [.ref 0, .int (iZ s)] (mm I J A) (QI E (d + 7) 184 [.int (iZ s)]) := by
  have F : ¬ (I 266 0 = 1 ∧ -1 ≤ s ∧ s ≤ 1) → QI E (d + 7) 184 [.int (iZ s)] (some (.int (iZ (-1000000)))) (mm I J A) := fun q => rd_mk h FS_refl (m_outside (Vs_m h.1) h.2.2.2.2.1 hs (fun p1 p2 => absurd ⟨p1, p2⟩ q) (fun _ => ⟨rfl, rfl⟩))
  rcases h.1 with ⟨g0, g1⟩ | ⟨g0, hW, hH, hR, h8⟩
  · exact wc (hs := []) 20 (by decide) (wt g1 (F fun q => by rw [q.1] at g0; cases g0))
  · have b1 : ¬ I 1 0 = 0 := by have : I 1 0 = 1 := hR.1.1; rw [this]; decide
    refine wc (hs := []) 40 (by decide) (wF b1 ?_)
    refine And.intro rfl (cW (z := s) (lo := -1) (hi := 1) rfl rfl rfl hs (by omega) (by omega) (fun g => wF (by decide) ?_) (fun g => wt rfl (F fun q => g q.2)))
    exact And.intro rfl (c_outer (b := 1) (Or.inl rfl) hR hW hW.1.2.2.2.2.2.2.1 g rfl hR.1.2.2.2.2.2.2.2.1 (rd_mk h FS_refl (m_outside (Vs_m h.1) h.2.2.2.2.1 hs (fun _ _ => ⟨rfl, rfl⟩) (fun q => absurd ⟨g0, g⟩ q))))
theorem m_slid {k : Int} (hV : Vm I) (hk : -2147483648 ≤ k ∧ k ≤ 2147483647) (h1 : I 266 0 = 1 → 0 ≤ k ∧ k < nC (vC I) → Q (some (.int (iZ (vC I 281 k.toNat)))) (mm I J A)) (hn : ¬ (I 266 0 = 1 ∧ 0 ≤ k ∧ k < nC (vC I)) → Q (some (.int (iZ (-2)))) (mm I J A)) : wpC E (d + 2) 185 [.ref 265, .int (iZ k)] (mm I J A) Q := by
  refine wc (hs := []) 40 (by decide) (And.intro rfl ?_)
  refine wc (hs := []) 40 (by decide) (And.intro rfl (m_isShip (fun p => wF (by decide) ?_) (fun p => wt rfl (And.intro rfl (wt rfl (hn fun q => p q.1))))))
  have hW := (hV p).1
  have h6 := nC6 hW
  have e10 : I 266 10 = iZ (nC (vC I) : Int) := (vI_eq I 266 10).trans (congrArg iZ (nC_at hW))
  refine And.intro (inL (by decide)) (And.intro rfl (mW (z := k) (lo := 0) (hi := (nC (vC I) : Int) - 1) (z_l (by omega) (by omega)) rfl ?_ hk (by omega) (by omega) (fun g => wF (by decide) (And.intro rfl (wF (by decide) ?_))) (fun g => wt rfl (And.intro rfl (wt rfl (hn fun q => g (by have := q.2; omega)))))))
  · show (I 266 10 - iZ 1).toInt64 = _
    rw [e10]; simp (disch := omega) only [z_i8, z_i16, z_of, z_ofN, z_lofN, z_0, z_1, z_m1, z_l0, z_l1, iZ_add, iZ_sub, iZ_mul, iZ_neg, lZ_add, lZ_sub, lZ_mul, lZ_neg, z_div, z_ldiv, z_l, z_i, z_lt, z_le, z_eq, z_llt, z_lle, z_leq, z_cgt, z_cge, z_clt, z_cle, z_ceq, z_cl, z_nat, Int.toNat_natCast, mm_I, mm_J, z_cln, z_abs, z_max, z_min, z_lmax, z_lmin, z_sin, Int.cast_ofNat_Int, uI_I, uI_J, uL_I, uL_J, uA_I, uA_J, sI_eq, sI_ne, sL_eq, sL_ne, up_eq, up_ne, uL_eq, uL_ne, z_toInt, Int.reduceToNat]
  · refine And.intro (z_in (by omega) (by omega) (by omega)) (q_i (h1 p (by omega)) ?_)
    show I 281 (iZ k).toNatClampNeg = _
    rw [z_cl (by omega) (by omega)]
    exact vI_eq I 281 k.toNat
theorem op_slid {k : Int} (h : Inv I J) (hk : -2147483648 ≤ k ∧ k ≤ 2147483647) : wpC E (d + 7) 108 [.ref 0, .int (iZ k)] (mm I J A) (QI E (d + 7) 185 [.int (iZ k)]) := by
  have F : ¬ (I 266 0 = 1 ∧ 0 ≤ k ∧ k < nC (vC I)) → QI E (d + 7) 185 [.int (iZ k)] (some (.int (iZ (-2)))) (mm I J A) := fun q => rd_mk h FS_refl (m_slid (Vs_m h.1) hk (fun p1 p2 => absurd ⟨p1, p2⟩ q) (fun _ => ⟨rfl, rfl⟩))
  rcases h.1 with ⟨g0, g1⟩ | ⟨g0, hW, hH, hR, h8⟩
  · exact wc (hs := []) 20 (by decide) (wt g1 (F fun q => by rw [q.1] at g0; cases g0))
  · have b1 : ¬ I 1 0 = 0 := by have : I 1 0 = 1 := hR.1.1; rw [this]; decide
    have h6 := nC6 hW
    have e15 : I 15 0 = iZ (nC (vC I) : Int) := hR.2.2.2.1.1
    refine wc (hs := []) 40 (by decide) (wF b1 (And.intro (fun q => ?_) (fun q => ?_)))
    · simp (disch := omega) only [z_i8, z_i16, z_of, z_ofN, z_lofN, z_0, z_1, z_m1, z_l0, z_l1, iZ_add, iZ_sub, iZ_mul, iZ_neg, lZ_add, lZ_sub, lZ_mul, lZ_neg, z_div, z_ldiv, z_l, z_i, z_lt, z_le, z_eq, z_llt, z_lle, z_leq, z_cgt, z_cge, z_clt, z_cle, z_ceq, z_cl, z_nat, Int.toNat_natCast, mm_I, mm_J, z_cln, z_abs, z_max, z_min, z_lmax, z_lmin, z_sin, Int.cast_ofNat_Int, uI_I, uI_J, uL_I, uL_J, uA_I, uA_J, sI_eq, sI_ne, sL_eq, sL_ne, up_eq, up_ne, uL_eq, uL_ne, z_toInt, Int.reduceToNat] at q
      exact F fun r => by have := r.2; omega
    · simp (disch := omega) only [z_i8, z_i16, z_of, z_ofN, z_lofN, z_0, z_1, z_m1, z_l0, z_l1, iZ_add, iZ_sub, iZ_mul, iZ_neg, lZ_add, lZ_sub, lZ_mul, lZ_neg, z_div, z_ldiv, z_l, z_i, z_lt, z_le, z_eq, z_llt, z_lle, z_leq, z_cgt, z_cge, z_clt, z_cle, z_ceq, z_cl, z_nat, Int.toNat_natCast, mm_I, mm_J, z_cln, z_abs, z_max, z_min, z_lmax, z_lmin, z_sin, Int.cast_ofNat_Int, uI_I, uI_J, uL_I, uL_J, uA_I, uA_J, sI_eq, sI_ne, sL_eq, sL_ne, up_eq, up_ne, uL_eq, uL_ne, z_toInt, Int.reduceToNat] at q
      refine And.intro (fun q2 => ?_) (fun q2 => ?_)
      · simp (disch := omega) only [z_i8, z_i16, z_of, z_ofN, z_lofN, z_0, z_1, z_m1, z_l0, z_l1, iZ_add, iZ_sub, iZ_mul, iZ_neg, lZ_add, lZ_sub, lZ_mul, lZ_neg, z_div, z_ldiv, z_l, z_i, z_lt, z_le, z_eq, z_llt, z_lle, z_leq, z_cgt, z_cge, z_clt, z_cle, z_ceq, z_cl, z_nat, Int.toNat_natCast, mm_I, mm_J, z_cln, z_abs, z_max, z_min, z_lmax, z_lmin, z_sin, Int.cast_ofNat_Int, uI_I, uI_J, uL_I, uL_J, uA_I, uA_J, sI_eq, sI_ne, sL_eq, sL_ne, up_eq, up_ne, uL_eq, uL_ne, z_toInt, Int.reduceToNat, e15] at q2
        have H : QI E (d + 7) 185 [.int (iZ k)] (some (.int (iZ (vC I 281 k.toNat)))) (mm I J A) := rd_mk h FS_refl (m_slid (Vs_m h.1) hk (fun _ _ => ⟨rfl, rfl⟩) (fun r => absurd ⟨g0, by omega, by omega⟩ r))
        refine And.intro (z_in (by omega) (by omega) (by omega)) (q_i H ?_)
        show I 20 (iZ k).toNatClampNeg = _
        rw [z_cl (by omega) (by omega)]
        exact (hR.2.2.2.1.2 k.toNat (by omega)).2.2.2.2
      · simp (disch := omega) only [z_i8, z_i16, z_of, z_ofN, z_lofN, z_0, z_1, z_m1, z_l0, z_l1, iZ_add, iZ_sub, iZ_mul, iZ_neg, lZ_add, lZ_sub, lZ_mul, lZ_neg, z_div, z_ldiv, z_l, z_i, z_lt, z_le, z_eq, z_llt, z_lle, z_leq, z_cgt, z_cge, z_clt, z_cle, z_ceq, z_cl, z_nat, Int.toNat_natCast, mm_I, mm_J, z_cln, z_abs, z_max, z_min, z_lmax, z_lmin, z_sin, Int.cast_ofNat_Int, uI_I, uI_J, uL_I, uL_J, uA_I, uA_J, sI_eq, sI_ne, sL_eq, sL_ne, up_eq, up_ne, uL_eq, uL_ne, z_toInt, Int.reduceToNat, e15] at q2
        exact F fun r => by have := r.2; omega
theorem m_slop {k : Int} (hV : Vm I) (hk : -2147483648 ≤ k ∧ k ≤ 2147483647) (h1 : PG I k → Q (some (.int (iZ (slZ (vC I) k.toNat)))) (mm I J A)) (hn : ¬ PG I k → Q (some (.int (iZ (-1)))) (mm I J A)) : wpC E (d + 2) 249 [.ref 265, .int (iZ k)] (mm I J A) Q := by
  refine wc (hs := []) 40 (by decide) (And.intro rfl (m_isPlaceZ hV hk rfl (fun p => wF (by decide) ?_) (fun p => wt rfl (hn p))))
  have p2 : 0 ≤ k ∧ k < nP (vI I) := p.2
  exact And.intro rfl (m_slopOf (hV p.1).1 (k := k.toNat) (by omega) (by congr 1; omega) (h1 p))
theorem op_slop {k : Int} (h : Inv I J) (hk : -2147483648 ≤ k ∧ k ≤ 2147483647) : wpC E (d + 7) 124 [.ref 0, .int (iZ k)] (mm I J A) (QI E (d + 7) 249 [.int (iZ k)]) := by
  refine wc (hs := []) 60 (by decide) (And.intro rfl (c_hasPlace h.1 hk rfl (fun p => wF (by decide) ?_) (fun p => wt rfl (rd_mk h FS_refl (m_slop (Vs_m h.1) hk (fun q => absurd q p) (fun _ => ⟨rfl, rfl⟩))))))
  obtain ⟨hW, hH, hR, h8⟩ := Vs_on h.1 p.1
  have p2 := p.2
  exact And.intro rfl (c_sloshing (k := k.toNat) hR hW (by omega) (by congr 1; omega) (rd_mk h FS_refl (m_slop (Vs_m h.1) hk (fun _ => ⟨rfl, rfl⟩) (fun q => absurd p q))))
theorem m_countS {w : Int} {x : Int32} (j : Nat) (hw : (w = 0 ∧ j = 9) ∨ (w = 1 ∧ j = 10) ∨ (w = 2 ∧ j = 11) ∨ (w = 3 ∧ j = 12) ∨ (w = 6 ∧ j = 13)) (ex : x = iZ w) (h1 : I 266 0 = 1 → Q (some (.int (I 266 j))) (mm I J A)) (hn : ¬ I 266 0 = 1 → Q (some (.int (iZ (-1)))) (mm I J A)) : wpC E (d + 1) 253 [.ref 265, .int x] (mm I J A) Q := by
  subst ex
  rcases hw with ⟨rfl, rfl⟩ | ⟨rfl, rfl⟩ | ⟨rfl, rfl⟩ | ⟨rfl, rfl⟩ | ⟨rfl, rfl⟩
  · exact wc (hs := []) 30 (by decide) (wtb 0 rfl rfl rfl (And.intro rfl (m_isShip (fun p => wF (by decide) (And.intro (inL (by decide)) (h1 p))) (fun p => wt rfl (hn p)))))
  · exact wc (hs := []) 30 (by decide) (wtb 1 rfl rfl rfl (And.intro rfl (m_isShip (fun p => wF (by decide) (And.intro (inL (by decide)) (h1 p))) (fun p => wt rfl (hn p)))))
  · exact wc (hs := []) 30 (by decide) (wtb 2 rfl rfl rfl (And.intro rfl (m_isShip (fun p => wF (by decide) (And.intro (inL (by decide)) (h1 p))) (fun p => wt rfl (hn p)))))
  · exact wc (hs := []) 30 (by decide) (wtb 3 rfl rfl rfl (And.intro rfl (m_isShip (fun p => wF (by decide) (And.intro (inL (by decide)) (h1 p))) (fun p => wt rfl (hn p)))))
  · exact wc (hs := []) 30 (by decide) (wtb 6 rfl rfl rfl (And.intro rfl (m_isShip (fun p => wF (by decide) (And.intro (inL (by decide)) (h1 p))) (fun p => wt rfl (hn p)))))
theorem op_count {w : Int} (h : Inv I J) (hw : -2147483648 ≤ w ∧ w ≤ 2147483647) : wpC E (d + 7) 129 [.ref 0, .int (iZ w)] (mm I J A) (QI E (d + 7) 253 [.int (iZ w)]) := by
  obtain ⟨n, hn, e1, e2, -⟩ := id h.2.2.2.1
  obtain ⟨t, ht, f1, f2, -⟩ := id h.2.2.1
  by_cases hc : w = 4 ∨ w = 5
  · rcases hc with rfl | rfl
    · have H : QI E (d + 7) 253 [.int (iZ 4)] (some (.int (iZ n))) (mm I J A) := rd_mk h FS_refl (wc (hs := []) 30 (by decide) (wtb 4 rfl rfl rfl ⟨by rw [← e2]; rfl, rfl⟩))
      exact wc (hs := []) 30 (by decide) (wt rfl (q_i H e1))
    · have H : QI E (d + 7) 253 [.int (iZ 5)] (some (.int (iZ t))) (mm I J A) := rd_mk h FS_refl (wc (hs := []) 30 (by decide) (wtb 5 rfl rfl rfl ⟨by rw [← f2]; rfl, rfl⟩))
      exact wc (hs := []) 30 (by decide) (wF (by decide) (wt rfl (q_i H f1)))
  · have n4 : ¬ iZ w = iZ 4 := by ((try simp (disch := omega) only [z_i8, z_i16, z_of, z_ofN, z_lofN, z_0, z_1, z_m1, z_l0, z_l1, iZ_add, iZ_sub, iZ_mul, iZ_neg, lZ_add, lZ_sub, lZ_mul, lZ_neg, z_div, z_ldiv, z_l, z_i, z_lt, z_le, z_eq, z_llt, z_lle, z_leq, z_cgt, z_cge, z_clt, z_cle, z_ceq, z_cl, z_nat, Int.toNat_natCast, mm_I, mm_J, z_cln, z_abs, z_max, z_min, z_lmax, z_lmin, z_sin, Int.cast_ofNat_Int, uI_I, uI_J, uL_I, uL_J, uA_I, uA_J, sI_eq, sI_ne, sL_eq, sL_ne, up_eq, up_ne, uL_eq, uL_ne, z_toInt, Int.reduceToNat]) <;> omega)
    have n5 : ¬ iZ w = iZ 5 := by ((try simp (disch := omega) only [z_i8, z_i16, z_of, z_ofN, z_lofN, z_0, z_1, z_m1, z_l0, z_l1, iZ_add, iZ_sub, iZ_mul, iZ_neg, lZ_add, lZ_sub, lZ_mul, lZ_neg, z_div, z_ldiv, z_l, z_i, z_lt, z_le, z_eq, z_llt, z_lle, z_leq, z_cgt, z_cge, z_clt, z_cle, z_ceq, z_cl, z_nat, Int.toNat_natCast, mm_I, mm_J, z_cln, z_abs, z_max, z_min, z_lmax, z_lmin, z_sin, Int.cast_ofNat_Int, uI_I, uI_J, uL_I, uL_J, uA_I, uA_J, sI_eq, sI_ne, sL_eq, sL_ne, up_eq, up_ne, uL_eq, uL_ne, z_toInt, Int.reduceToNat]) <;> omega)
    refine wc (hs := []) 30 (by decide) (wF n4 (wF n5 ?_))
    by_cases hd : w = 0 ∨ w = 1 ∨ w = 2 ∨ w = 3 ∨ w = 6
    · obtain ⟨j, hj⟩ : ∃ j : Nat, (w = 0 ∧ j = 9) ∨ (w = 1 ∧ j = 10) ∨ (w = 2 ∧ j = 11) ∨ (w = 3 ∧ j = 12) ∨ (w = 6 ∧ j = 13) := by
        rcases hd with h | h | h | h | h
        · exact ⟨9, by omega⟩
        · exact ⟨10, by omega⟩
        · exact ⟨11, by omega⟩
        · exact ⟨12, by omega⟩
        · exact ⟨13, by omega⟩
      rcases h.1 with ⟨g0, g1⟩ | ⟨g0, hW, hH, hR, h8⟩
      · have n0 : ¬ I 266 0 = 1 := by rw [g0]; decide
        exact wt g1 (rd_mk h FS_refl (m_countS j hj rfl (fun q => absurd q n0) (fun _ => ⟨rfl, rfl⟩)))
      · have b1 : ¬ I 1 0 = 0 := by have : I 1 0 = 1 := hR.1.1; rw [this]; decide
        refine wF b1 ?_
        have H : QI E (d + 7) 253 [.int (iZ w)] (some (.int (I 266 j))) (mm I J A) := rd_mk h FS_refl (m_countS j hj rfl (fun _ => ⟨rfl, rfl⟩) (fun q => absurd g0 q))
        have c9 : I 3 0 = I 266 9 := Eq.trans hR.2.2.1.1 ((vI_eq I 266 9).trans (congrArg iZ (nP_c hW))).symm
        have c10 : I 15 0 = I 266 10 := Eq.trans hR.2.2.2.1.1 ((vI_eq I 266 10).trans (congrArg iZ (nC_at hW))).symm
        have c11 : I 21 0 = I 266 11 := Eq.trans hR.2.2.2.2.1.1 ((vI_eq I 266 11).trans (congrArg iZ (nD_at hW).1)).symm
        have c12 : I 26 0 = I 266 12 := Eq.trans hR.2.2.2.2.2.1.1 ((vI_eq I 266 12).trans (congrArg iZ (nO_at hW).1)).symm
        have c13 : I 31 0 = I 266 13 := Eq.trans hR.2.2.2.2.2.2.1 ((vI_eq I 266 13).trans (congrArg iZ (nL_at hW).1)).symm
        rcases hj with ⟨rfl, rfl⟩ | ⟨rfl, rfl⟩ | ⟨rfl, rfl⟩ | ⟨rfl, rfl⟩ | ⟨rfl, rfl⟩
        · exact wtb 0 rfl rfl rfl (q_i H c9)
        · exact wtb 1 rfl rfl rfl (q_i H c10)
        · exact wtb 2 rfl rfl rfl (q_i H c11)
        · exact wtb 3 rfl rfl rfl (q_i H c12)
        · exact wtb 6 rfl rfl rfl (q_i H c13)
    · have H : QI E (d + 7) 253 [.int (iZ w)] (some (.int (iZ (-1)))) (mm I J A) := rd_mk h FS_refl (wc (hs := []) 30 (by decide) (wtdE (z_toInt (by omega) (by omega)) (by omega) rfl ⟨rfl, rfl⟩))
      rcases h.1 with ⟨g0, g1⟩ | ⟨g0, hW, hH, hR, h8⟩
      · exact wt g1 H
      · have b1 : ¬ I 1 0 = 0 := by have : I 1 0 = 1 := hR.1.1; rw [this]; decide
        exact wF b1 (wtdE (z_toInt (by omega) (by omega)) (by omega) rfl H)
def telZ (v : am_V) (w : Int) : Int := if w = 0 then v 266 7 else if w = 1 then v 266 8 else if w = 2 then v 266 5 else if w = 3 then v 266 6 else if w = 4 then totZ v 0 else if w = 5 then drZ v else if w = 6 then stfZ v 0 0 else if w = 7 then btZ v (stfZ v 0 0) else if w = 8 then rstZ (trnZ v 0 0 0) 1 else if w = 9 then rngF (trnZ v 0 0 (asdZ v)) (rstZ (trnZ v 0 0 (asdZ v)) (v 266 7)) 60 61 else if w = 10 then (if v 266 7 = 60 ∨ v 266 7 = -60 then 1 else 0) else -1000000
theorem m_tells {w : Int} (hV : Vm I) (h0 : M0 I J) (hw : -2147483648 ≤ w ∧ w ≤ 2147483647) (h1 : I 266 0 = 1 → Q (some (.int (iZ (telZ (vC I) w)))) (mm I J A)) (hn : ¬ I 266 0 = 1 → Q (some (.int (iZ (-1000000)))) (mm I J A)) : wpC E (d + 7) 174 [.ref 265, .int (iZ w)] (mm I J A) Q := by
  refine wc (hs := []) 40 (by decide) (And.intro rfl (m_isShip (fun p => wF (by decide) ?_) (fun p => wt rfl (hn p))))
  have hW : Wf (vI I) := (hV p).1
  have H := h1 p
  have wm := M0_WM hW h0
  by_cases hc : 0 ≤ w ∧ w ≤ 10
  · have hc : w = 0 ∨ w = 1 ∨ w = 2 ∨ w = 3 ∨ w = 4 ∨ w = 5 ∨ w = 6 ∨ w = 7 ∨ w = 8 ∨ w = 9 ∨ w = 10 := by omega
    rcases hc with rfl | rfl | rfl | rfl | rfl | rfl | rfl | rfl | rfl | rfl | rfl
    · exact wtb 0 rfl rfl rfl (And.intro (inL (by decide)) (q_i H (vI_eq I 266 7)))
    · exact wtb 1 rfl rfl rfl (And.intro (inL (by decide)) (q_i H (vI_eq I 266 8)))
    · exact wtb 2 rfl rfl rfl (And.intro (inL (by decide)) (q_i H (vI_eq I 266 5)))
    · exact wtb 3 rfl rfl rfl (And.intro (inL (by decide)) (q_i H (vI_eq I 266 6)))
    · exact wtb 4 rfl rfl rfl (And.intro rfl (m_total hW.1 (by rw [h0.1]; exact H)))
    · exact wtb 5 rfl rfl rfl (And.intro rfl (m_draft hW (by rw [h0.1]; omega) (by rw [h0.1]; exact H)))
    · exact wtb 6 rfl rfl rfl (And.intro rfl (m_stiff wm (by rw [M0_sM h0]; exact H)))
    · exact wtb 7 rfl rfl rfl (And.intro rfl (m_beat wm (by rw [M0_sM h0]; exact H)))
    · exact wtb 8 rfl rfl rfl (And.intro rfl (m_loll wm (by rw [M0_tM h0]; exact H)))
    · exact wtb 9 rfl rfl rfl (And.intro rfl (m_range hW h0 H))
    · refine wtb 10 rfl rfl rfl (And.intro rfl (m_isOver hW.1 (fun q => wF (by decide) (q_i H ?_)) (fun q => wt rfl (q_i H ?_))))
      · show _ = iZ (if vI I 266 7 = 60 ∨ vI I 266 7 = -60 then 1 else 0)
        rw [if_pos q]; rfl
      · show _ = iZ (if vI I 266 7 = 60 ∨ vI I 266 7 = -60 then 1 else 0)
        rw [if_neg q]; rfl
  · refine wtdE (z_toInt (by omega) (by omega)) (by omega) rfl (q_i H ?_)
    unfold telZ
    rw [if_neg (by omega), if_neg (by omega), if_neg (by omega), if_neg (by omega), if_neg (by omega), if_neg (by omega), if_neg (by omega), if_neg (by omega), if_neg (by omega), if_neg (by omega), if_neg (by omega)]
    rfl
theorem op_tells {w : Int} (h : Inv I J) (hw : -2147483648 ≤ w ∧ w ≤ 2147483647) : wpC E (d + 7) 99 [.ref 0, .int (iZ w)] (mm I J A) (QI E (d + 7) 174 [.int (iZ w)]) := by
  rcases h.1 with ⟨g0, g1⟩ | ⟨g0, hW, hH, hR, h8⟩
  · have n0 : ¬ I 266 0 = 1 := by rw [g0]; decide
    exact wc (hs := []) 20 (by decide) (wt g1 (rd_mk h FS_refl (m_tells (Vs_m h.1) h.2.2.2.2.1 hw (fun q => absurd q n0) (fun _ => ⟨rfl, rfl⟩))))
  · have b1 : ¬ I 1 0 = 0 := by have : I 1 0 = 1 := hR.1.1; rw [this]; decide
    have H : ∀ I1 J1 A1, FS I J I1 J1 → QI E (d + 7) 174 [.int (iZ w)] (some (.int (iZ (telZ (vC I) w)))) (mm I1 J1 A1) := fun I1 J1 A1 hF => rd_mk h hF (m_tells (FS_m hF h).1 (FS_m hF h).2 hw (fun _ => ⟨by rw [FS_v hF], rfl⟩) (fun q => absurd ((FS_0 hF).trans g0) q))
    have H0 := H I J A FS_refl
    have ab := asdB hW
    have sb := (stfB hW WW0.1 WW0.2).2
    obtain ⟨r0, r1, r2, r3, r4, r5, r6, r7, r8, r9⟩ := id hR.1
    refine wc (hs := []) 80 (by decide) (wF b1 ?_)
    by_cases hc : (0 ≤ w ∧ w ≤ 5) ∨ w = 10
    · have hc : w = 0 ∨ w = 1 ∨ w = 2 ∨ w = 3 ∨ w = 4 ∨ w = 5 ∨ w = 10 := by omega
      rcases hc with rfl | rfl | rfl | rfl | rfl | rfl | rfl
      · exact wtb 0 rfl rfl rfl (q_i H0 r7)
      · exact wtb 1 rfl rfl rfl (q_i H0 r8)
      · exact wtb 2 rfl rfl rfl (q_i H0 r5)
      · exact wtb 3 rfl rfl rfl (q_i H0 r6)
      · exact wtb 4 rfl rfl rfl (q_i H0 r9)
      · exact wtb 5 rfl rfl rfl (And.intro rfl (c_draft (b := 1) (Or.inl rfl) hR hW H0))
      · refine wtb 10 rfl rfl rfl (And.intro rfl (c_isOver (b := 1) (Or.inl rfl) hR hW (fun q => wF (by decide) (q_i H0 ?_)) (fun q => wt rfl (q_i H0 ?_))))
        · show _ = iZ (if vC I 266 7 = 60 ∨ vC I 266 7 = -60 then 1 else 0)
          rw [if_pos q]; rfl
        · show _ = iZ (if vC I 266 7 = 60 ∨ vC I 266 7 = -60 then 1 else 0)
          rw [if_neg q]; rfl
    · by_cases hd : 6 ≤ w ∧ w ≤ 9
      · have hd : w = 6 ∨ w = 7 ∨ w = 8 ∨ w = 9 := by omega
        rcases hd with rfl | rfl | rfl | rfl
        · refine wtb 6 rfl rfl rfl (And.intro rfl (c_takeV hW hR (fun I1 J1 A1 hB hR1 hF => ?_)))
          refine wtb 0 rfl rfl rfl (And.intro rfl (c_stiffness (Or.inl ⟨rfl, rfl⟩) hB hW WW0 (q_i (H I1 J1 A1 hF) ?_)))
          show (lZ (stfZ (vC I) 0 0)).toInt32 = iZ (stfZ (vC I) 0 0)
          simp (disch := omega) only [z_i8, z_i16, z_of, z_ofN, z_lofN, z_0, z_1, z_m1, z_l0, z_l1, iZ_add, iZ_sub, iZ_mul, iZ_neg, lZ_add, lZ_sub, lZ_mul, lZ_neg, z_div, z_ldiv, z_l, z_i, z_lt, z_le, z_eq, z_llt, z_lle, z_leq, z_cgt, z_cge, z_clt, z_cle, z_ceq, z_cl, z_nat, Int.toNat_natCast, mm_I, mm_J, z_cln, z_abs, z_max, z_min, z_lmax, z_lmin, z_sin, Int.cast_ofNat_Int, uI_I, uI_J, uL_I, uL_J, uA_I, uA_J, sI_eq, sI_ne, sL_eq, sL_ne, up_eq, up_ne, uL_eq, uL_ne, z_toInt, Int.reduceToNat]
        · refine wtb 7 rfl rfl rfl (And.intro rfl (c_takeV hW hR (fun I1 J1 A1 hB hR1 hF => ?_)))
          exact wtb 1 rfl rfl rfl (And.intro rfl (c_beat (Or.inl ⟨rfl, rfl⟩) hB hW WW0 (H I1 J1 A1 hF)))
        · refine wtb 8 rfl rfl rfl (And.intro rfl (c_takeV hW hR (fun I1 J1 A1 hB hR1 hF => ?_)))
          exact wtb 2 rfl rfl rfl (And.intro rfl (c_loll hB hW WW0 (fun J2 hJ2 => H I1 J2 A1 (FS_trans hF (fun a ha => ⟨rfl, hJ2 a (by omega)⟩)))))
        · refine wtb 9 rfl rfl rfl (And.intro rfl (c_takeV hW hR (fun I1 J1 A1 hB hR1 hF => ?_)))
          exact wtb 3 rfl rfl rfl (And.intro rfl (c_range hB hW WW0 ⟨by omega, by omega⟩ hW.1.2.2.2.2.2.2.1 hR1.1.2.2.2.2.2.2.2.1 (H I1 J1 A1 hF)))
      · refine wtdE (z_toInt (by omega) (by omega)) (by omega) rfl (And.intro rfl (c_takeV hW hR (fun I1 J1 A1 hB hR1 hF => ?_)))
        refine wtdE (z_toInt (by omega) (by omega)) (by omega) rfl (q_i (H I1 J1 A1 hF) ?_)
        unfold telZ
        rw [if_neg (by omega), if_neg (by omega), if_neg (by omega), if_neg (by omega), if_neg (by omega), if_neg (by omega), if_neg (by omega), if_neg (by omega), if_neg (by omega), if_neg (by omega), if_neg (by omega)]
        rfl
end RD3
