/-! ===== the reference reads the pieces of a clause ===== -/
def ctx (k : Nat) : Nat := k + 2
theorem ctx_cd : ∀ k, k < 5 → cdW (ctx k) = (if k = 3 then 16 else if k = 4 then 22 else 19 + k) ∧ (2 ≤ ctx k ∧ ctx k ≤ 28) ∧ txL (ctx k) ≤ 75 ∧ 1 ≤ txL (ctx k) := by decide +kernel
section MCLAUSE
variable {E : Nat × (Nat → Int32)} {d : Nat} {I I0 I1 : Nat → Nat → Int32} {J : Nat → Nat → Int64} {A : Nat → Option Nat} {Q : Option Value → am_M → Prop} {M : am_M} {T : Nat → Int} {t r q : Nat} {f c : Int} {L : List Int} {s : pS}
theorem skp_500 (h4 : t ≤ 400) (hq : q ≤ 500) : skp T t q ≤ 500 := by
  by_cases w : q ≤ t
  · have := (skp_b (T := T) w).2.1; omega
  · rw [skp_ge (by omega)]; exact hq
theorem m_amount {most : Int} {x : Int32} (hT : TM I0 T t) (h : MX I0 I r q f c L) (hq : q ≤ 500) (hm : 0 ≤ most ∧ most ≤ 99999) (ex : x = iZ most) (hs : f = 0 → q ≤ t ∧ skp T t q = s.1) (hQ : ∀ I' q' f' v, MX I0 I' r q' f' c L → q' ≤ 500 → (0 ≤ v ∧ v ≤ 99999) → (f ≠ 0 → f' = f) → (f = 0 → match fgZ T t most s with
    | .ok y => f' = 0 ∧ v = y.2 ∧ q' ≤ t ∧ skp T t q' = y.1.1
    | .error e => f' = e ∧ e ≠ 0) → Q (some (.int (iZ v))) (mm I' J A)) : wpC E (d + 3) 209 [.ref 265, .int x] (mm I J A) Q := by
  subst ex
  have t4 := hT.1
  refine wc (hs := []) 40 (by decide) (And.intro rfl (m_blanks (d := d + 1) (MX_TM hT h) h.1 (by omega) ?_))
  have h1 := MX_q (q' := skp T t q) h
  have q5 := skp_500 (T := T) t4 hq
  generalize setI I 265 28 (iZ (skp T t q : Nat)) = I1 at h1 ⊢
  by_cases f0 : f = 0
  · subst f0
    obtain ⟨hqt, hs⟩ := hs rfl
    rw [hs] at h1 q5
    have c0 : I1 265 29 = 0 := h1.2.1
    refine wt c0 (And.intro rfl (m_digits (d := d) hT h1 q5 hm rfl (fun I2 v g1 g2 g3 h2 => hQ I2 _ _ v h2 ?_ g3 (fun w => absurd rfl w) (fun _ => ?_)) (fun I2 g h2 => hQ I2 _ _ 0 h2 q5 (by omega) (fun w => absurd rfl w) (fun _ => ?_))))
    · have := (rex_b (T := T) (lo := 48) (hi := 57) (show s.1 ≤ t by omega)).1; omega
    · have t39 := tk39.mpr g1
      have eb := en_b (T := T) g1.1
      have en : enZ T t s.1 = rex T t 48 57 s.1 := by unfold enZ; rw [if_pos g1.2]
      unfold fgZ
      rw [if_pos t39]
      by_cases w : 5 < rex T t 48 57 s.1 - s.1
      · have nu : nuZ T t s.1 = -1 := by unfold nuZ; rw [if_pos w]
        rw [if_neg (by omega), if_pos ⟨rfl, Or.inl w⟩]
        exact ⟨rfl, by unfold flt; omega⟩
      · have nu := g2 (by omega)
        by_cases w2 : most < v
        · rw [if_neg (by omega), if_pos ⟨rfl, Or.inr w2⟩]
          exact ⟨rfl, by unfold flt; omega⟩
        · rw [if_pos (by omega), if_neg (fun y => by omega)]
          exact ⟨rfl, nu, by omega, by show _ = nxZ T t s.1; unfold nxZ; rw [en]⟩
    · have t39 : ¬ tkZ T t s.1 = 39 := fun y => g (tk39.mp y)
      unfold fgZ
      rw [if_neg t39, if_pos rfl]
      exact ⟨rfl, by unfold flt; omega⟩
  · exact wF (f_ne h1 f0) (hQ I1 _ _ 0 h1 q5 (by omega) (fun _ => rfl) (fun w => absurd w f0))
theorem m_letter (hT : TM I0 T t) (h36 : I0 265 36 = iZ 19) (h : MX I0 I r q 0 c L) (hq : q ≤ t) (hs : skp T t q = s.1) (hQ : ∀ I' q' f' v, MX I0 I' r q' f' c L → q' ≤ 500 → (0 ≤ v ∧ v ≤ 12) → (match pnZ T t s with
    | .ok y => f' = 0 ∧ v = y.2 ∧ q' ≤ t ∧ skp T t q' = y.1.1
    | .error e => f' = e ∧ e ≠ 0) → Q (some (.int (iZ v))) (mm I' J A)) : wpC E (d + 5) 210 [.ref 265] (mm I J A) Q := by
  have t4 := hT.1
  refine wc (hs := [7]) 40 (by decide) (And.intro rfl (m_blanks (d := d + 3) (MX_TM hT h) h.1 (by omega) ?_))
  have h1 := MX_q (q' := skp T t q) h
  have sb := (skp_b (T := T) hq).2.1
  rw [hs] at h1 sb ⊢
  generalize setI I 265 28 (iZ (s.1 : Nat)) = I1 at h1 ⊢
  have i36 : I1 265 36 = iZ 19 := by rw [h1.2.2.2.2.2.1.2.1 36 (by omega) (by omega) (by omega) (by omega)]; exact h36
  have c0 : I1 265 29 = 0 := h1.2.1
  have tr := tk_rng (T := T) (t := t) (p := s.1)
  have Lw : ∀ (n k : Nat) (x : Int32), k + n = 19 → 7 ≤ k → (∀ j, 7 ≤ j → j < k → stB T t (wtx j) s.1 = false) → x = iZ k → wp E (d + 5) 210 7 [(0, .ref 265), (1, .int x)] [] (mm I1 J A) Q := by
    intro n
    induction n with
    | zero =>
      intro k x hk _ hno e2
      subst e2
      have : k = 19 := by omega
      subst this
      have c1 : I1 265 36 ≤ iZ (19 : Nat) := by rw [i36]; decide
      have c2 : iZ (19 : Nat) = I1 265 36 := by rw [i36]; rfl
      refine wf (hs := [7]) 40 7 (by decide) (wt c1 (wt c2 (And.intro rfl (m_fails (k := 0) (pl := s.1) h1 (by omega) (by omega) rfl h1.1 (fun I3 h3 => ?_)))))
      refine hQ I3 _ _ 12 h3 (by omega) (by omega) ?_
      have v0 : pnZ T t s = .error (flt 0 s.1) := by
        unfold pnZ
        rw [if_neg ?_]
        intro h11
        obtain ⟨w1, w2, -⟩ := wtx_cd ((tkZ T t s.1).toNat + 7) (by omega)
        have := (st_iff (T := T) w2 sb).mpr (by rw [w1, if_neg (by omega)]; omega)
        rw [hno _ (by omega) (by omega)] at this
        cases this
      rw [v0, if_pos rfl]
      exact ⟨rfl, by unfold flt; omega⟩
    | succ n ih =>
      intro k x hk h7 hno e2
      subst e2
      obtain ⟨w1, w2, w3⟩ := wtx_cd k (by omega)
      have c1 : ¬ I1 265 36 ≤ iZ (k : Int) := by rw [i36]; ((try simp (disch := omega) only [z_i8, z_i16, z_of, z_ofN, z_lofN, z_0, z_1, z_m1, z_l0, z_l1, iZ_add, iZ_sub, iZ_mul, iZ_neg, lZ_add, lZ_sub, lZ_mul, lZ_neg, z_div, z_ldiv, z_l, z_i, z_lt, z_le, z_eq, z_llt, z_lle, z_leq, z_cgt, z_cge, z_clt, z_cle, z_ceq, z_cl, z_nat, Int.toNat_natCast, mm_I, mm_J, z_cln, z_abs, z_max, z_min, z_lmax, z_lmin, z_sin, Int.cast_ofNat_Int, uI_I, uI_J, uL_I, uL_J, uA_I, uA_J, sI_eq, sI_ne, sL_eq, sL_ne, up_eq, up_ne, uL_eq, uL_ne, z_toInt, Int.reduceToNat]) <;> omega)
      have B32 : stB T t (wtx k) s.1 = true → wp E (d + 5) 210 32 [(0, .ref 265), (1, .int (iZ k))] [] (mm I1 J A) Q := fun hst => by
        have c2 : ¬ iZ (k : Int) = I1 265 36 := by rw [i36]; ((try simp (disch := omega) only [z_i8, z_i16, z_of, z_ofN, z_lofN, z_0, z_1, z_m1, z_l0, z_l1, iZ_add, iZ_sub, iZ_mul, iZ_neg, lZ_add, lZ_sub, lZ_mul, lZ_neg, z_div, z_ldiv, z_l, z_i, z_lt, z_le, z_eq, z_llt, z_lle, z_leq, z_cgt, z_cge, z_clt, z_cle, z_ceq, z_cl, z_nat, Int.toNat_natCast, mm_I, mm_J, z_cln, z_abs, z_max, z_min, z_lmax, z_lmin, z_sin, Int.cast_ofNat_Int, uI_I, uI_J, uL_I, uL_J, uA_I, uA_J, sI_eq, sI_ne, sL_eq, sL_ne, up_eq, up_ne, uL_eq, uL_ne, z_toInt, Int.reduceToNat]) <;> omega)
        have tk := (st_iff (T := T) w2 sb).mp hst
        rw [w1, if_neg (by omega)] at tk
        have h2 := MX_up h1
        have we := wd_en (T := T) (k := (tkZ T t s.1).toNat + 13) (by omega) sb (by unfold cdW; rw [if_pos (by omega)]; omega)
        rw [(tx_one (by omega)).1] at we
        have H := hQ _ (s.1 + 1) 0 ((k : Int) - 7) h2 (by omega) (by omega) (by
          unfold pnZ
          rw [if_pos (by omega)]
          exact ⟨rfl, by show _ = tkZ T t s.1; omega, we.2, by show _ = nxZ T t s.1; unfold nxZ; rw [we.1]⟩)
        rw [← iZ_sub] at H
        exact wf (hs := []) 40 32 (by decide) (wF c2 (wt c0 H))
      refine wf (hs := [7, 32]) 40 7 (by decide) (wF c1 (And.intro rfl (m_wordOf (by omega) rfl (And.intro rfl (m_stands (d := d) (k := wtx k) (by omega) w3 (MX_TM hT h1) h1.1 (by omega) rfl (fun g => wF (by decide) ?_) (fun g => wt rfl ?_))))))
      · refine wp_keys [0, 1] rfl rfl ?_
        exact B32 g
      · refine wp_keys [0, 1] rfl rfl ?_
        refine ih (k + 1) _ (by omega) (by omega) (fun j j7 hj => ?_) (iZ_add k 1)
        by_cases w5 : j = k
        · rw [w5]; exact g
        · exact hno j j7 (by omega)
  refine wp_keys [0, 1] rfl rfl ?_
  exact Lw 12 7 _ (by omega) (by omega) (fun j j7 hj => by omega) rfl
theorem m_clauseOf {k : Nat} {x : Int32} (hk : k < 5) (ex : x = iZ k) (hQ : Q (some (.float (UInt32.ofNat (ctx k)))) M) : wpC E d 190 [.int x] M Q := by
  subst ex
  have hc : k = 0 ∨ k = 1 ∨ k = 2 ∨ k = 3 ∨ k = 4 := by omega
  rcases hc with rfl | rfl | rfl | rfl | rfl
  · exact wc (hs := []) 30 (by decide) (wt rfl hQ)
  · exact wc (hs := []) 30 (by decide) (wF (by decide) (wt rfl hQ))
  · exact wc (hs := []) 30 (by decide) (wF (by decide) (wF (by decide) (wt rfl hQ)))
  · exact wc (hs := []) 30 (by decide) (wF (by decide) (wF (by decide) (wF (by decide) (wt rfl hQ))))
  · exact wc (hs := []) 30 (by decide) (wF (by decide) (wF (by decide) (wF (by decide) (wF (by decide) hQ))))
theorem m_takes {u : UInt32} (hT : TM I0 T t) (h : MX I0 I r q f c L) (hq : q ≤ t) (hs : skp T t q = s.1) (eu : u = UInt32.ofNat 25) (h1 : ∀ I', tkZ T t s.1 = 23 → MX I0 I' r (s.1 + 2) f c L → s.1 + 2 ≤ t → skp T t (s.1 + 2) = nxZ T t s.1 → Q (some (.int 1)) (mm I' J A)) (h0 : ∀ I', tkZ T t s.1 ≠ 23 → MX I0 I' r s.1 f c L → Q (some (.int 0)) (mm I' J A)) : wpC E (d + 5) 196 [.ref 265, .float u] (mm I J A) Q := by
  subst eu
  have t4 := hT.1
  have l25 : txL 25 = 2 := by decide +kernel
  refine wc (hs := []) 40 (by decide) (And.intro rfl (m_blanks (d := d + 3) (MX_TM hT h) h.1 (by omega) ?_))
  have h2 := MX_q (q' := skp T t q) h
  have sb := (skp_b (T := T) hq).2.1
  rw [hs] at h2 sb ⊢
  generalize setI I 265 28 (iZ (s.1 : Nat)) = I1 at h2 ⊢
  refine And.intro rfl (m_stands (d := d) (k := 25) (by omega) (by rw [l25]; omega) (MX_TM hT h2) h2.1 (by omega) rfl (fun g => wF (by decide) ?_) (fun g => wt rfl ?_))
  · have tk : tkZ T t s.1 = 23 := (st_iff (T := T) (k := 25) (by omega) sb).mp g
    have we := wd_en (T := T) (k := 25) (by omega) sb tk
    rw [l25] at we
    refine And.intro (rc_len (by omega) cat2) (tx_len (d := d + 3) (by omega) ?_)
    rw [l25]
    exact And.intro rfl (h1 _ tk (MX_add (n := 2) h2) we.2 (by unfold nxZ; rw [we.1]))
  · have tk : tkZ T t s.1 ≠ 23 := fun y => by
      rw [(st_iff (T := T) (k := 25) (by omega) sb).mpr y] at g; cases g
    have H := h0 I1 tk h2
    have e0 : setI I1 265 28 (I1 265 28 + iZ 0) = I1 := by rw [h2.1, iZ_add, Int.add_zero, ← h2.1]; exact setI_same
    rw [← e0] at H
    exact And.intro rfl H
end MCLAUSE
