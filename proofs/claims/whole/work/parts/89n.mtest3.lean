/-! ===== the reference reads a test ===== -/
def W0p (E : Nat × (Nat → Int32)) (d : Nat) (J : Nat → Nat → Int64) (A : Nat → Option Nat) (Q : Option Value → am_M → Prop) (I : Nat → Nat → Int32) : Prop := wp E (d + 9) 206 0 [(0, .ref 265), (1, .int (iZ 9))] [] (mm I J A) (fun o M => o = none ∧ wp E (d + 10) 208 46 [(0, .ref 265), (1, .int (iZ 0)), (2, .int (iZ 1))] [] M Q)
def FTs (E : Nat × (Nat → Int32)) (d : Nat) (J : Nat → Nat → Int64) (A : Nat → Option Nat) (Q : Option Value → am_M → Prop) (I0 : Nat → Nat → Int32) (T : Nat → Int) (t r k : Nat) : Prop := ∀ (s : pS) (S : List Int) (I : Nat → Nat → Int32) (q : Nat), MY I0 I r q 0 (s.2.1 : Nat) s.2.2 S (10 - k) → q ≤ t → skp T t q = s.1 → GBk t 0 s → S.length ≤ s.1 → (∀ x ∈ S, 9 ≤ x ∧ x ≤ 12) → (∀ s' I' q', fcZ T t k s = .ok s' → MY I0 I' r q' 0 (s'.2.1 : Nat) s'.2.2 S (10 - k) → q' ≤ t → skp T t q' = s'.1 → W0p E d J A Q I') → (∀ e I', fcZ T t k s = .error e → MErr I0 I' r e → Q none (mm I' J A)) → wp E (d + 10) 208 9 [(0, .ref 265), (1, .int (iZ 1)), (2, .int (iZ 1))] [] (mm I J A) Q
section MTEST3
variable {E : Nat × (Nat → Int32)} {d : Nat} {I I0 I1 : Nat → Nat → Int32} {J : Nat → Nat → Int64} {A : Nat → Option Nat} {Q : Option Value → am_M → Prop} {M : am_M} {T : Nat → Int} {t r q : Nat} {f c dp : Int} {L S : List Int} {s : pS}
theorem w0_in (h : MY I0 I r q 0 c L S dp) (hw : W0p E d J A Q I) : wp E (d + 10) 208 9 [(0, .ref 265), (1, .int (iZ 0)), (2, .int (iZ 1))] [] (mm I J A) Q := by
  have c0 : I 265 29 = 0 := h.1.2.1
  refine wf (hs := [46]) 30 9 (by decide) (wF (by decide) (wt c0 (wt rfl (And.intro rfl (wp_mono hw (fun o M hm => ?_))))))
  obtain ⟨rfl, hm⟩ := hm
  exact hm
theorem w_err {e : Int} {x1 : Int32} (h : MErr I0 I r e) (hQ : Q none (mm I J A)) : wp E (d + 10) 208 9 [(0, .ref 265), (1, .int x1), (2, .int (iZ 1))] [] (mm I J A) Q := by
  have c0 : ¬ I 265 29 = 0 := by
    have := h.2.1
    rw [h.1]
    show ¬ iZ e = iZ 0
    ((try simp (disch := omega) only [z_i8, z_i16, z_of, z_ofN, z_lofN, z_0, z_1, z_m1, z_l0, z_l1, iZ_add, iZ_sub, iZ_mul, iZ_neg, lZ_add, lZ_sub, lZ_mul, lZ_neg, z_div, z_ldiv, z_l, z_i, z_lt, z_le, z_eq, z_llt, z_lle, z_leq, z_cgt, z_cge, z_clt, z_cle, z_ceq, z_cl, z_nat, Int.toNat_natCast, mm_I, mm_J, z_cln, z_abs, z_max, z_min, z_lmax, z_lmin, z_sin, Int.cast_ofNat_Int, uI_I, uI_J, uL_I, uL_J, uA_I, uA_J, sI_eq, sI_ne, sL_eq, sL_ne, up_eq, up_ne, uL_eq, uL_ne, z_toInt, Int.reduceToNat]) <;> omega)
  exact wf (hs := []) 30 9 (by decide) (wF (by decide) (wF c0 hQ))
theorem m_atFact (hT : TM I0 T t) (hr : r < 6) (h30 : I0 265 30 = iZ r) (h36 : I0 265 36 = iZ 19) (h : MY I0 I r q 0 (s.2.1 : Nat) s.2.2 S dp) (hq : q ≤ t) (hs : skp T t q = s.1) (hg : GBk t 0 s) (hS : S.length ≤ 401) (hd : 0 ≤ dp ∧ dp ≤ 10)
    (h26 : tkZ T t s.1 = 26 → ∀ I', MY I0 I' r (s.1 + 3) (if dp = 10 then flt 2 s.1 else 0) (s.2.1 : Nat) s.2.2 (9 :: S) (dp + 1) → wp E (d + 10) 208 9 [(0, .ref 265), (1, .int (iZ 1)), (2, .int (iZ 1))] [] (mm I' J A) Q)
    (h37 : tkZ T t s.1 = 37 → ∀ I', MY I0 I' r (s.1 + 1) (if dp = 10 then flt 2 s.1 else 0) (s.2.1 : Nat) s.2.2 (12 :: S) (dp + 1) → wp E (d + 10) 208 9 [(0, .ref 265), (1, .int (iZ 1)), (2, .int (iZ 1))] [] (mm I' J A) Q)
    (hok : tkZ T t s.1 ≠ 26 → tkZ T t s.1 ≠ 37 → ∀ s' I' q', cmZ T t s = .ok s' → MY I0 I' r q' 0 (s'.2.1 : Nat) s'.2.2 S dp → q' ≤ t → skp T t q' = s'.1 → W0p E d J A Q I')
    (her : tkZ T t s.1 ≠ 26 → tkZ T t s.1 ≠ 37 → ∀ e I', cmZ T t s = .error e → MErr I0 I' r e → Q none (mm I' J A)) : wp E (d + 10) 208 9 [(0, .ref 265), (1, .int (iZ 1)), (2, .int (iZ 1))] [] (mm I J A) Q := by
  have c0 : I 265 29 = 0 := h.1.2.1
  have hb := fun i hi => (hT.2.2 i hi).1
  refine wf (hs := [9]) 30 9 (by decide) (wF (by decide) (wt c0 (wF (by decide) (And.intro rfl (m_fact (d := d) hT hr h30 h36 h hq hs hg hS hd (fun g I2 h2 => wt rfl ?_) (fun g I2 h2 => wt rfl ?_) (fun g26 g37 I2 q2 f2 c2 L2 h2 p2 => wF (by decide) ?_))))))
  · refine wp_keys [0, 1, 2] rfl rfl ?_
    exact h26 g I2 h2
  · refine wp_keys [0, 1, 2] rfl rfl ?_
    exact h37 g I2 h2
  · refine wp_keys [0, 1, 2] rfl rfl ?_
    have p22 := p2.2.2 rfl
    cases hv : cmZ T t s with
    | error e =>
      rw [hv] at p22
      obtain ⟨rfl, w⟩ := p22
      have er := MY_err h2 (by have := p2.1; omega) w
      exact w_err er (her g26 g37 _ I2 hv er)
    | ok s' =>
      rw [hv] at p22
      obtain ⟨w1, w2, w3, w4, w5⟩ := p22
      subst w1; subst w3; subst w4; subst w5
      have pt := (cm_ok hb hv).1.2
      have ss : skp T t s'.1 = s'.1 := by
        sorry
      exact w0_in h2 (hok g26 g37 s' I2 s'.1 hv h2 pt ss)
end MTEST3
