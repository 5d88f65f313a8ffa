/-! ===== the reference reads facts in facts ===== -/
section MTEST4
variable {E : Nat × (Nat → Int32)} {d : Nat} {I I0 I1 : Nat → Nat → Int32} {J : Nat → Nat → Int64} {A : Nat → Option Nat} {Q : Option Value → am_M → Prop} {M : am_M} {T : Nat → Int} {t r q : Nat} {f c dp : Int} {L S : List Int} {s : pS}
theorem MY_pop {x : Int} (h : MY I0 I r q f c L (x :: S) dp) : MY I0 (setI (setI I 265 35 (I 265 35 - iZ 1)) 265 33 (setI I 265 35 (I 265 35 - iZ 1) 265 33 - iZ 1)) r q f c L S (dp - 1) := by
  obtain ⟨a1, a2, a3, a4, a5⟩ := h
  have e35 : I 265 35 - iZ 1 = iZ (S.length : Nat) := by
    rw [a2, iZ_sub]
    congr 1
    show ((S.length + 1 : Nat) : Int) - 1 = _
    omega
  have h3 := MX_o (j := 33) (x := setI I 265 35 (I 265 35 - iZ 1) 265 33 - iZ 1) (MX_o (j := 35) (x := I 265 35 - iZ 1) a1 (by omega)) (by omega)
  have at2 : ∀ a j, a ≠ 265 ∨ (j ≠ 33 ∧ j ≠ 35) → setI (setI I 265 35 (I 265 35 - iZ 1)) 265 33 (setI I 265 35 (I 265 35 - iZ 1) 265 33 - iZ 1) a j = I a j := fun a j w => by rw [setI_at, if_neg (by omega), setI_at, if_neg (by omega)]
  refine ⟨h3, ?_, ?_, fun i hi => ?_, ⟨fun a w1 w2 w3 w4 => ?_, fun j w1 w2 w3 w4 w5 w6 => ?_, fun j hj => ?_⟩⟩
  · rw [setI_at, if_neg (by omega), setI_at, if_pos ⟨rfl, rfl⟩, e35]
  · rw [setI_at, if_pos ⟨rfl, rfl⟩, setI_at, if_neg (by omega), a3, iZ_sub]
  · rw [at2 301 i (by omega), a4 i (by show i < S.length + 1; omega)]
    show iZ ((x :: S).getD (S.length + 1 - 1 - i) 0) = _
    rw [show S.length + 1 - 1 - i = (S.length - 1 - i) + 1 by omega]; rfl
  · rw [← a5.1 a w1 w2 w3 w4]; funext j; exact at2 a j (by omega)
  · rw [at2 265 j (by omega)]; exact a5.2.1 j w1 w2 w3 w4 w5 w6
  · rw [at2 291 j (by omega), at2 292 j (by omega)]; exact a5.2.2 j hj
theorem m_facts (hT : TM I0 T t) (hr : r < 6) (h30 : I0 265 30 = iZ r) (h36 : I0 265 36 = iZ 19) : ∀ k, k ≤ 10 → FTs E d J A Q I0 T t r k := by
  have t4 := hT.1
  have hb := fun i hi => (hT.2.2 i hi).1
  intro k
  induction k with
  | zero =>
    intro _ s S I q h hq hs hg hl hx h1 h0
    unfold fcZ at h1 h0
    have s4 := hg.1
    refine m_atFact (d := d) hT hr h30 h36 h hq hs hg (by omega) (by omega) (fun g I2 h2 => ?_) (fun g I2 h2 => ?_) (fun g26 g37 s' I' q' hv h' qt ss => h1 s' I' q' (by rw [if_neg (by omega)]; exact hv) h' qt ss) (fun g26 g37 e I' hv he => h0 e I' (by rw [if_neg (by omega)]; exact hv) he)
    · rw [if_pos (by omega)] at h2
      have er := MY_err h2 (by omega) (by unfold flt; omega)
      exact w_err er (h0 _ I2 (by rw [if_pos (Or.inl g)]) er)
    · rw [if_pos (by omega)] at h2
      have er := MY_err h2 (by omega) (by unfold flt; omega)
      exact w_err er (h0 _ I2 (by rw [if_pos (Or.inr g)]) er)
  | succ k ih =>
    intro hk s S I q h hq hs hg hl hx h1 h0
    unfold fcZ at h1 h0
    have s4 := hg.1
    have ihk := ih (by omega)
    have dk : (10 : Int) - ((k + 1 : Nat) : Int) + 1 = 10 - (k : Nat) := by omega
    have dk2 : (10 : Int) - (k : Nat) - 1 = 10 - ((k + 1 : Nat) : Int) := by omega
    have gS : s.1 < t → GBk t 0 (stp1 T t s) := fun pt => ⟨(nx_b (T := T) pt).2, hg.2.1, by
      have := hg.2.2
      have := (nx_b (T := T) pt).1
      show 3 * (s.2.2.length : Int) + 0 ≤ 6 * (s.2.1 : Int) + (nxZ T t s.1 : Int)
      omega⟩
    refine m_atFact (d := d) hT hr h30 h36 h hq hs hg (by omega) (by omega) (fun g I2 h2 => ?_) (fun g I2 h2 => ?_) (fun g26 g37 s' I' q' hv h' qt ss => h1 s' I' q' (by rw [if_neg g26, if_neg g37]; exact hv) h' qt ss) (fun g26 g37 e I' hv he => h0 e I' (by rw [if_neg g26, if_neg g37]; exact hv) he)
    · rw [if_neg (by omega), dk] at h2
      rw [if_pos g] at h1 h0
      have pt := tk_lt (T := T) (t := t) (p := s.1) (by omega)
      have nb := nx_b (T := T) pt
      have we := wd_en (T := T) (k := 26) (by omega) s4 g
      rw [txL_26.1] at we
      refine ihk (stp1 T t s) (9 :: S) I2 (s.1 + 3) h2 we.2 (by show _ = nxZ T t s.1; unfold nxZ; rw [we.1]) (gS pt) (by show S.length + 1 ≤ nxZ T t s.1; omega) (fun x hm => ?_) (fun s1 I3 q3 hv h3 q3t ss => ?_) (fun e I3 hv he => h0 e I3 (by rw [hv]; rfl) he)
      · rcases List.mem_cons.mp hm with rfl | hm
        · omega
        · exact hx x hm
      · have pp := fc_ok hb k _ _ hv
        have g3 := GB_PP (gS pt) pp
        refine m_ans1 (d := d + 8) (k := 9) (x := 26) hr h30 h3 (by omega) (GB_l300 t4 (by omega) g3) (Or.inl ⟨rfl, rfl⟩) rfl (fun I4 h4 => ?_)
        rw [if_pos rfl, dk2] at h4
        exact h1 (apL 26 s1) I4 q3 (by rw [hv]; rfl) h4 q3t ss
    · rw [if_neg (by omega), dk] at h2
      have g26 : ¬ tkZ T t s.1 = 26 := by omega
      rw [if_neg g26, if_pos g] at h1 h0
      have pt := tk_lt (T := T) (t := t) (p := s.1) (by omega)
      have nb := nx_b (T := T) pt
      have en : enZ T t s.1 = s.1 + 1 := by rw [en_sign (by omega), if_neg (by omega)]
      have gs := gS pt
      refine m_testL (d := d) (k := k) (B := 12 :: S) (RES := tsL T t (fcZ T t k) 401 false false (stp1 T t s)) ihk hT hr h30 (by omega) (by show (12 : Int) ≠ 9 ∧ (12 : Int) ≠ 10 ∧ (12 : Int) ≠ 11; omega) (fun x hm => ?_) (fun s1 I3 hv h3 s1t => ?_) (fun e I3 hv he => h0 e I3 (by rw [hv]; rfl) he) 401 false false (stp1 T t s) I2 (s.1 + 1) (by omega) h2 (by omega) (by show _ = nxZ T t s.1; unfold nxZ; rw [en]) ⟨gs.1, gs.2.1, by have := gs.2.2; show _ + ((0 : Int) + 0) ≤ _; omega⟩ (by show 0 + 0 + (S.length + 1) ≤ nxZ T t s.1; omega) rfl
      · rcases List.mem_cons.mp hm with rfl | hm
        · omega
        · exact hx x hm
      · rw [hv] at h1 h0
        have h1 : ∀ s' I' q', (if tkZ T t s1.1 = 38 then (.ok (stp1 T t s1) : pR) else .error (flt 0 s1.1)) = .ok s' → MY I0 I' r q' 0 (s'.2.1 : Nat) s'.2.2 S (10 - ((k + 1 : Nat) : Int)) → q' ≤ t → skp T t q' = s'.1 → W0p E d J A Q I' := h1
        have h0 : ∀ e I', (if tkZ T t s1.1 = 38 then (.ok (stp1 T t s1) : pR) else .error (flt 0 s1.1)) = .error e → MErr I0 I' r e → Q none (mm I' J A) := h0
        have hT3 := MY_TM hT h3
        have sr := sgA_rng (p := s1.1) hT3
        have B164 : ∀ I4 f', MY I0 I4 r s1.1 f' (s1.2.1 : Nat) s1.2.2 (12 :: S) (10 - k) → (f' = (if tkZ T t s1.1 = 38 then 0 else flt 0 s1.1)) → wp E (d + 10) 208 164 [(0, .ref 265), (1, .int (iZ 0)), (2, .int (iZ 1))] [] (mm I4 J A) Q := fun I4 f' h4 ef => by
          have h5 := MY_pop (MY_re h4 (MX_add (n := 1) h4.1))
          rw [dk2] at h5
          refine wf (hs := [9]) 40 164 (by decide) ?_
          refine wp_keys [0, 1, 2] rfl rfl ?_
          by_cases w : tkZ T t s1.1 = 38
          · rw [if_pos w] at h1 ef
            rw [ef] at h5
            have pt1 := tk_lt (T := T) (t := t) (p := s1.1) (by omega)
            have en1 : enZ T t s1.1 = s1.1 + 1 := by rw [en_sign (by omega), if_neg (by omega)]
            exact w0_in h5 (h1 (stp1 T t s1) _ (s1.1 + 1) rfl h5 (by omega) (by show _ = nxZ T t s1.1; unfold nxZ; rw [en1]))
          · rw [if_neg w] at h0 ef
            rw [ef] at h5
            have er := MY_err h5 (by omega) (by unfold flt; omega)
            exact w_err er (h0 _ _ rfl er)
        refine wf (hs := [164]) 40 137 (by decide) (And.intro rfl (m_top h3 (by show S.length + 1 ≤ 401; omega) (wt rfl (And.intro rfl (m_sign hT3 h3.1.1 (by omega) ?_)))))
        by_cases w : sgA T t s1.1 = 93
        · rw [w]
          refine wt rfl ?_
          refine wp_keys [0, 1, 2] rfl rfl ?_
          exact B164 I3 0 h3 (by rw [if_pos (sg38.mp w)])
        · have n1 : ¬ iZ (sgA T t s1.1) = iZ 93 := by ((try simp (disch := omega) only [z_i8, z_i16, z_of, z_ofN, z_lofN, z_0, z_1, z_m1, z_l0, z_l1, iZ_add, iZ_sub, iZ_mul, iZ_neg, lZ_add, lZ_sub, lZ_mul, lZ_neg, z_div, z_ldiv, z_l, z_i, z_lt, z_le, z_eq, z_llt, z_lle, z_leq, z_cgt, z_cge, z_clt, z_cle, z_ceq, z_cl, z_nat, Int.toNat_natCast, mm_I, mm_J, z_cln, z_abs, z_max, z_min, z_lmax, z_lmin, z_sin, Int.cast_ofNat_Int, uI_I, uI_J, uL_I, uL_J, uA_I, uA_J, sI_eq, sI_ne, sL_eq, sL_ne, up_eq, up_ne, uL_eq, uL_ne, z_toInt, Int.reduceToNat]) <;> omega)
          refine wF n1 (And.intro rfl (m_fails (k := 0) (pl := s1.1) h3.1 (by omega) (by omega) rfl h3.1.1 (fun I4 h4 => ?_)))
          rw [if_pos rfl] at h4
          refine wp_keys [0, 1, 2] rfl rfl ?_
          exact B164 I4 _ (MY_re h3 h4) (by rw [if_neg (fun y => w (sg38.mpr y))])
theorem m_test (hT : TM I T t) (hr : r < 6) (h30 : I 265 30 = iZ r) (h36 : I 265 36 = iZ 19) (h : MX I I r q 0 (s.2.1 : Nat) s.2.2) (h33 : I 265 33 = iZ 0) (hq : q ≤ t) (hs : skp T t q = s.1) (hg : GBk t 0 s) (h1 : ∀ s' I', tsZ T t 10 s = .ok s' → MY I I' r s'.1 0 (s'.2.1 : Nat) s'.2.2 [] 0 → s'.1 ≤ t → Q none (mm I' J A)) (h0 : ∀ e I', tsZ T t 10 s = .error e → MErr I I' r e → Q none (mm I' J A)) : wpC E (d + 10) 208 [.ref 265] (mm I J A) Q := by
  refine wc (hs := [9]) 20 (by decide) ?_
  refine wp_keys [0, 1, 2] rfl rfl ?_
  have h2 := MX_o (j := 35) (x := iZ 0) h (by omega)
  have at2 : ∀ a j, a ≠ 265 ∨ j ≠ 35 → setI I 265 35 (iZ 0) a j = I a j := fun a j w => by rw [setI_at, if_neg (by omega)]
  have h3 : MY I (setI I 265 35 (iZ 0)) r q 0 (s.2.1 : Nat) s.2.2 [] (10 - (10 : Nat)) := ⟨h2, by rw [setI_at, if_pos ⟨rfl, rfl⟩]; rfl, by rw [at2 265 33 (by omega)]; exact h33, fun i hi => absurd hi (Nat.not_lt_zero i), ⟨fun a w1 w2 w3 w4 => by funext j; exact at2 a j (by omega), fun j w1 w2 w3 w4 w5 w6 => at2 265 j (by omega), fun j hj => ⟨at2 291 j (by omega), at2 292 j (by omega)⟩⟩⟩
  have t4 := hT.1
  refine m_testL (d := d) (k := 10) (B := []) (RES := tsZ T t 10 s) (m_facts hT hr h30 h36 10 (by omega)) hT hr h30 (by omega) (by show (-1 : Int) ≠ 9 ∧ (-1 : Int) ≠ 10 ∧ (-1 : Int) ≠ 11; omega) (fun x hm => by cases hm) (fun s1 I3 hv h4 s1t => ?_) h0 401 false false s _ q (by omega) h3 hq hs ⟨hg.1, hg.2.1, by have := hg.2.2; show _ + ((0 : Int) + 0) ≤ _; omega⟩ (by show 0 + 0 + 0 ≤ _; omega) rfl
  refine wf (hs := [9]) 40 137 (by decide) (And.intro rfl (m_top h4 (by show 0 ≤ 401; omega) (wF (by decide) ?_)))
  refine wp_keys [0, 1, 2] rfl rfl ?_
  exact wf (hs := []) 20 9 (by decide) (wt rfl (h1 s1 I3 hv h4 s1t))
end MTEST4
