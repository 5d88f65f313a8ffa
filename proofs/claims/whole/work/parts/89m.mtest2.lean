/-! ===== the reference reads a fact ===== -/
theorem wd_en {T : Nat → Int} {t k p : Nat} (hk : 2 ≤ k ∧ k ≤ 28) (hp : p ≤ t) (h : tkZ T t p = (cdW k : Nat)) : enZ T t p = p + txL k ∧ p + txL k ≤ t := by
  have c26 := cdW_le k (by omega)
  have ptl := tk_lt (T := T) (t := t) (p := p) (by omega)
  have st := (st_iff (T := T) hk hp).mpr h
  unfold stB at st
  rw [Bool.and_eq_true] at st
  have len := of_decide_eq_true st.1
  have l1 : 1 ≤ txL k := by
    by_cases w : 13 ≤ k ∧ k ≤ 24
    · have := (tx_one w).1; omega
    · have := (tx_wd hk w).1.1; omega
  have l97 : 97 ≤ T p ∧ T p ≤ 122 := by
    apply Classical.byContradiction
    intro n
    rw [rex_lt ptl, if_neg n] at len
    omega
  have en : enZ T t p = rex T t 97 122 p := by
    unfold enZ
    rw [if_neg (by omega), if_pos l97]
  have eb := en_b (T := T) ptl
  omega
theorem txL_26 : txL 26 = 3 ∧ txL 27 = 3 ∧ txL 28 = 2 := by decide +kernel
section MTEST2
variable {E : Nat × (Nat → Int32)} {d : Nat} {I I0 I1 : Nat → Nat → Int32} {J : Nat → Nat → Int64} {A : Nat → Option Nat} {Q : Option Value → am_M → Prop} {M : am_M} {T : Nat → Int} {t r q : Nat} {f c dp : Int} {L S : List Int} {s : pS}
theorem MX_add {n : Nat} (h : MX I0 I r q f c L) : MX I0 (setI I 265 28 (I 265 28 + iZ n)) r (q + n) f c L := by
  have e : I 265 28 + iZ n = iZ ((q + n : Nat) : Int) := by rw [h.1, iZ_add]; rfl
  rw [e]
  exact MX_q h
theorem m_fact (hT : TM I0 T t) (hr : r < 6) (h30 : I0 265 30 = iZ r) (h36 : I0 265 36 = iZ 19) (h : MY I0 I r q 0 (s.2.1 : Nat) s.2.2 S dp) (hq : q ≤ t) (hs : skp T t q = s.1) (hg : GBk t 0 s) (hS : S.length ≤ 401) (hd : 0 ≤ dp ∧ dp ≤ 10)
    (h26 : tkZ T t s.1 = 26 → ∀ I', MY I0 I' r (s.1 + 3) (if dp = 10 then flt 2 s.1 else 0) (s.2.1 : Nat) s.2.2 (9 :: S) (dp + 1) → Q (some (.int 0)) (mm I' J A))
    (h37 : tkZ T t s.1 = 37 → ∀ I', MY I0 I' r (s.1 + 1) (if dp = 10 then flt 2 s.1 else 0) (s.2.1 : Nat) s.2.2 (12 :: S) (dp + 1) → Q (some (.int 0)) (mm I' J A))
    (hc : tkZ T t s.1 ≠ 26 → tkZ T t s.1 ≠ 37 → ∀ I' q' f' c' L', MY I0 I' r q' f' c' L' S dp → PRy t 0 (cmZ T t s) q' f' c' L' → Q (some (.int 1)) (mm I' J A)) : wpC E (d + 9) 207 [.ref 265] (mm I J A) Q := by
  have t4 := hT.1
  have st4 := hg.1
  refine wc (hs := []) 60 (by decide) (And.intro rfl (m_blanks (d := d + 7) (MY_TM hT h) h.1.1 (by omega) ?_))
  have h1 : MY I0 (setI I 265 28 (iZ (skp T t q : Nat))) r (skp T t q) 0 (s.2.1 : Nat) s.2.2 S dp := MY_re h (MX_q h.1)
  rw [hs] at h1
  have e1 : ∃ I1, I1 = setI I 265 28 (iZ (skp T t q : Nat)) := ⟨_, rfl⟩
  rw [hs] at e1
  obtain ⟨I1, e1⟩ := e1
  rw [hs, ← e1]
  rw [← e1] at h1
  have hT1 := MY_TM hT h1
  refine And.intro rfl (m_stands (d := d + 4) (k := 26) (by omega) (by rw [txL_26.1]; omega) hT1 h1.1.1 (by omega) rfl (fun g => ?_) (fun g => ?_))
  · have g := (st_iff (T := T) (by omega) st4).mp g
    have g : tkZ T t s.1 = 26 := g
    refine wF (by decide) (And.intro rfl (m_opens (k := 9) (d := d + 7) h1 hS (Or.inl rfl) hd (by omega) rfl (fun I2 h2 => ?_)))
    have e : (if ((9 : Int) = 9 ∨ (9 : Int) = 12) ∧ dp = 10 then flt 2 s.1 else 0) = (if dp = 10 then flt 2 s.1 else 0) := by
      by_cases w : dp = 10
      · rw [if_pos ⟨Or.inl rfl, w⟩, if_pos w]
      · rw [if_neg (fun y => w y.2), if_neg w]
    rw [e, if_pos (Or.inl rfl)] at h2
    exact And.intro rfl (h26 g _ (MY_re h2 (MX_add (n := 3) h2.1)))
  · have g26 : tkZ T t s.1 ≠ 26 := fun y => by
      rw [(st_iff (T := T) (k := 26) (by omega) st4).mpr y] at g; cases g
    have sr := sgA_rng (p := s.1) hT1
    refine wt rfl (And.intro rfl (m_sign hT1 h1.1.1 (by omega) ?_))
    by_cases w : sgA T t s.1 = 91
    · have g37 := sg37.mp w
      rw [w]
      refine wt rfl (And.intro rfl (m_opens (k := 12) (d := d + 7) h1 hS (by omega) hd (by omega) rfl (fun I2 h2 => ?_)))
      have e : (if ((12 : Int) = 9 ∨ (12 : Int) = 12) ∧ dp = 10 then flt 2 s.1 else 0) = (if dp = 10 then flt 2 s.1 else 0) := by
        by_cases w : dp = 10
        · rw [if_pos ⟨Or.inr rfl, w⟩, if_pos w]
        · rw [if_neg (fun y => w y.2), if_neg w]
      rw [e, if_pos (Or.inr rfl)] at h2
      exact And.intro rfl (h37 g37 _ (MY_re h2 (MX_add (n := 1) h2.1)))
    · have n1 : ¬ iZ (sgA T t s.1) = iZ 91 := by ((try simp (disch := omega) only [z_i8, z_i16, z_of, z_ofN, z_lofN, z_0, z_1, z_m1, z_l0, z_l1, iZ_add, iZ_sub, iZ_mul, iZ_neg, lZ_add, lZ_sub, lZ_mul, lZ_neg, z_div, z_ldiv, z_l, z_i, z_lt, z_le, z_eq, z_llt, z_lle, z_leq, z_cgt, z_cge, z_clt, z_cle, z_ceq, z_cl, z_nat, Int.toNat_natCast, mm_I, mm_J, z_cln, z_abs, z_max, z_min, z_lmax, z_lmin, z_sin, Int.cast_ofNat_Int, uI_I, uI_J, uL_I, uL_J, uA_I, uA_J, sI_eq, sI_ne, sL_eq, sL_ne, up_eq, up_ne, uL_eq, uL_ne, z_toInt, Int.reduceToNat]) <;> omega)
      have g37 : tkZ T t s.1 ≠ 37 := fun y => w (sg37.mpr y)
      have ss : skp T t s.1 = s.1 := by rw [← hs]; exact skp_sk hq
      refine wF n1 (And.intro rfl (m_compared (d := d) hT1 hr (MY_30 h30 h1) (MY_36 h36 h1) h1.1 (by omega) (fun _ => ⟨st4, ss, rfl, rfl, hg⟩) (fun I2 q2 f2 c2 L2 h2 p2 => ?_)))
      exact And.intro rfl (hc g26 g37 I2 q2 f2 c2 L2 (MY_re h1 h2) p2)
/-- answers: it may wait -/
theorem m_ansB {k x : Int} {b : Bool} {x1 : Int32} (hr : r < 6) (h30 : I0 265 30 = iZ r) (h : MY I0 I r q 0 c L ((if b then [k] else []) ++ S) dp) (hS : S.length ≤ 400) (hb : ∀ x ∈ S, -2147483648 ≤ x ∧ x ≤ 2147483647) (hl : b = true → L.length < 300) (hk : (k = 10 ∧ x = 24) ∨ (k = 11 ∧ x = 25)) (hn : S.headD (-1) ≠ k) (ex : x1 = iZ k) (hQ : ∀ I', MY I0 I' r q 0 c (if b then L ++ [x] else L) S dp → Q none (mm I' J A)) : wpC E (d + 2) 206 [.ref 265, .int x1] (mm I J A) Q := by
  subst ex
  cases b with
  | true =>
    refine m_ans1 (d := d + 1) (k := k) (x := x) hr h30 h hS (hl rfl) (Or.inr hk) rfl (fun I2 h2 => ?_)
    rw [if_neg (by omega)] at h2
    have h2 : MY I0 I2 r q 0 c (L ++ [x]) S dp := h2
    exact m_ans0 (d := d + 1) h2 (by omega) hb (by omega) hn rfl (hQ I2 h2)
  | false =>
    exact m_ans0 (d := d + 1) h (show S.length ≤ 401 by omega) hb (by omega) hn rfl (hQ I h)
theorem m_opens2 {k : Int} {x1 : Int32} (h : MY I0 I r q 0 c L S dp) (hS : S.length ≤ 401) (hk : k = 10 ∨ k = 11) (hd : 0 ≤ dp ∧ dp ≤ 10) (hq : q ≤ 500) (ex : x1 = iZ k) (hQ : ∀ I', MY I0 I' r q 0 c L (k :: S) dp → Q none (mm I' J A)) : wpC E (d + 1) 205 [.ref 265, .int x1] (mm I J A) Q := m_opens h hS (by omega) hd hq ex (fun I' h' => by rw [if_neg (by omega), if_neg (by omega)] at h'; exact hQ I' h')
end MTEST2
