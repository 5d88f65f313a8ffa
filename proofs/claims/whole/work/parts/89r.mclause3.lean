/-! ===== the reference reads a clause's head ===== -/
/-- what stands at 183: the head's result and its row -/
def HB (I0 I I' : Nat → Nat → Int32) (T : Nat → Int) (t r i k q' : Nat) (f' c' : Int) (L' : List Int) (R : Except Int hR) : Prop := KS I0 I' r i q' f' c' L' ∧ q' ≤ 500 ∧ (f' ≠ 0 → R = .error f') ∧ (f' = 0 → ∃ h, R = .ok h ∧ q' ≤ t ∧ skp T t q' = h.1.1 ∧ c' = (h.1.2.1 : Nat) ∧ L' = h.1.2.2 ∧ (k < 3 → I' 295 (12 * r + i) = iZ h.2.2.1 ∧ I' 296 (12 * r + i) = iZ h.2.2.2.1) ∧ (k ≠ 4 → I' 297 (12 * r + i) = iZ h.2.2.2.2)) ∧ I' 294 = I 294 ∧ I' 298 = I 298
section MCLAUSE3
variable {E : Nat × (Nat → Int32)} {d : Nat} {I I0 I1 I' : Nat → Nat → Int32} {J : Nat → Nat → Int64} {A : Nat → Option Nat} {Q : Option Value → am_M → Prop} {M : am_M} {T : Nat → Int} {t r q i : Nat} {f c : Int} {L : List Int} {s : pS}
theorem m_cl147 {k : Nat} {x3 x4 : Int32} (hT : TM I0 T t) (hr : r < 6) (hi : i < 12) (hk : k < 4) (h : KS I0 I r i q f c L) (hq : q ≤ 500) (hs : f = 0 → q ≤ t ∧ skp T t q = s.1) (e3 : x3 = iZ k) (e4 : x4 = iZ (12 * r + i : Nat))
    (hQ : ∀ I' q' f' v, KS I0 I' r i q' f' c L → q' ≤ 500 → (f ≠ 0 → f' = f) → (f = 0 → match fgZ T t (if k = 3 then 99 else 9999) s with
      | .ok y => f' = 0 ∧ v = y.2 ∧ q' ≤ t ∧ skp T t q' = y.1.1
      | .error e => f' = e ∧ e ≠ 0) → I' 297 (12 * r + i) = iZ v → (∀ a, 294 ≤ a → a ≤ 300 → a ≠ 297 → I' a = I a) → wp E (d + 11) 211 183 [(0, .ref 265), (4, .int (iZ (12 * r + i : Nat)))] [] (mm I' J A) Q) : wp E (d + 11) 211 147 [(0, .ref 265), (3, .int x3), (4, .int x4)] [] (mm I J A) Q := by
  subst e3; subst e4
  have cl : (iZ ((12 * r + i : Nat) : Int)).toNatClampNeg = 12 * r + i := z_cln (by omega)
  have hin : vp_in (iZ ((12 * r + i : Nat) : Int)) 72 := z_in (by omega) (by omega) (by omega)
  have N : ∀ I2 q2 f2 v, MX I I2 r q2 f2 c L → q2 ≤ 500 → (f ≠ 0 → f2 = f) → (f = 0 → match fgZ T t (if k = 3 then 99 else 9999) s with
      | .ok y => f2 = 0 ∧ v = y.2 ∧ q2 ≤ t ∧ skp T t q2 = y.1.1
      | .error e => f2 = e ∧ e ≠ 0) → wp E (d + 11) 211 183 [(0, .ref 265), (4, .int (iZ (12 * r + i : Nat)))] [] (mm (setI I2 297 (iZ ((12 * r + i : Nat) : Int)).toNatClampNeg (iZ v)) J A) Q := fun I2 q2 f2 v h2 p1 p2 p3 => by
    obtain ⟨k2, e2⟩ := KS_re h h2
    refine hQ _ q2 f2 v (KS_row k2 (by omega) cl) p1 p2 p3 (by rw [setI_at, if_pos ⟨rfl, cl.symm⟩]) (fun a w1 w2 w3 => ?_)
    rw [← e2 a w1 w2]; funext j; rw [setI_at, if_neg (fun y => w3 y.1)]
  have hT1 := KS_TM hT h.2.1
  have hc : k = 0 ∨ k = 1 ∨ k = 2 ∨ k = 3 := by omega
  rcases hc with rfl | rfl | rfl | rfl
  · refine wf (hs := [183]) 60 147 (by decide) (wF (by decide) (wF (by decide) (And.intro rfl (m_amount (d := d + 7) (most := 9999) (s := s) hT1 h.1 hq (by omega) rfl hs (fun I2 q2 f2 v h2 p1 p2 p3 p4 => And.intro hin ?_)))))
    refine wp_keys [0, 4] rfl rfl ?_
    exact N I2 q2 f2 v h2 p1 p3 p4
  · refine wf (hs := [183]) 60 147 (by decide) (wF (by decide) (wF (by decide) (And.intro rfl (m_amount (d := d + 7) (most := 9999) (s := s) hT1 h.1 hq (by omega) rfl hs (fun I2 q2 f2 v h2 p1 p2 p3 p4 => And.intro hin ?_)))))
    refine wp_keys [0, 4] rfl rfl ?_
    exact N I2 q2 f2 v h2 p1 p3 p4
  · refine wf (hs := [183]) 60 147 (by decide) (wF (by decide) (wF (by decide) (And.intro rfl (m_amount (d := d + 7) (most := 9999) (s := s) hT1 h.1 hq (by omega) rfl hs (fun I2 q2 f2 v h2 p1 p2 p3 p4 => And.intro hin ?_)))))
    refine wp_keys [0, 4] rfl rfl ?_
    exact N I2 q2 f2 v h2 p1 p3 p4
  · refine wf (hs := [183]) 60 147 (by decide) (wF (by decide) (wt rfl (And.intro rfl (m_amount (d := d + 7) (most := 99) (s := s) hT1 h.1 hq (by omega) rfl hs (fun I2 q2 f2 v h2 p1 p2 p3 p4 => And.intro hin ?_)))))
    refine wp_keys [0, 4] rfl rfl ?_
    exact N I2 q2 f2 v h2 p1 p3 p4
/-- a sum: pours by a sum -/
theorem m_cl104s {x3 x4 : Int32} (hT : TM I0 T t) (hr : r < 6) (hi : i < 12) (h30 : I0 265 30 = iZ r) (h36 : I0 265 36 = iZ 19) (h : KS I0 I r i q 0 (s.2.1 : Nat) s.2.2) (hq : q ≤ t) (hs : skp T t q = s.1) (hg : GBk t 0 s) (e3 : x3 = iZ (4 : Nat)) (e4 : x4 = iZ (12 * r + i : Nat))
    (hQ : ∀ I' q' f' c' L', HB I0 I I' T t r i 4 q' f' c' L' (bdZ T t 22 s) → wp E (d + 11) 211 183 [(0, .ref 265), (4, .int (iZ (12 * r + i : Nat)))] [] (mm I' J A) Q) : wp E (d + 11) 211 104 [(0, .ref 265), (3, .int x3), (4, .int x4)] [] (mm I J A) Q := by
  subst e3; subst e4
  have t4 := hT.1
  have hT1 := KS_TM hT h.2.1
  refine wf (hs := [183]) 60 104 (by decide) (wt (by decide) (wt rfl (And.intro rfl (m_sum (d := d + 3) hT1 hr (KS_30 h30 h.2.1) (KS_36 h36 h.2.1) h.1 (by omega) (fun _ => ⟨hq, hs, rfl, rfl, hg⟩) (fun I2 q2 f2 c2 L2 h2 p2 => ?_)))))
  refine wp_keys [0, 4] rfl rfl ?_
  obtain ⟨k2, e2⟩ := KS_re h h2
  have p22 := p2.2.2 rfl
  refine hQ I2 q2 f2 c2 L2 ⟨k2, p2.1, fun w => ?_, fun w => ?_, e2 294 (by omega) (by omega), e2 298 (by omega) (by omega)⟩
  · unfold bdZ
    rw [if_pos rfl]
    cases hv : sumZ T t s with
    | error e => rw [hv] at p22; show Except.error e = _; rw [p22.1]
    | ok s2 => rw [hv] at p22; exact absurd p22.1 w
  · unfold bdZ
    rw [if_pos rfl]
    cases hv : sumZ T t s with
    | error e => rw [hv] at p22; exact absurd (p22.1.symm.trans w) p22.2
    | ok s2 =>
      rw [hv] at p22
      obtain ⟨w1, w2, w3, w4, w5⟩ := p22
      exact ⟨_, rfl, w2, by rw [w3]; exact sum_sk hv, w4, w5, fun y => by omega, fun y => absurd rfl y⟩
/-- a hand -/
theorem m_cl104h {x3 x4 : Int32} (hT : TM I0 T t) (hr : r < 6) (hi : i < 12) (h : KS I0 I r i q 0 (s.2.1 : Nat) s.2.2) (hq : q ≤ t) (hs : skp T t q = s.1) (e3 : x3 = iZ (3 : Nat)) (e4 : x4 = iZ (12 * r + i : Nat))
    (hQ : ∀ I' q' f' c' L', HB I0 I I' T t r i 3 q' f' c' L' (bdZ T t 16 s) → wp E (d + 11) 211 183 [(0, .ref 265), (4, .int (iZ (12 * r + i : Nat)))] [] (mm I' J A) Q) : wp E (d + 11) 211 104 [(0, .ref 265), (3, .int x3), (4, .int x4)] [] (mm I J A) Q := by
  subst e3; subst e4
  have t4 := hT.1
  refine wf (hs := [147]) 60 104 (by decide) (wt (by decide) ?_)
  refine wp_keys [0, 3, 4] rfl rfl ?_
  refine m_cl147 (k := 3) (s := s) hT hr hi (by omega) h (by omega) (fun _ => ⟨hq, hs⟩) rfl rfl (fun I2 q2 f2 v h2 p1 p2 p3 p4 p5 => hQ I2 q2 f2 _ _ ⟨h2, p1, fun w => ?_, fun w => ?_, p5 294 (by omega) (by omega) (by omega), p5 298 (by omega) (by omega) (by omega)⟩)
  · have p3 := p3 rfl
    rw [if_pos rfl] at p3
    unfold bdZ
    rw [if_neg (by omega), if_pos rfl]
    cases hv : fgZ T t 99 s with
    | error e => rw [hv] at p3; show Except.error e = _; rw [p3.1]
    | ok y => rw [hv] at p3; exact absurd p3.1 w
  · have p3 := p3 rfl
    rw [if_pos rfl] at p3
    unfold bdZ
    rw [if_neg (by omega), if_pos rfl]
    cases hv : fgZ T t 99 s with
    | error e => rw [hv] at p3; exact absurd (p3.1.symm.trans w) p3.2
    | ok y =>
      rw [hv] at p3
      obtain ⟨w1, w2, w3, w4⟩ := p3
      have y2 : y.1.2 = s.2 := by
        unfold fgZ at hv
        by_cases u1 : tkZ T t s.1 = 39
        · rw [if_pos u1] at hv
          by_cases u2 : 0 ≤ nuZ T t s.1 ∧ nuZ T t s.1 ≤ 99
          · rw [if_pos u2] at hv; cases hv; rfl
          · rw [if_neg u2] at hv; cases hv
        · rw [if_neg u1] at hv; cases hv
      exact ⟨_, rfl, w3, w4, by show _ = ((y.1.2.1 : Nat) : Int); rw [y2], by show _ = y.1.2.2; rw [y2], fun y => by omega, fun _ => by rw [p4, w2]⟩
end MCLAUSE3
