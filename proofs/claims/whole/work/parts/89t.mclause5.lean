/-! ===== the reference reads a clause, whole ===== -/
section HDG
variable {T : Nat → Int} {t : Nat}
theorem gb_stp {s : pS} (pt : s.1 < t) (h : GBk t 0 s) : GBk t 0 (stp1 T t s) := ⟨(nx_b (T := T) pt).2, h.2.1, by
  have := h.2.2
  have := (nx_b (T := T) pt).1
  show 3 * (s.2.2.length : Int) + 0 ≤ 6 * (s.2.1 : Int) + (nxZ T t s.1 : Int)
  omega⟩
theorem pn_gb {s : pS} {y : pS × Int} (h : GBk t 0 s) (hv : pnZ T t s = .ok y) : GBk t 0 y.1 := by
  unfold pnZ at hv
  by_cases w : tkZ T t s.1 ≤ 11
  · rw [if_pos w] at hv; cases hv; exact gb_stp (tk_lt (T := T) (t := t) (p := s.1) (by omega)) h
  · rw [if_neg w] at hv; cases hv
theorem fg_gb {m : Int} {s : pS} {y : pS × Int} (h : GBk t 0 s) (hv : fgZ T t m s = .ok y) : GBk t 0 y.1 := by
  unfold fgZ at hv
  by_cases u1 : tkZ T t s.1 = 39
  · rw [if_pos u1] at hv
    by_cases u2 : 0 ≤ nuZ T t s.1 ∧ nuZ T t s.1 ≤ m
    · rw [if_pos u2] at hv; cases hv; exact gb_stp (tk_lt (T := T) (t := t) (p := s.1) (by omega)) h
    · rw [if_neg u2] at hv; cases hv
  · rw [if_neg u1] at hv; cases hv
theorem bd_gb (hT : ∀ i, i < t → 0 ≤ T i ∧ T i ≤ 255) {v : Int} {s : pS} {h : hR} (hg : GBk t 0 s) (hv : bdZ T t v s = .ok h) : GBk t 0 h.1 ∧ h.2.1 = v := by
  unfold bdZ at hv
  by_cases w1 : v = 22
  · rw [if_pos w1] at hv
    cases h1 : sumZ T t s with
    | error e => rw [h1] at hv; cases hv
    | ok s2 =>
      rw [h1] at hv
      cases hv
      have g := GB_PP hg (sum_ok hT h1)
      exact ⟨⟨g.1, g.2.1, by have := g.2.2; show 3 * (s2.2.2.length : Int) + 0 ≤ 6 * (s2.2.1 : Int) + (s2.1 : Int); omega⟩, rfl⟩
  · rw [if_neg w1] at hv
    by_cases w2 : v = 16
    · rw [if_pos w2] at hv
      cases h1 : fgZ T t 99 s with
      | error e => rw [h1] at hv; cases hv
      | ok s2 => rw [h1] at hv; cases hv; exact ⟨fg_gb hg h1, rfl⟩
    · rw [if_neg w2] at hv
      cases h1 : pnZ T t s with
      | error e => rw [h1] at hv; cases hv
      | ok s2 =>
        rw [h1] at hv
        dsimp only at hv
        by_cases w3 : v = 21
        · rw [if_pos w3] at hv
          cases h2 : pnZ T t s2.1 with
          | error e => rw [h2] at hv; cases hv
          | ok s3 =>
            rw [h2] at hv
            dsimp only at hv
            cases h3 : fgZ T t 9999 s3.1 with
            | error e => rw [h3] at hv; cases hv
            | ok s4 => rw [h3] at hv; cases hv; exact ⟨fg_gb (pn_gb (pn_gb hg h1) h2) h3, rfl⟩
        · rw [if_neg w3] at hv
          cases h3 : fgZ T t 9999 s2.1 with
          | error e => rw [h3] at hv; cases hv
          | ok s4 => rw [h3] at hv; cases hv; exact ⟨fg_gb (pn_gb hg h1) h3, rfl⟩
end HDG
section MCLAUSE5
variable {E : Nat × (Nat → Int32)} {d : Nat} {I I0 I1 I' : Nat → Nat → Int32} {J : Nat → Nat → Int64} {A : Nat → Option Nat} {Q : Option Value → am_M → Prop} {M : am_M} {T : Nat → Int} {t r q i : Nat} {f c : Int} {L : List Int} {s : pS}
/-- from the row's start: k is the verb -/
theorem m_cl74 {k : Nat} {x1 x3 : Int32} (hT : TM I0 T t) (hr : r < 6) (hi : i < 12) (h30 : I0 265 30 = iZ r) (h36 : I0 265 36 = iZ 19) (hk : k < 5) (h : KS I0 I r i q 0 (s.2.1 : Nat) s.2.2) (hq : q ≤ t) (hs : skp T t q = s.1) (hg : GBk t 0 s) (e1 : x1 = iZ i) (e3 : x3 = iZ k)
    (hE : ∀ e I', bdZ T t (cdW (ctx k) : Nat) s = .error e → KE I0 I' r i e → Q none (mm I' J A))
    (hE2 : ∀ h e I', bdZ T t (cdW (ctx k) : Nat) s = .ok h → ttZ T t h.1 = .error e → KE I0 I' r i e → Q none (mm I' J A))
    (hQ : ∀ h s2 q' I', bdZ T t (cdW (ctx k) : Nat) s = .ok h → ttZ T t h.1 = .ok s2 → KS I0 I' r i q' 0 (s2.2.1 : Nat) s2.2.2 → q' ≤ t → skp T t q' = s2.1 → RWi I' (12 * r + i) k h.2.2.1 h.2.2.2.1 h.2.2.2.2 s.2.2.length → I' 299 (12 * r + i) = iZ (h.1.2.2.length : Nat) → I' 300 (12 * r + i) = iZ (s2.2.2.length : Nat) → Q none (mm I' J A)) : wp E (d + 11) 211 74 [(0, .ref 265), (1, .int x1), (3, .int x3)] [] (mm I J A) Q := by
  subst e1; subst e3
  have t4 := hT.1
  have hb := fun i hi => (hT.2.2 i hi).1
  obtain ⟨cd1, cd2, -, -⟩ := ctx_cd k hk
  obtain ⟨x4, hx4⟩ : ∃ x4, x4 = iZ 12 * I 265 30 + iZ i := ⟨_, rfl⟩
  have e4 : x4 = iZ ((12 * r + i : Nat) : Int) := by
    rw [hx4, KS_30 h30 h.2.1, iZ_mul, iZ_add]; congr 1
  have cl : x4.toNatClampNeg = 12 * r + i := by rw [e4]; exact z_cln (by omega)
  have hin : vp_in x4 72 := by rw [e4]; exact z_in (by omega) (by omega) (by omega)
  obtain ⟨I3, hI3⟩ : ∃ I3, I3 = setI I 294 x4.toNatClampNeg (iZ k) := ⟨_, rfl⟩
  obtain ⟨I4, hI4⟩ : ∃ I4, I4 = setI I3 298 x4.toNatClampNeg (I3 265 32) := ⟨_, rfl⟩
  have k3 : KS I0 I3 r i q 0 (s.2.1 : Nat) s.2.2 := by rw [hI3]; exact KS_row h (by omega) cl
  have k4 : KS I0 I4 r i q 0 (s.2.1 : Nat) s.2.2 := by rw [hI4]; exact KS_row k3 (by omega) cl
  have r4 : I4 294 (12 * r + i) = iZ k := by rw [hI4, setI_at, if_neg (by omega), hI3, setI_at, if_pos ⟨rfl, cl.symm⟩]
  have r8 : I4 298 (12 * r + i) = iZ (s.2.2.length : Nat) := by rw [hI4, setI_at, if_pos ⟨rfl, cl.symm⟩]; exact k3.1.2.2.2.1
  have N : ∀ v, v = (cdW (ctx k) : Nat) → ∀ I5 q5 f5 c5 L5, HB I0 I4 I5 T t r i k q5 f5 c5 L5 (bdZ T t v s) → wp E (d + 11) 211 183 [(0, .ref 265), (4, .int (iZ (12 * r + i : Nat)))] [] (mm I5 J A) Q := fun v ev I5 q5 f5 c5 L5 hb5 => by
    subst ev
    obtain ⟨a1, a2, a3, a4, a5, a6⟩ := hb5
    by_cases f0 : f5 = 0
    · subst f0
      obtain ⟨hh, b1, b2, b3, b4, b5, b6, b7⟩ := a4 rfl
      refine m_cl183 (d := d) (s := hh.1) (s0 := s) (h1 := s) (B := True) hT hr hi h30 h36 a1 a2 rfl (fun _ => ⟨b2, b3, b4, b5, (bd_gb hb hg b1).1⟩) (fun w => absurd rfl w) (fun _ e I6 hv hke => hE2 hh e I6 b1 hv hke) (fun _ s2 q6 I6 hv k6 o1 o2 o3 o4 o5 => hQ hh s2 q6 I6 b1 hv k6 o1 o2 ⟨?_, fun w => ⟨?_, ?_⟩, fun w => ?_, ?_⟩ o3 o4)
      · rw [o5 294 (by omega) (by omega), a5]; exact r4
      · rw [o5 295 (by omega) (by omega)]; exact (b6 w).1
      · rw [o5 296 (by omega) (by omega)]; exact (b6 w).2
      · rw [o5 297 (by omega) (by omega)]; exact b7 w
      · rw [o5 298 (by omega) (by omega), a6]; exact r8
    · exact m_cl183 (d := d) (s := s) (s0 := s) (h1 := s) (B := True) hT hr hi h30 h36 a1 a2 rfl (fun w => absurd w f0) (fun _ I6 hke => hE f5 I6 (a3 f0) hke) (fun w => absurd w f0) (fun w => absurd w f0)
  have N2 : wp E (d + 11) 211 104 [(0, .ref 265), (3, .int (iZ k)), (4, .int x4)] [] (mm I4 J A) Q := by
    by_cases w3 : k < 3
    · exact m_cl104l (d := d) hT hr hi h36 w3 k4 hq hs rfl e4 (N _ (by rw [cd1, if_neg (by omega), if_neg (by omega)]))
    · by_cases w4 : k = 3
      · subst w4
        exact m_cl104h (d := d) hT hr hi k4 hq hs rfl e4 (N 16 (by rw [cd1]; rfl))
      · have w5 : k = 4 := by omega
        subst w5
        exact m_cl104s (d := d) hT hr hi h30 h36 k4 hq hs hg rfl e4 (N 22 (by rw [cd1]; rfl))
  rw [hI4, hI3, hx4] at N2
  rw [hx4] at hin
  refine wf (hs := [104]) 60 74 (by decide) (And.intro hin (And.intro hin ?_))
  refine wp_keys [0, 3, 4] rfl rfl ?_
  exact N2
end MCLAUSE5
