/-! ===== the reference reads a clause ===== -/
def MFc (r i : Nat) (I0 I : Nat → Nat → Int32) : Prop := (∀ a, a ≠ 265 → a ≠ 291 → a ≠ 292 → (a < 294 ∨ 301 < a) → I a = I0 a) ∧ (∀ j, j ≠ 28 → j ≠ 29 → j ≠ 32 → j ≠ 33 → j ≠ 34 → j ≠ 35 → I 265 j = I0 265 j) ∧ (∀ j, j < 300 * r → I 291 j = I0 291 j ∧ I 292 j = I0 292 j) ∧ (∀ a j, 294 ≤ a → a ≤ 300 → j ≠ 12 * r + i → I a j = I0 a j)
def KS (I0 I : Nat → Nat → Int32) (r i q : Nat) (f c : Int) (L : List Int) : Prop := MX I I r q f c L ∧ MFc r i I0 I ∧ I 265 33 = iZ 0
def KE (I0 I : Nat → Nat → Int32) (r i : Nat) (e : Int) : Prop := I 265 29 = iZ e ∧ (0 < e ∧ e ≤ 1000000) ∧ (∃ q, q ≤ 600 ∧ I 265 28 = iZ (q : Nat)) ∧ MFc r i I0 I
def RWi (I : Nat → Nat → Int32) (n k : Nat) (a b m : Int) (l : Nat) : Prop := I 294 n = iZ k ∧ (k < 3 → I 295 n = iZ a ∧ I 296 n = iZ b) ∧ (k ≠ 4 → I 297 n = iZ m) ∧ I 298 n = iZ l
theorem RWi_eq {I I' : Nat → Nat → Int32} {n k l : Nat} {a b m : Int} (h : RWi I n k a b m l) (e : ∀ x, 294 ≤ x → x ≤ 298 → I' x n = I x n) : RWi I' n k a b m l := by
  obtain ⟨h1, h2, h3, h4⟩ := h
  exact ⟨by rw [e 294 (by omega) (by omega)]; exact h1, fun w => by rw [e 295 (by omega) (by omega), e 296 (by omega) (by omega)]; exact h2 w, fun w => by rw [e 297 (by omega) (by omega)]; exact h3 w, by rw [e 298 (by omega) (by omega)]; exact h4⟩
theorem ts_sk {T : Nat → Int} {t : Nat} {fc : pS → pR} (hf : ∀ s s', fc s = .ok s' → skp T t s'.1 = s'.1) : ∀ (n : Nat) (a o : Bool) (s s' : pS), tsL T t fc n a o s = .ok s' → skp T t s'.1 = s'.1 := by
  intro n
  induction n with
  | zero => intro a o s s' h; cases h
  | succ n ih =>
    intro a o s s' h
    unfold tsL at h
    obtain ⟨s1, h1, h2⟩ := bnd_ok h
    have e1 := hf _ _ h1
    by_cases w1 : tkZ T t s1.1 = 24
    · rw [if_pos w1] at h2; exact ih _ _ _ _ h2
    · rw [if_neg w1] at h2
      by_cases w2 : tkZ T t s1.1 = 25
      · rw [if_pos w2] at h2; exact ih _ _ _ _ h2
      · rw [if_neg w2] at h2
        cases h2
        rw [apB_1, apB_1]; exact e1
theorem fc_sk {T : Nat → Int} {t : Nat} : ∀ (k : Nat) (s s' : pS), fcZ T t k s = .ok s' → skp T t s'.1 = s'.1 := by
  intro k
  induction k with
  | zero =>
    intro s s' h
    unfold fcZ at h
    by_cases q : tkZ T t s.1 = 26 ∨ tkZ T t s.1 = 37
    · rw [if_pos q] at h; cases h
    · rw [if_neg q] at h; exact cm_sk h
  | succ k ih =>
    intro s s' h
    unfold fcZ at h
    by_cases q : tkZ T t s.1 = 26
    · rw [if_pos q] at h
      obtain ⟨s1, h1, h2⟩ := bnd_ok h
      have e1 := ih _ _ h1
      cases h2
      exact e1
    · rw [if_neg q] at h
      by_cases q2 : tkZ T t s.1 = 37
      · rw [if_pos q2] at h
        obtain ⟨s1, h1, h2⟩ := bnd_ok h
        by_cases q3 : tkZ T t s1.1 = 38
        · rw [if_pos q3] at h2
          cases h2
          exact nx_sk (tk_lt (T := T) (t := t) (p := s1.1) (by omega))
        · rw [if_neg q3] at h2; cases h2
      · rw [if_neg q2] at h; exact cm_sk h
section MCLAUSE2
variable {E : Nat × (Nat → Int32)} {d : Nat} {I I0 I1 I' : Nat → Nat → Int32} {J : Nat → Nat → Int64} {A : Nat → Option Nat} {Q : Option Value → am_M → Prop} {M : am_M} {T : Nat → Int} {t r q i : Nat} {f c : Int} {L : List Int} {s : pS}
theorem MFc_r (h : MFc r i I0 I) (h' : MFr r I I') : MFc r i I0 I' := ⟨fun a q1 q2 q3 q4 => (h'.1 a q1 q2 q3).trans (h.1 a q1 q2 q3 q4), fun j q1 q2 q3 q4 q5 q6 => (h'.2.1 j q1 q2 q3 q5).trans (h.2.1 j q1 q2 q3 q4 q5 q6), fun j hj => ⟨(h'.2.2 j hj).1.trans (h.2.2.1 j hj).1, (h'.2.2 j hj).2.trans (h.2.2.1 j hj).2⟩, fun a j q1 q2 q3 => by rw [h'.1 a (by omega) (by omega) (by omega)]; exact h.2.2.2 a j q1 q2 q3⟩
theorem MFc_t (h : MFc r i I0 I) (h' : MFt r I I') : MFc r i I0 I' := ⟨fun a q1 q2 q3 q4 => (h'.1 a q1 q2 q3 (by omega)).trans (h.1 a q1 q2 q3 q4), fun j q1 q2 q3 q4 q5 q6 => (h'.2.1 j q1 q2 q3 q4 q5 q6).trans (h.2.1 j q1 q2 q3 q4 q5 q6), fun j hj => ⟨(h'.2.2 j hj).1.trans (h.2.2.1 j hj).1, (h'.2.2 j hj).2.trans (h.2.2.1 j hj).2⟩, fun a j q1 q2 q3 => by rw [h'.1 a (by omega) (by omega) (by omega) (by omega)]; exact h.2.2.2 a j q1 q2 q3⟩
theorem KS_TM (hT : TM I0 T t) (h : MFc r i I0 I) : TM I T t := ⟨hT.1, by rw [h.2.1 27 (by omega) (by omega) (by omega) (by omega) (by omega) (by omega)]; exact hT.2.1, fun i hi => ⟨(hT.2.2 i hi).1, by rw [h.1 290 (by omega) (by omega) (by omega) (by omega)]; exact (hT.2.2 i hi).2⟩⟩
theorem KS_30 (h30 : I0 265 30 = iZ r) (h : MFc r i I0 I) : I 265 30 = iZ r := by rw [h.2.1 30 (by omega) (by omega) (by omega) (by omega) (by omega) (by omega)]; exact h30
theorem KS_36 (h36 : I0 265 36 = iZ 19) (h : MFc r i I0 I) : I 265 36 = iZ 19 := by rw [h.2.1 36 (by omega) (by omega) (by omega) (by omega) (by omega) (by omega)]; exact h36
theorem KS_re {q' : Nat} {f' c' : Int} {L' : List Int} (h : KS I0 I r i q f c L) (h' : MX I I' r q' f' c' L') : KS I0 I' r i q' f' c' L' ∧ ∀ a, 294 ≤ a → a ≤ 300 → I' a = I a := by
  have fr := h'.2.2.2.2.2.1
  exact ⟨⟨MX_self h', MFc_r h.2.1 fr, by rw [fr.2.1 33 (by omega) (by omega) (by omega) (by omega)]; exact h.2.2⟩, fun a q1 q2 => fr.1 a (by omega) (by omega) (by omega)⟩
theorem KS_row {a n : Nat} {x : Int32} (h : KS I0 I r i q f c L) (ha : 294 ≤ a ∧ a ≤ 300) (hn : n = 12 * r + i) : KS I0 (setI I a n x) r i q f c L := by
  obtain ⟨⟨h1, h2, h3, h4, h5, -, h6⟩, h7, h8⟩ := h
  have at1 : ∀ b j, b ≠ a → setI I a n x b j = I b j := fun b j w => by rw [setI_at, if_neg (fun y => w y.1)]
  refine ⟨⟨by rw [at1 265 28 (by omega)]; exact h1, by rw [at1 265 29 (by omega)]; exact h2, by rw [at1 265 34 (by omega)]; exact h3, by rw [at1 265 32 (by omega)]; exact h4, fun k hk => ?_, ⟨fun _ _ _ _ => rfl, fun _ _ _ _ _ => rfl, fun _ _ => ⟨rfl, rfl⟩⟩, h6⟩, ⟨fun b q1 q2 q3 q4 => ?_, fun j q1 q2 q3 q4 q5 q6 => by rw [at1 265 j (by omega)]; exact h7.2.1 j q1 q2 q3 q4 q5 q6, fun j hj => by rw [at1 291 j (by omega), at1 292 j (by omega)]; exact h7.2.2.1 j hj, fun b j q1 q2 q3 => by rw [setI_at, if_neg (by omega)]; exact h7.2.2.2 b j q1 q2 q3⟩, by rw [at1 265 33 (by omega)]; exact h8⟩
  · unfold vI; rw [at1 291 _ (by omega), at1 292 _ (by omega)]; exact h5 k hk
  · rw [← h7.1 b q1 q2 q3 q4]; funext j; exact at1 b j (by omega)
theorem KS_err (h : KS I0 I r i q f c L) (hq : q ≤ 600) (hf : f ≠ 0) : KE I0 I r i f := ⟨h.1.2.1, by have := h.1.2.2.2.2.2.2; omega, ⟨q, hq, h.1.1⟩, h.2.1⟩
theorem KE_row {a n : Nat} {e : Int} {x : Int32} (h : KE I0 I r i e) (ha : 294 ≤ a ∧ a ≤ 300) (hn : n = 12 * r + i) : KE I0 (setI I a n x) r i e := by
  obtain ⟨h1, h2, ⟨q, h3, h4⟩, h7⟩ := h
  have at1 : ∀ b j, b ≠ a → setI I a n x b j = I b j := fun b j w => by rw [setI_at, if_neg (fun y => w y.1)]
  refine ⟨by rw [at1 265 29 (by omega)]; exact h1, h2, ⟨q, h3, by rw [at1 265 28 (by omega)]; exact h4⟩, ⟨fun b q1 q2 q3 q4 => ?_, fun j q1 q2 q3 q4 q5 q6 => by rw [at1 265 j (by omega)]; exact h7.2.1 j q1 q2 q3 q4 q5 q6, fun j hj => by rw [at1 291 j (by omega), at1 292 j (by omega)]; exact h7.2.2.1 j hj, fun b j q1 q2 q3 => by rw [setI_at, if_neg (by omega)]; exact h7.2.2.2 b j q1 q2 q3⟩⟩
  rw [← h7.1 b q1 q2 q3 q4]; funext j; exact at1 b j (by omega)
theorem m_cl215 {x4 : Int32} (hr : r < 6) (hi : i < 12) (h : KS I0 I r i q f c L) (e4 : x4 = iZ (12 * r + i : Nat)) (hQ : ∀ I', KS I0 I' r i q f c L → I' 300 (12 * r + i) = iZ (L.length : Nat) → (∀ a, 294 ≤ a → a ≤ 299 → I' a = I a) → Q none (mm I' J A)) : wp E d 211 215 [(0, .ref 265), (4, .int x4)] [] (mm I J A) Q := by
  subst e4
  have cl : (iZ ((12 * r + i : Nat) : Int)).toNatClampNeg = 12 * r + i := z_cln (by omega)
  have hin : vp_in (iZ ((12 * r + i : Nat) : Int)) 72 := z_in (by omega) (by omega) (by omega)
  have H := hQ (setI I 300 (iZ ((12 * r + i : Nat) : Int)).toNatClampNeg (I 265 32)) (KS_row h (by omega) cl) (by rw [setI_at, if_pos ⟨rfl, cl.symm⟩]; exact h.1.2.2.2.1) (fun a q1 q2 => by funext j; rw [setI_at, if_neg (by omega)])
  exact wf (hs := []) 30 215 (by decide) (And.intro hin H)
theorem m_cl183 {x4 : Int32} {s0 h1 : pS} {B : Prop} (hT : TM I0 T t) (hr : r < 6) (hi : i < 12) (h30 : I0 265 30 = iZ r) (h36 : I0 265 36 = iZ 19) (h : KS I0 I r i q f c L) (hq : q ≤ 500) (e4 : x4 = iZ (12 * r + i : Nat)) (hs : f = 0 → q ≤ t ∧ skp T t q = s.1 ∧ c = (s.2.1 : Nat) ∧ L = s.2.2 ∧ GBk t 0 s)
    (hE : f ≠ 0 → ∀ I', KE I0 I' r i f → Q none (mm I' J A))
    (hE2 : f = 0 → ∀ e I', ttZ T t s = .error e → KE I0 I' r i e → Q none (mm I' J A))
    (hQ : f = 0 → ∀ s2 q' I', ttZ T t s = .ok s2 → KS I0 I' r i q' 0 (s2.2.1 : Nat) s2.2.2 → q' ≤ t → skp T t q' = s2.1 → I' 299 (12 * r + i) = iZ (s.2.2.length : Nat) → I' 300 (12 * r + i) = iZ (s2.2.2.length : Nat) → (∀ a, 294 ≤ a → a ≤ 298 → I' a = I a) → Q none (mm I' J A)) : wp E (d + 11) 211 183 [(0, .ref 265), (4, .int x4)] [] (mm I J A) Q := by
  subst e4
  have t4 := hT.1
  have cl : (iZ ((12 * r + i : Nat) : Int)).toNatClampNeg = 12 * r + i := z_cln (by omega)
  have hin : vp_in (iZ ((12 * r + i : Nat) : Int)) 72 := z_in (by omega) (by omega) (by omega)
  obtain ⟨I2, hI2⟩ : ∃ I2, I2 = setI I 299 (iZ ((12 * r + i : Nat) : Int)).toNatClampNeg (I 265 32) := ⟨_, rfl⟩
  have h2 : KS I0 I2 r i q f c L := by rw [hI2]; exact KS_row h (by omega) cl
  have r2 : I2 299 (12 * r + i) = iZ (L.length : Nat) := by rw [hI2, setI_at, if_pos ⟨rfl, cl.symm⟩]; exact h.1.2.2.2.1
  have f2 : ∀ a, 294 ≤ a → a ≤ 298 → I2 a = I a := fun a q1 q2 => by rw [hI2]; funext j; rw [setI_at, if_neg (by omega)]
  suffices N : wp E (d + 11) 211 194 [(0, .ref 265), (4, .int (iZ ((12 * r + i : Nat) : Int)))] [] (mm I2 J A) Q by
    rw [hI2] at N
    exact wf (hs := [194]) 30 183 (by decide) (And.intro hin N)
  by_cases f0 : f = 0
  · subst f0
    obtain ⟨s1, s2, s3, s4, s5⟩ := hs rfl
    subst s3; subst s4
    have c0 : I2 265 29 = 0 := h2.1.2.1
    have hT2 := KS_TM hT h2.2.1
    refine wf (hs := [215]) 60 194 (by decide) (wt c0 (And.intro rfl (m_takes (d := d + 5) hT2 h2.1 s1 s2 rfl (fun I3 tk h3 q3 k3 => wF (by decide) ?_) (fun I3 tk h3 => wt rfl ?_))))
    · have tt : ttZ T t s = tsZ T t 10 (stp1 T t s) := by unfold ttZ; rw [if_pos tk]
      rw [tt] at hE2 hQ
      obtain ⟨h3a, h3b⟩ := KS_re h2 h3
      have pt := tk_lt (T := T) (t := t) (p := s.1) (by omega)
      have nb := nx_b (T := T) pt
      have gs : GBk t 0 (stp1 T t s) := ⟨nb.2, s5.2.1, by
        have := s5.2.2
        show 3 * (s.2.2.length : Int) + 0 ≤ 6 * (s.2.1 : Int) + (nxZ T t s.1 : Int)
        omega⟩
      refine And.intro rfl (m_test (d := d) (s := stp1 T t s) (KS_TM hT h3a.2.1) hr (KS_30 h30 h3a.2.1) (KS_36 h36 h3a.2.1) h3a.1 h3a.2.2 q3 k3 gs (fun s' I4 hv h4 st => ?_) (fun e I4 hv h4 => ?_))
      · refine wp_keys [0, 4] rfl rfl ?_
        have k4 : KS I0 I4 r i s'.1 0 (s'.2.1 : Nat) s'.2.2 := ⟨h4.1, MFc_t h3a.2.1 h4.2.2.2.2, h4.2.2.1⟩
        refine m_cl215 hr hi k4 rfl (fun I5 h5 r5 f5 => hQ rfl s' s'.1 I5 hv h5 st ?_ ?_ r5 (fun a q1 q2 => ?_))
        · exact ts_sk (fc_sk 10) 401 false false _ _ hv
        · rw [f5 299 (by omega) (by omega), h4.2.2.2.2.1 299 (by omega) (by omega) (by omega) (by omega), h3b 299 (by omega) (by omega)]; exact r2
        · rw [f5 a (by omega) (by omega), h4.2.2.2.2.1 a (by omega) (by omega) (by omega) (by omega), h3b a (by omega) (by omega)]; exact f2 a q1 q2
      · refine wp_keys [0, 4] rfl rfl ?_
        obtain ⟨w1, w2, w3, w4⟩ := h4
        have ke := KE_row (a := 300) (x := I4 265 32) ⟨w1, w2, w3, MFc_t h3a.2.1 w4⟩ (by omega) cl
        exact wf (hs := []) 30 215 (by decide) (And.intro hin (hE2 rfl e _ hv ke))
    · have tt : ttZ T t s = .ok s := by unfold ttZ; rw [if_neg tk]
      obtain ⟨h3a, h3b⟩ := KS_re h2 h3
      refine wp_keys [0, 4] rfl rfl ?_
      refine m_cl215 hr hi h3a rfl (fun I5 h5 r5 f5 => hQ rfl s s.1 I5 tt h5 s5.1 ?_ ?_ r5 (fun a q1 q2 => ?_))
      · rw [← s2]; exact skp_sk s1
      · rw [f5 299 (by omega) (by omega), h3b 299 (by omega) (by omega)]; exact r2
      · rw [f5 a (by omega) (by omega), h3b a (by omega) (by omega)]; exact f2 a q1 q2
  · refine wf (hs := [215]) 60 194 (by decide) (wF (f_ne h2.1 f0) ?_)
    exact m_cl215 hr hi h2 rfl (fun I5 h5 r5 f5 => hE f0 I5 (KS_err h5 (by omega) f0))
end MCLAUSE2
