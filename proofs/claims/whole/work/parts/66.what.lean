/-! ===== what would be: the reference with her laid aside, the class with her kept ===== -/
def LF (I : Nat → Nat → Int32) (J : Nat → Nat → Int64) (I' : Nat → Nat → Int32) (J' : Nat → Nat → Int64) : Prop := (∀ b, (b < 266 ∨ 289 < b) → b ≠ 304 → b ≠ 265 → b ≠ 306 → I' b = I b) ∧ (∀ j, j ≠ 53 → j ≠ 54 → I' 265 j = I 265 j) ∧ (∀ k, k < 4 → imV I' k = imV I k) ∧ JF J J'
theorem LF_refl {I : Nat → Nat → Int32} {J : Nat → Nat → Int64} : LF I J I J := ⟨fun _ _ _ _ _ => rfl, fun _ _ _ => rfl, fun _ _ => rfl, JF_refl⟩
theorem LF_trans {I I' I'' : Nat → Nat → Int32} {J J' J'' : Nat → Nat → Int64} (h : LF I J I' J') (h' : LF I' J' I'' J'') : LF I J I'' J'' := ⟨fun b h1 h2 h3 h4 => (h'.1 b h1 h2 h3 h4).trans (h.1 b h1 h2 h3 h4), fun j h1 h2 => (h'.2.1 j h1 h2).trans (h.2.1 j h1 h2), fun k hk => (h'.2.2.1 k hk).trans (h.2.2.1 k hk), JF_trans h.2.2.2 h'.2.2.2⟩
theorem LF_M0 {I I' : Nat → Nat → Int32} {J J' : Nat → Nat → Int64} (h : LF I J I' J') (m0 : M0 I J) : M0 I' J' := by
  unfold M0 vI vJ at m0 ⊢
  rw [h.2.1 25 (by omega) (by omega), h.2.2.2 265 (by omega) (by omega)]
  exact m0
theorem LF_MG {I I' : Nat → Nat → Int32} {J J' : Nat → Nat → Int64} {r : Nat} {g : Nat → Nat → Int} (h : LF I J I' J') (m : MG I r g) : MG I' r g := MG_eq m (fun a q1 q2 => h.1 a (by omega) (by omega) (by omega) (by omega))
/-- the reference while it tries: v is laid aside, w is what she is now -/
def MSt (I0 : Nat → Nat → Int32) (J0 : Nat → Nat → Int64) (A : Nat → Option Nat) (v : am_V) (I : Nat → Nat → Int32) (J : Nat → Nat → Int64) (w : am_V) : Prop := LF I0 J0 I J ∧ ZO (mm I J A) ∧ imV I 4 = v ∧ vC I = w ∧ Wf w ∧ WfH w
/-- the class while it tries: ship b, v kept in the row, w is what she is now -/
def F3 (b : Nat) (I : Nat → Nat → Int32) (J : Nat → Nat → Int64) (I' : Nat → Nat → Int32) (J' : Nat → Nat → Int64) : Prop := ∀ a, (a < b ∨ b + 33 ≤ a) → (a < 223 ∨ 265 ≤ a) → I' a = I a ∧ J' a = J a
theorem F3_refl {b : Nat} {I : Nat → Nat → Int32} {J : Nat → Nat → Int64} : F3 b I J I J := fun _ _ _ => ⟨rfl, rfl⟩
theorem F3_trans {b : Nat} {I I' I'' : Nat → Nat → Int32} {J J' J'' : Nat → Nat → Int64} (h : F3 b I J I' J') (h' : F3 b I' J' I'' J'') : F3 b I J I'' J'' := fun a ha hb => ⟨(h' a ha hb).1.trans (h a ha hb).1, (h' a ha hb).2.trans (h a ha hb).2⟩
def CSt (I0 : Nat → Nat → Int32) (J0 : Nat → Nat → Int64) (b : Nat) (v : am_V) (I : Nat → Nat → Int32) (J : Nat → Nat → Int64) (w : am_V) : Prop := F3 b I0 J0 I J ∧ KP I 264 0 v ∧ RS I J b w ∧ SS v w ∧ Wf w ∧ WfH w
theorem KP_eq {I I' : Nat → Nat → Int32} {r f : Nat} {v : am_V} (h : I' r = I r) (k : KP I r f v) : KP I' r f v := by
  unfold KP at k ⊢
  rw [h]; exact k
theorem Ge_F3 {b r : Nat} {I I' : Nat → Nat → Int32} {J J' : Nat → Nat → Int64} (hb : B5 b) (hr : r < 6) (h : F3 b I J I' J') : Ge (plV I (168 + 9 * r)) (plV I' (168 + 9 * r)) := plV_cells hr (fun a q1 q2 => (h a (by unfold B5 at hb; omega) (by omega)).1)
section WHAT
variable {E : Nat × (Nat → Int32)} {d : Nat} {I I0 I1 : Nat → Nat → Int32} {J J0 J1 : Nat → Nat → Int64} {A A1 : Nat → Option Nat} {Q : Option Value → am_M → Prop} {M : am_M} {v w : am_V} {b : Nat}
theorem ms_lay {x : Int32} (hz : ZO (mm I J A)) (hW : Wf (vC I)) (hH : WfH (vC I)) (ex : x = iZ (4 : Nat)) (hQ : ∀ I', MSt I J A (vC I) I' J (vC I) → Q none (mm I' J A)) : wpC E (d + 1) 227 [.ref 265, .int x, .int 0] (mm I J A) Q := by
  refine wpC_mono (wpC_zo hz (m_carriesF (k := 4) (Q := fun r M => r = none ∧ ∃ I', M = mm I' J A ∧ LF I J I' J ∧ imV I' 4 = vC I ∧ vC I' = vC I) (by omega) ex hz (fun I' i1 i2 i3 i4 => ⟨rfl, I', rfl, ⟨fun b q1 q2 q3 _ => i3 b q2 q3, i4, fun k hk => i2 k (by omega) (by omega), JF_refl⟩, i1, vC_eq (fun a q1 q2 => i3 a (by omega) (by omega))⟩))) (fun r M hh => ?_)
  obtain ⟨⟨rfl, I', rfl, h1, h2, h3⟩, h4⟩ := hh
  exact hQ I' ⟨h1, h4, h2, h3, hW, hH⟩
theorem ms_back {x : Int32} (h : MSt I0 J0 A v I J w) (hW : Wf v) (hH : WfH v) (ex : x = iZ (4 : Nat)) (hQ : ∀ I', MSt I0 J0 A v I' J v → Q none (mm I' J A)) : wpC E (d + 1) 227 [.ref 265, .int x, .int 1] (mm I J A) Q := by
  obtain ⟨f, hz, e4, ev, -, -⟩ := h
  refine wpC_mono (wpC_zo hz (m_carriesB (k := 4) (Q := fun r M => r = none ∧ ∃ I', M = mm I' J A ∧ LF I J I' J ∧ imV I' 4 = imV I 4 ∧ vC I' = imV I 4) (by omega) ex hz (fun I' i1 i3 i4 => ⟨rfl, I', rfl, ⟨fun b q1 q2 q3 _ => i3 b q1 q3, i4, fun k hk => imV_eq (i3 304 (by omega) (by omega)), JF_refl⟩, imV_eq (i3 304 (by omega) (by omega)), i1⟩))) (fun r M hh => ?_)
  obtain ⟨⟨rfl, I', rfl, h1, h2, h3⟩, h4⟩ := hh
  exact hQ I' ⟨LF_trans f h1, h4, h2.trans e4, h3.trans e4, hW, hH⟩
theorem ms_img {x : Int32} {k : Nat} (h : MSt I0 J0 A v I J w) (hk : k < 4) (hW : Wf (imV I0 k)) (hH : WfH (imV I0 k)) (ex : x = iZ k) (hQ : ∀ I', MSt I0 J0 A v I' J (imV I0 k) → Q none (mm I' J A)) : wpC E (d + 1) 227 [.ref 265, .int x, .int 1] (mm I J A) Q := by
  obtain ⟨f, hz, e4, ev, -, -⟩ := h
  refine wpC_mono (wpC_zo hz (m_carriesB (k := k) (Q := fun r M => r = none ∧ ∃ I', M = mm I' J A ∧ LF I J I' J ∧ imV I' 4 = imV I 4 ∧ vC I' = imV I k) (by omega) ex hz (fun I' i1 i3 i4 => ⟨rfl, I', rfl, ⟨fun b q1 q2 q3 _ => i3 b q1 q3, i4, fun k hk => imV_eq (i3 304 (by omega) (by omega)), JF_refl⟩, imV_eq (i3 304 (by omega) (by omega)), i1⟩))) (fun r M hh => ?_)
  obtain ⟨⟨rfl, I', rfl, h1, h2, h3⟩, h4⟩ := hh
  exact hQ I' ⟨LF_trans f h1, h4, h2.trans e4, h3.trans (f.2.2.1 k hk), hW, hH⟩
theorem ms_cell {I' : Nat → Nat → Int32} {J' : Nat → Nat → Int64} (h : MSt I0 J0 A v I J w) (hz : ZO (mm I' J' A)) (c : ∀ a, (a < 266 ∨ 289 < a) → a ≠ 306 → I' a = I a) (hJ : JF J J') {w' : am_V} (e : vC I' = w') (hW : Wf w') (hH : WfH w') : MSt I0 J0 A v I' J' w' := by
  obtain ⟨f, -, e4, -, -, -⟩ := h
  exact ⟨LF_trans f ⟨fun b q1 q2 q3 q4 => c b q1 q4, fun j q1 q2 => by rw [c 265 (by omega) (by omega)], fun k hk => imV_eq (c 304 (by omega) (by omega)), hJ⟩, hz, (imV_eq (c 304 (by omega) (by omega))).trans e4, e, hW, hH⟩
theorem ms_go {r : Nat} {g : Nat → Nat → Int} {x : Int32} (h : MSt I0 J0 A v I J w) (m0 : M0 I0 J0) (hr : r < 6) (hg : WfG g) (hm : MG I0 r g) (h8 : w 266 8 < 99999) (ex : x = iZ r) (hQ : ∀ I' J', MSt I0 J0 A v I' J' (rndZ g w) → Q none (mm I' J' A)) : wpC E (d + 6) 223 [.ref 265, .int x] (mm I J A) Q := by
  have hz := h.2.1
  have ev := h.2.2.2.1
  have hW := h.2.2.2.2.1
  have hH := h.2.2.2.2.2
  have w2 := Wf_rnd hW hH hg h8
  subst ev
  refine wpC_mono (wpC_zo hz (m_goesBy (Q := fun r M => r = none ∧ ∃ I' J', M = mm I' J' A ∧ vI I' = rndZ g (vI I) ∧ JF J J') hW hH (LF_M0 h.1 m0) hr hg (LF_MG h.1 hm) h8 ex (fun I' J' e hJ => ⟨rfl, I', J', rfl, e, hJ⟩))) (fun r M hh => ?_)
  obtain ⟨⟨rfl, I', J', rfl, e, hJ⟩, hz'⟩ := hh
  refine hQ I' J' (ms_cell h hz' (fun a ha _ => vI_cell (fun k => by rw [e, rnd_ne (by omega) (by omega) (by omega)])) hJ ?_ w2.1 w2.2)
  show cutV (vI I') = _
  rw [e, ← rnd_cut]; rfl
theorem ms_goesOn {r n : Nat} {g : Nat → Nat → Int} {x y : Int32} (h : MSt I0 J0 A v I J w) (m0 : M0 I0 J0) (hr : r < 6) (hg : WfG g) (hm : MG I0 r g) (hn : n ≤ 1000) (h8 : w 266 8 + n ≤ 99999) (ex : x = iZ r) (ey : y = iZ n) (hQ : ∀ I' J', MSt I0 J0 A v I' J' (rnN g n w) → Q none (mm I' J' A)) : wpC E (d + 7) 224 [.ref 265, .int x, .int y] (mm I J A) Q := by
  have hz := h.2.1
  have ev := h.2.2.2.1
  have hW := h.2.2.2.2.1
  have hH := h.2.2.2.2.2
  have w2 := rnN_ok hg n w hW hH h8
  subst ev
  refine wpC_mono (wpC_zo hz (m_goesOn (Q := fun r M => r = none ∧ ∃ I' J', M = mm I' J' A ∧ vI I' = rnN g n (vI I) ∧ JF J J') hW hH (LF_M0 h.1 m0) hr hg (LF_MG h.1 hm) hn h8 ex ey (fun I' J' e hJ => ⟨rfl, I', J', rfl, e, hJ⟩))) (fun r M hh => ?_)
  obtain ⟨⟨rfl, I', J', rfl, e, hJ⟩, hz'⟩ := hh
  refine hQ I' J' (ms_cell h hz' (fun a ha _ => vI_cell (fun k => by rw [e]; exact rnN_ne (by omega) (by omega) (by omega) _ _)) hJ ?_ w2.1 w2.2)
  show cutV (vI I') = _
  rw [e, ← rnN_cut]; rfl
theorem ms_over (h : MSt I0 J0 A v I J w) (h1 : w 266 7 = 60 ∨ w 266 7 = -60 → Q (some (.int 1)) (mm I J A)) (h0 : ¬ (w 266 7 = 60 ∨ w 266 7 = -60) → Q (some (.int 0)) (mm I J A)) : wpC E (d + 1) 173 [.ref 265] (mm I J A) Q := by
  have ev := h.2.2.2.1
  subst ev
  have hW : Wf (vI I) := h.2.2.2.2.1
  exact m_isOver hW.1 h1 h0
theorem Wf_porH {p : Nat} {n : Int} (hW : Wf w) (hH : WfH w) (hp : p < nP w) : Wf (porZ w p n) ∧ WfH (porZ w p n) := by
  have c := (capB (hW.2.2.1 p hp)).2.2
  exact ⟨Wf_set hW (by omega), WfH_276 hH (fun a i q => vset_na q)⟩
theorem ms_pour {p : Nat} {n : Int} {x y : Int32} (h : MSt I0 J0 A v I J w) (hp : p < nP w) (hn : -100000000 ≤ n ∧ n ≤ 100000000) (ex : x = iZ p) (ey : y = iZ n) (hQ : ∀ I', MSt I0 J0 A v I' J (porZ w p n) → Q none (mm I' J A)) : wpC E (d + 1) 218 [.ref 265, .int x, .int y] (mm I J A) Q := by
  have hz := h.2.1
  have ev := h.2.2.2.1
  have w2 := Wf_porH (n := n) h.2.2.2.2.1 h.2.2.2.2.2 hp
  subst ev
  have hW : Wf (vI I) := h.2.2.2.2.1
  refine wpC_mono (wpC_zo hz (m_pours (Q := fun r M => r = none ∧ ∃ I', M = mm I' J A ∧ vI I' = porZ (vI I) p n) hW hp hn ex ey (fun I' e => ⟨rfl, I', rfl, e⟩))) (fun r M hh => ?_)
  obtain ⟨⟨rfl, I', rfl, e⟩, hz'⟩ := hh
  refine hQ I' (ms_cell h hz' (fun a ha _ => vI_cell (fun k => by rw [e, por_ne (by omega)])) JF_refl ?_ w2.1 w2.2)
  show cutV (vI I') = _
  rw [e, ← por_cut]; rfl
theorem cs_keep {x : Int32} (hb : B5 b) (hR : RS I J b v) (hW : Wf v) (hH : WfH v) (ex : x = iZ (0 : Nat)) (hQ : ∀ I', CSt I J b v I' J v → Q none (mm I' J A)) : wpC E (d + 1) 79 [.ref b, .ref 264, .int x] (mm I J A) Q :=
  c_keep (f := 0) (Or.inl ⟨rfl, hb⟩) hR hW ⟨fun _ => rfl, by omega⟩ ex (fun I' k1 k2 k3 => hQ I' ⟨fun a _ h2 => ⟨k2 a (by omega), rfl⟩, k1, RS_eq (fun a q1 q2 => ⟨k2 a (by unfold B5 at hb; omega), rfl⟩) hR, SS_refl, hW, hH⟩)
theorem cs_back {x : Int32} (hb : B5 b) (h : CSt I0 J0 b v I J w) (hW : Wf v) (hH : WfH v) (ex : x = iZ (0 : Nat)) (hQ : ∀ I', CSt I0 J0 b v I' J v → Q none (mm I' J A)) : wpC E (d + 1) 80 [.ref b, .ref 264, .int x] (mm I J A) Q := by
  obtain ⟨f, k, hR, hS, -, -⟩ := h
  exact c_restore (f := 0) (Or.inl ⟨rfl, hb⟩) hR hS hW k ⟨fun _ => rfl, by omega⟩ ex (fun I' r1 r2 => hQ I' ⟨F3_trans f (fun a q1 q2 => ⟨r2 a q1, rfl⟩), KP_eq (r2 264 (by unfold B5 at hb; omega)) k, r1, SS_refl, hW, hH⟩)
theorem cs_go {r : Nat} (hb : B5 b) (h : CSt I0 J0 b v I J w) (hr : r < 6) (hg : WfG (plV I0 (168 + 9 * r))) (h8 : w 266 8 < 99999) (hQ : ∀ I' J' A', CSt I0 J0 b v I' J' (rndZ (plV I0 (168 + 9 * r)) w) → Q none (mm I' J' A')) : wpC E (d + 5) 59 [.ref 240, .ref b, .ref (168 + 9 * r)] (mm I J A) Q := by
  obtain ⟨f, k, hR, hS, hW, hH⟩ := h
  have ge := Ge_F3 hb hr f
  have w2 := Wf_rnd hW hH hg h8
  refine c_go (Or.inl ⟨rfl, hb⟩) (by unfold PP; omega) hR hW hH (Ge_G ge hg) h8 (fun I' J' A' q1 q2 => hQ I' J' A' ?_)
  rw [Ge_rnd ge] at q1
  exact ⟨F3_trans f (fun a p1 p2 => q2 a p1 (by omega)), KP_eq (q2 264 (by unfold B5 at hb; omega) (by omega)).1 k, q1, SS_trans hS SS_rnd, w2.1, w2.2⟩
theorem cs_goBy {r n : Nat} {x y : Int32} (hb : B5 b) (h : CSt I0 J0 b v I J w) (hr : r < 6) (hg : WfG (plV I0 (168 + 9 * r))) (hn : n ≤ 1000) (h8 : w 266 8 + n ≤ 99999) (ex : x = iZ r) (ey : y = iZ n) (hQ : ∀ I' J' A', CSt I0 J0 b v I' J' (rnN (plV I0 (168 + 9 * r)) n w) → Q none (mm I' J' A')) : wpC E (d + 6) 98 [.ref 0, .ref b, .int x, .int y] (mm I J A) Q := by
  obtain ⟨f, k, hR, hS, hW, hH⟩ := h
  have ge := Ge_F3 hb hr f
  have w2 := rnN_ok hg n w hW hH h8
  refine c_goBy hb hR hW hH hr (Ge_G ge hg) hn h8 ex ey (fun I' J' A' q1 q2 => hQ I' J' A' ?_)
  rw [Ge_rnN ge] at q1
  exact ⟨F3_trans f (fun a p1 p2 => q2 a p1 (by omega)), KP_eq (q2 264 (by unfold B5 at hb; omega) (by omega)).1 k, q1, SS_trans hS (SS_rnN _ _), w2.1, w2.2⟩
theorem cs_over (hb : B5 b) (h : CSt I0 J0 b v I J w) (h1 : w 266 7 = 60 ∨ w 266 7 = -60 → Q (some (.int 1)) (mm I J A)) (h0 : ¬ (w 266 7 = 60 ∨ w 266 7 = -60) → Q (some (.int 0)) (mm I J A)) : wpC E (d + 1) 69 [.ref b] (mm I J A) Q := c_isOver hb h.2.2.1 h.2.2.2.2.1 h1 h0
theorem cs_add {p : Nat} {n : Int} {x y : Int32} (hb : B5 b) (h : CSt I0 J0 b v I J w) (hp : p < nP w) (hn : 0 ≤ n ∧ n ≤ 100000000) (ey : y = iZ p) (ex : x = iZ n) (hQ : ∀ I', CSt I0 J0 b v I' J (porZ w p n) → Q none (mm I' J A)) : wpC E (d + 3) 72 [.ref b, .int y, .int x] (mm I J A) Q := by
  obtain ⟨f, k, hR, hS, hW, hH⟩ := h
  have w2 := Wf_porH (n := n) hW hH hp
  have w6 := (hW.2.2.1 p hp).2.2.2.2.2.2
  refine c_add hb hR hW hp hn ey ex (fun I' q1 q2 => hQ I' ⟨F3_trans f (fun a p1 p2 => ⟨q2 a p1, rfl⟩), KP_eq (q2 264 (by unfold B5 at hb; omega)) k, ?_, SS_trans hS SS_por, w2.1, w2.2⟩)
  have e : porZ w p n = vset w 276 p (min (w 276 p + n) (capZ w p)) := by
    unfold porZ
    congr 1
    omega
  rw [e]; exact q1
/-- they hold the same again, behind what was tried -/
theorem Inv_L (h : Inv I J) (g0 : I 266 0 = 1) {I2 : Nat → Nat → Int32} {J2 : Nat → Nat → Int64} (hb : B5 b) (hF : F3 b I J I1 J1) (hL : LF I1 J1 I2 J2) (hv : vC I2 = vC I) (hR : RS I1 J1 b v) (hbv : (b = 1 → v = vC I) ∧ ∀ k : Nat, k < 4 → b = 35 + 33 * k → v = imV I k ∧ I 305 k = 1) : Inv I2 J2 := by
  obtain ⟨hV, hI, hT, hP, m0, h19⟩ := h
  obtain ⟨hW, hH, hR0, h8⟩ := Vs_on hV g0
  have bb := hb
  unfold B5 at bb
  have c1 : ∀ a, (a < b ∨ b + 33 ≤ a) → (a < 223 ∨ 265 ≤ a) → (a < 266 ∨ 289 < a) → a ≠ 304 → a ≠ 265 → a ≠ 306 → I2 a = I a := fun a q1 q2 q3 q4 q5 q6 => (hL.1 a q3 q4 q5 q6).trans (hF a q1 q2).1
  have cJ : ∀ a, (a < b ∨ b + 33 ≤ a) → (a < 223 ∨ 265 ≤ a) → a ≠ 302 → a ≠ 303 → J2 a = J a := fun a q1 q2 q3 q4 => (hL.2.2.2 a q3 q4).trans (hF a q1 q2).2
  have c5 : ∀ j, j ≠ 53 → j ≠ 54 → I2 265 j = I 265 j := fun j q1 q2 => by rw [hL.2.1 j q1 q2, (hF 265 (by omega) (by omega)).1]
  have s1 : ∀ a, 1 ≤ a → a < 167 → I2 a = I1 a ∧ J2 a = J1 a := fun a q1 q2 => ⟨hL.1 a (by omega) (by omega) (by omega) (by omega), hL.2.2.2 a (by omega) (by omega)⟩
  have im : ∀ k, k < 4 → imV I2 k = imV I k := fun k hk => (hL.2.2.1 k hk).trans (imV_eq (hF 304 (by omega) (by omega)).1)
  have sR : ∀ β u, B5 β → RS I J β u → (b = β → v = u) → RS I2 J2 β u := fun β u hβ hr he => by
    by_cases q : b = β
    · rw [← he q, ← q]
      exact RS_eq (fun a q1 q2 => s1 a (by omega) (by omega)) hR
    · unfold B5 at hβ
      exact RS_eq (fun a q1 q2 => ⟨c1 a (by omega) (by omega) (by omega) (by omega) (by omega) (by omega), cJ a (by omega) (by omega) (by omega) (by omega)⟩) hr
  have h266 : I2 266 0 = 1 := by
    have : vI I2 266 0 = 1 := by
      have q : vC I2 266 0 = vC I 266 0 := by rw [hv]
      exact q.trans (vC_0 g0)
    rw [vI_eq I2 266 0, this]; rfl
  refine ⟨Or.inr ⟨h266, ?_⟩, fun k hk => ?_, ?_, ?_, ?_, ?_⟩
  · rw [hv]
    exact ⟨hW, hH, sR 1 (vC I) (Or.inl rfl) hR0 hbv.1, h8⟩
  · have hi := hI k hk
    unfold Im at hi ⊢
    rw [im k hk, c1 305 (by omega) (by omega) (by omega) (by omega) (by omega) (by omega)]
    rcases hi with ⟨x1, x2⟩ | ⟨x1, x2, x3, x4, x5⟩
    · have nb : b ≠ 35 + 33 * k := fun q => by
        have := (hbv.2 k hk q).2
        rw [x1] at this; cases this
      exact Or.inl ⟨x1, by rw [c1 (35 + 33 * k) (by omega) (by omega) (by omega) (by omega) (by omega) (by omega)]; exact x2⟩
    · exact Or.inr ⟨x1, x2, x3, sR _ _ (by unfold B5; omega) x4 (fun q => (hbv.2 k hk q).1), x5.1, x5.2.1, h266⟩
  · exact Tp_eq hT (by rw [c1 0 (by omega) (by omega) (by omega) (by omega) (by omega) (by omega)]) (c5 27 (by omega) (by omega)) (c1 222 (by omega) (by omega) (by omega) (by omega) (by omega) (by omega)) (c1 290 (by omega) (by omega) (by omega) (by omega) (by omega) (by omega))
  · exact Pn_eq hP (by rw [c1 0 (by omega) (by omega) (by omega) (by omega) (by omega) (by omega)]) (c5 31 (by omega) (by omega)) (fun a q => c1 a (by omega) (by omega) (by omega) (by omega) (by omega) (by omega))
  · unfold M0 vI vJ at m0 ⊢
    rw [c5 25 (by omega) (by omega), cJ 265 (by omega) (by omega) (by omega) (by omega)]
    exact m0
  · rw [c5 36 (by omega) (by omega)]; exact h19
end WHAT
