/-! ===== class and reference hold the same ===== -/
def Vs (I : Nat → Nat → Int32) (J : Nat → Nat → Int64) : Prop := (I 266 0 = 0 ∧ I 1 0 = 0) ∨ (I 266 0 = 1 ∧ Wf (vC I) ∧ WfH (vC I) ∧ RS I J 1 (vC I) ∧ vC I 266 8 ≤ 9999)
def Im (I : Nat → Nat → Int32) (J : Nat → Nat → Int64) (k : Nat) : Prop := (I 305 k = 0 ∧ I (35 + 33 * k) 0 = 0) ∨ (I 305 k = 1 ∧ Wf (imV I k) ∧ WfH (imV I k) ∧ RS I J (35 + 33 * k) (imV I k) ∧ imV I k 266 8 ≤ 9999 ∧ imV I k 266 0 = 1 ∧ I 266 0 = 1)
def Tp (I : Nat → Nat → Int32) : Prop := ∃ t : Nat, t ≤ 400 ∧ I 0 5 = iZ t ∧ I 265 27 = iZ t ∧ ∀ i : Nat, i < t → (0 ≤ vI I 222 i ∧ vI I 222 i ≤ 255) ∧ vI I 290 i = (if vI I 222 i < 128 then vI I 222 i else vI I 222 i - 256)
def Pn (I : Nat → Nat → Int32) : Prop := ∃ n : Nat, n ≤ 6 ∧ I 0 3 = iZ n ∧ I 265 31 = iZ n ∧ ∀ r : Nat, r < n → WfG (plV I (168 + 9 * r)) ∧ MG I r (plV I (168 + 9 * r))
def Inv (I : Nat → Nat → Int32) (J : Nat → Nat → Int64) : Prop := Vs I J ∧ (∀ k : Nat, k < 4 → Im I J k) ∧ Tp I ∧ Pn I ∧ M0 I J ∧ I 265 36 = iZ 19
theorem vC_eq {I I' : Nat → Nat → Int32} (h : ∀ a, 266 ≤ a → a ≤ 289 → I' a = I a) : vC I' = vC I := by
  funext a i
  unfold vC cutV
  split
  · rename_i q
    unfold vI
    rw [h a q.1 q.2]
  · rfl
theorem vC_set {I : Nat → Nat → Int32} {a i : Nat} {x : Int32} {z : Int} (ha : 266 ≤ a ∧ a ≤ 289) (hx : x = iZ z) (h1 : -2147483648 ≤ z) (h2 : z ≤ 2147483647) : vC (setI I a i x) = vset (vC I) a i z := by
  unfold vC
  rw [vI_setZ hx h1 h2, cut_set ha]
theorem imV_eq {I I' : Nat → Nat → Int32} {k : Nat} (h : I' 304 = I 304) : imV I' k = imV I k := by
  funext a i
  unfold imV vI
  rw [h]
theorem plV_cells {I I' : Nat → Nat → Int32} {r : Nat} (hr : r < 6) (h : ∀ a, 168 ≤ a → a < 222 → I' a = I a) : Ge (plV I (168 + 9 * r)) (plV I' (168 + 9 * r)) := by
  have k : ∀ j, j < 9 → plV I' (168 + 9 * r) j = plV I (168 + 9 * r) j := fun j hj => by
    funext i
    unfold plV vI
    rw [h (168 + 9 * r + j) (by omega) (by omega)]
  exact ⟨k 0 (by omega), k 1 (by omega), k 2 (by omega), k 3 (by omega), k 4 (by omega), k 5 (by omega), k 6 (by omega), k 7 (by omega), k 8 (by omega)⟩
theorem Ge_G {g g' : Nat → Nat → Int} (h : Ge g g') (hg : WfG g) : WfG g' := by
  refine ⟨?_, fun i hi => Ge_gi h (hg.2 i ?_)⟩
  · rw [h.1]; exact hg.1
  · rw [h.1] at hi; exact hi
theorem Ge_MG {I : Nat → Nat → Int32} {r : Nat} {g g' : Nat → Nat → Int} (h : Ge g g') (hm : MG I r g) : MG I r g' := by
  have e0 := h.1
  refine ⟨?_, fun i hi => ?_⟩
  · rw [e0]; exact hm.1
  · rw [e0] at hi
    have := hm.2 i hi
    obtain ⟨e0, e1, e2, e3, e4, e5, e6, e7, e8⟩ := h
    unfold MGi at this ⊢
    rw [e1, e2, e3, e4, e5, e6, e7, e8]
    exact this
theorem Pn_eq {I I' : Nat → Nat → Int32} (h : Pn I) (h1 : I' 0 3 = I 0 3) (h2 : I' 265 31 = I 265 31) (h3 : ∀ a, (168 ≤ a ∧ a < 222) ∨ (290 ≤ a ∧ a ≤ 300) → I' a = I a) : Pn I' := by
  obtain ⟨n, hn, e1, e2, hp⟩ := h
  refine ⟨n, hn, h1.trans e1, h2.trans e2, fun r hr => ?_⟩
  have ge := plV_cells (I := I) (I' := I') (r := r) (by omega) (fun a q1 q2 => h3 a (Or.inl ⟨q1, q2⟩))
  obtain ⟨g1, g2⟩ := hp r hr
  exact ⟨Ge_G ge g1, Ge_MG ge (MG_eq g2 (fun a q1 q2 => h3 a (Or.inr ⟨q1, q2⟩)))⟩
theorem Tp_eq {I I' : Nat → Nat → Int32} (h : Tp I) (h1 : I' 0 5 = I 0 5) (h2 : I' 265 27 = I 265 27) (h3 : I' 222 = I 222) (h4 : I' 290 = I 290) : Tp I' := by
  obtain ⟨t, ht, e1, e2, hp⟩ := h
  refine ⟨t, ht, h1.trans e1, h2.trans e2, fun i hi => ?_⟩
  unfold vI
  rw [h3, h4]
  exact hp i hi
theorem Im_eq {I I' : Nat → Nat → Int32} {J J' : Nat → Nat → Int64} {k : Nat} (hk : k < 4) (h : Im I J k) (h1 : I' 305 = I 305) (h2 : imV I' k = imV I k) (h3 : ∀ a, 34 ≤ a → a < 168 → I' a = I a ∧ J' a = J a) (h4 : I 266 0 = 1 → I' 266 0 = 1) : Im I' J' k := by
  unfold Im at h ⊢
  rw [h1, h2, (h3 (35 + 33 * k) (by omega) (by omega)).1]
  rcases h with h | ⟨g1, g2, g3, g4, g5⟩
  · exact Or.inl h
  · exact Or.inr ⟨g1, g2, g3, RS_eq (fun a q1 q2 => h3 a (by omega) (by omega)) g4, g5.1, g5.2.1, h4 g5.2.2⟩
/-- what the class may touch: the vessel and what is its own to write on -/
def FV (I : Nat → Nat → Int32) (J : Nat → Nat → Int64) (I' : Nat → Nat → Int32) (J' : Nat → Nat → Int64) : Prop := ∀ a, (a < 1 ∨ 34 ≤ a) → (a < 223 ∨ 265 ≤ a) → I' a = I a ∧ J' a = J a
def FM (I I' : Nat → Nat → Int32) : Prop := ∀ a, (a < 266 ∨ 289 < a) → I' a = I a
theorem FV_refl {I : Nat → Nat → Int32} {J : Nat → Nat → Int64} : FV I J I J := fun _ _ _ => ⟨rfl, rfl⟩
theorem FV_trans {I I' I'' : Nat → Nat → Int32} {J J' J'' : Nat → Nat → Int64} (h : FV I J I' J') (h' : FV I' J' I'' J'') : FV I J I'' J'' := fun a ha hb => ⟨(h' a ha hb).1.trans (h a ha hb).1, (h' a ha hb).2.trans (h a ha hb).2⟩
theorem Fr_FV {I I' : Nat → Nat → Int32} {J : Nat → Nat → Int64} (h : Fr 1 I I') : FV I J I' J := fun a ha _ => ⟨h a (by omega), rfl⟩
theorem F2_FV {ρ : Nat} {I I' : Nat → Nat → Int32} {J J' : Nat → Nat → Int64} (hr : ρ = 240 ∨ ρ = 255) (h : F2 ρ 1 I J I' J') : FV I J I' J' := fun a ha hb => h a (by omega) (by omega)
theorem FB_FV {β : Nat} {I I' : Nat → Nat → Int32} {J J' : Nat → Nat → Int64} {A A' : Nat → Option Nat} (hb : B4 β) (h : FB β I J A I' J' A') : FV I J I' J' := fun a ha hc => ⟨h.1 a (by unfold B4 at hb; omega), h.2.1 a (by unfold B4 at hb; omega) (by unfold B4 at hb; omega) (by unfold B4 at hb; omega)⟩
theorem FV_vC {I I' : Nat → Nat → Int32} {J J' : Nat → Nat → Int64} (h : FV I J I' J') : vC I' = vC I := vC_eq (fun a h1 h2 => (h a (by omega) (by omega)).1)
theorem FM_set {I : Nat → Nat → Int32} {a i : Nat} {x : Int32} (ha : 266 ≤ a ∧ a ≤ 289) : FM I (setI I a i x) := fun c hc => by
  funext j
  rw [setI_at, if_neg (by omega)]
theorem FM_trans {I I' I'' : Nat → Nat → Int32} (h : FM I I') (h' : FM I' I'') : FM I I'' := fun a ha => (h' a ha).trans (h a ha)
theorem FM_refl {I : Nat → Nat → Int32} : FM I I := fun _ _ => rfl
theorem M0_FV {I I' : Nat → Nat → Int32} {J J' : Nat → Nat → Int64} (h : FV I J I' J') (h0 : M0 I J) : M0 I' J' := M0_eq h0 (h 265 (by omega) (by omega)).1 (h 265 (by omega) (by omega)).2
theorem Inv_upd {I I1 I2 : Nat → Nat → Int32} {J J1 J2 : Nat → Nat → Int64} {v : am_V} (h : Inv I J) (hF : FV I J I1 J1) (hM : FM I1 I2) (hJ : JF J1 J2) (hR : RS I1 J1 1 v) (hv : vC I2 = v) (h0 : v 266 0 = 1) (hW : Wf v) (hH : WfH v) (h8 : v 266 8 ≤ 9999) : Inv I2 J2 := by
  obtain ⟨hV, hI, hT, hP, m0, h19⟩ := h
  have e : ∀ a, (a < 1 ∨ 34 ≤ a) → (a < 223 ∨ 265 ≤ a) → (a < 266 ∨ 289 < a) → a ≠ 302 → a ≠ 303 → I2 a = I a ∧ J2 a = J a := fun a q1 q2 q3 q4 q5 => ⟨(hM a q3).trans (hF a q1 q2).1, (hJ a q4 q5).trans (hF a q1 q2).2⟩
  have e265 := e 265 (by omega) (by omega) (by omega) (by omega) (by omega)
  have h266 : I2 266 0 = 1 := by
    have : vI I2 266 0 = 1 := by
      have q : vC I2 266 0 = v 266 0 := by rw [hv]
      exact q.trans h0
    rw [vI_eq I2 266 0, this]; rfl
  refine ⟨Or.inr ⟨h266, ?_⟩, fun k hk => ?_, ?_, ?_, M0_eq m0 e265.1 e265.2, by rw [e265.1]; exact h19⟩
  · rw [hv]
    exact ⟨hW, hH, RS_eq (fun a q1 q2 => ⟨hM a (by omega), hJ a (by omega) (by omega)⟩) hR, h8⟩
  · exact Im_eq hk (hI k hk) (e 305 (by omega) (by omega) (by omega) (by omega) (by omega)).1 (imV_eq (e 304 (by omega) (by omega) (by omega) (by omega) (by omega)).1) (fun a q1 q2 => e a (by omega) (by omega) (by omega) (by omega) (by omega)) (fun _ => h266)
  · exact Tp_eq hT (by rw [(e 0 (by omega) (by omega) (by omega) (by omega) (by omega)).1]) (by rw [e265.1]) (e 222 (by omega) (by omega) (by omega) (by omega) (by omega)).1 (e 290 (by omega) (by omega) (by omega) (by omega) (by omega)).1
  · exact Pn_eq hP (by rw [(e 0 (by omega) (by omega) (by omega) (by omega) (by omega)).1]) (by rw [e265.1]) (fun a q => (e a (by omega) (by omega) (by omega) (by omega) (by omega)).1)
theorem Inv_scr {I I' : Nat → Nat → Int32} {J J' : Nat → Nat → Int64} (h : Inv I J) (hF : ∀ a, a < 223 ∨ 265 ≤ a → a ≠ 302 → a ≠ 303 → I' a = I a ∧ J' a = J a) : Inv I' J' := by
  obtain ⟨hV, hI, hT, hP, m0, h19⟩ := h
  have e265 := hF 265 (by omega) (by omega) (by omega)
  have ev : vC I' = vC I := vC_eq (fun a h1 h2 => (hF a (by omega) (by omega) (by omega)).1)
  refine ⟨?_, fun k hk => ?_, ?_, ?_, M0_eq m0 e265.1 e265.2, by rw [e265.1]; exact h19⟩
  · unfold Vs
    rw [ev, (hF 266 (by omega) (by omega) (by omega)).1, (hF 1 (by omega) (by omega) (by omega)).1]
    rcases hV with h | ⟨g1, g2, g3, g4, g5⟩
    · exact Or.inl h
    · exact Or.inr ⟨g1, g2, g3, RS_eq (fun a q1 q2 => hF a (by omega) (by omega) (by omega)) g4, g5⟩
  · exact Im_eq hk (hI k hk) (hF 305 (by omega) (by omega) (by omega)).1 (imV_eq (hF 304 (by omega) (by omega) (by omega)).1) (fun a q1 q2 => hF a (by omega) (by omega) (by omega)) (fun q => by rw [(hF 266 (by omega) (by omega) (by omega)).1]; exact q)
  · exact Tp_eq hT (by rw [(hF 0 (by omega) (by omega) (by omega)).1]) (by rw [e265.1]) (hF 222 (by omega) (by omega) (by omega)).1 (hF 290 (by omega) (by omega) (by omega)).1
  · exact Pn_eq hP (by rw [(hF 0 (by omega) (by omega) (by omega)).1]) (by rw [e265.1]) (fun a q => (hF a (by omega) (by omega) (by omega)).1)
section OPS
variable {E : Nat × (Nat → Int32)} {d : Nat} {I : Nat → Nat → Int32} {J : Nat → Nat → Int64} {A : Nat → Option Nat} {Q : Option Value → am_M → Prop} {M : am_M}
/-- a call of both: the same answer, and they hold the same again -/
def RI (z : Int32) (r : Option Value) (M : am_M) : Prop := r = some (.int z) ∧ ∃ I J A, M = mm I J A ∧ Inv I J
def RJ (z : Int64) (r : Option Value) (M : am_M) : Prop := r = some (.long z) ∧ ∃ I J A, M = mm I J A ∧ Inv I J
def QI (E : Nat × (Nat → Int32)) (d mK : Nat) (as : List Value) (r : Option Value) (M1 : am_M) : Prop := ∃ z I1 J1 A1, r = some (.int z) ∧ M1 = mm I1 J1 A1 ∧ wpC E d mK (.ref 265 :: as) (mm I1 J1 A1) (RI z)
def QJ (E : Nat × (Nat → Int32)) (d mK : Nat) (as : List Value) (r : Option Value) (M1 : am_M) : Prop := ∃ z I1 J1 A1, r = some (.long z) ∧ M1 = mm I1 J1 A1 ∧ wpC E d mK (.ref 265 :: as) (mm I1 J1 A1) (RJ z)
theorem QI_mk {mK : Nat} {as : List Value} {z : Int32} (h : wpC E d mK (.ref 265 :: as) (mm I J A) (RI z)) : QI E d mK as (some (.int z)) (mm I J A) := ⟨z, I, J, A, rfl, rfl, h⟩
theorem QJ_mk {mK : Nat} {as : List Value} {z : Int64} (h : wpC E d mK (.ref 265 :: as) (mm I J A) (RJ z)) : QJ E d mK as (some (.long z)) (mm I J A) := ⟨z, I, J, A, rfl, rfl, h⟩
theorem cW {z lo hi : Int} {x a b : Int32} (ex : x = iZ z) (ea : a = iZ lo) (eb : b = iZ hi) (r1 : -2147483648 ≤ z ∧ z ≤ 2147483647) (r2 : -2147483648 ≤ lo ∧ lo ≤ 2147483647) (r3 : -2147483648 ≤ hi ∧ hi ≤ 2147483647) (h1 : lo ≤ z ∧ z ≤ hi → Q (some (.int 1)) M) (h0 : ¬ (lo ≤ z ∧ z ≤ hi) → Q (some (.int 0)) M) : wpC E d 135 [.int x, .int a, .int b] M Q := by
  subst ex; subst ea; subst eb
  refine c_within (fun q => h1 ?_) (fun q => h0 ?_)
  · rw [iZ_le r2 r1, iZ_le r1 r3] at q; exact q
  · rw [iZ_le r2 r1, iZ_le r1 r3] at q; exact q
theorem mW {z lo hi : Int} {x a b : Int64} (ex : x = lZ z) (ea : a = lZ lo) (eb : b = lZ hi) (r1 : -2147483648 ≤ z ∧ z ≤ 2147483647) (r2 : -2147483648 ≤ lo ∧ lo ≤ 2147483647) (r3 : -2147483648 ≤ hi ∧ hi ≤ 2147483647) (h1 : lo ≤ z ∧ z ≤ hi → Q (some (.int 1)) M) (h0 : ¬ (lo ≤ z ∧ z ≤ hi) → Q (some (.int 0)) M) : wpC E d 139 [.long x, .long a, .long b] M Q := by
  subst ex; subst ea; subst eb
  refine m_in (fun q => h1 ?_) (fun q => h0 ?_)
  · rw [lZ_le (rL_rI r2) (rL_rI r1), lZ_le (rL_rI r1) (rL_rI r3)] at q; exact q
  · rw [lZ_le (rL_rI r2) (rL_rI r1), lZ_le (rL_rI r1) (rL_rI r3)] at q; exact q
/-- a place that there is -/
def PG (I : Nat → Nat → Int32) (k : Int) : Prop := I 266 0 = 1 ∧ 0 ≤ k ∧ k < nP (vC I)
theorem nP_c (h : Wf (vC I)) : vI I 266 9 = nP (vC I) := by
  have := h.1.2.2.2.2.2.2.2.2.1
  show vC I 266 9 = _
  unfold nP; omega
theorem c_hasPlace {k : Int} {x : Int32} (hV : Vs I J) (hk : -2147483648 ≤ k ∧ k ≤ 2147483647) (ex : x = iZ k) (h1 : PG I k → Q (some (.int 1)) (mm I J A)) (h0 : ¬ PG I k → Q (some (.int 0)) (mm I J A)) : wpC E d 132 [.ref 0, .int x] (mm I J A) Q := by
  subst ex
  refine wc (hs := []) 30 (by decide) ?_
  rcases hV with ⟨g0, g1⟩ | ⟨g0, hW, hH, hR, h8⟩
  · refine wt g1 (And.intro rfl (h0 fun q => ?_))
    rw [q.1] at g0; cases g0
  · have h12 := nP12 hW
    have b1 : ¬ I 1 0 = 0 := by have : I 1 0 = 1 := hR.1.1; rw [this]; decide
    have p0 : I 3 0 = iZ (nP (vC I)) := hR.2.2.1.1
    refine wF b1 (And.intro (fun q => ?_) (fun q => ?_))
    · simp (disch := omega) only [z_i8, z_i16, z_of, z_ofN, z_lofN, z_0, z_1, z_m1, z_l0, z_l1, iZ_add, iZ_sub, iZ_mul, iZ_neg, lZ_add, lZ_sub, lZ_mul, lZ_neg, z_div, z_ldiv, z_l, z_i, z_lt, z_le, z_eq, z_llt, z_lle, z_leq, z_cgt, z_cge, z_clt, z_cle, z_ceq, z_cl, z_nat, Int.toNat_natCast, mm_I, mm_J, z_cln, z_abs, z_max, z_min, z_lmax, z_lmin, z_sin, Int.cast_ofNat_Int, uI_I, uI_J, uL_I, uL_J, uA_I, uA_J, sI_eq, sI_ne, sL_eq, sL_ne, up_eq, up_ne, uL_eq, uL_ne, z_toInt, Int.reduceToNat] at q
      exact And.intro rfl (h0 fun p => by have := p.2; omega)
    · simp (disch := omega) only [z_i8, z_i16, z_of, z_ofN, z_lofN, z_0, z_1, z_m1, z_l0, z_l1, iZ_add, iZ_sub, iZ_mul, iZ_neg, lZ_add, lZ_sub, lZ_mul, lZ_neg, z_div, z_ldiv, z_l, z_i, z_lt, z_le, z_eq, z_llt, z_lle, z_leq, z_cgt, z_cge, z_clt, z_cle, z_ceq, z_cl, z_nat, Int.toNat_natCast, mm_I, mm_J, z_cln, z_abs, z_max, z_min, z_lmax, z_lmin, z_sin, Int.cast_ofNat_Int, uI_I, uI_J, uL_I, uL_J, uA_I, uA_J, sI_eq, sI_ne, sL_eq, sL_ne, up_eq, up_ne, uL_eq, uL_ne, z_toInt, Int.reduceToNat] at q
      refine And.intro (fun q2 => ?_) (fun q2 => ?_)
      · simp (disch := omega) only [z_i8, z_i16, z_of, z_ofN, z_lofN, z_0, z_1, z_m1, z_l0, z_l1, iZ_add, iZ_sub, iZ_mul, iZ_neg, lZ_add, lZ_sub, lZ_mul, lZ_neg, z_div, z_ldiv, z_l, z_i, z_lt, z_le, z_eq, z_llt, z_lle, z_leq, z_cgt, z_cge, z_clt, z_cle, z_ceq, z_cl, z_nat, Int.toNat_natCast, mm_I, mm_J, z_cln, z_abs, z_max, z_min, z_lmax, z_lmin, z_sin, Int.cast_ofNat_Int, uI_I, uI_J, uL_I, uL_J, uA_I, uA_J, sI_eq, sI_ne, sL_eq, sL_ne, up_eq, up_ne, uL_eq, uL_ne, z_toInt, Int.reduceToNat, p0] at q2
        exact And.intro rfl (h0 fun p => by have := p.2; omega)
      · simp (disch := omega) only [z_i8, z_i16, z_of, z_ofN, z_lofN, z_0, z_1, z_m1, z_l0, z_l1, iZ_add, iZ_sub, iZ_mul, iZ_neg, lZ_add, lZ_sub, lZ_mul, lZ_neg, z_div, z_ldiv, z_l, z_i, z_lt, z_le, z_eq, z_llt, z_lle, z_leq, z_cgt, z_cge, z_clt, z_cle, z_ceq, z_cl, z_nat, Int.toNat_natCast, mm_I, mm_J, z_cln, z_abs, z_max, z_min, z_lmax, z_lmin, z_sin, Int.cast_ofNat_Int, uI_I, uI_J, uL_I, uL_J, uA_I, uA_J, sI_eq, sI_ne, sL_eq, sL_ne, up_eq, up_ne, uL_eq, uL_ne, z_toInt, Int.reduceToNat, p0] at q2
        exact And.intro rfl (h1 ⟨g0, by omega, by omega⟩)
/-- what the reference's own rows need -/
def Vm (I : Nat → Nat → Int32) : Prop := I 266 0 = 1 → Wf (vC I) ∧ WfH (vC I)
theorem Vs_m (hV : Vs I J) : Vm I := fun h => by
  rcases hV with ⟨g0, g1⟩ | h'
  · rw [h] at g0; cases g0
  · exact ⟨h'.2.1, h'.2.2.1⟩
theorem FV_m {I' : Nat → Nat → Int32} {J' : Nat → Nat → Int64} (h : FV I J I' J') (hV : Vm I) : Vm I' := by
  unfold Vm
  rw [FV_vC h, (h 266 (by omega) (by omega)).1]
  exact hV
theorem FV_PG {I' : Nat → Nat → Int32} {J' : Nat → Nat → Int64} {k : Int} (h : FV I J I' J') : PG I' k = PG I k := by
  unfold PG
  rw [FV_vC h, (h 266 (by omega) (by omega)).1]
theorem m_isPlaceZ {k : Int} {x : Int32} (hV : Vm I) (hk : -2147483648 ≤ k ∧ k ≤ 2147483647) (ex : x = iZ k) (h1 : PG I k → Q (some (.int 1)) (mm I J A)) (h0 : ¬ PG I k → Q (some (.int 0)) (mm I J A)) : wpC E (d + 1) 144 [.ref 265, .int x] (mm I J A) Q := by
  subst ex
  have e : IP I (iZ k) ↔ PG I k := by
    unfold IP PG
    rw [iZ_toInt hk]
    constructor
    · intro q; rw [← nP_c (hV q.1).1]; exact q
    · intro q; rw [nP_c (hV q.1).1]; exact q
  exact m_isPlace (fun q => (hV q).1.1) (fun q => h1 (e.mp q)) (fun q => h0 (fun p => q (e.mpr p)))
theorem Vs_on (hV : Vs I J) (h : I 266 0 = 1) : Wf (vC I) ∧ WfH (vC I) ∧ RS I J 1 (vC I) ∧ vC I 266 8 ≤ 9999 := by
  rcases hV with ⟨g0, g1⟩ | h'
  · rw [h] at g0; cases g0
  · exact h'.2
theorem vC_0 (h : I 266 0 = 1) : vC I 266 0 = 1 := by
  show (I 266 0).toInt = 1
  rw [h]; rfl
theorem m_water {k n : Int} {Q : Option Value → am_M → Prop} (hV : Vm I) (hk : -2147483648 ≤ k ∧ k ≤ 2147483647) (hn : -2147483648 ≤ n ∧ n ≤ 2147483647) (h1 : PG I k → 0 ≤ n ∧ n ≤ capZ (vC I) k.toNat → Q (some (.int (iZ (vC I 276 k.toNat)))) (mm (setI I 276 k.toNat (iZ n)) J A)) (h0 : ¬ (PG I k ∧ 0 ≤ n ∧ n ≤ capZ (vC I) k.toNat) → Q (some (.int (iZ (-1)))) (mm I J A)) : wpC E (d + 2) 151 [.ref 265, .int (iZ k), .int (iZ n)] (mm I J A) Q := by
  refine wc (hs := []) 40 (by decide) ?_
  refine And.intro rfl (m_isPlaceZ hV hk rfl (fun p => wF (by decide) ?_) (fun p => wt rfl (h0 fun q => p q.1)))
  obtain ⟨hW, -⟩ := hV p.1
  have h12 := nP12 hW
  have p2 := p.2
  have w := hW.2.2.1 k.toNat (by omega)
  have cb := (capB w).2.2
  have ek : iZ k = iZ (k.toNat : Int) := by congr 1; omega
  have hin : vp_in (iZ k) 12 := z_in (by omega) (by omega) (by omega)
  have hcl : (iZ k).toNatClampNeg = k.toNat := z_cl (by omega) (by omega)
  refine And.intro rfl (m_capE ek (by omega) w ?_)
  refine And.intro rfl (mW (z := n) (lo := 0) (hi := capZ (vC I) k.toNat) (z_l (by omega) (by omega)) rfl (z_l (by show -2147483648 ≤ capZ (vC I) k.toNat; omega) (by show capZ (vC I) k.toNat ≤ _; omega)) hn (by omega) (by omega) (fun g => wF (by decide) ?_) (fun g => wt rfl (h0 fun q => g q.2)))
  refine And.intro hin (And.intro hin ?_)
  have := h1 p g
  rw [← hcl] at this
  refine q_i this ?_
  rw [hcl]
  exact vI_eq I 276 k.toNat
theorem op_water {k n : Int} (h : Inv I J) (hk : -2147483648 ≤ k ∧ k ≤ 2147483647) (hn : -2147483648 ≤ n ∧ n ≤ 2147483647) : wpC E (d + 3) 86 [.ref 0, .int (iZ k), .int (iZ n)] (mm I J A) (QI E (d + 3) 151 [.int (iZ k), .int (iZ n)]) := by
  have hV := h.1
  have F : ¬ (PG I k ∧ 0 ≤ n ∧ n ≤ capZ (vC I) k.toNat) → QI E (d + 3) 151 [.int (iZ k), .int (iZ n)] (some (.int (iZ (-1)))) (mm I J A) := fun q => QI_mk (m_water (Vs_m hV) hk hn (fun p1 p2 => absurd ⟨p1, p2⟩ q) (fun _ => ⟨rfl, I, J, A, rfl, h⟩))
  refine wc (hs := []) 40 (by decide) ?_
  refine And.intro rfl (c_hasPlace hV hk rfl (fun p => wF (by decide) ?_) (fun p => wt rfl (F fun q => p q.1)))
  obtain ⟨hW, hH, hR, h8⟩ := Vs_on hV p.1
  have h12 := nP12 hW
  have p2 := p.2
  have hp : k.toNat < nP (vC I) := by omega
  have w := hW.2.2.1 k.toNat hp
  have cb := (capB w).2.2
  have hin : vp_in (iZ k) 12 := z_in (by omega) (by omega) (by omega)
  have hcl : (iZ k).toNatClampNeg = k.toNat := z_cl (by omega) (by omega)
  obtain ⟨q1, q2, q3, q4, q5, q6, q7, q8, q9, q10, q11⟩ := id (hR.2.2.1.2.1 k.toNat hp)
  refine And.intro hin (And.intro rfl (cW (z := n) (lo := 0) (hi := capZ (vC I) k.toNat) rfl rfl ?_ hn (by omega) (by omega) (fun g => wF (by decide) ?_) (fun g => wt rfl (F fun q => g q.2))))
  · show I 10 (iZ k).toNatClampNeg = _
    rw [hcl]; exact q7
  refine And.intro hin (And.intro rfl (c_pour (b := 1) (v := vC I) (p := k.toNat) (n := n) (Or.inl rfl) hR hW hp g (by congr 1; omega) rfl (fun I1 hR1 hF1 => ?_)))
  have e8 : I 11 (iZ k).toNatClampNeg = iZ (vC I 276 k.toNat) := by rw [hcl]; exact q8
  show QI E (d + 3) 151 [.int (iZ k), .int (iZ n)] (some (.int (I 11 (iZ k).toNatClampNeg))) (mm I1 J A)
  rw [e8]
  have hF := Fr_FV (J := J) hF1
  have hv := FV_vC hF
  refine QI_mk (m_water (FV_m hF (Vs_m hV)) hk hn (fun p1 p2 => ?_) (fun q => absurd ⟨(FV_PG hF).mpr p, by rw [hv]; exact g⟩ q))
  rw [hv]
  refine ⟨rfl, _, J, A, rfl, Inv_upd h hF (FM_set (by omega)) JF_refl hR1 ?_ (vC_0 p.1) (Wf_set hW g) (WfH_276 hH (fun a i q => vset_na q)) h8⟩
  rw [vC_set (z := n) (by omega) rfl (by omega) (by omega), hv]
end OPS
