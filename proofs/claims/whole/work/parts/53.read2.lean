/-! ===== what is told of her: both answer alike ===== -/
def FS (I : Nat → Nat → Int32) (J : Nat → Nat → Int64) (I' : Nat → Nat → Int32) (J' : Nat → Nat → Int64) : Prop := ∀ a, a < 223 ∨ 265 ≤ a → I' a = I a ∧ J' a = J a
theorem FS_refl {I : Nat → Nat → Int32} {J : Nat → Nat → Int64} : FS I J I J := fun _ _ => ⟨rfl, rfl⟩
theorem FS_trans {I I' I'' : Nat → Nat → Int32} {J J' J'' : Nat → Nat → Int64} (h : FS I J I' J') (h' : FS I' J' I'' J'') : FS I J I'' J'' := fun a ha => ⟨(h' a ha).1.trans (h a ha).1, (h' a ha).2.trans (h a ha).2⟩
theorem FB_FS {β : Nat} {I I' : Nat → Nat → Int32} {J J' : Nat → Nat → Int64} {A A' : Nat → Option Nat} (hb : B4 β) (h : FB β I J A I' J' A') : FS I J I' J' := fun a ha => ⟨h.1 a (by unfold B4 at hb; omega), h.2.1 a (by unfold B4 at hb; omega) (by unfold B4 at hb; omega) (by unfold B4 at hb; omega)⟩
theorem FS_FV {I I' : Nat → Nat → Int32} {J J' : Nat → Nat → Int64} (h : FS I J I' J') : FV I J I' J' := fun a _ hb => h a hb
section RD2
variable {E : Nat × (Nat → Int32)} {d : Nat} {I I1 : Nat → Nat → Int32} {J J1 : Nat → Nat → Int64} {A A1 : Nat → Option Nat} {Q : Option Value → am_M → Prop} {M : am_M}
theorem rd_mk {mK : Nat} {as : List Value} {z : Int32} (h : Inv I J) (hF : FS I J I1 J1) (hm : wpC E d mK (.ref 265 :: as) (mm I1 J1 A1) (fun r M => r = some (.int z) ∧ M = mm I1 J1 A1)) : QI E d mK as (some (.int z)) (mm I1 J1 A1) :=
  QI_mk (wpC_mono hm (fun r M q => ⟨q.1, I1, J1, A1, q.2, Inv_scr h (fun a ha _ _ => hF a ha)⟩))
theorem rdJ_mk {mK : Nat} {as : List Value} {z : Int64} (h : Inv I J) (hF : FS I J I1 J1) (hm : wpC E d mK (.ref 265 :: as) (mm I1 J1 A1) (fun r M => r = some (.long z) ∧ M = mm I1 J1 A1)) : QJ E d mK as (some (.long z)) (mm I1 J1 A1) :=
  QJ_mk (wpC_mono hm (fun r M q => ⟨q.1, I1, J1, A1, q.2, Inv_scr h (fun a ha _ _ => hF a ha)⟩))
theorem FS_0 (hF : FS I J I1 J1) : I1 266 0 = I 266 0 := by rw [(hF 266 (by omega)).1]
theorem FS_v (hF : FS I J I1 J1) : vC I1 = vC I := FV_vC (FS_FV hF)
theorem FS_m (hF : FS I J I1 J1) (h : Inv I J) : Vm I1 ∧ M0 I1 J1 := ⟨FV_m (FS_FV hF) (Vs_m h.1), M0_FV (FS_FV hF) h.2.2.2.2.1⟩
theorem FS_P {k : Int} (hF : FS I J I1 J1) : PG I1 k = PG I k := FV_PG (FS_FV hF)
/-- the class takes its balance of the vessel -/
theorem c_takeV {v : am_V} (hW : Wf v) (hR : RS I J 1 v) (hQ : ∀ I' J' A', RB I' J' A' 236 1 v 0 0 (asdZ v) → RS I' J' 1 v → FS I J I' J' → Q none (mm I' J' A')) : wpC E d 1 [.ref 236, .ref 1] (mm I J A) Q :=
  c_take (Or.inl ⟨rfl, rfl⟩) hW hR (fun I' J' A' hRB hFB => hQ I' J' A' hRB (RS_eq (fun a h1 h2 => FB_FS (Or.inl rfl) hFB a (by omega)) hR) (FB_FS (Or.inl rfl) hFB))
theorem m_up (hV : Vm I) (h0 : M0 I J) (h1 : I 266 0 = 1 → Q (some (.long (lZ (upZ (vC I) 0)))) (mm I J A)) (hn : ¬ I 266 0 = 1 → Q (some (.long (lZ (-1)))) (mm I J A)) : wpC E (d + 2) 175 [.ref 265] (mm I J A) Q := by
  refine wc (hs := []) 20 (by decide) (And.intro rfl (m_isShip (fun p => wF (by decide) ?_) (fun p => wt rfl (hn p))))
  have := h1 p
  refine And.intro rfl (m_upward (hV p).1 ?_)
  rw [h0.2]; exact this
theorem op_up (h : Inv I J) : wpC E (d + 7) 100 [.ref 0] (mm I J A) (QJ E (d + 7) 175 []) := by
  rcases h.1 with ⟨g0, g1⟩ | ⟨g0, hW, hH, hR, h8⟩
  · have n0 : ¬ I 266 0 = 1 := by rw [g0]; decide
    exact wc (hs := []) 20 (by decide) (wt g1 (rdJ_mk h FS_refl (m_up (Vs_m h.1) h.2.2.2.2.1 (fun q => absurd q n0) (fun _ => ⟨rfl, rfl⟩))))
  · have b1 : ¬ I 1 0 = 0 := by have : I 1 0 = 1 := hR.1.1; rw [this]; decide
    refine wc (hs := []) 40 (by decide) (wF b1 (And.intro rfl (c_takeV hW hR (fun I1 J1 A1 hB hR1 hF => ?_))))
    have H : QJ E (d + 7) 175 [] (some (.long (lZ (upZ (vC I) 0)))) (mm I1 J1 A1) := rdJ_mk h hF (m_up (FS_m hF h).1 (FS_m hF h).2 (fun _ => ⟨by rw [FS_v hF], rfl⟩) (fun q => absurd ((FS_0 hF).trans g0) q))
    exact q_l H hB.2.2.2.1
theorem m_turn {z : Int} (hV : Vm I) (h0 : M0 I J) (hz : -2147483648 ≤ z ∧ z ≤ 2147483647) (h1 : I 266 0 = 1 → -60 ≤ z ∧ z ≤ 60 → Q (some (.long (lZ (trnZ (vC I) 0 0 (asdZ (vC I)) z)))) (mm I J A)) (hn : ¬ (I 266 0 = 1 ∧ -60 ≤ z ∧ z ≤ 60) → Q (some (.long (lZ 0))) (mm I J A)) : wpC E (d + 4) 176 [.ref 265, .int (iZ z)] (mm I J A) Q := by
  refine wc (hs := []) 30 (by decide) (And.intro rfl (m_isShip (fun p => wF (by decide) ?_) (fun p => wt rfl (hn fun q => p q.1))))
  have hW : Wf (vI I) := (hV p).1
  have ab := asdB hW
  refine And.intro rfl (mW (z := z) (lo := -60) (hi := 60) (z_l (by omega) (by omega)) (by decide +kernel) rfl hz (by omega) (by omega) (fun g => wF (by decide) ?_) (fun g => wt rfl (hn fun q => g q.2)))
  refine And.intro rfl (m_asideNow hW (And.intro rfl (m_turnBy (a := asdZ (vI I)) (z := z) (M0_WM hW h0) ⟨by omega, by omega⟩ g ?_)))
  rw [M0_tM h0]
  exact h1 p g
theorem op_turn {z : Int} (h : Inv I J) (hz : -2147483648 ≤ z ∧ z ≤ 2147483647) : wpC E (d + 7) 101 [.ref 0, .int (iZ z)] (mm I J A) (QJ E (d + 7) 176 [.int (iZ z)]) := by
  rcases h.1 with ⟨g0, g1⟩ | ⟨g0, hW, hH, hR, h8⟩
  · have n0 : ¬ I 266 0 = 1 := by rw [g0]; decide
    exact wc (hs := []) 20 (by decide) (wt g1 (rdJ_mk h FS_refl (m_turn (Vs_m h.1) h.2.2.2.2.1 hz (fun q => absurd q n0) (fun _ => ⟨rfl, rfl⟩))))
  · have b1 : ¬ I 1 0 = 0 := by have : I 1 0 = 1 := hR.1.1; rw [this]; decide
    have ab := asdB hW
    refine wc (hs := []) 40 (by decide) (wF b1 ?_)
    refine And.intro rfl (cW (z := z) (lo := -60) (hi := 60) rfl rfl rfl hz (by omega) (by omega) (fun g => wF (by decide) ?_) (fun g => wt rfl (rdJ_mk h FS_refl (m_turn (Vs_m h.1) h.2.2.2.2.1 hz (fun _ q => absurd q g) (fun _ => ⟨rfl, rfl⟩)))))
    refine And.intro rfl (c_takeV hW hR (fun I1 J1 A1 hB hR1 hF => ?_))
    refine And.intro rfl (c_turning (Or.inl ⟨rfl, rfl⟩) hB hW WW0 ⟨by omega, by omega⟩ g rfl ?_)
    exact rdJ_mk h hF (m_turn (FS_m hF h).1 (FS_m hF h).2 hz (fun _ _ => ⟨by rw [FS_v hF], rfl⟩) (fun q => absurd ⟨(FS_0 hF).trans g0, g⟩ q))
theorem m_rest {z : Int} (hV : Vm I) (h0 : M0 I J) (hz : -2147483648 ≤ z ∧ z ≤ 2147483647) (h1 : I 266 0 = 1 → -60 ≤ z ∧ z ≤ 60 → Q (some (.int (iZ (rstZ (trnZ (vC I) 0 0 (asdZ (vC I))) z)))) (mm I J A)) (hn : ¬ (I 266 0 = 1 ∧ -60 ≤ z ∧ z ≤ 60) → Q (some (.int (iZ (-100)))) (mm I J A)) : wpC E (d + 6) 177 [.ref 265, .int (iZ z)] (mm I J A) Q := by
  refine wc (hs := []) 30 (by decide) (And.intro rfl (m_isShip (fun p => wF (by decide) ?_) (fun p => wt rfl (hn fun q => p q.1))))
  have hW : Wf (vI I) := (hV p).1
  refine And.intro rfl (mW (z := z) (lo := -60) (hi := 60) (z_l (by omega) (by omega)) (by decide +kernel) rfl hz (by omega) (by omega) (fun g => wF (by decide) ?_) (fun g => wt rfl (hn fun q => g q.2)))
  refine And.intro rfl (m_restFrom (M0_WM hW h0) g ?_)
  rw [M0_tM h0]
  exact h1 p g
theorem op_rest {z : Int} (h : Inv I J) (hz : -2147483648 ≤ z ∧ z ≤ 2147483647) : wpC E (d + 7) 102 [.ref 0, .int (iZ z)] (mm I J A) (QI E (d + 7) 177 [.int (iZ z)]) := by
  rcases h.1 with ⟨g0, g1⟩ | ⟨g0, hW, hH, hR, h8⟩
  · have n0 : ¬ I 266 0 = 1 := by rw [g0]; decide
    exact wc (hs := []) 20 (by decide) (wt g1 (rd_mk h FS_refl (m_rest (Vs_m h.1) h.2.2.2.2.1 hz (fun q => absurd q n0) (fun _ => ⟨rfl, rfl⟩))))
  · have b1 : ¬ I 1 0 = 0 := by have : I 1 0 = 1 := hR.1.1; rw [this]; decide
    have ab := asdB hW
    refine wc (hs := []) 40 (by decide) (wF b1 ?_)
    refine And.intro rfl (cW (z := z) (lo := -60) (hi := 60) rfl rfl rfl hz (by omega) (by omega) (fun g => wF (by decide) ?_) (fun g => wt rfl (rd_mk h FS_refl (m_rest (Vs_m h.1) h.2.2.2.2.1 hz (fun _ q => absurd q g) (fun _ => ⟨rfl, rfl⟩)))))
    refine And.intro rfl (c_takeV hW hR (fun I1 J1 A1 hB hR1 hF => ?_))
    refine And.intro rfl (c_restFrom (N := 120) (Or.inl ⟨rfl, rfl⟩) hB hW WW0 ⟨by omega, by omega⟩ (by omega) g rfl rfl ?_)
    exact rd_mk h hF (m_rest (FS_m hF h).1 (FS_m hF h).2 hz (fun _ _ => ⟨by rw [FS_v hF]; rfl, rfl⟩) (fun q => absurd ⟨(FS_0 hF).trans g0, g⟩ q))
theorem m_lever {z : Int} (hV : Vm I) (hz : -2147483648 ≤ z ∧ z ≤ 2147483647) (h1 : I 266 0 = 1 → 0 ≤ z ∧ z ≤ 60 → Q (some (.int (iZ (armZ (vC I) z.toNat)))) (mm I J A)) (hn : ¬ (I 266 0 = 1 ∧ 0 ≤ z ∧ z ≤ 60) → Q (some (.int (iZ (-1)))) (mm I J A)) : wpC E (d + 2) 178 [.ref 265, .int (iZ z)] (mm I J A) Q := by
  refine wc (hs := []) 30 (by decide) (And.intro rfl (m_isShip (fun p => wF (by decide) ?_) (fun p => wt rfl (hn fun q => p q.1))))
  refine And.intro rfl (mW (z := z) (lo := 0) (hi := 60) (z_l (by omega) (by omega)) rfl rfl hz (by omega) (by omega) (fun g => wF (by decide) ?_) (fun g => wt rfl (hn fun q => g q.2)))
  exact And.intro rfl (m_leverAtE (n := z.toNat) (by congr 1; omega) (by omega) (hV p).1.2.1 (h1 p g))
theorem op_lever {z : Int} (h : Inv I J) (hz : -2147483648 ≤ z ∧ z ≤ 2147483647) : wpC E (d + 7) 103 [.ref 0, .int (iZ z)] (mm I J A) (QI E (d + 7) 178 [.int (iZ z)]) := by
  have F : ¬ (I 266 0 = 1 ∧ 0 ≤ z ∧ z ≤ 60) → QI E (d + 7) 178 [.int (iZ z)] (some (.int (iZ (-1)))) (mm I J A) := fun q => rd_mk h FS_refl (m_lever (Vs_m h.1) hz (fun p1 p2 => absurd ⟨p1, p2⟩ q) (fun _ => ⟨rfl, rfl⟩))
  rcases h.1 with ⟨g0, g1⟩ | ⟨g0, hW, hH, hR, h8⟩
  · exact wc (hs := []) 20 (by decide) (wt g1 (F fun q => by rw [q.1] at g0; cases g0))
  · have b1 : ¬ I 1 0 = 0 := by have : I 1 0 = 1 := hR.1.1; rw [this]; decide
    refine wc (hs := []) 40 (by decide) (wF b1 ?_)
    refine And.intro rfl (cW (z := z) (lo := 0) (hi := 60) rfl rfl rfl hz (by omega) (by omega) (fun g => wF (by decide) ?_) (fun g => wt rfl (F fun q => g q.2)))
    have H : QI E (d + 7) 178 [.int (iZ z)] (some (.int (iZ (armZ (vC I) z.toNat)))) (mm I J A) := rd_mk h FS_refl (m_lever (Vs_m h.1) hz (fun _ _ => ⟨rfl, rfl⟩) (fun q => absurd ⟨g0, g⟩ q))
    refine And.intro (z_in (by omega) (by omega) (by omega)) (q_i H ?_)
    · show I 2 (iZ z).toNatClampNeg = _
      rw [z_cl (by omega) (by omega)]
      exact hR.2.1 z.toNat (by omega)
def ofZ (v : am_V) (k : Nat) (w : Int) : Int := if w = 0 then v 276 k else if w = 1 then capZ v k else if w = 2 then levZ v k else if w = 3 then v 274 k else if w = 4 then v 275 k else if w = 5 then v 270 k else if w = 6 then v 271 k else if w = 7 then v 272 k else if w = 8 then v 273 k else -1000
theorem m_of {k w : Int} (hV : Vm I) (hk : -2147483648 ≤ k ∧ k ≤ 2147483647) (hw : -2147483648 ≤ w ∧ w ≤ 2147483647) (h1 : PG I k → Q (some (.int (iZ (ofZ (vC I) k.toNat w)))) (mm I J A)) (hn : ¬ PG I k → Q (some (.int (iZ (-1000)))) (mm I J A)) : wpC E (d + 2) 179 [.ref 265, .int (iZ k), .int (iZ w)] (mm I J A) Q := by
  refine wc (hs := []) 40 (by decide) (And.intro rfl (m_isPlaceZ hV hk rfl (fun p => wF (by decide) ?_) (fun p => wt rfl (hn p))))
  have hW : Wf (vI I) := (hV p.1).1
  have h12 := nP12 hW
  have p2 : 0 ≤ k ∧ k < nP (vI I) := p.2
  have wp := hW.2.2.1 k.toNat (by omega)
  have hin : vp_in (iZ k) 12 := z_in (by omega) (by omega) (by omega)
  have hcl : (iZ k).toNatClampNeg = k.toNat := z_cl (by omega) (by omega)
  have ek : iZ k = iZ (k.toNat : Int) := by congr 1; omega
  have g : ∀ a, I a (iZ k).toNatClampNeg = iZ (vI I a k.toNat) := fun a => by rw [hcl]; exact vI_eq I _ _
  have H := h1 p
  by_cases hc : 0 ≤ w ∧ w ≤ 8
  · have hc : w = 0 ∨ w = 1 ∨ w = 2 ∨ w = 3 ∨ w = 4 ∨ w = 5 ∨ w = 6 ∨ w = 7 ∨ w = 8 := by omega
    rcases hc with rfl | rfl | rfl | rfl | rfl | rfl | rfl | rfl | rfl
    · exact wtb 0 rfl rfl rfl (And.intro hin (q_i H (g 276)))
    · exact wtb 1 rfl rfl rfl (And.intro rfl (m_capE ek (by omega) wp H))
    · exact wtb 2 rfl rfl rfl (And.intro rfl (m_levelE ek (by omega) wp H))
    · exact wtb 3 rfl rfl rfl (And.intro hin (q_i H (g 274)))
    · exact wtb 4 rfl rfl rfl (And.intro hin (q_i H (g 275)))
    · exact wtb 5 rfl rfl rfl (And.intro hin (q_i H (g 270)))
    · exact wtb 6 rfl rfl rfl (And.intro hin (q_i H (g 271)))
    · exact wtb 7 rfl rfl rfl (And.intro hin (q_i H (g 272)))
    · exact wtb 8 rfl rfl rfl (And.intro hin (q_i H (g 273)))
  · refine wtdE (z_toInt (by omega) (by omega)) (by omega) rfl (q_i H ?_)
    unfold ofZ
    rw [if_neg (by omega), if_neg (by omega), if_neg (by omega), if_neg (by omega), if_neg (by omega), if_neg (by omega), if_neg (by omega), if_neg (by omega), if_neg (by omega)]
    rfl
theorem op_of {k w : Int} (h : Inv I J) (hk : -2147483648 ≤ k ∧ k ≤ 2147483647) (hw : -2147483648 ≤ w ∧ w ≤ 2147483647) : wpC E (d + 7) 104 [.ref 0, .int (iZ k), .int (iZ w)] (mm I J A) (QI E (d + 7) 179 [.int (iZ k), .int (iZ w)]) := by
  have F : ¬ PG I k → QI E (d + 7) 179 [.int (iZ k), .int (iZ w)] (some (.int (iZ (-1000)))) (mm I J A) := fun q => rd_mk h FS_refl (m_of (Vs_m h.1) hk hw (fun p => absurd p q) (fun _ => ⟨rfl, rfl⟩))
  have H : PG I k → QI E (d + 7) 179 [.int (iZ k), .int (iZ w)] (some (.int (iZ (ofZ (vC I) k.toNat w)))) (mm I J A) := fun p => rd_mk h FS_refl (m_of (Vs_m h.1) hk hw (fun _ => ⟨rfl, rfl⟩) (fun q => absurd p q))
  refine wc (hs := []) 40 (by decide) (And.intro rfl (c_hasPlace h.1 hk rfl (fun p => wF (by decide) ?_) (fun p => wt rfl (F p))))
  obtain ⟨hW, hH, hR, h8⟩ := Vs_on h.1 p.1
  have h12 := nP12 hW
  have p2 := p.2
  have hin : vp_in (iZ k) 12 := z_in (by omega) (by omega) (by omega)
  have hcl : (iZ k).toNatClampNeg = k.toNat := z_cl (by omega) (by omega)
  obtain ⟨q1, q2, q3, q4, q5, q6, q7, q8, q9, q10, q11⟩ := id (hR.2.2.1.2.1 k.toNat (by omega))
  have H := H p
  by_cases hc : 0 ≤ w ∧ w ≤ 8
  · have hc : w = 0 ∨ w = 1 ∨ w = 2 ∨ w = 3 ∨ w = 4 ∨ w = 5 ∨ w = 6 ∨ w = 7 ∨ w = 8 := by omega
    rcases hc with rfl | rfl | rfl | rfl | rfl | rfl | rfl | rfl | rfl
    · exact wtb 0 rfl rfl rfl (And.intro hin (q_i H ((congrArg (I 11) hcl).trans q8)))
    · exact wtb 1 rfl rfl rfl (And.intro hin (q_i H ((congrArg (I 10) hcl).trans q7)))
    · exact wtb 2 rfl rfl rfl (And.intro hin (q_i H ((congrArg (I 12) hcl).trans q9)))
    · exact wtb 3 rfl rfl rfl (And.intro hin (q_i H ((congrArg (I 8) hcl).trans q5)))
    · exact wtb 4 rfl rfl rfl (And.intro hin (q_i H ((congrArg (I 9) hcl).trans q6)))
    · exact wtb 5 rfl rfl rfl (And.intro hin (q_i H ((congrArg (I 4) hcl).trans q1)))
    · exact wtb 6 rfl rfl rfl (And.intro hin (q_i H ((congrArg (I 5) hcl).trans q2)))
    · exact wtb 7 rfl rfl rfl (And.intro hin (q_i H ((congrArg (I 6) hcl).trans q3)))
    · exact wtb 8 rfl rfl rfl (And.intro hin (q_i H ((congrArg (I 7) hcl).trans q4)))
  · refine wtdE (z_toInt (by omega) (by omega)) (by omega) rfl (q_i H ?_)
    unfold ofZ
    rw [if_neg (by omega), if_neg (by omega), if_neg (by omega), if_neg (by omega), if_neg (by omega), if_neg (by omega), if_neg (by omega), if_neg (by omega), if_neg (by omega)]
    rfl
theorem m_flows {k z : Int} (hV : Vm I) (hk : -2147483648 ≤ k ∧ k ≤ 2147483647) (hz : -2147483648 ≤ z ∧ z ≤ 2147483647) (h1 : PG I k → 0 ≤ z ∧ z ≤ 60 → Q (some (.long (lZ (runZ (vC I) k.toNat z)))) (mm I J A)) (hn : ¬ (PG I k ∧ 0 ≤ z ∧ z ≤ 60) → Q (some (.long (lZ (-1)))) (mm I J A)) : wpC E (d + 3) 180 [.ref 265, .int (iZ k), .int (iZ z)] (mm I J A) Q := by
  refine wc (hs := []) 40 (by decide) (And.intro rfl (m_isPlaceZ hV hk rfl (fun p => wF (by decide) ?_) (fun p => wt rfl (hn fun q => p q.1))))
  have hW : Wf (vI I) := (hV p.1).1
  have h12 := nP12 hW
  have p2 : 0 ≤ k ∧ k < nP (vI I) := p.2
  refine And.intro rfl (mW (z := z) (lo := 0) (hi := 60) (z_l (by omega) (by omega)) rfl rfl hz (by omega) (by omega) (fun g => wF (by decide) (And.intro rfl ?_)) (fun g => wt rfl (hn fun q => g q.2)))
  have ek : iZ k = nI k.toNat := by rw [← iZ_nat]; congr 1; omega
  show wpC E (d + 2) 163 [.ref 265, .int (iZ k), .int (iZ z)] (mm I J A) _
  rw [ek]
  exact m_runs (by omega) (hW.2.2.1 k.toNat (by omega)) g.1 (by omega) (h1 p g)
theorem op_flows {k z : Int} (h : Inv I J) (hk : -2147483648 ≤ k ∧ k ≤ 2147483647) (hz : -2147483648 ≤ z ∧ z ≤ 2147483647) : wpC E (d + 7) 105 [.ref 0, .int (iZ k), .int (iZ z)] (mm I J A) (QJ E (d + 7) 180 [.int (iZ k), .int (iZ z)]) := by
  have F : ¬ (PG I k ∧ 0 ≤ z ∧ z ≤ 60) → QJ E (d + 7) 180 [.int (iZ k), .int (iZ z)] (some (.long (lZ (-1)))) (mm I J A) := fun q => rdJ_mk h FS_refl (m_flows (Vs_m h.1) hk hz (fun p1 p2 => absurd ⟨p1, p2⟩ q) (fun _ => ⟨rfl, rfl⟩))
  refine wc (hs := []) 60 (by decide) (And.intro rfl (c_hasPlace h.1 hk rfl (fun p => wF (by decide) ?_) (fun p => wt rfl (F fun q => p q.1))))
  refine And.intro rfl (cW (z := z) (lo := 0) (hi := 60) rfl rfl rfl hz (by omega) (by omega) (fun g => wF (by decide) ?_) (fun g => wt rfl (F fun q => g q.2)))
  obtain ⟨hW, hH, hR, h8⟩ := Vs_on h.1 p.1
  have h12 := nP12 hW
  have p2 := p.2
  have hin : vp_in (iZ k) 12 := z_in (by omega) (by omega) (by omega)
  have hcl : (iZ k).toNatClampNeg = k.toNat := z_cl (by omega) (by omega)
  have w := hW.2.2.1 k.toNat (by omega)
  have rb := runB w (z := z) g.1 (by omega)
  have sr := sinR (z := z) g.1 (by omega)
  have sb := (sprB w).2.2
  have bb := (blkB w).2
  obtain ⟨q1, q2, q3, q4, q5, q6, q7, q8, q9, q10, q11⟩ := id (hR.2.2.1.2.1 k.toNat (by omega))
  have H : QJ E (d + 7) 180 [.int (iZ k), .int (iZ z)] (some (.long (lZ (runZ (vC I) k.toNat z)))) (mm I J A) := rdJ_mk h FS_refl (m_flows (Vs_m h.1) hk hz (fun _ _ => ⟨rfl, rfl⟩) (fun q => absurd ⟨p, g⟩ q))
  refine And.intro hin (And.intro (z_in (by omega) (by omega) (by omega)) (And.intro (by decide) (And.intro hin (q_l H ?_))))
  · have e1 : J 13 (iZ k).toNatClampNeg = lZ (sprZ (vC I) k.toNat) := (congrArg (J 13) hcl).trans q10
    have e2 : I 14 (iZ k).toNatClampNeg = iZ (blkZ (vC I) k.toNat) := (congrArg (I 14) hcl).trans q11
    have e3 : am_sin (iZ z).toNatClampNeg = iZ (sinZ z) := by rw [z_cl (by omega) (by omega)]; exact z_sin g.1 (by omega)
    show (if (I 14 (iZ k).toNatClampNeg).toInt64 < J 13 (iZ k).toNatClampNeg * (am_sin (iZ z).toNatClampNeg).toInt64 / lZ 1000 then (I 14 (iZ k).toNatClampNeg).toInt64 else J 13 (iZ k).toNatClampNeg * (am_sin (iZ z).toNatClampNeg).toInt64 / lZ 1000) = _
    rw [e1, e2, e3]
    have m2 := Int.ediv_nonneg (a := sprZ (vC I) k.toNat * sinZ z) (b := 1000) rb.1.1 (by omega)
    simp (disch := omega) only [z_i8, z_i16, z_of, z_ofN, z_lofN, z_0, z_1, z_m1, z_l0, z_l1, iZ_add, iZ_sub, iZ_mul, iZ_neg, lZ_add, lZ_sub, lZ_mul, lZ_neg, z_div, z_ldiv, z_l, z_i, z_lt, z_le, z_eq, z_llt, z_lle, z_leq, z_cgt, z_cge, z_clt, z_cle, z_ceq, z_cl, z_nat, Int.toNat_natCast, mm_I, mm_J, z_cln, z_abs, z_max, z_min, z_lmax, z_lmin, z_sin, Int.cast_ofNat_Int, uI_I, uI_J, uL_I, uL_J, uA_I, uA_J, sI_eq, sI_ne, sL_eq, sL_ne, up_eq, up_ne, uL_eq, uL_ne, z_toInt, Int.reduceToNat]
    rfl
end RD2
