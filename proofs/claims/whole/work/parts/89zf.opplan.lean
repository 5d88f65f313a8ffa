/-! ===== plan: both ===== -/
section OPPLAN
variable {E : Nat × (Nat → Int32)} {d t r n : Nat} {I I9 : Nat → Nat → Int32} {J : Nat → Nat → Int64} {A : Nat → Option Nat} {Q : Option Value → am_M → Prop} {T : Nat → Int}
theorem Inv_pl (h : Inv I J) (hC : ∀ a, (1 ≤ a ∧ a < 168) ∨ (266 ≤ a ∧ a ≤ 289) ∨ (304 ≤ a ∧ a ≤ 305) → I9 a = I a) (hT : I9 0 5 = iZ 0) (hT2 : I9 265 27 = iZ 0) (h25 : I9 265 25 = I 265 25) (h36 : I9 265 36 = I 265 36) (hP : Pn I9) : Inv I9 J := by
  obtain ⟨hV, hI, hT', hP', m0, h19⟩ := h
  have ev : vC I9 = vC I := vC_eq (fun a h1 h2 => hC a (by omega))
  refine ⟨?_, fun k hk => ?_, ⟨0, by omega, hT, hT2, fun i hi => absurd hi (Nat.not_lt_zero i)⟩, hP, ⟨by have := m0.1; unfold vI at this ⊢; rw [h25]; exact this, m0.2⟩, by rw [h36]; exact h19⟩
  · unfold Vs
    rw [ev, hC 266 (by omega), hC 1 (by omega)]
    rcases hV with h | ⟨g1, g2, g3, g4, g5⟩
    · exact Or.inl h
    · exact Or.inr ⟨g1, g2, g3, RS_eq (fun a q1 q2 => ⟨hC a (by omega), rfl⟩) g4, g5⟩
  · exact Im_eq hk (hI k hk) (hC 305 (by omega)) (imV_eq (hC 304 (by omega))) (fun a q1 q2 => ⟨hC a (by omega), rfl⟩) (fun q => by rw [hC 266 (by omega)]; exact q)
theorem MG_fp {r' : Nat} {g : Nat → Nat → Int} (hr : r' < r) (hg : WfG g) (h : MG I r' g) (e0 : I9 293 r' = I 293 r') (e1 : ∀ j, j < 300 * r → I9 291 j = I 291 j ∧ I9 292 j = I 292 j) (e2 : ∀ a j, 294 ≤ a → a ≤ 300 → j < 12 * r → I9 a j = I a j) : MG I9 r' g := by
  refine ⟨by have := h.1; unfold vI at this ⊢; rw [e0]; exact this, fun i hi => ?_⟩
  have w := hg.2 i hi
  have b12 := hg.1.2
  have f : ∀ a, 294 ≤ a → a ≤ 300 → vI I9 a (12 * r' + i) = vI I a (12 * r' + i) := fun a q1 q2 => by
    unfold vI
    rw [e2 a _ q1 q2 (by omega)]
  obtain ⟨h1, h2, h3, h4, h5, h6, h7, h8⟩ := h.2 i hi
  have w6 := w.2.2.2.2.2.1
  refine ⟨by rw [f 294 (by omega) (by omega)]; exact h1, fun q => by rw [f 295 (by omega) (by omega)]; exact h2 q, fun q => by rw [f 296 (by omega) (by omega)]; exact h3 q, fun q => by rw [f 297 (by omega) (by omega)]; exact h4 q, by rw [f 298 (by omega) (by omega)]; exact h5, by rw [f 299 (by omega) (by omega)]; exact h6, by rw [f 300 (by omega) (by omega)]; exact h7, fun k hk => ?_⟩
  have := h8 k hk
  have ee := e1 (300 * r' + k) (by omega)
  unfold vI at this ⊢
  rw [ee.1, ee.2]; exact this
/-- a row of the plan kept -/
def GRw (g : Nat → Nat → Int) (j : Nat) (rc : Nat → Int) : Prop := g 1 j = rc 1 ∧ (rc 1 = 19 ∨ rc 1 = 20 ∨ rc 1 = 21 → g 2 j = rc 2) ∧ (rc 1 = 21 → g 3 j = rc 3) ∧ (rc 1 ≠ 22 → g 4 j = rc 4) ∧ g 5 j = rc 5 ∧ g 6 j = rc 6 ∧ g 7 j = rc 7
theorem new_wfi {g : Nat → Nat → Int} {L : List Int} {rc : Nat → Int} {j : Nat} (hL : L.length ≤ 300) (h8 : ∀ k, k < L.length → g 8 k = L.getD k 0) (hg : GRw g j rc) (hw : RWf L rc) : WfGi g j := by
  obtain ⟨a1, a2, a3, a4, a5, a6, a7⟩ := hg
  obtain ⟨b1, b2, b3, b4, b5, b6, b7, b8⟩ := hw
  unfold WfGi
  rw [a1, a5, a6, a7]
  refine ⟨b1, fun q => by rw [a2 q]; exact b2 q, fun q => by rw [a3 q]; exact b3 q, fun q => by rw [a4 q]; exact b4 q, fun q => by rw [a4 (by omega)]; exact b5 q, by omega, fun q => okN_congr _ _ _ (fun k q1 q2 => (h8 k (by omega)).symm) (b7 q), fun q => okN_congr _ _ _ (fun k q1 q2 => (h8 k (by omega)).symm) (b8 q)⟩
theorem new_mgi {g : Nat → Nat → Int} {L : List Int} {rc : Nat → Int} {j : Nat} (hL : L.length ≤ 300) (h8 : ∀ k, k < L.length → g 8 k = L.getD k 0) (hg : GRw g j rc) (hw : RWf L rc) (hR : RRi I9 (12 * r + j) rc) (hE : ∀ k, k < L.length → ENT (L.getD k 0) (vI I9 291 (300 * r + k)) (vI I9 292 (300 * r + k))) : MGi I9 r g j := by
  obtain ⟨a1, a2, a3, a4, a5, a6, a7⟩ := hg
  obtain ⟨b1, b2, b3, b4, b5, b6, b7, b8⟩ := hw
  obtain ⟨k, k5, c1, c2, c3, c4, c5, c6, c7⟩ := hR
  have ck := (ctx_cd k k5).1
  have tm : tmp (rc 1) = k := by
    rw [c1, ck]
    have hc : k = 0 ∨ k = 1 ∨ k = 2 ∨ k = 3 ∨ k = 4 := by omega
    rcases hc with rfl | rfl | rfl | rfl | rfl <;> rfl
  have rk : rc 1 = (if k = 3 then 16 else if k = 4 then 22 else 19 + (k : Int)) := by
    rw [c1, ck]
    have hc : k = 0 ∨ k = 1 ∨ k = 2 ∨ k = 3 ∨ k = 4 := by omega
    rcases hc with rfl | rfl | rfl | rfl | rfl <;> rfl
  have vz : ∀ {a i : Nat} {z : Int}, I9 a i = iZ z → -1000000 ≤ z → z ≤ 1000000 → vI I9 a i = z := fun {a i z} q q1 q2 => by
    unfold vI
    rw [q]; exact z_toInt (by omega) (by omega)
  unfold MGi
  rw [a1, a5, a6, a7, tm]
  refine ⟨vz c2 (by omega) (by omega), fun q => ?_, fun q => ?_, fun q => ?_, vz c5 (by omega) (by omega), vz c6 (by omega) (by omega), vz c7 (by omega) (by omega), fun i hi => ?_⟩
  · have b := b2 q
    rw [a2 q]
    have k3 : k < 3 := by
      rcases Nat.lt_or_ge k 3 with w | w
      · exact w
      · exfalso
        have : k = 3 ∨ k = 4 := by omega
        rcases this with rfl | rfl
        · have rk : rc 1 = 16 := rk
          omega
        · have rk : rc 1 = 22 := rk
          omega
    exact vz (c3 k3).1 (by omega) (by omega)
  · have b := b3 q
    rw [a3 q]
    have k3 : k < 3 := by
      rcases Nat.lt_or_ge k 3 with w | w
      · exact w
      · exfalso
        have : k = 3 ∨ k = 4 := by omega
        rcases this with rfl | rfl
        · have rk : rc 1 = 16 := rk
          omega
        · have rk : rc 1 = 22 := rk
          omega
    exact vz (c3 k3).2 (by omega) (by omega)
  · have b := b4 q
    rw [a4 q]
    have k4 : k ≠ 4 := fun w => by
      subst w
      exact q rk
    exact vz (c4 k4) (by omega) (by omega)
  · rw [h8 i (by omega)]
    exact hE i (by omega)
theorem plV_c2 {r' : Nat} (h : ∀ j, j < 9 → I9 (168 + 9 * r' + j) = I (168 + 9 * r' + j)) : Ge (plV I (168 + 9 * r')) (plV I9 (168 + 9 * r')) := by
  have k : ∀ j, j < 9 → plV I9 (168 + 9 * r') j = plV I (168 + 9 * r') j := fun j hj => by
    funext i
    unfold plV vI
    rw [h j hj]
  exact ⟨k 0 (by omega), k 1 (by omega), k 2 (by omega), k 3 (by omega), k 4 (by omega), k 5 (by omega), k 6 (by omega), k 7 (by omega), k 8 (by omega)⟩
/-- the plans before stay -/
theorem old_pl {r' : Nat} (hr : r' < r) (h9 : ∀ a, 168 ≤ a → a < 168 + 9 * r → I9 a = I a) (e0 : I9 293 r' = I 293 r') (e1 : ∀ j, j < 300 * r → I9 291 j = I 291 j ∧ I9 292 j = I 292 j) (e2 : ∀ a j, 294 ≤ a → a ≤ 300 → j < 12 * r → I9 a j = I a j) (h : WfG (plV I (168 + 9 * r')) ∧ MG I r' (plV I (168 + 9 * r'))) : WfG (plV I9 (168 + 9 * r')) ∧ MG I9 r' (plV I9 (168 + 9 * r')) := by
  have ge := plV_c2 (I := I) (I9 := I9) (r' := r') (fun j hj => h9 _ (by omega) (by omega))
  exact ⟨Ge_G ge h.1, Ge_MG ge (MG_fp hr h.1 h.2 e0 e1 e2)⟩
theorem TM_eq {I' : Nat → Nat → Int32} (h : TM I T t) (h1 : I' 265 27 = I 265 27) (h2 : I' 290 = I 290) : TM I' T t := ⟨h.1, by rw [h1]; exact h.2.1, fun i hi => ⟨(h.2.2 i hi).1, by rw [h2]; exact (h.2.2 i hi).2⟩⟩
/-- the plan read, as both hold it -/
theorem new_pl {L : List Int} {acc : List (Nat → Int)} {I1 I5 : Nat → Nat → Int32} (hr : r < 6) (la : 1 ≤ acc.length ∧ acc.length ≤ 12) (hL : L.length ≤ 300) (hx : ∀ x, x ∈ L → 0 ≤ x ∧ x ≤ 100099) (hw : ∀ j, j < acc.length → RWf L (acc.getD j (fun _ => 0)))
    (r0 : I1 224 0 = iZ (acc.length : Nat)) (rows : ∀ j, j < acc.length → RCi I1 j (acc.getD j (fun _ => 0))) (cd : ∀ j, j < L.length → I1 232 j = iZ (L.getD j 0))
    (p0 : I9 (168 + 9 * r) 0 = I1 224 0) (pk : ∀ k j, 1 ≤ k → k ≤ 7 → j < 12 → I9 (168 + 9 * r + k) j = I1 (224 + k) j) (p8 : ∀ j, j < L.length → I9 (168 + 9 * r + 8) j = I1 232 j)
    (n0 : I9 293 r = iZ (acc.length : Nat)) (rr : ∀ j, j < acc.length → RRi I9 (12 * r + j) (acc.getD j (fun _ => 0))) (hE : ∀ k, k < L.length → ENT (L.getD k 0) (vI I9 291 (300 * r + k)) (vI I9 292 (300 * r + k))) : WfG (plV I9 (168 + 9 * r)) ∧ MG I9 r (plV I9 (168 + 9 * r)) := by
  have g0 : plV I9 (168 + 9 * r) 0 0 = (acc.length : Nat) := by
    show (I9 (168 + 9 * r + 0) 0).toInt = _
    rw [Nat.add_zero, p0, r0]; exact z_toInt (by omega) (by omega)
  have g8 : ∀ k, k < L.length → plV I9 (168 + 9 * r) 8 k = L.getD k 0 := fun k hk => by
    show (I9 (168 + 9 * r + 8) k).toInt = _
    have m : L.getD k 0 ∈ L := by
      rw [List.getD_eq_getElem?_getD, List.getElem?_eq_getElem hk]
      exact List.getElem_mem hk
    have := hx _ m
    rw [p8 k hk, cd k hk]; exact z_toInt (by omega) (by omega)
  have gr : ∀ j, j < acc.length → GRw (plV I9 (168 + 9 * r)) j (acc.getD j (fun _ => 0)) := fun j hj => by
    have w := hw j hj
    have c := rows j hj
    generalize acc.getD j (fun _ => 0) = rc at w c
    obtain ⟨b1, b2, b3, b4, b5, b6, b7, b8⟩ := w
    obtain ⟨c1, c2, c3, c4, c5, c6, c7⟩ := c
    have e : ∀ (k : Nat) (z : Int), 1 ≤ k → k ≤ 7 → I1 (224 + k) j = iZ z → -1000000 ≤ z → z ≤ 1000000 → plV I9 (168 + 9 * r) k j = z := fun k z k1 k2 q q1 q2 => by
      show (I9 (168 + 9 * r + k) j).toInt = z
      rw [pk k j k1 k2 (by omega), q]; exact z_toInt (by omega) (by omega)
    exact ⟨e 1 _ (by omega) (by omega) c1 (by omega) (by omega), fun q => e 2 _ (by omega) (by omega) (c2 q) (by have := b2 q; omega) (by have := b2 q; omega), fun q => e 3 _ (by omega) (by omega) (c3 q) (by have := b3 q; omega) (by have := b3 q; omega), fun q => e 4 _ (by omega) (by omega) (c4 q) (by have := b4 q; omega) (by have := b4 q; omega), e 5 _ (by omega) (by omega) c5 (by omega) (by omega), e 6 _ (by omega) (by omega) c6 (by omega) (by omega), e 7 _ (by omega) (by omega) c7 (by omega) (by omega)⟩
  refine ⟨⟨by omega, fun j hj => ?_⟩, ?_, fun j hj => ?_⟩
  · have hj : j < acc.length := by omega
    exact new_wfi hL g8 (gr j hj) (hw j hj)
  · show (I9 293 r).toInt = _
    rw [n0, g0]; exact z_toInt (by omega) (by omega)
  · have hj : j < acc.length := by omega
    exact new_mgi hL g8 (gr j hj) (hw j hj) (rr j hj) hE
theorem op_plan (h : Inv I J) : wpC E (d + 27) 96 [.ref 0] (mm I J A) (QI E (d + 27) 212 []) := by
  obtain ⟨hV, hIm, ⟨t, t4, e5, e27, hb⟩, ⟨r, r6, e3, e31, hp⟩, m0, h19⟩ := id h
  by_cases q6 : r = 6
  · subst q6
    exact c_plan6 e3 (QI_mk (m_plan6 (d := d + 15) e31 ⟨rfl, I, J, A, rfl, h⟩))
  · have hr : r < 6 := by omega
    obtain ⟨T, hT0⟩ : ∃ T, T = vI I 222 := ⟨_, rfl⟩
    have hb1 : ∀ i, i < t → 0 ≤ T i ∧ T i ≤ 255 := fun i hi => by rw [hT0]; exact (hb i hi).1
    have hT : TP I T t := ⟨t4, fun i hi => ⟨hb1 i hi, by rw [hT0]; exact vI_eq I 222 i⟩⟩
    have hM : TM I T t := ⟨t4, e27, fun i hi => ⟨hb1 i hi, by rw [vI_eq I 290 i, (hb i hi).2, hT0]; rfl⟩⟩
    have he := rd_err hM hr e31 h19
    clear hT0
    refine c_planE (d := d) hr e3 hT e5 he (fun m s' acc I1 hv cb la r0 rows F1 => ?_) (fun e I1 hv F1 => ?_)
    · obtain ⟨I2, hI2⟩ : ∃ I2, I2 = setI I1 0 5 (iZ 0) := ⟨_, rfl⟩
      rw [← hI2]
      have at2 : ∀ a, a ≠ 0 → I2 a = I1 a := fun a q => by rw [hI2]; funext j; rw [setI_at, if_neg (fun x => q x.1)]
      obtain ⟨L, hLL⟩ : ∃ L, L = s'.2.2 := ⟨_, rfl⟩
      have gb := cb.2.2.2.2.2.2.2.2.2
      have c8 := cb.2.2.2.2.1
      have cd := cb.2.2.2.2.2.1
      rw [← hLL] at c8 cd
      have hL : L.length ≤ 300 := by
        have g1 := gb.1
        have g2 := gb.2.1
        have g3 := gb.2.2
        rw [← hLL] at g3
        omega
      obtain ⟨w1, w2, w3⟩ := rd_wf hb1 13 0 (skp T t 0, 0, []) [] s' acc hv (fun j hj => absurd hj (Nat.not_lt_zero j)) (fun x q => by cases q)
      rw [← hLL] at w2 w3
      refine c_plan41 (n := L.length) hr (by omega) ?_ (by rw [at2 224 (by omega)]; exact c8) ?_
      · rw [hI2, setI_at, if_neg (by omega), F1 0 (by omega)]; exact e3
      obtain ⟨I3, hI3⟩ : ∃ I3, I3 = setI (plF I2 (168 + 9 * r) L.length) 0 3 (iZ (r + 1 : Nat)) := ⟨_, rfl⟩
      rw [← hI3]
      have at3 : ∀ a, a ≠ 0 → I3 a = plF I2 (168 + 9 * r) L.length a := fun a q => by rw [hI3]; funext j; rw [setI_at, if_neg (fun x => q x.1)]
      have o3 : ∀ a, a ≠ 0 → (a < 168 + 9 * r ∨ 168 + 9 * r + 8 < a) → (a < 223 ∨ 236 ≤ a) → I3 a = I a := fun a q1 q2 q3 => by rw [at3 a q1, plF_out q2, at2 a q1]; exact F1 a q3
      have o265 := o3 265 (by omega) (by omega) (by omega)
      refine QI_mk (m_plan (d := d + 15) (TM_eq hM (by rw [o265]) (o3 290 (by omega) (by omega) (by omega))) hr (by rw [o265]; exact e31) (by rw [o265]; exact h19) (fun s2 acc2 I4 I5 q' hv2 mx la2 rows2 F5 at4 gb2 => ?_) (fun e I4 I5 n hv2 _ _ _ => ?_))
      · rw [hv] at hv2
        cases hv2
        rw [← hLL] at mx
        refine ⟨rfl, _, J, A, rfl, ?_⟩
        obtain ⟨I9, hI9⟩ : ∃ I9, I9 = setI (setI (setI I5 265 27 (iZ 0)) 293 r (iZ (acc.length : Nat))) 265 31 (iZ (r + 1 : Nat)) := ⟨_, rfl⟩
        rw [← hI9]
        have at9 : ∀ a j, (a ≠ 265 ∨ (j ≠ 27 ∧ j ≠ 31)) → (a ≠ 293 ∨ j ≠ r) → I9 a j = I5 a j := fun a j q1 q2 => by
          rw [hI9, setI_at, if_neg (by omega), setI_at, if_neg (by omega), setI_at, if_neg (by omega)]
        have o9 : ∀ a, a ≠ 265 → a ≠ 291 → a ≠ 292 → a ≠ 293 → (a < 294 ∨ 301 < a) → I9 a = I3 a := fun a q1 q2 q3 q4 q5 => by
          funext j
          rw [at9 a j (by omega) (by omega), F5.1 a q1 q2 q3 q5]
          exact at4 a j (by omega)
        have o65 : ∀ j, j < 27 ∨ j = 36 → I9 265 j = I 265 j := fun j q => by
          rw [at9 265 j (by omega) (by omega), F5.2.1 j (by omega) (by omega) (by omega) (by omega) (by omega) (by omega), at4 265 j (by omega), o265]
        have e93 : ∀ j, j ≠ r → I9 293 j = I 293 j := fun j q => by
          rw [at9 293 j (by omega) (by omega), F5.1 293 (by omega) (by omega) (by omega) (by omega), at4 293 j (by omega), o3 293 (by omega) (by omega) (by omega)]
        have e91 : ∀ j, j < 300 * r → I9 291 j = I 291 j ∧ I9 292 j = I 292 j := fun j q => by
          rw [at9 291 j (by omega) (by omega), at9 292 j (by omega) (by omega), (F5.2.2.1 j q).1, (F5.2.2.1 j q).2, at4 291 j (by omega), at4 292 j (by omega), o3 291 (by omega) (by omega) (by omega), o3 292 (by omega) (by omega) (by omega)]
          exact ⟨rfl, rfl⟩
        have e94 : ∀ a j, 294 ≤ a → a ≤ 300 → j < 12 * r → I9 a j = I a j := fun a j q1 q2 q3 => by
          rw [at9 a j (by omega) (by omega), F5.2.2.2 a j q1 q2 q3, at4 a j (by omega), o3 a (by omega) (by omega) (by omega)]
        have p9 : ∀ a, 168 ≤ a → a < 222 → I9 a = plF I2 (168 + 9 * r) L.length a := fun a q1 q2 => by
          rw [o9 a (by omega) (by omega) (by omega) (by omega) (by omega), at3 a (by omega)]
        have new := new_pl (I9 := I9) (I1 := I1) (I5 := I5) (L := L) (acc := acc) hr ⟨w1, la⟩ hL w2 w3 r0 rows cd (by rw [p9 _ (by omega) (by omega), plF_0, at2 224 (by omega)]) (fun k j k1 k2 k3 => by rw [p9 _ (by omega) (by omega), plF_row (by omega) ⟨k1, k2⟩ k3, at2 _ (by omega)]) (fun j hj => by rw [p9 _ (by omega) (by omega), plF_8 (by omega) hj, at2 232 (by omega)]) (by rw [hI9, setI_at, if_neg (by omega), setI_at, if_pos ⟨rfl, rfl⟩]) (fun j hj => RRi_eq (rows2 j hj) (fun a q1 q2 => at9 a _ (by omega) (by omega))) (fun k hk => by
          have := mx.2.2.2.2.1 k hk
          unfold vI at this ⊢
          rw [at9 291 _ (by omega) (by omega), at9 292 _ (by omega) (by omega)]; exact this)
        have z5 : I9 0 5 = iZ 0 := by
          rw [o9 0 (by omega) (by omega) (by omega) (by omega) (by omega), hI3, setI_at, if_neg (by omega), plF_out (by omega), hI2, setI_at, if_pos ⟨rfl, rfl⟩]
        have z3 : I9 0 3 = iZ (r + 1 : Nat) := by
          rw [o9 0 (by omega) (by omega) (by omega) (by omega) (by omega), hI3, setI_at, if_pos ⟨rfl, rfl⟩]
        refine Inv_pl h (fun a q => ?_) z5 (by rw [hI9, setI_at, if_neg (by omega), setI_at, if_neg (by omega), setI_at, if_pos ⟨rfl, rfl⟩]) (o65 25 (by omega)) (o65 36 (by omega)) ⟨r + 1, by omega, z3, by rw [hI9, setI_at, if_pos ⟨rfl, rfl⟩], fun r' hr' => ?_⟩
        · rw [o9 a (by omega) (by omega) (by omega) (by omega) (by omega)]
          exact o3 a (by omega) (by omega) (by omega)
        · by_cases w : r' = r
          · rw [w]; exact new
          · refine old_pl (r := r) (by omega) (fun a q1 q2 => ?_) (e93 r' w) e91 e94 (hp r' (by omega))
            rw [o9 a (by omega) (by omega) (by omega) (by omega) (by omega)]
            exact o3 a (by omega) (by omega) (by omega)
      · rw [hv] at hv2; cases hv2
    · obtain ⟨I2, hI2⟩ : ∃ I2, I2 = setI I1 0 5 (iZ 0) := ⟨_, rfl⟩
      rw [← hI2]
      have at2 : ∀ a, a ≠ 0 → I2 a = I1 a := fun a q => by rw [hI2]; funext j; rw [setI_at, if_neg (fun x => q x.1)]
      have o3 : ∀ a, a ≠ 0 → (a < 223 ∨ 236 ≤ a) → I2 a = I a := fun a q1 q3 => by rw [at2 a q1]; exact F1 a q3
      have o265 := o3 265 (by omega) (by omega)
      refine QI_mk (m_plan (d := d + 15) (TM_eq hM (by rw [o265]) (o3 290 (by omega) (by omega))) hr (by rw [o265]; exact e31) (by rw [o265]; exact h19) (fun s2 acc2 I4 I5 q' hv2 _ _ _ _ _ _ => ?_) (fun e2 I4 I5 n hv2 _ F5 at4 => ?_))
      · rw [hv] at hv2; cases hv2
      · rw [hv] at hv2
        cases hv2
        refine ⟨rfl, _, J, A, rfl, ?_⟩
        obtain ⟨I9, hI9⟩ : ∃ I9, I9 = setI (setI (setI I5 265 27 (iZ 0)) 293 r (iZ (n : Nat))) 265 31 (iZ (r : Nat)) := ⟨_, rfl⟩
        rw [← hI9]
        have at9 : ∀ a j, (a ≠ 265 ∨ (j ≠ 27 ∧ j ≠ 31)) → (a ≠ 293 ∨ j ≠ r) → I9 a j = I5 a j := fun a j q1 q2 => by
          rw [hI9, setI_at, if_neg (by omega), setI_at, if_neg (by omega), setI_at, if_neg (by omega)]
        have o9 : ∀ a, a ≠ 265 → a ≠ 291 → a ≠ 292 → a ≠ 293 → (a < 294 ∨ 301 < a) → I9 a = I2 a := fun a q1 q2 q3 q4 q5 => by
          funext j
          rw [at9 a j (by omega) (by omega), F5.1 a q1 q2 q3 q5]
          exact at4 a j (by omega)
        have o65 : ∀ j, j < 27 ∨ j = 36 → I9 265 j = I 265 j := fun j q => by
          rw [at9 265 j (by omega) (by omega), F5.2.1 j (by omega) (by omega) (by omega) (by omega) (by omega) (by omega), at4 265 j (by omega), o265]
        have e93 : ∀ j, j ≠ r → I9 293 j = I 293 j := fun j q => by
          rw [at9 293 j (by omega) (by omega), F5.1 293 (by omega) (by omega) (by omega) (by omega), at4 293 j (by omega), o3 293 (by omega) (by omega)]
        have e91 : ∀ j, j < 300 * r → I9 291 j = I 291 j ∧ I9 292 j = I 292 j := fun j q => by
          rw [at9 291 j (by omega) (by omega), at9 292 j (by omega) (by omega), (F5.2.2.1 j q).1, (F5.2.2.1 j q).2, at4 291 j (by omega), at4 292 j (by omega), o3 291 (by omega) (by omega), o3 292 (by omega) (by omega)]
          exact ⟨rfl, rfl⟩
        have e94 : ∀ a j, 294 ≤ a → a ≤ 300 → j < 12 * r → I9 a j = I a j := fun a j q1 q2 q3 => by
          rw [at9 a j (by omega) (by omega), F5.2.2.2 a j q1 q2 q3, at4 a j (by omega), o3 a (by omega) (by omega)]
        have z5 : I9 0 5 = iZ 0 := by
          rw [o9 0 (by omega) (by omega) (by omega) (by omega) (by omega), hI2, setI_at, if_pos ⟨rfl, rfl⟩]
        have z3 : I9 0 3 = iZ (r : Nat) := by
          rw [o9 0 (by omega) (by omega) (by omega) (by omega) (by omega), hI2, setI_at, if_neg (by omega), F1 0 (by omega)]; exact e3
        refine Inv_pl h (fun a q => ?_) z5 (by rw [hI9, setI_at, if_neg (by omega), setI_at, if_neg (by omega), setI_at, if_pos ⟨rfl, rfl⟩]) (o65 25 (by omega)) (o65 36 (by omega)) ⟨r, by omega, z3, by rw [hI9, setI_at, if_pos ⟨rfl, rfl⟩], fun r' hr' => ?_⟩
        · rw [o9 a (by omega) (by omega) (by omega) (by omega) (by omega)]
          exact o3 a (by omega) (by omega)
        · refine old_pl (r := r) (by omega) (fun a q1 q2 => ?_) (e93 r' (by omega)) e91 e94 (hp r' (by omega))
          rw [o9 a (by omega) (by omega) (by omega) (by omega) (by omega)]
          exact o3 a (by omega) (by omega)
end OPPLAN
