/-! ===== the reference: a clause, doors, ports, a round ===== -/
def tmp (x : Int) : Int := if x = 19 then 0 else if x = 20 then 1 else if x = 21 then 2 else if x = 16 then 3 else 4
/-- a plan as the reference holds it -/
def MGi (I : Nat → Nat → Int32) (r : Nat) (g : Nat → Nat → Int) (i : Nat) : Prop := vI I 294 (12 * r + i) = tmp (g 1 i) ∧ (g 1 i = 19 ∨ g 1 i = 20 ∨ g 1 i = 21 → vI I 295 (12 * r + i) = g 2 i) ∧ (g 1 i = 21 → vI I 296 (12 * r + i) = g 3 i) ∧ (g 1 i ≠ 22 → vI I 297 (12 * r + i) = g 4 i) ∧ vI I 298 (12 * r + i) = g 5 i ∧ vI I 299 (12 * r + i) = g 6 i ∧ vI I 300 (12 * r + i) = g 7 i ∧ ∀ k : Nat, k < (g 7 i).toNat → ENT (g 8 k) (vI I 291 (300 * r + k)) (vI I 292 (300 * r + k))
def MG (I : Nat → Nat → Int32) (r : Nat) (g : Nat → Nat → Int) : Prop := vI I 293 r = g 0 0 ∧ ∀ i : Nat, i < (g 0 0).toNat → MGi I r g i
theorem JF_refl {J : Nat → Nat → Int64} : JF J J := fun _ _ _ => rfl
theorem JF_trans {J J' J'' : Nat → Nat → Int64} (h : JF J J') (h' : JF J' J'') : JF J J'' := fun a h1 h2 => (h' a h1 h2).trans (h a h1 h2)
theorem M0_eq {I I' : Nat → Nat → Int32} {J J' : Nat → Nat → Int64} (h : M0 I J) (hI : I' 265 = I 265) (hJ : J' 265 = J 265) : M0 I' J' := by
  unfold M0 vI vJ at h ⊢
  rw [hI, hJ]; exact h
theorem vI_cell {I I' : Nat → Nat → Int32} {a : Nat} (h : ∀ i, vI I' a i = vI I a i) : I' a = I a := by
  funext i
  rw [vI_eq I' a i, vI_eq I a i, h i]
theorem MGi_eq {I I' : Nat → Nat → Int32} {r i : Nat} {g : Nat → Nat → Int} (h : MGi I r g i) (e : ∀ a, 290 ≤ a → a ≤ 300 → I' a = I a) : MGi I' r g i := by
  unfold MGi vI at h ⊢
  rw [e 291 (by omega) (by omega), e 292 (by omega) (by omega), e 294 (by omega) (by omega), e 295 (by omega) (by omega), e 296 (by omega) (by omega), e 297 (by omega) (by omega), e 298 (by omega) (by omega), e 299 (by omega) (by omega), e 300 (by omega) (by omega)]
  exact h
theorem MG_eq {I I' : Nat → Nat → Int32} {r : Nat} {g : Nat → Nat → Int} (h : MG I r g) (e : ∀ a, 290 ≤ a → a ≤ 300 → I' a = I a) : MG I' r g := by
  refine ⟨?_, fun i hi => MGi_eq (h.2 i hi) e⟩
  have := h.1
  unfold vI at this ⊢
  rw [e 293 (by omega) (by omega)]; exact this
theorem cl_ne {g : Nat → Nat → Int} {v : am_V} {i a k : Nat} (h : a ≠ 276) (h' : a ≠ 266) : clZ g v i a k = v a k := by
  by_cases q : tstZ g v i
  · rw [clZ_pos q]; exact do_ne h h'
  · rw [clZ_neg q]
theorem cls_ne {g : Nat → Nat → Int} {v : am_V} {n a k : Nat} (h : a ≠ 276) (h' : a ≠ 266) : clsN g v n a k = v a k := by
  induction n with
  | zero => rfl
  | succ n ih => exact (cl_ne h h').trans ih
theorem rnd_ne {g : Nat → Nat → Int} {v : am_V} {a k : Nat} (h : a ≠ 276) (h' : a ≠ 266) (h'' : a ≠ 281) : rndZ g v a k = v a k := by
  unfold rndZ
  split
  · exact vset_na h'
  · unfold rd5 rd4 rd3 rd2 rd1
    rw [vset_na h', vset_na h', sld_ne h'', pts_ne h, drs_ne h, cls_ne h h']
theorem wtdE {P : Prop} {x z : Int} {jp : Int → Prop} {os : Array Int} {v hi : Int} (e : x = z) (hx : z < v ∨ hi < z) (hs : v + os.size = hi + 1) (h : P) : (x < v ∨ hi < x → P) ∧ v + os.size = hi + 1 ∧ wx_tb x jp v os.toList := wtd (by rw [e]; exact hx) hs h
section M9
variable {E : Nat × (Nat → Int32)} {d : Nat} {I : Nat → Nat → Int32} {J : Nat → Nat → Int64} {A : Nat → Option Nat} {Q : Option Value → am_M → Prop} {M : am_M}
set_option maxHeartbeats 8000000 in
theorem m_does {r i : Nat} {g : Nat → Nat → Int} {x y : Int32} (hW : Wf (vI I)) (h0 : M0 I J) (hr : r < 6) (hi : i < 12) (hg : WfGi g i) (hm : MGi I r g i) (ex : x = iZ r) (ey : y = iZ (12 * r + i : Nat)) (hQ : ∀ I' J', vI I' = clZ g (vI I) i → JF J J' → Q none (mm I' J' A)) : wpC E (d + 5) 220 [.ref 265, .int x, .int y] (mm I J A) Q := by
  obtain ⟨k1, k2, k3, k4, k5, k6, k7, k8⟩ := id hg
  obtain ⟨m1, m2, m3, m4, m5, m6, m7, m8⟩ := id hm
  have h12 := nP12 hW
  subst ex; subst ey
  have hin : vp_in (iZ ((12 * r + i : Nat) : Int)) 72 := z_in (by omega) (by omega) (by omega)
  have hcl : (iZ ((12 * r + i : Nat) : Int)).toNatClampNeg = 12 * r + i := z_cln (by omega)
  have gg : ∀ a, I a (iZ ((12 * r + i : Nat) : Int)).toNatClampNeg = iZ (vI I a (12 * r + i)) := fun a => by rw [hcl]; exact vI_eq I _ _
  have g299 : I 299 (iZ ((12 * r + i : Nat) : Int)).toNatClampNeg = iZ (g 6 i) := by rw [gg, m6]
  have g300 : I 300 (iZ ((12 * r + i : Nat) : Int)).toNatClampNeg = iZ (g 7 i) := by rw [gg, m7]
  have an : ∀ (J1 : Nat → Nat → Int64) (Q' : Option Value → am_M → Prop), AS J1 (vI I) → g 6 i ≠ g 7 i → (∀ J', (∀ a, a ≠ 303 → J' a = J1 a) → Q' (some (.long (segL g (vI I) (g 6 i) (g 7 i)))) (mm I J' A)) → wpC E (d + 4) 216 [.ref 265, .int (iZ r), .int (I 299 (iZ ((12 * r + i : Nat) : Int)).toNatClampNeg), .int (I 300 (iZ ((12 * r + i : Nat) : Int)).toNatClampNeg)] (mm I J1 A) Q' := by
    intro J1 Q' hA hne hQ'
    refine m_answer (fr := (g 6 i).toNat) (to := (g 7 i).toNat) (c := g 8) hr hA (by omega) (by omega) (fun k hk => m8 k hk) (k8 hne) rfl ?_ ?_ hQ'
    · rw [g299]; congr 1; omega
    · rw [g300]; congr 1; omega
  have S42 : ∀ J1, JF J J1 → AS J1 (vI I) → tstZ g (vI I) i → wp E (d + 5) 220 42 [(0, .ref 265), (1, .int (iZ r)), (2, .int (iZ ((12 * r + i : Nat) : Int)))] [] (mm I J1 A) Q := by
    intro J1 hJ hA ht
    have hQ' : ∀ I' J', vI I' = doZ g (vI I) i → JF J1 J' → Q none (mm I' J' A) := fun I' J' e h => hQ I' J' (by rw [clZ_pos ht]; exact e) (JF_trans hJ h)
    have t1 : (I 294 (iZ ((12 * r + i : Nat) : Int)).toNatClampNeg).toInt = tmp (g 1 i) := by
      rw [gg, m1]; exact z_toInt (by unfold tmp; omega) (by unfold tmp; omega)
    have tmv : (g 1 i = 19 → tmp (g 1 i) = 0) ∧ (g 1 i = 20 → tmp (g 1 i) = 1) ∧ (g 1 i = 21 → tmp (g 1 i) = 2) ∧ (g 1 i = 16 → tmp (g 1 i) = 3) ∧ (g 1 i = 22 → tmp (g 1 i) = 4) := by
      unfold tmp
      omega
    have hpo : ∀ n : Int, -9999 ≤ n ∧ n ≤ 9999 → (g 1 i = 19 ∨ g 1 i = 20 ∨ g 1 i = 21) → ∀ y : Int32, y = iZ n → (g 2 i < nP (vI I) → doZ g (vI I) i = porZ (vI I) (g 2 i).toNat n) → (¬ g 2 i < nP (vI I) → doZ g (vI I) i = vI I) → wpC E (d + 4) 218 [.ref 265, .int (I 295 (iZ ((12 * r + i : Nat) : Int)).toNatClampNeg), .int y] (mm I J1 A) (fun rr M1 => rr = none ∧ Q none M1) := by
      intro n hn hv y hy d1 d0
      have kk := k2 hv
      have e2 : I 295 (iZ ((12 * r + i : Nat) : Int)).toNatClampNeg = iZ ((g 2 i).toNat : Int) := by rw [gg, m2 hv]; congr 1; omega
      by_cases hlt : g 2 i < nP (vI I)
      · exact m_pours hW (by omega) ⟨by omega, by omega⟩ e2 hy (fun I' e => ⟨rfl, hQ' I' J1 (by rw [d1 hlt]; exact e) JF_refl⟩)
      · exact m_poursNo hW (k := (g 2 i).toNat) (by omega) (by omega) e2 ⟨rfl, hQ' I J1 (d0 hlt).symm JF_refl⟩
    refine wf (hs := []) 60 42 (by decide) (And.intro hin ?_)
    rcases k1 with h | h | h | h | h
    · refine wtb 3 (t1.trans (tmv.2.2.2.1 h)) rfl rfl ?_
      refine And.intro hin (And.intro (inL (by decide)) ?_)
      refine hQ' (setI I 266 6 (I 297 (iZ ((12 * r + i : Nat) : Int)).toNatClampNeg)) J1 ?_ JF_refl
      unfold doZ
      rw [if_pos h]
      have := k4 (by omega)
      exact vI_setZ (by rw [gg, m4 (by omega)]) (by omega) (by omega)
    · refine wtb 0 (t1.trans (tmv.1 h)) rfl rfl ?_
      have := k4 (by omega)
      refine And.intro hin (And.intro hin (And.intro rfl (wpC_mono (hpo (-(g 4 i)) ⟨by omega, by omega⟩ (Or.inl h) _ ?_ ?_ ?_) (fun rr M1 h => ?_))))
      · show -(I 297 (iZ ((12 * r + i : Nat) : Int)).toNatClampNeg) = _
        rw [gg, m4 (by omega), iZ_neg]
      · intro hlt
        unfold doZ
        rw [if_neg (by omega), if_neg (by omega), if_pos h, if_pos hlt]
      · intro hlt
        unfold doZ
        rw [if_neg (by omega), if_neg (by omega), if_pos h, if_neg hlt]
      · obtain ⟨rfl, h⟩ := h; exact h
    · refine wtb 1 (t1.trans (tmv.2.1 h)) rfl rfl ?_
      have := k4 (by omega)
      refine And.intro hin (And.intro hin (And.intro rfl (wpC_mono (hpo (g 4 i) ⟨by omega, by omega⟩ (Or.inr (Or.inl h)) _ ?_ ?_ ?_) (fun rr M1 h => ?_))))
      · show I 297 (iZ ((12 * r + i : Nat) : Int)).toNatClampNeg = _
        rw [gg, m4 (by omega)]
      · intro hlt
        unfold doZ
        rw [if_neg (by omega), if_neg (by omega), if_neg (by omega), if_pos h, if_pos hlt]
      · intro hlt
        unfold doZ
        rw [if_neg (by omega), if_neg (by omega), if_neg (by omega), if_pos h, if_neg hlt]
      · obtain ⟨rfl, h⟩ := h; exact h
    · refine wtb 2 (t1.trans (tmv.2.2.1 h)) rfl rfl ?_
      have b4 := k4 (by omega)
      have b2 := k2 (Or.inr (Or.inr h))
      have b3 := k3 h
      refine And.intro hin (And.intro hin (And.intro hin (And.intro rfl (m_crosses (a := (g 2 i).toNat) (c := (g 3 i).toNat) (m := g 4 i) hW (by omega) (by omega) ⟨by omega, by omega⟩ ?_ ?_ ?_ (fun q I' e => ?_) (fun q => ?_)))))
      · show I 295 (iZ ((12 * r + i : Nat) : Int)).toNatClampNeg = _
        rw [gg, m2 (Or.inr (Or.inr h))]; congr 1; omega
      · show I 296 (iZ ((12 * r + i : Nat) : Int)).toNatClampNeg = _
        rw [gg, m3 h]; congr 1; omega
      · show I 297 (iZ ((12 * r + i : Nat) : Int)).toNatClampNeg = _
        rw [gg, m4 (by omega)]
      · refine hQ' I' J1 ?_ JF_refl
        unfold doZ
        have q : (g 2 i).toNat < nP (vI I) ∧ (g 3 i).toNat < nP (vI I) ∧ ¬ (g 3 i).toNat = (g 2 i).toNat := q
        rw [if_neg (by omega), if_neg (by omega), if_neg (by omega), if_neg (by omega), if_pos ⟨by omega, by omega, by omega⟩]
        exact e
      · refine hQ' I J1 ?_ JF_refl
        unfold doZ
        have q : ¬ ((g 2 i).toNat < nP (vI I) ∧ (g 3 i).toNat < nP (vI I) ∧ ¬ (g 3 i).toNat = (g 2 i).toNat) := q
        rw [if_neg (by omega), if_neg (by omega), if_neg (by omega), if_neg (by omega), if_neg (by omega)]
    · refine wtdE (t1.trans (tmv.2.2.2.2 h)) (by omega) rfl ?_
      have an2 := m_answer (E := E) (d := d + 2) (J := J1) (A := A) (r := r) (fr := (g 5 i).toNat) (to := (g 6 i).toNat) (c := g 8) (v := vI I) (x := iZ r) (y := I 298 (iZ ((12 * r + i : Nat) : Int)).toNatClampNeg) (z := I 299 (iZ ((12 * r + i : Nat) : Int)).toNatClampNeg) (Q := fun rr M1 => rr = some (.long (segL g (vI I) (g 5 i) (g 6 i))) ∧ ∃ J2, M1 = mm I J2 A ∧ ∀ a, a ≠ 303 → J2 a = J1 a) hr hA (by omega) (by omega) (fun k hk => m8 k (by omega)) (k7 h) rfl (by rw [gg, m5]; congr 1; omega) (by rw [g299]; congr 1; omega) (fun J' hJ' => ⟨rfl, J', rfl, hJ'⟩)
      refine And.intro hin (And.intro hin (And.intro rfl (wpC_mono an2 (fun rr M1 h2 => ?_))))
      obtain ⟨rfl, J2, rfl, hJ2⟩ := h2
      generalize hS : segL g (vI I) (g 5 i) (g 6 i) = S
      have sr := rL_of S
      refine And.intro rfl (m_betweenE (z := S.toInt) (lo := -99999) (hi := 99999) (lZ_of S).symm (by decide +kernel) rfl sr ⟨by omega, by omega⟩ ⟨by omega, by omega⟩ (by omega) (And.intro (inL (by decide)) ?_))
      refine hQ' (setI I 266 5 (lZ (max (-99999) (min S.toInt 99999))).toInt32) J2 ?_ (fun a h1 h2 => hJ2 a h2)
      unfold doZ
      rw [if_neg (by omega), if_pos h, hS]
      exact vI_setZ (by simp (disch := omega) only [z_i8, z_i16, z_of, z_ofN, z_lofN, z_0, z_1, z_m1, z_l0, z_l1, iZ_add, iZ_sub, iZ_mul, iZ_neg, lZ_add, lZ_sub, lZ_mul, lZ_neg, z_div, z_ldiv, z_l, z_i, z_lt, z_le, z_eq, z_llt, z_lle, z_leq, z_cgt, z_cge, z_clt, z_cle, z_ceq, z_cl, z_nat, Int.toNat_natCast, mm_I, mm_J, z_cln, z_abs, z_max, z_min, z_lmax, z_lmin, z_sin, Int.cast_ofNat_Int, uI_I, uI_J, uL_I, uL_J, uA_I, uA_J, sI_eq, sI_ne, sL_eq, sL_ne, up_eq, up_ne, uL_eq, uL_ne, z_toInt, Int.reduceToNat]) (by omega) (by omega)
  refine wc (hs := [42]) 40 (by decide) ?_
  refine And.intro rfl (m_asks hW h0 (fun J1 hJ1 hA => ?_))
  have hJF : JF J J1 := fun a h1 h2 => hJ1 a h1
  refine And.intro hin (And.intro hin ?_)
  by_cases hte : g 6 i = g 7 i
  · refine wt ?_ (S42 J1 hJF hA (Or.inl hte))
    show I 300 (iZ ((12 * r + i : Nat) : Int)).toNatClampNeg ≤ I 299 (iZ ((12 * r + i : Nat) : Int)).toNatClampNeg
    rw [g299, g300, hte]; exact Int32.le_refl _
  · refine wF ?_ ?_
    · show ¬ I 300 (iZ ((12 * r + i : Nat) : Int)).toNatClampNeg ≤ I 299 (iZ ((12 * r + i : Nat) : Int)).toNatClampNeg
      rw [g299, g300]; ((try simp (disch := omega) only [z_i8, z_i16, z_of, z_ofN, z_lofN, z_0, z_1, z_m1, z_l0, z_l1, iZ_add, iZ_sub, iZ_mul, iZ_neg, lZ_add, lZ_sub, lZ_mul, lZ_neg, z_div, z_ldiv, z_l, z_i, z_lt, z_le, z_eq, z_llt, z_lle, z_leq, z_cgt, z_cge, z_clt, z_cle, z_ceq, z_cl, z_nat, Int.toNat_natCast, mm_I, mm_J, z_cln, z_abs, z_max, z_min, z_lmax, z_lmin, z_sin, Int.cast_ofNat_Int, uI_I, uI_J, uL_I, uL_J, uA_I, uA_J, sI_eq, sI_ne, sL_eq, sL_ne, up_eq, up_ne, uL_eq, uL_ne, z_toInt, Int.reduceToNat]) <;> omega)
    · refine And.intro hin (And.intro hin (And.intro rfl (an J1 _ hA hte (fun J2 hJ2 => ?_))))
      have hA2 : AS J2 (vI I) := by unfold AS at hA ⊢; rw [hJ2 302 (by decide)]; exact hA
      have hJF2 : JF J J2 := fun a h1 h2 => (hJ2 a h2).trans (hJ1 a h1)
      refine And.intro (fun q => ?_) (fun q => ?_)
      · have q : segL g (vI I) (g 6 i) (g 7 i) = 0 := (lg_cmp_eq _ _).mp q
        refine hQ I J2 ?_ hJF2
        rw [clZ_neg]
        rintro (h | h)
        · exact hte h
        · exact h q
      · have q : ¬ segL g (vI I) (g 6 i) (g 7 i) = 0 := fun y => q ((lg_cmp_eq _ _).mpr y)
        exact S42 J2 hJF2 hA2 (Or.inr q)
theorem dr_pours {k : Nat} {n : Int} {x y : Int32} (hW : Wf (vI I)) (hk : k < nP (vI I)) (hn : -100000000 ≤ n ∧ n ≤ 100000000) (ex : x = iZ k) (ey : y = iZ n) : wpC E (d + 1) 218 [.ref 265, .int x, .int y] (mm I J A) (fun r M => r = none ∧ ∃ I', M = mm I' J A ∧ vI I' = porZ (vI I) k n) :=
  m_pours hW hk hn ex ey (fun I' e => ⟨rfl, I', rfl, e⟩)
set_option maxHeartbeats 8000000 in
theorem m_portGoes {k : Nat} {x : Int32} (hW : Wf (vI I)) (hH : WfO (vI I) k) (h0 : M0 I J) (hk : k < 12) (ex : x = iZ k) (hQ : ∀ I', vI I' = prtZ (vI I) k → Q none (mm I' J A)) : wpC E (d + 3) 222 [.ref 265, .int x] (mm I J A) Q := by
  obtain ⟨w1, w2, w3, w4⟩ := hH
  have l := hW.1.2.2.2.2.2.2.1
  have hp : (vI I 286 k).toNat < nP (vI I) := by omega
  have h12 := nP12 hW
  have hin : vp_in (iZ (k : Int)) 12 := z_in (by omega) (by omega) (by omega)
  have hcl : (iZ (k : Int)).toNatClampNeg = k := z_cln (by omega)
  have gg : ∀ a, I a (iZ (k : Int)).toNatClampNeg = iZ (vI I a k) := fun a => by rw [hcl]; exact vI_eq I _ _
  have e286 : I 286 (iZ (k : Int)).toNatClampNeg = iZ ((vI I 286 k).toNat : Int) := by rw [gg]; congr 1; omega
  have ib := insB (s := vI I 287 k) hW hp
  have ob := outB (s := vI I 287 k) hW l
  subst ex
  generalize hins : insZ (vI I) (vI I 286 k).toNat (vI I 287 k) = Z at ib
  generalize hout : outZ (vI I) (vI I 266 7) (vI I 287 k) = O at ob
  have tail : ∀ B : Int, B = max (vI I 288 k) O → wp E (d + 3) 222 32 [(0, .ref 265), (1, .int (iZ k)), (3, .int (iZ B))] [] (mm I J A) Q := by
    intro B hB
    have mb : 0 < Z - B → 0 ≤ vI I 289 k * (Z - B) ∧ vI I 289 k * (Z - B) ≤ 200 * 3000000 := fun h => mulb (by omega) w4.2 (by omega) (by omega)
    refine wf (hs := []) 40 32 (by decide) ?_
    refine And.intro hin (And.intro hin (And.intro rfl (m_insideAt hW hp w2 e286 (gg 287) ?_)))
    rw [hins]
    refine And.intro (fun q => ?_) (fun q => ?_)
    · simp (disch := omega) only [z_i8, z_i16, z_of, z_ofN, z_lofN, z_0, z_1, z_m1, z_l0, z_l1, iZ_add, iZ_sub, iZ_mul, iZ_neg, lZ_add, lZ_sub, lZ_mul, lZ_neg, z_div, z_ldiv, z_l, z_i, z_lt, z_le, z_eq, z_llt, z_lle, z_leq, z_cgt, z_cge, z_clt, z_cle, z_ceq, z_cl, z_nat, Int.toNat_natCast, mm_I, mm_J, z_cln, z_abs, z_max, z_min, z_lmax, z_lmin, z_sin, Int.cast_ofNat_Int, uI_I, uI_J, uL_I, uL_J, uA_I, uA_J, sI_eq, sI_ne, sL_eq, sL_ne, up_eq, up_ne, uL_eq, uL_ne, z_toInt, Int.reduceToNat] at q
      refine hQ I ?_
      unfold prtZ
      dsimp only
      rw [hins, hout, ← hB, if_neg (by omega)]
    · simp (disch := omega) only [z_i8, z_i16, z_of, z_ofN, z_lofN, z_0, z_1, z_m1, z_l0, z_l1, iZ_add, iZ_sub, iZ_mul, iZ_neg, lZ_add, lZ_sub, lZ_mul, lZ_neg, z_div, z_ldiv, z_l, z_i, z_lt, z_le, z_eq, z_llt, z_lle, z_leq, z_cgt, z_cge, z_clt, z_cle, z_ceq, z_cl, z_nat, Int.toNat_natCast, mm_I, mm_J, z_cln, z_abs, z_max, z_min, z_lmax, z_lmin, z_sin, Int.cast_ofNat_Int, uI_I, uI_J, uL_I, uL_J, uA_I, uA_J, sI_eq, sI_ne, sL_eq, sL_ne, up_eq, up_ne, uL_eq, uL_ne, z_toInt, Int.reduceToNat] at q
      have mb := mb (by omega)
      have eN : -(I 289 (iZ (k : Int)).toNatClampNeg * (iZ Z - iZ B) / iZ 100) = iZ (-(vI I 289 k * (Z - B) / 100)) := by
        rw [gg 289]; simp (disch := omega) only [z_i8, z_i16, z_of, z_ofN, z_lofN, z_0, z_1, z_m1, z_l0, z_l1, iZ_add, iZ_sub, iZ_mul, iZ_neg, lZ_add, lZ_sub, lZ_mul, lZ_neg, z_div, z_ldiv, z_l, z_i, z_lt, z_le, z_eq, z_llt, z_lle, z_leq, z_cgt, z_cge, z_clt, z_cle, z_ceq, z_cl, z_nat, Int.toNat_natCast, mm_I, mm_J, z_cln, z_abs, z_max, z_min, z_lmax, z_lmin, z_sin, Int.cast_ofNat_Int, uI_I, uI_J, uL_I, uL_J, uA_I, uA_J, sI_eq, sI_ne, sL_eq, sL_ne, up_eq, up_ne, uL_eq, uL_ne, z_toInt, Int.reduceToNat]
      refine And.intro hin (And.intro hin (And.intro (by decide) (And.intro rfl (wpC_mono (dr_pours hW hp (n := -(vI I 289 k * (Z - B) / 100)) ⟨by omega, by omega⟩ e286 eN) (fun r M h => ?_)))))
      obtain ⟨rfl, I', rfl, h⟩ := h
      refine hQ I' ?_
      unfold prtZ
      dsimp only
      rw [hins, hout, ← hB, if_pos (by omega)]
      exact h
  refine wc (hs := [32]) 40 (by decide) ?_
  refine And.intro hin (And.intro rfl (m_outsideAt hW h0.1 w2 (gg 287) ?_))
  rw [hout]
  have g288 := gg 288
  refine And.intro hin (And.intro (fun q => ?_) (fun q => ?_))
  · have q : iZ O ≤ I 288 (iZ (k : Int)).toNatClampNeg := q
    rw [g288] at q
    simp (disch := omega) only [z_i8, z_i16, z_of, z_ofN, z_lofN, z_0, z_1, z_m1, z_l0, z_l1, iZ_add, iZ_sub, iZ_mul, iZ_neg, lZ_add, lZ_sub, lZ_mul, lZ_neg, z_div, z_ldiv, z_l, z_i, z_lt, z_le, z_eq, z_llt, z_lle, z_leq, z_cgt, z_cge, z_clt, z_cle, z_ceq, z_cl, z_nat, Int.toNat_natCast, mm_I, mm_J, z_cln, z_abs, z_max, z_min, z_lmax, z_lmin, z_sin, Int.cast_ofNat_Int, uI_I, uI_J, uL_I, uL_J, uA_I, uA_J, sI_eq, sI_ne, sL_eq, sL_ne, up_eq, up_ne, uL_eq, uL_ne, z_toInt, Int.reduceToNat] at q
    refine And.intro hin ?_
    refine wp_keys [0, 1, 3] rfl rfl ?_
    have := tail (vI I 288 k) (by omega)
    rw [← g288] at this
    exact this
  · have q : ¬ iZ O ≤ I 288 (iZ (k : Int)).toNatClampNeg := q
    rw [g288] at q
    simp (disch := omega) only [z_i8, z_i16, z_of, z_ofN, z_lofN, z_0, z_1, z_m1, z_l0, z_l1, iZ_add, iZ_sub, iZ_mul, iZ_neg, lZ_add, lZ_sub, lZ_mul, lZ_neg, z_div, z_ldiv, z_l, z_i, z_lt, z_le, z_eq, z_llt, z_lle, z_leq, z_cgt, z_cge, z_clt, z_cle, z_ceq, z_cl, z_nat, Int.toNat_natCast, mm_I, mm_J, z_cln, z_abs, z_max, z_min, z_lmax, z_lmin, z_sin, Int.cast_ofNat_Int, uI_I, uI_J, uL_I, uL_J, uA_I, uA_J, sI_eq, sI_ne, sL_eq, sL_ne, up_eq, up_ne, uL_eq, uL_ne, z_toInt, Int.reduceToNat] at q
    refine wp_keys [0, 1, 3] rfl rfl ?_
    exact tail O (by omega)
set_option maxHeartbeats 8000000 in
theorem m_doorsGo (hW : Wf (vI I)) (hH : WfH (vI I)) (h0 : M0 I J) (hQ : ∀ I', vI I' = rd2 (vI I) → Q none (mm I' J A)) : wpC E (d + 3) 221 [.ref 265] (mm I J A) Q := by
  have n2 : nD (vI I) ≤ 12 := by have := hW.1.2.2.2.2.2.2.2.2.2.2.1; unfold nD; omega
  have n2' := hW.1.2.2.2.2.2.2.2.2.2.2.1
  have L := lpU (σ := (Nat → Nat → Int32) × Int32) (fun _ s => wp E (d + 3) 221 2 [(0, .ref 265), (1, .int s.2)] [] (mm s.1 J A) Q) (fun i s => vI s.1 = drsN (vI I) i ∧ s.2 = iZ i) (nD (vI I)) ?_ ?_
  · refine wc (hs := [2]) 20 (by decide) ?_
    refine wp_keys [0, 1] rfl rfl ?_
    exact L 0 (I, _) (by omega) ⟨rfl, rfl⟩
  · rintro ⟨I', x⟩ ⟨e, ex⟩
    dsimp only at e ex
    subst ex
    have g11 : I' 266 11 = iZ (nD (vI I) : Int) := by
      rw [vI_eq I' 266 11, e, drs_ne (by decide)]
      congr 1
      unfold nD; omega
    refine wf (hs := [2]) 20 2 (by decide) (And.intro (inL (by decide)) (wt (Int32.le_of_eq g11) ?_))
    exact hQ I' e
  · rintro i ⟨I', x⟩ hi ⟨e, ex⟩ ih
    dsimp only at e ex
    subst ex
    have wi := Wf_drs (n := i) hW hH (by omega)
    rw [← e] at wi
    have hnD : nD (vI I') = nD (vI I) := by unfold nD; rw [e, drs_ne (by decide)]
    obtain ⟨w1, w2, w3, w4⟩ := wi.2.1 i (by omega)
    have hW' := wi.1
    have m0 : M0 I' J := M0_eq h0 (vI_cell (fun k => by rw [e, drs_ne (by decide)])) rfl
    have g11 : ¬ I' 266 11 ≤ iZ (i : Int) := by
      have : I' 266 11 = iZ (nD (vI I) : Int) := by
        rw [vI_eq I' 266 11, e, drs_ne (by decide)]
        congr 1
        unfold nD; omega
      rw [this]; ((try simp (disch := omega) only [z_i8, z_i16, z_of, z_ofN, z_lofN, z_0, z_1, z_m1, z_l0, z_l1, iZ_add, iZ_sub, iZ_mul, iZ_neg, lZ_add, lZ_sub, lZ_mul, lZ_neg, z_div, z_ldiv, z_l, z_i, z_lt, z_le, z_eq, z_llt, z_lle, z_leq, z_cgt, z_cge, z_clt, z_cle, z_ceq, z_cl, z_nat, Int.toNat_natCast, mm_I, mm_J, z_cln, z_abs, z_max, z_min, z_lmax, z_lmin, z_sin, Int.cast_ofNat_Int, uI_I, uI_J, uL_I, uL_J, uA_I, uA_J, sI_eq, sI_ne, sL_eq, sL_ne, up_eq, up_ne, uL_eq, uL_ne, z_toInt, Int.reduceToNat]) <;> omega)
    have ed : drsN (vI I) (i + 1) = dorZ (vI I') i := by rw [e]; rfl
    have l := hW'.1.2.2.2.2.2.2.1
    have hp : (vI I' 282 i).toNat < nP (vI I') := by omega
    have h12 := nP12 hW'
    have hin : vp_in (iZ (i : Int)) 12 := z_in (by omega) (by omega) (by omega)
    have hcl : (iZ (i : Int)).toNatClampNeg = i := z_cln (by omega)
    have gg : ∀ a, I' a (iZ (i : Int)).toNatClampNeg = iZ (vI I' a i) := fun a => by rw [hcl]; exact vI_eq I' _ _
    have e282 : I' 282 (iZ (i : Int)).toNatClampNeg = iZ ((vI I' 282 i).toNat : Int) := by rw [gg]; congr 1; omega
    have ib := insB (s := vI I' 283 i) hW' hp
    have ob := outB (s := vI I' 283 i) hW' l
    generalize hins : insZ (vI I') (vI I' 282 i).toNat (vI I' 283 i) = Z at ib
    generalize hout : outZ (vI I') (vI I' 266 7) (vI I' 283 i) = O at ob
    have tail : ∀ B : Int, B = max (vI I' 284 i) Z → wp E (d + 3) 221 51 [(0, .ref 265), (1, .int (iZ i)), (3, .int (iZ B))] [] (mm I' J A) Q := by
      intro B hB
      have mb : 0 < O - B → 0 ≤ vI I' 285 i * (O - B) ∧ vI I' 285 i * (O - B) ≤ 200 * 3000000 := fun h => mulb (by omega) w4.2 (by omega) (by omega)
      refine wf (hs := [2]) 40 51 (by decide) ?_
      refine And.intro hin (And.intro rfl (m_outsideAt hW' m0.1 w2 (gg 283) ?_))
      rw [hout]
      refine And.intro (fun q => ?_) (fun q => ?_)
      · simp (disch := omega) only [z_i8, z_i16, z_of, z_ofN, z_lofN, z_0, z_1, z_m1, z_l0, z_l1, iZ_add, iZ_sub, iZ_mul, iZ_neg, lZ_add, lZ_sub, lZ_mul, lZ_neg, z_div, z_ldiv, z_l, z_i, z_lt, z_le, z_eq, z_llt, z_lle, z_leq, z_cgt, z_cge, z_clt, z_cle, z_ceq, z_cl, z_nat, Int.toNat_natCast, mm_I, mm_J, z_cln, z_abs, z_max, z_min, z_lmax, z_lmin, z_sin, Int.cast_ofNat_Int, uI_I, uI_J, uL_I, uL_J, uA_I, uA_J, sI_eq, sI_ne, sL_eq, sL_ne, up_eq, up_ne, uL_eq, uL_ne, z_toInt, Int.reduceToNat] at q
        refine wp_keys [0, 1] rfl rfl ?_
        refine ih (I', _) ⟨?_, iZ_add i 1⟩
        dsimp only
        rw [ed]
        unfold dorZ
        dsimp only
        rw [hins, hout, ← hB, if_neg (by omega)]
      · simp (disch := omega) only [z_i8, z_i16, z_of, z_ofN, z_lofN, z_0, z_1, z_m1, z_l0, z_l1, iZ_add, iZ_sub, iZ_mul, iZ_neg, lZ_add, lZ_sub, lZ_mul, lZ_neg, z_div, z_ldiv, z_l, z_i, z_lt, z_le, z_eq, z_llt, z_lle, z_leq, z_cgt, z_cge, z_clt, z_cle, z_ceq, z_cl, z_nat, Int.toNat_natCast, mm_I, mm_J, z_cln, z_abs, z_max, z_min, z_lmax, z_lmin, z_sin, Int.cast_ofNat_Int, uI_I, uI_J, uL_I, uL_J, uA_I, uA_J, sI_eq, sI_ne, sL_eq, sL_ne, up_eq, up_ne, uL_eq, uL_ne, z_toInt, Int.reduceToNat] at q
        have mb := mb (by omega)
        have eN : I' 285 (iZ (i : Int)).toNatClampNeg * (iZ O - iZ B) / iZ 100 = iZ (vI I' 285 i * (O - B) / 100) := by
          rw [gg 285]; simp (disch := omega) only [z_i8, z_i16, z_of, z_ofN, z_lofN, z_0, z_1, z_m1, z_l0, z_l1, iZ_add, iZ_sub, iZ_mul, iZ_neg, lZ_add, lZ_sub, lZ_mul, lZ_neg, z_div, z_ldiv, z_l, z_i, z_lt, z_le, z_eq, z_llt, z_lle, z_leq, z_cgt, z_cge, z_clt, z_cle, z_ceq, z_cl, z_nat, Int.toNat_natCast, mm_I, mm_J, z_cln, z_abs, z_max, z_min, z_lmax, z_lmin, z_sin, Int.cast_ofNat_Int, uI_I, uI_J, uL_I, uL_J, uA_I, uA_J, sI_eq, sI_ne, sL_eq, sL_ne, up_eq, up_ne, uL_eq, uL_ne, z_toInt, Int.reduceToNat]
        refine And.intro hin (And.intro hin (And.intro (by decide) (And.intro rfl (wpC_mono (dr_pours hW' hp (n := vI I' 285 i * (O - B) / 100) ⟨by omega, by omega⟩ e282 eN) (fun r M h => ?_)))))
        obtain ⟨rfl, I2, rfl, h⟩ := h
        refine wp_keys [0, 1] rfl rfl ?_
        refine ih (I2, _) ⟨?_, iZ_add i 1⟩
        dsimp only
        rw [ed]
        unfold dorZ
        dsimp only
        rw [hins, hout, ← hB, if_pos (by omega)]
        exact h
    refine wf (hs := [2, 51]) 40 2 (by decide) (And.intro (inL (by decide)) (wF g11 ?_))
    refine And.intro hin (And.intro hin (And.intro rfl (m_insideAt hW' hp w2 e282 (gg 283) ?_)))
    rw [hins]
    have g284 := gg 284
    refine And.intro hin (And.intro (fun q => ?_) (fun q => ?_))
    · have q : iZ Z ≤ I' 284 (iZ (i : Int)).toNatClampNeg := q
      rw [g284] at q
      simp (disch := omega) only [z_i8, z_i16, z_of, z_ofN, z_lofN, z_0, z_1, z_m1, z_l0, z_l1, iZ_add, iZ_sub, iZ_mul, iZ_neg, lZ_add, lZ_sub, lZ_mul, lZ_neg, z_div, z_ldiv, z_l, z_i, z_lt, z_le, z_eq, z_llt, z_lle, z_leq, z_cgt, z_cge, z_clt, z_cle, z_ceq, z_cl, z_nat, Int.toNat_natCast, mm_I, mm_J, z_cln, z_abs, z_max, z_min, z_lmax, z_lmin, z_sin, Int.cast_ofNat_Int, uI_I, uI_J, uL_I, uL_J, uA_I, uA_J, sI_eq, sI_ne, sL_eq, sL_ne, up_eq, up_ne, uL_eq, uL_ne, z_toInt, Int.reduceToNat] at q
      refine And.intro hin ?_
      refine wp_keys [0, 1, 3] rfl rfl ?_
      have := tail (vI I' 284 i) (by omega)
      rw [← g284] at this
      exact this
    · have q : ¬ iZ Z ≤ I' 284 (iZ (i : Int)).toNatClampNeg := q
      rw [g284] at q
      simp (disch := omega) only [z_i8, z_i16, z_of, z_ofN, z_lofN, z_0, z_1, z_m1, z_l0, z_l1, iZ_add, iZ_sub, iZ_mul, iZ_neg, lZ_add, lZ_sub, lZ_mul, lZ_neg, z_div, z_ldiv, z_l, z_i, z_lt, z_le, z_eq, z_llt, z_lle, z_leq, z_cgt, z_cge, z_clt, z_cle, z_ceq, z_cl, z_nat, Int.toNat_natCast, mm_I, mm_J, z_cln, z_abs, z_max, z_min, z_lmax, z_lmin, z_sin, Int.cast_ofNat_Int, uI_I, uI_J, uL_I, uL_J, uA_I, uA_J, sI_eq, sI_ne, sL_eq, sL_ne, up_eq, up_ne, uL_eq, uL_ne, z_toInt, Int.reduceToNat] at q
      refine wp_keys [0, 1, 3] rfl rfl ?_
      exact tail Z (by omega)
end M9
