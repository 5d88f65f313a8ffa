/-! ===== the reference reads facts and tests ===== -/
def MFt (r : Nat) (I0 I : Nat → Nat → Int32) : Prop := (∀ a, a ≠ 265 → a ≠ 291 → a ≠ 292 → a ≠ 301 → I a = I0 a) ∧ (∀ j, j ≠ 28 → j ≠ 29 → j ≠ 32 → j ≠ 33 → j ≠ 34 → j ≠ 35 → I 265 j = I0 265 j) ∧ (∀ j, j < 300 * r → I 291 j = I0 291 j ∧ I 292 j = I0 292 j)
def MY (I0 I : Nat → Nat → Int32) (r q : Nat) (f c : Int) (L : List Int) (S : List Int) (dp : Int) : Prop := MX I I r q f c L ∧ I 265 35 = iZ (S.length : Nat) ∧ I 265 33 = iZ dp ∧ (∀ i, i < S.length → I 301 i = iZ (S.getD (S.length - 1 - i) 0)) ∧ MFt r I0 I
def MErr (I0 I : Nat → Nat → Int32) (r : Nat) (e : Int) : Prop := I 265 29 = iZ e ∧ (0 < e ∧ e ≤ 1000000) ∧ (∃ q, q ≤ 600 ∧ I 265 28 = iZ (q : Nat)) ∧ MFt r I0 I
theorem MFr_Ft {r : Nat} {I0 I I' : Nat → Nat → Int32} (h : MFt r I0 I) (h' : MFr r I I') : MFt r I0 I' := ⟨fun a q1 q2 q3 q4 => (h'.1 a q1 q2 q3).trans (h.1 a q1 q2 q3 q4), fun j q1 q2 q3 q4 q5 q6 => (h'.2.1 j q1 q2 q3 q5).trans (h.2.1 j q1 q2 q3 q4 q5 q6), fun j hj => ⟨(h'.2.2 j hj).1.trans (h.2.2 j hj).1, (h'.2.2 j hj).2.trans (h.2.2 j hj).2⟩⟩
section MTEST
variable {E : Nat × (Nat → Int32)} {d : Nat} {I I0 I1 : Nat → Nat → Int32} {J : Nat → Nat → Int64} {A : Nat → Option Nat} {Q : Option Value → am_M → Prop} {M : am_M} {T : Nat → Int} {t r q : Nat} {f c dp : Int} {L S : List Int} {s : pS}
theorem MX_self {I' : Nat → Nat → Int32} (h : MX I I' r q f c L) : MX I' I' r q f c L := by
  obtain ⟨h1, h2, h3, h4, h5, -, h6⟩ := h
  exact ⟨h1, h2, h3, h4, h5, ⟨fun _ _ _ _ => rfl, fun _ _ _ _ _ => rfl, fun _ _ => ⟨rfl, rfl⟩⟩, h6⟩
theorem MY_re {I' : Nat → Nat → Int32} {q' : Nat} {f' c' : Int} {L' : List Int} (h : MY I0 I r q f c L S dp) (h' : MX I I' r q' f' c' L') : MY I0 I' r q' f' c' L' S dp := by
  obtain ⟨a1, a2, a3, a4, a5⟩ := h
  have fr := h'.2.2.2.2.2.1
  exact ⟨MX_self h', by rw [fr.2.1 35 (by omega) (by omega) (by omega) (by omega)]; exact a2, by rw [fr.2.1 33 (by omega) (by omega) (by omega) (by omega)]; exact a3, fun i hi => by rw [fr.1 301 (by omega) (by omega) (by omega)]; exact a4 i hi, MFr_Ft a5 fr⟩
theorem MY_TM (hT : TM I0 T t) (h : MY I0 I r q f c L S dp) : TM I T t := ⟨hT.1, by rw [h.2.2.2.2.2.1 27 (by omega) (by omega) (by omega) (by omega) (by omega) (by omega)]; exact hT.2.1, fun i hi => ⟨(hT.2.2 i hi).1, by rw [h.2.2.2.2.1 290 (by omega) (by omega) (by omega) (by omega)]; exact (hT.2.2 i hi).2⟩⟩
theorem MY_err (h : MY I0 I r q f c L S dp) (hq : q ≤ 600) (hf : f ≠ 0) : MErr I0 I r f := ⟨h.1.2.1, by have := h.1.2.2.2.2.2.2; omega, ⟨q, hq, h.1.1⟩, h.2.2.2.2⟩
theorem MY_30 (h30 : I0 265 30 = iZ r) (h : MY I0 I r q f c L S dp) : I 265 30 = iZ r := by rw [h.2.2.2.2.2.1 30 (by omega) (by omega) (by omega) (by omega) (by omega) (by omega)]; exact h30
theorem MY_36 (h36 : I0 265 36 = iZ 19) (h : MY I0 I r q f c L S dp) : I 265 36 = iZ 19 := by rw [h.2.2.2.2.2.1 36 (by omega) (by omega) (by omega) (by omega) (by omega) (by omega)]; exact h36
/-- a field of its own changed -/
theorem MX_o {j : Nat} {x : Int32} (h : MX I I r q f c L) (hj : j ≠ 28 ∧ j ≠ 29 ∧ j ≠ 32 ∧ j ≠ 34) : MX (setI I 265 j x) (setI I 265 j x) r q f c L := by
  obtain ⟨h1, h2, h3, h4, h5, -, h6⟩ := h
  have at1 : ∀ a i, a ≠ 265 ∨ i ≠ j → setI I 265 j x a i = I a i := fun a i w => by rw [setI_at, if_neg (by omega)]
  refine ⟨by rw [at1 265 28 (by omega)]; exact h1, by rw [at1 265 29 (by omega)]; exact h2, by rw [at1 265 34 (by omega)]; exact h3, by rw [at1 265 32 (by omega)]; exact h4, fun k hk => ?_, ⟨fun _ _ _ _ => rfl, fun _ _ _ _ _ => rfl, fun _ _ => ⟨rfl, rfl⟩⟩, h6⟩
  unfold vI; rw [at1 291 _ (by omega), at1 292 _ (by omega)]; exact h5 k hk
theorem m_top (h : MY I0 I r q f c L S dp) (hS : S.length ≤ 401) (hQ : Q (some (.int (iZ (S.headD (-1))))) (mm I J A)) : wpC E d 204 [.ref 265] (mm I J A) Q := by
  obtain ⟨-, a2, -, a4, -⟩ := h
  cases S with
  | nil =>
    have c0 : I 265 35 = 0 := a2
    exact wc (hs := []) 20 (by decide) (wt c0 hQ)
  | cons x S =>
    have a2 : I 265 35 = iZ ((S.length + 1 : Nat) : Int) := a2
    have hS : S.length + 1 ≤ 401 := hS
    have c0 : ¬ I 265 35 = 0 := by
      rw [a2]
      show ¬ iZ _ = iZ 0
      ((try simp (disch := omega) only [z_i8, z_i16, z_of, z_ofN, z_lofN, z_0, z_1, z_m1, z_l0, z_l1, iZ_add, iZ_sub, iZ_mul, iZ_neg, lZ_add, lZ_sub, lZ_mul, lZ_neg, z_div, z_ldiv, z_l, z_i, z_lt, z_le, z_eq, z_llt, z_lle, z_leq, z_cgt, z_cge, z_clt, z_cle, z_ceq, z_cl, z_nat, Int.toNat_natCast, mm_I, mm_J, z_cln, z_abs, z_max, z_min, z_lmax, z_lmin, z_sin, Int.cast_ofNat_Int, uI_I, uI_J, uL_I, uL_J, uA_I, uA_J, sI_eq, sI_ne, sL_eq, sL_ne, up_eq, up_ne, uL_eq, uL_ne, z_toInt, Int.reduceToNat]) <;> omega)
    have e1 : I 265 35 - iZ 1 = iZ (S.length : Nat) := by rw [a2, iZ_sub]; congr 1; omega
    have cl : (I 265 35 - iZ 1).toNatClampNeg = S.length := by rw [e1]; exact z_cln (by omega)
    have hin : vp_in (I 265 35 - iZ 1) 402 := by rw [e1]; exact z_in (by omega) (by omega) (by omega)
    refine wc (hs := []) 20 (by decide) (wF c0 (And.intro hin (q_i hQ ?_)))
    show I 301 (I 265 35 - iZ 1).toNatClampNeg = _
    rw [cl, a4 S.length (by show S.length < S.length + 1; omega)]
    show iZ ((x :: S).getD (S.length + 1 - 1 - S.length) 0) = _
    rw [show S.length + 1 - 1 - S.length = 0 by omega]; rfl
theorem m_push {k : Int} {pc' : Nat} (h : MY I0 I r q f c L S dp) (hS : S.length ≤ 401) {x1 : Int32} (ex : x1 = iZ k) (hQ : ∀ I', MY I0 I' r q f c L (k :: S) dp → Q none (mm I' J A)) : wp E d 205 40 [(0, .ref 265), (1, .int x1)] [] (mm I J A) Q := by
  subst ex
  obtain ⟨a1, a2, a3, a4, a5⟩ := h
  have cl : (I 265 35).toNatClampNeg = S.length := by rw [a2]; exact z_cln (by omega)
  have hin : vp_in (I 265 35) 402 := by rw [a2]; exact z_in (by omega) (by omega) (by omega)
  obtain ⟨I1, hI1⟩ : ∃ I1, I1 = setI I 301 (I 265 35).toNatClampNeg (iZ k) := ⟨_, rfl⟩
  have at1 : ∀ a, a ≠ 301 → I1 a = I a := fun a w => by rw [hI1]; funext j; rw [setI_at, if_neg (fun y => w y.1)]
  have h1 : MX I1 I1 r q f c L := by
    obtain ⟨h1, h2, h3, h4, h5, -, h6⟩ := a1
    refine ⟨by rw [at1 265 (by omega)]; exact h1, by rw [at1 265 (by omega)]; exact h2, by rw [at1 265 (by omega)]; exact h3, by rw [at1 265 (by omega)]; exact h4, fun k hk => ?_, ⟨fun _ _ _ _ => rfl, fun _ _ _ _ _ => rfl, fun _ _ => ⟨rfl, rfl⟩⟩, h6⟩
    unfold vI; rw [at1 291 (by omega), at1 292 (by omega)]; exact h5 k hk
  have h2 := MX_o (j := 35) (x := I1 265 35 + iZ 1) h1 (by omega)
  have e35 : I1 265 35 + iZ 1 = iZ (((k :: S).length : Nat) : Int) := by rw [at1 265 (by omega), a2, iZ_add]; rfl
  have at2 : ∀ a j, a ≠ 265 ∨ j ≠ 35 → setI I1 265 35 (I1 265 35 + iZ 1) a j = I1 a j := fun a j w => by rw [setI_at, if_neg (by omega)]
  have H := hQ (setI I1 265 35 (I1 265 35 + iZ 1)) ⟨h2, by rw [setI_at, if_pos ⟨rfl, rfl⟩, e35], by rw [at2 265 33 (by omega), at1 265 (by omega)]; exact a3, fun i hi => ?_, ⟨fun a w1 w2 w3 w4 => ?_, fun j w1 w2 w3 w4 w5 w6 => by rw [at2 265 j (by omega), at1 265 (by omega)]; exact a5.2.1 j w1 w2 w3 w4 w5 w6, fun j hj => by rw [at2 291 j (by omega), at2 292 j (by omega), at1 291 (by omega), at1 292 (by omega)]; exact a5.2.2 j hj⟩⟩
  · rw [hI1] at H
    exact wf (hs := []) 20 40 (by decide) (And.intro hin H)
  · have hi : i < S.length + 1 := hi
    rw [at2 301 i (by omega), hI1, setI_at, cl]
    show _ = iZ ((k :: S).getD (S.length + 1 - 1 - i) 0)
    by_cases w : i = S.length
    · rw [if_pos ⟨rfl, w⟩, w, show S.length + 1 - 1 - S.length = 0 by omega]; rfl
    · rw [if_neg (fun y => w y.2), a4 i (by omega), show S.length + 1 - 1 - i = (S.length - 1 - i) + 1 by omega]; rfl
  · rw [← a5.1 a w1 w2 w3 w4, ← at1 a w4]; funext j; exact at2 a j (by omega)
theorem m_opens {k : Int} {x1 : Int32} (h : MY I0 I r q 0 c L S dp) (hS : S.length ≤ 401) (hk : k = 9 ∨ k = 10 ∨ k = 11 ∨ k = 12) (hd : 0 ≤ dp ∧ dp ≤ 10) (hq : q ≤ 500) (ex : x1 = iZ k) (hQ : ∀ I', MY I0 I' r q (if (k = 9 ∨ k = 12) ∧ dp = 10 then flt 2 q else 0) c L (k :: S) (if k = 9 ∨ k = 12 then dp + 1 else dp) → Q none (mm I' J A)) : wpC E (d + 1) 205 [.ref 265, .int x1] (mm I J A) Q := by
  subst ex
  have e33 : I 265 33 = iZ dp := h.2.2.1
  have B30 : (k = 9 ∨ k = 12) → ∀ I' f', MY I0 I' r q f' c L S dp → (∀ I'', MY I0 I'' r q f' c L (k :: S) (dp + 1) → Q none (mm I'' J A)) → wp E (d + 1) 205 30 [(0, .ref 265), (1, .int (iZ k))] [] (mm I' J A) Q := fun w I' f' h' o => by
    obtain ⟨a1, a2, a3, a4, a5⟩ := h'
    have h2 := MX_o (j := 33) (x := I' 265 33 + iZ 1) a1 (by omega)
    have at2 : ∀ a j, a ≠ 265 ∨ j ≠ 33 → setI I' 265 33 (I' 265 33 + iZ 1) a j = I' a j := fun a j w => by rw [setI_at, if_neg (by omega)]
    have h3 : MY I0 (setI I' 265 33 (I' 265 33 + iZ 1)) r q f' c L S (dp + 1) := ⟨h2, by rw [at2 265 35 (by omega)]; exact a2, by rw [setI_at, if_pos ⟨rfl, rfl⟩, a3, iZ_add], fun i hi => by rw [at2 301 i (by omega)]; exact a4 i hi, ⟨fun a w1 w2 w3 w4 => by rw [← a5.1 a w1 w2 w3 w4]; funext j; exact at2 a j (by omega), fun j w1 w2 w3 w4 w5 w6 => by rw [at2 265 j (by omega)]; exact a5.2.1 j w1 w2 w3 w4 w5 w6, fun j hj => by rw [at2 291 j (by omega), at2 292 j (by omega)]; exact a5.2.2 j hj⟩⟩
    exact wf (hs := [40]) 20 30 (by decide) (m_push (pc' := 0) h3 hS rfl o)
  have B12 : (k = 9 ∨ k = 12) → wp E (d + 1) 205 12 [(0, .ref 265), (1, .int (iZ k))] [] (mm I J A) Q := fun w => by
    rw [if_pos w] at hQ
    by_cases d10 : dp = 10
    · have c0 : I 265 33 = iZ 10 := by rw [e33, d10]
      refine wf (hs := [30]) 20 12 (by decide) (wt c0 (And.intro rfl (m_fails (k := 2) (pl := q) h.1 (by omega) (by omega) rfl h.1.1 (fun I2 h2 => ?_))))
      rw [if_pos rfl] at h2
      exact B30 w I2 _ (MY_re h h2) (by rw [if_pos ⟨w, d10⟩] at hQ; exact hQ)
    · have c0 : ¬ I 265 33 = iZ 10 := by rw [e33]; ((try simp (disch := omega) only [z_i8, z_i16, z_of, z_ofN, z_lofN, z_0, z_1, z_m1, z_l0, z_l1, iZ_add, iZ_sub, iZ_mul, iZ_neg, lZ_add, lZ_sub, lZ_mul, lZ_neg, z_div, z_ldiv, z_l, z_i, z_lt, z_le, z_eq, z_llt, z_lle, z_leq, z_cgt, z_cge, z_clt, z_cle, z_ceq, z_cl, z_nat, Int.toNat_natCast, mm_I, mm_J, z_cln, z_abs, z_max, z_min, z_lmax, z_lmin, z_sin, Int.cast_ofNat_Int, uI_I, uI_J, uL_I, uL_J, uA_I, uA_J, sI_eq, sI_ne, sL_eq, sL_ne, up_eq, up_ne, uL_eq, uL_ne, z_toInt, Int.reduceToNat]) <;> omega)
      refine wf (hs := [30]) 20 12 (by decide) (wF c0 (B30 w I 0 h (by rw [if_neg (fun y => d10 y.2)] at hQ; exact hQ)))
  rcases hk with rfl | rfl | rfl | rfl
  · exact wc (hs := [12]) 20 (by decide) (wt rfl (B12 (Or.inl rfl)))
  · exact wc (hs := [12, 40]) 20 (by decide) (wF (by decide) (wF (by decide) (m_push (pc' := 0) h hS rfl hQ)))
  · exact wc (hs := [12, 40]) 20 (by decide) (wF (by decide) (wF (by decide) (m_push (pc' := 0) h hS rfl hQ)))
  · exact wc (hs := [12]) 20 (by decide) (wF (by decide) (wt rfl (B12 (Or.inr rfl))))
/-- answers: nothing on the top that waits -/
theorem m_ans0 {k : Int} {x1 : Int32} (h : MY I0 I r q f c L S dp) (hS : S.length ≤ 401) (hb : ∀ x ∈ S, -2147483648 ≤ x ∧ x ≤ 2147483647) (hk : 0 ≤ k ∧ k ≤ 100) (hn : S.headD (-1) ≠ k) (ex : x1 = iZ k) (hQ : Q none (mm I J A)) : wp E (d + 1) 206 0 [(0, .ref 265), (1, .int x1)] [] (mm I J A) Q := by
  subst ex
  have hd : -2147483648 ≤ S.headD (-1) ∧ S.headD (-1) ≤ 2147483647 := by
    cases S with
    | nil => show -2147483648 ≤ (-1 : Int) ∧ (-1 : Int) ≤ _; omega
    | cons x S => exact hb x List.mem_cons_self
  have n1 : ¬ iZ (S.headD (-1)) = iZ k := by
    generalize S.headD (-1) = X at hd hn
    ((try simp (disch := omega) only [z_i8, z_i16, z_of, z_ofN, z_lofN, z_0, z_1, z_m1, z_l0, z_l1, iZ_add, iZ_sub, iZ_mul, iZ_neg, lZ_add, lZ_sub, lZ_mul, lZ_neg, z_div, z_ldiv, z_l, z_i, z_lt, z_le, z_eq, z_llt, z_lle, z_leq, z_cgt, z_cge, z_clt, z_cle, z_ceq, z_cl, z_nat, Int.toNat_natCast, mm_I, mm_J, z_cln, z_abs, z_max, z_min, z_lmax, z_lmin, z_sin, Int.cast_ofNat_Int, uI_I, uI_J, uL_I, uL_J, uA_I, uA_J, sI_eq, sI_ne, sL_eq, sL_ne, up_eq, up_ne, uL_eq, uL_ne, z_toInt, Int.reduceToNat]) <;> omega)
  exact wf (hs := [0]) 20 0 (by decide) (And.intro rfl (m_top h hS (wF n1 hQ)))
/-- answers: one that waits -/
theorem m_ans1 {k : Int} {x : Int} {x1 : Int32} (hr : r < 6) (h30 : I0 265 30 = iZ r) (h : MY I0 I r q 0 c L (k :: S) dp) (hS : S.length ≤ 400) (hl : L.length < 300) (hk : (k = 9 ∧ x = 26) ∨ (k = 10 ∧ x = 24) ∨ (k = 11 ∧ x = 25)) (ex : x1 = iZ k) (hQ : ∀ I', MY I0 I' r q 0 c (L ++ [x]) S (if k = 9 then dp - 1 else dp) → wp E (d + 1) 206 0 [(0, .ref 265), (1, .int (iZ k))] [] (mm I' J A) Q) : wp E (d + 1) 206 0 [(0, .ref 265), (1, .int x1)] [] (mm I J A) Q := by
  subst ex
  have c0 : I 265 29 = 0 := h.1.2.1
  have ent : ENT x k 0 := by unfold ENT smp; rcases hk with ⟨rfl, rfl⟩ | ⟨rfl, rfl⟩ | ⟨rfl, rfl⟩ <;> simp
  refine wf (hs := [0]) 60 0 (by decide) (And.intro rfl (m_top h (by show S.length + 1 ≤ 401; omega) (wt rfl (wt c0 (And.intro rfl (m_entry (a := k) (b := 0) (x := x) hr h.1 (MY_30 h30 h) (fun _ => hl) (fun _ => ent) (by omega) (by omega) rfl rfl (fun I2 h2 => ?_)))))))
  rw [if_pos rfl] at h2
  obtain ⟨a1, a2, a3, a4, a5⟩ := MY_re h h2
  have e35 : I2 265 35 - iZ 1 = iZ (S.length : Nat) := by
    rw [a2, iZ_sub]
    congr 1
    show ((S.length + 1 : Nat) : Int) - 1 = _
    omega
  have fin : ∀ y : Int32, y = iZ (if k = 9 then 1 else 0) → wp E (d + 1) 206 0 [(0, .ref 265), (1, .int (iZ k))] [] (mm (setI (setI I2 265 35 (I2 265 35 - iZ 1)) 265 33 (setI I2 265 35 (I2 265 35 - iZ 1) 265 33 - y)) J A) Q := fun y ey => by
    subst ey
    have h3 := MX_o (j := 33) (x := setI I2 265 35 (I2 265 35 - iZ 1) 265 33 - iZ (if k = 9 then 1 else 0)) (MX_o (j := 35) (x := I2 265 35 - iZ 1) a1 (by omega)) (by omega)
    have at2 : ∀ a j, a ≠ 265 ∨ (j ≠ 33 ∧ j ≠ 35) → setI (setI I2 265 35 (I2 265 35 - iZ 1)) 265 33 (setI I2 265 35 (I2 265 35 - iZ 1) 265 33 - iZ (if k = 9 then 1 else 0)) a j = I2 a j := fun a j w => by rw [setI_at, if_neg (by omega), setI_at, if_neg (by omega)]
    refine hQ _ ⟨h3, ?_, ?_, fun i hi => ?_, ⟨fun a w1 w2 w3 w4 => ?_, fun j w1 w2 w3 w4 w5 w6 => ?_, fun j hj => ?_⟩⟩
    · rw [setI_at, if_neg (by omega), setI_at, if_pos ⟨rfl, rfl⟩, e35]
    · rw [setI_at, if_pos ⟨rfl, rfl⟩, setI_at, if_neg (by omega), a3, iZ_sub]
      congr 1
      split <;> omega
    · rw [at2 301 i (by omega), a4 i (by show i < S.length + 1; omega)]
      show iZ ((k :: S).getD (S.length + 1 - 1 - i) 0) = _
      rw [show S.length + 1 - 1 - i = (S.length - 1 - i) + 1 by omega]; rfl
    · rw [← a5.1 a w1 w2 w3 w4]; funext j; exact at2 a j (by omega)
    · rw [at2 265 j (by omega)]; exact a5.2.1 j w1 w2 w3 w4 w5 w6
    · rw [at2 291 j (by omega), at2 292 j (by omega)]; exact a5.2.2 j hj
  rcases hk with ⟨rfl, -⟩ | ⟨rfl, -⟩ | ⟨rfl, -⟩
  · exact wt rfl (fin _ rfl)
  · exact wF (by decide) (fin _ rfl)
  · exact wF (by decide) (fin _ rfl)
end MTEST
