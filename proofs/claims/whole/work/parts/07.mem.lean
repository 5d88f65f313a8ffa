/-! ===== the instructions that read and write cells ===== -/
def am_sz : am_L → Nat
  | .inl c => am_nf c
  | .inr t => t.2
def am_sl (M : am_M) : Nat := (M.1.map am_sz).sum
theorem am_sl_new (M : am_M) (x : am_L) : am_sl (am_new M x) = am_sl M + am_sz x := by
  simp [am_sl, am_new]
theorem am_len_new (M : am_M) (x : am_L) : (am_new M x).1.length = M.1.length + 1 := by
  simp [am_new]
theorem am_sv_w {B : Nat} {X : Nat → Value} {cA : Nat → ClassId} {M M1 : am_M} {c a j : Nat} {v : Value} (h : am_sv M c a j v = some M1) (ha : M.1[a]? = some (.inl c)) (hj : j < am_nf c) :
    (am_w B cA M).set a (B + a, .inr (c, ((List.range (am_nf c)).map (fun i => am_gr B M c a i)).set j (am_v B X v))) = am_w B cA M1 ∧ M1.1 = M.1 ∧ narrow (am_ty c j) (am_v B X v) = am_v B X v ∧ fits (am_ty c j) (am_v B X v) = true := by
  have key : ∀ N : am_M, (∀ x, (am_w B cA M).set a (B + a, am_ca B cA N a x) = (am_w B cA M).set a (B + a, am_ca B cA N a x)) → am_gr B N c a j = am_v B X v → (∀ i, i ≠ j → am_gr B N c a i = am_gr B M c a i) → (am_w B cA M).set a (B + a, am_ca B cA N a (.inl c)) = am_w B cA N → (am_w B cA M).set a (B + a, .inr (c, ((List.range (am_nf c)).map (fun i => am_gr B M c a i)).set j (am_v B X v))) = am_w B cA N := by
    intro N _ h1 h2 h3
    rw [am_fs_set hj h1 h2]
    exact h3
  unfold am_sv at h
  split at h
  · rename_i x hty
    cases h
    refine ⟨key _ (fun _ => rfl) ?_ (fun i hi => ?_) (am_w_uL _ ha), rfl, ?_, ?_⟩
    · simp only [am_gr, hty, am_uL, am_sL_eq, am_v]; simp [vp_updL]
    · simp only [am_gr, am_rf, am_uL, am_sL_eq]
      cases am_ty c i <;> simp [vp_updL, hi]
    · rw [hty]; rfl
    · rw [hty]; rfl
  · rename_i x b hty
    by_cases hq : c = 0 ∧ j = 0
    · rw [if_pos hq] at h
      cases h
      refine ⟨key _ (fun _ => rfl) ?_ (fun i hi => ?_) (am_w_uA _ ha), rfl, ?_, ?_⟩
      · simp only [am_gr, hty, am_rf, if_pos hq, am_uA, am_v]; simp [va_rf]
      · simp only [am_gr, am_rf, am_uA]
        have : ¬ (c = 0 ∧ i = 0) := fun q => hi (by omega)
        simp only [if_neg this]
      · rw [hty]; rfl
      · rw [hty]; rfl
    · rw [if_neg hq] at h
      cases h
      refine ⟨key _ (fun _ => rfl) ?_ (fun i hi => ?_) (am_w_uR _ _ ha), rfl, ?_, ?_⟩
      · simp only [am_gr, hty, am_rf, if_neg hq, am_uR, am_v, am_rl_eq]; simp [va_rf]
      · simp only [am_gr, am_rf, am_uR, am_rl_ne (Or.inr hi)]
      · rw [hty]; rfl
      · rw [hty]; rfl
  · rename_i x b hty
    by_cases hq : c = 0 ∧ j = 0
    · rw [if_pos hq] at h
      cases h
      refine ⟨key _ (fun _ => rfl) ?_ (fun i hi => ?_) (am_w_uA _ ha), rfl, ?_, ?_⟩
      · simp only [am_gr, hty, am_rf, if_pos hq, am_uA, am_v]; simp [va_rf]
      · simp only [am_gr, am_rf, am_uA]
        have : ¬ (c = 0 ∧ i = 0) := fun q => hi (by omega)
        simp only [if_neg this]
      · rw [hty]; rfl
      · rw [hty]; rfl
    · rw [if_neg hq] at h
      cases h
      refine ⟨key _ (fun _ => rfl) ?_ (fun i hi => ?_) (am_w_uR _ _ ha), rfl, ?_, ?_⟩
      · simp only [am_gr, hty, am_rf, if_neg hq, am_uR, am_v, am_rl_eq]; simp [va_rf]
      · simp only [am_gr, am_rf, am_uR, am_rl_ne (Or.inr hi)]
      · rw [hty]; rfl
      · rw [hty]; rfl
  · rename_i x hty
    cases h
    refine ⟨key _ (fun _ => rfl) ?_ (fun i hi => ?_) (am_w_uI _ ha), rfl, ?_, ?_⟩
    · simp only [am_gr, hty, am_uI, am_sI_eq, am_v]; simp [upd]
    · simp only [am_gr, am_rf, am_uI, am_sI_eq]
      cases am_ty c i <;> simp [upd, hi]
    · rw [hty]; rfl
    · rw [hty]; rfl
  · rename_i x hty
    split at h
    · rename_i hx
      cases h
      refine ⟨key _ (fun _ => rfl) ?_ (fun i hi => ?_) (am_w_uI _ ha), rfl, ?_, ?_⟩
      · simp only [am_gr, hty, am_uI, am_sI_eq, am_v]; simp [upd]
      · simp only [am_gr, am_rf, am_uI, am_sI_eq]
        cases am_ty c i <;> simp [upd, hi]
      · rw [hty]; rcases hx with rfl | rfl <;> rfl
      · rw [hty]; rcases hx with rfl | rfl <;> rfl
    · cases h
  · cases h
section AMM
variable {p : Program} {l : Launch} {e : Env} {R : Room} {s : State} {m : MethodId} {args : Array Value} {below : List Frame} {meth : Method} {c : Code} {H : Heap} {locs : List Loc} {cells slots : Nat} {Q : State → Prop}
variable {L : Nat} {xs : Nat → Int32} {B : Nat} {X : Nat → Value} {D : va_G} {cA : Nat → ClassId} {k d pc n0 : Nat} {ls : Array Slot} {M M' : am_M}
theorem am_size {g : JFrame} (kk : H.size ≤ s.heap.size + cells → W p l e R s m args below meth c H locs cells slots Q g) : W p l e R s m args below meth c H locs cells slots Q g :=
  fun T hT X => kk (by rw [← hT]; exact X.heapSize) T hT X
theorem am_szeq (hP : va_P D vwCl (am_w B cA M) H) (hS : va_S (fun q => B ≤ q) s.heap H locs) (h0 : s.heap.size = B + n0) (hn : n0 ≤ M.1.length) (hu : H.size ≤ s.heap.size + (M.1.length - n0)) : H.size = B + M.1.length := by
  have h1 := hS.1
  by_cases e : M.1.length = n0
  · omega
  · have hlt : M.1.length - 1 < M.1.length := by omega
    have := (hP (M.1.length - 1) _ (am_w_some (List.getElem?_eq_getElem hlt))).lt
    dsimp only at this
    omega
/-- a new cell is the next one -/
theorem am_fresh {q : Nat} {E : va_E} {H1 : Heap} {locs1 : List Loc} (hP : va_P D vwCl (am_w B cA M ++ [(q, E)]) H1) (hD : va_D (fun q => B ≤ q) (am_w B cA M ++ [(q, E)])) (h0 : s.heap.size = B + n0) (hn : n0 ≤ M.1.length) (hu : H1.size ≤ s.heap.size + (M.1.length - n0 + 1)) : q = B + M.1.length := by
  have hlen : (am_w B cA M).length = M.1.length := by simp [am_w]
  have hq : (am_w B cA M ++ [(q, E)])[M.1.length]? = some (q, E) := by
    rw [List.getElem?_append_right (by rw [hlen]; exact Nat.le_refl _), hlen]; simp
  have h1 := (hP _ _ hq).lt
  have h2 : B ≤ q := hD.2 _ _ hq
  dsimp only at h1
  by_cases e : q = B + M.1.length
  · exact e
  · exfalso
    have hk : q - B < M.1.length := by omega
    have hx : (am_w B cA M ++ [(q, E)])[q - B]? = some (B + (q - B), am_ca B cA M (q - B) M.1[q - B]) := by
      rw [List.getElem?_append_left (by rw [hlen]; exact hk)]
      exact am_w_some (List.getElem?_eq_getElem hk)
    have := hD.1 _ _ _ _ hx hq (by dsimp only; omega)
    omega
theorem am_ar_0 : am_ar B M k 0 = .inl (M.2.1 k) := rfl
theorem am_fsk {cn a j : Nat} (h : j < am_nf cn) : ((List.range (am_nf cn)).map (fun i => am_gr B M cn a i))[j]? = some (am_gr B M cn a j) := by
  simp [h]
theorem am_okF_use {own : String} {i a1 a2 a3 : Nat} (h : am_okF own i a1 a2 a3 = true) : ∃ C T N, vwCl[a1]? = some (C, T, N) ∧ a2 < N ∧ am_lf own i a3 (T a2).1 (T a2).2.1 (T a2).2.2.1 = true := by
  unfold am_okF at h
  split at h
  · rename_i C T N hc
    rw [Bool.and_eq_true] at h
    exact ⟨C, T, N, hc, of_decide_eq_true h.1, h.2⟩
  · cases h
theorem am_getf (hT : am_T) {i a1 a2 a3 a : Nat} {rest : List Value} (hC : am_C L xs B X D cA p R s m args meth c k d n0) (ha1 : ¬ a1 = 100) (hok : am_ok k (pc, .getfield i, a1, a2, a3) = true) (hP : va_P D vwCl (am_w B cA M) H) (ha : M.1[a]? = some (.inl a1)) (hlt : a2 < am_nf a1)
    (kk : W p l e R s m args below meth c H locs cells slots Q (F0 m (pc + 3) ls (am_v B X (am_gv M a1 a a2) :: rest))) : W p l e R s m args below meth c H locs cells slots Q (F0 m pc ls (.ref (B + a) :: rest)) := by
  obtain ⟨hx, hb, hml, hown, hts, hXV, hX, hK, hBs, hR, hin⟩ := hC
  obtain ⟨hdg, ho⟩ := am_ok_dec hok
  dsimp only at hdg ho
  simp only [am_okI, if_neg ha1] at ho
  obtain ⟨C, T, N, hc, hN, hlf⟩ := am_okF_use ho
  obtain ⟨eN, hty, hnm, hws, -, -, -⟩ := hT.1 _ _ _ _ hc
  rw [am_v_gv] at kk
  rcases am_lf_use hlf hts hX with ⟨-, hl⟩ | hl
  · exact va_get (D := D) (C := C) (T := T) (N := N) hx hb hts hws hown hK hP a (am_w_some ha) hc a2 hN hl (fun _ h9 => h9) (am_fsk hlt) hdg kk
  · exact va_getN (D := D) (C := C) (T := T) (N := N) hx hb hts hws hown hK hP a (am_w_some ha) hc a2 hN hl (fun _ h9 => h9) (am_fsk hlt) hdg kk
theorem am_putf (hT : am_T) {i a1 a2 a3 a : Nat} {v : Value} {rest : List Value} (hC : am_C L xs B X D cA p R s m args meth c k d n0) (hok : am_ok k (pc, .putfield i, a1, a2, a3) = true) (hP : va_P D vwCl (am_w B cA M) H) (hS : va_S (fun q => B ≤ q) s.heap H locs) (ha : M.1[a]? = some (.inl a1)) (hlt : a2 < am_nf a1) (hsv : am_sv M a1 a a2 v = some M')
    (kk : ∀ H1 locs1, va_P D vwCl (am_w B cA M') H1 → va_S (fun q => B ≤ q) s.heap H1 locs1 → W p l e R s m args below meth c H1 locs1 cells slots Q (F0 m (pc + 3) ls rest)) : W p l e R s m args below meth c H locs cells slots Q (F0 m pc ls (am_v B X v :: .ref (B + a) :: rest)) := by
  obtain ⟨hx, hb, hml, hown, hts, hXV, hX, hK, hBs, hR, hin⟩ := hC
  obtain ⟨hdg, ho⟩ := am_ok_dec hok
  dsimp only at hdg ho
  simp only [am_okI, am_okP] at ho
  split at ho
  · rename_i C T N hc
    rw [Bool.and_eq_true, Bool.and_eq_true] at ho
    obtain ⟨⟨h1, h2⟩, h3⟩ := ho
    have hN := of_decide_eq_true h1
    obtain ⟨eN, hty, hnm, hws, -, -, -⟩ := hT.1 _ _ _ _ hc
    obtain ⟨e1, e2, e3, e4⟩ := am_sv_w (B := B) (X := X) (cA := cA) hsv ha hlt
    have hl9 : a2 < ((List.range (am_nf a1)).map (fun i => am_gr B M a1 a i)).length := by simpa using hlt
    cases hf : (T a2).2.2.2 with
    | false =>
      rcases am_lf_use h2 hts hX with ⟨-, hl⟩ | hl
      · refine va_put (D := D) (C := C) (T := T) (N := N) hx hb hts hws (am_ty a1) hty hnm hown hK hP (am_D B cA M) hS a (am_w_some ha) hc a2 hN hl (fun _ h9 => h9) hf (hty a2 hN) e3 e4 hl9 hdg (fun H1 locs1 hP1 _ hS1 => kk H1 locs1 ?_ hS1)
        rw [← e1]; exact hP1
      · refine va_putN (D := D) (C := C) (T := T) (N := N) hx hb hts hws (am_ty a1) hty hnm hown hK hP (am_D B cA M) hS a (am_w_some ha) hc a2 hN hl (fun _ h9 => h9) hf (hty a2 hN) e3 e4 hl9 hdg (fun H1 locs1 hP1 _ hS1 => kk H1 locs1 ?_ hS1)
        rw [← e1]; exact hP1
    | true =>
      rw [hf] at h3
      simp only [Bool.not_true, Bool.false_or, Bool.and_eq_true, decide_eq_true_eq] at h3
      obtain ⟨⟨g1, g2⟩, g3⟩ := h3
      have hl : (Cond.fieldLink (am_y k).cls i (T a2).1 (T a2).2.1 (T a2).2.2.1).before args s = true := by
        unfold am_lf at h2
        rw [if_pos g1] at h2
        exact hts _ (am_gd_in h2)
      refine va_putF (D := D) (C := C) (T := T) (N := N) hx hb hts hws (am_ty a1) hty hnm hown hK hP (am_D B cA M) hS a (am_w_some ha) hc a2 hN hl (fun _ h9 => h9) hf (hin g2) g3 (hty a2 hN) e3 e4 hl9 hdg (fun H1 locs1 hP1 _ hS1 => kk H1 locs1 ?_ hS1)
      rw [← e1]; exact hP1
  · cases ho
end AMM
