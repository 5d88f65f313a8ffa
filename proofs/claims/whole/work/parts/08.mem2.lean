/-! ===== arrays, new cells, copies; the family am_m whole ===== -/
section AMN
variable {p : Program} {l : Launch} {e : Env} {R : Room} {s : State} {m : MethodId} {args : Array Value} {below : List Frame} {meth : Method} {c : Code} {H : Heap} {locs : List Loc} {cells slots : Nat} {Q : State → Prop}
variable {L : Nat} {xs : Nat → Int32} {B : Nat} {X : Nat → Value} {D : va_G} {cA : Nat → ClassId} {k d pc n0 s0 : Nat} {ls : Array Slot} {M M' : am_M}
theorem am_RA_inj {U : State} {c1 c2 : ClassId} {ty : FieldType} (h1 : va_RA U c1 ty) (h2 : va_RA U c2 ty) : c1 = c2 := by
  cases ty with
  | object C =>
    obtain ⟨_, _, -, -, -, a⟩ := h1
    obtain ⟨_, _, -, -, -, b⟩ := h2
    exact Option.some.inj (a.symm.trans b)
  | _ => exact Option.some.inj (h1.symm.trans h2)
theorem am_K_last {c1 : ClassId} {ty : FieldType} {t : Nat} (hK : va_K D vwCl (am_tys cA ++ [(c1, ty)]) s) (ht : (am_tys cA)[t]? = some (cA t, ty)) : c1 = cA t := by
  have h1 := (hK.2 6 (c1, ty) (by rfl)).2
  have hlt : t < (am_tys cA).length := (List.getElem?_eq_some_iff.mp ht).1
  have h2 := (hK.2 t (cA t, ty) (by rw [List.getElem?_append_left hlt]; exact ht)).2
  exact am_RA_inj h1 h2
/-- a new array of numbers -/
theorem am_newa (hT : am_T) {at' : ArrayType} {ty : FieldType} {t : Nat} {n : Int32} {rest : List Value} {a1 a2 a3 : Nat} (hC : am_C L xs B X D cA p R s m args meth c k d n0) (hok : am_ok k (pc, .newarray at', a1, a2, a3) = true) (hty : newarray.typeOf at' = ty) (ht : (am_tys cA)[t]? = some (cA t, ty)) (hw : Cond.arrayClass ty ∈ am_B) (hby : componentBytes ty ≤ 8)
    (hnew : ∀ c1 : ClassId, vp_cell c1 (n.toNatClampNeg, am_ar B (am_new M (.inr (t, n.toNatClampNeg))) M.1.length t) = arrV c1 n.toNatClampNeg (fun _ => defaultValue ty))
    (hP : va_P D vwCl (am_w B cA M) H) (hS : va_S (fun q => B ≤ q) s.heap H locs) (hn0 : n0 ≤ M.1.length) (hs0 : s0 ≤ am_sl M) (hn : ¬ n < 0 ∧ n.toNatClampNeg ≤ 60000)
    (hc1 : (am_new M (.inr (t, n.toNatClampNeg))).1.length - n0 ≤ R.cells) (hc2 : am_sl (am_new M (.inr (t, n.toNatClampNeg))) - s0 ≤ R.slots)
    (kk : ∀ H1 locs1, va_P D vwCl (am_w B cA (am_new M (.inr (t, n.toNatClampNeg)))) H1 → va_S (fun q => B ≤ q) s.heap H1 locs1 → W p l e R s m args below meth c H1 locs1 ((am_new M (.inr (t, n.toNatClampNeg))).1.length - n0) (am_sl (am_new M (.inr (t, n.toNatClampNeg))) - s0) Q (F0 m (pc + 2) ls (.ref (B + M.1.length) :: rest))) :
    W p l e R s m args below meth c H locs (M.1.length - n0) (am_sl M - s0) Q (F0 m pc ls (.int n :: rest)) := by
  obtain ⟨hx, hb, hml, hown, hts, hXV, hX, hK, hBs, hR, hin⟩ := hC
  obtain ⟨hdg, ho⟩ := am_ok_dec hok
  dsimp only at hdg ho
  have e1 := am_len_new M (.inr (t, n.toNatClampNeg))
  have e2 : am_sl (am_new M (.inr (t, n.toNatClampNeg))) = am_sl M + n.toNatClampNeg := am_sl_new M _
  refine va_newa hx hb (by rw [hty]; exact hts _ hw) hty hK hP (am_D B cA M) hS (fun q h => Nat.le_trans (by omega) h) (a0 := (n.toNatClampNeg, am_ar B (am_new M (.inr (t, n.toNatClampNeg))) M.1.length t)) hnew hn.1 rfl (Nat.le_trans (Nat.mul_le_mul hn.2 hby) (by omega)) (by omega) (by omega) hdg (fun q c1 H1 hK1 hP1 hD1 hS1 => am_size fun hu => ?_)
  have hq := am_fresh hP1 hD1 hBs hn0 (locs1 := locs) hu
  have hc := am_K_last hK1 ht
  subst hq
  subst hc
  refine W.cs (by omega) (by omega) (kk H1 locs ?_ hS1)
  rw [am_w_new]
  exact hP1
/-- a new array of references -/
theorem am_newq {C : String} {t i : Nat} {n : Int32} {rest : List Value} {a1 a2 a3 : Nat} (hC : am_C L xs B X D cA p R s m args meth c k d n0) (hok : am_ok k (pc, .anewarray i, a1, a2, a3) = true) (hcl : Cond.classLink (am_y k).cls i C ∈ am_B) (hao : va_AO C s) (ht : (am_tys cA)[t]? = some (cA t, .object C)) (ht4 : t = 4 ∨ t = 5)
    (hP : va_P D vwCl (am_w B cA M) H) (hS : va_S (fun q => B ≤ q) s.heap H locs) (hn0 : n0 ≤ M.1.length) (hs0 : s0 ≤ am_sl M) (hn : ¬ n < 0 ∧ n.toNatClampNeg ≤ 60000)
    (hc1 : (am_new M (.inr (t, n.toNatClampNeg))).1.length - n0 ≤ R.cells) (hc2 : am_sl (am_new M (.inr (t, n.toNatClampNeg))) - s0 ≤ R.slots)
    (kk : ∀ H1 locs1, va_P D vwCl (am_w B cA (am_new M (.inr (t, n.toNatClampNeg)))) H1 → va_S (fun q => B ≤ q) s.heap H1 locs1 → W p l e R s m args below meth c H1 locs1 ((am_new M (.inr (t, n.toNatClampNeg))).1.length - n0) (am_sl (am_new M (.inr (t, n.toNatClampNeg))) - s0) Q (F0 m (pc + 3) ls (.ref (B + M.1.length) :: rest))) :
    W p l e R s m args below meth c H locs (M.1.length - n0) (am_sl M - s0) Q (F0 m pc ls (.int n :: rest)) := by
  obtain ⟨hx, hb, hml, hown, hts, hXV, hX, hK, hBs, hR, hin⟩ := hC
  obtain ⟨hdg, ho⟩ := am_ok_dec hok
  dsimp only at hdg ho
  have e1 := am_len_new M (.inr (t, n.toNatClampNeg))
  have e2 : am_sl (am_new M (.inr (t, n.toNatClampNeg))) = am_sl M + n.toNatClampNeg := am_sl_new M _
  refine va_newq hx hb hown (hts _ hcl) hao hK hP (am_D B cA M) hS (fun q h => Nat.le_trans (by omega) h) hn.1 rfl (by omega) (by omega) (by omega) hdg (fun q c1 H1 hK1 hP1 hD1 hS1 => am_size fun hu => ?_)
  have hq := am_fresh hP1 hD1 hBs hn0 (locs1 := locs) hu
  have hc := am_K_last hK1 ht
  subst hq
  subst hc
  refine W.cs (by omega) (by omega) (kk H1 locs ?_ hS1)
  rw [am_w_new]
  have e3 : am_ca B cA (am_new M (.inr (t, n.toNatClampNeg))) M.1.length (.inr (t, n.toNatClampNeg)) = .inl (cA t, n.toNatClampNeg, .inr (.inr (.inr (.inr (fun _ => none))))) := by
    have ht1 : ¬ t = 1 := by omega
    simp only [am_ca, am_ar, if_neg ht1, if_pos ht4, am_new, am_rl_feq, Option.map_none]
  rw [e3]
  exact hP1
/-- a new object -/
theorem am_newo (hT : am_T) {i a1 a2 a3 : Nat} {rest : List Value} (hC : am_C L xs B X D cA p R s m args meth c k d n0) (hok : am_ok k (pc, .new i, a1, a2, a3) = true) (ha1 : a1 < 13)
    (hP : va_P D vwCl (am_w B cA M) H) (hS : va_S (fun q => B ≤ q) s.heap H locs) (hn0 : n0 ≤ M.1.length) (hs0 : s0 ≤ am_sl M)
    (hc1 : (am_new M (.inl a1)).1.length - n0 ≤ R.cells) (hc2 : am_sl (am_new M (.inl a1)) - s0 ≤ R.slots)
    (kk : ∀ H1 locs1, va_P D vwCl (am_w B cA (am_new M (.inl a1))) H1 → va_S (fun q => B ≤ q) s.heap H1 locs1 → W p l e R s m args below meth c H1 locs1 ((am_new M (.inl a1)).1.length - n0) (am_sl (am_new M (.inl a1)) - s0) Q (F0 m (pc + 3) ls (.ref (B + M.1.length) :: rest))) :
    W p l e R s m args below meth c H locs (M.1.length - n0) (am_sl M - s0) Q (F0 m pc ls rest) := by
  obtain ⟨hx, hb, hml, hown, hts, hXV, hX, hK, hBs, hR, hin⟩ := hC
  obtain ⟨hdg, ho⟩ := am_ok_dec hok
  dsimp only at hdg ho
  simp only [am_okI, if_pos ha1] at ho
  split at ho
  · rename_i C T N hc
    obtain ⟨eN, hty, hnm, hws, hins, hini, hfd⟩ := hT.1 _ _ _ _ hc
    subst eN
    have e1 := am_len_new M (.inl a1)
    have e2 : am_sl (am_new M (.inl a1)) = am_sl M + am_nf a1 := am_sl_new M _
    refine va_new hx hb hts hws (am_ty a1) hty hown (hts _ (am_gd_in ho)) (hts _ hins) (hts _ hini) hK hP (am_D B cA M) hS (fun q h => Nat.le_trans (by omega) h) hc (fs := (List.range (am_nf a1)).map (fun j => am_gr B (am_new M (.inl a1)) a1 M.1.length j)) (fun j hj => ?_) (by omega) (by omega) hdg (fun q H1 hP1 hD1 hS1 => am_size fun hu => ?_)
    · have : vp_V ((List.range (am_nf a1)).map (fun j => am_gr B (am_new M (.inl a1)) a1 M.1.length j)) j = am_gr B (am_new M (.inl a1)) a1 M.1.length j := by
        simp [vp_V, hj]
      rw [this]
      simp only [am_gr, am_rf, am_new, am_sI_eq, am_sL_eq, am_rl_feq, if_true, ite_self, Option.map_none]
      obtain ⟨f1, f2⟩ := hfd j hj
      cases hq : am_ty a1 j <;> first | rfl | exact absurd hq f1 | exact absurd hq f2
    · have hq := am_fresh hP1 hD1 hBs hn0 (locs1 := locs) hu
      subst hq
      refine W.cs (by omega) (by omega) (kk H1 locs ?_ hS1)
      rw [am_w_new]
      exact hP1
  · cases ho
theorem am_tys_0 : (am_tys cA)[0]? = some (cA 0, .int) := rfl
theorem am_ext_T {h t n : Nat} {f : Nat → Int32} (hX : am_X L xs B X s s.heap) (he : am_ext L xs h = some (t, n, f)) : ∃ a, X h = .ref a ∧ ((t = 0 ∧ va_T .int a n (fun j => .int (f j)) (fun q => B ≤ q) s s.heap) ∨ (t = 2 ∧ va_T .byte a n (fun j => .int (f j)) (fun q => B ≤ q) s s.heap)) := by
  obtain ⟨tS, tb, adK, adV, ⟨a1, a2, a3⟩, -, ⟨c1, c2, -⟩, -, -, f1, f2⟩ := hX
  unfold am_ext at he
  split at he
  · rename_i h0
    simp only [Option.some.injEq, Prod.mk.injEq] at he
    obtain ⟨rfl, rfl, rfl⟩ := he
    exact ⟨tS, by rw [h0]; exact a1, Or.inl ⟨rfl, a3⟩⟩
  · split at he
    · rename_i h0
      simp only [Option.some.injEq, Prod.mk.injEq] at he
      obtain ⟨rfl, rfl, rfl⟩ := he
      exact ⟨tb, by rw [h0]; exact f1, Or.inl ⟨rfl, f2⟩⟩
    · split at he
      · rename_i h0
        simp only [Option.some.injEq, Prod.mk.injEq] at he
        obtain ⟨rfl, rfl, rfl⟩ := he
        have h1 := (c1 (h - 1001) (by omega)).2
        rw [show 1001 + (h - 1001) = h by omega] at h1
        exact ⟨_, h1, Or.inr ⟨rfl, (c2 (h - 1001) (by omega)).2.2.2⟩⟩
      · cases he
theorem am_up_map (B : Nat) (R : am_Rl) (a i b : Nat) : (fun j => Option.map (fun b => B + b) (am_rl (((a, i), b) :: R) a j)) = va_up (fun j => Option.map (fun b => B + b) (am_rl R a j)) i (some (B + b)) := by
  funext j
  simp only [va_up]
  by_cases h : j = i
  · subst h
    rw [if_pos rfl, am_rl_eq]; rfl
  · rw [if_neg h, am_rl_ne (Or.inr h)]
theorem am_u32b {u : UInt32} (h : u.toNat < 29) : (UInt32.ofNat (u.toNat + 1000)).toNat = u.toNat + 1000 := am_u32 (by omega)
set_option maxHeartbeats 4000000 in
theorem am_m_ok (hT : am_T) {ins : Instr} {a1 a2 a3 : Nat} {st st' : List Value} (hC : am_C L xs B X D cA p R s m args meth c k d n0) (hok : am_ok k (pc, ins, a1, a2, a3) = true) (h : am_m L xs d ins a1 a2 st M = some (st', M')) (hls : ls.size = am_ml k)
    (hP : va_P D vwCl (am_w B cA M) H) (hS : va_S (fun q => B ≤ q) s.heap H locs) (hn0 : n0 ≤ M.1.length) (hs0 : s0 ≤ am_sl M) (hc1 : M'.1.length - n0 ≤ R.cells) (hc2 : am_sl M' - s0 ≤ R.slots)
    (kk : ∀ H1 locs1, va_P D vwCl (am_w B cA M') H1 → va_S (fun q => B ≤ q) s.heap H1 locs1 → W p l e R s m args below meth c H1 locs1 (M'.1.length - n0) (am_sl M' - s0) Q (F0 m (pc + am_len ins a1) ls (st'.map (am_v B X)))) : W p l e R s m args below meth c H locs (M.1.length - n0) (am_sl M - s0) Q (F0 m pc ls (st.map (am_v B X))) := by
  have hC' := hC
  obtain ⟨hx, hb, hml, hown, hts, hXV, hX, hK, hBs, hR, hin⟩ := hC
  obtain ⟨hdg, ho⟩ := am_ok_dec hok
  dsimp only at hdg ho
  unfold am_m at h
  split at h
  · split at h
    · rename_i cn ha
      split at h
      · rename_i hq
        obtain ⟨rfl, hlt⟩ := hq
        cases h
        have h100 : ¬ cn = 100 := by
          intro q; subst q; exact absurd hlt (by rw [show am_nf 100 = 0 from rfl]; exact Nat.not_lt_zero _)
        exact am_getf hT hC' h100 hok hP ha hlt (kk H locs hP hS)
      · cases h
    · cases h
  · split at h
    · rename_i u st hq
      obtain ⟨rfl, hu1, hu2⟩ := hq
      have kk1 := kk H locs
      obtain ⟨tS, tb, adK, adV, -, -, ⟨c1, c2, -⟩, -⟩ := id hX
      have hk1 := (c1 (u.toNat - 1) (by omega)).1
      have hv1 := (c1 (u.toNat - 1) (by omega)).2
      rw [show 1 + (u.toNat - 1) = u.toNat by omega] at hk1
      rw [show 1001 + (u.toNat - 1) = u.toNat + 1000 by omega] at hv1
      obtain ⟨o1, o2, o3, o4⟩ := c2 (u.toNat - 1) (by omega)
      split at h
      · rename_i h2
        subst h2
        cases h
        simp only [List.map_cons, am_v, am_u32b hu2, hv1] at kk1
        simp only [List.map_cons, am_v, hk1]
        simp only [am_okI, if_true] at ho
        exact vk_getf hx hb o3 hS hown (hts _ (am_gd_in ho)) (fun _ h9 => h9) hdg (kk1 hP hS)
      · split at h
        · rename_i h3 h2
          subst h2
          cases h
          simp only [List.map_cons, am_v] at kk1
          simp only [List.map_cons, am_v, hk1]
          simp only [am_okI, if_true, Nat.one_ne_zero, if_false] at ho
          exact vk_getf hx hb o2 hS hown (hts _ (am_gd_in ho)) (fun _ h9 => h9) hdg (kk1 hP hS)
        · cases h
    · cases h
  · split at h
    · rename_i cn ha
      split at h
      · rename_i hq
        obtain ⟨rfl, hlt⟩ := hq
        split at h
        · rename_i M1 hsv
          cases h
          have e1 := (am_sv_w (B := B) (X := X) (cA := cA) hsv ha hlt).2.1
          refine am_putf hT hC' hok hP hS ha hlt hsv (fun H1 locs1 hP1 hS1 => ?_)
          have := kk H1 locs1 hP1 hS1
          rw [show am_sl M' = am_sl M by simp only [am_sl, e1], e1] at this
          exact this
        · cases h
      · cases h
    · cases h
  · obtain ⟨tS, tb, adK, adV, ⟨x1, x2, x3⟩, ⟨y1, y2⟩, -⟩ := id hX
    have kk1 := kk H locs
    split at h
    · rename_i h0
      subst h0
      cases h
      simp only [List.map_cons, am_v] at kk1
      simp only [am_okI, if_true] at ho
      have kk1 := kk1 hP hS
      rw [show X (UInt32.toNat 0) = .ref tS from x1] at kk1
      rcases am_lf_use ho hts hX with ⟨-, hl⟩ | hl
      · exact va_gets hx hb x2 hS hown hl (fun _ h9 => h9) hdg kk1
      · exact va_getsN hx hb x2 hS hown hl (fun _ h9 => h9) hdg kk1
    · split at h
      · rename_i h0
        subst h0
        cases h
        simp only [am_okI, Nat.one_ne_zero, if_false, if_true] at ho
        exact va_gets hx hb y1 hS hown (hts _ (am_gd_in ho)) (fun _ h9 => h9) hdg (kk1 hP hS)
      · split at h
        · rename_i h0
          subst h0
          cases h
          simp [am_okI] at ho
          exact va_gets hx hb y2 hS hown (hts _ (am_gd_in ho)) (fun _ h9 => h9) hdg (kk1 hP hS)
        · cases h
  · split at h
    · rename_i n ha
      split at h
      · rename_i hi
        cases h
        exact va_iald hx hb hK hP _ 0 (am_w_some ha) rfl hi hdg (kk H locs hP hS)
      · cases h
    · cases h
  · split at h
    · rename_i n f he
      split at h
      · rename_i hi
        cases h
        obtain ⟨a, hXa, hTa⟩ := am_ext_T hX he
        rcases hTa with ⟨-, hTa⟩ | ⟨q, -⟩
        · simp only [List.map_cons, am_v, hXa]
          exact va_ti hx hb hTa hS hi rfl hdg (kk H locs hP hS)
        · cases q
      · cases h
    · cases h
  · split at h
    · rename_i n ha
      split at h
      · rename_i hi
        cases h
        exact va_bald hx hb hK hP _ 2 (am_w_some ha) rfl hi hdg (kk H locs hP hS)
      · cases h
    · rename_i n ha
      split at h
      · rename_i hi
        cases h
        exact va_zald hx hb hK hP _ 3 (am_w_some ha) rfl hi hdg (kk H locs hP hS)
      · cases h
    · cases h
  · split at h
    · rename_i n f he
      split at h
      · rename_i hi
        cases h
        obtain ⟨a, hXa, hTa⟩ := am_ext_T hX he
        rcases hTa with ⟨q, -⟩ | ⟨-, hTa⟩
        · cases q
        · simp only [List.map_cons, am_v, hXa]
          exact va_tb hx hb hTa hS hi rfl hdg (kk H locs hP hS)
      · cases h
    · cases h
  · split at h
    · rename_i n ha
      split at h
      · rename_i hi
        cases h
        exact va_lald hx hb hK hP _ 1 (am_w_some ha) rfl hi hdg (kk H locs hP hS)
      · cases h
    · cases h
  · split at h
    · rename_i n ha
      split at h
      · rename_i hi
        cases h
        have kk1 := kk H locs hP hS
        simp only [List.map_cons, am_v_rf] at kk1
        exact va_aldq hx hb hK hP _ 4 (am_w_some ha) rfl hi hdg kk1
      · cases h
    · rename_i n ha
      split at h
      · rename_i hi
        cases h
        have kk1 := kk H locs hP hS
        simp only [List.map_cons, am_v_rf] at kk1
        exact va_aldq hx hb hK hP _ 5 (am_w_some ha) rfl hi hdg kk1
      · cases h
    · cases h
  · split at h
    · rename_i n ha
      split at h
      · rename_i hi
        cases h
        refine va_iast hx hb hK hP (am_D B cA M) hS _ 0 (am_w_some ha) rfl hi hdg (fun H1 locs1 hP1 _ hS1 => kk H1 locs1 ?_ hS1)
        rw [← am_w_uI _ ha]
        simp only [am_ca, am_ar, am_uI, am_sI_eq]
        exact hP1
      · cases h
    · cases h
  · split at h
    · rename_i n ha
      split at h
      · rename_i hi
        cases h
        refine va_bast hx hb hK hP (am_D B cA M) hS _ 2 (am_w_some ha) rfl hi hdg (fun H1 locs1 hP1 _ hS1 => kk H1 locs1 ?_ hS1)
        rw [← am_w_uI _ ha]
        simp only [am_ca, am_ar, am_uI, am_sI_eq]
        exact hP1
      · cases h
    · rename_i n ha
      split at h
      · rename_i hi
        cases h
        refine va_zast hx hb hK hP (am_D B cA M) hS _ 3 (am_w_some ha) rfl hi hdg (fun H1 locs1 hP1 _ hS1 => kk H1 locs1 ?_ hS1)
        rw [← am_w_uI _ ha]
        simp only [am_ca, am_ar, am_uI, am_sI_eq]
        exact hP1
      · cases h
    · cases h
  · split at h
    · rename_i n ha
      split at h
      · rename_i hi
        cases h
        refine va_last hx hb hK hP (am_D B cA M) hS _ 1 (am_w_some ha) rfl hi hdg (fun H1 locs1 hP1 _ hS1 => kk H1 locs1 ?_ hS1)
        rw [← am_w_uL _ ha]
        simp only [am_ca, am_ar, am_uL, am_sL_eq]
        exact hP1
      · cases h
    · cases h
  · split at h
    · rename_i n ha hb2
      split at h
      · rename_i hi
        cases h
        refine va_astq hx hb hK hP (am_D B cA M) hS _ 4 _ 10 (am_w_some ha) rfl (am_w_some hb2) rfl hi hdg (fun H1 locs1 hP1 _ hS1 => kk H1 locs1 ?_ hS1)
        rw [← am_w_uR _ _ ha]
        simp only [am_ca, am_ar, am_uR]
        rw [am_up_map]
        exact hP1
      · cases h
    · rename_i n ha hb2
      split at h
      · rename_i hi
        cases h
        refine va_astq hx hb hK hP (am_D B cA M) hS _ 5 _ 7 (am_w_some ha) rfl (am_w_some hb2) rfl hi hdg (fun H1 locs1 hP1 _ hS1 => kk H1 locs1 ?_ hS1)
        rw [← am_w_uR _ _ ha]
        simp only [am_ca, am_ar, am_uR]
        rw [am_up_map]
        exact hP1
      · cases h
    · cases h
  · split at h
    · rename_i t n ha
      split at h
      · rename_i ht
        cases h
        have kk1 := kk H locs hP hS
        have hw := am_w_some (B := B) (cA := cA) ha
        rcases (show t = 0 ∨ t = 1 ∨ t = 2 ∨ t = 3 ∨ t = 4 ∨ t = 5 by omega) with rfl | rfl | rfl | rfl | rfl | rfl
        · exact va_alen hx hb hK hP _ 0 hw rfl rfl hdg kk1
        · exact va_alen hx hb hK hP _ 1 hw rfl rfl hdg kk1
        · exact va_alen hx hb hK hP _ 2 hw rfl rfl hdg kk1
        · exact va_alen hx hb hK hP _ 3 hw rfl rfl hdg kk1
        · exact va_alen hx hb hK hP _ 4 hw rfl rfl hdg kk1
        · exact va_alen hx hb hK hP _ 5 hw rfl rfl hdg kk1
      · cases h
    · cases h
  · split at h
    · rename_i n f he
      cases h
      obtain ⟨a, hXa, hTa⟩ := am_ext_T hX he
      simp only [List.map_cons, am_v, hXa]
      rcases hTa with ⟨-, hTa⟩ | ⟨-, hTa⟩
      · exact va_tlen hx hb hTa hS rfl hdg (kk H locs hP hS)
      · exact va_tlen hx hb hTa hS rfl hdg (kk H locs hP hS)
    · cases h
  · split at h
    · rename_i hq
      cases h
      exact am_newo hT hC' hok hq hP hS hn0 hs0 hc1 hc2 kk
    · cases h
  · split at h
    · rename_i hq
      cases h
      exact am_newa hT hC' hok (t := 0) rfl rfl (hT.2 (.arrayClass .int) (by simp)) (by decide) (fun c1 => by simp only [am_ar, am_new, am_sI_eq]; rfl) hP hS hn0 hs0 hq hc1 hc2 kk
    · cases h
  · split at h
    · rename_i hq
      cases h
      exact am_newa hT hC' hok (t := 1) rfl rfl (hT.2 (.arrayClass .long) (by simp)) (by decide) (fun c1 => by simp only [am_ar, am_new, am_sL_eq]; rfl) hP hS hn0 hs0 hq hc1 hc2 kk
    · cases h
  · split at h
    · rename_i hq
      cases h
      exact am_newa hT hC' hok (t := 2) rfl rfl (hT.2 (.arrayClass .byte) (by simp)) (by decide) (fun c1 => by simp only [am_ar, am_new, am_sI_eq]; rfl) hP hS hn0 hs0 hq hc1 hc2 kk
    · cases h
  · split at h
    · rename_i hq
      cases h
      exact am_newa hT hC' hok (t := 3) rfl rfl (hT.2 (.arrayClass .boolean) (by simp)) (by decide) (fun c1 => by simp only [am_ar, am_new, am_sI_eq]; rfl) hP hS hn0 hs0 hq hc1 hc2 kk
    · cases h
  · split at h
    · rename_i hq
      cases h
      obtain ⟨h4, hq⟩ := hq
      obtain ⟨tS, tb, adK, adV, -, -, -, -, ⟨ao1, ao2⟩, -⟩ := id hX
      rcases h4 with rfl | rfl
      · simp only [am_okI, if_true] at ho
        exact am_newq hC' hok (am_gd_in ho) ao1 (t := 4) rfl (Or.inl rfl) hP hS hn0 hs0 hq hc1 hc2 kk
      · simp [am_okI] at ho
        exact am_newq hC' hok (am_gd_in ho) ao2 (t := 5) rfl (Or.inr rfl) hP hS hn0 hs0 hq hc1 hc2 kk
    · cases h
  · split at h
    · rename_i hq
      obtain ⟨rfl, hd0, hcat⟩ := hq
      cases h
      simp only [am_okI, if_true] at ho
      have h9 := am_cat_map (B := B) hXV st'
      exact W.objInit hx hb hown (hts _ (am_gd_in ho)) (hts _ (hT.2 _ (by simp))) (hts _ (hT.2 _ (by simp))) rfl (by rw [hml]; exact hls) rfl hdg (by omega) (by show 2 * 0 + _ + 12 ≤ _; omega) (kk H locs hP hS)
    · cases h
  · split at h
    · rename_i hd0
      unfold am_is at h
      split at h
      · rename_i h0
        subst h0
        simp only [am_okI, if_true] at ho
        unfold am_cp at h
        split at h
        · split at h
          · rename_i hq
            obtain ⟨hcat, h1, h2, h3⟩ := hq
            split at h
            · rename_i na nb ha hb2
              split at h
              · rename_i hr
                cases h
                have h9 := am_cat_map (B := B) hXV st'
                refine va_copyi hx hb (by rw [hml]; exact hls.symm) hown (hts _ (am_gd_in ho)) (hts _ (hT.2 _ (by simp))) (hts _ (hT.2 _ (by simp))) (hts _ (hT.2 _ (by simp))) hK hP (am_D B cA M) hS _ _ 0 0 (am_w_some ha) (am_w_some hb2) rfl rfl rfl h1 h2 h3 hr.1 hr.2 (fun _ _ => rfl) (by omega) (by rw [h9]; show _ + (7 + 11) ≤ _; omega) hdg (fun H1 locs1 hP1 _ hS1 => kk H1 locs1 ?_ hS1)
                rw [← am_w_uI _ hb2]
                simp only [am_ca, am_ar, am_uI, am_sI_eq]
                exact hP1
              · cases h
            · rename_i na nb ha hb2
              split at h
              · rename_i hr
                cases h
                have h9 := am_cat_map (B := B) hXV st'
                refine va_copyl hx hb (by rw [hml]; exact hls.symm) hown (hts _ (am_gd_in ho)) (hts _ (hT.2 _ (by simp))) (hts _ (hT.2 _ (by simp))) (hts _ (hT.2 _ (by simp))) hK hP (am_D B cA M) hS _ _ 1 1 (am_w_some ha) (am_w_some hb2) rfl rfl rfl h1 h2 h3 hr.1 hr.2 (fun _ _ => rfl) (by omega) (by rw [h9]; show _ + (7 + 11) ≤ _; omega) hdg (fun H1 locs1 hP1 _ hS1 => kk H1 locs1 ?_ hS1)
                rw [← am_w_uL _ hb2]
                simp only [am_ca, am_ar, am_uL, am_sL_eq]
                exact hP1
              · cases h
            · cases h
          · cases h
        · cases h
      split at h
      · rename_i h0
        subst h0
        simp [am_okI] at ho
        unfold am_mi2 at h
        split at h
        · split at h
          · rename_i st0 hcat
            cases h
            have h9 := am_cat_map (B := B) hXV st0
            exact va_mmax hx hb (by rw [hml]; exact hls.symm) hown (hts _ (am_gd_in ho)) (hts _ (hT.2 (.static Lib.Math.max.name) (by simp))) (hts _ (hT.2 _ (by simp))) (hts _ (hT.2 (.code Lib.Math.max.name Lib.Math.max.code 2 (some .int)) (by simp))) (by omega) (by rw [h9]; omega) hc1 hc2 hdg (kk H locs hP hS)
          · cases h
        · cases h
      split at h
      · rename_i h0
        subst h0
        simp [am_okI] at ho
        unfold am_mi2 at h
        split at h
        · split at h
          · rename_i st0 hcat
            cases h
            have h9 := am_cat_map (B := B) hXV st0
            exact va_mmin hx hb (by rw [hml]; exact hls.symm) hown (hts _ (am_gd_in ho)) (hts _ (hT.2 (.static Lib.Math.min.name) (by simp))) (hts _ (hT.2 _ (by simp))) (hts _ (hT.2 (.code Lib.Math.min.name Lib.Math.min.code 2 (some .int)) (by simp))) (by omega) (by rw [h9]; omega) hc1 hc2 hdg (kk H locs hP hS)
          · cases h
        · cases h
      split at h
      · rename_i h0
        subst h0
        simp [am_okI] at ho
        unfold am_mi1 at h
        split at h
        · split at h
          · rename_i st0 hcat
            cases h
            have h9 := am_cat_map (B := B) hXV st0
            exact va_mabs hx hb (by rw [hml]; exact hls.symm) hown (hts _ (am_gd_in ho)) (hts _ (hT.2 (.static Lib.Math.abs.name) (by simp))) (hts _ (hT.2 _ (by simp))) (hts _ (hT.2 (.code Lib.Math.abs.name Lib.Math.abs.code 1 (some .int)) (by simp))) (by omega) (by rw [h9]; omega) hc1 hc2 hdg (kk H locs hP hS)
          · cases h
        · cases h
      split at h
      · rename_i h0
        subst h0
        simp [am_okI] at ho
        unfold am_ml2 at h
        split at h
        · split at h
          · rename_i st0 hcat
            cases h
            have h9 := am_cat_map (B := B) hXV st0
            exact va_mmax_long hx hb (by rw [hml]; exact hls.symm) hown (hts _ (am_gd_in ho)) (hts _ (hT.2 (.static Lib.MathLoose.max_long.x) (by simp))) (hts _ (hT.2 _ (by simp))) (hts _ (hT.2 (.code Lib.MathLoose.max_long.x Lib.MathLoose.max_long.code 4 (some .long)) (by simp))) (by omega) (by rw [h9]; omega) hc1 hc2 hdg (kk H locs hP hS)
          · cases h
        · cases h
      split at h
      · rename_i h0
        subst h0
        simp [am_okI] at ho
        unfold am_ml2 at h
        split at h
        · split at h
          · rename_i st0 hcat
            cases h
            have h9 := am_cat_map (B := B) hXV st0
            exact va_mmin_long hx hb (by rw [hml]; exact hls.symm) hown (hts _ (am_gd_in ho)) (hts _ (hT.2 (.static Lib.MathLoose.min_long.x) (by simp))) (hts _ (hT.2 _ (by simp))) (hts _ (hT.2 (.code Lib.MathLoose.min_long.x Lib.MathLoose.min_long.code 4 (some .long)) (by simp))) (by omega) (by rw [h9]; omega) hc1 hc2 hdg (kk H locs hP hS)
          · cases h
        · cases h
      cases h
    · cases h
  · cases h
end AMN
