/-! ===== the static check of an entry, and the families of instructions: what the small machine does, the real one does ===== -/
section AMF
variable {p : Program} {l : Launch} {e : Env} {R : Room} {s : State} {m : MethodId} {args : Array Value} {below : List Frame} {meth : Method} {c : Code} {H : Heap} {locs : List Loc} {cells slots : Nat} {Q : State → Prop}
variable {L : Nat} {xs : Nat → Int32} {B : Nat} {X : Nat → Value} {D : va_G} {cA : Nat → ClassId} {k d pc n0 : Nat} {ls : Array Slot}
/-- what stands through a method's whole walk -/
def am_C (L : Nat) (xs : Nat → Int32) (B : Nat) (X : Nat → Value) (D : va_G) (cA : Nat → ClassId) (p : Program) (R : Room) (s : State) (m : MethodId) (args : Array Value) (meth : Method) (c : Code) (k d n0 : Nat) : Prop :=
  p.tables.exec = Jvm.exec ∧ c.code = am_by k ∧ c.maxLocals = am_ml k ∧ s.vm.findClass (am_y k).cls = some m.cls ∧ (∀ w ∈ am_B, w.before args s = true) ∧ am_XV X ∧ am_X L xs B X s s.heap ∧ va_K D vwCl (am_tys cA) s ∧ s.heap.size = B + n0 ∧ (d ≤ R.frames ∧ 60 * d ≤ R.locals) ∧ (am_kd k = 2 → meth.name = "<init>")
theorem am_ok_dec {q : Instr × Nat × Nat × Nat} (h : am_ok k (pc, q) = true) : decode (am_by k) pc = .ok (q.1, am_len q.1 q.2.1) ∧ am_okI k q.1 q.2.1 q.2.2.1 q.2.2.2 = true := by
  unfold am_ok at h
  rw [Bool.and_eq_true] at h
  exact ⟨of_decide_eq_true h.1, h.2⟩
theorem am_lf_use {own c' n d' : String} {i a3 : Nat} (h : am_lf own i a3 c' n d' = true) (hts : ∀ w ∈ am_B, w.before args s = true) (hX : am_X L xs B X s s.heap) : (a3 < 10000 ∧ (Cond.fieldLink own i c' n d').before args s = true) ∨ (Cond.fieldLinkNest own i c' n d' "LooseWater").before args s = true := by
  unfold am_lf at h
  split at h
  · rename_i h1
    exact Or.inl ⟨h1, hts _ (am_gd_in h)⟩
  · have hm := List.mem_of_getElem? (of_decide_eq_true h)
    obtain ⟨tS, tb, adK, adV, -, -, -, d1, -⟩ := hX
    exact Or.inr (va_Nw.use rfl (d1 _ hm))
theorem am_str_use {own : String} {i a2 : Nat} (h : am_okS own i a2 = true) (hX : am_X L xs B X s s.heap) : ∃ (tx : String) (a : Nat), vk_R own i tx a s ∧ X a2 = .ref a := by
  unfold am_okS at h
  rw [Bool.and_eq_true] at h
  obtain ⟨h1, h2⟩ := h
  have h1 := of_decide_eq_true h1
  obtain ⟨r, hr, he⟩ := Option.map_eq_some_iff.mp (of_decide_eq_true h2)
  obtain ⟨tS, tb, adK, adV, -, -, ⟨c1, -, c3⟩, -⟩ := hX
  have := c3 _ r hr
  have e1 : r.1 = own := congrArg Prod.fst he
  have e2 : r.2.1 = i := congrArg Prod.snd he
  rw [e1, e2] at this
  refine ⟨r.2.2, _, this, ?_⟩
  have := (c1 (a2 - 1) (by omega)).1
  rw [show 1 + (a2 - 1) = a2 by omega] at this
  exact this
theorem am_u32 {n : Nat} (h : n < 4000) : (UInt32.ofNat n).toNat = n := by
  simp [UInt32.toNat_ofNat']
  omega
theorem am_ldcwS (hexec : p.tables.exec = Jvm.exec) {cc : ByteArray} (hb : c.code = cc) {own tx : String} {index q : Nat} {rest : List Value} (hown : s.vm.findClass own = some m.cls) (hZ : vk_R own index tx q s) (hdg : decode cc pc = .ok (.ldc_w index, 3))
    (k : W p l e R s m args below meth c H locs cells slots Q (F0 m (pc + 3) ls (.ref q :: rest))) : W p l e R s m args below meth c H locs cells slots Q (F0 m pc ls rest) := by
  intro T hT X
  obtain ⟨t, a1, b1⟩ := k T hT X
  exact ⟨t, X.ldcStringW hexec hown (text := tx) (a := q) hZ.1 hZ.2 (g := F0 m pc ls rest) rfl (by rw [hb]; exact hdg) t a1, b1⟩
set_option maxHeartbeats 4000000 in
theorem am_p_ok {ins : Instr} {a1 a2 a3 : Nat} {st st' : List Value} (hC : am_C L xs B X D cA p R s m args meth c k d n0) (hok : am_ok k (pc, ins, a1, a2, a3) = true) (h : am_p ins a1 a2 st = some st')
    (kk : W p l e R s m args below meth c H locs cells slots Q (F0 m (pc + am_len ins a1) ls (st'.map (am_v B X)))) : W p l e R s m args below meth c H locs cells slots Q (F0 m pc ls (st.map (am_v B X))) := by
  obtain ⟨hx, hb, hml, hown, hts, hXV, hX, hK, hBs, hR, hin⟩ := hC
  obtain ⟨hdg, ho⟩ := am_ok_dec hok
  dsimp only at hdg ho
  unfold am_p at h
  split at h
  · cases h; exact lv_iconst hx hb hdg rfl kk
  · cases h; exact lv_bipush hx hb hdg rfl kk
  · cases h; exact lv_sipush hx hb hdg rfl kk
  · cases h; exact lv_lconst hx hb hdg rfl kk
  · split at h
    · rename_i h0
      cases h
      subst h0
      have hw := ho
      simp [am_okI] at hw
      exact lv_ldc hx hb hown (hts _ (am_gd_in hw)) hdg kk
    · split at h
      · rename_i h0 h1
        cases h
        subst h1
        have hw := ho
        simp [am_okI] at hw
        obtain ⟨tx, a, hv, ha⟩ := am_str_use hw hX
        have hlt : a2 < 4000 := by
          unfold am_okS at hw
          rw [Bool.and_eq_true] at hw
          have := of_decide_eq_true hw.1
          omega
        simp only [List.map_cons, am_v, am_u32 hlt, ha] at kk
        exact va_ldcS hx hb hown hv hdg kk
      · cases h
  · split at h
    · rename_i h0
      cases h
      subst h0
      have hw := ho
      simp [am_okI] at hw
      exact lv_ldcw hx hb hown (hts _ (am_gd_in hw)) hdg kk
    · split at h
      · rename_i h0 h1
        cases h
        subst h1
        have hw := ho
        simp [am_okI] at hw
        obtain ⟨tx, a, hv, ha⟩ := am_str_use hw hX
        have hlt : a2 < 4000 := by
          unfold am_okS at hw
          rw [Bool.and_eq_true] at hw
          have := of_decide_eq_true hw.1
          omega
        simp only [List.map_cons, am_v, am_u32 hlt, ha] at kk
        exact am_ldcwS hx hb hown hv hdg kk
      · cases h
  · cases h; exact lv_ldc2 hx hb hown (hts _ (am_gd_in ho)) hdg kk
  · cases h; exact lv_iadd hx hb hdg kk
  · cases h; exact lv_isub hx hb hdg kk
  · cases h; exact lv_imul hx hb hdg kk
  · cases h; exact lv_iand hx hb hdg kk
  · cases h; exact lv_ior hx hb hdg kk
  · cases h; exact lv_ishl hx hb hdg kk
  · cases h; exact lv_ishr hx hb hdg kk
  · cases h; exact lv_iushr hx hb hdg rfl kk
  · split at h
    · cases h
    · rename_i h0; cases h; exact lv_idiv hx hb hdg h0 kk
  · split at h
    · cases h
    · rename_i h0; cases h; exact lv_irem hx hb hdg h0 kk
  · cases h; exact lv_ineg hx hb hdg kk
  · cases h; exact lv_ladd hx hb hdg kk
  · cases h; exact lv_lsub hx hb hdg kk
  · cases h; exact lv_lmul hx hb hdg kk
  · cases h; exact lv_land hx hb hdg kk
  · cases h; exact lv_lor hx hb hdg kk
  · cases h; exact lv_lshl hx hb hdg rfl kk
  · cases h; exact lv_lshr hx hb hdg rfl kk
  · split at h
    · cases h
    · rename_i h0; cases h; exact lv_ldiv hx hb hdg h0 kk
  · split at h
    · cases h
    · rename_i h0; cases h; exact lv_lrem hx hb hdg h0 kk
  · cases h; exact lv_lneg hx hb hdg kk
  · cases h; exact W.lcmp hx hb hdg kk
  · cases h; exact lv_i2l hx hb hdg rfl kk
  · cases h; exact lv_l2i hx hb hdg rfl kk
  · cases h; exact lv_i2b hx hb hdg rfl kk
  · cases h; exact lv_i2c hx hb hdg rfl kk
  · split at h
    · rename_i h0; cases h; exact lv_pop hx hb hdg ((am_v_cat hXV _).trans h0) kk
    · cases h
  · split at h
    · rename_i h0; cases h; exact lv_dup hx hb hdg ((am_v_cat hXV _).trans h0) kk
    · cases h
  · split at h
    · rename_i h0; cases h; exact lv_dup2_11 hx hb hdg ((am_v_cat hXV _).trans h0.1) ((am_v_cat hXV _).trans h0.2) kk
    · cases h
  · cases h
theorem am_l_ok {ins : Instr} {a1 a2 a3 : Nat} {lo lo' : am_Lo} {st st' : List Value} (hC : am_C L xs B X D cA p R s m args meth c k d n0) (hok : am_ok k (pc, ins, a1, a2, a3) = true) (h : am_l (am_ml k) ins lo st = some (lo', st')) (hl : lv_has ls (am_ml k) (am_lv B X lo))
    (kk : ∀ ls', lv_has ls' (am_ml k) (am_lv B X lo') → W p l e R s m args below meth c H locs cells slots Q (F0 m (pc + am_len ins a1) ls' (st'.map (am_v B X)))) : W p l e R s m args below meth c H locs cells slots Q (F0 m pc ls (st.map (am_v B X))) := by
  obtain ⟨hx, hb, hml, hown, hts, hXV, hX, hK, hBs, hR, hin⟩ := hC
  obtain ⟨hdg, ho⟩ := am_ok_dec hok
  dsimp only at hdg ho
  have lI : ∀ i, am_ldI lo i st = some (lo', st') → ∃ x : Int32, ls[i]? = some (.val (.int x)) ∧ lo' = lo ∧ st' = .int x :: st := by
    intro i h
    unfold am_ldI at h
    split at h
    · rename_i x hx; cases h; exact ⟨x, am_lk_lv hx hl, rfl, rfl⟩
    · cases h
  have lL : ∀ i, am_ldL lo i st = some (lo', st') → ∃ x : Int64, ls[i]? = some (.val (.long x)) ∧ lo' = lo ∧ st' = .long x :: st := by
    intro i h
    unfold am_ldL at h
    split at h
    · rename_i x hx; cases h; exact ⟨x, am_lk_lv hx hl, rfl, rfl⟩
    · cases h
  have lA : ∀ i, am_ldA lo i st = some (lo', st') → ∃ v : Value, ls[i]? = some (.val (am_v B X v)) ∧ lo' = lo ∧ st' = v :: st ∧ (am_v B X v = .null ∨ ∃ a, am_v B X v = .ref a) := by
    intro i h
    unfold am_ldA at h
    split at h
    · rename_i x hx; cases h; exact ⟨_, am_lk_lv hx hl, rfl, rfl, Or.inr ⟨_, rfl⟩⟩
    · rename_i x hx; cases h; exact ⟨_, am_lk_lv hx hl, rfl, rfl, hXV _⟩
    · cases h
  unfold am_l at h
  split at h
  · obtain ⟨x, h1, rfl, rfl⟩ := lI _ h
    exact lv_iload hx hb hdg h1 (kk ls hl)
  · obtain ⟨x, h1, rfl, rfl⟩ := lI _ h
    exact lv_iload_n hx hb hdg rfl h1 (kk ls hl)
  · obtain ⟨x, h1, rfl, rfl⟩ := lL _ h
    exact lv_lload hx hb hdg h1 (kk ls hl)
  · obtain ⟨x, h1, rfl, rfl⟩ := lL _ h
    exact lv_lload_n hx hb hdg rfl h1 (kk ls hl)
  · obtain ⟨v, h1, rfl, rfl, h2⟩ := lA _ h
    have kk := kk ls hl
    rw [List.map_cons] at kk
    rcases h2 with h2 | ⟨a, h2⟩
    · rw [h2] at h1 kk
      exact lv_aloadN hx hb hdg h1 kk
    · rw [h2] at h1 kk
      exact lv_aload hx hb hdg h1 kk
  · obtain ⟨v, h1, rfl, rfl, h2⟩ := lA _ h
    have kk := kk ls hl
    rw [List.map_cons] at kk
    rcases h2 with h2 | ⟨a, h2⟩
    · rw [h2] at h1 kk
      exact lv_aload_nN hx hb hdg rfl h1 kk
    · rw [h2] at h1 kk
      exact lv_aload_n hx hb hdg rfl h1 kk
  · unfold am_stI at h
    split at h
    · split at h
      · rename_i h0; cases h
        exact lv_istore hx hb hdg hl h0 (am_lv_s1 hXV _ _ (.int _)) kk
      · cases h
    · cases h
  · unfold am_stI at h
    split at h
    · split at h
      · rename_i h0; cases h
        exact lv_istore_n hx hb hdg rfl hl h0 (am_lv_s1 hXV _ _ (.int _)) kk
      · cases h
    · cases h
  · unfold am_stL at h
    split at h
    · split at h
      · rename_i h0; cases h
        exact lv_lstore hx hb hdg hl h0 (am_lv_s2 hXV _ _ (.long _)) kk
      · cases h
    · cases h
  · unfold am_stL at h
    split at h
    · split at h
      · rename_i h0; cases h
        exact lv_lstore_n hx hb hdg rfl hl h0 (am_lv_s2 hXV _ _ (.long _)) kk
      · cases h
    · cases h
  · unfold am_stA at h
    split at h
    · split at h
      · rename_i h0; cases h
        exact lv_astore hx hb hdg hl h0 (am_lv_s1 hXV _ _ (.ref _)) kk
      · cases h
    · cases h
  · unfold am_stA at h
    split at h
    · split at h
      · rename_i h0; cases h
        exact lv_astore_n hx hb hdg rfl hl h0 (am_lv_s1 hXV _ _ (.ref _)) kk
      · cases h
    · cases h
  · split at h
    · rename_i x h1
      split at h
      · rename_i h0; cases h
        obtain ⟨q, hq⟩ := List.getElem?_of_mem (List.mem_map.mpr ⟨_, am_lk_mem h1, rfl⟩ : _ ∈ am_lv B X lo)
        exact lv_iinc hx hb hdg hl hq rfl h0 (am_lv_s1 hXV _ _ (.int _)) kk
      · cases h
    · cases h
  · cases h
theorem am_j_ok {off : Int} {st st' : List Value} {pc' : Nat} (h : am_j pc off st = some (pc', st')) : (pc : Int) + off = (pc' : Int) ∧ st' = st := by
  unfold am_j at h
  split at h
  · cases h
    exact ⟨by omega, rfl⟩
  · cases h
theorem am_b_ok {ins : Instr} {a1 a2 a3 pc' : Nat} {st st' : List Value} (hC : am_C L xs B X D cA p R s m args meth c k d n0) (hok : am_ok k (pc, ins, a1, a2, a3) = true) (h : am_b ins pc st = some (pc', st'))
    (kk : W p l e R s m args below meth c H locs cells slots Q (F0 m pc' ls (st'.map (am_v B X)))) : W p l e R s m args below meth c H locs cells slots Q (F0 m pc ls (st.map (am_v B X))) := by
  obtain ⟨hx, hb, hml, hown, hts, hXV, hX, hK, hBs, hR, hin⟩ := hC
  obtain ⟨hdg, ho⟩ := am_ok_dec hok
  dsimp only at hdg ho
  have br : ∀ {b : Bool} {off : Int} {st0 : List Value}, am_cj b pc off st0 = some (pc', st') → ∃ tgt : Nat, (pc : Int) + off = (tgt : Int) ∧ st' = st0 ∧ (b = true → pc' = tgt) ∧ (b = false → pc' = pc + 3) := by
    intro b off st0 h
    unfold am_cj at h
    split at h
    · cases h
      refine ⟨((pc : Int) + off).toNat, by omega, rfl, fun hb => ?_, fun hb => ?_⟩
      · rw [if_pos hb]
      · rw [if_neg (by rw [hb]; decide)]
    · cases h
  unfold am_b at h
  split at h
  · obtain ⟨h1, rfl⟩ := am_j_ok h
    exact lv_goto hx hb hdg h1 kk
  · obtain ⟨tgt, h1, rfl, h2, h3⟩ := br h
    exact lv_if_eq hx hb hdg h1 (fun hc => by rw [← h2 (decide_eq_true hc)]; exact kk) (fun hc => by rw [← h3 (decide_eq_false hc)]; exact kk)
  · obtain ⟨tgt, h1, rfl, h2, h3⟩ := br h
    exact lv_if_ne hx hb hdg h1 (fun hc => by rw [← h2 (decide_eq_true hc)]; exact kk) (fun hc => by rw [← h3 (decide_eq_false (fun q => q hc))]; exact kk)
  · obtain ⟨tgt, h1, rfl, h2, h3⟩ := br h
    exact lv_if_lt hx hb hdg h1 (fun hc => by rw [← h2 (decide_eq_true hc)]; exact kk) (fun hc => by rw [← h3 (decide_eq_false hc)]; exact kk)
  · obtain ⟨tgt, h1, rfl, h2, h3⟩ := br h
    exact lv_if_ge hx hb hdg h1 (fun hc => by rw [← h2 (decide_eq_true hc)]; exact kk) (fun hc => by rw [← h3 (decide_eq_false hc)]; exact kk)
  · obtain ⟨tgt, h1, rfl, h2, h3⟩ := br h
    exact lv_if_gt hx hb hdg h1 (fun hc => by rw [← h2 (decide_eq_true hc)]; exact kk) (fun hc => by rw [← h3 (decide_eq_false hc)]; exact kk)
  · obtain ⟨tgt, h1, rfl, h2, h3⟩ := br h
    exact lv_if_le hx hb hdg h1 (fun hc => by rw [← h2 (decide_eq_true hc)]; exact kk) (fun hc => by rw [← h3 (decide_eq_false hc)]; exact kk)
  · obtain ⟨tgt, h1, rfl, h2, h3⟩ := br h
    exact lv_icmp_eq hx hb hdg h1 (fun hc => by rw [← h2 (decide_eq_true hc)]; exact kk) (fun hc => by rw [← h3 (decide_eq_false hc)]; exact kk)
  · obtain ⟨tgt, h1, rfl, h2, h3⟩ := br h
    exact lv_icmp_ne hx hb hdg h1 (fun hc => by rw [← h2 (decide_eq_true hc)]; exact kk) (fun hc => by rw [← h3 (decide_eq_false (fun q => q hc))]; exact kk)
  · obtain ⟨tgt, h1, rfl, h2, h3⟩ := br h
    exact lv_icmp_lt hx hb hdg h1 (fun hc => by rw [← h2 (decide_eq_true hc)]; exact kk) (fun hc => by rw [← h3 (decide_eq_false hc)]; exact kk)
  · obtain ⟨tgt, h1, rfl, h2, h3⟩ := br h
    exact lv_icmp_ge hx hb hdg h1 (fun hc => by rw [← h2 (decide_eq_true hc)]; exact kk) (fun hc => by rw [← h3 (decide_eq_false hc)]; exact kk)
  · obtain ⟨tgt, h1, rfl, h2, h3⟩ := br h
    exact lv_icmp_gt hx hb hdg h1 (fun hc => by rw [← h2 (decide_eq_true hc)]; exact kk) (fun hc => by rw [← h3 (decide_eq_false hc)]; exact kk)
  · obtain ⟨tgt, h1, rfl, h2, h3⟩ := br h
    exact lv_icmp_le hx hb hdg h1 (fun hc => by rw [← h2 (decide_eq_true hc)]; exact kk) (fun hc => by rw [← h3 (decide_eq_false hc)]; exact kk)
  · split at h
    · rename_i h0
      obtain ⟨h1, rfl⟩ := am_j_ok h
      exact lv_tableOut hx hb hdg h0 h1 kk
    · rename_i h0
      split at h
      · rename_i off ho2
        obtain ⟨h1, rfl⟩ := am_j_ok h
        exact lv_tableIn hx hb hdg (fun q => h0 (Or.inl q)) (fun q => h0 (Or.inr q)) ho2 h1 kk
      · cases h
  · split at h
    · rename_i h0
      obtain ⟨h1, rfl⟩ := am_j_ok h
      exact lv_lookup hx hb hdg h0 rfl h1 kk
    · cases h
  · cases h
end AMF
