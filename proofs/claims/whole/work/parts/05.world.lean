/-! ===== what the small machine's memory is in the real heap ===== -/
def am_v (B : Nat) (X : Nat → Value) : Value → Value
  | .ref a => .ref (B + a)
  | .float u => X u.toNat
  | v => v
def am_XV (X : Nat → Value) : Prop := ∀ u, X u = .null ∨ ∃ a, X u = .ref a
theorem am_v_cat {B : Nat} {X : Nat → Value} (hX : am_XV X) (v : Value) : (am_v B X v).category = v.category := by
  cases v with
  | float u => rcases hX u.toNat with h | ⟨a, h⟩ <;> simp [am_v, h, Value.category]
  | _ => rfl
theorem am_cat_map {B : Nat} {X : Nat → Value} (hX : am_XV X) (st : List Value) : ((st.map (am_v B X)).map fun v => v.category).sum = am_cat st := by
  unfold am_cat
  rw [List.map_map]
  congr 1
  apply List.map_congr_left
  intro v _
  exact am_v_cat hX v
def am_lv (B : Nat) (X : Nat → Value) (lo : am_Lo) : am_Lo := lo.map (fun q => (q.1, am_v B X q.2))
def am_gr (B : Nat) (M : am_M) (c a j : Nat) : Value := match am_ty c j with
  | .long => .long (M.2.2.1 a j)
  | .object _ => va_rf ((am_rf M c a j).map (fun b => B + b))
  | .array _ => va_rf ((am_rf M c a j).map (fun b => B + b))
  | _ => .int (M.2.1 a j)
theorem am_v_rf {B : Nat} {X : Nat → Value} (r : Option Nat) : am_v B X (va_rf r) = va_rf (r.map (fun b => B + b)) := by
  cases r <;> rfl
theorem am_v_gv {B : Nat} {X : Nat → Value} (M : am_M) (c a j : Nat) : am_v B X (am_gv M c a j) = am_gr B M c a j := by
  unfold am_gv am_gr
  cases am_ty c j <;> first | rfl | exact am_v_rf _
def am_ar (B : Nat) (M : am_M) (k t : Nat) : (Nat → Int32) ⊕ (Nat → Int64) ⊕ (Nat → UInt32) ⊕ (Nat → UInt64) ⊕ (Nat → Option Nat) :=
  if t = 1 then .inr (.inl (M.2.2.1 k)) else if t = 4 ∨ t = 5 then .inr (.inr (.inr (.inr (fun j => (am_rl M.2.2.2.1 k j).map (fun b => B + b))))) else .inl (M.2.1 k)
def am_ca (B : Nat) (cA : Nat → ClassId) (M : am_M) (k : Nat) : am_L → va_E
  | .inl c => .inr (c, (List.range (am_nf c)).map (fun j => am_gr B M c k j))
  | .inr (t, n) => .inl (cA t, n, am_ar B M k t)
def am_w (B : Nat) (cA : Nat → ClassId) (M : am_M) : va_W := M.1.mapIdx (fun k x => (B + k, am_ca B cA M k x))
theorem am_w_at (B : Nat) (cA : Nat → ClassId) (M : am_M) (k : Nat) : (am_w B cA M)[k]? = (M.1[k]?).map (fun x => (B + k, am_ca B cA M k x)) := by
  simp [am_w, List.getElem?_mapIdx]
theorem am_w_some {B : Nat} {cA : Nat → ClassId} {M : am_M} {k : Nat} {x : am_L} (h : M.1[k]? = some x) : (am_w B cA M)[k]? = some (B + k, am_ca B cA M k x) := by
  rw [am_w_at, h]; rfl
theorem am_D (B : Nat) (cA : Nat → ClassId) (M : am_M) : va_D (fun q => B ≤ q) (am_w B cA M) := by
  refine ⟨fun i j p q hi hj e => ?_, fun k q hk => ?_⟩
  · rw [am_w_at] at hi hj
    obtain ⟨x, -, hx⟩ := Option.map_eq_some_iff.mp hi
    obtain ⟨y, -, hy⟩ := Option.map_eq_some_iff.mp hj
    rw [← hx, ← hy] at e
    exact Nat.add_left_cancel e
  · rw [am_w_at] at hk
    obtain ⟨x, -, hx⟩ := Option.map_eq_some_iff.mp hk
    rw [← hx]
    exact Nat.le_add_right _ _
/-- two memories of one layout that agree in the cell k -/
theorem am_ca_eq {B : Nat} {cA : Nat → ClassId} {M N : am_M} {k : Nat} (h1 : N.2.1 k = M.2.1 k) (h2 : N.2.2.1 k = M.2.2.1 k) (h3 : ∀ j, am_rl N.2.2.2.1 k j = am_rl M.2.2.2.1 k j) (h4 : N.2.2.2.2 k = M.2.2.2.2 k) (x : am_L) : am_ca B cA N k x = am_ca B cA M k x := by
  cases x with
  | inl c => simp only [am_ca, am_gr, am_rf, h1, h2, h3, h4]
  | inr t => obtain ⟨t, n⟩ := t; simp only [am_ca, am_ar, h1, h2, h3]
theorem am_w_set {B : Nat} {cA : Nat → ClassId} {M N : am_M} {a : Nat} {x : am_L} (hl : N.1 = M.1) (ha : M.1[a]? = some x) (h1 : ∀ k, k ≠ a → N.2.1 k = M.2.1 k) (h2 : ∀ k, k ≠ a → N.2.2.1 k = M.2.2.1 k) (h3 : ∀ k, k ≠ a → ∀ j, am_rl N.2.2.2.1 k j = am_rl M.2.2.2.1 k j) (h4 : ∀ k, k ≠ a → N.2.2.2.2 k = M.2.2.2.2 k) :
    (am_w B cA M).set a (B + a, am_ca B cA N a x) = am_w B cA N := by
  apply List.ext_getElem?
  intro k
  rw [List.getElem?_set, am_w_at, am_w_at, hl]
  by_cases e : a = k
  · subst e
    have hlt : a < (am_w B cA M).length := by
      have := (List.getElem?_eq_some_iff.mp ha).1
      simpa [am_w] using this
    rw [if_pos rfl, if_pos hlt, ha]; rfl
  · rw [if_neg e]
    cases M.1[k]? with
    | none => rfl
    | some y => simp only [Option.map_some]; rw [am_ca_eq (h1 k (fun q => e q.symm)) (h2 k (fun q => e q.symm)) (h3 k (fun q => e q.symm)) (h4 k (fun q => e q.symm))]
theorem am_sI_ne {I : Nat → Nat → Int32} {a k : Nat} {f : Nat → Int32} (h : k ≠ a) : am_sI I a f k = I k := by simp [am_sI, h]
theorem am_sL_ne {I : Nat → Nat → Int64} {a k : Nat} {f : Nat → Int64} (h : k ≠ a) : am_sL I a f k = I k := by simp [am_sL, h]
theorem am_rl_ne {R : am_Rl} {a j b k i : Nat} (h : k ≠ a ∨ i ≠ j) : am_rl (((a, j), b) :: R) k i = am_rl R k i := by
  unfold am_rl
  rw [List.find?_cons]
  have : (a == k && j == i) = false := by
    rcases h with h | h
    · have : (a == k) = false := by simpa using fun q => h q.symm
      rw [this]; rfl
    · have : (j == i) = false := by simpa using fun q => h q.symm
      rw [this, Bool.and_false]
  dsimp only
  rw [this]
theorem am_rl_eq {R : am_Rl} {a j b : Nat} : am_rl (((a, j), b) :: R) a j = some b := by
  simp [am_rl]
theorem am_rl_fne {R : am_Rl} {n k j : Nat} (h : k ≠ n) : am_rl (R.filter (fun q => !(q.1.1 == n))) k j = am_rl R k j := by
  unfold am_rl
  rw [List.find?_filter]
  congr 2
  funext q
  by_cases e : q.1.1 = n
  · have : (q.1.1 == k) = false := by simpa using fun z => h (by rw [← z, e])
    simp [this]
  · simp [e]; rfl
theorem am_rl_feq {R : am_Rl} {n j : Nat} : am_rl (R.filter (fun q => !(q.1.1 == n))) n j = none := by
  unfold am_rl
  rw [List.find?_filter]
  rw [Option.map_eq_none_iff, List.find?_eq_none]
  intro q _
  by_cases e : q.1.1 = n <;> simp [e]
theorem am_sI_eq {I : Nat → Nat → Int32} {a : Nat} {f : Nat → Int32} : am_sI I a f a = f := by simp [am_sI]
theorem am_sL_eq {I : Nat → Nat → Int64} {a : Nat} {f : Nat → Int64} : am_sL I a f a = f := by simp [am_sL]
theorem am_w_uI {B : Nat} {cA : Nat → ClassId} {M : am_M} {a : Nat} {x : am_L} (f : Nat → Int32) (ha : M.1[a]? = some x) : (am_w B cA M).set a (B + a, am_ca B cA (am_uI M a f) a x) = am_w B cA (am_uI M a f) :=
  am_w_set rfl ha (fun _ h => am_sI_ne h) (fun _ _ => rfl) (fun _ _ _ => rfl) (fun _ _ => rfl)
theorem am_w_uL {B : Nat} {cA : Nat → ClassId} {M : am_M} {a : Nat} {x : am_L} (f : Nat → Int64) (ha : M.1[a]? = some x) : (am_w B cA M).set a (B + a, am_ca B cA (am_uL M a f) a x) = am_w B cA (am_uL M a f) :=
  am_w_set rfl ha (fun _ _ => rfl) (fun _ h => am_sL_ne h) (fun _ _ _ => rfl) (fun _ _ => rfl)
theorem am_w_uR {B : Nat} {cA : Nat → ClassId} {M : am_M} {a : Nat} {x : am_L} (j b : Nat) (ha : M.1[a]? = some x) : (am_w B cA M).set a (B + a, am_ca B cA (am_uR M a j b) a x) = am_w B cA (am_uR M a j b) :=
  am_w_set rfl ha (fun _ _ => rfl) (fun _ _ => rfl) (fun _ h _ => am_rl_ne (Or.inl h)) (fun _ _ => rfl)
theorem am_w_uA {B : Nat} {cA : Nat → ClassId} {M : am_M} {a : Nat} {x : am_L} (b : Nat) (ha : M.1[a]? = some x) : (am_w B cA M).set a (B + a, am_ca B cA (am_uA M a b) a x) = am_w B cA (am_uA M a b) :=
  am_w_set rfl ha (fun _ _ => rfl) (fun _ _ => rfl) (fun _ _ _ => rfl) (fun _ h => if_neg h)
theorem am_w_new {B : Nat} {cA : Nat → ClassId} {M : am_M} (x : am_L) : am_w B cA (am_new M x) = am_w B cA M ++ [(B + M.1.length, am_ca B cA (am_new M x) M.1.length x)] := by
  apply List.ext_getElem?
  intro k
  have hlen : (am_w B cA M).length = M.1.length := by simp [am_w]
  rw [am_w_at, List.getElem?_append, hlen, am_w_at]
  show Option.map _ ((M.1 ++ [x])[k]?) = _
  rw [List.getElem?_append]
  by_cases h : k < M.1.length
  · rw [if_pos h, if_pos h]
    have hne : k ≠ M.1.length := by omega
    cases M.1[k]? with
    | none => rfl
    | some y =>
      simp only [Option.map_some]
      rw [am_ca_eq (M := M) (N := am_new M x) (k := k) (am_sI_ne hne) (am_sL_ne hne) (fun _ => am_rl_fne hne) (if_neg hne)]
  · rw [if_neg h, if_neg h]
    by_cases e : k - M.1.length = 0
    · have : k = M.1.length := by omega
      subst this
      simp
    · rw [List.getElem?_eq_none (by simp; omega), List.getElem?_eq_none (by simp; omega)]; rfl
/-- a field set, in the list of an object's values -/
theorem am_fs_set {B c a j : Nat} {M N : am_M} {v : Value} (hj : j < am_nf c) (hv : am_gr B N c a j = v) (ho : ∀ i, i ≠ j → am_gr B N c a i = am_gr B M c a i) :
    ((List.range (am_nf c)).map (fun i => am_gr B M c a i)).set j v = (List.range (am_nf c)).map (fun i => am_gr B N c a i) := by
  apply List.ext_getElem?
  intro i
  rw [List.getElem?_set]
  by_cases e : j = i
  · subst e
    rw [if_pos rfl, if_pos (by simpa using hj)]
    simp [hj, hv]
  · rw [if_neg e]
    simp only [List.getElem?_map, List.getElem?_range']
    by_cases h : i < am_nf c
    · simp [h, ho i (fun q => e q.symm)]
    · simp [h]
def am_tys (cA : Nat → ClassId) : List (ClassId × FieldType) := [(cA 0, .int), (cA 1, .long), (cA 2, .byte), (cA 3, .boolean), (cA 4, .object "LooseWater$Ship"), (cA 5, .object "LooseWater$Plan")]
/-- a text: an object, its coder, its bytes -/
def am_XS (B : Nat) (adK adV : Nat → Nat) (U : State) (H : Heap) (j : Nat) : Prop := va_O "java/lang/String" (adK j) (fun q => B ≤ q) U H ∧ va_OF "java/lang/String" "coder" "B" (.int 0) (adK j) (fun q => B ≤ q) U H ∧ va_OF "java/lang/String" "value" "[B" (.ref (adV j)) (adK j) (fun q => B ≤ q) U H ∧ va_T .byte (adV j) (am_slen.getD j 0) (fun i => .int ((am_sbyt.getD j []).getD i 0)) (fun q => B ≤ q) U H
theorem am_XS.moved {B j : Nat} {adK adV : Nat → Nat} {u U : State} {H : Heap} (hvm : u.vm.Alike U.vm) (h : am_XS B adK adV u H j) : am_XS B adK adV U H j := ⟨h.1.moved hvm, h.2.1.moved hvm, h.2.2.1.moved hvm, h.2.2.2.moved hvm⟩
theorem am_XS.kept {B j : Nat} {adK adV : Nat → Nat} {U : State} {H H1 : Heap} (h : am_XS B adK adV U H j) (hq : ∀ a : Nat, a < H.size → ¬ B ≤ a → H1[a]? = H[a]?) : am_XS B adK adV U H1 j := ⟨h.1.kept hq, h.2.1.kept hq, h.2.2.1.kept hq, h.2.2.2.kept hq⟩
/-- what was there before and nobody writes -/
def am_X (L : Nat) (xs : Nat → Int32) (B : Nat) (X : Nat → Value) (U : State) (H : Heap) : Prop :=
  ∃ (tS tb : Nat) (adK adV : Nat → Nat), (X 0 = .ref tS ∧ va_Z "LooseWater" "SINE" "[I" (.ref tS) (fun q => B ≤ q) U H ∧ va_T .int tS 91 (fun j => .int (am_sin j)) (fun q => B ≤ q) U H)
    ∧ (va_Z "java/lang/String" "COMPACT_STRINGS" "Z" (.int 1) (fun q => B ≤ q) U H ∧ va_Z "jdk/internal/util/Preconditions" "SIOOBE_FORMATTER" "Ljava/util/function/BiFunction;" (X 3000) (fun q => B ≤ q) U H)
    ∧ ((∀ j, j < 28 → X (1 + j) = .ref (adK j) ∧ X (1001 + j) = .ref (adV j)) ∧ (∀ j, j < 28 → am_XS B adK adV U H j) ∧ ∀ (j : Nat) (r : String × Nat × String), am_str[j]? = some r → vk_R r.1 r.2.1 r.2.2 (adK j) U)
    ∧ (∀ w ∈ am_N, va_Nw w U) ∧ (va_AO "LooseWater$Ship" U ∧ va_AO "LooseWater$Plan" U)
    ∧ (X 2000 = .ref tb ∧ va_T .int tb L (fun j => .int (xs j)) (fun q => B ≤ q) U H)
theorem am_N_nest : ∀ w ∈ am_N, (∃ a i b n d h, w = .fieldLinkNest a i b n d h) ∨ (∃ a i y h, w = .methodLinkNest a i y h) := by
  intro w hw
  simp only [am_N, List.mem_cons, List.not_mem_nil, or_false] at hw
  rcases hw with h | h | h | h | h | h | h | h | h | h | h | h | h | h | h | h | h | h | h | h | h | h | h | h <;> subst h <;> first | exact Or.inl ⟨_, _, _, _, _, _, rfl⟩ | exact Or.inr ⟨_, _, _, _, rfl⟩
theorem am_N_on {w : Cond} (h : w ∈ am_N) : w.onTables = true := by
  rcases am_N_nest w h with ⟨_, _, _, _, _, _, rfl⟩ | ⟨_, _, _, _, rfl⟩ <;> rfl
/-- at a call: the tables warmed, the heap as it is now -/
theorem am_X.warm {L : Nat} {xs : Nat → Int32} {B : Nat} {X : Nat → Value} {s U : State} {H : Heap} {locs : List Loc} (hW : s.WarmedH U.vm) (hS : va_S (fun q => B ≤ q) s.heap H locs) (h : am_X L xs B X s s.heap) : am_X L xs B X U H := by
  obtain ⟨tS, tb, adK, adV, ⟨a1, a2, a3⟩, ⟨b1, b2⟩, ⟨c1, c2, c3⟩, d1, ⟨e1, e2⟩, f1, f2⟩ := h
  refine ⟨tS, tb, adK, adV, ⟨a1, (a2.moved hW.alike).kept hS.2.1, (a3.moved hW.alike).kept hS.2.1⟩, ⟨(b1.moved hW.alike).kept hS.2.1, (b2.moved hW.alike).kept hS.2.1⟩, ⟨c1, fun j hj => ((c2 j hj).moved hW.alike).kept hS.2.1, fun j r hr => (c3 j r hr).warm hW⟩, fun w hw => ?_, ⟨e1.moved hW.alike, e2.moved hW.alike⟩, f1, (f2.moved hW.alike).kept hS.2.1⟩
  rcases am_N_nest w hw with ⟨_, _, _, _, _, _, rfl⟩ | ⟨_, _, _, _, rfl⟩
  · exact va_Nw.warmF hW (d1 _ hw)
  · exact va_Nw.warmM hW (d1 _ hw)
/-- the same tables -/
theorem am_X.same {L : Nat} {xs : Nat → Int32} {B : Nat} {X : Nat → Value} {s U : State} {H : Heap} (hv : U.vm = s.vm) (h : am_X L xs B X s H) : am_X L xs B X U H := by
  have hA : s.vm.Alike U.vm := by rw [hv]; exact Vm.Alike.refl _
  obtain ⟨tS, tb, adK, adV, ⟨a1, a2, a3⟩, ⟨b1, b2⟩, ⟨c1, c2, c3⟩, d1, ⟨e1, e2⟩, f1, f2⟩ := h
  exact ⟨tS, tb, adK, adV, ⟨a1, a2.moved hA, a3.moved hA⟩, ⟨b1.moved hA, b2.moved hA⟩, ⟨c1, fun j hj => (c2 j hj).moved hA, fun j r hr => (c3 j r hr).same hv⟩, fun w hw => va_Nw.same (am_N_on hw) hv.symm (d1 w hw), ⟨e1.moved hA, e2.moved hA⟩, f1, f2.moved hA⟩
theorem am_lk_mem {lo : am_Lo} {i : Nat} {v : Value} (h : am_lk lo i = some v) : (i, v) ∈ lo := by
  unfold am_lk at h
  obtain ⟨q, hq, rfl⟩ := Option.map_eq_some_iff.mp h
  have h1 := List.find?_some hq
  have h2 := List.mem_of_find?_eq_some hq
  have h3 : q.1 = i := by simpa using h1
  rw [← h3]
  exact h2
theorem am_lk_lv {B : Nat} {X : Nat → Value} {lo : am_Lo} {i n : Nat} {v : Value} {ls : Array Slot} (h : am_lk lo i = some v) (hl : lv_has ls n (am_lv B X lo)) : ls[i]? = some (.val (am_v B X v)) :=
  hl.2.2 (i, am_v B X v) (List.mem_map.mpr ⟨(i, v), am_lk_mem h, rfl⟩)
theorem am_lv_s1 {B : Nat} {X : Nat → Value} (hX : am_XV X) (lo : am_Lo) (i : Nat) (v : Value) : (i, am_v B X v) :: (am_lv B X lo).filter (fun q => !(q.1 == i) && !(q.1 + 1 == i && q.2.category == 2)) = am_lv B X (am_s1 lo i v) := by
  unfold am_lv am_s1
  rw [List.filter_map, List.map_cons]
  congr 2
  apply List.filter_congr
  intro q _
  simp [am_v_cat hX]
theorem am_lv_s2 {B : Nat} {X : Nat → Value} (hX : am_XV X) (lo : am_Lo) (i : Nat) (v : Value) : (i, am_v B X v) :: (am_lv B X lo).filter (fun q => !(q.1 == i) && (!(q.1 == i + 1) && !(q.1 + 1 == i && q.2.category == 2))) = am_lv B X (am_s2 lo i v) := by
  unfold am_lv am_s2
  rw [List.filter_map, List.map_cons]
  congr 2
  apply List.filter_congr
  intro q _
  simp [am_v_cat hX]
theorem am_lv_args {B : Nat} {X : Nat → Value} (hX : am_XV X) (as : List Value) : ∀ i, lv_args i (as.map (am_v B X)) = am_lv B X (lv_args i as) := by
  induction as with
  | nil => intro i; rfl
  | cons v as ih =>
    intro i
    simp only [List.map_cons, lv_args, am_v_cat hX, ih, am_lv]
