/-! THE CLAIM OUT OF ONE WALK OF THE LAW'S BODY. Your part is whole_start (and what it stands on); all else here is the same for every law, but numbers. -/
def R_law : String := "LooseWaterLaw"
def lw_P (b : Addr) (xs : List Int32) (args : Array Value) (s : State) : Prop := args = #[.ref b] ∧ s.IntsAt b xs ∧ xs.length ≤ 3584 ∧ (Jvm.Cond.and given_1 narrow_1).before args s = true
def lw_Q (_ : Array Value) (s : State) (o : Outcome) (t : State) : Prop := o = .returned (some (.int 1)) ∧ Framed s o t [] 600000 7302250
def lw_Z (below : List Frame) (a : Array Value) (s : State) : State → Prop := fun t => ∃ o, t.status = .running ∧ Ended t below o ∧ lw_Q a s o t
/-- the law's own end, with 1 on the stack, nothing written that was there before, its room as the claim has it -/
theorem lw_ret {p : Program} {l : Launch} {e : Env} {s : State} {m : MethodId} {below : List Frame} {meth : Method} {c : Code} {b : Nat} (hx : p.tables.exec = Jvm.exec) (hb : c.code = code) (hr : meth.sig.returnType = ret) (hlocks : meth.locks = false) {pc : Nat} {H : Heap} {ls : Array Slot} (hdg : decode code pc = .ok (.ireturn, 1)) : W p l e room_1 s m #[Value.ref b] below meth c H [] 600000 7302250 (lw_Z below #[Value.ref b] s) (F0 m pc ls [.int 1]) := by
  intro T hT X
  obtain ⟨fs, hret, hrun, hended, hW, hframe⟩ := X.leave (v := some (.int 1)) (hlocks := hlocks) (fun h => by rw [hr] at h; cases h)
  have hmeth' : T.vm.method? m = some meth := X.method'
  refine ⟨T.setFrames fs, ?_, .returned (some (.int 1)), hrun, hended, rfl, ⟨_, rfl⟩, hW, hframe⟩
  jvm_step X.here [X.here.top, hx, hb, hdg, hmeth', hr, ret, narrow_b1]
  (try refine ⟨rfl, ?_⟩); (try refine ⟨rfl, ?_⟩)
  first | (intro acts; rw [hret _ acts rfl rfl rfl]) | rw [hret _ _ rfl rfl rfl]
  exact Steps.refl _
/-- what holds at the law's entry: the machine, the code, the tables' words (any of lw_tbl by 'hts w (by decide +kernel)'), the script of L ints xs at the cell b, what the Statement gives of the start (any of its parts by flat_of_before) -/
def lw_At (p : Program) (s : State) (m : MethodId) (meth : Method) (c : Code) (b L : Nat) (xs : Nat → Int32) : Prop :=
  p.tables.exec = Jvm.exec ∧ c.code = code ∧ meth.sig.returnType = ret ∧ c.maxLocals = 4 ∧ s.vm.findClass R_law = some m.cls ∧ (∀ w ∈ lw_tbl, w.before #[Value.ref b] s = true) ∧ va_X b L xs s s.heap ∧ b < s.heap.size ∧ meth.locks = false ∧ (Jvm.Cond.and given_1 narrow_1).before #[Value.ref b] s = true

/-! ===== the start: what the Statement gives, as the small machine's world ===== -/
def am_fl : List Cond := flatC (Jvm.Cond.and given_1 narrow_1)
def am_fq (i : Nat) (w : Cond) : Bool := decide (am_fl[i]? = some w)
def am_tq (i : Nat) (w : Cond) : Bool := decide (lw_tbl[i]? = some w)
def am_sr (j : Nat) : String × Nat × String := am_str.getD j ("", 0, "")
def am_sT (j : Nat) : Term := .string (am_sr j).1 (am_sr j).2.1
def am_sof : List Nat := [129, 208, 216, 224, 233, 241, 250, 258, 266, 275, 284, 293, 302, 307, 312, 317, 322, 327, 332, 337, 342, 347, 352, 357, 362, 368, 375, 382]
def am_swi : List Nat := [758, 1665, 1666, 1667, 1668, 1669, 1694, 1695, 1696, 1697, 1698, 1699, 1700, 1701, 1702, 1703, 1704, 1705, 1706, 1707, 1708, 1709, 1710, 1711, 1747, 1760, 1777, 1778]
def am_nwi : List Nat := [127, 133, 210, 244, 274, 377, 433, 438, 467, 501, 506, 516, 521, 544, 549, 655, 741, 901, 905, 915, 951, 992, 1179, 1198]
def am_ckS (j : Nat) : Bool := am_fq (am_sof.getD j 0) (.exactly (am_sT j) "java/lang/String") && am_fq (am_sof.getD j 0 + 1) (.eq (.field (am_sT j) "java/lang/String" "coder" "B") (.int 0)) && am_fq (am_sof.getD j 0 + 2) (.arrayOf (.field (am_sT j) "java/lang/String" "value" "[B") .byte) && am_fq (am_sof.getD j 0 + 3) (.eq (.length (.field (am_sT j) "java/lang/String" "value" "[B")) (.int (Int32.ofNat (am_slen.getD j 0))))
  && (List.range (am_slen.getD j 0)).all (fun i => am_fq (am_sof.getD j 0 + 4 + i) (.eq (.elem (.field (am_sT j) "java/lang/String" "value" "[B") (.int (Int32.ofNat i))) (.int ((am_sbyt.getD j []).getD i 0)))) && decide (am_slen.getD j 0 < 1000) && am_tq (am_swi.getD j 0) (.stringRef (am_sr j).1 (am_sr j).2.1 (am_sr j).2.2)
set_option maxRecDepth 100000 in
theorem am_ckS_ok : (List.range 28).all am_ckS = true := by decide +kernel
set_option maxRecDepth 100000 in
theorem am_ckN_ok : (List.range 91).all (fun j => am_fq (12 + j) (.eq (.elem (.static "LooseWater" "SINE" "[I") (.int (Int32.ofNat j))) (.int (am_sin j)))) = true := by decide +kernel
set_option maxRecDepth 100000 in
theorem am_ckW_ok : (List.range am_N.length).all (fun j => match am_N[j]? with
  | some w => am_tq (am_nwi.getD j 0) w
  | none => false) = true := by decide +kernel
section AMB
variable {s : State} {args : Array Value}
theorem am_fq_use (hgv : (Jvm.Cond.and given_1 narrow_1).before args s = true) {i : Nat} {w : Cond} (h : am_fq i w = true) : w.before args s = true := flat_of_before _ hgv w (List.mem_of_getElem? (of_decide_eq_true h))
theorem am_tq_use (hts : ∀ w ∈ lw_tbl, w.before args s = true) {i : Nat} {w : Cond} (h : am_tq i w = true) : w.before args s = true := hts w (List.mem_of_getElem? (of_decide_eq_true h))
theorem am_text (hgv : (Jvm.Cond.and given_1 narrow_1).before args s = true) (hts : ∀ w ∈ lw_tbl, w.before args s = true) {B : Nat} (hA : ∀ a : Nat, a < s.heap.size → ¬ B ≤ a) {j : Nat} (hj : j < 28) :
    ∃ k v : Nat, (va_O "java/lang/String" k (fun q => B ≤ q) s s.heap ∧ va_OF "java/lang/String" "coder" "B" (.int 0) k (fun q => B ≤ q) s s.heap ∧ va_OF "java/lang/String" "value" "[B" (.ref v) k (fun q => B ≤ q) s s.heap ∧ va_T .byte v (am_slen.getD j 0) (fun i => .int ((am_sbyt.getD j []).getD i 0)) (fun q => B ≤ q) s s.heap) ∧ vk_R (am_sr j).1 (am_sr j).2.1 (am_sr j).2.2 k s := by
  have h := List.all_eq_true.mp am_ckS_ok j (List.mem_range.mpr hj)
  unfold am_ckS at h
  simp only [Bool.and_eq_true] at h
  obtain ⟨⟨⟨⟨⟨⟨h1, h2⟩, h3⟩, h4⟩, h5⟩, h6⟩, h7⟩ := h
  have hl := of_decide_eq_true h6
  obtain ⟨adK, adV, hS, he⟩ := vk_Sof (N := 1) (tm := fun _ => am_sT j) (len := [am_slen.getD j 0]) (byt := [am_sbyt.getD j []]) (A := fun q => B ≤ q) (args := args) (s := s)
    (fun i hi => by
      have : i = 0 := by omega
      subst this
      show am_slen.getD j 0 < 2 ^ 31
      omega)
    (fun i hi => am_fq_use hgv h1) (fun i hi => am_fq_use hgv h2) (fun i hi => am_fq_use hgv h3)
    (fun i hi => by
      have : i = 0 := by omega
      subst this
      exact am_fq_use hgv h4)
    (fun i hi q hq => by
      have : i = 0 := by omega
      subst this
      exact am_fq_use hgv (List.all_eq_true.mp h5 q (List.mem_range.mpr hq)))
    (fun i i' hi hi' hne => absurd (show i = i' by omega) hne) hA
  exact ⟨adK 0, adV 0, hS.1 0 (by omega), vk_R.of (am_tq_use hts h7) (he 0 (by omega))⟩
theorem am_arrP (hts : ∀ w ∈ lw_tbl, w.before args s = true) {i : Nat} {ty : FieldType} (hy : ∀ C, ty ≠ .object C) (h : am_tq i (.arrayClass ty) = true) : ∃ c : ClassId, ArrOfT s c ty ∧ va_RA s c ty := by
  obtain ⟨c, k, comp, h1, h2, h3⟩ := Cond.arrayClass_spec (am_tq_use hts h)
  refine ⟨c, fun n z => ⟨fun k h => (by cases h), k, h2, comp, h3⟩, ?_⟩
  cases ty with
  | object C => exact absurd rfl (hy C)
  | _ => exact h1
theorem am_arrO {C : String} (h : va_AO C s) : ∃ c : ClassId, ArrOfT s c (.object C) ∧ va_RA s c (.object C) := by
  obtain ⟨comp, c, k, h1, -, h3, h4, h5⟩ := Cond.arrayOver_spec h
  exact ⟨c, fun n z => ⟨fun k h => (by cases h), k, h3, comp, h4⟩, k, comp, h3, h4, h1, h5⟩

theorem am_kn (hT : am_T) (hts : ∀ w ∈ lw_tbl, w.before args s = true) : ∃ D : va_G, ∀ (k : Nat) (q : vw_C), vwCl[k]? = some q → u_Kn s q.1 q.2.1 q.2.2 (D.1 k) (D.2 k) := by
  have h : ∀ k : Nat, ∃ d : ClassId × (Nat → Nat), ∀ q : vw_C, vwCl[k]? = some q → u_Kn s q.1 q.2.1 q.2.2 d.1 d.2 := by
    intro k
    cases hq : vwCl[k]? with
    | none => exact ⟨(0, fun _ => 0), fun q h => by cases h⟩
    | some q =>
      obtain ⟨C, T, N⟩ := q
      obtain ⟨-, -, -, hws, hin, -, -⟩ := hT.1 k C T N hq
      obtain ⟨c, iS, hKn⟩ := u_known (C := C) (T := T) (N := N) (n := N) hts (fun w hw => am_B_in (hws w hw)) (hts _ (am_B_in hin))
      exact ⟨(c, iS), fun q h => by cases h; exact hKn⟩
  obtain ⟨f, hf⟩ := Classical.axiomOfChoice h
  exact ⟨(fun k => (f k).1, fun k => (f k).2), hf⟩
end AMB
def am_M0 : am_M := ([], fun _ _ => 0, fun _ _ => 0, [], fun _ => none)
/-- what is left to show, of the small machine alone -/
def am_Goal : Prop := ∀ (L : Nat) (xs : Nat → Int32), L ≤ 3584 → ∃ (n : Nat) (M' : am_M), am_run L xs n 1000 264 0 [(0, .float 2000)] [] am_M0 = some (some (.int 1), M') ∧ M'.1.length ≤ 600000 ∧ am_sl M' ≤ 7302250
set_option maxHeartbeats 4000000 in
set_option maxRecDepth 100000 in
theorem am_start (hT : am_T) (hT2 : am_T2) (hG : am_Goal) {p : Program} {e : Env} {s : State} {m : MethodId} {below : List Frame} {meth : Method} {c : Code} (l : Launch) {b L : Nat} {xs : Nat → Int32} (hL : L ≤ 3584) (C0 : lw_At p s m meth c b L xs) : W p l e room_1 s m #[Value.ref b] below meth c s.heap [] 0 0 (lw_Z below #[Value.ref b] s) (entryFrame m ([Value.ref b] : List Value).toArray 4) := by
  obtain ⟨hx, hb, hr, hml, hown, hts, hX, hbl, hlocks, hgv⟩ := id C0
  obtain ⟨n, M', hrun, hM1, hM2⟩ := hG L xs hL
  have hA : ∀ a : Nat, a < s.heap.size → ¬ s.heap.size ≤ a := fun a h => Nat.not_le.mpr h
  obtain ⟨tS, hSe, hST⟩ := va_Tof (args := #[Value.ref b]) (s := s) (tm := .static "LooseWater" "SINE" "[I") (ty := .int) (N := 91) (f := fun j => .int (am_sin j)) (A := fun q => s.heap.size ≤ q) (by decide) (am_fq_use hgv (i := 10) (by decide +kernel)) (va_eqt (am_fq_use hgv (i := 11) (by decide +kernel))) (fun j hj => va_eqt (am_fq_use hgv (List.all_eq_true.mp am_ckN_ok j (List.mem_range.mpr hj)))) hA
  have hSZ : va_Z "LooseWater" "SINE" "[I" (.ref tS) (fun q => s.heap.size ≤ q) s s.heap := va_Zof (am_tq_use hts (i := 902) (by decide +kernel)) (am_tq_use hts (i := 96) (by decide +kernel)) hSe hA
  have hCZ : va_Z "java/lang/String" "COMPACT_STRINGS" "Z" (.int 1) (fun q => s.heap.size ≤ q) s s.heap := va_Zof (am_tq_use hts (i := 768) (by decide +kernel)) (am_tq_use hts (i := 111) (by decide +kernel)) (va_eqi (am_fq_use hgv (i := 4) (by decide +kernel))) hA
  have hIZ : va_Zq "jdk/internal/util/Preconditions" "SIOOBE_FORMATTER" "Ljava/util/function/BiFunction;" (fun q => s.heap.size ≤ q) s s.heap := va_Zqof (am_tq_use hts (i := 776) (by decide +kernel)) (am_tq_use hts (i := 113) (by decide +kernel)) (am_fq_use hgv (i := 5) (by decide +kernel)) hA
  obtain ⟨vI, hvI, hIZ⟩ : ∃ v : Value, (v = .null ∨ ∃ a, v = .ref a) ∧ va_Z "jdk/internal/util/Preconditions" "SIOOBE_FORMATTER" "Ljava/util/function/BiFunction;" v (fun q => s.heap.size ≤ q) s s.heap := by
    rcases hIZ with h | ⟨t, h⟩
    · exact ⟨_, Or.inl rfl, h⟩
    · exact ⟨_, Or.inr ⟨t, rfl⟩, h⟩
  have hstr : ∀ j : Nat, ∃ q : Nat × Nat, j < 28 → (va_O "java/lang/String" q.1 (fun q => s.heap.size ≤ q) s s.heap ∧ va_OF "java/lang/String" "coder" "B" (.int 0) q.1 (fun q => s.heap.size ≤ q) s s.heap ∧ va_OF "java/lang/String" "value" "[B" (.ref q.2) q.1 (fun q => s.heap.size ≤ q) s s.heap ∧ va_T .byte q.2 (am_slen.getD j 0) (fun i => .int ((am_sbyt.getD j []).getD i 0)) (fun q => s.heap.size ≤ q) s s.heap) ∧ vk_R (am_sr j).1 (am_sr j).2.1 (am_sr j).2.2 q.1 s := by
    intro j
    by_cases hj : j < 28
    · obtain ⟨k, v, h⟩ := am_text hgv hts hA hj
      exact ⟨(k, v), fun _ => h⟩
    · exact ⟨(0, 0), fun h => absurd h hj⟩
  obtain ⟨ad, had⟩ := Classical.axiomOfChoice hstr
  have ao1 : va_AO "LooseWater$Ship" s := va_AO.of (am_tq_use hts (i := 373) (by decide +kernel))
  have ao2 : va_AO "LooseWater$Plan" s := va_AO.of (am_tq_use hts (i := 375) (by decide +kernel))
  obtain ⟨D, hD⟩ := am_kn hT hts
  obtain ⟨c0, k0⟩ := am_arrP hts (ty := .int) (fun _ h => by cases h) (i := 206) (by decide +kernel)
  obtain ⟨c1, k1⟩ := am_arrP hts (ty := .long) (fun _ h => by cases h) (i := 207) (by decide +kernel)
  obtain ⟨c2, k2⟩ := am_arrP hts (ty := .byte) (fun _ h => by cases h) (i := 853) (by decide +kernel)
  obtain ⟨c3, k3⟩ := am_arrP hts (ty := .boolean) (fun _ h => by cases h) (i := 1426) (by decide +kernel)
  obtain ⟨c4, k4⟩ := am_arrO ao1
  obtain ⟨c5, k5⟩ := am_arrO ao2
  let cA : Nat → ClassId := fun t => if t = 0 then c0 else if t = 1 then c1 else if t = 2 then c2 else if t = 3 then c3 else if t = 4 then c4 else c5
  have hK : va_K D vwCl (am_tys cA) s := by
    refine ⟨hD, fun k q h => ?_⟩
    match k, h with
    | 0, h => cases h; exact k0
    | 1, h => cases h; exact k1
    | 2, h => cases h; exact k2
    | 3, h => cases h; exact k3
    | 4, h => cases h; exact k4
    | 5, h => cases h; exact k5
    | k + 6, h => simp [am_tys] at h
  let X : Nat → Value := fun u => if u = 0 then .ref tS else if u = 2000 then .ref b else if u = 3000 then vI else if u < 29 then .ref (ad (u - 1)).1 else if u < 1029 then .ref (ad (u - 1001)).2 else .null
  have hXV : am_XV X := by
    intro u
    show (X u = .null ∨ _)
    dsimp only [X]
    repeat' split
    all_goals first | exact Or.inr ⟨_, rfl⟩ | exact hvI | exact Or.inl rfl
  have hXX : am_X L xs s.heap.size X s s.heap := by
    refine ⟨tS, b, fun j => (ad j).1, fun j => (ad j).2, ⟨rfl, hSZ, hST⟩, ⟨hCZ, hIZ⟩, ⟨fun j hj => ⟨?_, ?_⟩, fun j hj => (had j hj).1, fun j r hr => ?_⟩, fun w hw => ?_, ⟨ao1, ao2⟩, ⟨rfl, ?_⟩⟩
    · dsimp only [X]
      rw [if_neg (by omega), if_neg (by omega), if_neg (by omega), if_pos (by omega)]
      rw [show 1 + j - 1 = j by omega]
    · dsimp only [X]
      rw [if_neg (by omega), if_neg (by omega), if_neg (by omega), if_neg (by omega), if_pos (by omega)]
      rw [show 1001 + j - 1001 = j by omega]
    · have hj : j < 28 := (List.getElem?_eq_some_iff.mp hr).1
      have := (had j hj).2
      rw [show am_sr j = r by unfold am_sr; rw [List.getD_eq_getElem?_getD, hr]; rfl] at this
      exact this
    · obtain ⟨j, hj⟩ := List.getElem?_of_mem hw
      have h9 := List.all_eq_true.mp am_ckW_ok j (List.mem_range.mpr (List.getElem?_eq_some_iff.mp hj).1)
      rw [hj] at h9
      exact va_Nw.of (am_N_on hw) (am_tq_use hts h9)
    · obtain ⟨scr, h1, h2, h3, h4, h5⟩ := hX
      exact ⟨scr, h1, h2, h3, Nat.le_of_eq h4.symm, by rw [h4], h5, Nat.not_le.mpr hbl⟩
  have hl := lv_entry ([.ref b]) (n := 4) (Nat.le_of_ble_eq_true rfl)
  rw [lg_entry_eq]
  generalize (lg_sl ([.ref b]) ++ List.replicate (4 - (lg_sl ([.ref b])).length) Slot.unset).toArray = ls at hl ⊢
  have e0 : am_lv s.heap.size X [(0, .float 2000)] = lv_args 0 [.ref b] := rfl
  have hlaw : am_by 264 = code := rfl
  have hC : am_C L xs s.heap.size X D cA p room_1 s m #[Value.ref b] meth c 264 1000 0 :=
    ⟨hx, by rw [hlaw]; exact hb, hml, hown, fun w hw => hts w (am_B_in hw), hXV, hXX, hK, rfl, ⟨by decide, by decide⟩, fun q => absurd q (by decide +kernel)⟩
  have hP : va_P D vwCl (am_w s.heap.size cA am_M0) s.heap := fun k q h => by simp [am_w, am_M0] at h
  have hS : va_S (fun q => s.heap.size ≤ q) s.heap s.heap [] := va_S.rf
  refine am_sound hT hT2 n 1000 264 0 _ [] am_M0 _ M' hrun p l e room_1 s m #[Value.ref b] below meth c s.heap [] (lw_Z below #[Value.ref b] s) s.heap.size X D cA 0 0 ls hC hP hS (by rw [e0]; exact hl) (Nat.zero_le _) (Nat.zero_le _) hM1 hM2 ?_
  intro pc ls H locs q st hat hret hP1 hS1
  have hdg := (am_ok_dec (hT2.2 264 pc q hat)).1
  obtain ⟨ins, a1, a2, a3⟩ := q
  dsimp only at hret hdg
  unfold am_r at hret
  split at hret
  · split at hret
    · split at hret
      · cases hret
        refine va_forget (fun q hq => hS1.2.2 q hq) ?_
        refine W.widen (k := 600000) (n := 7302250) hM1 hM2 ?_
        exact lw_ret hx hb hr hlocks (by rw [hlaw] at hdg; exact hdg)
      · cases hret
    · cases hret
  · split at hret <;> cases hret
  · split at hret <;> cases hret
  · split at hret <;> cases hret
  · split at hret <;> cases hret
  · cases hret
