/-! ===== what is checked of the tables ===== -/
def am_B : List Cond := lw_tbl.filter goodWord
theorem am_B_in {w : Cond} (h : w ∈ am_B) : w ∈ lw_tbl := (List.mem_filter.mp h).1
theorem am_B_good : GoodIn am_B am_B := fun w h => ⟨h, good_of_word (List.mem_filter.mp h).2⟩
def am_gd (i : Nat) (w : Cond) : Bool := decide (lw_tbl[i]? = some w) && goodWord w
theorem am_gd_in {i : Nat} {w : Cond} (h : am_gd i w = true) : w ∈ am_B := by
  unfold am_gd at h
  rw [Bool.and_eq_true] at h
  exact List.mem_filter.mpr ⟨List.mem_of_getElem? (of_decide_eq_true h.1), h.2⟩
def am_lf (own : String) (i a3 : Nat) (c n d : String) : Bool := if a3 < 10000 then am_gd a3 (.fieldLink own i c n d) else decide (am_N[a3 - 10000]? = some (.fieldLinkNest own i c n d "LooseWater"))
def am_lm (own : String) (i a3 : Nat) (y : MethodName) : Bool := if a3 < 10000 then am_gd a3 (.methodLink own i y) else decide (am_N[a3 - 10000]? = some (.methodLinkNest own i y "LooseWater"))
def am_okS (own : String) (i a2 : Nat) : Bool := decide (1 ≤ a2 ∧ a2 < 29) && decide ((am_str[a2 - 1]?).map (fun r => (r.1, r.2.1)) = some (own, i))
def am_okF (own : String) (i a1 a2 a3 : Nat) : Bool := match vwCl[a1]? with
  | some (_, T, N) => decide (a2 < N) && am_lf own i a3 (T a2).1 (T a2).2.1 (T a2).2.2.1
  | none => false
def am_okP (k : Nat) (own : String) (i a1 a2 a3 : Nat) : Bool := match vwCl[a1]? with
  | some (_, T, N) => decide (a2 < N) && am_lf own i a3 (T a2).1 (T a2).2.1 (T a2).2.2.1 && (!(T a2).2.2.2 || (decide (a3 < 10000) && decide (am_kd k = 2) && decide ((T a2).1 = own)))
  | none => false
def am_okI (k : Nat) (ins : Instr) (a1 a2 a3 : Nat) : Bool := match ins with
  | .ldc i => a1 == 5000 || (a1 == 0 && am_gd a3 (.constant (am_y k).cls i (Int32.ofNat a2))) || (a1 == 1 && am_okS (am_y k).cls i a2)
  | .ldc_w i => a1 == 5000 || (a1 == 0 && am_gd a3 (.constant (am_y k).cls i (Int32.ofNat a2))) || (a1 == 1 && am_okS (am_y k).cls i a2)
  | .ldc2_w i => am_gd a3 (.constantLong (am_y k).cls i (Int64.ofNat a2))
  | .getfield i => if a1 = 100 then (if a2 = 0 then am_gd a3 (.fieldLink (am_y k).cls i "java/lang/String" "value" "[B") else am_gd a3 (.fieldLink (am_y k).cls i "java/lang/String" "coder" "B")) else am_okF (am_y k).cls i a1 a2 a3
  | .putfield i => am_okP k (am_y k).cls i a1 a2 a3
  | .getstatic i => if a1 = 0 then am_lf (am_y k).cls i a3 "LooseWater" "SINE" "[I" else if a1 = 1 then am_gd a3 (.fieldLink (am_y k).cls i "java/lang/String" "COMPACT_STRINGS" "Z") else if a1 = 2 then am_gd a3 (.fieldLink (am_y k).cls i "jdk/internal/util/Preconditions" "SIOOBE_FORMATTER" "Ljava/util/function/BiFunction;") else true
  | .new i => if a1 < 13 then (match vwCl[a1]? with
    | some (C, _, _) => am_gd a2 (.classLink (am_y k).cls i C)
    | none => false) else true
  | .anewarray i => if a1 = 4 then am_gd a2 (.classLink (am_y k).cls i "LooseWater$Ship") else if a1 = 5 then am_gd a2 (.classLink (am_y k).cls i "LooseWater$Plan") else true
  | .invokespecial i => if a1 = 1001 then am_gd a3 (.methodLink (am_y k).cls i objectInit) else if a1 < 265 then am_lm (am_y k).cls i a3 (am_y a1) && decide (a2 = am_np a1 + 1) else true
  | .invokevirtual i => if a1 < 265 then am_lm (am_y k).cls i a3 (am_y a1) && decide (a2 = am_np a1 + 1) else true
  | .invokestatic i => if a1 = 1000 then am_gd a3 (.methodLink (am_y k).cls i arraycopyName) else if a1 = 1002 then am_gd a3 (.methodLink (am_y k).cls i Lib.Math.max.name) else if a1 = 1003 then am_gd a3 (.methodLink (am_y k).cls i Lib.Math.min.name) else if a1 = 1004 then am_gd a3 (.methodLink (am_y k).cls i Lib.Math.abs.name) else if a1 = 1005 then am_gd a3 (.methodLink (am_y k).cls i Lib.MathLoose.max_long.x) else if a1 = 1006 then am_gd a3 (.methodLink (am_y k).cls i Lib.MathLoose.min_long.x) else if a1 < 265 then am_lm (am_y k).cls i a3 (am_y a1) && decide (a2 = am_np a1) else true
  | _ => true
def am_ok (k : Nat) (q : am_E) : Bool := decide (decode (am_by k) q.1 = .ok (q.2.1, am_len q.2.1 q.2.2.1)) && am_okI k q.2.1 q.2.2.1 q.2.2.2.1 q.2.2.2.2
/-- the classes: fields, types, words -/
def am_clsF (C : String) (T : u_T) (N cn : Nat) : Prop := N = am_nf cn ∧ (∀ k, k < N → parseFieldDescriptor (T k).2.2.1 = some (am_ty cn k)) ∧ (∀ a, a < N → ∀ b, b < N → a ≠ b → (T a).2.1 ≠ (T b).2.1) ∧ (∀ w ∈ u_ws C T N, w ∈ am_B) ∧ Cond.instantiable C N ∈ am_B ∧ Cond.initialized C ∈ am_B ∧ ∀ k, k < N → am_ty cn k ≠ .float ∧ am_ty cn k ≠ .double
/-- what is checked of the tables, once -/
def am_T : Prop := (∀ (cn : Nat) (C : String) (T : u_T) (N : Nat), vwCl[cn]? = some (C, T, N) → am_clsF C T N cn)
  ∧ (∀ w ∈ ([.arrayClass .int, .arrayClass .long, .arrayClass .byte, .arrayClass .boolean, .instanceMethod objectInit, .code objectInit ⟨#[0xb1]⟩ 1 none, .native arraycopyName, .static arraycopyName, .initialized "java/lang/System", .initialized "java/lang/Math", .static Lib.Math.max.name, .code Lib.Math.max.name Lib.Math.max.code 2 (some .int), .static Lib.Math.min.name, .code Lib.Math.min.name Lib.Math.min.code 2 (some .int), .static Lib.Math.abs.name, .code Lib.Math.abs.name Lib.Math.abs.code 1 (some .int), .static Lib.MathLoose.max_long.x, .code Lib.MathLoose.max_long.x Lib.MathLoose.max_long.code 4 (some .long), .static Lib.MathLoose.min_long.x, .code Lib.MathLoose.min_long.x Lib.MathLoose.min_long.code 4 (some .long)] : List Cond), w ∈ am_B)
/-- a method's code stands in the tables -/
def am_gdc (j : Nat) : Bool := !decide (j = 264) && match lw_tbl[(am_row j).2.2.2.1]? with
  | some (.code y b n rt) => decide (y = am_y j ∧ n = am_ml j ∧ rt = am_rt j) && goodWord (.code y b n rt)
  | _ => false
theorem am_gdc_in {j : Nat} (h : am_gdc j = true) : Cond.code (am_y j) (am_by j) (am_ml j) (am_rt j) ∈ am_B := by
  unfold am_gdc at h
  rw [Bool.and_eq_true] at h
  obtain ⟨h0, h⟩ := h
  have h0 : ¬ j = 264 := by simpa using h0
  split at h
  · rename_i y b n rt hl
    rw [Bool.and_eq_true] at h
    obtain ⟨rfl, rfl, rfl⟩ := of_decide_eq_true h.1
    have e : am_by j = b := by
      unfold am_by
      rw [if_neg h0, hl]
    rw [e]
    exact List.mem_filter.mpr ⟨List.mem_of_getElem? hl, h.2⟩
  · cases h
/-- the static facts of a method -/
def am_mok (j : Nat) : Bool := match (am_row j).2.2.2 with
  | (ic, ik, isl, ii) => am_gdc j && (if am_kd j = 1 then am_gd ik (.static (am_y j)) else am_gd ik (.instanceMethod (am_y j))) && (!(am_kd j == 0) || am_gd isl (.selects (am_y j).cls (am_y j) (am_y j))) && am_gd ii (.initialized (am_y j).cls)
    && decide ((am_y j).cls ≠ "java/lang/invoke/MethodHandle" ∧ (am_y j).cls ≠ "java/lang/invoke/VarHandle" ∧ (parseMethodDescriptor (am_y j).desc).map (fun d => d.parameters.length) = some (am_np j)) && decide (am_ml j ≤ 30) && plainName (am_y j).cls && (!(am_kd j == 2) || decide ((am_y j).name = "<init>" ∧ am_rt j = none))
    && (!decide (am_rc j < 13) || decide ((vwCl[am_rc j]?).map (fun q => q.1) = some (am_y j).cls)) && (!(am_rc j == 100) || decide ((am_y j).cls = "java/lang/String"))
def am_T2 : Prop := (∀ j, j < 265 → am_kd j < 3 → am_mok j = true) ∧ ∀ (k pc : Nat) (q : Instr × Nat × Nat × Nat), am_at k pc = some q → am_ok k (pc, q) = true
