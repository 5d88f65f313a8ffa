/-! ===== rows in the order of their numbers ===== -/
def avl (n f : Nat) : List Nat := (List.range n).filter (fun i => !f.testBit i)
def PS (n : Nat) : Nat → Nat → List (List Nat)
  | 0, _ => [[]]
  | k + 1, f => (avl n f).flatMap (fun i => (PS n k (f ||| 2 ^ i)).map (fun l => i :: l))
def gtL (l : List Nat) (i : Nat) : Nat := l.getD i 0
def fIx (p : Nat → Nat) : Nat → Nat
  | 0 => 0
  | k + 1 => if p (k + 1) < p k then fIx p k else k + 1
def fJx (p : Nat → Nat) (x : Nat) : Nat → Nat
  | 0 => 0
  | j + 1 => if p (j + 1) < x then fJx p x j else j + 1
def swp (p : Nat → Nat) (a b : Nat) : Nat → Nat := fun k => if k = b then p a else if k = a then p b else p k
def rvx : Nat → (Nat → Nat) → Nat → Nat → Nat → Nat
  | 0, q, _, _ => q
  | t + 1, q, a, b => if a < b then rvx t (swp q a b) (a + 1) (b - 1) else q
def nxq (n : Nat) (p : Nat → Nat) : Nat → Nat := rvx n (swp p (fIx p (n - 1) - 1) (fJx p (p (fIx p (n - 1) - 1)) (n - 1))) (fIx p (n - 1)) (n - 1)
def inR (n : Nat) (l : List Nat) : Bool := (List.range n).all (fun i => decide (gtL l i < n))
def chn (n : Nat) : List (List Nat) → Bool
  | [] => false
  | l :: t => inR n l && (match t with
    | [] => decide (fIx (gtL l) (n - 1) = 0)
    | l' :: _ => decide (fIx (gtL l) (n - 1) ≠ 0) && (List.range n).all (fun i => decide (nxq n (gtL l) i = gtL l' i)) && chn n t)
set_option maxRecDepth 100000 in
theorem chn_all : ∀ n, n < 7 → 0 < n → chn n (PS n n 0) = true := by decide +kernel
set_option maxRecDepth 100000 in
theorem ps_head : ∀ n, n < 7 → ∃ t, PS n n 0 = List.range n :: t := by
  have h : ∀ n, n < 7 → (PS n n 0).head? = some (List.range n) := by decide +kernel
  intro n hn
  have := h n hn
  cases e : PS n n 0 with
  | nil => rw [e] at this; cases this
  | cons l t =>
    rw [e] at this
    cases this
    exact ⟨t, rfl⟩
theorem chn_1 {n : Nat} {l : List Nat} {t : List (List Nat)} (h : chn n (l :: t) = true) : ∀ i, i < n → gtL l i < n := by
  unfold chn at h
  rw [Bool.and_eq_true] at h
  intro i hi
  exact of_decide_eq_true (List.all_eq_true.mp h.1 i (List.mem_range.mpr hi))
theorem chn_last {n : Nat} {l : List Nat} (h : chn n [l] = true) : fIx (gtL l) (n - 1) = 0 := by
  unfold chn at h
  rw [Bool.and_eq_true] at h
  exact of_decide_eq_true h.2
theorem chn_more {n : Nat} {l l' : List Nat} {t : List (List Nat)} (h : chn n (l :: l' :: t) = true) : fIx (gtL l) (n - 1) ≠ 0 ∧ (∀ i, i < n → nxq n (gtL l) i = gtL l' i) ∧ chn n (l' :: t) = true := by
  rw [chn, Bool.and_eq_true] at h
  have h2 := h.2
  rw [Bool.and_eq_true, Bool.and_eq_true] at h2
  exact ⟨of_decide_eq_true h2.1.1, fun i hi => of_decide_eq_true (List.all_eq_true.mp h2.1.2 i (List.mem_range.mpr hi)), h2.2⟩
/-! the first good row, found step by step -/
def gdr (step : Nat → Int → Nat → Option Int) : List Nat → Nat → Int → Bool
  | [], _, _ => true
  | i :: l, f, z => match step f z i with
    | none => false
    | some z' => gdr step l (f ||| 2 ^ i) z'
def SRc (step : Nat → Int → Nat → Option Int) (n : Nat) : Nat → Nat → Int → Option (List Nat)
  | 0, _, _ => some []
  | k + 1, f, z => (avl n f).findSome? (fun i => match step f z i with
    | none => none
    | some z' => (SRc step n k (f ||| 2 ^ i) z').map (fun l => i :: l))
theorem find_SR {step : Nat → Int → Nat → Option Int} {n : Nat} : ∀ (k f : Nat) (z : Int), (PS n k f).find? (fun l => gdr step l f z) = SRc step n k f z := by
  intro k
  induction k with
  | zero => intro f z; rfl
  | succ k ih =>
    intro f z
    show ((avl n f).flatMap (fun i => (PS n k (f ||| 2 ^ i)).map (fun l => i :: l))).find? (fun l => gdr step l f z) = _
    rw [List.find?_flatMap]
    show _ = (avl n f).findSome? _
    congr 1
    funext i
    rw [List.find?_map]
    cases hs : step f z i with
    | none =>
      dsimp only
      have : ((fun l => gdr step l f z) ∘ fun l => i :: l) = fun _ => false := by
        funext l
        show gdr step (i :: l) f z = false
        unfold gdr
        rw [hs]
      rw [this]
      simp
    | some z' =>
      dsimp only
      have : ((fun l => gdr step l f z) ∘ fun l => i :: l) = fun l => gdr step l (f ||| 2 ^ i) z' := by
        funext l
        show gdr step (i :: l) f z = _
        rw [gdr, hs]
      rw [this, ih]
/-! the reference's row -/
def MO (n : Nat) (m : Nat → Nat) : Prop := (∀ i j, i < j → j < n → m i < m j) ∧ ∀ i, i < n → m i ≤ 11
theorem MO_lt {n : Nat} {m : Nat → Nat} (h : MO n m) {a b : Nat} (ha : a < n) (hb : b < n) : m a < m b ↔ a < b := by
  constructor
  · intro q
    rcases Nat.lt_trichotomy a b with x | x | x
    · exact x
    · subst x; omega
    · have := h.1 b a x ha; omega
  · exact fun q => h.1 a b q hb
def RW (n : Nat) (m p : Nat → Nat) (I : Nat → Nat → Int32) : Prop := ∀ i, i < n → p i < n ∧ I 306 i = iZ (m (p i) : Nat)
section PERM
variable {E : Nat × (Nat → Int32)} {d : Nat} {I I0 I1 : Nat → Nat → Int32} {J J0 J1 : Nat → Nat → Int64} {A A1 : Nat → Option Nat} {Q : Option Value → am_M → Prop} {M : am_M}
theorem m_swaps {n a b : Nat} {m p : Nat → Nat} {x y : Int32} (hn : n ≤ 12) (hr : RW n m p I) (ha : a < n) (hb : b < n) (ex : x = iZ a) (ey : y = iZ b) (hQ : ∀ I', RW n m (swp p a b) I' → (∀ c, c ≠ 306 → I' c = I c) → Q none (mm I' J A)) : wpC E d 234 [.ref 265, .int x, .int y] (mm I J A) Q := by
  subst ex; subst ey
  have ca : (iZ (a : Int)).toNatClampNeg = a := z_cln (by omega)
  have cb : (iZ (b : Int)).toNatClampNeg = b := z_cln (by omega)
  have ia : vp_in (iZ (a : Int)) 12 := z_in (by omega) (by omega) (by omega)
  have ib : vp_in (iZ (b : Int)) 12 := z_in (by omega) (by omega) (by omega)
  have H := hQ (setI (setI I 306 (iZ (a : Int)).toNatClampNeg (I 306 (iZ (b : Int)).toNatClampNeg)) 306 (iZ (b : Int)).toNatClampNeg (I 306 (iZ (a : Int)).toNatClampNeg)) (fun i hi => ?_) (fun c hc => ?_)
  · exact wc (hs := []) 30 (by decide) (And.intro ia (And.intro ib (And.intro ia (And.intro ib H))))
  · rw [setI_at, setI_at, ca, cb]
    unfold swp
    by_cases q : i = b
    · subst q
      rw [if_pos rfl, if_pos ⟨rfl, rfl⟩]
      exact hr a ha
    · have n1 : ¬ (306 = 306 ∧ i = b) := fun x => q x.2
      rw [if_neg q, if_neg n1]
      by_cases q2 : i = a
      · subst q2
        rw [if_pos rfl, if_pos ⟨rfl, rfl⟩]
        exact hr b hb
      · have n2 : ¬ (306 = 306 ∧ i = a) := fun x => q2 x.2
        rw [if_neg q2, if_neg n2]
        exact hr i hi
  · funext j
    rw [setI_at, if_neg (fun x => hc x.1), setI_at, if_neg (fun x => hc x.1)]
theorem fIx_le {p : Nat → Nat} : ∀ k, fIx p k ≤ k ∧ (fIx p k ≠ 0 → ¬ p (fIx p k) < p (fIx p k - 1)) := by
  intro k
  induction k with
  | zero => exact ⟨Nat.le_refl 0, fun h => absurd rfl h⟩
  | succ k ih =>
    unfold fIx
    split
    · exact ⟨by omega, ih.2⟩
    · rename_i q
      exact ⟨Nat.le_refl _, fun _ => q⟩
theorem m_isNext {n : Nat} {m p : Nat → Nat} {x : Int32} (hn : 0 < n ∧ n ≤ 6) (hm : MO n m) (hr : RW n m p I) (ex : x = iZ n) (h0 : fIx p (n - 1) = 0 → Q (some (.int 0)) (mm I J A)) (h1 : fIx p (n - 1) ≠ 0 → ∀ I', RW n m (nxq n p) I' → (∀ c, c ≠ 306 → I' c = I c) → Q (some (.int 1)) (mm I' J A)) : wpC E (d + 1) 233 [.ref 265, .int x] (mm I J A) Q := by
  subst ex
  have cl : ∀ i : Nat, i < 12 → (iZ (i : Int)).toNatClampNeg = i := fun i hi => z_cln (by omega)
  have cin : ∀ i : Nat, i < 12 → vp_in (iZ (i : Int)) 12 := fun i hi => z_in (by omega) (by omega) (by omega)
  have bm : ∀ i, i < n → m (p i) ≤ 11 := fun i hi => hm.2 _ (hr i hi).1
  -- the pieces behind i
  have T : fIx p (n - 1) ≠ 0 → wp E (d + 1) 233 37 [(0, .ref 265), (1, .int (iZ n)), (2, .int (iZ ((fIx p (n - 1) - 1 : Nat) : Int)))] [] (mm I J A) Q := fun h => by
    have fk := fIx_le (p := p) (n - 1)
    have H := h1 h
    unfold nxq at H
    generalize fIx p (n - 1) = k at H fk h
    obtain ⟨i, rfl⟩ : ∃ i, k = i + 1 := ⟨k - 1, by omega⟩
    have fk2 := fk.2 h
    simp only [Nat.add_sub_cancel] at H fk2 ⊢
    have hi : i + 1 ≤ n - 1 := fk.1
    have ji : ∀ j, i + 1 ≤ j → i + 1 ≤ fJx p (p i) j ∧ fJx p (p i) j ≤ j := by
      intro j
      induction j with
      | zero => intro q; omega
      | succ j ih =>
        intro q
        unfold fJx
        split
        · by_cases q2 : i = j
          · subst q2
            rename_i q3
            exact absurd q3 fk2
          · have := ih (by omega)
            omega
        · omega
    have rv : ∀ (t a b : Nat) (q : Nat → Nat) (I' : Nat → Nat → Int32) (x4 x5 : Int32), b < n → a ≤ n → b < a + t → RW n m q I' → (∀ c, c ≠ 306 → I' c = I c) → (∀ I'', RW n m (rvx t q a b) I'' → (∀ c, c ≠ 306 → I'' c = I c) → Q (some (.int 1)) (mm I'' J A)) → x4 = iZ a → x5 = iZ b → ∀ x3, wp E (d + 1) 233 78 [(0, .ref 265), (1, .int (iZ n)), (2, .int (iZ i)), (3, .int x3), (4, .int x4), (5, .int x5)] [] (mm I' J A) Q := by
      intro t
      induction t with
      | zero =>
        intro a b q I' x4 x5 hb ha hab hq hc hQ e4 e5 x3
        subst e4; subst e5
        exact wf (hs := [78]) 20 78 (by decide) (wt (by ((try simp (disch := omega) only [z_i8, z_i16, z_of, z_ofN, z_lofN, z_0, z_1, z_m1, z_l0, z_l1, iZ_add, iZ_sub, iZ_mul, iZ_neg, lZ_add, lZ_sub, lZ_mul, lZ_neg, z_div, z_ldiv, z_l, z_i, z_lt, z_le, z_eq, z_llt, z_lle, z_leq, z_cgt, z_cge, z_clt, z_cle, z_ceq, z_cl, z_nat, Int.toNat_natCast, mm_I, mm_J, z_cln, z_abs, z_max, z_min, z_lmax, z_lmin, z_sin, Int.cast_ofNat_Int, uI_I, uI_J, uL_I, uL_J, uA_I, uA_J, sI_eq, sI_ne, sL_eq, sL_ne, up_eq, up_ne, uL_eq, uL_ne, z_toInt, Int.reduceToNat]) <;> omega)) (And.intro rfl (hQ I' hq hc)))
      | succ t ih =>
        intro a b q I' x4 x5 hb ha hab hq hc hQ e4 e5 x3
        subst e4; subst e5
        by_cases ab : a < b
        · unfold rvx at hQ
          rw [if_pos ab] at hQ
          refine wf (hs := [78]) 40 78 (by decide) (wF (by ((try simp (disch := omega) only [z_i8, z_i16, z_of, z_ofN, z_lofN, z_0, z_1, z_m1, z_l0, z_l1, iZ_add, iZ_sub, iZ_mul, iZ_neg, lZ_add, lZ_sub, lZ_mul, lZ_neg, z_div, z_ldiv, z_l, z_i, z_lt, z_le, z_eq, z_llt, z_lle, z_leq, z_cgt, z_cge, z_clt, z_cle, z_ceq, z_cl, z_nat, Int.toNat_natCast, mm_I, mm_J, z_cln, z_abs, z_max, z_min, z_lmax, z_lmin, z_sin, Int.cast_ofNat_Int, uI_I, uI_J, uL_I, uL_J, uA_I, uA_J, sI_eq, sI_ne, sL_eq, sL_ne, up_eq, up_ne, uL_eq, uL_ne, z_toInt, Int.reduceToNat]) <;> omega)) (And.intro rfl (m_swaps (by omega) hq (by omega) hb rfl rfl (fun I2 hq2 hc2 => ?_))))
          refine wp_keys [0, 1, 2, 3, 4, 5] rfl rfl ?_
          exact ih (a + 1) (b - 1) _ I2 _ _ (by omega) (by omega) (by omega) hq2 (fun c h => (hc2 c h).trans (hc c h)) hQ (iZ_add a 1) ((iZ_add b (-1)).trans (by congr 1; omega)) x3
        · unfold rvx at hQ
          rw [if_neg ab] at hQ
          exact wf (hs := [78]) 20 78 (by decide) (wt (by ((try simp (disch := omega) only [z_i8, z_i16, z_of, z_ofN, z_lofN, z_0, z_1, z_m1, z_l0, z_l1, iZ_add, iZ_sub, iZ_mul, iZ_neg, lZ_add, lZ_sub, lZ_mul, lZ_neg, z_div, z_ldiv, z_l, z_i, z_lt, z_le, z_eq, z_llt, z_lle, z_leq, z_cgt, z_cge, z_clt, z_cle, z_ceq, z_cl, z_nat, Int.toNat_natCast, mm_I, mm_J, z_cln, z_abs, z_max, z_min, z_lmax, z_lmin, z_sin, Int.cast_ofNat_Int, uI_I, uI_J, uL_I, uL_J, uA_I, uA_J, sI_eq, sI_ne, sL_eq, sL_ne, up_eq, up_ne, uL_eq, uL_ne, z_toInt, Int.reduceToNat]) <;> omega)) (And.intro rfl (hQ I' hq hc)))
    have B : wp E (d + 1) 233 62 [(0, .ref 265), (1, .int (iZ n)), (2, .int (iZ i)), (3, .int (iZ ((fJx p (p i) (n - 1) : Nat) : Int)))] [] (mm I J A) Q := by
      have jj := ji (n - 1) hi
      refine wf (hs := [78]) 40 62 (by decide) (And.intro rfl (m_swaps (by omega) hr (by omega) (by omega) rfl rfl (fun I2 hq2 hc2 => ?_)))
      refine wp_keys [0, 1, 2, 3, 4, 5] rfl rfl ?_
      exact rv n (i + 1) (n - 1) _ I2 _ _ (by omega) (by omega) (by omega) hq2 hc2 H (iZ_add i 1) ((iZ_sub n 1).trans (by congr 1; omega)) _
    have jl : ∀ (j : Nat) (x3 : Int32), i + 1 ≤ j → j < n → fJx p (p i) j = fJx p (p i) (n - 1) → x3 = iZ j → wp E (d + 1) 233 41 [(0, .ref 265), (1, .int (iZ n)), (2, .int (iZ i)), (3, .int x3)] [] (mm I J A) Q := by
      intro j
      induction j with
      | zero => intro x3 q; omega
      | succ j ih =>
        intro x3 h1 h2 h3 e3
        subst e3
        have ej : I 306 (iZ ((j + 1 : Nat) : Int)).toNatClampNeg = iZ (m (p (j + 1)) : Nat) := by rw [cl (j + 1) (by omega)]; exact (hr (j + 1) h2).2
        have ei : I 306 (iZ (i : Int)).toNatClampNeg = iZ (m (p i) : Nat) := by rw [cl i (by omega)]; exact (hr i (by omega)).2
        have bj := bm (j + 1) h2
        have bi := bm i (by omega)
        have lt := MO_lt hm (hr (j + 1) h2).1 (hr i (by omega)).1
        refine wf (hs := [41, 62]) 40 41 (by decide) (And.intro (cin (j + 1) (by omega)) (And.intro (cin i (by omega)) (And.intro (fun q => ?_) (fun q => ?_))))
        · have q : iZ (m (p i) : Nat) ≤ iZ (m (p (j + 1)) : Nat) := by rw [← ej, ← ei]; exact q
          simp (disch := omega) only [z_i8, z_i16, z_of, z_ofN, z_lofN, z_0, z_1, z_m1, z_l0, z_l1, iZ_add, iZ_sub, iZ_mul, iZ_neg, lZ_add, lZ_sub, lZ_mul, lZ_neg, z_div, z_ldiv, z_l, z_i, z_lt, z_le, z_eq, z_llt, z_lle, z_leq, z_cgt, z_cge, z_clt, z_cle, z_ceq, z_cl, z_nat, Int.toNat_natCast, mm_I, mm_J, z_cln, z_abs, z_max, z_min, z_lmax, z_lmin, z_sin, Int.cast_ofNat_Int, uI_I, uI_J, uL_I, uL_J, uA_I, uA_J, sI_eq, sI_ne, sL_eq, sL_ne, up_eq, up_ne, uL_eq, uL_ne, z_toInt, Int.reduceToNat] at q
          have ns : ¬ p (j + 1) < p i := fun x => by have := lt.mpr x; omega
          rw [fJx, if_neg ns] at h3
          have B2 := B
          rw [← h3] at B2
          exact B2
        · have q : ¬ iZ (m (p i) : Nat) ≤ iZ (m (p (j + 1)) : Nat) := by rw [← ej, ← ei]; exact q
          simp (disch := omega) only [z_i8, z_i16, z_of, z_ofN, z_lofN, z_0, z_1, z_m1, z_l0, z_l1, iZ_add, iZ_sub, iZ_mul, iZ_neg, lZ_add, lZ_sub, lZ_mul, lZ_neg, z_div, z_ldiv, z_l, z_i, z_lt, z_le, z_eq, z_llt, z_lle, z_leq, z_cgt, z_cge, z_clt, z_cle, z_ceq, z_cl, z_nat, Int.toNat_natCast, mm_I, mm_J, z_cln, z_abs, z_max, z_min, z_lmax, z_lmin, z_sin, Int.cast_ofNat_Int, uI_I, uI_J, uL_I, uL_J, uA_I, uA_J, sI_eq, sI_ne, sL_eq, sL_ne, up_eq, up_ne, uL_eq, uL_ne, z_toInt, Int.reduceToNat] at q
          have ys : p (j + 1) < p i := lt.mp (by omega)
          rw [fJx, if_pos ys] at h3
          by_cases q2 : i = j
          · subst q2
            exact absurd ys fk2
          refine wp_keys [0, 1, 2, 3] rfl rfl ?_
          exact ih _ (by omega) (by omega) h3 ((iZ_add ((j + 1 : Nat) : Int) (-1)).trans (by congr 1; omega))
    refine wf (hs := [41]) 20 37 (by decide) ?_
    refine wp_keys [0, 1, 2, 3] rfl rfl ?_
    exact jl (n - 1) _ hi (by omega) rfl ((iZ_sub n 1).trans (by congr 1; omega))
  have L : ∀ (k : Nat) (x2 : Int32), k < n → fIx p k = fIx p (n - 1) → x2 = iZ ((k : Int) - 1) → wp E (d + 1) 233 4 [(0, .ref 265), (1, .int (iZ n)), (2, .int x2)] [] (mm I J A) Q := by
    intro k
    induction k with
    | zero =>
      intro x2 h2 h3 e2
      subst e2
      have H := h0 h3.symm
      exact wf (hs := [4, 37]) 30 4 (by decide) (wt (by decide) (wF (by decide) (And.intro rfl H)))
    | succ k ih =>
      intro x2 h2 h3 e2
      have e2 : x2 = iZ (k : Int) := e2.trans (by congr 1; omega)
      subst e2
      have ek : I 306 (iZ (k : Int)).toNatClampNeg = iZ (m (p k) : Nat) := by rw [cl k (by omega)]; exact (hr k (by omega)).2
      have ek1 : I 306 (iZ (k : Int) + iZ 1).toNatClampNeg = iZ (m (p (k + 1)) : Nat) := by
        rw [iZ_add]
        have := cl (k + 1) (by omega)
        rw [Int.natCast_add] at this
        rw [show ((k : Int) + 1) = (k : Int) + ((1 : Nat) : Int) from rfl, this]
        exact (hr (k + 1) h2).2
      have b0 := bm k (by omega)
      have b1 := bm (k + 1) h2
      have lt := MO_lt hm (hr (k + 1) h2).1 (hr k (by omega)).1
      have i1 : vp_in (iZ (k : Int) + iZ 1) 12 := by rw [iZ_add]; exact z_in (by omega) (by omega) (by omega)
      refine wf (hs := [4, 37]) 40 4 (by decide) (wF (by ((try simp (disch := omega) only [z_i8, z_i16, z_of, z_ofN, z_lofN, z_0, z_1, z_m1, z_l0, z_l1, iZ_add, iZ_sub, iZ_mul, iZ_neg, lZ_add, lZ_sub, lZ_mul, lZ_neg, z_div, z_ldiv, z_l, z_i, z_lt, z_le, z_eq, z_llt, z_lle, z_leq, z_cgt, z_cge, z_clt, z_cle, z_ceq, z_cl, z_nat, Int.toNat_natCast, mm_I, mm_J, z_cln, z_abs, z_max, z_min, z_lmax, z_lmin, z_sin, Int.cast_ofNat_Int, uI_I, uI_J, uL_I, uL_J, uA_I, uA_J, sI_eq, sI_ne, sL_eq, sL_ne, up_eq, up_ne, uL_eq, uL_ne, z_toInt, Int.reduceToNat]) <;> omega)) (And.intro (cin k (by omega)) (And.intro i1 (And.intro (fun q => ?_) (fun q => ?_)))))
      · have q : iZ (m (p k) : Nat) ≤ iZ (m (p (k + 1)) : Nat) := by rw [← ek, ← ek1]; exact q
        simp (disch := omega) only [z_i8, z_i16, z_of, z_ofN, z_lofN, z_0, z_1, z_m1, z_l0, z_l1, iZ_add, iZ_sub, iZ_mul, iZ_neg, lZ_add, lZ_sub, lZ_mul, lZ_neg, z_div, z_ldiv, z_l, z_i, z_lt, z_le, z_eq, z_llt, z_lle, z_leq, z_cgt, z_cge, z_clt, z_cle, z_ceq, z_cl, z_nat, Int.toNat_natCast, mm_I, mm_J, z_cln, z_abs, z_max, z_min, z_lmax, z_lmin, z_sin, Int.cast_ofNat_Int, uI_I, uI_J, uL_I, uL_J, uA_I, uA_J, sI_eq, sI_ne, sL_eq, sL_ne, up_eq, up_ne, uL_eq, uL_ne, z_toInt, Int.reduceToNat] at q
        have ns : ¬ p (k + 1) < p k := fun x => by have := lt.mpr x; omega
        rw [fIx, if_neg ns] at h3
        have TT := T (by omega)
        rw [← h3] at TT
        refine wt ?_ TT
        show iZ 0 ≤ iZ (k : Int)
        ((try simp (disch := omega) only [z_i8, z_i16, z_of, z_ofN, z_lofN, z_0, z_1, z_m1, z_l0, z_l1, iZ_add, iZ_sub, iZ_mul, iZ_neg, lZ_add, lZ_sub, lZ_mul, lZ_neg, z_div, z_ldiv, z_l, z_i, z_lt, z_le, z_eq, z_llt, z_lle, z_leq, z_cgt, z_cge, z_clt, z_cle, z_ceq, z_cl, z_nat, Int.toNat_natCast, mm_I, mm_J, z_cln, z_abs, z_max, z_min, z_lmax, z_lmin, z_sin, Int.cast_ofNat_Int, uI_I, uI_J, uL_I, uL_J, uA_I, uA_J, sI_eq, sI_ne, sL_eq, sL_ne, up_eq, up_ne, uL_eq, uL_ne, z_toInt, Int.reduceToNat]) <;> omega)
      · have q : ¬ iZ (m (p k) : Nat) ≤ iZ (m (p (k + 1)) : Nat) := by rw [← ek, ← ek1]; exact q
        simp (disch := omega) only [z_i8, z_i16, z_of, z_ofN, z_lofN, z_0, z_1, z_m1, z_l0, z_l1, iZ_add, iZ_sub, iZ_mul, iZ_neg, lZ_add, lZ_sub, lZ_mul, lZ_neg, z_div, z_ldiv, z_l, z_i, z_lt, z_le, z_eq, z_llt, z_lle, z_leq, z_cgt, z_cge, z_clt, z_cle, z_ceq, z_cl, z_nat, Int.toNat_natCast, mm_I, mm_J, z_cln, z_abs, z_max, z_min, z_lmax, z_lmin, z_sin, Int.cast_ofNat_Int, uI_I, uI_J, uL_I, uL_J, uA_I, uA_J, sI_eq, sI_ne, sL_eq, sL_ne, up_eq, up_ne, uL_eq, uL_ne, z_toInt, Int.reduceToNat] at q
        have ys : p (k + 1) < p k := lt.mp (by omega)
        rw [fIx, if_pos ys] at h3
        refine wp_keys [0, 1, 2] rfl rfl ?_
        exact ih _ (by omega) h3 iZ_m1
  refine wc (hs := [4]) 20 (by decide) ?_
  refine wp_keys [0, 1, 2] rfl rfl ?_
  exact L (n - 1) _ (by omega) rfl ((iZ_sub n 2).trans (by congr 1; omega))
end PERM
