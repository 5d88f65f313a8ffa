/-! ===== order told to both ===== -/
def bcS (x k : Int32) : Int32 := (x.toUInt32 >>> (k.toUInt32 &&& Int32.toUInt32 31)).toInt32
def bcE (x : Int32) : Int32 :=
  let a := x - (bcS x 1 &&& 1431655765)
  let b := (a &&& 858993459) + (bcS a 2 &&& 858993459)
  let c := (b + bcS b 4) &&& 252645135
  let e := c + bcS c 8
  let f := e + bcS e 16
  f &&& 63
set_option maxRecDepth 100000 in
theorem bc_chk : (List.range 64).all (fun a => (List.range 64).all (fun b => decide (bcE (nI (64 * a + b)) = nI (mem (64 * a + b) 12).length))) = true := by decide +kernel
theorem bc_ok {x : Nat} (h : x < 4096) : bcE (iZ (x : Int)) = iZ ((mem x 12).length : Nat) := by
  have h1 := of_decide_eq_true (List.all_eq_true.mp (List.all_eq_true.mp bc_chk (x / 64) (List.mem_range.mpr (by omega))) (x % 64) (List.mem_range.mpr (by omega)))
  rw [show 64 * (x / 64) + x % 64 = x by omega] at h1
  rw [iZ_nat, iZ_nat]; exact h1
section ORD5
variable {E : Nat × (Nat → Int32)} {d : Nat} {I I0 I1 : Nat → Nat → Int32} {J J0 J1 : Nat → Nat → Int64} {A A1 : Nat → Option Nat} {Q : Option Value → am_M → Prop} {M : am_M} {v w : am_V}
theorem c_bitCount {x : Nat} {y : Int32} (h : x < 4096) (ey : y = iZ x) (hQ : Q (some (.int (iZ ((mem x 12).length : Nat)))) M) : wpC E d 254 [.int y] M Q := by
  subst ey
  refine wc (hs := []) 60 (by decide) (q_i hQ ?_)
  show bcE (iZ (x : Int)) = _
  exact bc_ok h
theorem c_fillL (hQ : ∀ J', (∀ j, j < 128 → J' 253 j = lZ 0) → (∀ a, a ≠ 253 → J' a = J a) → Q none (mm I J' A)) : wpC E d 261 [.ref 253, .long (lZ 0)] (mm I J A) Q := by
  have L := lpU (σ := (Nat → Nat → Int64) × Int32) (fun _ s => wp E d 261 6 [(0, .ref 253), (1, .long (lZ 0)), (3, .int s.2), (4, .int (iZ 128))] [] (mm I s.1 A) Q) (fun i s => (∀ j, j < i → s.1 253 j = lZ 0) ∧ (∀ a, a ≠ 253 → s.1 a = J a) ∧ s.2 = iZ i) 128 ?_ ?_
  · refine wc (hs := [6]) 20 (by decide) ?_
    refine wp_keys [0, 1, 3, 4] rfl rfl ?_
    exact L 0 (J, _) (by omega) ⟨fun j hj => by omega, fun _ _ => rfl, rfl⟩
  · rintro ⟨J', y⟩ ⟨c1, c2, ey⟩
    dsimp only at c1 c2 ey
    subst ey
    have c0 : iZ 128 ≤ iZ (128 : Nat) := by decide
    exact wf (hs := [6]) 20 6 (by decide) (wt c0 (hQ J' c1 c2))
  · rintro i ⟨J', y⟩ hi ⟨c1, c2, ey⟩ ih
    dsimp only at c1 c2 ey
    subst ey
    have cl : (iZ (i : Int)).toNatClampNeg = i := z_cln (by omega)
    refine wf (hs := [6]) 30 6 (by decide) (wF (by ((try simp (disch := omega) only [z_i8, z_i16, z_of, z_ofN, z_lofN, z_0, z_1, z_m1, z_l0, z_l1, iZ_add, iZ_sub, iZ_mul, iZ_neg, lZ_add, lZ_sub, lZ_mul, lZ_neg, z_div, z_ldiv, z_l, z_i, z_lt, z_le, z_eq, z_llt, z_lle, z_leq, z_cgt, z_cge, z_clt, z_cle, z_ceq, z_cl, z_nat, Int.toNat_natCast, mm_I, mm_J, z_cln, z_abs, z_max, z_min, z_lmax, z_lmin, z_sin, Int.cast_ofNat_Int, uI_I, uI_J, uL_I, uL_J, uA_I, uA_J, sI_eq, sI_ne, sL_eq, sL_ne, up_eq, up_ne, uL_eq, uL_ne, z_toInt, Int.reduceToNat]) <;> omega)) (And.intro (z_in (by omega) (by omega) (by omega)) ?_))
    refine wp_keys [0, 1, 3, 4] rfl rfl ?_
    refine ih (setL J' 253 (iZ (i : Int)).toNatClampNeg (lZ 0), _) ⟨fun j hj => ?_, fun a ha => ?_, iZ_add i 1⟩
    · dsimp only
      rw [setL_at, cl]
      by_cases q : j = i
      · rw [if_pos ⟨rfl, q⟩]
      · rw [if_neg (fun x => q x.2)]
        exact c1 j (by omega)
    · dsimp only
      rw [← c2 a ha]
      funext j
      rw [setL_at, if_neg (fun x => ha x.1)]
theorem c_find {x n : Nat} {b : Int} {x2 x3 : Int32} (hR : RS I J 1 v) (hW : Wf v) (hH : WfH v) (hx : x < 2 ^ nP v) (hn : n = (mem x 12).length) (h6 : 0 < n ∧ n ≤ 6) (hb : 1 ≤ b ∧ b ≤ 59) (e2 : x2 = iZ x) (e3 : x3 = iZ b) (h1 : ∀ l I' J' A', SRc (stO v x b) n n 0 (v 266 7) = some l → F3 1 I J I' J' → RS I' J' 1 v → (∀ t, t < n → I' 252 t = iZ (mbr x (gtL l t) : Nat)) → Q (some (.int 1)) (mm I' J' A')) (h0 : ∀ I' J' A', SRc (stO v x b) n n 0 (v 266 7) = none → F3 1 I J I' J' → RS I' J' 1 v → Q (some (.int 0)) (mm I' J' A')) : wpC E (d + n + 6) 25 [.ref 246, .ref 1, .int x2, .int x3] (mm I J A) Q := by
  subst e2; subst e3
  have h12 := nP12 hW
  have hx12 : x < 4096 := by
    have : 2 ^ nP v ≤ 2 ^ 12 := Nat.pow_le_pow_right (by omega) h12
    omega
  have b7 := hW.1.2.2.2.2.2.2.1
  -- the search
  have S : ∀ (I' : Nat → Nat → Int32) (J' : Nat → Nat → Int64) (x4 : Int32), OE I J x n b I' J' → RS I' J' 1 v → (∀ j, j < 128 → J' 253 j = lZ 0) → wp E (d + n + 6) 25 74 [(0, .ref 246), (1, .ref 1), (2, .int (iZ x)), (3, .int (iZ b)), (4, .int x4)] [] (mm I' J' A) Q := fun I' J' x4 hO hR' hJ => by
    have e7 : I' 1 7 = iZ (v 266 7) := hR'.1.2.2.2.2.2.2.2.1
    have av := av_0 n (by omega)
    have pw := pw6 (n := n) (by omega)
    have ce := c_ordE (E := E) (d := d) (I0 := I) (J0 := J) hW hH hx hn h6 hb n 0 0 (v 266 7) I' J' A (iZ (0 : Nat)) (I' 1 7) (iZ (0 : Nat)) (fun r M => Q r M ∧ (r = some (.int 0) ∨ r = some (.int 1))) av (by omega) (by omega) hO (by rw [fl_0]; exact hR') (fun g l hg hl hw => by
      rw [hJ _ (by split <;> omega), wbt_0] at hw; cases hw) b7 rfl e7 rfl (fun l I2 J2 A2 q1 q2 q3 q4 q5 q6 => ⟨h1 l I2 J2 A2 q1 q2.1 (by rw [fl_0] at q3; exact q3) (fun t ht => by have := q6 t ht; rw [Nat.zero_add] at this; exact this), Or.inr rfl⟩) (fun I2 J2 A2 q1 q2 q3 q4 q5 => ⟨h0 I2 J2 A2 q1 q2.1 (by rw [fl_0] at q3; exact q3), Or.inl rfl⟩)
    refine wf (hs := []) 30 74 (by decide) (And.intro rfl (wpC_mono ce (fun r M hh => ?_)))
    obtain ⟨hq, rfl | rfl⟩ := hh
    · exact And.intro rfl hq
    · exact And.intro rfl hq
  refine wc (hs := [21]) 40 (by decide) (And.intro rfl (c_fillL (fun J1 hJ1 hJ2 => ?_)))
  have L : ∀ (m i : Nat) (I' : Nat → Nat → Int32) (x4 : Int32), i + m = 12 → (∀ a, a ≠ 246 → a ≠ 251 → I' a = I a) → I' 246 2 = iZ ((mem x i).length : Nat) → I' 246 3 = iZ b → (∀ j, j < (mem x i).length → I' 251 j = iZ (gtL (mem x i) j : Nat)) → x4 = iZ i → wp E (d + n + 6) 25 21 [(0, .ref 246), (1, .ref 1), (2, .int (iZ x)), (3, .int (iZ b)), (4, .int x4)] [] (mm I' J1 A) Q := by
    intro m
    have out : ∀ (i : Nat) (I' : Nat → Nat → Int32), mem x i = mem x 12 → (∀ a, a ≠ 246 → a ≠ 251 → I' a = I a) → I' 246 2 = iZ ((mem x i).length : Nat) → I' 246 3 = iZ b → (∀ j, j < (mem x i).length → I' 251 j = iZ (gtL (mem x i) j : Nat)) → ∀ x4, wp E (d + n + 6) 25 74 [(0, .ref 246), (1, .ref 1), (2, .int (iZ x)), (3, .int (iZ b)), (4, .int x4)] [] (mm I' J1 A) Q := fun i I' he c1 c2 c3 c4 x4 => by
      rw [he] at c2 c4
      rw [← hn] at c2 c4
      exact S I' J1 x4 ⟨fun a q1 q2 => ⟨c1 a (by omega) (by omega), hJ2 a (by omega)⟩, c2, c3, c4⟩ (RS_eq (fun a q1 q2 => ⟨c1 a (by omega) (by omega), hJ2 a (by omega)⟩) hR) hJ1
    induction m with
    | zero =>
      intro i I' x4 hi c1 c2 c3 c4 e4
      have : i = 12 := by omega
      subst this
      subst e4
      exact wf (hs := [21, 74]) 20 21 (by decide) (wt (by decide) (out 12 I' rfl c1 c2 c3 c4 _))
    | succ m ih =>
      intro i I' x4 hi c1 c2 c3 c4 e4
      subst e4
      have mb := (mem_bd (x := x) i).1
      obtain ⟨l, hl⟩ := mem_pre (x := x) (p := i) 12 (by omega)
      have ll : (mem x 12).length = (mem x i).length + l.length := by rw [hl, List.length_append]
      by_cases q : (mem x i).length < 6
      · have n6 : ¬ iZ 6 ≤ I' 246 2 := by rw [c2]; ((try simp (disch := omega) only [z_i8, z_i16, z_of, z_ofN, z_lofN, z_0, z_1, z_m1, z_l0, z_l1, iZ_add, iZ_sub, iZ_mul, iZ_neg, lZ_add, lZ_sub, lZ_mul, lZ_neg, z_div, z_ldiv, z_l, z_i, z_lt, z_le, z_eq, z_llt, z_lle, z_leq, z_cgt, z_cge, z_clt, z_cle, z_ceq, z_cl, z_nat, Int.toNat_natCast, mm_I, mm_J, z_cln, z_abs, z_max, z_min, z_lmax, z_lmin, z_sin, Int.cast_ofNat_Int, uI_I, uI_J, uL_I, uL_J, uA_I, uA_J, sI_eq, sI_ne, sL_eq, sL_ne, up_eq, up_ne, uL_eq, uL_ne, z_toInt, Int.reduceToNat]) <;> omega)
        have bb := bi_bit (f := x) (i := i) (by omega) (by omega)
        have ms := mem_succ (x := x) (p := i)
        cases hbt : x.testBit i with
        | true =>
          rw [hbt] at bb ms
          rw [if_pos rfl] at ms
          have cl : (I' 246 2).toNatClampNeg = (mem x i).length := by rw [c2]; exact z_cln (by omega)
          have hin : vp_in (I' 246 2) 6 := by rw [c2]; exact z_in (by omega) (by omega) (by omega)
          refine wf (hs := [21]) 60 21 (by decide) (wF (by ((try simp (disch := omega) only [z_i8, z_i16, z_of, z_ofN, z_lofN, z_0, z_1, z_m1, z_l0, z_l1, iZ_add, iZ_sub, iZ_mul, iZ_neg, lZ_add, lZ_sub, lZ_mul, lZ_neg, z_div, z_ldiv, z_l, z_i, z_lt, z_le, z_eq, z_llt, z_lle, z_leq, z_cgt, z_cge, z_clt, z_cle, z_ceq, z_cl, z_nat, Int.toNat_natCast, mm_I, mm_J, z_cln, z_abs, z_max, z_min, z_lmax, z_lmin, z_sin, Int.cast_ofNat_Int, uI_I, uI_J, uL_I, uL_J, uA_I, uA_J, sI_eq, sI_ne, sL_eq, sL_ne, up_eq, up_ne, uL_eq, uL_ne, z_toInt, Int.reduceToNat]) <;> omega)) (wF n6 (wt bb (And.intro hin ?_))))
          refine wp_keys [0, 1, 2, 3, 4] rfl rfl ?_
          refine ih (i + 1) (setI (setI I' 251 (I' 246 2).toNatClampNeg (iZ i)) 246 2 (setI I' 251 (I' 246 2).toNatClampNeg (iZ i) 246 2 + iZ 1)) _ (by omega) (fun a ha hb2 => ?_) ?_ ?_ (fun j hj => ?_) (iZ_add i 1)
          · rw [← c1 a ha hb2]
            funext j
            rw [setI_at, if_neg (fun q => ha q.1), setI_at, if_neg (fun q => hb2 q.1)]
          · rw [setI_at, if_pos ⟨rfl, rfl⟩, setI_at, if_neg (by omega), c2, ms, List.length_append]
            exact iZ_add _ 1
          · rw [setI_at, if_neg (by omega), setI_at, if_neg (by omega)]; exact c3
          · rw [ms] at hj ⊢
            rw [List.length_append] at hj
            have l1 : [i].length = 1 := rfl
            rw [l1] at hj
            rw [setI_at, if_neg (by omega), setI_at, cl]
            by_cases q3 : j = (mem x i).length
            · rw [if_pos ⟨rfl, q3⟩, q3, gtL_last]
            · rw [if_neg (fun x => q3 x.2), gtL_app (by omega)]
              exact c4 j (by omega)
        | false =>
          rw [hbt] at bb ms
          rw [if_neg (by decide)] at ms
          have nb : ¬ (iZ (x : Int) >>> (iZ (i : Int) &&& 31)) &&& iZ 1 = iZ 1 := by rw [bb]; decide
          refine wf (hs := [21]) 60 21 (by decide) (wF (by ((try simp (disch := omega) only [z_i8, z_i16, z_of, z_ofN, z_lofN, z_0, z_1, z_m1, z_l0, z_l1, iZ_add, iZ_sub, iZ_mul, iZ_neg, lZ_add, lZ_sub, lZ_mul, lZ_neg, z_div, z_ldiv, z_l, z_i, z_lt, z_le, z_eq, z_llt, z_lle, z_leq, z_cgt, z_cge, z_clt, z_cle, z_ceq, z_cl, z_nat, Int.toNat_natCast, mm_I, mm_J, z_cln, z_abs, z_max, z_min, z_lmax, z_lmin, z_sin, Int.cast_ofNat_Int, uI_I, uI_J, uL_I, uL_J, uA_I, uA_J, sI_eq, sI_ne, sL_eq, sL_ne, up_eq, up_ne, uL_eq, uL_ne, z_toInt, Int.reduceToNat]) <;> omega)) (wF n6 (wF nb ?_)))
          refine wp_keys [0, 1, 2, 3, 4] rfl rfl ?_
          exact ih (i + 1) I' _ (by omega) c1 (by rw [ms]; exact c2) c3 (by rw [ms]; exact c4) (iZ_add i 1)
      · have le : l = [] := List.eq_nil_of_length_eq_zero (by omega)
        rw [le, List.append_nil] at hl
        have n6 : iZ 6 ≤ I' 246 2 := by rw [c2]; ((try simp (disch := omega) only [z_i8, z_i16, z_of, z_ofN, z_lofN, z_0, z_1, z_m1, z_l0, z_l1, iZ_add, iZ_sub, iZ_mul, iZ_neg, lZ_add, lZ_sub, lZ_mul, lZ_neg, z_div, z_ldiv, z_l, z_i, z_lt, z_le, z_eq, z_llt, z_lle, z_leq, z_cgt, z_cge, z_clt, z_cle, z_ceq, z_cl, z_nat, Int.toNat_natCast, mm_I, mm_J, z_cln, z_abs, z_max, z_min, z_lmax, z_lmin, z_sin, Int.cast_ofNat_Int, uI_I, uI_J, uL_I, uL_J, uA_I, uA_J, sI_eq, sI_ne, sL_eq, sL_ne, up_eq, up_ne, uL_eq, uL_ne, z_toInt, Int.reduceToNat]) <;> omega)
        exact wf (hs := [21, 74]) 30 21 (by decide) (wF (by ((try simp (disch := omega) only [z_i8, z_i16, z_of, z_ofN, z_lofN, z_0, z_1, z_m1, z_l0, z_l1, iZ_add, iZ_sub, iZ_mul, iZ_neg, lZ_add, lZ_sub, lZ_mul, lZ_neg, z_div, z_ldiv, z_l, z_i, z_lt, z_le, z_eq, z_llt, z_lle, z_leq, z_cgt, z_cge, z_clt, z_cle, z_ceq, z_cl, z_nat, Int.toNat_natCast, mm_I, mm_J, z_cln, z_abs, z_max, z_min, z_lmax, z_lmin, z_sin, Int.cast_ofNat_Int, uI_I, uI_J, uL_I, uL_J, uA_I, uA_J, sI_eq, sI_ne, sL_eq, sL_ne, up_eq, up_ne, uL_eq, uL_ne, z_toInt, Int.reduceToNat]) <;> omega)) (wt n6 (out i I' hl.symm c1 c2 c3 c4 _)))
  refine wp_keys [0, 1, 2, 3, 4] rfl rfl ?_
  refine L 12 0 (setI (setI I 246 3 (iZ b)) 246 2 (iZ 0)) _ (by omega) (fun a ha hb2 => ?_) ?_ ?_ (fun j hj => absurd hj (Nat.not_lt_zero j)) rfl
  · funext j
    rw [setI_at, if_neg (fun q => ha q.1), setI_at, if_neg (fun q => ha q.1)]
  · rw [setI_at, if_pos ⟨rfl, rfl⟩]; rfl
  · rw [setI_at, if_neg (by omega), setI_at, if_pos ⟨rfl, rfl⟩]
theorem op_order {x b k : Int} (h : Inv I J) (hz : ZO (mm I J A)) (hx : -2147483648 ≤ x ∧ x ≤ 2147483647) (hb : -2147483648 ≤ b ∧ b ≤ 2147483647) (hk : -2147483648 ≤ k ∧ k ≤ 2147483647) : wpC E (d + 13) 112 [.ref 0, .int (iZ x), .int (iZ b), .int (iZ k)] (mm I J A) (QI E (d + 13) 236 [.int (iZ x), .int (iZ b), .int (iZ k)]) := by
  have F : ¬ GOr I x b k → ZO (mm I J A) → QI E (d + 13) 236 [.int (iZ x), .int (iZ b), .int (iZ k)] (some (.int (iZ (-1)))) (mm I J A) := fun g _ => QI_mk (m_order (d := d + 6) (Vs_m h.1) h.2.2.2.2.1 hz hx hb hk (fun x => absurd x g) (fun _ I' h2 => ⟨rfl, I', J, A, rfl, Inv_306 h FS_refl h2⟩))
  refine wpC_mono (wpC_zo hz (Q := fun r' M => ZO M → QI E (d + 13) 236 [.int (iZ x), .int (iZ b), .int (iZ k)] r' M) ?_) (fun r M hh => hh.1 hh.2)
  rcases h.1 with ⟨g0, g1⟩ | ⟨g0, hW, hH, hR, h8⟩
  · exact wc (hs := []) 20 (by decide) (wt g1 (F fun q => by have := q.1.1; rw [this] at g0; cases g0))
  · have b1 : ¬ I 1 0 = 0 := by have : I 1 0 = 1 := hR.1.1; rw [this]; decide
    have h12 := nP12 hW
    have p0 : I 3 0 = iZ (nP (vC I) : Nat) := hR.2.2.1.1
    have T : ∀ ξ : Nat, x = ξ → 0 < ξ → ξ < 2 ^ nP (vC I) → 1 ≤ b ∧ b ≤ 59 → wp E (d + 13) 112 41 [(0, .ref 0), (1, .int (iZ x)), (2, .int (iZ b)), (3, .int (iZ k))] [] (mm I J A) (fun r' M => ZO M → QI E (d + 13) 236 [.int (iZ x), .int (iZ b), .int (iZ k)] r' M) := fun ξ hξ h0 g1 g2 => by
      subst hξ
      have hx12 : ξ < 4096 := by
        have : 2 ^ nP (vC I) ≤ 2 ^ 12 := Nat.pow_le_pow_right (by omega) h12
        omega
      obtain ⟨n, hn⟩ : ∃ n, n = (mem ξ 12).length := ⟨_, rfl⟩
      have n12 := (mem_bd (x := ξ) 12).1
      have G : GOr I (ξ : Int) b k ↔ (n ≤ 6 ∧ (0 ≤ k ∧ k < n)) := by
        unfold GOr
        rw [Int.toNat_natCast, ← hn]
        exact ⟨fun q => ⟨q.2.2.1, q.2.2.2.2⟩, fun q => ⟨⟨g0, by omega⟩, g1, q.1, g2, q.2⟩⟩
      refine wf (hs := [68]) 40 41 (by decide) (And.intro rfl (c_bitCount hx12 rfl ?_))
      rw [← hn]
      refine And.intro (fun q => ?_) (fun q => ?_)
      · simp (disch := omega) only [z_i8, z_i16, z_of, z_ofN, z_lofN, z_0, z_1, z_m1, z_l0, z_l1, iZ_add, iZ_sub, iZ_mul, iZ_neg, lZ_add, lZ_sub, lZ_mul, lZ_neg, z_div, z_ldiv, z_l, z_i, z_lt, z_le, z_eq, z_llt, z_lle, z_leq, z_cgt, z_cge, z_clt, z_cle, z_ceq, z_cl, z_nat, Int.toNat_natCast, mm_I, mm_J, z_cln, z_abs, z_max, z_min, z_lmax, z_lmin, z_sin, Int.cast_ofNat_Int, uI_I, uI_J, uL_I, uL_J, uA_I, uA_J, sI_eq, sI_ne, sL_eq, sL_ne, up_eq, up_ne, uL_eq, uL_ne, z_toInt, Int.reduceToNat] at q
        exact F fun y => by have := (G.mp y).1; omega
      simp (disch := omega) only [z_i8, z_i16, z_of, z_ofN, z_lofN, z_0, z_1, z_m1, z_l0, z_l1, iZ_add, iZ_sub, iZ_mul, iZ_neg, lZ_add, lZ_sub, lZ_mul, lZ_neg, z_div, z_ldiv, z_l, z_i, z_lt, z_le, z_eq, z_llt, z_lle, z_leq, z_cgt, z_cge, z_clt, z_cle, z_ceq, z_cl, z_nat, Int.toNat_natCast, mm_I, mm_J, z_cln, z_abs, z_max, z_min, z_lmax, z_lmin, z_sin, Int.cast_ofNat_Int, uI_I, uI_J, uL_I, uL_J, uA_I, uA_J, sI_eq, sI_ne, sL_eq, sL_ne, up_eq, up_ne, uL_eq, uL_ne, z_toInt, Int.reduceToNat] at q
      refine And.intro rfl (cW (z := k) (lo := 0) (hi := (n : Int) - 1) rfl rfl (iZ_sub n 1) hk (by omega) (by omega) (fun g4 => wF (by decide) ?_) (fun g4 => wt rfl (F fun y => g4 (by have := (G.mp y).2; omega))))
      have hg := G.mpr ⟨by omega, by omega, by omega⟩
      obtain ⟨κ, hκ, rfl⟩ : ∃ κ : Nat, κ < n ∧ k = κ := ⟨k.toNat, by omega, by omega⟩
      have fin : ∀ I' J' A', F3 1 I J I' J' → RS I' J' 1 (vC I) → ZO (mm I' J' A') → QI E (d + 13) 236 [.int (iZ (ξ : Int)), .int (iZ b), .int (iZ (κ : Int))] (some (.int (iZ (resO ξ (SRc (stO (vC I) ξ b) n n 0 (vC I 266 7)) κ)))) (mm I' J' A') := fun I' J' A' c hR' z => by
        have hF : FV I J I' J' := fun a q1 q2 => c a (by omega) q2
        have hv := FV_vC hF
        refine QI_mk (m_order (d := d + 6) (FV_m hF (Vs_m h.1)) (M0_FV hF h.2.2.2.2.1) z hx hb hk (fun _ I2 s => ?_) (fun y => ?_))
        · rw [hv] at s
          rw [hv, Int.toNat_natCast, Int.toNat_natCast, ← hn]
          exact ⟨rfl, I2, J', A', rfl, Inv_L h g0 (Or.inl rfl) c s.1 s.2.2.2.1 hR' ⟨fun _ => rfl, fun j hj e => by omega⟩⟩
        · refine absurd ?_ y
          unfold GOr at hg ⊢
          rw [hv, (hF 266 (by omega) (by omega)).1]
          exact hg
      have cf := c_find (E := E) (d := d + 6 - n) (I := I) (J := J) (A := A) (v := vC I) (x := ξ) (n := n) (b := b) (x2 := iZ (ξ : Int)) (x3 := iZ b) (Q := fun r M => ∃ I' J' A', M = mm I' J' A' ∧ F3 1 I J I' J' ∧ RS I' J' 1 (vC I) ∧ ((∃ l, r = some (.int 1) ∧ SRc (stO (vC I) ξ b) n n 0 (vC I 266 7) = some l ∧ I' 252 κ = iZ (mbr ξ (gtL l κ) : Nat)) ∨ (r = some (.int 0) ∧ SRc (stO (vC I) ξ b) n n 0 (vC I 266 7) = none))) hR hW hH g1 hn ⟨by omega, by omega⟩ g2 rfl rfl (fun l I' J' A' q1 q2 q3 q4 => ⟨I', J', A', rfl, q2, q3, Or.inl ⟨l, rfl, q1, q4 κ hκ⟩⟩) (fun I' J' A' q1 q2 q3 => ⟨I', J', A', rfl, q2, q3, Or.inr ⟨rfl, q1⟩⟩)
      rw [show d + 6 - n + n + 6 = d + 12 by omega] at cf
      refine wp_keys [0, 1, 2, 3] rfl rfl ?_
      refine wf (hs := []) 40 68 (by decide) (And.intro rfl (wpC_mono cf (fun r M hh => ?_)))
      obtain ⟨I', J', A', rfl, c, hR', hh⟩ := hh
      have H := fin I' J' A' c hR'
      rcases hh with ⟨l, rfl, hs, hr⟩ | ⟨rfl, hs⟩
      · rw [hs] at H
        have cl : (iZ (κ : Int)).toNatClampNeg = κ := z_cln (by omega)
        refine wF (by decide) (And.intro (z_in (by omega) (by omega) (by omega)) (fun z => q_i (H z) ?_))
        show I' 252 (iZ (κ : Int)).toNatClampNeg = _
        rw [cl, hr]; rfl
      · rw [hs] at H
        exact wt rfl (fun z => H z)
    refine wc (hs := [41]) 60 (by decide) (wF b1 (And.intro rfl (cW (z := b) (lo := 1) (hi := 59) rfl rfl rfl hb (by omega) (by omega) (fun g1 => wF (by decide) ?_) (fun g1 => wt rfl (F fun q => g1 q.2.2.2.1)))))
    refine And.intro (fun q => ?_) (fun q => ?_)
    · simp (disch := omega) only [z_i8, z_i16, z_of, z_ofN, z_lofN, z_0, z_1, z_m1, z_l0, z_l1, iZ_add, iZ_sub, iZ_mul, iZ_neg, lZ_add, lZ_sub, lZ_mul, lZ_neg, z_div, z_ldiv, z_l, z_i, z_lt, z_le, z_eq, z_llt, z_lle, z_leq, z_cgt, z_cge, z_clt, z_cle, z_ceq, z_cl, z_nat, Int.toNat_natCast, mm_I, mm_J, z_cln, z_abs, z_max, z_min, z_lmax, z_lmin, z_sin, Int.cast_ofNat_Int, uI_I, uI_J, uL_I, uL_J, uA_I, uA_J, sI_eq, sI_ne, sL_eq, sL_ne, up_eq, up_ne, uL_eq, uL_ne, z_toInt, Int.reduceToNat] at q
      exact F fun y => by have := y.1.2; omega
    simp (disch := omega) only [z_i8, z_i16, z_of, z_ofN, z_lofN, z_0, z_1, z_m1, z_l0, z_l1, iZ_add, iZ_sub, iZ_mul, iZ_neg, lZ_add, lZ_sub, lZ_mul, lZ_neg, z_div, z_ldiv, z_l, z_i, z_lt, z_le, z_eq, z_llt, z_lle, z_leq, z_cgt, z_cge, z_clt, z_cle, z_ceq, z_cl, z_nat, Int.toNat_natCast, mm_I, mm_J, z_cln, z_abs, z_max, z_min, z_lmax, z_lmin, z_sin, Int.cast_ofNat_Int, uI_I, uI_J, uL_I, uL_J, uA_I, uA_J, sI_eq, sI_ne, sL_eq, sL_ne, up_eq, up_ne, uL_eq, uL_ne, z_toInt, Int.reduceToNat] at q
    obtain ⟨ξ, hξ⟩ : ∃ ξ : Nat, x = ξ := ⟨x.toNat, by omega⟩
    have sh := bi_shr (f := ξ) (i := nP (vC I)) (by omega) (by omega)
    have e2 : (iZ x >>> (I 3 0 &&& 31)) = iZ ((ξ / 2 ^ nP (vC I) : Nat) : Int) := by rw [p0, hξ]; exact sh
    have dl : ξ / 2 ^ nP (vC I) ≤ ξ := Nat.div_le_self _ _
    by_cases g2 : ξ < 2 ^ nP (vC I)
    · have z0 : (iZ x >>> (I 3 0 &&& 31)) = 0 := by rw [e2, Nat.div_eq_of_lt g2]; rfl
      exact wt z0 (T ξ hξ (by omega) g2 g1)
    · have z0 : ¬ (iZ x >>> (I 3 0 &&& 31)) = 0 := by
        rw [e2]
        exact nz_ne (Nat.div_pos (by omega) (Nat.pow_pos (by omega))) (by omega)
      refine wF z0 (F fun y => g2 ?_)
      have := y.2.1
      rw [hξ, Int.toNat_natCast] at this
      exact this
end ORD5
