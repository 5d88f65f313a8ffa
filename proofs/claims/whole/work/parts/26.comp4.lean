/-! ===== a ship of the class stands for a view; its balance taken ===== -/
def RSp (I : Nat → Nat → Int32) (J : Nat → Nat → Int64) (b : Nat) (v : am_V) (k : Nat) : Prop := I (b + 3) k = iZ (v 270 k) ∧ I (b + 4) k = iZ (v 271 k) ∧ I (b + 5) k = iZ (v 272 k) ∧ I (b + 6) k = iZ (v 273 k) ∧ I (b + 7) k = iZ (v 274 k) ∧ I (b + 8) k = iZ (v 275 k) ∧ I (b + 9) k = iZ (capZ v k) ∧ I (b + 10) k = iZ (v 276 k) ∧ I (b + 11) k = iZ (levZ v k) ∧ J (b + 12) k = lZ (sprZ v k) ∧ I (b + 13) k = iZ (blkZ v k)
def RSc (I : Nat → Nat → Int32) (b : Nat) (v : am_V) (k : Nat) : Prop := I (b + 15) k = iZ (v 277 k) ∧ I (b + 16) k = iZ (v 278 k) ∧ I (b + 17) k = iZ (v 279 k) ∧ I (b + 18) k = iZ (v 280 k) ∧ I (b + 19) k = iZ (v 281 k)
def RSd (I : Nat → Nat → Int32) (b : Nat) (v : am_V) (k : Nat) : Prop := I (b + 21) k = iZ (v 282 k) ∧ I (b + 22) k = iZ (v 283 k) ∧ I (b + 23) k = iZ (v 284 k) ∧ I (b + 24) k = iZ (v 285 k)
def RSo (I : Nat → Nat → Int32) (b : Nat) (v : am_V) (k : Nat) : Prop := I (b + 26) k = iZ (v 286 k) ∧ I (b + 27) k = iZ (v 287 k) ∧ I (b + 28) k = iZ (v 288 k) ∧ I (b + 29) k = iZ (v 289 k)
def RSl (I : Nat → Nat → Int32) (b : Nat) (v : am_V) (k : Nat) : Prop := I (b + 31) k = iZ (v 268 k) ∧ I (b + 32) k = iZ (v 269 k)
def RSs (I : Nat → Nat → Int32) (b : Nat) (v : am_V) (t : Int) : Prop := I b 0 = iZ 1 ∧ I b 1 = iZ (v 266 1) ∧ I b 2 = iZ (v 266 2) ∧ I b 3 = iZ (v 266 3) ∧ I b 4 = iZ (v 266 4) ∧ I b 5 = iZ (v 266 5) ∧ I b 6 = iZ (v 266 6) ∧ I b 7 = iZ (v 266 7) ∧ I b 8 = iZ (v 266 8) ∧ I b 9 = iZ t
def RSt (I : Nat → Nat → Int32) (J : Nat → Nat → Int64) (b : Nat) (v : am_V) (t : Int) : Prop :=
  RSs I b v t ∧ (∀ n : Nat, n ≤ 60 → I (b + 1) n = iZ (armZ v n))
  ∧ (I (b + 2) 0 = iZ (nP v) ∧ (∀ k, k < nP v → RSp I J b v k) ∧ (∀ k, nP v ≤ k → k < 12 → I (b + 10) k = iZ 0))
  ∧ (I (b + 14) 0 = iZ (nC v) ∧ ∀ k, k < nC v → RSc I b v k)
  ∧ (I (b + 20) 0 = iZ (nD v) ∧ ∀ k, k < nD v → RSd I b v k)
  ∧ (I (b + 25) 0 = iZ (nO v) ∧ ∀ k, k < nO v → RSo I b v k)
  ∧ (I (b + 30) 0 = iZ (nL v) ∧ ∀ k, k < nL v → RSl I b v k)
def RS (I : Nat → Nat → Int32) (J : Nat → Nat → Int64) (b : Nat) (v : am_V) : Prop := RSt I J b v (totZ v 0)
theorem RS_eq {I I' : Nat → Nat → Int32} {J J' : Nat → Nat → Int64} {b : Nat} {v : am_V} (h : ∀ a, b ≤ a → a < b + 33 → I' a = I a ∧ J' a = J a) (hR : RS I J b v) : RS I' J' b v := by
  have g : ∀ j, j < 33 → I' (b + j) = I (b + j) := fun j hj => (h (b + j) (by omega) (by omega)).1
  have g0 : I' b = I b := g 0 (by omega)
  have gJ : J' (b + 12) = J (b + 12) := (h (b + 12) (by omega) (by omega)).2
  unfold RS RSt RSs RSp RSc RSd RSo RSl at hR ⊢
  rw [g0, gJ, g 1 (by omega), g 2 (by omega), g 3 (by omega), g 4 (by omega), g 5 (by omega), g 6 (by omega), g 7 (by omega), g 8 (by omega), g 9 (by omega), g 10 (by omega), g 11 (by omega), g 13 (by omega), g 14 (by omega), g 15 (by omega), g 16 (by omega), g 17 (by omega), g 18 (by omega), g 19 (by omega), g 20 (by omega), g 21 (by omega), g 22 (by omega), g 23 (by omega), g 24 (by omega), g 25 (by omega), g 26 (by omega), g 27 (by omega), g 28 (by omega), g 29 (by omega), g 30 (by omega), g 31 (by omega), g 32 (by omega)]
  exact hR
/-- what a taken balance leaves as it was -/
def FB (β : Nat) (I : Nat → Nat → Int32) (J : Nat → Nat → Int64) (A : Nat → Option Nat) (I' : Nat → Nat → Int32) (J' : Nat → Nat → Int64) (A' : Nat → Option Nat) : Prop := (∀ a, a ≠ β → I' a = I a) ∧ (∀ a, a ≠ β → a ≠ β + 2 → a ≠ β + 3 → J' a = J a) ∧ (∀ x, x ≠ β → A' x = A x)
def B5 (b : Nat) : Prop := b = 1 ∨ b = 35 ∨ b = 68 ∨ b = 101 ∨ b = 134
theorem BS_B5 {β b : Nat} (h : BS β b) : B5 b := by
  unfold B5
  unfold BS at h
  omega
theorem uI_I {M : am_M} {a : Nat} {f : Nat → Int32} : (am_uI M a f).2.1 = am_sI M.2.1 a f := rfl
theorem uI_J {M : am_M} {a : Nat} {f : Nat → Int32} : (am_uI M a f).2.2.1 = M.2.2.1 := rfl
theorem uL_I {M : am_M} {a : Nat} {f : Nat → Int64} : (am_uL M a f).2.1 = M.2.1 := rfl
theorem uL_J {M : am_M} {a : Nat} {f : Nat → Int64} : (am_uL M a f).2.2.1 = am_sL M.2.2.1 a f := rfl
theorem uA_I {M : am_M} {a c : Nat} : (am_uA M a c).2.1 = M.2.1 := rfl
theorem uA_J {M : am_M} {a c : Nat} : (am_uA M a c).2.2.1 = M.2.2.1 := rfl
theorem sI_eq {I : Nat → Nat → Int32} {a : Nat} {f : Nat → Int32} : am_sI I a f a = f := if_pos rfl
theorem sI_ne {I : Nat → Nat → Int32} {a c : Nat} {f : Nat → Int32} (h : c ≠ a) : am_sI I a f c = I c := if_neg h
theorem sL_eq {I : Nat → Nat → Int64} {a : Nat} {f : Nat → Int64} : am_sL I a f a = f := if_pos rfl
theorem sL_ne {I : Nat → Nat → Int64} {a c : Nat} {f : Nat → Int64} (h : c ≠ a) : am_sL I a f c = I c := if_neg h
theorem up_eq {f : Nat → Int32} {k : Nat} {x : Int32} : upd f k x k = x := if_pos rfl
theorem up_ne {f : Nat → Int32} {k j : Nat} {x : Int32} (h : j ≠ k) : upd f k x j = f j := if_neg h
theorem uL_eq {f : Nat → Int64} {k : Nat} {x : Int64} : vp_updL f k x k = x := if_pos rfl
theorem uL_ne {f : Nat → Int64} {k j : Nat} {x : Int64} (h : j ≠ k) : vp_updL f k x j = f j := if_neg h
/-- the loose water in two rows -/
def LW (J : Nat → Nat → Int64) (β l i : Nat) (v : am_V) : Prop := (∀ j, j < l → (0 ≤ vJ J (β + 2) j ∧ vJ J (β + 2) j ≤ 128000000000) ∧ (0 ≤ vJ J (β + 3) j ∧ vJ J (β + 3) j ≤ 159840000)) ∧ ∀ z : Int, 0 ≤ z → z ≤ 90 → sm l (fun j => min (vJ J (β + 2) j * sinZ z / 1000) (vJ J (β + 3) j)) = sm i (fun k => runZ v k z)
theorem LW_eq {J J' : Nat → Nat → Int64} {β l i : Nat} {v : am_V} (h : LW J β l i v) (h2 : J' (β + 2) = J (β + 2)) (h3 : J' (β + 3) = J (β + 3)) : LW J' β l i v := by
  unfold LW vJ at h ⊢
  rw [h2, h3]
  exact h
theorem LW_skip {J J' : Nat → Nat → Int64} {β l i : Nat} {v : am_V} (h : LW J β l i v) (h2 : J' (β + 2) = J (β + 2)) (h3 : J' (β + 3) = J (β + 3)) (hP : WfP v i) (h0 : blkZ v i = 0) : LW J' β l (i + 1) v := by
  unfold LW vJ at h ⊢
  rw [h2, h3]
  refine ⟨h.1, fun z z0 z1 => ?_⟩
  rw [h.2 z z0 z1]
  show _ = sm i (fun k => runZ v k z) + runZ v i z
  have r := (runB hP z0 z1).1
  have := Int.ediv_nonneg (a := sprZ v i * sinZ z) (b := 1000) r.1 (by omega)
  have e : runZ v i z = 0 := by unfold runZ; rw [h0]; omega
  omega
theorem LW_more {J J' : Nat → Nat → Int64} {β l i : Nat} {v : am_V} (h : LW J β l i v) (h2 : J' (β + 2) = vp_updL (J (β + 2)) l (lZ (sprZ v i))) (h3 : J' (β + 3) = vp_updL (J (β + 3)) l (lZ (blkZ v i))) (hP : WfP v i) : LW J' β (l + 1) (i + 1) v := by
  have p := (sprB hP).2.2
  have q := (blkB hP).2
  have e2 : ∀ j, vJ J' (β + 2) j = if j = l then sprZ v i else vJ J (β + 2) j := fun j => by
    unfold vJ
    rw [h2]
    unfold vp_updL
    split
    · exact lZ_toInt ⟨by omega, by omega⟩
    · rfl
  have e3 : ∀ j, vJ J' (β + 3) j = if j = l then blkZ v i else vJ J (β + 3) j := fun j => by
    unfold vJ
    rw [h3]
    unfold vp_updL
    split
    · exact lZ_toInt ⟨by omega, by omega⟩
    · rfl
  refine ⟨fun j hj => ?_, fun z z0 z1 => ?_⟩
  · rw [e2, e3]
    by_cases hjl : j = l
    · rw [if_pos hjl, if_pos hjl]; exact ⟨p, q⟩
    · rw [if_neg hjl, if_neg hjl]; exact h.1 j (by omega)
  · show sm l _ + _ = sm i (fun k => runZ v k z) + runZ v i z
    rw [← h.2 z z0 z1]
    have : sm l (fun j => min (vJ J' (β + 2) j * sinZ z / 1000) (vJ J' (β + 3) j)) = sm l (fun j => min (vJ J (β + 2) j * sinZ z / 1000) (vJ J (β + 3) j)) := sm_congr (fun j hj => by rw [e2, e3, if_neg (by omega), if_neg (by omega)])
    rw [this]
    dsimp only
    rw [e2, e3, if_pos rfl, if_pos rfl]
    rfl
section C4
variable {E : Nat × (Nat → Int32)} {d : Nat} {I : Nat → Nat → Int32} {J : Nat → Nat → Int64} {A : Nat → Option Nat} {Q : Option Value → am_M → Prop} {M : am_M} {β b : Nat} {v : am_V} {mw mu mom : Int}
def tkU (v : am_V) (i j : Nat) : Int := v 266 2 * v 266 3 + sm i (fun k => v 276 k * (v 270 k + levZ v k / 2)) + sm j (fun k => v 277 k * v 278 k)
def tkM (v : am_V) (i j : Nat) : Int := v 266 5 * 10 + sm i (fun k => v 276 k * v 275 k * 10) + sm j (fun k => v 277 k * v 281 k * v 280 k * 10)
/-- a balance half taken -/
def TK (I : Nat → Nat → Int32) (J : Nat → Nat → Int64) (A : Nat → Option Nat) (β : Nat) (v : am_V) (i j : Nat) (s : (Nat → Nat → Int32) × (Nat → Nat → Int64)) : Prop :=
  (∀ a, a ≠ β → s.1 a = I a) ∧ (∀ a, a ≠ β → a ≠ β + 2 → a ≠ β + 3 → s.2 a = J a) ∧ s.1 β 1 = iZ (v 266 1) ∧ s.2 β 2 = lZ (totZ v 0) ∧ s.2 β 3 = lZ (tkU v i j) ∧ s.2 β 4 = lZ (tkM v i j) ∧ ∃ l : Nat, l ≤ i ∧ s.1 β 5 = iZ l ∧ LW s.2 β l i v
theorem TK_skip {I' : Nat → Nat → Int32} {J' : Nat → Nat → Int64} {i : Nat} {x y : Int64} (h : TK I J A β v i 0 (I', J')) (hP : WfP v i) (h0 : blkZ v i = 0) (hx : x = lZ (tkU v (i + 1) 0)) (hy : y = lZ (tkM v (i + 1) 0)) : TK I J A β v (i + 1) 0 (I', am_sL (am_sL J' β (vp_updL (J' β) 3 x)) β (vp_updL (am_sL J' β (vp_updL (J' β) 3 x) β) 4 y)) := by
  obtain ⟨f1, f2, k1, k2, k3, k4, l, hl, k5, lw⟩ := h
  dsimp only at f1 f2 k1 k2 k3 k4 k5 lw
  refine ⟨f1, fun a h1 h2 h3 => ?_, k1, ?_, ?_, ?_, l, by omega, k5, LW_skip lw ?_ ?_ hP h0⟩
  · dsimp only; rw [sL_ne h1, sL_ne h1]; exact f2 a h1 h2 h3
  · dsimp only; rw [sL_eq, uL_ne (by decide), sL_eq, uL_ne (by decide)]; exact k2
  · dsimp only; rw [sL_eq, uL_ne (by decide), sL_eq, uL_eq]; exact hx
  · dsimp only; rw [sL_eq, uL_eq]; exact hy
  · dsimp only; rw [sL_ne (by omega), sL_ne (by omega)]
  · dsimp only; rw [sL_ne (by omega), sL_ne (by omega)]
theorem TK_more {I' : Nat → Nat → Int32} {J' : Nat → Nat → Int64} {i l : Nat} {x y p q : Int64} {w : Int32} {m1 m2 : Nat} (h : TK I J A β v i 0 (I', J')) (hP : WfP v i) (hl : I' β 5 = iZ l) (hl12 : l < 12) (hi : i < 12) (hx : x = lZ (tkU v (i + 1) 0)) (hy : y = lZ (tkM v (i + 1) 0)) (hp : p = lZ (sprZ v i)) (hq : q = lZ (blkZ v i)) (hw : w = iZ (l + 1 : Nat)) (hm1 : m1 = l) (hm2 : m2 = l) :
    TK I J A β v (i + 1) 0 (am_sI I' β (upd (I' β) 5 w), am_sL (am_sL (am_sL (am_sL J' β (vp_updL (J' β) 3 x)) β (vp_updL (am_sL J' β (vp_updL (J' β) 3 x) β) 4 y)) (β + 2) (vp_updL (am_sL (am_sL J' β (vp_updL (J' β) 3 x)) β (vp_updL (am_sL J' β (vp_updL (J' β) 3 x) β) 4 y) (β + 2)) m1 p)) (β + 3) (vp_updL (am_sL (am_sL (am_sL J' β (vp_updL (J' β) 3 x)) β (vp_updL (am_sL J' β (vp_updL (J' β) 3 x) β) 4 y)) (β + 2) (vp_updL (am_sL (am_sL J' β (vp_updL (J' β) 3 x)) β (vp_updL (am_sL J' β (vp_updL (J' β) 3 x) β) 4 y) (β + 2)) m1 p) (β + 3)) m2 q)) := by
  obtain ⟨f1, f2, k1, k2, k3, k4, l', hl', k5, lw⟩ := h
  dsimp only at f1 f2 k1 k2 k3 k4 k5 lw
  have : l' = l := by
    rw [hl, z_eq (by omega) (by omega) (by omega) (by omega)] at k5
    omega
  subst this
  rw [hm1, hm2]
  refine ⟨fun a h1 => ?_, fun a h1 h2 h3 => ?_, ?_, ?_, ?_, ?_, l' + 1, by omega, ?_, LW_more lw ?_ ?_ hP⟩
  · dsimp only; rw [sI_ne h1]; exact f1 a h1
  · dsimp only; rw [sL_ne h3, sL_ne h2, sL_ne h1, sL_ne h1]; exact f2 a h1 h2 h3
  · dsimp only; rw [sI_eq, up_ne (by decide)]; exact k1
  · dsimp only; rw [sL_ne (by omega), sL_ne (by omega), sL_eq, uL_ne (by decide), sL_eq, uL_ne (by decide)]; exact k2
  · dsimp only; rw [sL_ne (by omega), sL_ne (by omega), sL_eq, uL_ne (by decide), sL_eq, uL_eq]; exact hx
  · dsimp only; rw [sL_ne (by omega), sL_ne (by omega), sL_eq, uL_eq]; exact hy
  · dsimp only; rw [sI_eq, up_eq]; exact hw
  · dsimp only; rw [sL_ne (by omega), sL_eq, sL_ne (by omega), sL_ne (by omega), hp]
  · dsimp only; rw [sL_eq, sL_ne (by omega), sL_ne (by omega), sL_ne (by omega), hq]
theorem TK_cargo {I' : Nat → Nat → Int32} {J' : Nat → Nat → Int64} {i : Nat} {x y : Int64} (h : TK I J A β v (nP v) i (I', J')) (hx : x = lZ (tkU v (nP v) (i + 1))) (hy : y = lZ (tkM v (nP v) (i + 1))) : TK I J A β v (nP v) (i + 1) (I', am_sL (am_sL J' β (vp_updL (J' β) 3 x)) β (vp_updL (am_sL J' β (vp_updL (J' β) 3 x) β) 4 y)) := by
  obtain ⟨f1, f2, k1, k2, k3, k4, l, hl, k5, lw⟩ := h
  dsimp only at f1 f2 k1 k2 k3 k4 k5 lw
  refine ⟨f1, fun a h1 h2 h3 => ?_, k1, ?_, ?_, ?_, l, by omega, k5, LW_eq lw ?_ ?_⟩
  · dsimp only; rw [sL_ne h1, sL_ne h1]; exact f2 a h1 h2 h3
  · dsimp only; rw [sL_eq, uL_ne (by decide), sL_eq, uL_ne (by decide)]; exact k2
  · dsimp only; rw [sL_eq, uL_ne (by decide), sL_eq, uL_eq]; exact hx
  · dsimp only; rw [sL_eq, uL_eq]; exact hy
  · dsimp only; rw [sL_ne (by omega), sL_ne (by omega)]
  · dsimp only; rw [sL_ne (by omega), sL_ne (by omega)]
set_option maxHeartbeats 8000000 in
theorem c_take (hb : BS β b) (hW : Wf v) (hR : RS I J b v) (hQ : ∀ I' J' A', RB I' J' A' β b v 0 0 (asdZ v) → FB β I J A I' J' A' → Q none (mm I' J' A')) : wpC E d 1 [.ref β, .ref b] (mm I J A) Q := by
  have hP := nP_le (I := fun a i => iZ (v a i))
  have hle : nP v ≤ 12 := by have := hW.1.2.2.2.2.2.2.2.2.1; unfold nP; omega
  have hlc : nC v ≤ 6 := by have := hW.1.2.2.2.2.2.2.2.2.2.1; unfold nC; omega
  have tt := totB hW (mw := 0) ⟨by omega, by omega⟩
  obtain ⟨⟨r0, r1, r2, r3, r4, r5, r6, r7, r8, r9⟩, ra, ⟨rp0, rp, rw0⟩, ⟨rc0, rc⟩, -⟩ := id hR
  obtain ⟨w1, w2, w3, w4, w5, -⟩ := id hW.1
  have fin : ∀ I' J', TK I J A β v (nP v) (nC v) (I', J') → Q none (mm I' J' (fun x => if x = β then some (b + 1) else A x)) := by
    intro I' J' h
    obtain ⟨f1, f2, k1, k2, k3, k4, l, hl, k5, lw⟩ := h
    refine hQ _ _ _ ⟨if_pos rfl, k1, k2, ?_, ?_, ⟨l, by omega, by rw [← z_nat] at k5; exact k5, lw⟩, fun n hn => ?_⟩ ⟨f1, f2, fun x hx => if_neg hx⟩
    · dsimp only at k3
      rw [k3]; congr 1; unfold tkU upZ; omega
    · dsimp only at k4
      rw [k4]; rfl
    · have : b + 1 ≠ β := by unfold BS at hb; omega
      dsimp only at f1
      rw [f1 _ this]; exact ra n hn
  have hne : ∀ j, j < 33 → b + j ≠ β := fun j hj => by unfold BS at hb; omega
  have hc : ∀ i : Nat, i < 12 → (iZ (i : Int)).toNatClampNeg = i := fun i hi => z_cln (by omega)
  have gU : ∀ (i : Nat) (I' : Nat → Nat → Int32) (J' : Nat → Nat → Int64), i < nP v → TK I J A β v i 0 (I', J') → J' β 3 + (I' (b + 10) (iZ (i : Int)).toNatClampNeg).toInt64 * (I' (b + 3) (iZ (i : Int)).toNatClampNeg + I' (b + 11) (iZ (i : Int)).toNatClampNeg / iZ 2).toInt64 = lZ (tkU v (i + 1) 0) := by
    intro i I' J' hi h
    unfold TK at h
    dsimp only at h
    obtain ⟨q1, q2, q3, q4, q5, q6, q7, q8, q9, q10, q11⟩ := rp i hi
    have w := hW.2.2.1 i hi
    have l := levB w
    have cb := (capB w).2.2
    obtain ⟨v0, v1, v2, v3, v4, v5, v6⟩ := w
    rw [hc i (by omega), h.1 _ (hne 10 (by omega)), h.1 _ (hne 3 (by omega)), h.1 _ (hne 11 (by omega)), q8, q1, q9, h.2.2.2.2.1]
    simp (disch := omega) only [z_i8, z_i16, z_of, z_ofN, z_lofN, z_0, z_1, z_m1, z_l0, z_l1, iZ_add, iZ_sub, iZ_mul, iZ_neg, lZ_add, lZ_sub, lZ_mul, lZ_neg, z_div, z_ldiv, z_l, z_i, z_lt, z_le, z_eq, z_llt, z_lle, z_leq, z_cgt, z_cge, z_clt, z_cle, z_ceq, z_cl, z_nat, Int.toNat_natCast, mm_I, mm_J, z_cln, z_abs, z_max, z_min, z_lmax, z_lmin, z_sin, Int.cast_ofNat_Int]
    congr 1
    unfold tkU
    show _ + 0 + _ = _ + (sm i (fun k => v 276 k * (v 270 k + levZ v k / 2)) + v 276 i * (v 270 i + levZ v i / 2)) + 0
    omega
  have gM : ∀ (i : Nat) (I' : Nat → Nat → Int32) (J' : Nat → Nat → Int64), i < nP v → TK I J A β v i 0 (I', J') → J' β 4 + (I' (b + 10) (iZ (i : Int)).toNatClampNeg).toInt64 * (I' (b + 8) (iZ (i : Int)).toNatClampNeg).toInt64 * lZ 10 = lZ (tkM v (i + 1) 0) := by
    intro i I' J' hi h
    unfold TK at h
    dsimp only at h
    obtain ⟨q1, q2, q3, q4, q5, q6, q7, q8, q9, q10, q11⟩ := rp i hi
    have w := hW.2.2.1 i hi
    have cb := (capB w).2.2
    obtain ⟨v0, v1, v2, v3, v4, v5, v6⟩ := w
    rw [hc i (by omega), h.1 _ (hne 10 (by omega)), h.1 _ (hne 8 (by omega)), q8, q6, h.2.2.2.2.2.1]
    simp (disch := omega) only [z_i8, z_i16, z_of, z_ofN, z_lofN, z_0, z_1, z_m1, z_l0, z_l1, iZ_add, iZ_sub, iZ_mul, iZ_neg, lZ_add, lZ_sub, lZ_mul, lZ_neg, z_div, z_ldiv, z_l, z_i, z_lt, z_le, z_eq, z_llt, z_lle, z_leq, z_cgt, z_cge, z_clt, z_cle, z_ceq, z_cl, z_nat, Int.toNat_natCast, mm_I, mm_J, z_cln, z_abs, z_max, z_min, z_lmax, z_lmin, z_sin, Int.cast_ofNat_Int]
    congr 1
    unfold tkM
    show _ + 0 + _ = _ + (sm i (fun k => v 276 k * v 275 k * 10) + v 276 i * v 275 i * 10) + 0
    omega
  have gUc : ∀ (i : Nat) (I' : Nat → Nat → Int32) (J' : Nat → Nat → Int64), i < nC v → TK I J A β v (nP v) i (I', J') → J' β 3 + (I' (b + 15) (iZ (i : Int)).toNatClampNeg).toInt64 * (I' (b + 16) (iZ (i : Int)).toNatClampNeg).toInt64 = lZ (tkU v (nP v) (i + 1)) := by
    intro i I' J' hi h
    unfold TK at h
    dsimp only at h
    obtain ⟨q1, q2, q3, q4, q5⟩ := rc i hi
    obtain ⟨v1, v2, v3, v4, v5⟩ := hW.2.2.2 i hi
    rw [hc i (by omega), h.1 _ (hne 15 (by omega)), h.1 _ (hne 16 (by omega)), q1, q2, h.2.2.2.2.1]
    simp (disch := omega) only [z_i8, z_i16, z_of, z_ofN, z_lofN, z_0, z_1, z_m1, z_l0, z_l1, iZ_add, iZ_sub, iZ_mul, iZ_neg, lZ_add, lZ_sub, lZ_mul, lZ_neg, z_div, z_ldiv, z_l, z_i, z_lt, z_le, z_eq, z_llt, z_lle, z_leq, z_cgt, z_cge, z_clt, z_cle, z_ceq, z_cl, z_nat, Int.toNat_natCast, mm_I, mm_J, z_cln, z_abs, z_max, z_min, z_lmax, z_lmin, z_sin, Int.cast_ofNat_Int]
    congr 1
    unfold tkU
    show _ = _ + (sm i (fun k => v 277 k * v 278 k) + v 277 i * v 278 i)
    omega
  have gMc : ∀ (i : Nat) (I' : Nat → Nat → Int32) (J' : Nat → Nat → Int64), i < nC v → TK I J A β v (nP v) i (I', J') → J' β 4 + lZ 10 * (I' (b + 15) (iZ (i : Int)).toNatClampNeg).toInt64 * (I' (b + 19) (iZ (i : Int)).toNatClampNeg).toInt64 * (I' (b + 18) (iZ (i : Int)).toNatClampNeg).toInt64 = lZ (tkM v (nP v) (i + 1)) := by
    intro i I' J' hi h
    unfold TK at h
    dsimp only at h
    obtain ⟨q1, q2, q3, q4, q5⟩ := rc i hi
    obtain ⟨v1, v2, v3, v4, v5⟩ := hW.2.2.2 i hi
    rw [hc i (by omega), h.1 _ (hne 15 (by omega)), h.1 _ (hne 19 (by omega)), h.1 _ (hne 18 (by omega)), q1, q4, q5, h.2.2.2.2.2.1]
    simp (disch := omega) only [z_i8, z_i16, z_of, z_ofN, z_lofN, z_0, z_1, z_m1, z_l0, z_l1, iZ_add, iZ_sub, iZ_mul, iZ_neg, lZ_add, lZ_sub, lZ_mul, lZ_neg, z_div, z_ldiv, z_l, z_i, z_lt, z_le, z_eq, z_llt, z_lle, z_leq, z_cgt, z_cge, z_clt, z_cle, z_ceq, z_cl, z_nat, Int.toNat_natCast, mm_I, mm_J, z_cln, z_abs, z_max, z_min, z_lmax, z_lmin, z_sin, Int.cast_ofNat_Int]
    congr 1
    have e : 10 * v 277 i * v 281 i * v 280 i = v 277 i * v 281 i * v 280 i * 10 := by
      rw [Int.mul_comm (v 277 i * v 281 i * v 280 i) 10, ← Int.mul_assoc, ← Int.mul_assoc]
    rw [e]
    unfold tkM
    show _ = _ + (sm i (fun k => v 277 k * v 281 k * v 280 k * 10) + v 277 i * v 281 i * v 280 i * 10)
    omega
  have gz : ∀ (i j : Nat) (I' : Nat → Nat → Int32) (J' : Nat → Nat → Int64), TK I J A β v i j (I', J') → I' (b + 2) 0 = iZ (nP v) ∧ I' (b + 14) 0 = iZ (nC v) := by
    intro i j I' J' h
    unfold TK at h
    dsimp only at h
    rw [h.1 _ (hne 2 (by omega)), h.1 _ (hne 14 (by omega))]
    exact ⟨rp0, rc0⟩
  have gB : ∀ (i : Nat) (I' : Nat → Nat → Int32) (J' : Nat → Nat → Int64), i < nP v → TK I J A β v i 0 (I', J') → I' (b + 13) (iZ (i : Int)).toNatClampNeg = iZ (blkZ v i) ∧ J' (b + 12) (iZ (i : Int)).toNatClampNeg = lZ (sprZ v i) := by
    intro i I' J' hi h
    unfold TK at h
    dsimp only at h
    obtain ⟨q1, q2, q3, q4, q5, q6, q7, q8, q9, q10, q11⟩ := rp i hi
    rw [hc i (by omega), h.1 _ (hne 13 (by omega)), h.2.1 _ (hne 12 (by omega)) (by unfold BS at hb; omega) (by unfold BS at hb; omega)]
    exact ⟨q11, q10⟩
  have start : TK I J A β v 0 0 (am_sI (am_sI I β (upd (I β) 1 (I b 1))) β (upd (am_sI I β (upd (I β) 1 (I b 1)) β) 5 (iZ 0)), am_sL (am_sL (am_sL J β (vp_updL (J β) 2 (am_sI I β (upd (I β) 1 (I b 1)) b 9).toInt64)) β (vp_updL (am_sL J β (vp_updL (J β) 2 (am_sI I β (upd (I β) 1 (I b 1)) b 9).toInt64) β) 3 ((am_sI I β (upd (I β) 1 (I b 1)) b 2).toInt64 * (am_sI I β (upd (I β) 1 (I b 1)) b 3).toInt64))) β (vp_updL (am_sL (am_sL J β (vp_updL (J β) 2 (am_sI I β (upd (I β) 1 (I b 1)) b 9).toInt64)) β (vp_updL (am_sL J β (vp_updL (J β) 2 (am_sI I β (upd (I β) 1 (I b 1)) b 9).toInt64) β) 3 ((am_sI I β (upd (I β) 1 (I b 1)) b 2).toInt64 * (am_sI I β (upd (I β) 1 (I b 1)) b 3).toInt64)) β) 4 ((am_sI I β (upd (I β) 1 (I b 1)) b 5).toInt64 * lZ 10))) := by
    have h0 : b ≠ β := hne 0 (by omega)
    refine ⟨fun a h1 => ?_, fun a h1 h2 h3 => ?_, ?_, ?_, ?_, ?_, 0, by omega, ?_, fun j hj => by omega, fun z _ _ => rfl⟩
    · dsimp only; rw [sI_ne h1, sI_ne h1]
    · dsimp only; rw [sL_ne h1, sL_ne h1, sL_ne h1]
    · dsimp only; rw [sI_eq, up_ne (by decide), sI_eq, up_eq]; exact r1
    · dsimp only; rw [sL_eq, uL_ne (by decide), sL_eq, uL_ne (by decide), sL_eq, uL_eq, sI_ne h0, r9]; simp (disch := omega) only [z_i8, z_i16, z_of, z_ofN, z_lofN, z_0, z_1, z_m1, z_l0, z_l1, iZ_add, iZ_sub, iZ_mul, iZ_neg, lZ_add, lZ_sub, lZ_mul, lZ_neg, z_div, z_ldiv, z_l, z_i, z_lt, z_le, z_eq, z_llt, z_lle, z_leq, z_cgt, z_cge, z_clt, z_cle, z_ceq, z_cl, z_nat, Int.toNat_natCast, mm_I, mm_J, z_cln, z_abs, z_max, z_min, z_lmax, z_lmin, z_sin, Int.cast_ofNat_Int]
    · dsimp only; rw [sL_eq, uL_ne (by decide), sL_eq, uL_eq, sI_ne h0, r2, r3]; simp (disch := omega) only [z_i8, z_i16, z_of, z_ofN, z_lofN, z_0, z_1, z_m1, z_l0, z_l1, iZ_add, iZ_sub, iZ_mul, iZ_neg, lZ_add, lZ_sub, lZ_mul, lZ_neg, z_div, z_ldiv, z_l, z_i, z_lt, z_le, z_eq, z_llt, z_lle, z_leq, z_cgt, z_cge, z_clt, z_cle, z_ceq, z_cl, z_nat, Int.toNat_natCast, mm_I, mm_J, z_cln, z_abs, z_max, z_min, z_lmax, z_lmin, z_sin, Int.cast_ofNat_Int]; congr 1; unfold tkU; show _ = _ + 0 + 0; omega
    · dsimp only; rw [sL_eq, uL_eq, sI_ne h0, r5]; simp (disch := omega) only [z_i8, z_i16, z_of, z_ofN, z_lofN, z_0, z_1, z_m1, z_l0, z_l1, iZ_add, iZ_sub, iZ_mul, iZ_neg, lZ_add, lZ_sub, lZ_mul, lZ_neg, z_div, z_ldiv, z_l, z_i, z_lt, z_le, z_eq, z_llt, z_lle, z_leq, z_cgt, z_cge, z_clt, z_cle, z_ceq, z_cl, z_nat, Int.toNat_natCast, mm_I, mm_J, z_cln, z_abs, z_max, z_min, z_lmax, z_lmin, z_sin, Int.cast_ofNat_Int]; congr 1; unfold tkM; show _ = _ + 0 + 0; omega
    · dsimp only; rw [sI_eq, up_eq]; rfl
  rcases hb with ⟨rfl, rfl⟩ | ⟨rfl, rfl⟩ | ⟨rfl, rfl⟩ | ⟨rfl, rfl⟩ | ⟨rfl, rfl⟩ | ⟨rfl, rfl⟩ | ⟨rfl, rfl⟩ | ⟨rfl, rfl⟩
  ·   refine wc (hs := [65, 197]) 80 (by decide) ?_
      refine wp_keys [0, 1, 2, 3] rfl rfl ?_
      have L := lpU (σ := ((Nat → Nat → Int32) × (Nat → Nat → Int64)) × Int32) (fun _ s => wp E d 1 65 [(0, .ref 236), (1, .ref 1), (2, .ref (1 + 2)), (3, .int s.2)] [] (mm s.1.1 s.1.2 (fun x => if x = 236 then some (1 + 1) else A x)) Q) (fun i s => TK I J A 236 v i 0 s.1 ∧ s.2 = iZ i) (nP v) ?_ ?_
      · exact L 0 ((_, _), _) (by omega) ⟨start, rfl⟩
      · rintro ⟨⟨I', J'⟩, x3⟩ ⟨hT, e3⟩
        dsimp only at hT e3
        subst e3
        refine wf (hs := [65, 197]) 80 65 (by decide) ?_
        refine wt (Int32.le_of_eq (gz _ _ _ _ hT).1) ?_
        refine wp_keys [0, 1, 2, 3, 4] rfl rfl ?_
        have L2 := lpU (σ := ((Nat → Nat → Int32) × (Nat → Nat → Int64)) × Int32) (fun _ s => wp E d 1 197 [(0, .ref 236), (1, .ref 1), (2, .ref (1 + 2)), (3, .ref (1 + 14)), (4, .int s.2)] [] (mm s.1.1 s.1.2 (fun x => if x = 236 then some (1 + 1) else A x)) Q) (fun i s => TK I J A 236 v (nP v) i s.1 ∧ s.2 = iZ i) (nC v) ?_ ?_
        · exact L2 0 ((_, _), _) (by omega) ⟨hT, rfl⟩
        · rintro ⟨⟨I', J'⟩, x4⟩ ⟨hT, e4⟩
          dsimp only at hT e4
          subst e4
          refine wf (hs := [65, 197]) 80 197 (by decide) ?_
          refine wt (Int32.le_of_eq (gz _ _ _ _ hT).2) ?_
          exact fin _ _ hT
        · rintro i ⟨⟨I', J'⟩, x4⟩ hi ⟨hT, e4⟩ ih
          dsimp only at hT e4
          subst e4
          have hin : vp_in (iZ (i : Int)) 6 := z_in (by omega) (by omega) (by omega)
          refine wf (hs := [65, 197]) 80 197 (by decide) ?_
          refine wF (by show ¬ I' (1 + 14) 0 ≤ iZ i; rw [(gz _ _ _ _ hT).2]; simp (disch := omega) only [z_i8, z_i16, z_of, z_ofN, z_lofN, z_0, z_1, z_m1, z_l0, z_l1, iZ_add, iZ_sub, iZ_mul, iZ_neg, lZ_add, lZ_sub, lZ_mul, lZ_neg, z_div, z_ldiv, z_l, z_i, z_lt, z_le, z_eq, z_llt, z_lle, z_leq, z_cgt, z_cge, z_clt, z_cle, z_ceq, z_cl, z_nat, Int.toNat_natCast, mm_I, mm_J, z_cln, z_abs, z_max, z_min, z_lmax, z_lmin, z_sin, Int.cast_ofNat_Int]; omega) ?_
          refine And.intro hin (And.intro hin (And.intro hin (And.intro hin (And.intro hin ?_))))
          refine wp_keys [0, 1, 2, 3, 4] rfl rfl ?_
          exact ih ((_, _), _) ⟨TK_cargo (I' := I') (J' := J') hT (gUc i I' J' hi hT) (gMc i I' J' hi hT), iZ_add i 1⟩
      · rintro i ⟨⟨I', J'⟩, x3⟩ hi ⟨hT, e3⟩ ih
        dsimp only at hT e3
        subst e3
        have hin : vp_in (iZ (i : Int)) 12 := z_in (by omega) (by omega) (by omega)
        have hB := gB _ _ _ hi hT
        have w := hW.2.2.1 i hi
        have bb := (blkB w).2
        refine wf (hs := [65, 197]) 80 65 (by decide) ?_
        refine wF (by show ¬ I' (1 + 2) 0 ≤ iZ i; rw [(gz _ _ _ _ hT).1]; simp (disch := omega) only [z_i8, z_i16, z_of, z_ofN, z_lofN, z_0, z_1, z_m1, z_l0, z_l1, iZ_add, iZ_sub, iZ_mul, iZ_neg, lZ_add, lZ_sub, lZ_mul, lZ_neg, z_div, z_ldiv, z_l, z_i, z_lt, z_le, z_eq, z_llt, z_lle, z_leq, z_cgt, z_cge, z_clt, z_cle, z_ceq, z_cl, z_nat, Int.toNat_natCast, mm_I, mm_J, z_cln, z_abs, z_max, z_min, z_lmax, z_lmin, z_sin, Int.cast_ofNat_Int]; omega) ?_
        refine And.intro hin (And.intro hin (And.intro hin (And.intro (by decide) (And.intro hin (And.intro hin ?_)))))
        refine And.intro (fun q => ?_) (fun q => ?_)
        · have q : I' (1 + 13) (iZ (i : Int)).toNatClampNeg ≤ 0 := q
          rw [hB.1] at q
          simp (disch := omega) only [z_i8, z_i16, z_of, z_ofN, z_lofN, z_0, z_1, z_m1, z_l0, z_l1, iZ_add, iZ_sub, iZ_mul, iZ_neg, lZ_add, lZ_sub, lZ_mul, lZ_neg, z_div, z_ldiv, z_l, z_i, z_lt, z_le, z_eq, z_llt, z_lle, z_leq, z_cgt, z_cge, z_clt, z_cle, z_ceq, z_cl, z_nat, Int.toNat_natCast, mm_I, mm_J, z_cln, z_abs, z_max, z_min, z_lmax, z_lmin, z_sin, Int.cast_ofNat_Int] at q
          refine wp_keys [0, 1, 2, 3] rfl rfl ?_
          exact ih ((_, _), _) ⟨TK_skip (I' := I') (J' := J') hT w (by omega) (gU i I' J' hi hT) (gM i I' J' hi hT), iZ_add i 1⟩
        · obtain ⟨l, hl, h5, -⟩ := id hT.2.2.2.2.2.2
          have h5 : I' 236 5 = iZ l := h5
          have hinl : vp_in (I' 236 5) 12 := by rw [h5]; exact z_in (by omega) (by omega) (by omega)
          have hcl : (I' 236 5).toNatClampNeg = l := by rw [h5]; exact z_cln (by omega)
          refine And.intro hin (And.intro hinl (And.intro hin (And.intro hinl ?_)))
          refine wp_keys [0, 1, 2, 3] rfl rfl ?_
          refine ih ((_, _), _) ⟨TK_more (I' := I') (J' := J') (m1 := (I' 236 5).toNatClampNeg) (m2 := (I' 236 5).toNatClampNeg) hT w h5 (by omega) (by omega) (gU i I' J' hi hT) (gM i I' J' hi hT) hB.2 ?_ ?_ hcl hcl, iZ_add i 1⟩
          · show (I' (1 + 13) (iZ (i : Int)).toNatClampNeg).toInt64 = _
            rw [hB.1]
            simp (disch := omega) only [z_i8, z_i16, z_of, z_ofN, z_lofN, z_0, z_1, z_m1, z_l0, z_l1, iZ_add, iZ_sub, iZ_mul, iZ_neg, lZ_add, lZ_sub, lZ_mul, lZ_neg, z_div, z_ldiv, z_l, z_i, z_lt, z_le, z_eq, z_llt, z_lle, z_leq, z_cgt, z_cge, z_clt, z_cle, z_ceq, z_cl, z_nat, Int.toNat_natCast, mm_I, mm_J, z_cln, z_abs, z_max, z_min, z_lmax, z_lmin, z_sin, Int.cast_ofNat_Int]
          · show I' 236 5 + 1 = _
            rw [h5]; exact iZ_add l 1
  ·   refine wc (hs := [65, 197]) 80 (by decide) ?_
      refine wp_keys [0, 1, 2, 3] rfl rfl ?_
      have L := lpU (σ := ((Nat → Nat → Int32) × (Nat → Nat → Int64)) × Int32) (fun _ s => wp E d 1 65 [(0, .ref 247), (1, .ref 1), (2, .ref (1 + 2)), (3, .int s.2)] [] (mm s.1.1 s.1.2 (fun x => if x = 247 then some (1 + 1) else A x)) Q) (fun i s => TK I J A 247 v i 0 s.1 ∧ s.2 = iZ i) (nP v) ?_ ?_
      · exact L 0 ((_, _), _) (by omega) ⟨start, rfl⟩
      · rintro ⟨⟨I', J'⟩, x3⟩ ⟨hT, e3⟩
        dsimp only at hT e3
        subst e3
        refine wf (hs := [65, 197]) 80 65 (by decide) ?_
        refine wt (Int32.le_of_eq (gz _ _ _ _ hT).1) ?_
        refine wp_keys [0, 1, 2, 3, 4] rfl rfl ?_
        have L2 := lpU (σ := ((Nat → Nat → Int32) × (Nat → Nat → Int64)) × Int32) (fun _ s => wp E d 1 197 [(0, .ref 247), (1, .ref 1), (2, .ref (1 + 2)), (3, .ref (1 + 14)), (4, .int s.2)] [] (mm s.1.1 s.1.2 (fun x => if x = 247 then some (1 + 1) else A x)) Q) (fun i s => TK I J A 247 v (nP v) i s.1 ∧ s.2 = iZ i) (nC v) ?_ ?_
        · exact L2 0 ((_, _), _) (by omega) ⟨hT, rfl⟩
        · rintro ⟨⟨I', J'⟩, x4⟩ ⟨hT, e4⟩
          dsimp only at hT e4
          subst e4
          refine wf (hs := [65, 197]) 80 197 (by decide) ?_
          refine wt (Int32.le_of_eq (gz _ _ _ _ hT).2) ?_
          exact fin _ _ hT
        · rintro i ⟨⟨I', J'⟩, x4⟩ hi ⟨hT, e4⟩ ih
          dsimp only at hT e4
          subst e4
          have hin : vp_in (iZ (i : Int)) 6 := z_in (by omega) (by omega) (by omega)
          refine wf (hs := [65, 197]) 80 197 (by decide) ?_
          refine wF (by show ¬ I' (1 + 14) 0 ≤ iZ i; rw [(gz _ _ _ _ hT).2]; simp (disch := omega) only [z_i8, z_i16, z_of, z_ofN, z_lofN, z_0, z_1, z_m1, z_l0, z_l1, iZ_add, iZ_sub, iZ_mul, iZ_neg, lZ_add, lZ_sub, lZ_mul, lZ_neg, z_div, z_ldiv, z_l, z_i, z_lt, z_le, z_eq, z_llt, z_lle, z_leq, z_cgt, z_cge, z_clt, z_cle, z_ceq, z_cl, z_nat, Int.toNat_natCast, mm_I, mm_J, z_cln, z_abs, z_max, z_min, z_lmax, z_lmin, z_sin, Int.cast_ofNat_Int]; omega) ?_
          refine And.intro hin (And.intro hin (And.intro hin (And.intro hin (And.intro hin ?_))))
          refine wp_keys [0, 1, 2, 3, 4] rfl rfl ?_
          exact ih ((_, _), _) ⟨TK_cargo (I' := I') (J' := J') hT (gUc i I' J' hi hT) (gMc i I' J' hi hT), iZ_add i 1⟩
      · rintro i ⟨⟨I', J'⟩, x3⟩ hi ⟨hT, e3⟩ ih
        dsimp only at hT e3
        subst e3
        have hin : vp_in (iZ (i : Int)) 12 := z_in (by omega) (by omega) (by omega)
        have hB := gB _ _ _ hi hT
        have w := hW.2.2.1 i hi
        have bb := (blkB w).2
        refine wf (hs := [65, 197]) 80 65 (by decide) ?_
        refine wF (by show ¬ I' (1 + 2) 0 ≤ iZ i; rw [(gz _ _ _ _ hT).1]; simp (disch := omega) only [z_i8, z_i16, z_of, z_ofN, z_lofN, z_0, z_1, z_m1, z_l0, z_l1, iZ_add, iZ_sub, iZ_mul, iZ_neg, lZ_add, lZ_sub, lZ_mul, lZ_neg, z_div, z_ldiv, z_l, z_i, z_lt, z_le, z_eq, z_llt, z_lle, z_leq, z_cgt, z_cge, z_clt, z_cle, z_ceq, z_cl, z_nat, Int.toNat_natCast, mm_I, mm_J, z_cln, z_abs, z_max, z_min, z_lmax, z_lmin, z_sin, Int.cast_ofNat_Int]; omega) ?_
        refine And.intro hin (And.intro hin (And.intro hin (And.intro (by decide) (And.intro hin (And.intro hin ?_)))))
        refine And.intro (fun q => ?_) (fun q => ?_)
        · have q : I' (1 + 13) (iZ (i : Int)).toNatClampNeg ≤ 0 := q
          rw [hB.1] at q
          simp (disch := omega) only [z_i8, z_i16, z_of, z_ofN, z_lofN, z_0, z_1, z_m1, z_l0, z_l1, iZ_add, iZ_sub, iZ_mul, iZ_neg, lZ_add, lZ_sub, lZ_mul, lZ_neg, z_div, z_ldiv, z_l, z_i, z_lt, z_le, z_eq, z_llt, z_lle, z_leq, z_cgt, z_cge, z_clt, z_cle, z_ceq, z_cl, z_nat, Int.toNat_natCast, mm_I, mm_J, z_cln, z_abs, z_max, z_min, z_lmax, z_lmin, z_sin, Int.cast_ofNat_Int] at q
          refine wp_keys [0, 1, 2, 3] rfl rfl ?_
          exact ih ((_, _), _) ⟨TK_skip (I' := I') (J' := J') hT w (by omega) (gU i I' J' hi hT) (gM i I' J' hi hT), iZ_add i 1⟩
        · obtain ⟨l, hl, h5, -⟩ := id hT.2.2.2.2.2.2
          have h5 : I' 247 5 = iZ l := h5
          have hinl : vp_in (I' 247 5) 12 := by rw [h5]; exact z_in (by omega) (by omega) (by omega)
          have hcl : (I' 247 5).toNatClampNeg = l := by rw [h5]; exact z_cln (by omega)
          refine And.intro hin (And.intro hinl (And.intro hin (And.intro hinl ?_)))
          refine wp_keys [0, 1, 2, 3] rfl rfl ?_
          refine ih ((_, _), _) ⟨TK_more (I' := I') (J' := J') (m1 := (I' 247 5).toNatClampNeg) (m2 := (I' 247 5).toNatClampNeg) hT w h5 (by omega) (by omega) (gU i I' J' hi hT) (gM i I' J' hi hT) hB.2 ?_ ?_ hcl hcl, iZ_add i 1⟩
          · show (I' (1 + 13) (iZ (i : Int)).toNatClampNeg).toInt64 = _
            rw [hB.1]
            simp (disch := omega) only [z_i8, z_i16, z_of, z_ofN, z_lofN, z_0, z_1, z_m1, z_l0, z_l1, iZ_add, iZ_sub, iZ_mul, iZ_neg, lZ_add, lZ_sub, lZ_mul, lZ_neg, z_div, z_ldiv, z_l, z_i, z_lt, z_le, z_eq, z_llt, z_lle, z_leq, z_cgt, z_cge, z_clt, z_cle, z_ceq, z_cl, z_nat, Int.toNat_natCast, mm_I, mm_J, z_cln, z_abs, z_max, z_min, z_lmax, z_lmin, z_sin, Int.cast_ofNat_Int]
          · show I' 247 5 + 1 = _
            rw [h5]; exact iZ_add l 1
  ·   refine wc (hs := [65, 197]) 80 (by decide) ?_
      refine wp_keys [0, 1, 2, 3] rfl rfl ?_
      have L := lpU (σ := ((Nat → Nat → Int32) × (Nat → Nat → Int64)) × Int32) (fun _ s => wp E d 1 65 [(0, .ref 256), (1, .ref 1), (2, .ref (1 + 2)), (3, .int s.2)] [] (mm s.1.1 s.1.2 (fun x => if x = 256 then some (1 + 1) else A x)) Q) (fun i s => TK I J A 256 v i 0 s.1 ∧ s.2 = iZ i) (nP v) ?_ ?_
      · exact L 0 ((_, _), _) (by omega) ⟨start, rfl⟩
      · rintro ⟨⟨I', J'⟩, x3⟩ ⟨hT, e3⟩
        dsimp only at hT e3
        subst e3
        refine wf (hs := [65, 197]) 80 65 (by decide) ?_
        refine wt (Int32.le_of_eq (gz _ _ _ _ hT).1) ?_
        refine wp_keys [0, 1, 2, 3, 4] rfl rfl ?_
        have L2 := lpU (σ := ((Nat → Nat → Int32) × (Nat → Nat → Int64)) × Int32) (fun _ s => wp E d 1 197 [(0, .ref 256), (1, .ref 1), (2, .ref (1 + 2)), (3, .ref (1 + 14)), (4, .int s.2)] [] (mm s.1.1 s.1.2 (fun x => if x = 256 then some (1 + 1) else A x)) Q) (fun i s => TK I J A 256 v (nP v) i s.1 ∧ s.2 = iZ i) (nC v) ?_ ?_
        · exact L2 0 ((_, _), _) (by omega) ⟨hT, rfl⟩
        · rintro ⟨⟨I', J'⟩, x4⟩ ⟨hT, e4⟩
          dsimp only at hT e4
          subst e4
          refine wf (hs := [65, 197]) 80 197 (by decide) ?_
          refine wt (Int32.le_of_eq (gz _ _ _ _ hT).2) ?_
          exact fin _ _ hT
        · rintro i ⟨⟨I', J'⟩, x4⟩ hi ⟨hT, e4⟩ ih
          dsimp only at hT e4
          subst e4
          have hin : vp_in (iZ (i : Int)) 6 := z_in (by omega) (by omega) (by omega)
          refine wf (hs := [65, 197]) 80 197 (by decide) ?_
          refine wF (by show ¬ I' (1 + 14) 0 ≤ iZ i; rw [(gz _ _ _ _ hT).2]; simp (disch := omega) only [z_i8, z_i16, z_of, z_ofN, z_lofN, z_0, z_1, z_m1, z_l0, z_l1, iZ_add, iZ_sub, iZ_mul, iZ_neg, lZ_add, lZ_sub, lZ_mul, lZ_neg, z_div, z_ldiv, z_l, z_i, z_lt, z_le, z_eq, z_llt, z_lle, z_leq, z_cgt, z_cge, z_clt, z_cle, z_ceq, z_cl, z_nat, Int.toNat_natCast, mm_I, mm_J, z_cln, z_abs, z_max, z_min, z_lmax, z_lmin, z_sin, Int.cast_ofNat_Int]; omega) ?_
          refine And.intro hin (And.intro hin (And.intro hin (And.intro hin (And.intro hin ?_))))
          refine wp_keys [0, 1, 2, 3, 4] rfl rfl ?_
          exact ih ((_, _), _) ⟨TK_cargo (I' := I') (J' := J') hT (gUc i I' J' hi hT) (gMc i I' J' hi hT), iZ_add i 1⟩
      · rintro i ⟨⟨I', J'⟩, x3⟩ hi ⟨hT, e3⟩ ih
        dsimp only at hT e3
        subst e3
        have hin : vp_in (iZ (i : Int)) 12 := z_in (by omega) (by omega) (by omega)
        have hB := gB _ _ _ hi hT
        have w := hW.2.2.1 i hi
        have bb := (blkB w).2
        refine wf (hs := [65, 197]) 80 65 (by decide) ?_
        refine wF (by show ¬ I' (1 + 2) 0 ≤ iZ i; rw [(gz _ _ _ _ hT).1]; simp (disch := omega) only [z_i8, z_i16, z_of, z_ofN, z_lofN, z_0, z_1, z_m1, z_l0, z_l1, iZ_add, iZ_sub, iZ_mul, iZ_neg, lZ_add, lZ_sub, lZ_mul, lZ_neg, z_div, z_ldiv, z_l, z_i, z_lt, z_le, z_eq, z_llt, z_lle, z_leq, z_cgt, z_cge, z_clt, z_cle, z_ceq, z_cl, z_nat, Int.toNat_natCast, mm_I, mm_J, z_cln, z_abs, z_max, z_min, z_lmax, z_lmin, z_sin, Int.cast_ofNat_Int]; omega) ?_
        refine And.intro hin (And.intro hin (And.intro hin (And.intro (by decide) (And.intro hin (And.intro hin ?_)))))
        refine And.intro (fun q => ?_) (fun q => ?_)
        · have q : I' (1 + 13) (iZ (i : Int)).toNatClampNeg ≤ 0 := q
          rw [hB.1] at q
          simp (disch := omega) only [z_i8, z_i16, z_of, z_ofN, z_lofN, z_0, z_1, z_m1, z_l0, z_l1, iZ_add, iZ_sub, iZ_mul, iZ_neg, lZ_add, lZ_sub, lZ_mul, lZ_neg, z_div, z_ldiv, z_l, z_i, z_lt, z_le, z_eq, z_llt, z_lle, z_leq, z_cgt, z_cge, z_clt, z_cle, z_ceq, z_cl, z_nat, Int.toNat_natCast, mm_I, mm_J, z_cln, z_abs, z_max, z_min, z_lmax, z_lmin, z_sin, Int.cast_ofNat_Int] at q
          refine wp_keys [0, 1, 2, 3] rfl rfl ?_
          exact ih ((_, _), _) ⟨TK_skip (I' := I') (J' := J') hT w (by omega) (gU i I' J' hi hT) (gM i I' J' hi hT), iZ_add i 1⟩
        · obtain ⟨l, hl, h5, -⟩ := id hT.2.2.2.2.2.2
          have h5 : I' 256 5 = iZ l := h5
          have hinl : vp_in (I' 256 5) 12 := by rw [h5]; exact z_in (by omega) (by omega) (by omega)
          have hcl : (I' 256 5).toNatClampNeg = l := by rw [h5]; exact z_cln (by omega)
          refine And.intro hin (And.intro hinl (And.intro hin (And.intro hinl ?_)))
          refine wp_keys [0, 1, 2, 3] rfl rfl ?_
          refine ih ((_, _), _) ⟨TK_more (I' := I') (J' := J') (m1 := (I' 256 5).toNatClampNeg) (m2 := (I' 256 5).toNatClampNeg) hT w h5 (by omega) (by omega) (gU i I' J' hi hT) (gM i I' J' hi hT) hB.2 ?_ ?_ hcl hcl, iZ_add i 1⟩
          · show (I' (1 + 13) (iZ (i : Int)).toNatClampNeg).toInt64 = _
            rw [hB.1]
            simp (disch := omega) only [z_i8, z_i16, z_of, z_ofN, z_lofN, z_0, z_1, z_m1, z_l0, z_l1, iZ_add, iZ_sub, iZ_mul, iZ_neg, lZ_add, lZ_sub, lZ_mul, lZ_neg, z_div, z_ldiv, z_l, z_i, z_lt, z_le, z_eq, z_llt, z_lle, z_leq, z_cgt, z_cge, z_clt, z_cle, z_ceq, z_cl, z_nat, Int.toNat_natCast, mm_I, mm_J, z_cln, z_abs, z_max, z_min, z_lmax, z_lmin, z_sin, Int.cast_ofNat_Int]
          · show I' 256 5 + 1 = _
            rw [h5]; exact iZ_add l 1
  ·   refine wc (hs := [65, 197]) 80 (by decide) ?_
      refine wp_keys [0, 1, 2, 3] rfl rfl ?_
      have L := lpU (σ := ((Nat → Nat → Int32) × (Nat → Nat → Int64)) × Int32) (fun _ s => wp E d 1 65 [(0, .ref 241), (1, .ref 1), (2, .ref (1 + 2)), (3, .int s.2)] [] (mm s.1.1 s.1.2 (fun x => if x = 241 then some (1 + 1) else A x)) Q) (fun i s => TK I J A 241 v i 0 s.1 ∧ s.2 = iZ i) (nP v) ?_ ?_
      · exact L 0 ((_, _), _) (by omega) ⟨start, rfl⟩
      · rintro ⟨⟨I', J'⟩, x3⟩ ⟨hT, e3⟩
        dsimp only at hT e3
        subst e3
        refine wf (hs := [65, 197]) 80 65 (by decide) ?_
        refine wt (Int32.le_of_eq (gz _ _ _ _ hT).1) ?_
        refine wp_keys [0, 1, 2, 3, 4] rfl rfl ?_
        have L2 := lpU (σ := ((Nat → Nat → Int32) × (Nat → Nat → Int64)) × Int32) (fun _ s => wp E d 1 197 [(0, .ref 241), (1, .ref 1), (2, .ref (1 + 2)), (3, .ref (1 + 14)), (4, .int s.2)] [] (mm s.1.1 s.1.2 (fun x => if x = 241 then some (1 + 1) else A x)) Q) (fun i s => TK I J A 241 v (nP v) i s.1 ∧ s.2 = iZ i) (nC v) ?_ ?_
        · exact L2 0 ((_, _), _) (by omega) ⟨hT, rfl⟩
        · rintro ⟨⟨I', J'⟩, x4⟩ ⟨hT, e4⟩
          dsimp only at hT e4
          subst e4
          refine wf (hs := [65, 197]) 80 197 (by decide) ?_
          refine wt (Int32.le_of_eq (gz _ _ _ _ hT).2) ?_
          exact fin _ _ hT
        · rintro i ⟨⟨I', J'⟩, x4⟩ hi ⟨hT, e4⟩ ih
          dsimp only at hT e4
          subst e4
          have hin : vp_in (iZ (i : Int)) 6 := z_in (by omega) (by omega) (by omega)
          refine wf (hs := [65, 197]) 80 197 (by decide) ?_
          refine wF (by show ¬ I' (1 + 14) 0 ≤ iZ i; rw [(gz _ _ _ _ hT).2]; simp (disch := omega) only [z_i8, z_i16, z_of, z_ofN, z_lofN, z_0, z_1, z_m1, z_l0, z_l1, iZ_add, iZ_sub, iZ_mul, iZ_neg, lZ_add, lZ_sub, lZ_mul, lZ_neg, z_div, z_ldiv, z_l, z_i, z_lt, z_le, z_eq, z_llt, z_lle, z_leq, z_cgt, z_cge, z_clt, z_cle, z_ceq, z_cl, z_nat, Int.toNat_natCast, mm_I, mm_J, z_cln, z_abs, z_max, z_min, z_lmax, z_lmin, z_sin, Int.cast_ofNat_Int]; omega) ?_
          refine And.intro hin (And.intro hin (And.intro hin (And.intro hin (And.intro hin ?_))))
          refine wp_keys [0, 1, 2, 3, 4] rfl rfl ?_
          exact ih ((_, _), _) ⟨TK_cargo (I' := I') (J' := J') hT (gUc i I' J' hi hT) (gMc i I' J' hi hT), iZ_add i 1⟩
      · rintro i ⟨⟨I', J'⟩, x3⟩ hi ⟨hT, e3⟩ ih
        dsimp only at hT e3
        subst e3
        have hin : vp_in (iZ (i : Int)) 12 := z_in (by omega) (by omega) (by omega)
        have hB := gB _ _ _ hi hT
        have w := hW.2.2.1 i hi
        have bb := (blkB w).2
        refine wf (hs := [65, 197]) 80 65 (by decide) ?_
        refine wF (by show ¬ I' (1 + 2) 0 ≤ iZ i; rw [(gz _ _ _ _ hT).1]; simp (disch := omega) only [z_i8, z_i16, z_of, z_ofN, z_lofN, z_0, z_1, z_m1, z_l0, z_l1, iZ_add, iZ_sub, iZ_mul, iZ_neg, lZ_add, lZ_sub, lZ_mul, lZ_neg, z_div, z_ldiv, z_l, z_i, z_lt, z_le, z_eq, z_llt, z_lle, z_leq, z_cgt, z_cge, z_clt, z_cle, z_ceq, z_cl, z_nat, Int.toNat_natCast, mm_I, mm_J, z_cln, z_abs, z_max, z_min, z_lmax, z_lmin, z_sin, Int.cast_ofNat_Int]; omega) ?_
        refine And.intro hin (And.intro hin (And.intro hin (And.intro (by decide) (And.intro hin (And.intro hin ?_)))))
        refine And.intro (fun q => ?_) (fun q => ?_)
        · have q : I' (1 + 13) (iZ (i : Int)).toNatClampNeg ≤ 0 := q
          rw [hB.1] at q
          simp (disch := omega) only [z_i8, z_i16, z_of, z_ofN, z_lofN, z_0, z_1, z_m1, z_l0, z_l1, iZ_add, iZ_sub, iZ_mul, iZ_neg, lZ_add, lZ_sub, lZ_mul, lZ_neg, z_div, z_ldiv, z_l, z_i, z_lt, z_le, z_eq, z_llt, z_lle, z_leq, z_cgt, z_cge, z_clt, z_cle, z_ceq, z_cl, z_nat, Int.toNat_natCast, mm_I, mm_J, z_cln, z_abs, z_max, z_min, z_lmax, z_lmin, z_sin, Int.cast_ofNat_Int] at q
          refine wp_keys [0, 1, 2, 3] rfl rfl ?_
          exact ih ((_, _), _) ⟨TK_skip (I' := I') (J' := J') hT w (by omega) (gU i I' J' hi hT) (gM i I' J' hi hT), iZ_add i 1⟩
        · obtain ⟨l, hl, h5, -⟩ := id hT.2.2.2.2.2.2
          have h5 : I' 241 5 = iZ l := h5
          have hinl : vp_in (I' 241 5) 12 := by rw [h5]; exact z_in (by omega) (by omega) (by omega)
          have hcl : (I' 241 5).toNatClampNeg = l := by rw [h5]; exact z_cln (by omega)
          refine And.intro hin (And.intro hinl (And.intro hin (And.intro hinl ?_)))
          refine wp_keys [0, 1, 2, 3] rfl rfl ?_
          refine ih ((_, _), _) ⟨TK_more (I' := I') (J' := J') (m1 := (I' 241 5).toNatClampNeg) (m2 := (I' 241 5).toNatClampNeg) hT w h5 (by omega) (by omega) (gU i I' J' hi hT) (gM i I' J' hi hT) hB.2 ?_ ?_ hcl hcl, iZ_add i 1⟩
          · show (I' (1 + 13) (iZ (i : Int)).toNatClampNeg).toInt64 = _
            rw [hB.1]
            simp (disch := omega) only [z_i8, z_i16, z_of, z_ofN, z_lofN, z_0, z_1, z_m1, z_l0, z_l1, iZ_add, iZ_sub, iZ_mul, iZ_neg, lZ_add, lZ_sub, lZ_mul, lZ_neg, z_div, z_ldiv, z_l, z_i, z_lt, z_le, z_eq, z_llt, z_lle, z_leq, z_cgt, z_cge, z_clt, z_cle, z_ceq, z_cl, z_nat, Int.toNat_natCast, mm_I, mm_J, z_cln, z_abs, z_max, z_min, z_lmax, z_lmin, z_sin, Int.cast_ofNat_Int]
          · show I' 241 5 + 1 = _
            rw [h5]; exact iZ_add l 1
  ·   refine wc (hs := [65, 197]) 80 (by decide) ?_
      refine wp_keys [0, 1, 2, 3] rfl rfl ?_
      have L := lpU (σ := ((Nat → Nat → Int32) × (Nat → Nat → Int64)) × Int32) (fun _ s => wp E d 1 65 [(0, .ref 241), (1, .ref 35), (2, .ref (35 + 2)), (3, .int s.2)] [] (mm s.1.1 s.1.2 (fun x => if x = 241 then some (35 + 1) else A x)) Q) (fun i s => TK I J A 241 v i 0 s.1 ∧ s.2 = iZ i) (nP v) ?_ ?_
      · exact L 0 ((_, _), _) (by omega) ⟨start, rfl⟩
      · rintro ⟨⟨I', J'⟩, x3⟩ ⟨hT, e3⟩
        dsimp only at hT e3
        subst e3
        refine wf (hs := [65, 197]) 80 65 (by decide) ?_
        refine wt (Int32.le_of_eq (gz _ _ _ _ hT).1) ?_
        refine wp_keys [0, 1, 2, 3, 4] rfl rfl ?_
        have L2 := lpU (σ := ((Nat → Nat → Int32) × (Nat → Nat → Int64)) × Int32) (fun _ s => wp E d 1 197 [(0, .ref 241), (1, .ref 35), (2, .ref (35 + 2)), (3, .ref (35 + 14)), (4, .int s.2)] [] (mm s.1.1 s.1.2 (fun x => if x = 241 then some (35 + 1) else A x)) Q) (fun i s => TK I J A 241 v (nP v) i s.1 ∧ s.2 = iZ i) (nC v) ?_ ?_
        · exact L2 0 ((_, _), _) (by omega) ⟨hT, rfl⟩
        · rintro ⟨⟨I', J'⟩, x4⟩ ⟨hT, e4⟩
          dsimp only at hT e4
          subst e4
          refine wf (hs := [65, 197]) 80 197 (by decide) ?_
          refine wt (Int32.le_of_eq (gz _ _ _ _ hT).2) ?_
          exact fin _ _ hT
        · rintro i ⟨⟨I', J'⟩, x4⟩ hi ⟨hT, e4⟩ ih
          dsimp only at hT e4
          subst e4
          have hin : vp_in (iZ (i : Int)) 6 := z_in (by omega) (by omega) (by omega)
          refine wf (hs := [65, 197]) 80 197 (by decide) ?_
          refine wF (by show ¬ I' (35 + 14) 0 ≤ iZ i; rw [(gz _ _ _ _ hT).2]; simp (disch := omega) only [z_i8, z_i16, z_of, z_ofN, z_lofN, z_0, z_1, z_m1, z_l0, z_l1, iZ_add, iZ_sub, iZ_mul, iZ_neg, lZ_add, lZ_sub, lZ_mul, lZ_neg, z_div, z_ldiv, z_l, z_i, z_lt, z_le, z_eq, z_llt, z_lle, z_leq, z_cgt, z_cge, z_clt, z_cle, z_ceq, z_cl, z_nat, Int.toNat_natCast, mm_I, mm_J, z_cln, z_abs, z_max, z_min, z_lmax, z_lmin, z_sin, Int.cast_ofNat_Int]; omega) ?_
          refine And.intro hin (And.intro hin (And.intro hin (And.intro hin (And.intro hin ?_))))
          refine wp_keys [0, 1, 2, 3, 4] rfl rfl ?_
          exact ih ((_, _), _) ⟨TK_cargo (I' := I') (J' := J') hT (gUc i I' J' hi hT) (gMc i I' J' hi hT), iZ_add i 1⟩
      · rintro i ⟨⟨I', J'⟩, x3⟩ hi ⟨hT, e3⟩ ih
        dsimp only at hT e3
        subst e3
        have hin : vp_in (iZ (i : Int)) 12 := z_in (by omega) (by omega) (by omega)
        have hB := gB _ _ _ hi hT
        have w := hW.2.2.1 i hi
        have bb := (blkB w).2
        refine wf (hs := [65, 197]) 80 65 (by decide) ?_
        refine wF (by show ¬ I' (35 + 2) 0 ≤ iZ i; rw [(gz _ _ _ _ hT).1]; simp (disch := omega) only [z_i8, z_i16, z_of, z_ofN, z_lofN, z_0, z_1, z_m1, z_l0, z_l1, iZ_add, iZ_sub, iZ_mul, iZ_neg, lZ_add, lZ_sub, lZ_mul, lZ_neg, z_div, z_ldiv, z_l, z_i, z_lt, z_le, z_eq, z_llt, z_lle, z_leq, z_cgt, z_cge, z_clt, z_cle, z_ceq, z_cl, z_nat, Int.toNat_natCast, mm_I, mm_J, z_cln, z_abs, z_max, z_min, z_lmax, z_lmin, z_sin, Int.cast_ofNat_Int]; omega) ?_
        refine And.intro hin (And.intro hin (And.intro hin (And.intro (by decide) (And.intro hin (And.intro hin ?_)))))
        refine And.intro (fun q => ?_) (fun q => ?_)
        · have q : I' (35 + 13) (iZ (i : Int)).toNatClampNeg ≤ 0 := q
          rw [hB.1] at q
          simp (disch := omega) only [z_i8, z_i16, z_of, z_ofN, z_lofN, z_0, z_1, z_m1, z_l0, z_l1, iZ_add, iZ_sub, iZ_mul, iZ_neg, lZ_add, lZ_sub, lZ_mul, lZ_neg, z_div, z_ldiv, z_l, z_i, z_lt, z_le, z_eq, z_llt, z_lle, z_leq, z_cgt, z_cge, z_clt, z_cle, z_ceq, z_cl, z_nat, Int.toNat_natCast, mm_I, mm_J, z_cln, z_abs, z_max, z_min, z_lmax, z_lmin, z_sin, Int.cast_ofNat_Int] at q
          refine wp_keys [0, 1, 2, 3] rfl rfl ?_
          exact ih ((_, _), _) ⟨TK_skip (I' := I') (J' := J') hT w (by omega) (gU i I' J' hi hT) (gM i I' J' hi hT), iZ_add i 1⟩
        · obtain ⟨l, hl, h5, -⟩ := id hT.2.2.2.2.2.2
          have h5 : I' 241 5 = iZ l := h5
          have hinl : vp_in (I' 241 5) 12 := by rw [h5]; exact z_in (by omega) (by omega) (by omega)
          have hcl : (I' 241 5).toNatClampNeg = l := by rw [h5]; exact z_cln (by omega)
          refine And.intro hin (And.intro hinl (And.intro hin (And.intro hinl ?_)))
          refine wp_keys [0, 1, 2, 3] rfl rfl ?_
          refine ih ((_, _), _) ⟨TK_more (I' := I') (J' := J') (m1 := (I' 241 5).toNatClampNeg) (m2 := (I' 241 5).toNatClampNeg) hT w h5 (by omega) (by omega) (gU i I' J' hi hT) (gM i I' J' hi hT) hB.2 ?_ ?_ hcl hcl, iZ_add i 1⟩
          · show (I' (35 + 13) (iZ (i : Int)).toNatClampNeg).toInt64 = _
            rw [hB.1]
            simp (disch := omega) only [z_i8, z_i16, z_of, z_ofN, z_lofN, z_0, z_1, z_m1, z_l0, z_l1, iZ_add, iZ_sub, iZ_mul, iZ_neg, lZ_add, lZ_sub, lZ_mul, lZ_neg, z_div, z_ldiv, z_l, z_i, z_lt, z_le, z_eq, z_llt, z_lle, z_leq, z_cgt, z_cge, z_clt, z_cle, z_ceq, z_cl, z_nat, Int.toNat_natCast, mm_I, mm_J, z_cln, z_abs, z_max, z_min, z_lmax, z_lmin, z_sin, Int.cast_ofNat_Int]
          · show I' 241 5 + 1 = _
            rw [h5]; exact iZ_add l 1
  ·   refine wc (hs := [65, 197]) 80 (by decide) ?_
      refine wp_keys [0, 1, 2, 3] rfl rfl ?_
      have L := lpU (σ := ((Nat → Nat → Int32) × (Nat → Nat → Int64)) × Int32) (fun _ s => wp E d 1 65 [(0, .ref 241), (1, .ref 68), (2, .ref (68 + 2)), (3, .int s.2)] [] (mm s.1.1 s.1.2 (fun x => if x = 241 then some (68 + 1) else A x)) Q) (fun i s => TK I J A 241 v i 0 s.1 ∧ s.2 = iZ i) (nP v) ?_ ?_
      · exact L 0 ((_, _), _) (by omega) ⟨start, rfl⟩
      · rintro ⟨⟨I', J'⟩, x3⟩ ⟨hT, e3⟩
        dsimp only at hT e3
        subst e3
        refine wf (hs := [65, 197]) 80 65 (by decide) ?_
        refine wt (Int32.le_of_eq (gz _ _ _ _ hT).1) ?_
        refine wp_keys [0, 1, 2, 3, 4] rfl rfl ?_
        have L2 := lpU (σ := ((Nat → Nat → Int32) × (Nat → Nat → Int64)) × Int32) (fun _ s => wp E d 1 197 [(0, .ref 241), (1, .ref 68), (2, .ref (68 + 2)), (3, .ref (68 + 14)), (4, .int s.2)] [] (mm s.1.1 s.1.2 (fun x => if x = 241 then some (68 + 1) else A x)) Q) (fun i s => TK I J A 241 v (nP v) i s.1 ∧ s.2 = iZ i) (nC v) ?_ ?_
        · exact L2 0 ((_, _), _) (by omega) ⟨hT, rfl⟩
        · rintro ⟨⟨I', J'⟩, x4⟩ ⟨hT, e4⟩
          dsimp only at hT e4
          subst e4
          refine wf (hs := [65, 197]) 80 197 (by decide) ?_
          refine wt (Int32.le_of_eq (gz _ _ _ _ hT).2) ?_
          exact fin _ _ hT
        · rintro i ⟨⟨I', J'⟩, x4⟩ hi ⟨hT, e4⟩ ih
          dsimp only at hT e4
          subst e4
          have hin : vp_in (iZ (i : Int)) 6 := z_in (by omega) (by omega) (by omega)
          refine wf (hs := [65, 197]) 80 197 (by decide) ?_
          refine wF (by show ¬ I' (68 + 14) 0 ≤ iZ i; rw [(gz _ _ _ _ hT).2]; simp (disch := omega) only [z_i8, z_i16, z_of, z_ofN, z_lofN, z_0, z_1, z_m1, z_l0, z_l1, iZ_add, iZ_sub, iZ_mul, iZ_neg, lZ_add, lZ_sub, lZ_mul, lZ_neg, z_div, z_ldiv, z_l, z_i, z_lt, z_le, z_eq, z_llt, z_lle, z_leq, z_cgt, z_cge, z_clt, z_cle, z_ceq, z_cl, z_nat, Int.toNat_natCast, mm_I, mm_J, z_cln, z_abs, z_max, z_min, z_lmax, z_lmin, z_sin, Int.cast_ofNat_Int]; omega) ?_
          refine And.intro hin (And.intro hin (And.intro hin (And.intro hin (And.intro hin ?_))))
          refine wp_keys [0, 1, 2, 3, 4] rfl rfl ?_
          exact ih ((_, _), _) ⟨TK_cargo (I' := I') (J' := J') hT (gUc i I' J' hi hT) (gMc i I' J' hi hT), iZ_add i 1⟩
      · rintro i ⟨⟨I', J'⟩, x3⟩ hi ⟨hT, e3⟩ ih
        dsimp only at hT e3
        subst e3
        have hin : vp_in (iZ (i : Int)) 12 := z_in (by omega) (by omega) (by omega)
        have hB := gB _ _ _ hi hT
        have w := hW.2.2.1 i hi
        have bb := (blkB w).2
        refine wf (hs := [65, 197]) 80 65 (by decide) ?_
        refine wF (by show ¬ I' (68 + 2) 0 ≤ iZ i; rw [(gz _ _ _ _ hT).1]; simp (disch := omega) only [z_i8, z_i16, z_of, z_ofN, z_lofN, z_0, z_1, z_m1, z_l0, z_l1, iZ_add, iZ_sub, iZ_mul, iZ_neg, lZ_add, lZ_sub, lZ_mul, lZ_neg, z_div, z_ldiv, z_l, z_i, z_lt, z_le, z_eq, z_llt, z_lle, z_leq, z_cgt, z_cge, z_clt, z_cle, z_ceq, z_cl, z_nat, Int.toNat_natCast, mm_I, mm_J, z_cln, z_abs, z_max, z_min, z_lmax, z_lmin, z_sin, Int.cast_ofNat_Int]; omega) ?_
        refine And.intro hin (And.intro hin (And.intro hin (And.intro (by decide) (And.intro hin (And.intro hin ?_)))))
        refine And.intro (fun q => ?_) (fun q => ?_)
        · have q : I' (68 + 13) (iZ (i : Int)).toNatClampNeg ≤ 0 := q
          rw [hB.1] at q
          simp (disch := omega) only [z_i8, z_i16, z_of, z_ofN, z_lofN, z_0, z_1, z_m1, z_l0, z_l1, iZ_add, iZ_sub, iZ_mul, iZ_neg, lZ_add, lZ_sub, lZ_mul, lZ_neg, z_div, z_ldiv, z_l, z_i, z_lt, z_le, z_eq, z_llt, z_lle, z_leq, z_cgt, z_cge, z_clt, z_cle, z_ceq, z_cl, z_nat, Int.toNat_natCast, mm_I, mm_J, z_cln, z_abs, z_max, z_min, z_lmax, z_lmin, z_sin, Int.cast_ofNat_Int] at q
          refine wp_keys [0, 1, 2, 3] rfl rfl ?_
          exact ih ((_, _), _) ⟨TK_skip (I' := I') (J' := J') hT w (by omega) (gU i I' J' hi hT) (gM i I' J' hi hT), iZ_add i 1⟩
        · obtain ⟨l, hl, h5, -⟩ := id hT.2.2.2.2.2.2
          have h5 : I' 241 5 = iZ l := h5
          have hinl : vp_in (I' 241 5) 12 := by rw [h5]; exact z_in (by omega) (by omega) (by omega)
          have hcl : (I' 241 5).toNatClampNeg = l := by rw [h5]; exact z_cln (by omega)
          refine And.intro hin (And.intro hinl (And.intro hin (And.intro hinl ?_)))
          refine wp_keys [0, 1, 2, 3] rfl rfl ?_
          refine ih ((_, _), _) ⟨TK_more (I' := I') (J' := J') (m1 := (I' 241 5).toNatClampNeg) (m2 := (I' 241 5).toNatClampNeg) hT w h5 (by omega) (by omega) (gU i I' J' hi hT) (gM i I' J' hi hT) hB.2 ?_ ?_ hcl hcl, iZ_add i 1⟩
          · show (I' (68 + 13) (iZ (i : Int)).toNatClampNeg).toInt64 = _
            rw [hB.1]
            simp (disch := omega) only [z_i8, z_i16, z_of, z_ofN, z_lofN, z_0, z_1, z_m1, z_l0, z_l1, iZ_add, iZ_sub, iZ_mul, iZ_neg, lZ_add, lZ_sub, lZ_mul, lZ_neg, z_div, z_ldiv, z_l, z_i, z_lt, z_le, z_eq, z_llt, z_lle, z_leq, z_cgt, z_cge, z_clt, z_cle, z_ceq, z_cl, z_nat, Int.toNat_natCast, mm_I, mm_J, z_cln, z_abs, z_max, z_min, z_lmax, z_lmin, z_sin, Int.cast_ofNat_Int]
          · show I' 241 5 + 1 = _
            rw [h5]; exact iZ_add l 1
  ·   refine wc (hs := [65, 197]) 80 (by decide) ?_
      refine wp_keys [0, 1, 2, 3] rfl rfl ?_
      have L := lpU (σ := ((Nat → Nat → Int32) × (Nat → Nat → Int64)) × Int32) (fun _ s => wp E d 1 65 [(0, .ref 241), (1, .ref 101), (2, .ref (101 + 2)), (3, .int s.2)] [] (mm s.1.1 s.1.2 (fun x => if x = 241 then some (101 + 1) else A x)) Q) (fun i s => TK I J A 241 v i 0 s.1 ∧ s.2 = iZ i) (nP v) ?_ ?_
      · exact L 0 ((_, _), _) (by omega) ⟨start, rfl⟩
      · rintro ⟨⟨I', J'⟩, x3⟩ ⟨hT, e3⟩
        dsimp only at hT e3
        subst e3
        refine wf (hs := [65, 197]) 80 65 (by decide) ?_
        refine wt (Int32.le_of_eq (gz _ _ _ _ hT).1) ?_
        refine wp_keys [0, 1, 2, 3, 4] rfl rfl ?_
        have L2 := lpU (σ := ((Nat → Nat → Int32) × (Nat → Nat → Int64)) × Int32) (fun _ s => wp E d 1 197 [(0, .ref 241), (1, .ref 101), (2, .ref (101 + 2)), (3, .ref (101 + 14)), (4, .int s.2)] [] (mm s.1.1 s.1.2 (fun x => if x = 241 then some (101 + 1) else A x)) Q) (fun i s => TK I J A 241 v (nP v) i s.1 ∧ s.2 = iZ i) (nC v) ?_ ?_
        · exact L2 0 ((_, _), _) (by omega) ⟨hT, rfl⟩
        · rintro ⟨⟨I', J'⟩, x4⟩ ⟨hT, e4⟩
          dsimp only at hT e4
          subst e4
          refine wf (hs := [65, 197]) 80 197 (by decide) ?_
          refine wt (Int32.le_of_eq (gz _ _ _ _ hT).2) ?_
          exact fin _ _ hT
        · rintro i ⟨⟨I', J'⟩, x4⟩ hi ⟨hT, e4⟩ ih
          dsimp only at hT e4
          subst e4
          have hin : vp_in (iZ (i : Int)) 6 := z_in (by omega) (by omega) (by omega)
          refine wf (hs := [65, 197]) 80 197 (by decide) ?_
          refine wF (by show ¬ I' (101 + 14) 0 ≤ iZ i; rw [(gz _ _ _ _ hT).2]; simp (disch := omega) only [z_i8, z_i16, z_of, z_ofN, z_lofN, z_0, z_1, z_m1, z_l0, z_l1, iZ_add, iZ_sub, iZ_mul, iZ_neg, lZ_add, lZ_sub, lZ_mul, lZ_neg, z_div, z_ldiv, z_l, z_i, z_lt, z_le, z_eq, z_llt, z_lle, z_leq, z_cgt, z_cge, z_clt, z_cle, z_ceq, z_cl, z_nat, Int.toNat_natCast, mm_I, mm_J, z_cln, z_abs, z_max, z_min, z_lmax, z_lmin, z_sin, Int.cast_ofNat_Int]; omega) ?_
          refine And.intro hin (And.intro hin (And.intro hin (And.intro hin (And.intro hin ?_))))
          refine wp_keys [0, 1, 2, 3, 4] rfl rfl ?_
          exact ih ((_, _), _) ⟨TK_cargo (I' := I') (J' := J') hT (gUc i I' J' hi hT) (gMc i I' J' hi hT), iZ_add i 1⟩
      · rintro i ⟨⟨I', J'⟩, x3⟩ hi ⟨hT, e3⟩ ih
        dsimp only at hT e3
        subst e3
        have hin : vp_in (iZ (i : Int)) 12 := z_in (by omega) (by omega) (by omega)
        have hB := gB _ _ _ hi hT
        have w := hW.2.2.1 i hi
        have bb := (blkB w).2
        refine wf (hs := [65, 197]) 80 65 (by decide) ?_
        refine wF (by show ¬ I' (101 + 2) 0 ≤ iZ i; rw [(gz _ _ _ _ hT).1]; simp (disch := omega) only [z_i8, z_i16, z_of, z_ofN, z_lofN, z_0, z_1, z_m1, z_l0, z_l1, iZ_add, iZ_sub, iZ_mul, iZ_neg, lZ_add, lZ_sub, lZ_mul, lZ_neg, z_div, z_ldiv, z_l, z_i, z_lt, z_le, z_eq, z_llt, z_lle, z_leq, z_cgt, z_cge, z_clt, z_cle, z_ceq, z_cl, z_nat, Int.toNat_natCast, mm_I, mm_J, z_cln, z_abs, z_max, z_min, z_lmax, z_lmin, z_sin, Int.cast_ofNat_Int]; omega) ?_
        refine And.intro hin (And.intro hin (And.intro hin (And.intro (by decide) (And.intro hin (And.intro hin ?_)))))
        refine And.intro (fun q => ?_) (fun q => ?_)
        · have q : I' (101 + 13) (iZ (i : Int)).toNatClampNeg ≤ 0 := q
          rw [hB.1] at q
          simp (disch := omega) only [z_i8, z_i16, z_of, z_ofN, z_lofN, z_0, z_1, z_m1, z_l0, z_l1, iZ_add, iZ_sub, iZ_mul, iZ_neg, lZ_add, lZ_sub, lZ_mul, lZ_neg, z_div, z_ldiv, z_l, z_i, z_lt, z_le, z_eq, z_llt, z_lle, z_leq, z_cgt, z_cge, z_clt, z_cle, z_ceq, z_cl, z_nat, Int.toNat_natCast, mm_I, mm_J, z_cln, z_abs, z_max, z_min, z_lmax, z_lmin, z_sin, Int.cast_ofNat_Int] at q
          refine wp_keys [0, 1, 2, 3] rfl rfl ?_
          exact ih ((_, _), _) ⟨TK_skip (I' := I') (J' := J') hT w (by omega) (gU i I' J' hi hT) (gM i I' J' hi hT), iZ_add i 1⟩
        · obtain ⟨l, hl, h5, -⟩ := id hT.2.2.2.2.2.2
          have h5 : I' 241 5 = iZ l := h5
          have hinl : vp_in (I' 241 5) 12 := by rw [h5]; exact z_in (by omega) (by omega) (by omega)
          have hcl : (I' 241 5).toNatClampNeg = l := by rw [h5]; exact z_cln (by omega)
          refine And.intro hin (And.intro hinl (And.intro hin (And.intro hinl ?_)))
          refine wp_keys [0, 1, 2, 3] rfl rfl ?_
          refine ih ((_, _), _) ⟨TK_more (I' := I') (J' := J') (m1 := (I' 241 5).toNatClampNeg) (m2 := (I' 241 5).toNatClampNeg) hT w h5 (by omega) (by omega) (gU i I' J' hi hT) (gM i I' J' hi hT) hB.2 ?_ ?_ hcl hcl, iZ_add i 1⟩
          · show (I' (101 + 13) (iZ (i : Int)).toNatClampNeg).toInt64 = _
            rw [hB.1]
            simp (disch := omega) only [z_i8, z_i16, z_of, z_ofN, z_lofN, z_0, z_1, z_m1, z_l0, z_l1, iZ_add, iZ_sub, iZ_mul, iZ_neg, lZ_add, lZ_sub, lZ_mul, lZ_neg, z_div, z_ldiv, z_l, z_i, z_lt, z_le, z_eq, z_llt, z_lle, z_leq, z_cgt, z_cge, z_clt, z_cle, z_ceq, z_cl, z_nat, Int.toNat_natCast, mm_I, mm_J, z_cln, z_abs, z_max, z_min, z_lmax, z_lmin, z_sin, Int.cast_ofNat_Int]
          · show I' 241 5 + 1 = _
            rw [h5]; exact iZ_add l 1
  ·   refine wc (hs := [65, 197]) 80 (by decide) ?_
      refine wp_keys [0, 1, 2, 3] rfl rfl ?_
      have L := lpU (σ := ((Nat → Nat → Int32) × (Nat → Nat → Int64)) × Int32) (fun _ s => wp E d 1 65 [(0, .ref 241), (1, .ref 134), (2, .ref (134 + 2)), (3, .int s.2)] [] (mm s.1.1 s.1.2 (fun x => if x = 241 then some (134 + 1) else A x)) Q) (fun i s => TK I J A 241 v i 0 s.1 ∧ s.2 = iZ i) (nP v) ?_ ?_
      · exact L 0 ((_, _), _) (by omega) ⟨start, rfl⟩
      · rintro ⟨⟨I', J'⟩, x3⟩ ⟨hT, e3⟩
        dsimp only at hT e3
        subst e3
        refine wf (hs := [65, 197]) 80 65 (by decide) ?_
        refine wt (Int32.le_of_eq (gz _ _ _ _ hT).1) ?_
        refine wp_keys [0, 1, 2, 3, 4] rfl rfl ?_
        have L2 := lpU (σ := ((Nat → Nat → Int32) × (Nat → Nat → Int64)) × Int32) (fun _ s => wp E d 1 197 [(0, .ref 241), (1, .ref 134), (2, .ref (134 + 2)), (3, .ref (134 + 14)), (4, .int s.2)] [] (mm s.1.1 s.1.2 (fun x => if x = 241 then some (134 + 1) else A x)) Q) (fun i s => TK I J A 241 v (nP v) i s.1 ∧ s.2 = iZ i) (nC v) ?_ ?_
        · exact L2 0 ((_, _), _) (by omega) ⟨hT, rfl⟩
        · rintro ⟨⟨I', J'⟩, x4⟩ ⟨hT, e4⟩
          dsimp only at hT e4
          subst e4
          refine wf (hs := [65, 197]) 80 197 (by decide) ?_
          refine wt (Int32.le_of_eq (gz _ _ _ _ hT).2) ?_
          exact fin _ _ hT
        · rintro i ⟨⟨I', J'⟩, x4⟩ hi ⟨hT, e4⟩ ih
          dsimp only at hT e4
          subst e4
          have hin : vp_in (iZ (i : Int)) 6 := z_in (by omega) (by omega) (by omega)
          refine wf (hs := [65, 197]) 80 197 (by decide) ?_
          refine wF (by show ¬ I' (134 + 14) 0 ≤ iZ i; rw [(gz _ _ _ _ hT).2]; simp (disch := omega) only [z_i8, z_i16, z_of, z_ofN, z_lofN, z_0, z_1, z_m1, z_l0, z_l1, iZ_add, iZ_sub, iZ_mul, iZ_neg, lZ_add, lZ_sub, lZ_mul, lZ_neg, z_div, z_ldiv, z_l, z_i, z_lt, z_le, z_eq, z_llt, z_lle, z_leq, z_cgt, z_cge, z_clt, z_cle, z_ceq, z_cl, z_nat, Int.toNat_natCast, mm_I, mm_J, z_cln, z_abs, z_max, z_min, z_lmax, z_lmin, z_sin, Int.cast_ofNat_Int]; omega) ?_
          refine And.intro hin (And.intro hin (And.intro hin (And.intro hin (And.intro hin ?_))))
          refine wp_keys [0, 1, 2, 3, 4] rfl rfl ?_
          exact ih ((_, _), _) ⟨TK_cargo (I' := I') (J' := J') hT (gUc i I' J' hi hT) (gMc i I' J' hi hT), iZ_add i 1⟩
      · rintro i ⟨⟨I', J'⟩, x3⟩ hi ⟨hT, e3⟩ ih
        dsimp only at hT e3
        subst e3
        have hin : vp_in (iZ (i : Int)) 12 := z_in (by omega) (by omega) (by omega)
        have hB := gB _ _ _ hi hT
        have w := hW.2.2.1 i hi
        have bb := (blkB w).2
        refine wf (hs := [65, 197]) 80 65 (by decide) ?_
        refine wF (by show ¬ I' (134 + 2) 0 ≤ iZ i; rw [(gz _ _ _ _ hT).1]; simp (disch := omega) only [z_i8, z_i16, z_of, z_ofN, z_lofN, z_0, z_1, z_m1, z_l0, z_l1, iZ_add, iZ_sub, iZ_mul, iZ_neg, lZ_add, lZ_sub, lZ_mul, lZ_neg, z_div, z_ldiv, z_l, z_i, z_lt, z_le, z_eq, z_llt, z_lle, z_leq, z_cgt, z_cge, z_clt, z_cle, z_ceq, z_cl, z_nat, Int.toNat_natCast, mm_I, mm_J, z_cln, z_abs, z_max, z_min, z_lmax, z_lmin, z_sin, Int.cast_ofNat_Int]; omega) ?_
        refine And.intro hin (And.intro hin (And.intro hin (And.intro (by decide) (And.intro hin (And.intro hin ?_)))))
        refine And.intro (fun q => ?_) (fun q => ?_)
        · have q : I' (134 + 13) (iZ (i : Int)).toNatClampNeg ≤ 0 := q
          rw [hB.1] at q
          simp (disch := omega) only [z_i8, z_i16, z_of, z_ofN, z_lofN, z_0, z_1, z_m1, z_l0, z_l1, iZ_add, iZ_sub, iZ_mul, iZ_neg, lZ_add, lZ_sub, lZ_mul, lZ_neg, z_div, z_ldiv, z_l, z_i, z_lt, z_le, z_eq, z_llt, z_lle, z_leq, z_cgt, z_cge, z_clt, z_cle, z_ceq, z_cl, z_nat, Int.toNat_natCast, mm_I, mm_J, z_cln, z_abs, z_max, z_min, z_lmax, z_lmin, z_sin, Int.cast_ofNat_Int] at q
          refine wp_keys [0, 1, 2, 3] rfl rfl ?_
          exact ih ((_, _), _) ⟨TK_skip (I' := I') (J' := J') hT w (by omega) (gU i I' J' hi hT) (gM i I' J' hi hT), iZ_add i 1⟩
        · obtain ⟨l, hl, h5, -⟩ := id hT.2.2.2.2.2.2
          have h5 : I' 241 5 = iZ l := h5
          have hinl : vp_in (I' 241 5) 12 := by rw [h5]; exact z_in (by omega) (by omega) (by omega)
          have hcl : (I' 241 5).toNatClampNeg = l := by rw [h5]; exact z_cln (by omega)
          refine And.intro hin (And.intro hinl (And.intro hin (And.intro hinl ?_)))
          refine wp_keys [0, 1, 2, 3] rfl rfl ?_
          refine ih ((_, _), _) ⟨TK_more (I' := I') (J' := J') (m1 := (I' 241 5).toNatClampNeg) (m2 := (I' 241 5).toNatClampNeg) hT w h5 (by omega) (by omega) (gU i I' J' hi hT) (gM i I' J' hi hT) hB.2 ?_ ?_ hcl hcl, iZ_add i 1⟩
          · show (I' (134 + 13) (iZ (i : Int)).toNatClampNeg).toInt64 = _
            rw [hB.1]
            simp (disch := omega) only [z_i8, z_i16, z_of, z_ofN, z_lofN, z_0, z_1, z_m1, z_l0, z_l1, iZ_add, iZ_sub, iZ_mul, iZ_neg, lZ_add, lZ_sub, lZ_mul, lZ_neg, z_div, z_ldiv, z_l, z_i, z_lt, z_le, z_eq, z_llt, z_lle, z_leq, z_cgt, z_cge, z_clt, z_cle, z_ceq, z_cl, z_nat, Int.toNat_natCast, mm_I, mm_J, z_cln, z_abs, z_max, z_min, z_lmax, z_lmin, z_sin, Int.cast_ofNat_Int]
          · show I' 241 5 + 1 = _
            rw [h5]; exact iZ_add l 1
end C4
