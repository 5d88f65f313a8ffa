/-! ===== the class: what rounds change, kept and restored ===== -/
def cpI (I : Nat → Nat → Int32) (a b sp dp n : Nat) : Nat → Nat → Int32 := am_sI I b (va_cpy (I a) (I b) sp dp n)
def cpL (J : Nat → Nat → Int64) (a b sp dp n : Nat) : Nat → Nat → Int64 := am_sL J b (va_cpy (J a) (J b) sp dp n)
theorem cpI_at (I : Nat → Nat → Int32) (a b sp dp n a' j : Nat) : cpI I a b sp dp n a' j = if a' = b ∧ dp ≤ j ∧ j < dp + n then I a (sp + (j - dp)) else I a' j := by
  unfold cpI am_sI va_cpy
  by_cases h : a' = b
  · subst h
    rw [if_pos rfl]
    by_cases h2 : dp ≤ j ∧ j < dp + n
    · rw [if_pos h2, if_pos ⟨rfl, h2⟩]
    · rw [if_neg h2, if_neg (fun q => h2 q.2)]
  · rw [if_neg h, if_neg (fun q => h q.1)]
/-- what the row of a kept state holds -/
def kpI (I : Nat → Nat → Int32) (b r f : Nat) : Nat → Nat → Int32 := fun a j => if a = r ∧ f ≤ j ∧ j < f + 47 then (if j < f + 12 then I (b + 10) (j - f) else if j < f + 24 then I (b + 11) (j - f - 12) else if j < f + 36 then I (b + 13) (j - f - 24) else if j < f + 42 then I (b + 19) (j - f - 36) else I b (j - f - 37)) else I a j
def rsI (I : Nat → Nat → Int32) (b r f : Nat) : Nat → Nat → Int32 := fun a j => if a = b + 10 ∧ j < 12 then I r (f + j) else if a = b + 11 ∧ j < 12 then I r (f + 12 + j) else if a = b + 13 ∧ j < 12 then I r (f + 24 + j) else if a = b + 19 ∧ j < 6 then I r (f + 36 + j) else if a = b ∧ 5 ≤ j ∧ j ≤ 9 then I r (f + 37 + j) else I a j
def kpX (I : Nat → Nat → Int32) (b r : Nat) (x : Int32) : Nat → Nat → Int32 :=
  let M1 := cpI I (b + 10) r 0 x.toNatClampNeg 12
  let M2 := cpI M1 (b + 11) r 0 (x + iZ 12).toNatClampNeg 12
  let M3 := cpI M2 (b + 13) r 0 (x + iZ 24).toNatClampNeg 12
  let M4 := cpI M3 (b + 19) r 0 (x + iZ 36).toNatClampNeg 6
  let M5 := setI M4 r (x + iZ 36 + iZ 6).toNatClampNeg (M4 b 5)
  let M6 := setI M5 r (x + iZ 36 + iZ 6 + iZ 1).toNatClampNeg (M5 b 6)
  let M7 := setI M6 r (x + iZ 36 + iZ 6 + iZ 2).toNatClampNeg (M6 b 7)
  let M8 := setI M7 r (x + iZ 36 + iZ 6 + iZ 3).toNatClampNeg (M7 b 8)
  setI M8 r (x + iZ 36 + iZ 6 + iZ 4).toNatClampNeg (M8 b 9)
def rsX (I : Nat → Nat → Int32) (b r : Nat) (x : Int32) : Nat → Nat → Int32 :=
  let M1 := cpI I r (b + 10) x.toNatClampNeg 0 12
  let M2 := cpI M1 r (b + 11) (x + iZ 12).toNatClampNeg 0 12
  let M3 := cpI M2 r (b + 13) (x + iZ 24).toNatClampNeg 0 12
  let M4 := cpI M3 r (b + 19) (x + iZ 36).toNatClampNeg 0 6
  let M5 := setI M4 b 5 (M4 r (x + iZ 36 + iZ 6).toNatClampNeg)
  let M6 := setI M5 b 6 (M5 r (x + iZ 36 + iZ 6 + iZ 1).toNatClampNeg)
  let M7 := setI M6 b 7 (M6 r (x + iZ 36 + iZ 6 + iZ 2).toNatClampNeg)
  let M8 := setI M7 b 8 (M7 r (x + iZ 36 + iZ 6 + iZ 3).toNatClampNeg)
  setI M8 b 9 (M8 r (x + iZ 36 + iZ 6 + iZ 4).toNatClampNeg)
theorem kpX_eq {I : Nat → Nat → Int32} {b r f : Nat} (hf : f ≤ 1000) (hr : b + 33 ≤ r) : kpX I b r (iZ f) = kpI I b r f := by
  have c0 : (iZ (f : Int)).toNatClampNeg = f := z_cln (by omega)
  have cc : ∀ z : Int, 0 ≤ z → z ≤ 100 → (iZ ((f : Int) + z)).toNatClampNeg = f + z.toNat := fun z h1 h2 => by rw [z_cl (by omega) (by omega)]; omega
  funext a j
  unfold kpX
  simp only [iZ_add, Int.add_assoc]
  rw [c0]
  simp only [Int.reduceAdd]
  rw [cc 12 (by omega) (by omega), cc 24 (by omega) (by omega), cc 36 (by omega) (by omega), cc 42 (by omega) (by omega), cc 43 (by omega) (by omega), cc 44 (by omega) (by omega), cc 45 (by omega) (by omega), cc 46 (by omega) (by omega)]
  simp only [Int.reduceToNat, setI_at, cpI_at, show ¬ (b + 10 = r) by omega, show ¬ (b + 11 = r) by omega, show ¬ (b + 13 = r) by omega, show ¬ (b + 19 = r) by omega, show ¬ (b = r) by omega, false_and, if_false]
  unfold kpI
  (repeat' split) <;> first | rfl | (exfalso; omega) | (congr 1; omega)
theorem rsX_eq {I : Nat → Nat → Int32} {b r f : Nat} (hf : f ≤ 1000) (hr : b + 33 ≤ r) : rsX I b r (iZ f) = rsI I b r f := by
  have c0 : (iZ (f : Int)).toNatClampNeg = f := z_cln (by omega)
  have cc : ∀ z : Int, 0 ≤ z → z ≤ 100 → (iZ ((f : Int) + z)).toNatClampNeg = f + z.toNat := fun z h1 h2 => by rw [z_cl (by omega) (by omega)]; omega
  funext a j
  unfold rsX
  simp only [iZ_add, Int.add_assoc]
  rw [c0]
  simp only [Int.reduceAdd]
  rw [cc 12 (by omega) (by omega), cc 24 (by omega) (by omega), cc 36 (by omega) (by omega), cc 42 (by omega) (by omega), cc 43 (by omega) (by omega), cc 44 (by omega) (by omega), cc 45 (by omega) (by omega), cc 46 (by omega) (by omega)]
  simp only [Int.reduceToNat, setI_at, cpI_at, show ¬ (r = b + 10) by omega, show ¬ (r = b + 11) by omega, show ¬ (r = b + 13) by omega, show ¬ (r = b + 19) by omega, show ¬ (r = b) by omega, false_and, if_false]
  unfold rsI
  (repeat' split) <;> first | rfl | (exfalso; omega) | (congr 1; omega)
def KP (I : Nat → Nat → Int32) (r f : Nat) (v : am_V) : Prop := (∀ k, k < nP v → I r (f + k) = iZ (v 276 k) ∧ I r (f + 12 + k) = iZ (levZ v k) ∧ I r (f + 24 + k) = iZ (blkZ v k)) ∧ (∀ k, nP v ≤ k → k < 12 → I r (f + k) = iZ 0) ∧ (∀ k, k < nC v → I r (f + 36 + k) = iZ (v 281 k)) ∧ I r (f + 42) = iZ (v 266 5) ∧ I r (f + 43) = iZ (v 266 6) ∧ I r (f + 44) = iZ (v 266 7) ∧ I r (f + 45) = iZ (v 266 8) ∧ I r (f + 46) = iZ (totZ v 0)
/-- what no round changes is the same -/
def SS (v w : am_V) : Prop := ∀ a i, a ≠ 276 → a ≠ 281 → (a = 266 → i ≠ 5 ∧ i ≠ 6 ∧ i ≠ 7 ∧ i ≠ 8) → w a i = v a i
theorem SS_refl {v : am_V} : SS v v := fun _ _ _ _ _ => rfl
theorem SS_trans {u v w : am_V} (h : SS u v) (h' : SS v w) : SS u w := fun a i h1 h2 h3 => (h' a i h1 h2 h3).trans (h a i h1 h2 h3)
theorem SS_rnd {g : Nat → Nat → Int} {v : am_V} : SS v (rndZ g v) := by
  intro a i h1 h2 h3
  by_cases h : a = 266
  · subst h
    have h3 := h3 rfl
    unfold rndZ
    split
    · exact vset_ni h3.2.2.2
    · unfold rd5
      rw [vset_ni h3.2.2.2, vset_ni h3.2.2.1]
      exact rd14_sc h3.1 h3.2.1
  · exact rnd_ne h1 h h2
theorem SS_por {v : am_V} {k : Nat} {n : Int} : SS v (porZ v k n) := fun a i h1 _ _ => por_ne h1
theorem SS_set {v : am_V} {k : Nat} {n : Int} : SS v (vset v 276 k n) := fun a i h1 _ _ => vset_na h1
theorem RS_rs {I : Nat → Nat → Int32} {J : Nat → Nat → Int64} {b r f : Nat} {v w : am_V} (hR : RS I J b w) (hS : SS v w) (hP : nP v ≤ 12) (hC : nC v ≤ 6) (hK : KP I r f v) : RS (rsI I b r f) J b v := by
  obtain ⟨⟨r0, r1, r2, r3, r4, r5, r6, r7, r8, r9⟩, ra, ⟨rp0, rp, rz⟩, ⟨rc0, rc⟩, ⟨rd0, rd⟩, ⟨ro0, ro⟩, ⟨rl0, rl⟩⟩ := hR
  obtain ⟨k1, k2, k3, k5, k6, k7, k8, k9⟩ := hK
  have e : ∀ a, a ≠ 276 → a ≠ 281 → a ≠ 266 → w a = v a := fun a h1 h2 h3 => by
    funext i; exact hS a i h1 h2 (fun q => absurd q h3)
  have s : ∀ i, i ≠ 5 → i ≠ 6 → i ≠ 7 → i ≠ 8 → w 266 i = v 266 i := fun i h1 h2 h3 h4 => hS 266 i (by decide) (by decide) (fun _ => ⟨h1, h2, h3, h4⟩)
  have eP : nP w = nP v := by unfold nP; rw [s 9 (by decide) (by decide) (by decide) (by decide)]
  have eC : nC w = nC v := by unfold nC; rw [s 10 (by decide) (by decide) (by decide) (by decide)]
  have eD : nD w = nD v := by unfold nD; rw [s 11 (by decide) (by decide) (by decide) (by decide)]
  have eO : nO w = nO v := by unfold nO; rw [s 12 (by decide) (by decide) (by decide) (by decide)]
  have eL : nL w = nL v := by unfold nL; rw [s 13 (by decide) (by decide) (by decide) (by decide)]
  have same : ∀ a j, a ≠ b → a ≠ b + 10 → a ≠ b + 11 → a ≠ b + 13 → a ≠ b + 19 → rsI I b r f a j = I a j := fun a j h1 h2 h3 h4 h5 => by
    unfold rsI
    rw [if_neg (fun q => h2 q.1), if_neg (fun q => h3 q.1), if_neg (fun q => h4 q.1), if_neg (fun q => h5 q.1), if_neg (fun q => h1 q.1)]
  have sc0 : ∀ j, j < 5 → rsI I b r f b j = I b j := fun j h => by
    unfold rsI
    rw [if_neg (by omega), if_neg (by omega), if_neg (by omega), if_neg (by omega), if_neg (by omega)]
  have sc1 : ∀ j, 5 ≤ j → j ≤ 9 → rsI I b r f b j = I r (f + 37 + j) := fun j h h' => by
    unfold rsI
    rw [if_neg (by omega), if_neg (by omega), if_neg (by omega), if_neg (by omega), if_pos ⟨rfl, h, h'⟩]
  have q10 : ∀ j, j < 12 → rsI I b r f (b + 10) j = I r (f + j) := fun j h => by unfold rsI; rw [if_pos ⟨rfl, h⟩]
  have q11 : ∀ j, j < 12 → rsI I b r f (b + 11) j = I r (f + 12 + j) := fun j h => by unfold rsI; rw [if_neg (by omega), if_pos ⟨rfl, h⟩]
  have q13 : ∀ j, j < 12 → rsI I b r f (b + 13) j = I r (f + 24 + j) := fun j h => by unfold rsI; rw [if_neg (by omega), if_neg (by omega), if_pos ⟨rfl, h⟩]
  have q19 : ∀ j, j < 6 → rsI I b r f (b + 19) j = I r (f + 36 + j) := fun j h => by unfold rsI; rw [if_neg (by omega), if_neg (by omega), if_neg (by omega), if_pos ⟨rfl, h⟩]
  refine ⟨⟨?_, ?_, ?_, ?_, ?_, ?_, ?_, ?_, ?_, ?_⟩, fun n hn => ?_, ⟨?_, fun k hk => ?_, fun k hk hk2 => ?_⟩, ⟨?_, fun k hk => ?_⟩, ⟨?_, fun k hk => ?_⟩, ⟨?_, fun k hk => ?_⟩, ⟨?_, fun k hk => ?_⟩⟩
  · rw [sc0 0 (by omega)]; exact r0
  · rw [sc0 1 (by omega), r1, s 1 (by decide) (by decide) (by decide) (by decide)]
  · rw [sc0 2 (by omega), r2, s 2 (by decide) (by decide) (by decide) (by decide)]
  · rw [sc0 3 (by omega), r3, s 3 (by decide) (by decide) (by decide) (by decide)]
  · rw [sc0 4 (by omega), r4, s 4 (by decide) (by decide) (by decide) (by decide)]
  · rw [sc1 5 (by omega) (by omega)]; exact k5
  · rw [sc1 6 (by omega) (by omega)]; exact k6
  · rw [sc1 7 (by omega) (by omega)]; exact k7
  · rw [sc1 8 (by omega) (by omega)]; exact k8
  · rw [sc1 9 (by omega) (by omega)]; exact k9
  · rw [same _ _ (by omega) (by omega) (by omega) (by omega) (by omega), ra n hn]
    unfold armZ
    rw [e 267 (by decide) (by decide) (by decide)]
  · rw [same _ _ (by omega) (by omega) (by omega) (by omega) (by omega), rp0, eP]
  · obtain ⟨p1, p2, p3, p4, p5, p6, p7, p8, p9, p10, p11⟩ := rp k (by omega)
    obtain ⟨t1, t2, t3⟩ := k1 k hk
    unfold capZ at p7
    unfold sprZ at p10
    rw [e 270 (by decide) (by decide) (by decide)] at p1
    rw [e 271 (by decide) (by decide) (by decide)] at p2 p7
    rw [e 272 (by decide) (by decide) (by decide)] at p3 p7 p10
    rw [e 273 (by decide) (by decide) (by decide)] at p4 p7 p10
    rw [e 274 (by decide) (by decide) (by decide)] at p5 p10
    rw [e 275 (by decide) (by decide) (by decide)] at p6
    unfold RSp
    rw [same (b + 3) k (by omega) (by omega) (by omega) (by omega) (by omega), same (b + 4) k (by omega) (by omega) (by omega) (by omega) (by omega), same (b + 5) k (by omega) (by omega) (by omega) (by omega) (by omega), same (b + 6) k (by omega) (by omega) (by omega) (by omega) (by omega), same (b + 7) k (by omega) (by omega) (by omega) (by omega) (by omega), same (b + 8) k (by omega) (by omega) (by omega) (by omega) (by omega), same (b + 9) k (by omega) (by omega) (by omega) (by omega) (by omega), q10 k (by omega), q11 k (by omega), q13 k (by omega)]
    exact ⟨p1, p2, p3, p4, p5, p6, p7, t1, t2, p10, t3⟩
  · rw [q10 k hk2]; exact k2 k hk hk2
  · rw [same _ _ (by omega) (by omega) (by omega) (by omega) (by omega), rc0, eC]
  · obtain ⟨p1, p2, p3, p4, p5⟩ := rc k (by omega)
    rw [e 277 (by decide) (by decide) (by decide)] at p1
    rw [e 278 (by decide) (by decide) (by decide)] at p2
    rw [e 279 (by decide) (by decide) (by decide)] at p3
    rw [e 280 (by decide) (by decide) (by decide)] at p4
    unfold RSc
    rw [same (b + 15) k (by omega) (by omega) (by omega) (by omega) (by omega), same (b + 16) k (by omega) (by omega) (by omega) (by omega) (by omega), same (b + 17) k (by omega) (by omega) (by omega) (by omega) (by omega), same (b + 18) k (by omega) (by omega) (by omega) (by omega) (by omega), q19 k (by omega)]
    exact ⟨p1, p2, p3, p4, k3 k hk⟩
  · rw [same _ _ (by omega) (by omega) (by omega) (by omega) (by omega), rd0, eD]
  · have p := rd k (by omega)
    unfold RSd at p ⊢
    rw [e 282 (by decide) (by decide) (by decide), e 283 (by decide) (by decide) (by decide), e 284 (by decide) (by decide) (by decide), e 285 (by decide) (by decide) (by decide)] at p
    rw [same (b + 21) k (by omega) (by omega) (by omega) (by omega) (by omega), same (b + 22) k (by omega) (by omega) (by omega) (by omega) (by omega), same (b + 23) k (by omega) (by omega) (by omega) (by omega) (by omega), same (b + 24) k (by omega) (by omega) (by omega) (by omega) (by omega)]
    exact p
  · rw [same _ _ (by omega) (by omega) (by omega) (by omega) (by omega), ro0, eO]
  · have p := ro k (by omega)
    unfold RSo at p ⊢
    rw [e 286 (by decide) (by decide) (by decide), e 287 (by decide) (by decide) (by decide), e 288 (by decide) (by decide) (by decide), e 289 (by decide) (by decide) (by decide)] at p
    rw [same (b + 26) k (by omega) (by omega) (by omega) (by omega) (by omega), same (b + 27) k (by omega) (by omega) (by omega) (by omega) (by omega), same (b + 28) k (by omega) (by omega) (by omega) (by omega) (by omega), same (b + 29) k (by omega) (by omega) (by omega) (by omega) (by omega)]
    exact p
  · rw [same _ _ (by omega) (by omega) (by omega) (by omega) (by omega), rl0, eL]
  · have p := rl k (by omega)
    unfold RSl at p ⊢
    rw [e 268 (by decide) (by decide) (by decide), e 269 (by decide) (by decide) (by decide)] at p
    rw [same (b + 31) k (by omega) (by omega) (by omega) (by omega) (by omega), same (b + 32) k (by omega) (by omega) (by omega) (by omega) (by omega)]
    exact p
theorem KP_kp {I : Nat → Nat → Int32} {J : Nat → Nat → Int64} {b r f : Nat} {v : am_V} (hR : RS I J b v) (hP : nP v ≤ 12) (hC : nC v ≤ 6) : KP (kpI I b r f) r f v := by
  obtain ⟨⟨r0, r1, r2, r3, r4, r5, r6, r7, r8, r9⟩, ra, ⟨rp0, rp, rz⟩, ⟨rc0, rc⟩, -⟩ := hR
  have a1 : ∀ j, j < 12 → kpI I b r f r (f + j) = I (b + 10) j := fun j h => by
    unfold kpI; rw [if_pos (by omega), if_pos (by omega)]; congr 1; omega
  have a2 : ∀ j, j < 12 → kpI I b r f r (f + 12 + j) = I (b + 11) j := fun j h => by
    unfold kpI; rw [if_pos (by omega), if_neg (by omega), if_pos (by omega)]; congr 1; omega
  have a3 : ∀ j, j < 12 → kpI I b r f r (f + 24 + j) = I (b + 13) j := fun j h => by
    unfold kpI; rw [if_pos (by omega), if_neg (by omega), if_neg (by omega), if_pos (by omega)]; congr 1; omega
  have a4 : ∀ j, j < 6 → kpI I b r f r (f + 36 + j) = I (b + 19) j := fun j h => by
    unfold kpI; rw [if_pos (by omega), if_neg (by omega), if_neg (by omega), if_neg (by omega), if_pos (by omega)]; congr 1; omega
  have a5 : ∀ j, j < 5 → kpI I b r f r (f + (42 + j)) = I b (5 + j) := fun j h => by
    unfold kpI; rw [if_pos (by omega), if_neg (by omega), if_neg (by omega), if_neg (by omega), if_neg (by omega)]; congr 1; omega
  refine ⟨fun k hk => ?_, fun k hk hk2 => ?_, fun k hk => ?_, ?_, ?_, ?_, ?_, ?_⟩
  · obtain ⟨p1, p2, p3, p4, p5, p6, p7, p8, p9, p10, p11⟩ := rp k hk
    rw [a1 k (by omega), a2 k (by omega), a3 k (by omega)]
    exact ⟨p8, p9, p11⟩
  · rw [a1 k hk2]; exact rz k hk hk2
  · rw [a4 k (by omega)]; exact (rc k hk).2.2.2.2
  · exact (a5 0 (by omega)).trans r5
  · exact (a5 1 (by omega)).trans r6
  · exact (a5 2 (by omega)).trans r7
  · exact (a5 3 (by omega)).trans r8
  · exact (a5 4 (by omega)).trans r9
/-- which row for which ship -/
def KR (r b : Nat) : Prop := (r = 264 ∧ B5 b) ∨ (r = 263 ∧ b = 1)
section C13
variable {E : Nat × (Nat → Int32)} {d : Nat} {I : Nat → Nat → Int32} {J : Nat → Nat → Int64} {A : Nat → Option Nat} {Q : Option Value → am_M → Prop} {M : am_M} {β b : Nat} {v : am_V}
theorem nC6 (h : Wf v) : nC v ≤ 6 := by have := h.1.2.2.2.2.2.2.2.2.2.1; unfold nC; omega
set_option maxHeartbeats 8000000 in
theorem c_keep {r f : Nat} {x : Int32} (hb : KR r b) (hR : RS I J b v) (hW : Wf v) (hf : (r = 264 → f = 0) ∧ f ≤ 141) (ex : x = iZ f) (hQ : ∀ I', KP I' r f v → (∀ a, a ≠ r → I' a = I a) → (∀ j, j < f ∨ f + 47 ≤ j → I' r j = I r j) → Q none (mm I' J A)) : wpC E (d + 1) 79 [.ref b, .ref r, .int x] (mm I J A) Q := by
  subst ex
  have hbr : b + 33 ≤ r := by unfold KR B5 at hb; omega
  have fin := hQ (kpI I b r f) (KP_kp hR (nP12 hW) (nC6 hW)) (fun a ha => by funext j; unfold kpI; rw [if_neg (by omega)]) (fun j hj => by unfold kpI; rw [if_neg (by omega)])
  rw [← kpX_eq (by omega) hbr] at fin
  have rr : r = 264 ∨ r = 263 := by unfold KR at hb; omega
  have hl : ∀ z : Int, 0 ≤ z → z ≤ 46 → vp_in (iZ ((f : Int) + z)) (if r = 264 then 47 else 188) := fun z h1 h2 => by
    rcases rr with rfl | rfl
    · exact z_in (by omega) (by simp; omega) (by simp)
    · exact z_in (by omega) (by simp; omega) (by simp)
  have i0 : vp_in (iZ (f : Int) + iZ 36 + iZ 6) (if r = 264 then 47 else 188) := by rw [iZ_add, iZ_add, Int.add_assoc]; exact hl _ (by omega) (by omega)
  have i1 : ∀ z : Int, 0 ≤ z → z ≤ 4 → vp_in (iZ (f : Int) + iZ 36 + iZ 6 + iZ z) (if r = 264 then 47 else 188) := fun z h1 h2 => by rw [iZ_add, iZ_add, iZ_add, Int.add_assoc, Int.add_assoc]; exact hl _ (by omega) (by omega)
  have cn : ∀ z : Int, 0 ≤ z → z ≤ 46 → ¬ iZ ((f : Int) + z) < 0 ∧ (iZ ((f : Int) + z)).toNatClampNeg = f + z.toNat := fun z h1 h2 => by
    refine ⟨?_, by rw [z_cl (by omega) (by omega)]; omega⟩
    show ¬ iZ _ < iZ 0
    ((try simp (disch := omega) only [z_i8, z_i16, z_of, z_ofN, z_lofN, z_0, z_1, z_m1, z_l0, z_l1, iZ_add, iZ_sub, iZ_mul, iZ_neg, lZ_add, lZ_sub, lZ_mul, lZ_neg, z_div, z_ldiv, z_l, z_i, z_lt, z_le, z_eq, z_llt, z_lle, z_leq, z_cgt, z_cge, z_clt, z_cle, z_ceq, z_cl, z_nat, Int.toNat_natCast, mm_I, mm_J, z_cln, z_abs, z_max, z_min, z_lmax, z_lmin, z_sin, Int.cast_ofNat_Int, uI_I, uI_J, uL_I, uL_J, uA_I, uA_J, sI_eq, sI_ne, sL_eq, sL_ne, up_eq, up_ne, uL_eq, uL_ne, z_toInt, Int.reduceToNat]) <;> omega)
  have n0 : ¬ iZ (f : Int) < 0 := by
    show ¬ iZ _ < iZ 0
    ((try simp (disch := omega) only [z_i8, z_i16, z_of, z_ofN, z_lofN, z_0, z_1, z_m1, z_l0, z_l1, iZ_add, iZ_sub, iZ_mul, iZ_neg, lZ_add, lZ_sub, lZ_mul, lZ_neg, z_div, z_ldiv, z_l, z_i, z_lt, z_le, z_eq, z_llt, z_lle, z_leq, z_cgt, z_cge, z_clt, z_cle, z_ceq, z_cl, z_nat, Int.toNat_natCast, mm_I, mm_J, z_cln, z_abs, z_max, z_min, z_lmax, z_lmin, z_sin, Int.cast_ofNat_Int, uI_I, uI_J, uL_I, uL_J, uA_I, uA_J, sI_eq, sI_ne, sL_eq, sL_ne, up_eq, up_ne, uL_eq, uL_ne, z_toInt, Int.reduceToNat]) <;> omega)
  have c0 : (iZ (f : Int)).toNatClampNeg = f := z_cln (by omega)
  have q0 : am_cat [] ≤ 8 ∧ ¬ (iZ 0 : Int32) < 0 ∧ ¬ iZ (f : Int) < 0 ∧ ¬ (iZ 12 : Int32) < 0 := ⟨by decide, by decide, n0, by decide⟩
  have qz : ∀ z n : Int, 0 ≤ z → z ≤ 46 → 0 ≤ n → n ≤ 12 → am_cat [] ≤ 8 ∧ ¬ (iZ 0 : Int32) < 0 ∧ ¬ iZ (f : Int) + iZ z < 0 ∧ ¬ (iZ n : Int32) < 0 := fun z n h1 h2 h3 h4 => ⟨by decide, by decide, by rw [iZ_add]; exact (cn z h1 h2).1, by show ¬ iZ n < iZ 0; ((try simp (disch := omega) only [z_i8, z_i16, z_of, z_ofN, z_lofN, z_0, z_1, z_m1, z_l0, z_l1, iZ_add, iZ_sub, iZ_mul, iZ_neg, lZ_add, lZ_sub, lZ_mul, lZ_neg, z_div, z_ldiv, z_l, z_i, z_lt, z_le, z_eq, z_llt, z_lle, z_leq, z_cgt, z_cge, z_clt, z_cle, z_ceq, z_cl, z_nat, Int.toNat_natCast, mm_I, mm_J, z_cln, z_abs, z_max, z_min, z_lmax, z_lmin, z_sin, Int.cast_ofNat_Int, uI_I, uI_J, uL_I, uL_J, uA_I, uA_J, sI_eq, sI_ne, sL_eq, sL_ne, up_eq, up_ne, uL_eq, uL_ne, z_toInt, Int.reduceToNat]) <;> omega)⟩
  have p0 : (iZ 0 : Int32).toNatClampNeg + (iZ 12 : Int32).toNatClampNeg ≤ 12 ∧ (iZ (f : Int)).toNatClampNeg + (iZ 12 : Int32).toNatClampNeg ≤ (if r = 264 then 47 else 188) := by
    refine ⟨by decide, ?_⟩
    rw [c0, z_cl (by omega) (by omega)]
    split <;> omega
  have pz : ∀ z n m : Nat, z + n ≤ 46 → n ≤ m → n ≤ 12 → (iZ 0 : Int32).toNatClampNeg + (iZ (n : Int) : Int32).toNatClampNeg ≤ m ∧ (iZ (f : Int) + iZ (z : Int)).toNatClampNeg + (iZ (n : Int) : Int32).toNatClampNeg ≤ (if r = 264 then 47 else 188) := fun z n m h1 h2 h3 => by
    rw [iZ_add, (cn z (by omega) (by omega)).2, z_cln (by omega), show (iZ 0 : Int32).toNatClampNeg = 0 from rfl]
    refine ⟨by omega, ?_⟩
    split <;> omega
  have p12 := pz 12 12 12 (by omega) (by omega) (by omega)
  have p24 := pz 24 12 12 (by omega) (by omega) (by omega)
  have p36 := pz 36 6 6 (by omega) (by omega) (by omega)
  have j1 := i1 1 (by omega) (by omega)
  have j2 := i1 2 (by omega) (by omega)
  have j3 := i1 3 (by omega) (by omega)
  have j4 := i1 4 (by omega) (by omega)
  clear pz i1 hl cn
  have z12 := qz 12 12 (by omega) (by omega) (by omega) (by omega)
  have z24 := qz 24 12 (by omega) (by omega) (by omega) (by omega)
  have z36 := qz 36 6 (by omega) (by omega) (by omega) (by omega)
  clear qz
  rcases id hb with ⟨rfl, rfl | rfl | rfl | rfl | rfl⟩ | ⟨rfl, rfl⟩
  all_goals (
    refine wc (hs := []) 120 (by decide) ?_
    refine And.intro (Nat.succ_pos _) (And.intro q0 (And.intro p0 ?_))
    refine And.intro (Nat.succ_pos _) (And.intro z12 (And.intro p12 ?_))
    refine And.intro (Nat.succ_pos _) (And.intro z24 (And.intro p24 ?_))
    refine And.intro (Nat.succ_pos _) (And.intro z36 (And.intro p36 ?_))
    refine And.intro i0 (And.intro j1 (And.intro j2 (And.intro j3 (And.intro j4 ?_))))
    exact fin)
set_option maxHeartbeats 8000000 in
theorem c_restore {r f : Nat} {w : am_V} {x : Int32} (hb : KR r b) (hR : RS I J b w) (hS : SS v w) (hW : Wf v) (hK : KP I r f v) (hf : (r = 264 → f = 0) ∧ f ≤ 141) (ex : x = iZ f) (hQ : ∀ I', RS I' J b v → Fr b I I' → Q none (mm I' J A)) : wpC E (d + 1) 80 [.ref b, .ref r, .int x] (mm I J A) Q := by
  subst ex
  have hbr : b + 33 ≤ r := by unfold KR B5 at hb; omega
  have fin := hQ (rsI I b r f) (RS_rs hR hS (nP12 hW) (nC6 hW) hK) (fun a ha => by funext j; unfold rsI; rw [if_neg (by omega), if_neg (by omega), if_neg (by omega), if_neg (by omega), if_neg (by omega)])
  rw [← rsX_eq (by omega) hbr] at fin
  have rr : r = 264 ∨ r = 263 := by unfold KR at hb; omega
  have hl : ∀ z : Int, 0 ≤ z → z ≤ 46 → vp_in (iZ ((f : Int) + z)) (if r = 264 then 47 else 188) := fun z h1 h2 => by
    rcases rr with rfl | rfl
    · exact z_in (by omega) (by simp; omega) (by simp)
    · exact z_in (by omega) (by simp; omega) (by simp)
  have i0 : vp_in (iZ (f : Int) + iZ 36 + iZ 6) (if r = 264 then 47 else 188) := by rw [iZ_add, iZ_add, Int.add_assoc]; exact hl _ (by omega) (by omega)
  have i1 : ∀ z : Int, 0 ≤ z → z ≤ 4 → vp_in (iZ (f : Int) + iZ 36 + iZ 6 + iZ z) (if r = 264 then 47 else 188) := fun z h1 h2 => by rw [iZ_add, iZ_add, iZ_add, Int.add_assoc, Int.add_assoc]; exact hl _ (by omega) (by omega)
  have cn : ∀ z : Int, 0 ≤ z → z ≤ 46 → ¬ iZ ((f : Int) + z) < 0 ∧ (iZ ((f : Int) + z)).toNatClampNeg = f + z.toNat := fun z h1 h2 => by
    refine ⟨?_, by rw [z_cl (by omega) (by omega)]; omega⟩
    show ¬ iZ _ < iZ 0
    ((try simp (disch := omega) only [z_i8, z_i16, z_of, z_ofN, z_lofN, z_0, z_1, z_m1, z_l0, z_l1, iZ_add, iZ_sub, iZ_mul, iZ_neg, lZ_add, lZ_sub, lZ_mul, lZ_neg, z_div, z_ldiv, z_l, z_i, z_lt, z_le, z_eq, z_llt, z_lle, z_leq, z_cgt, z_cge, z_clt, z_cle, z_ceq, z_cl, z_nat, Int.toNat_natCast, mm_I, mm_J, z_cln, z_abs, z_max, z_min, z_lmax, z_lmin, z_sin, Int.cast_ofNat_Int, uI_I, uI_J, uL_I, uL_J, uA_I, uA_J, sI_eq, sI_ne, sL_eq, sL_ne, up_eq, up_ne, uL_eq, uL_ne, z_toInt, Int.reduceToNat]) <;> omega)
  have n0 : ¬ iZ (f : Int) < 0 := by
    show ¬ iZ _ < iZ 0
    ((try simp (disch := omega) only [z_i8, z_i16, z_of, z_ofN, z_lofN, z_0, z_1, z_m1, z_l0, z_l1, iZ_add, iZ_sub, iZ_mul, iZ_neg, lZ_add, lZ_sub, lZ_mul, lZ_neg, z_div, z_ldiv, z_l, z_i, z_lt, z_le, z_eq, z_llt, z_lle, z_leq, z_cgt, z_cge, z_clt, z_cle, z_ceq, z_cl, z_nat, Int.toNat_natCast, mm_I, mm_J, z_cln, z_abs, z_max, z_min, z_lmax, z_lmin, z_sin, Int.cast_ofNat_Int, uI_I, uI_J, uL_I, uL_J, uA_I, uA_J, sI_eq, sI_ne, sL_eq, sL_ne, up_eq, up_ne, uL_eq, uL_ne, z_toInt, Int.reduceToNat]) <;> omega)
  have c0 : (iZ (f : Int)).toNatClampNeg = f := z_cln (by omega)
  have q0 : am_cat [] ≤ 8 ∧ ¬ iZ (f : Int) < 0 ∧ ¬ (iZ 0 : Int32) < 0 ∧ ¬ (iZ 12 : Int32) < 0 := ⟨by decide, n0, by decide, by decide⟩
  have qz : ∀ z n : Int, 0 ≤ z → z ≤ 46 → 0 ≤ n → n ≤ 12 → am_cat [] ≤ 8 ∧ ¬ iZ (f : Int) + iZ z < 0 ∧ ¬ (iZ 0 : Int32) < 0 ∧ ¬ (iZ n : Int32) < 0 := fun z n h1 h2 h3 h4 => ⟨by decide, by rw [iZ_add]; exact (cn z h1 h2).1, by decide, by show ¬ iZ n < iZ 0; ((try simp (disch := omega) only [z_i8, z_i16, z_of, z_ofN, z_lofN, z_0, z_1, z_m1, z_l0, z_l1, iZ_add, iZ_sub, iZ_mul, iZ_neg, lZ_add, lZ_sub, lZ_mul, lZ_neg, z_div, z_ldiv, z_l, z_i, z_lt, z_le, z_eq, z_llt, z_lle, z_leq, z_cgt, z_cge, z_clt, z_cle, z_ceq, z_cl, z_nat, Int.toNat_natCast, mm_I, mm_J, z_cln, z_abs, z_max, z_min, z_lmax, z_lmin, z_sin, Int.cast_ofNat_Int, uI_I, uI_J, uL_I, uL_J, uA_I, uA_J, sI_eq, sI_ne, sL_eq, sL_ne, up_eq, up_ne, uL_eq, uL_ne, z_toInt, Int.reduceToNat]) <;> omega)⟩
  have p0 : (iZ (f : Int)).toNatClampNeg + (iZ 12 : Int32).toNatClampNeg ≤ (if r = 264 then 47 else 188) ∧ (iZ 0 : Int32).toNatClampNeg + (iZ 12 : Int32).toNatClampNeg ≤ 12 := by
    refine ⟨?_, by decide⟩
    rw [c0, z_cl (by omega) (by omega)]
    split <;> omega
  have pz : ∀ z n m : Nat, z + n ≤ 46 → n ≤ m → n ≤ 12 → (iZ (f : Int) + iZ (z : Int)).toNatClampNeg + (iZ (n : Int) : Int32).toNatClampNeg ≤ (if r = 264 then 47 else 188) ∧ (iZ 0 : Int32).toNatClampNeg + (iZ (n : Int) : Int32).toNatClampNeg ≤ m := fun z n m h1 h2 h3 => by
    rw [iZ_add, (cn z (by omega) (by omega)).2, z_cln (by omega), show (iZ 0 : Int32).toNatClampNeg = 0 from rfl]
    refine ⟨?_, by omega⟩
    split <;> omega
  have p12 := pz 12 12 12 (by omega) (by omega) (by omega)
  have p24 := pz 24 12 12 (by omega) (by omega) (by omega)
  have p36 := pz 36 6 6 (by omega) (by omega) (by omega)
  have j1 := i1 1 (by omega) (by omega)
  have j2 := i1 2 (by omega) (by omega)
  have j3 := i1 3 (by omega) (by omega)
  have j4 := i1 4 (by omega) (by omega)
  clear pz i1 hl cn
  have z12 := qz 12 12 (by omega) (by omega) (by omega) (by omega)
  have z24 := qz 24 12 (by omega) (by omega) (by omega) (by omega)
  have z36 := qz 36 6 (by omega) (by omega) (by omega) (by omega)
  clear qz
  rcases id hb with ⟨rfl, rfl | rfl | rfl | rfl | rfl⟩ | ⟨rfl, rfl⟩
  all_goals (
    refine wc (hs := []) 120 (by decide) ?_
    refine And.intro (Nat.succ_pos _) (And.intro q0 (And.intro p0 ?_))
    refine And.intro (Nat.succ_pos _) (And.intro z12 (And.intro p12 ?_))
    refine And.intro (Nat.succ_pos _) (And.intro z24 (And.intro p24 ?_))
    refine And.intro (Nat.succ_pos _) (And.intro z36 (And.intro p36 ?_))
    refine And.intro i0 (And.intro j1 (And.intro j2 (And.intro j3 (And.intro j4 ?_))))
    exact fin)
end C13
