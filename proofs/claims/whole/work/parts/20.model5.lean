/-! ===== the reference: turn and rest ===== -/
def WM (I : Nat → Nat → Int32) (J : Nat → Nat → Int64) : Prop := Wf (vI I) ∧ (0 ≤ vI I 265 25 ∧ vI I 265 25 ≤ 200000) ∧ (0 ≤ vJ J 265 26 ∧ vJ J 265 26 ≤ 3000 * vI I 265 25)
theorem armB {v : am_V} {n : Nat} (h : WfL v) (hn : n ≤ 60) : 0 ≤ armZ v n ∧ armZ v n ≤ 3000 := by
  unfold armZ
  split
  · exact h.2 12 (by omega)
  · have hb := h.2 (n / 5) (by omega)
    have hc := h.2 (n / 5 + 1) (by omega)
    have b1 := mulb (a := v 267 (n / 5)) (b := 5 - ((n % 5 : Nat) : Int)) (A := 3000) (B := 5 - ((n % 5 : Nat) : Int)) hb.1 hb.2 (by omega) (by omega)
    have b2 := mulb (a := v 267 (n / 5 + 1)) (b := ((n % 5 : Nat) : Int)) (A := 3000) (B := ((n % 5 : Nat) : Int)) hc.1 hc.2 (by omega) (by omega)
    omega
theorem upsB {v : am_V} {mw mu : Int} {n : Nat} (h : Wf v) (hw : 0 ≤ mw ∧ mw ≤ 200000) (hu : 0 ≤ mu ∧ mu ≤ 3000 * mw) (hn : n ≤ 60) : -6000000000 ≤ upsZ v mw mu n ∧ upsZ v mw mu n ≤ 12000000000 := by
  have a := rnsB (z := (n : Int)) h (by omega) (by omega)
  have b := upB h (mu := mu) ⟨hu.1, by omega⟩
  have c := sinR (z := (n : Int)) (by omega) (by omega)
  have e := mulb b.1 b.2 c.1 c.2
  have f := totB h hw
  have g := armB h.2.1 hn
  have k := mulb (show 0 ≤ totZ v mw by omega) f.2 g.1 g.2
  unfold upsZ
  omega
theorem trnB {v : am_V} {mw mu a z : Int} (h : Wf v) (hw : 0 ≤ mw ∧ mw ≤ 200000) (hu : 0 ≤ mu ∧ mu ≤ 3000 * mw) (ha : -10000000000 ≤ a ∧ a ≤ 10000000000) (hz : -60 ≤ z ∧ z ≤ 60) : (-10000000000000 ≤ a * sinZ (90 - z.natAbs) ∧ a * sinZ (90 - z.natAbs) ≤ 10000000000000) ∧ -30000000000000 ≤ trnZ v mw mu a z ∧ trnZ v mw mu a z ≤ 30000000000000 := by
  have c := sinR (z := 90 - (z.natAbs : Int)) (by omega) (by omega)
  have p := mula (a := a) (b := sinZ (90 - z.natAbs)) (A := 10000000000) (B := 1000) ha.1 ha.2 c.1 c.2 (by omega)
  have u := upsB h hw hu (n := z.natAbs) (by omega)
  have q : ((a * sinZ (90 - z.natAbs)).tdiv 1000).natAbs ≤ (a * sinZ (90 - z.natAbs)).natAbs := by
    rw [Int.natAbs_tdiv]; exact Nat.div_le_self _ _
  refine ⟨⟨by omega, by omega⟩, ?_⟩
  unfold trnZ
  dsimp only
  split
  · omega
  · split <;> omega
/-- a walk of one way -/
def wlkZ (t : Int → Int) (way : Int) : Nat → Int → Int
  | 0, z => z
  | n + 1, z => if 0 < t z * way ∧ ¬ z = way * 60 then wlkZ t way n (z + way) else z
def rstZ (t : Int → Int) (z : Int) : Int := if 0 < t z then wlkZ t 1 120 z else wlkZ t (-1) 120 z
theorem wlk_R {t : Int → Int} : ∀ (n : Nat) (z : Int) (m : Nat), z + n = 60 → n ≤ m → wlkZ t 1 m z = wlkZ t 1 n z := by
  intro n
  induction n with
  | zero =>
    intro z m h _
    cases m with
    | zero => rfl
    | succ m => show (if _ then _ else _) = z; rw [if_neg (fun q => q.2 (by omega))]
  | succ n ih =>
    intro z m h hm
    cases m with
    | zero => omega
    | succ m =>
      show (if _ then _ else _) = (if _ then _ else _)
      rw [ih (z + 1) m (by omega) (by omega)]
theorem wlk_L {t : Int → Int} : ∀ (n : Nat) (z : Int) (m : Nat), z - n = -60 → n ≤ m → wlkZ t (-1) m z = wlkZ t (-1) n z := by
  intro n
  induction n with
  | zero =>
    intro z m h _
    cases m with
    | zero => rfl
    | succ m => show (if _ then _ else _) = z; rw [if_neg (fun q => q.2 (by omega))]
  | succ n ih =>
    intro z m h hm
    cases m with
    | zero => omega
    | succ m =>
      show (if _ then _ else _) = (if _ then _ else _)
      rw [ih (z + -1) m (by omega) (by omega)]
theorem wlk_rng {t : Int → Int} {way : Int} (hw : way = 1 ∨ way = -1) : ∀ (n : Nat) (z : Int), -60 ≤ z ∧ z ≤ 60 → -60 ≤ wlkZ t way n z ∧ wlkZ t way n z ≤ 60 := by
  intro n
  induction n with
  | zero => intro z h; exact h
  | succ n ih =>
    intro z h
    unfold wlkZ
    split
    · rename_i q
      exact ih _ (by rcases hw with rfl | rfl <;> omega)
    · exact h
theorem rst_rng {t : Int → Int} {z : Int} (h : -60 ≤ z ∧ z ≤ 60) : -60 ≤ rstZ t z ∧ rstZ t z ≤ 60 := by
  unfold rstZ
  split
  · exact wlk_rng (Or.inl rfl) _ _ h
  · exact wlk_rng (Or.inr rfl) _ _ h
section M5
variable {E : Nat × (Nat → Int32)} {d : Nat} {I : Nat → Nat → Int32} {J : Nat → Nat → Int64} {A : Nat → Option Nat} {Q : Option Value → am_M → Prop} {M : am_M}
theorem m_sineE {x : Int32} {z : Int} (e : x = iZ z) (h0 : 0 ≤ z) (h1 : z ≤ 90) (hQ : Q (some (.int (iZ (sinZ z)))) M) : wpC E d 158 [.int x] M Q := by
  subst e; exact m_sine h0 h1 hQ
theorem m_leverAtE {x : Int32} {n : Nat} (e : x = iZ n) (hn : n ≤ 60) (hW : WfL (vI I)) (hQ : Q (some (.int (iZ (armZ (vI I) n)))) (mm I J A)) : wpC E d 159 [.ref 265, .int x] (mm I J A) Q := by
  subst e; rw [iZ_nat]; exact m_leverAt hn hW hQ
/-- the memory's own turn -/
def tM (I : Nat → Nat → Int32) (J : Nat → Nat → Int64) (a : Int) : Int → Int := trnZ (vI I) (vI I 265 25) (vJ J 265 26) a
theorem m_turnBy {a z : Int} (h : WM I J) (ha : -10000000000 ≤ a ∧ a ≤ 10000000000) (hz : -60 ≤ z ∧ z ≤ 60) (hQ : Q (some (.long (lZ (tM I J a z)))) (mm I J A)) : wpC E (d + 3) 166 [.ref 265, .long (lZ a), .int (iZ z)] (mm I J A) Q := by
  obtain ⟨hW, hw, hu⟩ := h
  have tb := trnB hW hw hu ha hz
  have c1 := sinR (z := 90 - (z.natAbs : Int)) (by omega) (by omega)
  have c2 := sinR (z := (z.natAbs : Int)) (by omega) (by omega)
  have ub := upB hW (mu := vJ J 265 26) ⟨hu.1, by omega⟩
  have ue := mulb ub.1 ub.2 c2.1 c2.2
  have tt := totB hW hw
  have ar := armB (v := vI I) (n := z.natAbs) hW.2.1 (by omega)
  have rn := rnsB (z := (z.natAbs : Int)) hW (by omega) (by omega)
  refine wc (hs := []) 80 (by decide) ?_
  refine And.intro rfl (m_without ⟨by omega, by omega⟩ ?_)
  refine And.intro rfl (m_sineE (z := 90 - z.natAbs) (iZ_sub 90 _) (by omega) (by omega) ?_)
  refine And.intro (by decide) ?_
  refine And.intro rfl (m_allRuns hW (by omega) (by omega) ?_)
  refine And.intro rfl (m_upward hW ?_)
  refine And.intro rfl (m_sineE rfl (by omega) (by omega) ?_)
  refine And.intro (by decide) ?_
  refine And.intro rfl (m_total hW.1 ?_)
  refine And.intro rfl (m_leverAtE rfl (by omega) hW.2.1 ?_)
  have f : lZ a * (iZ (sinZ (90 - z.natAbs))).toInt64 / lZ 1000 = lZ ((a * sinZ (90 - z.natAbs)).tdiv 1000) := by
    rw [iZ_l ⟨by omega, by omega⟩, lZ_mul, lZ_div ⟨by omega, by omega⟩ ⟨by omega, by omega⟩]
  have g : lZ (rnsZ (vI I) z.natAbs) + lZ (upZ (vI I) (vJ J 265 26)) * (iZ (sinZ z.natAbs)).toInt64 / lZ 1000 - (iZ (totZ (vI I) (vI I 265 25))).toInt64 * (iZ (armZ (vI I) z.natAbs)).toInt64 = lZ (upsZ (vI I) (vI I 265 25) (vJ J 265 26) z.natAbs) := by
    rw [iZ_l ⟨by omega, by omega⟩, iZ_l ⟨by omega, by omega⟩, iZ_l ⟨by omega, by omega⟩, lZ_mul, lZ_mul, lZ_div ⟨by omega, by omega⟩ ⟨by omega, by omega⟩, Int.tdiv_eq_ediv_of_nonneg ue.1, lZ_add, lZ_sub]
    rfl
  refine And.intro (fun q => ?_) (fun q => ?_)
  · have q : iZ z = iZ 0 := q
    rw [iZ_eq ⟨by omega, by omega⟩ ⟨by omega, by omega⟩] at q
    refine q_l hQ (f.trans ?_)
    unfold tM trnZ
    rw [if_pos q]
  · have q : ¬ iZ z = iZ 0 := q
    rw [iZ_eq ⟨by omega, by omega⟩ ⟨by omega, by omega⟩] at q
    refine And.intro (fun r => ?_) (fun r => ?_)
    · have r : iZ z ≤ iZ 0 := r
      rw [iZ_le ⟨by omega, by omega⟩ ⟨by omega, by omega⟩] at r
      refine q_l hQ ?_
      refine (congr (congrArg (fun (x y : Int64) => x - y) f) g).trans ?_
      rw [lZ_sub]
      unfold tM trnZ
      rw [if_neg q, if_neg (by omega)]
    · have r : ¬ iZ z ≤ iZ 0 := r
      rw [iZ_le ⟨by omega, by omega⟩ ⟨by omega, by omega⟩] at r
      refine q_l hQ ?_
      refine (congr (congrArg (fun (x y : Int64) => x + y) f) g).trans ?_
      rw [lZ_add]
      unfold tM trnZ
      rw [if_neg q, if_pos (by omega)]
theorem m_restR {a : Int} (h : WM I J) (ha : -10000000000 ≤ a ∧ a ≤ 10000000000) (x3 : Int32) : ∀ (n : Nat) (z : Int) (x4 : Int32) (x5 : Int64), z + n = 60 → -60 ≤ z → x4 = iZ z → x5 = lZ (tM I J a z) → Q (some (.int (iZ (wlkZ (tM I J a) 1 n z)))) (mm I J A) → wp E (d + 4) 167 19 [(0, .ref 265), (1, .long (lZ a)), (3, .int x3), (4, .int x4), (5, .long x5)] [] (mm I J A) Q := by
  intro n
  induction n with
  | zero =>
    intro z x4 x5 hz hz2 e4 e5 hQ
    subst e4; subst e5
    refine wf (hs := [19]) 40 19 (by decide) ?_
    refine And.intro (fun q => ?_) (fun q => ?_)
    · exact hQ
    · refine wt ?_ hQ
      show iZ 60 ≤ iZ z
      rw [iZ_le ⟨by omega, by omega⟩ ⟨by omega, by omega⟩]; omega
  | succ n ih =>
    intro z x4 x5 hz hz2 e4 e5 hQ
    have tb := (trnB h.1 h.2.1 h.2.2 ha (z := z) ⟨hz2, by omega⟩).2
    subst e4; subst e5
    have key : lg_cmp (lZ (tM I J a z)) 0 ≤ 0 ↔ tM I J a z ≤ 0 := by
      rw [lg_cmp_le]
      exact lZ_le (b := 0) ⟨by unfold tM; omega, by unfold tM; omega⟩ ⟨by omega, by omega⟩
    refine wf (hs := [19]) 40 19 (by decide) ?_
    refine And.intro (fun q => ?_) (fun q => ?_)
    · refine q_i hQ ?_
      have q := key.mp q
      show _ = iZ (if _ then _ else _)
      rw [if_neg (by omega)]
    · have q : ¬ tM I J a z ≤ 0 := fun y => q (key.mpr y)
      refine wF ?_ ?_
      · show ¬ iZ 60 ≤ iZ z
        rw [iZ_le ⟨by omega, by omega⟩ ⟨by omega, by omega⟩]; omega
      · have e : iZ z + 1 = iZ (z + 1) := iZ_add z 1
        refine And.intro rfl ?_
        show wpC E (d + 3) 166 [.ref 265, .long (lZ a), .int (iZ z + 1)] (mm I J A) _
        rw [e]
        refine m_turnBy h ha ⟨by omega, by omega⟩ ?_
        refine wp_pick [2, 3, 4, 1, 0] [5, 4, 0, 1, 3] [0, 1, 3, 4, 5] rfl rfl (by decide) (by decide) ?_
        refine ih (z + 1) _ _ (by omega) (by omega) e rfl ?_
        have : wlkZ (tM I J a) 1 (n + 1) z = wlkZ (tM I J a) 1 n (z + 1) := by
          show (if _ then _ else _) = _
          rw [if_pos ⟨by omega, by omega⟩]
        rw [← this]; exact hQ
theorem m_restL {a : Int} (h : WM I J) (ha : -10000000000 ≤ a ∧ a ≤ 10000000000) (x3 : Int32) : ∀ (n : Nat) (z : Int) (x4 : Int32) (x5 : Int64), z - n = -60 → z ≤ 60 → x4 = iZ z → x5 = lZ (tM I J a z) → Q (some (.int (iZ (wlkZ (tM I J a) (-1) n z)))) (mm I J A) → wp E (d + 4) 167 51 [(0, .ref 265), (1, .long (lZ a)), (3, .int x3), (4, .int x4), (5, .long x5)] [] (mm I J A) Q := by
  intro n
  induction n with
  | zero =>
    intro z x4 x5 hz hz2 e4 e5 hQ
    subst e4; subst e5
    refine wf (hs := [51]) 40 51 (by decide) ?_
    refine And.intro (fun q => ?_) (fun q => ?_)
    · exact hQ
    · refine wt ?_ hQ
      show iZ z ≤ iZ (-60)
      rw [iZ_le ⟨by omega, by omega⟩ ⟨by omega, by omega⟩]; omega
  | succ n ih =>
    intro z x4 x5 hz hz2 e4 e5 hQ
    have tb := (trnB h.1 h.2.1 h.2.2 ha (z := z) ⟨by omega, hz2⟩).2
    subst e4; subst e5
    have key : 0 ≤ lg_cmp (lZ (tM I J a z)) 0 ↔ 0 ≤ tM I J a z := by
      rw [lg_cmp_ge]
      exact lZ_le (a := 0) ⟨by omega, by omega⟩ ⟨by unfold tM; omega, by unfold tM; omega⟩
    refine wf (hs := [51]) 40 51 (by decide) ?_
    refine And.intro (fun q => ?_) (fun q => ?_)
    · refine q_i hQ ?_
      have q := key.mp q
      show _ = iZ (if _ then _ else _)
      rw [if_neg (by omega)]
    · have q : ¬ 0 ≤ tM I J a z := fun y => q (key.mpr y)
      refine wF ?_ ?_
      · show ¬ iZ z ≤ iZ (-60)
        rw [iZ_le ⟨by omega, by omega⟩ ⟨by omega, by omega⟩]; omega
      · have e : iZ z + iZ (-1) = iZ (z + -1) := iZ_add z (-1)
        refine And.intro rfl ?_
        show wpC E (d + 3) 166 [.ref 265, .long (lZ a), .int (iZ z + iZ (-1))] (mm I J A) _
        rw [e]
        refine m_turnBy h ha ⟨by omega, by omega⟩ ?_
        refine wp_pick [2, 3, 4, 1, 0] [5, 4, 0, 1, 3] [0, 1, 3, 4, 5] rfl rfl (by decide) (by decide) ?_
        refine ih (z + -1) _ _ (by omega) (by omega) e rfl ?_
        have : wlkZ (tM I J a) (-1) (n + 1) z = wlkZ (tM I J a) (-1) n (z + -1) := by
          show (if _ then _ else _) = _
          rw [if_pos ⟨by omega, by omega⟩]
        rw [← this]; exact hQ
theorem m_restBy {a z : Int} (h : WM I J) (ha : -10000000000 ≤ a ∧ a ≤ 10000000000) (hz : -60 ≤ z ∧ z ≤ 60) (hQ : Q (some (.int (iZ (rstZ (tM I J a) z)))) (mm I J A)) : wpC E (d + 4) 167 [.ref 265, .long (lZ a), .int (iZ z)] (mm I J A) Q := by
  have tb := (trnB h.1 h.2.1 h.2.2 ha hz).2
  refine wc (hs := [19, 51]) 40 (by decide) ?_
  refine And.intro rfl (m_turnBy h ha hz ?_)
  have key : lg_cmp (lZ (tM I J a z)) 0 ≤ 0 ↔ tM I J a z ≤ 0 := by
    rw [lg_cmp_le]
    exact lZ_le (b := 0) ⟨by unfold tM; omega, by unfold tM; omega⟩ ⟨by omega, by omega⟩
  refine And.intro (fun q => ?_) (fun q => ?_)
  · have q := key.mp q
    refine wp_pick [2, 3, 4, 1, 0] [5, 4, 0, 1, 3] [0, 1, 3, 4, 5] rfl rfl (by decide) (by decide) ?_
    refine m_restL h ha _ (z + 60).toNat z _ _ (by omega) hz.2 rfl rfl ?_
    refine q_i hQ ?_
    unfold rstZ
    rw [if_neg (by omega), wlk_L (z + 60).toNat z 120 (by omega) (by omega)]
  · have q : ¬ tM I J a z ≤ 0 := fun y => q (key.mpr y)
    refine wp_pick [2, 3, 4, 1, 0] [5, 4, 0, 1, 3] [0, 1, 3, 4, 5] rfl rfl (by decide) (by decide) ?_
    refine m_restR h ha _ (60 - z).toNat z _ _ (by omega) hz.1 rfl rfl ?_
    refine q_i hQ ?_
    unfold rstZ
    rw [if_pos (by omega), wlk_R (60 - z).toNat z 120 (by omega) (by omega)]
theorem asdB {v : am_V} (h : Wf v) : -3000000000 ≤ asdZ v ∧ asdZ v ≤ 3000000000 := by
  have hS := h.1
  have hn : nP v ≤ 12 := by
    have := hS.2.2.2.2.2.2.2.2.1
    unfold nP; omega
  have hc : nC v ≤ 6 := by
    have := hS.2.2.2.2.2.2.2.2.2.1
    unfold nC; omega
  have pp : ∀ k, k < nP v → -(159840000) ≤ v 276 k * v 275 k * 10 ∧ v 276 k * v 275 k * 10 ≤ 159840000 := fun k hk => by
    have w := h.2.2.1 k hk
    have cb := (capB w).2.2
    obtain ⟨w0, w1, w2, w3, w4, w5, w6⟩ := w
    have p1 := mula (a := v 275 k) (b := v 276 k) (A := 200) (B := 79920) w5.1 w5.2 w6.1 (by omega) (by omega)
    have p2 : v 275 k * v 276 k = v 276 k * v 275 k := Int.mul_comm _ _
    omega
  have pc : ∀ k, k < nC v → -(19998000) ≤ v 277 k * v 281 k * v 280 k * 10 ∧ v 277 k * v 281 k * v 280 k * 10 ≤ 19998000 := fun k hk => by
    obtain ⟨w1, w2, w3, w4, w5⟩ := h.2.2.2 k hk
    have p1 := mula (a := v 281 k) (b := v 277 k) (A := 1) (B := 9999) w5.1 w5.2 (by omega) w1.2 (by omega)
    have p2 : v 281 k * v 277 k = v 277 k * v 281 k := Int.mul_comm _ _
    have p3 := mula (a := v 277 k * v 281 k) (b := v 280 k) (A := 9999) (B := 200) (by omega) (by omega) w4.1 w4.2 (by omega)
    omega
  have s1 := sm_ge (n := nP v) (f := fun k => v 276 k * v 275 k * 10) (fun k hk => (pp k hk).1)
  have s2 := sm_le (n := nP v) (f := fun k => v 276 k * v 275 k * 10) (fun k hk => (pp k hk).2)
  have s3 := sm_ge (n := nC v) (f := fun k => v 277 k * v 281 k * v 280 k * 10) (fun k hk => (pc k hk).1)
  have s4 := sm_le (n := nC v) (f := fun k => v 277 k * v 281 k * v 280 k * 10) (fun k hk => (pc k hk).2)
  have := hS.2.2.2.2.1
  unfold asdZ
  omega
theorem m_restFrom {z : Int} (h : WM I J) (hz : -60 ≤ z ∧ z ≤ 60) (hQ : Q (some (.int (iZ (rstZ (tM I J (asdZ (vI I))) z)))) (mm I J A)) : wpC E (d + 5) 168 [.ref 265, .int (iZ z)] (mm I J A) Q := by
  have ab := asdB h.1
  refine wc (hs := []) 20 (by decide) ?_
  refine And.intro rfl (m_asideNow h.1 ?_)
  exact And.intro rfl (m_restBy h ⟨by omega, by omega⟩ hz hQ)
theorem m_loll (h : WM I J) (hQ : Q (some (.int (iZ (rstZ (tM I J 0) 1)))) (mm I J A)) : wpC E (d + 5) 169 [.ref 265] (mm I J A) Q := by
  refine wc (hs := []) 20 (by decide) ?_
  exact And.intro rfl (m_restBy (a := 0) (z := 1) h ⟨by omega, by omega⟩ ⟨by omega, by omega⟩ hQ)
end M5
