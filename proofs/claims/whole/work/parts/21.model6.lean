/-! ===== the reference: stiff, beat, range, over ===== -/
theorem sm_mul {n : Nat} {f g : Nat → Int} {C : Int} (h : ∀ k, k < n → f k ≤ C * g k) : sm n f ≤ C * sm n g := by
  induction n with
  | zero => simp [sm]
  | succ n ih =>
    have h1 := ih (fun k hk => h k (by omega))
    have h2 := h n (by omega)
    show sm n f + f n ≤ C * (sm n g + g n)
    rw [Int.mul_add]
    omega
def stfZ (v : am_V) (mw mu : Int) : Int := (totZ v mw * v 267 1 - upZ v mu * sinZ 5 / 1000 - rnsZ v 5) * 1000 / (totZ v mw * sinZ 5)
theorem sin5 : sinZ 5 = 88 := by decide
theorem upT {v : am_V} {mw mu : Int} (h : Wf v) (hu : mu ≤ 3000 * mw) : upZ v mu ≤ 3000 * totZ v mw := by
  have s1 := sm_mul (n := nC v) (f := fun k => v 277 k * v 278 k) (g := fun k => v 277 k) (C := 3000) (fun k hk => by
    obtain ⟨w1, w2, -⟩ := h.2.2.2 k hk
    show v 277 k * v 278 k ≤ 3000 * v 277 k
    rw [Int.mul_comm 3000]
    exact Int.mul_le_mul_of_nonneg_left w2.2 (by omega))
  have s2 := sm_mul (n := nP v) (f := fun k => v 276 k * (v 270 k + levZ v k / 2)) (g := fun k => v 276 k) (C := 3000) (fun k hk => by
    have w := h.2.2.1 k hk
    have l := levB w
    obtain ⟨w0, w1, w2, w3, w4, w5, w6⟩ := w
    show v 276 k * (v 270 k + levZ v k / 2) ≤ 3000 * v 276 k
    rw [Int.mul_comm 3000]
    exact Int.mul_le_mul_of_nonneg_left (by omega) w6.1)
  have s3 : v 266 2 * v 266 3 ≤ v 266 2 * 3000 := Int.mul_le_mul_of_nonneg_left h.1.2.2.1.2 (by have := h.1.2.1; omega)
  unfold upZ totZ
  omega
theorem rnT {v : am_V} {mw : Int} (h : Wf v) (hw : 0 ≤ mw) : rnsZ v 5 ≤ 2000 * totZ v mw := by
  have s1 := sm_mul (n := nP v) (f := fun k => runZ v k 5) (g := fun k => v 276 k) (C := 2000) (fun k hk => by
    have w := h.2.2.1 k hk
    have b := (blkB w).1
    have cb := (capB w).2.2
    obtain ⟨w0, w1, w2, w3, w4, w5, w6⟩ := w
    have e1 : blkZ v k ≤ 5 * v 272 k * min (v 276 k) (capZ v k - v 276 k) := Int.ediv_le_self _ b.1
    have e2 : 5 * v 272 k * min (v 276 k) (capZ v k - v 276 k) ≤ 5 * v 272 k * v 276 k := Int.mul_le_mul_of_nonneg_left (by omega) (by omega)
    have e3 : 5 * v 272 k * v 276 k ≤ 2000 * v 276 k := Int.mul_le_mul_of_nonneg_right (by omega) w6.1
    show runZ v k 5 ≤ 2000 * v 276 k
    unfold runZ
    omega)
  have s2 := sm_nn (n := nC v) (f := fun k => v 277 k) (fun k hk => by have := (h.2.2.2 k hk).1; omega)
  have := h.1.2.1
  unfold rnsZ totZ
  omega
theorem stfB {v : am_V} {mw mu : Int} (h : Wf v) (hw : 0 ≤ mw ∧ mw ≤ 200000) (hu : 0 ≤ mu ∧ mu ≤ 3000 * mw) : (-100000000000000 ≤ (totZ v mw * v 267 1 - upZ v mu * sinZ 5 / 1000 - rnsZ v 5) * 1000 ∧ (totZ v mw * v 267 1 - upZ v mu * sinZ 5 / 1000 - rnsZ v 5) * 1000 ≤ 100000000000000) ∧ -40000 ≤ stfZ v mw mu ∧ stfZ v mw mu ≤ 40000 := by
  have t := totB h hw
  have u := upB h (mu := mu) ⟨hu.1, by omega⟩
  have u2 := upT h hu.2
  have r := rnsB (z := 5) h (by omega) (by omega)
  have r2 := rnT h hw.1
  have l := h.2.1.2 1 (by omega)
  have a := mulb (show 0 ≤ totZ v mw by omega) t.2 l.1 l.2
  have a2 : totZ v mw * v 267 1 ≤ totZ v mw * 3000 := Int.mul_le_mul_of_nonneg_left l.2 (by omega)
  unfold stfZ
  rw [sin5]
  refine ⟨⟨by omega, by omega⟩, ?_, ?_⟩
  · exact Int.le_ediv_of_mul_le (by omega) (by omega)
  · exact Int.ediv_le_of_le_mul (by omega) (by omega)
def rtF : Nat → Int → Int → Int
  | 0, t, _ => t
  | n + 1, t, m => if (t + 1) * (t + 1) ≤ m then rtF n (t + 1) m else t
def sqI (m : Int) : Int := rtF 9000 0 m
theorem sq_lt {a b : Int} (h0 : 0 ≤ a) (h : a < b) : a * a < b * b := by
  have h1 : a * a ≤ a * b := Int.mul_le_mul_of_nonneg_left (by omega) h0
  have h2 : a * b < b * b := Int.mul_lt_mul_of_pos_right h (by omega)
  omega
theorem sq_uniq {a b m : Int} (ha : 0 ≤ a) (hb : 0 ≤ b) (h1 : a * a ≤ m) (h2 : m < (a + 1) * (a + 1)) (h3 : b * b ≤ m) (h4 : m < (b + 1) * (b + 1)) : a = b := by
  rcases Int.lt_trichotomy a b with z | z | z
  · have : (a + 1) * (a + 1) ≤ b * b := by
      rcases Int.lt_or_eq_of_le (show a + 1 ≤ b by omega) with y | y
      · exact Int.le_of_lt (sq_lt (by omega) y)
      · rw [y]; exact Int.le_refl _
    omega
  · exact z
  · have : (b + 1) * (b + 1) ≤ a * a := by
      rcases Int.lt_or_eq_of_le (show b + 1 ≤ a by omega) with y | y
      · exact Int.le_of_lt (sq_lt (by omega) y)
      · rw [y]; exact Int.le_refl _
    omega
theorem rtF_ok : ∀ (n : Nat) (t m : Int), 0 ≤ t → t * t ≤ m → m < (t + n + 1) * (t + n + 1) → 0 ≤ rtF n t m ∧ rtF n t m * rtF n t m ≤ m ∧ m < (rtF n t m + 1) * (rtF n t m + 1) := by
  intro n
  induction n with
  | zero => intro t m h0 h1 h2; exact ⟨h0, h1, by simpa [rtF] using h2⟩
  | succ n ih =>
    intro t m h0 h1 h2
    unfold rtF
    split
    · rename_i hc
      exact ih (t + 1) m (by omega) hc (by
        have : t + 1 + (n : Int) + 1 = t + ((n + 1 : Nat) : Int) + 1 := by omega
        rw [this]; exact h2)
    · exact ⟨h0, h1, by omega⟩
theorem sqI_ok {m : Int} (h0 : 0 ≤ m) (h1 : m ≤ 80000000) : 0 ≤ sqI m ∧ sqI m * sqI m ≤ m ∧ m < (sqI m + 1) * (sqI m + 1) := rtF_ok 9000 0 m (by omega) (by omega) (by omega)
theorem sqI_eq {m r : Int} (h0 : 0 ≤ m) (h1 : m ≤ 80000000) (hr : 0 ≤ r) (h2 : r * r ≤ m) (h3 : m < (r + 1) * (r + 1)) : sqI m = r := by
  obtain ⟨a, b, c⟩ := sqI_ok h0 h1
  exact sq_uniq a hr b c h2 h3
def btZ (v : am_V) (s : Int) : Int := if s ≤ 0 then -1 else sqI (64 * v 266 1 * v 266 1 / s)
def rngF (t : Int → Int) (rest : Int) : Nat → Int → Int
  | 0, best => best
  | n + 1, best => if rest < n + 1 then (if t (n + 1) < 0 then best else rngF t rest n (if 0 < t (n + 1) then n + 1 else best)) else best
section M6
variable {E : Nat × (Nat → Int32)} {d : Nat} {I : Nat → Nat → Int32} {J : Nat → Nat → Int64} {A : Nat → Option Nat} {Q : Option Value → am_M → Prop} {M : am_M}
/-- the memory's own stiffness -/
def sM (I : Nat → Nat → Int32) (J : Nat → Nat → Int64) : Int := stfZ (vI I) (vI I 265 25) (vJ J 265 26)
theorem m_stiff (h : WM I J) (hQ : Q (some (.int (iZ (sM I J)))) (mm I J A)) : wpC E (d + 3) 170 [.ref 265] (mm I J A) Q := by
  obtain ⟨hW, hw, hu⟩ := h
  have t := totB hW hw
  have u := upB hW (mu := vJ J 265 26) ⟨hu.1, by omega⟩
  have r := rnsB (z := 5) hW (by omega) (by omega)
  have sb := stfB hW hw hu
  have l := hW.2.1.2 1 (by omega)
  have a := mulb (show 0 ≤ totZ (vI I) (vI I 265 25) by omega) t.2 l.1 l.2
  have t5 : totZ (vI I) (vI I 265 25) * sinZ 5 = totZ (vI I) (vI I 265 25) * 88 := by rw [sin5]
  have u5 : upZ (vI I) (vJ J 265 26) * sinZ 5 = upZ (vI I) (vJ J 265 26) * 88 := by rw [sin5]
  refine wc (hs := []) 60 (by decide) ?_
  refine And.intro rfl (m_total hW.1 ?_)
  refine And.intro (inL (by decide)) (And.intro rfl (m_upward hW ?_))
  refine And.intro rfl (m_sineE (z := 5) rfl (by omega) (by omega) ?_)
  refine And.intro (by decide) (And.intro rfl (m_allRuns (z := 5) hW (by omega) (by omega) ?_))
  refine And.intro rfl (m_sineE (z := 5) rfl (by omega) (by omega) ?_)
  refine And.intro rfl ?_
  have s5 := sin5
  have e1 : ((iZ (totZ (vI I) (vI I 265 25))).toInt64 * (I 267 1).toInt64 - lZ (upZ (vI I) (vJ J 265 26)) * (iZ (sinZ 5)).toInt64 / lZ 1000 - lZ (rnsZ (vI I) 5)) * lZ 1000 = lZ ((totZ (vI I) (vI I 265 25) * vI I 267 1 - upZ (vI I) (vJ J 265 26) * sinZ 5 / 1000 - rnsZ (vI I) 5) * 1000) := by
    rw [iZ_l ⟨by omega, by omega⟩, IL, iZ_l ⟨by omega, by omega⟩, lZ_mul, lZ_mul, lZ_div ⟨by omega, by omega⟩ ⟨by omega, by omega⟩, Int.tdiv_eq_ediv_of_nonneg (by omega), lZ_sub, lZ_sub, lZ_mul]
  have e2 : (iZ (totZ (vI I) (vI I 265 25))).toInt64 * (iZ (sinZ 5)).toInt64 = lZ (totZ (vI I) (vI I 265 25) * sinZ 5) := by
    rw [iZ_l ⟨by omega, by omega⟩, iZ_l ⟨by omega, by omega⟩, lZ_mul]
  show wpC E (d + 2) 141 [.long (((iZ (totZ (vI I) (vI I 265 25))).toInt64 * (I 267 1).toInt64 - lZ (upZ (vI I) (vJ J 265 26)) * (iZ (sinZ 5)).toInt64 / lZ 1000 - lZ (rnsZ (vI I) 5)) * lZ 1000), .long ((iZ (totZ (vI I) (vI I 265 25))).toInt64 * (iZ (sinZ 5)).toInt64)] (mm I J A) _
  rw [e1, e2]
  refine m_floor ⟨by omega, by omega⟩ ⟨by omega, by omega⟩ ?_
  refine q_i hQ ?_
  show (lZ _).toInt32 = _
  have : rL (stfZ (vI I) (vI I 265 25) (vJ J 265 26)) := ⟨by omega, by omega⟩
  exact lZ_i this
theorem m_isOver (hW : WfS (vI I)) (h1 : vI I 266 7 = 60 ∨ vI I 266 7 = -60 → Q (some (.int 1)) (mm I J A)) (h0 : ¬ (vI I 266 7 = 60 ∨ vI I 266 7 = -60) → Q (some (.int 0)) (mm I J A)) : wpC E (d + 1) 173 [.ref 265] (mm I J A) Q := by
  have l := hW.2.2.2.2.2.2.1
  refine wc (hs := []) 30 (by decide) ?_
  refine And.intro (inL (by decide)) (And.intro rfl ?_)
  show wpC E d 142 [.int (I 266 7)] (mm I J A) _
  rw [vI_eq I 266 7]
  refine m_without ⟨by omega, by omega⟩ ?_
  refine And.intro (fun q => ?_) (fun q => ?_)
  · have q : iZ ((vI I 266 7).natAbs : Int) = iZ 60 := q
    rw [iZ_eq ⟨by omega, by omega⟩ ⟨by omega, by omega⟩] at q
    exact And.intro rfl (h1 (by omega))
  · have q : ¬ iZ ((vI I 266 7).natAbs : Int) = iZ 60 := q
    rw [iZ_eq ⟨by omega, by omega⟩ ⟨by omega, by omega⟩] at q
    exact And.intro rfl (h0 (by omega))
theorem m_beatL {s most : Int} (hs : 1 ≤ s ∧ s ≤ 40000) (hm : 0 ≤ most ∧ most ≤ 10240000) (hQ : ∀ τ : Int, 0 ≤ τ → τ * τ * s ≤ most → most < (τ + 1) * (τ + 1) * s → Q (some (.int (iZ τ))) (mm I J A)) :
    ∀ (n : Nat) (τ : Int) (x : Int32), 3200 ≤ τ + n → 0 ≤ τ → τ ≤ 3200 → x = iZ τ → τ * τ * s ≤ most → wp E d 171 37 [(0, .ref 265), (1, .long (lZ s)), (3, .long (lZ most)), (5, .int x)] [] (mm I J A) Q := by
  have big : ∀ τ : Int, 0 ≤ τ → (τ + 1) * (τ + 1) * s ≤ most → τ + 1 ≤ 3200 := by
    intro τ h0 h
    rcases Int.lt_or_le 3200 (τ + 1) with z | z
    · have a := sq_lt (a := 3200) (b := τ + 1) (by omega) z
      have b : (τ + 1) * (τ + 1) * 1 ≤ (τ + 1) * (τ + 1) * s := Int.mul_le_mul_of_nonneg_left hs.1 (Int.mul_nonneg (by omega) (by omega))
      omega
    · exact z
  have rng : ∀ τ : Int, 0 ≤ τ → τ ≤ 3200 → rL ((τ + 1) * (τ + 1) * s) := by
    intro τ h0 h1
    have a := mulb (a := τ + 1) (b := τ + 1) (A := 3201) (B := 3201) (by omega) (by omega) (by omega) (by omega)
    have b := mulb a.1 a.2 (show 0 ≤ s by omega) hs.2
    exact ⟨by omega, by omega⟩
  intro n
  induction n with
  | zero =>
    intro τ x hn h0 h1 e hle
    subst e
    refine wf (hs := [37]) 40 37 (by decide) ?_
    refine wt ?_ (hQ τ h0 hle ?_)
    · show 0 < lg_cmp (((iZ τ).toInt64 + lZ 1) * ((iZ τ).toInt64 + lZ 1) * lZ s) (lZ most)
      rw [lg_cmp_gt, iZ_l ⟨by omega, by omega⟩, lZ_add, lZ_mul, lZ_mul, lZ_lt ⟨by omega, by omega⟩ (rng τ h0 h1)]
      rcases Int.lt_or_le most ((τ + 1) * (τ + 1) * s) with z | z
      · exact z
      · have := big τ h0 z; omega
    · rcases Int.lt_or_le most ((τ + 1) * (τ + 1) * s) with z | z
      · exact z
      · have := big τ h0 z; omega
  | succ n ih =>
    intro τ x hn h0 h1 e hle
    subst e
    have key : 0 < lg_cmp (((iZ τ).toInt64 + lZ 1) * ((iZ τ).toInt64 + lZ 1) * lZ s) (lZ most) ↔ most < (τ + 1) * (τ + 1) * s := by
      rw [lg_cmp_gt, iZ_l ⟨by omega, by omega⟩, lZ_add, lZ_mul, lZ_mul, lZ_lt ⟨by omega, by omega⟩ (rng τ h0 h1)]
    refine wf (hs := [37]) 40 37 (by decide) ?_
    refine And.intro (fun q => ?_) (fun q => ?_)
    · exact hQ τ h0 hle (key.mp q)
    · have q : ¬ most < (τ + 1) * (τ + 1) * s := fun y => q (key.mpr y)
      refine wp_pick [1, 2, 3, 0] [5, 0, 1, 3] [0, 1, 3, 5] rfl rfl (by decide) (by decide) ?_
      exact ih (τ + 1) _ (by omega) (by omega) (big τ h0 (by omega)) (iZ_add τ 1) (by omega)
theorem m_beat (h : WM I J) (hQ : Q (some (.int (iZ (btZ (vI I) (sM I J))))) (mm I J A)) : wpC E (d + 4) 171 [.ref 265] (mm I J A) Q := by
  have sb := (stfB h.1 h.2.1 h.2.2).2
  have hb := h.1.1.1
  have m0 := mulb (a := 64 * vI I 266 1) (b := vI I 266 1) (A := 25600) (B := 400) (by omega) (by omega) (by omega) hb.2
  refine wc (hs := [37]) 60 (by decide) ?_
  refine And.intro rfl (m_stiff h ?_)
  have key : 0 < lg_cmp (iZ (sM I J)).toInt64 (lZ 0) ↔ 0 < sM I J := by
    rw [lg_cmp_gt, iZ_l ⟨by unfold sM; omega, by unfold sM; omega⟩]
    exact lZ_lt ⟨by omega, by omega⟩ ⟨by unfold sM; omega, by unfold sM; omega⟩
  refine And.intro (fun q => ?_) (fun q => ?_)
  · have q := key.mp q
    refine And.intro (inL (by decide)) (And.intro (inL (by decide)) ?_)
    refine wp_pick [3, 2, 1, 0] [5, 3, 1, 0] [0, 1, 3, 5] rfl rfl (by decide) (by decide) ?_
    have e1 : (iZ (sM I J)).toInt64 = lZ (sM I J) := iZ_l ⟨by unfold sM; omega, by unfold sM; omega⟩
    have e2 : lZ 64 * (I 266 1).toInt64 * (I 266 1).toInt64 = lZ (64 * vI I 266 1 * vI I 266 1) := by rw [IL, lZ_mul, lZ_mul]
    show wp E (d + 4) 171 37 [(0, .ref 265), (1, .long (iZ (sM I J)).toInt64), (3, .long (lZ 64 * (I 266 1).toInt64 * (I 266 1).toInt64)), (5, .int (iZ 0))] [] (mm I J A) Q
    rw [e1, e2]
    refine m_beatL ⟨by omega, by unfold sM; omega⟩ ⟨m0.1, by omega⟩ (fun τ h0 h1 h2 => ?_) 3200 0 _ (by omega) (by omega) (by omega) rfl (by simpa using m0.1)
    refine q_i hQ ?_
    congr 1
    unfold btZ
    rw [if_neg (by omega)]
    symm
    refine sqI_eq (Int.ediv_nonneg m0.1 (by omega)) (Int.le_trans (Int.ediv_le_self _ m0.1) (by omega)) h0 ?_ ?_
    · exact Int.le_ediv_of_mul_le q h1
    · exact Int.ediv_lt_of_lt_mul q h2
  · have q : ¬ 0 < sM I J := fun y => q (key.mpr y)
    refine q_i hQ ?_
    unfold btZ
    rw [if_pos (by omega)]
    rfl
end M6
