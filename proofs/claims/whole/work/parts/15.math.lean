/-! ===== the ship as whole numbers: a view v (array, place); what the document says of it ===== -/
abbrev am_V : Type := Nat → Nat → Int
def sm (n : Nat) (f : Nat → Int) : Int := match n with
  | 0 => 0
  | n + 1 => sm n f + f n
def vI (I : Nat → Nat → Int32) : am_V := fun a i => (I a i).toInt
theorem vI_eq (I : Nat → Nat → Int32) (a i : Nat) : I a i = iZ (vI I a i) := (iZ_of (I a i)).symm
def nP (v : am_V) : Nat := (v 266 9).toNat
def nC (v : am_V) : Nat := (v 266 10).toNat
def nD (v : am_V) : Nat := (v 266 11).toNat
def nO (v : am_V) : Nat := (v 266 12).toNat
def nL (v : am_V) : Nat := (v 266 13).toNat
def sinZ (d : Int) : Int := 4000 * d * (180 - d) / (40500 - d * (180 - d))
def capZ (v : am_V) (k : Nat) : Int := v 272 k * v 273 k * v 271 k / 10000
def levZ (v : am_V) (k : Nat) : Int := min (v 271 k) (v 276 k * 10000 / (v 272 k * v 273 k))
def totZ (v : am_V) (mw : Int) : Int := v 266 2 + mw + sm (nC v) (fun k => v 277 k) + sm (nP v) (fun k => v 276 k)
def upZ (v : am_V) (mu : Int) : Int := v 266 2 * v 266 3 + mu + sm (nC v) (fun k => v 277 k * v 278 k) + sm (nP v) (fun k => v 276 k * (v 270 k + levZ v k / 2))
def armZ (v : am_V) (d : Nat) : Int := if d / 5 = 12 then v 267 12 else (v 267 (d / 5) * (5 - (d % 5 : Nat)) + v 267 (d / 5 + 1) * (d % 5 : Nat)) / 5
def sprZ (v : am_V) (k : Nat) : Int := v 273 k * v 272 k * v 272 k * v 272 k / (1200 * v 274 k * v 274 k)
def blkZ (v : am_V) (k : Nat) : Int := 5 * v 272 k * min (v 276 k) (capZ v k - v 276 k) / v 274 k
def runZ (v : am_V) (k : Nat) (d : Int) : Int := min (sprZ v k * sinZ d / 1000) (blkZ v k)
def rnsZ (v : am_V) (d : Int) : Int := sm (nP v) (fun k => runZ v k d)
def asdZ (v : am_V) : Int := v 266 5 * 10 + sm (nP v) (fun k => v 276 k * v 275 k * 10) + sm (nC v) (fun k => v 277 k * v 281 k * v 280 k * 10)
/-- what tends to turn her further over, at d degrees -/
def upsZ (v : am_V) (mw mu : Int) (d : Nat) : Int := rnsZ v d + upZ v mu * sinZ d / 1000 - totZ v mw * armZ v d
def trnZ (v : am_V) (mw mu a lean : Int) : Int :=
  let f := (a * sinZ (90 - lean.natAbs)).tdiv 1000
  if lean = 0 then f else if 0 < lean then f + upsZ v mw mu lean.natAbs else f - upsZ v mw mu lean.natAbs
/-- a place as told -/
def WfP (v : am_V) (k : Nat) : Prop := (0 ≤ v 270 k ∧ v 270 k ≤ 2000) ∧ (1 ≤ v 271 k ∧ v 271 k ≤ 999) ∧ (1 ≤ v 272 k ∧ v 272 k ≤ 400) ∧ (1 ≤ v 273 k ∧ v 273 k ≤ 2000) ∧ (1 ≤ v 274 k ∧ v 274 k ≤ 9) ∧ (-200 ≤ v 275 k ∧ v 275 k ≤ 200) ∧ (0 ≤ v 276 k ∧ v 276 k ≤ capZ v k)
def WfC (v : am_V) (k : Nat) : Prop := (1 ≤ v 277 k ∧ v 277 k ≤ 9999) ∧ (0 ≤ v 278 k ∧ v 278 k ≤ 3000) ∧ (1 ≤ v 279 k ∧ v 279 k ≤ 60) ∧ (0 ≤ v 280 k ∧ v 280 k ≤ 200) ∧ (-1 ≤ v 281 k ∧ v 281 k ≤ 1)
def WfS (v : am_V) : Prop := (10 ≤ v 266 1 ∧ v 266 1 ≤ 400) ∧ (1 ≤ v 266 2 ∧ v 266 2 ≤ 99999) ∧ (1 ≤ v 266 3 ∧ v 266 3 ≤ 3000) ∧ (1 ≤ v 266 4 ∧ v 266 4 ≤ 999) ∧ (-99999 ≤ v 266 5 ∧ v 266 5 ≤ 99999) ∧ (0 ≤ v 266 6 ∧ v 266 6 ≤ 99) ∧ (-60 ≤ v 266 7 ∧ v 266 7 ≤ 60) ∧ (0 ≤ v 266 8 ∧ v 266 8 ≤ 99999)
  ∧ (0 ≤ v 266 9 ∧ v 266 9 ≤ 12) ∧ (0 ≤ v 266 10 ∧ v 266 10 ≤ 6) ∧ (0 ≤ v 266 11 ∧ v 266 11 ≤ 12) ∧ (0 ≤ v 266 12 ∧ v 266 12 ≤ 12) ∧ (0 ≤ v 266 13 ∧ v 266 13 ≤ 6)
def WfL (v : am_V) : Prop := v 267 0 = 0 ∧ ∀ k, k ≤ 12 → 0 ≤ v 267 k ∧ v 267 k ≤ 3000
def Wf (v : am_V) : Prop := WfS v ∧ WfL v ∧ (∀ k, k < nP v → WfP v k) ∧ (∀ k, k < nC v → WfC v k)
theorem mulb {a b A B : Int} (h1 : 0 ≤ a) (h2 : a ≤ A) (h3 : 0 ≤ b) (h4 : b ≤ B) : 0 ≤ a * b ∧ a * b ≤ A * B := ⟨Int.mul_nonneg h1 h3, Int.mul_le_mul h2 h4 h3 (Int.le_trans h1 h2)⟩
theorem mula {a b A B : Int} (h1 : -A ≤ a) (h2 : a ≤ A) (h3 : 0 ≤ b) (h4 : b ≤ B) (hA : 0 ≤ A) : -(A * B) ≤ a * b ∧ a * b ≤ A * B := by
  have h5 : a * b ≤ A * b := Int.mul_le_mul_of_nonneg_right h2 h3
  have h6 : A * b ≤ A * B := Int.mul_le_mul_of_nonneg_left h4 hA
  have h7 : -A * b ≤ a * b := Int.mul_le_mul_of_nonneg_right h1 h3
  rw [Int.neg_mul] at h7
  omega
theorem nIc {k : Nat} (h : k < 2147483648) : (nI k).toNatClampNeg = k := nI_clamp h
theorem sm_nn {n : Nat} {f : Nat → Int} (h : ∀ k, k < n → 0 ≤ f k) : 0 ≤ sm n f := by
  induction n with
  | zero => exact Int.le_refl 0
  | succ n ih =>
    have h1 := ih (fun k hk => h k (by omega))
    have h2 := h n (by omega)
    show 0 ≤ sm n f + f n
    omega
theorem sm_le {n : Nat} {f : Nat → Int} {B : Int} (h : ∀ k, k < n → f k ≤ B) : sm n f ≤ n * B := by
  induction n with
  | zero => simp [sm]
  | succ n ih =>
    have h1 := ih (fun k hk => h k (by omega))
    have h2 := h n (by omega)
    show sm n f + f n ≤ _
    have : ((n + 1 : Nat) : Int) * B = n * B + B := by rw [Int.natCast_add, Int.add_mul]; simp
    omega
theorem sm_ge {n : Nat} {f : Nat → Int} {B : Int} (h : ∀ k, k < n → B ≤ f k) : n * B ≤ sm n f := by
  induction n with
  | zero => simp [sm]
  | succ n ih =>
    have h1 := ih (fun k hk => h k (by omega))
    have h2 := h n (by omega)
    show _ ≤ sm n f + f n
    have : ((n + 1 : Nat) : Int) * B = n * B + B := by rw [Int.natCast_add, Int.add_mul]; simp
    omega
theorem sm_congr {n : Nat} {f g : Nat → Int} (h : ∀ k, k < n → f k = g k) : sm n f = sm n g := by
  induction n with
  | zero => rfl
  | succ n ih =>
    show sm n f + f n = sm n g + g n
    rw [ih (fun k hk => h k (by omega)), h n (by omega)]
/-- the products of a place -/
theorem capB {v : am_V} {k : Nat} (h : WfP v k) : (0 ≤ v 272 k * v 273 k * v 271 k ∧ v 272 k * v 273 k * v 271 k ≤ 799200000) ∧ (1 ≤ v 272 k * v 273 k ∧ v 272 k * v 273 k ≤ 800000) ∧ 0 ≤ capZ v k ∧ capZ v k ≤ 79920 := by
  obtain ⟨h0, h1, h2, h3, h4, h5, h6⟩ := h
  have a := mulb (a := v 272 k) (b := v 273 k) (A := 400) (B := 2000) (by omega) h2.2 (by omega) h3.2
  have a' : 1 * 1 ≤ v 272 k * v 273 k := Int.mul_le_mul h2.1 h3.1 (by omega) (by omega)
  have b := mulb (a := v 272 k * v 273 k) (b := v 271 k) (A := 400 * 2000) (B := 999) a.1 a.2 (by omega) h1.2
  refine ⟨⟨b.1, by omega⟩, ⟨by omega, by omega⟩, ?_, ?_⟩
  · exact Int.ediv_nonneg b.1 (by omega)
  · unfold capZ
    omega
