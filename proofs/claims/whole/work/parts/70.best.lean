/-! ===== best: the rows of plans, one after another ===== -/
noncomputable def wrN (g : Nat → Nat → Int) : Nat → am_V → Int → Int
  | 0, _, w => w
  | n + 1, v, w => wrN g n (rndZ g v) (max w ((rndZ g v 266 7).natAbs : Int))
theorem wrN_ge {g : Nat → Nat → Int} : ∀ (n : Nat) (v : am_V) (w : Int), w ≤ wrN g n v w := by
  intro n
  induction n with
  | zero => intro v w; exact Int.le_refl w
  | succ n ih =>
    intro v w
    have := ih (rndZ g v) (max w ((rndZ g v 266 7).natAbs : Int))
    show w ≤ wrN g n (rndZ g v) (max w ((rndZ g v 266 7).natAbs : Int))
    omega
theorem lean_le {v : am_V} (h : Wf v) : ((v 266 7).natAbs : Int) ≤ 60 := by
  have := h.1.2.2.2.2.2.2.1
  omega
theorem wrN_le {g : Nat → Nat → Int} (hg : WfG g) : ∀ (n : Nat) (v : am_V) (w : Int), Wf v → WfH v → v 266 8 + n ≤ 99999 → w ≤ 60 → wrN g n v w ≤ 60 := by
  intro n
  induction n with
  | zero => intro v w _ _ _ h; exact h
  | succ n ih =>
    intro v w hW hH h8 hw
    have w2 := Wf_rnd hW hH hg (by omega)
    have := lean_le w2.1
    exact ih (rndZ g v) _ w2.1 w2.2 (by rw [rnd_8]; omega) (by omega)
def fdN {α : Type} (f : Nat → α → α) : Nat → α → α
  | 0, a => a
  | n + 1, a => f n (fdN f n a)
theorem fdN_congr {α : Type} {f g : Nat → α → α} : ∀ (n : Nat) (a : α), (∀ j, j < n → ∀ x, f j x = g j x) → fdN f n a = fdN g n a := by
  intro n
  induction n with
  | zero => intro a _; rfl
  | succ n ih =>
    intro a h
    show f n (fdN f n a) = g n (fdN g n a)
    rw [ih a (fun j hj => h j (by omega)), h n (by omega)]
theorem fdN_add {α : Type} {f : Nat → α → α} {a : Nat} {x : α} : ∀ (b : Nat), fdN f (a + b) x = fdN (fun j => f (a + j)) b (fdN f a x) := by
  intro b
  induction b with
  | zero => rfl
  | succ b ih =>
    show f (a + b) (fdN f (a + b) x) = f (a + b) (fdN (fun j => f (a + j)) b (fdN f a x))
    rw [ih]
theorem fdN_mul {α : Type} {f : Nat → α → α} {b : Nat} {x : α} : ∀ (a : Nat), fdN f (a * b) x = fdN (fun p x => fdN (fun j => f (p * b + j)) b x) a x := by
  intro a
  induction a with
  | zero => rw [Nat.zero_mul]; rfl
  | succ a ih =>
    rw [Nat.succ_mul, fdN_add, ih]
    rfl
def stp (w : Int) (c : Nat) (a : Int × Nat) : Int × Nat := if w < a.1 then (w, c) else a
noncomputable def bsF (P r : Nat) (G : Nat → Nat → Nat → Int) : Nat → am_V → Int → Nat → Int × Nat → Int × Nat
  | 0, _, w, c, a => stp w c a
  | m + 1, v, w, c, a => fdN (fun p a => bsF P r G m (rnN (G p) r v) (wrN (G p) r v w) (c * P + p) a) P a
noncomputable def wtZ (P r : Nat) (G : Nat → Nat → Nat → Int) : Nat → am_V → Int → Nat → Int
  | 0, _, w, _ => w
  | m + 1, v, w, j => wtZ P r G m (rnN (G (j / P ^ m)) r v) (wrN (G (j / P ^ m)) r v w) (j % P ^ m)
theorem bs_fd {P r : Nat} {G : Nat → Nat → Nat → Int} (hP : 0 < P) : ∀ (m : Nat) (v : am_V) (w : Int) (c : Nat) (a : Int × Nat), bsF P r G m v w c a = fdN (fun j a => stp (wtZ P r G m v w j) (c * P ^ m + j) a) (P ^ m) a := by
  intro m
  induction m with
  | zero =>
    intro v w c a
    show stp w c a = stp w (c * 1 + 0) a
    rw [Nat.mul_one, Nat.add_zero]
  | succ m ih =>
    intro v w c a
    have e : P ^ (m + 1) = P * P ^ m := by rw [Nat.pow_succ, Nat.mul_comm]
    have hp : 0 < P ^ m := Nat.pow_pos hP
    rw [e, fdN_mul]
    refine fdN_congr P a (fun p hp1 x => ?_)
    rw [ih]
    refine fdN_congr _ x (fun j hj y => ?_)
    have e1 : (p * P ^ m + j) / P ^ m = p := by
      rw [Nat.mul_comm, Nat.mul_add_div hp, Nat.div_eq_of_lt hj, Nat.add_zero]
    have e2 : (p * P ^ m + j) % P ^ m = j := by
      rw [Nat.mul_comm, Nat.mul_add_mod, Nat.mod_eq_of_lt hj]
    show stp _ _ y = stp (wtZ P r G m (rnN (G ((p * P ^ m + j) / P ^ m)) r v) (wrN (G ((p * P ^ m + j) / P ^ m)) r v w) ((p * P ^ m + j) % P ^ m)) _ y
    rw [e1, e2, Nat.add_mul, Nat.mul_assoc, Nat.add_assoc]
theorem fdN_fix {α : Type} {f : Nat → α → α} {a : α} : ∀ (n : Nat), (∀ j, j < n → f j a = a) → fdN f n a = a := by
  intro n
  induction n with
  | zero => intro _; rfl
  | succ n ih =>
    intro h
    show f n (fdN f n a) = a
    rw [ih (fun j hj => h j (by omega)), h n (by omega)]
/-- a row that is no better already can't become better -/
theorem bs_prune {P r : Nat} {G : Nat → Nat → Nat → Int} : ∀ (m : Nat) (v : am_V) (w : Int) (c : Nat) (a : Int × Nat), a.1 ≤ w → bsF P r G m v w c a = a := by
  intro m
  induction m with
  | zero =>
    intro v w c a h
    show stp w c a = a
    unfold stp
    rw [if_neg (by omega)]
  | succ m ih =>
    intro v w c a h
    exact fdN_fix P (fun p _ => ih _ _ _ a (by have := wrN_ge (g := G p) r v w; omega))
theorem fdN_inv {α : Type} {f : Nat → α → α} {R : α → Prop} : ∀ (n : Nat) (a : α), R a → (∀ j x, j < n → R x → R (f j x)) → R (fdN f n a) := by
  intro n
  induction n with
  | zero => intro a h _; exact h
  | succ n ih => intro a h hs; exact hs n _ (by omega) (ih a h (fun j x hj => hs j x (by omega)))
theorem bs_mono {P r : Nat} {G : Nat → Nat → Nat → Int} : ∀ (m : Nat) (v : am_V) (w : Int) (c : Nat) (a : Int × Nat) (B : Int), a.1 ≤ B → (bsF P r G m v w c a).1 ≤ B := by
  intro m
  induction m with
  | zero =>
    intro v w c a B h
    show (stp w c a).1 ≤ B
    unfold stp
    split
    · dsimp only; omega
    · exact h
  | succ m ih =>
    intro v w c a B h
    exact fdN_inv (R := fun x => x.1 ≤ B) P a h (fun p x _ hx => ih _ _ _ x B hx)
theorem bs_low {P r : Nat} {G : Nat → Nat → Nat → Int} (hP : 0 < P) (hr : r ≤ 10) (hG : ∀ p, p < P → WfG (G p)) : ∀ (m : Nat) (v : am_V) (w : Int) (c : Nat) (a : Int × Nat), Wf v → WfH v → v 266 8 + 10 * m ≤ 99999 → w ≤ 60 → (bsF P r G m v w c a).1 ≤ 60 := by
  intro m
  induction m with
  | zero =>
    intro v w c a _ _ _ h
    show (stp w c a).1 ≤ 60
    unfold stp
    split
    · exact h
    · omega
  | succ m ih =>
    intro v w c a hW hH h8 hw
    obtain ⟨p, rfl⟩ : ∃ p, P = p + 1 := ⟨P - 1, by omega⟩
    show (bsF (p + 1) r G m _ _ _ _).1 ≤ 60
    have h9 : v 266 8 + r ≤ 99999 := by omega
    have w2 := rnN_ok (hG p (by omega)) r v hW hH h9
    exact ih _ _ _ _ w2.1 w2.2 (by rw [rnN_8]; omega) (wrN_le (hG p (by omega)) r v w hW hH h9 hw)
/-- a code's digits -/
def DG (P n c : Nat) (I : Nat → Nat → Int32) (a : Nat) : Prop := ∀ i, i < n → I a i = iZ ((c / P ^ (n - 1 - i) % P : Nat) : Int)
theorem dig_more {P c p s i : Nat} (hP : p < P) (hi : i < s) : (c * P + p) / P ^ (s + 1 - 1 - i) % P = c / P ^ (s - 1 - i) % P := by
  have e : s + 1 - 1 - i = (s - 1 - i) + 1 := by omega
  rw [e, Nat.pow_succ, Nat.mul_comm (P ^ (s - 1 - i)) P, ← Nat.div_div_eq_div_mul, Nat.mul_comm c P, Nat.mul_add_div (by omega), Nat.div_eq_of_lt hP, Nat.add_zero]
theorem dig_last {P c p s : Nat} (hP : p < P) : (c * P + p) / P ^ (s + 1 - 1 - s) % P = p := by
  have e : s + 1 - 1 - s = 0 := by omega
  rw [e, Nat.pow_zero, Nat.div_one, Nat.mul_comm, Nat.mul_add_mod, Nat.mod_eq_of_lt hP]
theorem nz_div {a b : Nat} (ha : a ≤ 2147483647) (hb : b ≤ 2147483647) : iZ (a : Int) / iZ (b : Int) = iZ ((a / b : Nat) : Int) := by
  rw [iZ_div ⟨by omega, by omega⟩ ⟨by omega, by omega⟩, ← Int.ofNat_tdiv]
theorem nz_rem {a b : Nat} (ha : a ≤ 2147483647) (hb : b ≤ 2147483647) : iZ (a : Int) - iZ (a : Int) / iZ (b : Int) * iZ (b : Int) = iZ ((a % b : Nat) : Int) := by
  rw [nz_div ha hb, iZ_mul, iZ_sub]
  congr 1
  have h : ((b * (a / b) + a % b : Nat) : Int) = a := by rw [Nat.div_add_mod]
  rw [Int.natCast_add, Int.natCast_mul] at h
  rw [Int.mul_comm]
  generalize (b : Int) * ((a / b : Nat) : Int) = q at h ⊢
  omega
theorem nz_ne {a : Nat} (h0 : 0 < a) (ha : a ≤ 2147483647) : ¬ iZ (a : Int) = 0 := by
  have : ¬ iZ (a : Int) = iZ 0 := by
    rw [iZ_eq ⟨by omega, by omega⟩ ⟨by omega, by omega⟩]; omega
  exact this
theorem pw_le {P n : Nat} (hP : P ≤ 6) (hn : n ≤ 4) : P ^ n ≤ 1296 := by
  have h1 : P ^ n ≤ 6 ^ n := Nat.pow_le_pow_left hP n
  have h2 : 6 ^ n ≤ 6 ^ 4 := Nat.pow_le_pow_right (by omega) hn
  omega
