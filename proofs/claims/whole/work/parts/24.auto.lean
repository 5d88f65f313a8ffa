/-! ===== whole numbers behind the machine's: rows for simp ===== -/
theorem z_i8 {n : Int} (h1 : -128 ≤ n) (h2 : n ≤ 127) : (Int8.ofInt n).toInt32 = iZ n := by
  rw [← Int32.toInt_inj, Int8.toInt_toInt32, Int8.toInt_ofInt_of_le (by omega) (by omega), iZ_toInt ⟨by omega, by omega⟩]
theorem z_i16 {n : Int} (h1 : -32768 ≤ n) (h2 : n ≤ 32767) : (Int16.ofInt n).toInt32 = iZ n := by
  rw [← Int32.toInt_inj, Int16.toInt_toInt32, Int16.toInt_ofInt_of_le (by omega) (by omega), iZ_toInt ⟨by omega, by omega⟩]
theorem z_of (n : Int) : Int32.ofInt n = iZ n := rfl
theorem z_ofN (n : Nat) : Int32.ofNat n = iZ n := (iZ_nat n).symm
theorem z_nat (n : Nat) : nI n = iZ n := (iZ_nat n).symm
theorem z_lofN (n : Nat) : Int64.ofNat n = lZ n := Int64.ofInt_eq_ofNat.symm
theorem z_0 : (0 : Int32) = iZ 0 := rfl
theorem z_1 : (1 : Int32) = iZ 1 := rfl
theorem z_m1 : (-1 : Int32) = iZ (-1) := rfl
theorem z_l0 : (0 : Int64) = lZ 0 := rfl
theorem z_l1 : (1 : Int64) = lZ 1 := rfl
theorem z_div {a b : Int} (h1 : 0 ≤ a) (h2 : a ≤ 2147483647) (h3 : -2147483648 ≤ b) (h4 : b ≤ 2147483647) : iZ a / iZ b = iZ (a / b) := by
  rw [iZ_div ⟨by omega, h2⟩ ⟨h3, h4⟩, Int.tdiv_eq_ediv_of_nonneg h1]
theorem z_ldiv {a b : Int} (h1 : 0 ≤ a) (h2 : a ≤ 9223372036854775807) (h3 : -9223372036854775808 ≤ b) (h4 : b ≤ 9223372036854775807) : lZ a / lZ b = lZ (a / b) := by
  rw [lZ_div ⟨by omega, h2⟩ ⟨h3, h4⟩, Int.tdiv_eq_ediv_of_nonneg h1]
theorem z_l {a : Int} (h1 : -2147483648 ≤ a) (h2 : a ≤ 2147483647) : (iZ a).toInt64 = lZ a := iZ_l ⟨h1, h2⟩
theorem z_i {a : Int} (h1 : -9223372036854775808 ≤ a) (h2 : a ≤ 9223372036854775807) : (lZ a).toInt32 = iZ a := lZ_i ⟨h1, h2⟩
theorem z_lt {a b : Int} (h1 : -2147483648 ≤ a) (h2 : a ≤ 2147483647) (h3 : -2147483648 ≤ b) (h4 : b ≤ 2147483647) : iZ a < iZ b ↔ a < b := iZ_lt ⟨h1, h2⟩ ⟨h3, h4⟩
theorem z_le {a b : Int} (h1 : -2147483648 ≤ a) (h2 : a ≤ 2147483647) (h3 : -2147483648 ≤ b) (h4 : b ≤ 2147483647) : iZ a ≤ iZ b ↔ a ≤ b := iZ_le ⟨h1, h2⟩ ⟨h3, h4⟩
theorem z_eq {a b : Int} (h1 : -2147483648 ≤ a) (h2 : a ≤ 2147483647) (h3 : -2147483648 ≤ b) (h4 : b ≤ 2147483647) : iZ a = iZ b ↔ a = b := iZ_eq ⟨h1, h2⟩ ⟨h3, h4⟩
theorem z_llt {a b : Int} (h1 : -9223372036854775808 ≤ a) (h2 : a ≤ 9223372036854775807) (h3 : -9223372036854775808 ≤ b) (h4 : b ≤ 9223372036854775807) : lZ a < lZ b ↔ a < b := lZ_lt ⟨h1, h2⟩ ⟨h3, h4⟩
theorem z_lle {a b : Int} (h1 : -9223372036854775808 ≤ a) (h2 : a ≤ 9223372036854775807) (h3 : -9223372036854775808 ≤ b) (h4 : b ≤ 9223372036854775807) : lZ a ≤ lZ b ↔ a ≤ b := lZ_le ⟨h1, h2⟩ ⟨h3, h4⟩
theorem z_leq {a b : Int} (h1 : -9223372036854775808 ≤ a) (h2 : a ≤ 9223372036854775807) (h3 : -9223372036854775808 ≤ b) (h4 : b ≤ 9223372036854775807) : lZ a = lZ b ↔ a = b := lZ_eq ⟨h1, h2⟩ ⟨h3, h4⟩
theorem z_cgt {a b : Int} (h1 : -9223372036854775808 ≤ a) (h2 : a ≤ 9223372036854775807) (h3 : -9223372036854775808 ≤ b) (h4 : b ≤ 9223372036854775807) : iZ 0 < lg_cmp (lZ a) (lZ b) ↔ b < a := by
  show 0 < lg_cmp _ _ ↔ _
  rw [lg_cmp_gt, lZ_lt ⟨h3, h4⟩ ⟨h1, h2⟩]
theorem z_cge {a b : Int} (h1 : -9223372036854775808 ≤ a) (h2 : a ≤ 9223372036854775807) (h3 : -9223372036854775808 ≤ b) (h4 : b ≤ 9223372036854775807) : iZ 0 ≤ lg_cmp (lZ a) (lZ b) ↔ b ≤ a := by
  show 0 ≤ lg_cmp _ _ ↔ _
  rw [lg_cmp_ge, lZ_le ⟨h3, h4⟩ ⟨h1, h2⟩]
theorem z_clt {a b : Int} (h1 : -9223372036854775808 ≤ a) (h2 : a ≤ 9223372036854775807) (h3 : -9223372036854775808 ≤ b) (h4 : b ≤ 9223372036854775807) : lg_cmp (lZ a) (lZ b) < iZ 0 ↔ a < b := by
  show lg_cmp _ _ < 0 ↔ _
  rw [lg_cmp_lt, lZ_lt ⟨h1, h2⟩ ⟨h3, h4⟩]
theorem z_cle {a b : Int} (h1 : -9223372036854775808 ≤ a) (h2 : a ≤ 9223372036854775807) (h3 : -9223372036854775808 ≤ b) (h4 : b ≤ 9223372036854775807) : lg_cmp (lZ a) (lZ b) ≤ iZ 0 ↔ a ≤ b := by
  show lg_cmp _ _ ≤ 0 ↔ _
  rw [lg_cmp_le, lZ_le ⟨h1, h2⟩ ⟨h3, h4⟩]
theorem z_ceq {a b : Int} (h1 : -9223372036854775808 ≤ a) (h2 : a ≤ 9223372036854775807) (h3 : -9223372036854775808 ≤ b) (h4 : b ≤ 9223372036854775807) : lg_cmp (lZ a) (lZ b) = iZ 0 ↔ a = b := by
  show lg_cmp _ _ = 0 ↔ _
  rw [lg_cmp_eq, lZ_eq ⟨h1, h2⟩ ⟨h3, h4⟩]
theorem z_cl {a : Int} (h1 : 0 ≤ a) (h2 : a ≤ 2147483647) : (iZ a).toNatClampNeg = a.toNat := iZ_cl h1 h2
theorem z_cln {k : Nat} (h2 : k < 2147483648) : (iZ (k : Int)).toNatClampNeg = k := by rw [iZ_nat]; exact nIc h2
section ZM
variable {I : Nat → Nat → Int32} {J : Nat → Nat → Int64} {A : Nat → Option Nat}
theorem mm_I : (mm I J A).2.1 = I := rfl
theorem mm_J : (mm I J A).2.2.1 = J := rfl
end ZM
theorem z_in {z : Int} {n : Nat} (h1 : 0 ≤ z) (h2 : z < n) (h3 : n ≤ 2147483648) : vp_in (iZ z) n := by
  rw [vp_in_iff, iZ_toInt ⟨by omega, by omega⟩]
  exact ⟨h1, h2⟩
theorem z_abs {z : Int} : (if 0 ≤ z then iZ z else iZ (0 - z)) = iZ z.natAbs := by
  split
  · congr 1; omega
  · congr 1; omega
theorem z_max {a b : Int} : (if a < b then iZ b else iZ a) = iZ (max a b) := by
  split
  · congr 1; omega
  · congr 1; omega
theorem z_min {a b : Int} : (if b < a then iZ b else iZ a) = iZ (min a b) := by
  split
  · congr 1; omega
  · congr 1; omega
theorem z_lmax {a b : Int} : (if b < a then lZ a else lZ b) = lZ (max a b) := by
  split
  · congr 1; omega
  · congr 1; omega
theorem z_lmin {a b : Int} : (if b < a then lZ b else lZ a) = lZ (min a b) := by
  split
  · congr 1; omega
  · congr 1; omega
theorem z_sin {z : Int} (h1 : 0 ≤ z) (h2 : z ≤ 90) : am_sin z.toNat = iZ (sinZ z) := by
  rw [sin_at (by omega)]; congr 2; omega
theorem z_sinN {n : Nat} (h2 : n ≤ 90) : am_sin n = iZ (sinZ n) := sin_at h2
def ndb : List Nat → Bool
  | [] => true
  | a :: l => !(l.any (Nat.beq a)) && ndb l
theorem ndb_ok : ∀ {l : List Nat}, ndb l = true → l.Nodup := by
  intro l
  induction l with
  | nil => intro _; exact List.nodup_nil
  | cons a l ih =>
    intro h
    unfold ndb at h
    rw [Bool.and_eq_true] at h
    refine List.nodup_cons.mpr ⟨fun q => ?_, ih h.2⟩
    have : l.any (Nat.beq a) = true := List.any_eq_true.mpr ⟨a, q, Nat.beq_refl a⟩
    rw [this] at h
    cases h.1
/-- the locals by their keys -/
def lv_keys (lo : am_Lo) (ks : List Nat) : am_Lo := ks.filterMap (fun i => lo.find? (fun q => Nat.beq q.1 i))
theorem wp_keys {E : Nat × (Nat → Int32)} {d k pc : Nat} {lo : am_Lo} {st : List Value} {M : am_M} {Q : Option Value → am_M → Prop} (ks : List Nat) (h1 : ndb (lo.map (fun q => q.1)) = true) (h2 : ndb ((lv_keys lo ks).map (fun q => q.1)) = true) (h : wp E d k pc (lv_keys lo ks) st M Q) : wp E d k pc lo st M Q := by
  obtain ⟨n, r, M', h3, h4⟩ := h
  refine ⟨n, r, M', am_run_sub _ _ _ _ _ _ _ _ _ (ndb_ok h1) (ndb_ok h2) (fun q hq => ?_) h3, h4⟩
  obtain ⟨i, -, hi⟩ := List.mem_filterMap.mp hq
  exact List.mem_of_find?_eq_some hi
