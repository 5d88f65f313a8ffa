theorem am_ckM_use {lo n j : Nat} (h : am_ckM lo n = true) (h1 : lo ≤ j) (h2 : j < lo + n) (hk : am_kd j < 3) : am_mok j = true := by
  have := List.all_eq_true.mp h j (List.mem_range'_1.mpr ⟨h1, h2⟩)
  rw [decide_eq_true hk] at this
  simpa using this
theorem am_ck_at {k pc : Nat} {q : Instr × Nat × Nat × Nat} (h3 : ∀ e ∈ am_cd.getD k [], am_ok k e = true) (ha : am_at k pc = some q) : am_ok k (pc, q) = true := by
  unfold am_at at ha
  obtain ⟨e, he, rfl⟩ := Option.map_eq_some_iff.mp ha
  have h4 := h3 e (List.mem_of_find?_eq_some he)
  have h5 : e.1 = pc := by simpa using List.find?_some he
  rw [← h5]
  exact h4
theorem am_ckC_use {lo n k pc : Nat} {q : Instr × Nat × Nat × Nat} (h : am_ckC lo n = true) (h1 : lo ≤ k) (h2 : k < lo + n) (ha : am_at k pc = some q) : am_ok k (pc, q) = true :=
  am_ck_at (fun e he => List.all_eq_true.mp (List.all_eq_true.mp h k (List.mem_range'_1.mpr ⟨h1, h2⟩)) e he) ha
theorem am_ckL_step {l : List am_E} {lo n : Nat} (h1 : (((am_cd.getD 264 []).drop lo).take n).all (am_ok 264) = true) (h2 : ∀ e ∈ (am_cd.getD 264 []).drop (lo + n), am_ok 264 e = true) : ∀ e ∈ (am_cd.getD 264 []).drop lo, am_ok 264 e = true := by
  intro e he
  rw [← List.take_append_drop n ((am_cd.getD 264 []).drop lo), List.drop_drop] at he
  rcases List.mem_append.mp he with h | h
  · exact List.all_eq_true.mp h1 e h
  · exact h2 e h
set_option maxRecDepth 100000 in
theorem am_lawlen : (am_cd.getD 264 []).length = 1213 := by decide +kernel
set_option maxRecDepth 100000 in
theorem am_cdlen : am_cd.length = 265 := by decide +kernel
theorem am_ckL_all : ∀ e ∈ am_cd.getD 264 [], am_ok 264 e = true := by
  have h1213 : ∀ e ∈ (am_cd.getD 264 []).drop 1213, am_ok 264 e = true := by
    intro e he
    rw [List.drop_eq_nil_of_le (by rw [am_lawlen]; exact Nat.le_refl _)] at he
    cases he
  have h1120 : ∀ e ∈ (am_cd.getD 264 []).drop 1120, am_ok 264 e = true := am_ckL_step (l := []) am_ckL_1120 h1213
  have h960 : ∀ e ∈ (am_cd.getD 264 []).drop 960, am_ok 264 e = true := am_ckL_step (l := []) am_ckL_960 h1120
  have h800 : ∀ e ∈ (am_cd.getD 264 []).drop 800, am_ok 264 e = true := am_ckL_step (l := []) am_ckL_800 h960
  have h640 : ∀ e ∈ (am_cd.getD 264 []).drop 640, am_ok 264 e = true := am_ckL_step (l := []) am_ckL_640 h800
  have h480 : ∀ e ∈ (am_cd.getD 264 []).drop 480, am_ok 264 e = true := am_ckL_step (l := []) am_ckL_480 h640
  have h320 : ∀ e ∈ (am_cd.getD 264 []).drop 320, am_ok 264 e = true := am_ckL_step (l := []) am_ckL_320 h480
  have h160 : ∀ e ∈ (am_cd.getD 264 []).drop 160, am_ok 264 e = true := am_ckL_step (l := []) am_ckL_160 h320
  have h0 : ∀ e ∈ (am_cd.getD 264 []).drop 0, am_ok 264 e = true := am_ckL_step (l := []) am_ckL_0 h160
  exact h0
theorem am_T2ok : am_T2 := by
  refine ⟨fun j hj hk => ?_, fun k pc q ha => ?_⟩
  · by_cases h0 : j < 15
    · exact am_ckM_use am_ckM_0 (by omega) (by omega) hk
    by_cases h15 : j < 30
    · exact am_ckM_use am_ckM_15 (by omega) (by omega) hk
    by_cases h30 : j < 45
    · exact am_ckM_use am_ckM_30 (by omega) (by omega) hk
    by_cases h45 : j < 60
    · exact am_ckM_use am_ckM_45 (by omega) (by omega) hk
    by_cases h60 : j < 75
    · exact am_ckM_use am_ckM_60 (by omega) (by omega) hk
    by_cases h75 : j < 90
    · exact am_ckM_use am_ckM_75 (by omega) (by omega) hk
    by_cases h90 : j < 105
    · exact am_ckM_use am_ckM_90 (by omega) (by omega) hk
    by_cases h105 : j < 120
    · exact am_ckM_use am_ckM_105 (by omega) (by omega) hk
    by_cases h120 : j < 135
    · exact am_ckM_use am_ckM_120 (by omega) (by omega) hk
    by_cases h135 : j < 150
    · exact am_ckM_use am_ckM_135 (by omega) (by omega) hk
    by_cases h150 : j < 165
    · exact am_ckM_use am_ckM_150 (by omega) (by omega) hk
    by_cases h165 : j < 180
    · exact am_ckM_use am_ckM_165 (by omega) (by omega) hk
    by_cases h180 : j < 195
    · exact am_ckM_use am_ckM_180 (by omega) (by omega) hk
    by_cases h195 : j < 210
    · exact am_ckM_use am_ckM_195 (by omega) (by omega) hk
    by_cases h210 : j < 225
    · exact am_ckM_use am_ckM_210 (by omega) (by omega) hk
    by_cases h225 : j < 240
    · exact am_ckM_use am_ckM_225 (by omega) (by omega) hk
    by_cases h240 : j < 255
    · exact am_ckM_use am_ckM_240 (by omega) (by omega) hk
    by_cases h255 : j < 264
    · exact am_ckM_use am_ckM_255 (by omega) (by omega) hk
    have : j = 264 := by omega
    subst this
    exact absurd hk (by decide +kernel)
  · by_cases h0 : k < 15
    · exact am_ckC_use am_ckC_0 (by omega) (by omega) ha
    by_cases h15 : k < 30
    · exact am_ckC_use am_ckC_15 (by omega) (by omega) ha
    by_cases h30 : k < 45
    · exact am_ckC_use am_ckC_30 (by omega) (by omega) ha
    by_cases h45 : k < 60
    · exact am_ckC_use am_ckC_45 (by omega) (by omega) ha
    by_cases h60 : k < 75
    · exact am_ckC_use am_ckC_60 (by omega) (by omega) ha
    by_cases h75 : k < 90
    · exact am_ckC_use am_ckC_75 (by omega) (by omega) ha
    by_cases h90 : k < 105
    · exact am_ckC_use am_ckC_90 (by omega) (by omega) ha
    by_cases h105 : k < 120
    · exact am_ckC_use am_ckC_105 (by omega) (by omega) ha
    by_cases h120 : k < 135
    · exact am_ckC_use am_ckC_120 (by omega) (by omega) ha
    by_cases h135 : k < 150
    · exact am_ckC_use am_ckC_135 (by omega) (by omega) ha
    by_cases h150 : k < 165
    · exact am_ckC_use am_ckC_150 (by omega) (by omega) ha
    by_cases h165 : k < 180
    · exact am_ckC_use am_ckC_165 (by omega) (by omega) ha
    by_cases h180 : k < 195
    · exact am_ckC_use am_ckC_180 (by omega) (by omega) ha
    by_cases h195 : k < 210
    · exact am_ckC_use am_ckC_195 (by omega) (by omega) ha
    by_cases h210 : k < 225
    · exact am_ckC_use am_ckC_210 (by omega) (by omega) ha
    by_cases h225 : k < 240
    · exact am_ckC_use am_ckC_225 (by omega) (by omega) ha
    by_cases h240 : k < 255
    · exact am_ckC_use am_ckC_240 (by omega) (by omega) ha
    by_cases h255 : k < 264
    · exact am_ckC_use am_ckC_255 (by omega) (by omega) ha
    by_cases h264 : k = 264
    · subst h264; exact am_ck_at am_ckL_all ha
    exfalso
    have : am_cd.getD k [] = [] := by
      rw [List.getD_eq_getElem?_getD, List.getElem?_eq_none (by rw [am_cdlen]; omega)]; rfl
    unfold am_at at ha
    rw [this] at ha
    cases ha
