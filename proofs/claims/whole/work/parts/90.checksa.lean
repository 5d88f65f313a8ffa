/-! ===== the tables, checked once ===== -/
theorem am_clsOf {C : String} {T : u_T} {N cn : Nat} (fi : List Nat) (h1 : N = am_nf cn) (h2 : ∀ k, k < N → parseFieldDescriptor (T k).2.2.1 = some (am_ty cn k)) (h3 : ∀ a, a < N → ∀ b, b < N → a ≠ b → (T a).2.1 ≠ (T b).2.1) (h4 : (List.range N).all (fun j => am_gd (fi.getD j 0) (u_lay C T j)) = true) (i1 i2 : Nat) (h5 : am_gd i1 (.instantiable C N) = true) (h6 : am_gd i2 (.initialized C) = true) (h7 : ∀ k, k < N → am_ty cn k ≠ .float ∧ am_ty cn k ≠ .double) : am_clsF C T N cn := by
  refine ⟨h1, h2, h3, fun w hw => ?_, am_gd_in h5, am_gd_in h6, h7⟩
  obtain ⟨k, hk, rfl⟩ := List.mem_map.mp hw
  exact am_gd_in (List.all_eq_true.mp h4 k hk)
set_option maxRecDepth 100000 in
theorem am_cls0 : am_clsF RX0 TX0 8 0 := am_clsOf [482, 484, 486, 488, 490, 492, 494, 496] rfl (by decide +kernel) nmX0 (by decide +kernel) 466 104 (by decide +kernel) (by decide +kernel) (by decide +kernel)
set_option maxRecDepth 100000 in
theorem am_cls1 : am_clsF RX1 TX1 8 1 := am_clsOf [561, 563, 565, 567, 569, 571, 573, 575] rfl (by decide +kernel) nmX1 (by decide +kernel) 543 107 (by decide +kernel) (by decide +kernel) (by decide +kernel)
set_option maxRecDepth 100000 in
theorem am_cls2 : am_clsF RX2 TX2 6 2 := am_clsOf [229, 231, 233, 235, 237, 239] rfl (by decide +kernel) nmX2 (by decide +kernel) 209 99 (by decide +kernel) (by decide +kernel) (by decide +kernel)
set_option maxRecDepth 100000 in
theorem am_cls3 : am_clsF RX3 TX3 3 3 := am_clsOf [285, 287, 289] rfl (by decide +kernel) nmX3 (by decide +kernel) 273 101 (by decide +kernel) (by decide +kernel) (by decide +kernel)
set_option maxRecDepth 100000 in
theorem am_cls4 : am_clsF RX4 TX4 5 4 := am_clsOf [261, 263, 265, 267, 269] rfl (by decide +kernel) nmX4 (by decide +kernel) 243 100 (by decide +kernel) (by decide +kernel) (by decide +kernel)
set_option maxRecDepth 100000 in
theorem am_cls5 : am_clsF RX5 TX5 6 5 := am_clsOf [529, 531, 533, 535, 537, 539] rfl (by decide +kernel) nmX5 (by decide +kernel) 515 106 (by decide +kernel) (by decide +kernel) (by decide +kernel)
set_option maxRecDepth 100000 in
theorem am_cls6 : am_clsF RX6 TX6 12 6 := am_clsOf [181, 183, 185, 187, 189, 191, 193, 195, 197, 199, 201, 203] rfl (by decide +kernel) nmX6 (by decide +kernel) 132 98 (by decide +kernel) (by decide +kernel) (by decide +kernel)
set_option maxRecDepth 100000 in
theorem am_cls7 : am_clsF RX7 TX7 10 7 := am_clsOf [410, 412, 414, 416, 418, 420, 422, 424, 426, 428] rfl (by decide +kernel) nmX7 (by decide +kernel) 376 102 (by decide +kernel) (by decide +kernel) (by decide +kernel)
set_option maxRecDepth 100000 in
theorem am_cls8 : am_clsF RX8 TX8 8 8 := am_clsOf [448, 450, 452, 454, 456, 458, 460, 462] rfl (by decide +kernel) nmX8 (by decide +kernel) 432 103 (by decide +kernel) (by decide +kernel) (by decide +kernel)
set_option maxRecDepth 100000 in
theorem am_cls9 : am_clsF RX9 TX9 2 9 := am_clsOf [509, 511] rfl (by decide +kernel) nmX9 (by decide +kernel) 500 105 (by decide +kernel) (by decide +kernel) (by decide +kernel)
set_option maxRecDepth 100000 in
theorem am_cls10 : am_clsF RX10 TX10 16 10 := am_clsOf [340, 342, 344, 346, 348, 350, 352, 354, 356, 358, 360, 362, 364, 366, 368, 370] rfl (by decide +kernel) nmX10 (by decide +kernel) 126 97 (by decide +kernel) (by decide +kernel) (by decide +kernel)
set_option maxRecDepth 100000 in
theorem am_cls11 : am_clsF RX11 TX11 12 11 := am_clsOf [590, 592, 594, 596, 598, 600, 602, 604, 606, 608, 610, 612] rfl (by decide +kernel) nmX11 (by decide +kernel) 118 96 (by decide +kernel) (by decide +kernel) (by decide +kernel)
set_option maxRecDepth 100000 in
theorem am_cls12 : am_clsF RX12 TX12 56 12 := am_clsOf [1313, 1315, 1317, 1319, 1321, 1323, 1325, 1327, 1329, 1331, 1333, 1335, 1337, 1339, 1341, 1343, 1345, 1347, 1349, 1351, 1353, 1355, 1357, 1359, 1361, 1363, 1365, 1367, 1369, 1371, 1373, 1375, 1377, 1379, 1381, 1383, 1385, 1387, 1389, 1391, 1393, 1395, 1397, 1399, 1401, 1403, 1405, 1407, 1409, 1411, 1413, 1415, 1417, 1419, 1421, 1423] rfl (by decide +kernel) nmX12 (by decide +kernel) 1253 108 (by decide +kernel) (by decide +kernel) (by decide +kernel)
set_option maxRecDepth 100000 in
theorem am_Tok : am_T := by
  refine ⟨fun cn C T N h => ?_, fun w hw => ?_⟩
  · match cn, h with
    | 0, h => cases h; exact am_cls0
    | 1, h => cases h; exact am_cls1
    | 2, h => cases h; exact am_cls2
    | 3, h => cases h; exact am_cls3
    | 4, h => cases h; exact am_cls4
    | 5, h => cases h; exact am_cls5
    | 6, h => cases h; exact am_cls6
    | 7, h => cases h; exact am_cls7
    | 8, h => cases h; exact am_cls8
    | 9, h => cases h; exact am_cls9
    | 10, h => cases h; exact am_cls10
    | 11, h => cases h; exact am_cls11
    | 12, h => cases h; exact am_cls12
    | cn + 13, h => simp [vwCl] at h
  · simp only [List.mem_cons, List.not_mem_nil, or_false] at hw
    rcases hw with rfl | rfl | rfl | rfl | rfl | rfl | rfl | rfl | rfl | rfl | rfl | rfl | rfl | rfl | rfl | rfl | rfl | rfl | rfl | rfl
    · exact am_gd_in (i := 206) (by decide +kernel)
    · exact am_gd_in (i := 207) (by decide +kernel)
    · exact am_gd_in (i := 853) (by decide +kernel)
    · exact am_gd_in (i := 1426) (by decide +kernel)
    · exact am_gd_in (i := 123) (by decide +kernel)
    · exact am_gd_in (i := 124) (by decide +kernel)
    · exact am_gd_in (i := 852) (by decide +kernel)
    · exact am_gd_in (i := 851) (by decide +kernel)
    · exact am_gd_in (i := 115) (by decide +kernel)
    · exact am_gd_in (i := 110) (by decide +kernel)
    · exact am_gd_in (i := 931) (by decide +kernel)
    · exact am_gd_in (i := 932) (by decide +kernel)
    · exact am_gd_in (i := 668) (by decide +kernel)
    · exact am_gd_in (i := 669) (by decide +kernel)
    · exact am_gd_in (i := 875) (by decide +kernel)
    · exact am_gd_in (i := 876) (by decide +kernel)
    · exact am_gd_in (i := 924) (by decide +kernel)
    · exact am_gd_in (i := 925) (by decide +kernel)
    · exact am_gd_in (i := 664) (by decide +kernel)
    · exact am_gd_in (i := 665) (by decide +kernel)
def am_ckM (lo n : Nat) : Bool := (List.range' lo n).all (fun j => !(decide (am_kd j < 3)) || am_mok j)
def am_ckC (lo n : Nat) : Bool := (List.range' lo n).all (fun k => (am_cd.getD k []).all (am_ok k))
def am_ckL (lo n : Nat) : Bool := (((am_cd.getD 264 []).drop lo).take n).all (am_ok 264)
set_option maxRecDepth 100000 in
theorem am_ckM_0 : am_ckM 0 15 = true := by decide +kernel
set_option maxRecDepth 100000 in
theorem am_ckM_15 : am_ckM 15 15 = true := by decide +kernel
set_option maxRecDepth 100000 in
theorem am_ckM_30 : am_ckM 30 15 = true := by decide +kernel
set_option maxRecDepth 100000 in
theorem am_ckM_45 : am_ckM 45 15 = true := by decide +kernel
set_option maxRecDepth 100000 in
theorem am_ckM_60 : am_ckM 60 15 = true := by decide +kernel
set_option maxRecDepth 100000 in
theorem am_ckM_75 : am_ckM 75 15 = true := by decide +kernel
set_option maxRecDepth 100000 in
theorem am_ckM_90 : am_ckM 90 15 = true := by decide +kernel
set_option maxRecDepth 100000 in
theorem am_ckM_105 : am_ckM 105 15 = true := by decide +kernel
set_option maxRecDepth 100000 in
theorem am_ckM_120 : am_ckM 120 15 = true := by decide +kernel
set_option maxRecDepth 100000 in
theorem am_ckM_135 : am_ckM 135 15 = true := by decide +kernel
set_option maxRecDepth 100000 in
theorem am_ckM_150 : am_ckM 150 15 = true := by decide +kernel
set_option maxRecDepth 100000 in
theorem am_ckM_165 : am_ckM 165 15 = true := by decide +kernel
set_option maxRecDepth 100000 in
theorem am_ckM_180 : am_ckM 180 15 = true := by decide +kernel
set_option maxRecDepth 100000 in
theorem am_ckM_195 : am_ckM 195 15 = true := by decide +kernel
set_option maxRecDepth 100000 in
theorem am_ckM_210 : am_ckM 210 15 = true := by decide +kernel
set_option maxRecDepth 100000 in
theorem am_ckM_225 : am_ckM 225 15 = true := by decide +kernel
set_option maxRecDepth 100000 in
theorem am_ckM_240 : am_ckM 240 15 = true := by decide +kernel
set_option maxRecDepth 100000 in
theorem am_ckM_255 : am_ckM 255 9 = true := by decide +kernel
