/-! constants, fields, places: printed by gen.py -/
theorem k_bipush_6 : (Int8.ofInt 6).toInt32 = (6 : Int32) := by decide
theorem k_bipush_7 : (Int8.ofInt 7).toInt32 = (7 : Int32) := by decide
theorem k_bipush_8 : (Int8.ofInt 8).toInt32 = (8 : Int32) := by decide
theorem k_bipush_9 : (Int8.ofInt 9).toInt32 = (9 : Int32) := by decide
theorem k_bipush_10 : (Int8.ofInt 10).toInt32 = (10 : Int32) := by decide
theorem k_bipush_12 : (Int8.ofInt 12).toInt32 = (12 : Int32) := by decide
theorem k_bipush_13 : (Int8.ofInt 13).toInt32 = (13 : Int32) := by decide
theorem k_bipush_15 : (Int8.ofInt 15).toInt32 = (15 : Int32) := by decide
theorem k_bipush_16 : (Int8.ofInt 16).toInt32 = (16 : Int32) := by decide
theorem k_bipush_20 : (Int8.ofInt 20).toInt32 = (20 : Int32) := by decide
theorem k_bipush_23 : (Int8.ofInt 23).toInt32 = (23 : Int32) := by decide
theorem k_bipush_31 : (Int8.ofInt 31).toInt32 = (31 : Int32) := by decide
theorem k_bipush_32 : (Int8.ofInt 32).toInt32 = (32 : Int32) := by decide
theorem k_bipush_44 : (Int8.ofInt 44).toInt32 = (44 : Int32) := by decide
theorem k_bipush_46 : (Int8.ofInt 46).toInt32 = (46 : Int32) := by decide
theorem k_bipush_48 : (Int8.ofInt 48).toInt32 = (48 : Int32) := by decide
theorem k_bipush_50 : (Int8.ofInt 50).toInt32 = (50 : Int32) := by decide
theorem k_bipush_57 : (Int8.ofInt 57).toInt32 = (57 : Int32) := by decide
theorem k_bipush_59 : (Int8.ofInt 59).toInt32 = (59 : Int32) := by decide
theorem k_bipush_60 : (Int8.ofInt 60).toInt32 = (60 : Int32) := by decide
theorem k_bipush_63 : (Int8.ofInt 63).toInt32 = (63 : Int32) := by decide
theorem k_bipush_82 : (Int8.ofInt 82).toInt32 = (82 : Int32) := by decide
theorem k_bipush_99 : (Int8.ofInt 99).toInt32 = (99 : Int32) := by decide
theorem k_bipush_100 : (Int8.ofInt 100).toInt32 = (100 : Int32) := by decide
theorem k_bipush_104 : (Int8.ofInt 104).toInt32 = (104 : Int32) := by decide
theorem k_bipush_111 : (Int8.ofInt 111).toInt32 = (111 : Int32) := by decide
theorem k_bipush_114 : (Int8.ofInt 114).toInt32 = (114 : Int32) := by decide
theorem k_bipush_121 : (Int8.ofInt 121).toInt32 = (121 : Int32) := by decide
theorem k_bipush_126 : (Int8.ofInt 126).toInt32 = (126 : Int32) := by decide
theorem k_iconst_m1 : Int32.ofInt (-1) = (-1 : Int32) := by decide
theorem k_iconst_0 : Int32.ofInt 0 = (0 : Int32) := by decide
theorem k_iconst_1 : Int32.ofInt 1 = (1 : Int32) := by decide
theorem k_iconst_2 : Int32.ofInt 2 = (2 : Int32) := by decide
theorem k_iconst_3 : Int32.ofInt 3 = (3 : Int32) := by decide
theorem k_iconst_4 : Int32.ofInt 4 = (4 : Int32) := by decide
theorem k_iconst_5 : Int32.ofInt 5 = (5 : Int32) := by decide
theorem k_sipush_150 : (Int16.ofInt 150).toInt32 = (150 : Int32) := by decide
theorem k_sipush_152 : (Int16.ofInt 152).toInt32 = (152 : Int32) := by decide
theorem k_sipush_168 : (Int16.ofInt 168).toInt32 = (168 : Int32) := by decide
theorem k_sipush_200 : (Int16.ofInt 200).toInt32 = (200 : Int32) := by decide
theorem k_sipush_500 : (Int16.ofInt 500).toInt32 = (500 : Int32) := by decide
theorem k_sipush_504 : (Int16.ofInt 504).toInt32 = (504 : Int32) := by decide
theorem k_sipush_672 : (Int16.ofInt 672).toInt32 = (672 : Int32) := by decide
theorem k_sipush_999 : (Int16.ofInt 999).toInt32 = (999 : Int32) := by decide
theorem k_sipush_1000 : (Int16.ofInt 1000).toInt32 = (1000 : Int32) := by decide
theorem k_sipush_20000 : (Int16.ofInt 20000).toInt32 = (20000 : Int32) := by decide
theorem ix_0 : ix (0 : Int32) = 0 := by decide
theorem ix_1 : ix (1 : Int32) = 1 := by decide
theorem ix_2 : ix (2 : Int32) = 2 := by decide
theorem ix_3 : ix (3 : Int32) = 3 := by decide
theorem ix_4 : ix (4 : Int32) = 4 := by decide
theorem ix_5 : ix (5 : Int32) = 5 := by decide
theorem ix_6 : ix (6 : Int32) = 6 := by decide
theorem ix_7 : ix (7 : Int32) = 7 := by decide
theorem ix_8 : ix (8 : Int32) = 8 := by decide
theorem ix_9 : ix (9 : Int32) = 9 := by decide
theorem ix_10 : ix (10 : Int32) = 10 := by decide
theorem ix_12 : ix (12 : Int32) = 12 := by decide
theorem ix_13 : ix (13 : Int32) = 13 := by decide
theorem ix_15 : ix (15 : Int32) = 15 := by decide
theorem ix_16 : ix (16 : Int32) = 16 := by decide
theorem vi_0_2 : vp_in (0 : Int32) 2 := vp_in_nI (n := 0) (by omega) (by omega)
theorem vi_0_4 : vp_in (0 : Int32) 4 := vp_in_nI (n := 0) (by omega) (by omega)
theorem vi_0_8 : vp_in (0 : Int32) 8 := vp_in_nI (n := 0) (by omega) (by omega)
theorem vi_0_168 : vp_in (0 : Int32) 168 := vp_in_nI (n := 0) (by omega) (by omega)
theorem vi_1_2 : vp_in (1 : Int32) 2 := vp_in_nI (n := 1) (by omega) (by omega)
theorem vi_1_4 : vp_in (1 : Int32) 4 := vp_in_nI (n := 1) (by omega) (by omega)
theorem vi_1_8 : vp_in (1 : Int32) 8 := vp_in_nI (n := 1) (by omega) (by omega)
theorem vi_1_168 : vp_in (1 : Int32) 168 := vp_in_nI (n := 1) (by omega) (by omega)
theorem vi_2_4 : vp_in (2 : Int32) 4 := vp_in_nI (n := 2) (by omega) (by omega)
theorem vi_2_8 : vp_in (2 : Int32) 8 := vp_in_nI (n := 2) (by omega) (by omega)
theorem vi_2_168 : vp_in (2 : Int32) 168 := vp_in_nI (n := 2) (by omega) (by omega)
theorem vi_3_4 : vp_in (3 : Int32) 4 := vp_in_nI (n := 3) (by omega) (by omega)
theorem vi_3_8 : vp_in (3 : Int32) 8 := vp_in_nI (n := 3) (by omega) (by omega)
theorem vi_3_168 : vp_in (3 : Int32) 168 := vp_in_nI (n := 3) (by omega) (by omega)
theorem vi_4_8 : vp_in (4 : Int32) 8 := vp_in_nI (n := 4) (by omega) (by omega)
theorem vi_4_168 : vp_in (4 : Int32) 168 := vp_in_nI (n := 4) (by omega) (by omega)
theorem vi_5_8 : vp_in (5 : Int32) 8 := vp_in_nI (n := 5) (by omega) (by omega)
theorem vi_5_168 : vp_in (5 : Int32) 168 := vp_in_nI (n := 5) (by omega) (by omega)
theorem vi_6_8 : vp_in (6 : Int32) 8 := vp_in_nI (n := 6) (by omega) (by omega)
theorem vi_6_168 : vp_in (6 : Int32) 168 := vp_in_nI (n := 6) (by omega) (by omega)
theorem vi_7_8 : vp_in (7 : Int32) 8 := vp_in_nI (n := 7) (by omega) (by omega)
theorem vi_7_168 : vp_in (7 : Int32) 168 := vp_in_nI (n := 7) (by omega) (by omega)
theorem vi_8_168 : vp_in (8 : Int32) 168 := vp_in_nI (n := 8) (by omega) (by omega)
theorem vi_9_168 : vp_in (9 : Int32) 168 := vp_in_nI (n := 9) (by omega) (by omega)
theorem vi_12_168 : vp_in (12 : Int32) 168 := vp_in_nI (n := 12) (by omega) (by omega)
theorem vi_13_168 : vp_in (13 : Int32) 168 := vp_in_nI (n := 13) (by omega) (by omega)
theorem vi_15_168 : vp_in (15 : Int32) 168 := vp_in_nI (n := 15) (by omega) (by omega)
theorem vi_16_168 : vp_in (16 : Int32) 168 := vp_in_nI (n := 16) (by omega) (by omega)
theorem cl_0 : vwCl[0]? = some (RX0, TX0, 10) := rfl
theorem cl_1 : vwCl[1]? = some (RX1, TX1, 9) := rfl
theorem cl_2 : vwCl[2]? = some (RX2, TX2, 2) := rfl
theorem cl_3 : vwCl[3]? = some (RX3, TX3, 9) := rfl
theorem cl_4 : vwCl[4]? = some (RX4, TX4, 11) := rfl
theorem cl_5 : vwCl[5]? = some (RX5, TX5, 5) := rfl
theorem cl_6 : vwCl[6]? = some (RX6, TX6, 4) := rfl
theorem cl_7 : vwCl[7]? = some (RX7, TX7, 13) := rfl
theorem ac_8 : rI 8 = true ∧ rn 8 = 8 := by decide
theorem ac_9 : rI 9 = true ∧ rn 9 = 10 := by decide
theorem ac_10 : rI 10 = true ∧ rn 10 = 60 := by decide
theorem ac_12 : rI 12 = true ∧ rn 12 = 168 := by decide
theorem ac_13 : rI 13 = true ∧ rn 13 = 672 := by decide
theorem ac_15 : rI 15 = true ∧ rn 15 = 2 := by decide
theorem fq_0_0 : (0 < 10 ∧ 0 < nF 0 ∧ 0 < 8) ∧ fo 0 0 = 0 := by decide
theorem fq_0_1 : (1 < 10 ∧ 1 < nF 0 ∧ 0 < 8) ∧ fo 0 1 = 0 := by decide
theorem fq_0_2 : (2 < 10 ∧ 2 < nF 0 ∧ 0 < 8) ∧ fo 0 2 = 1 ∧ 1 ≠ 0 := by decide
theorem fq_0_3 : (3 < 10 ∧ 3 < nF 0 ∧ 0 < 8) ∧ fo 0 3 = 2 ∧ 2 ≠ 0 := by decide
theorem fq_0_4 : (4 < 10 ∧ 4 < nF 0 ∧ 0 < 8) ∧ fo 0 4 = 3 ∧ 3 ≠ 0 := by decide
theorem fq_0_5 : (5 < 10 ∧ 5 < nF 0 ∧ 0 < 8) ∧ fo 0 5 = 4 ∧ 4 ≠ 0 := by decide
theorem fq_0_6 : (6 < 10 ∧ 6 < nF 0 ∧ 0 < 8) ∧ fo 0 6 = 5 ∧ 5 ≠ 0 := by decide
theorem fq_0_7 : (7 < 10 ∧ 7 < nF 0 ∧ 0 < 8) ∧ fo 0 7 = 6 ∧ 6 ≠ 0 := by decide
theorem fq_0_8 : (8 < 10 ∧ 8 < nF 0 ∧ 0 < 8) ∧ fo 0 8 = 7 ∧ 7 ≠ 0 := by decide
theorem fq_0_9 : (9 < 10 ∧ 9 < nF 0 ∧ 0 < 8) ∧ fo 0 9 = 8 ∧ 8 ≠ 0 := by decide
theorem fq_1_0 : (0 < 9 ∧ 0 < nF 1 ∧ 1 < 8) ∧ fo 1 0 = 0 := by decide
theorem fq_1_1 : (1 < 9 ∧ 1 < nF 1 ∧ 1 < 8) ∧ fo 1 1 = 0 := by decide
theorem fq_1_2 : (2 < 9 ∧ 2 < nF 1 ∧ 1 < 8) ∧ fo 1 2 = 1 ∧ 1 ≠ 0 := by decide
theorem fq_1_3 : (3 < 9 ∧ 3 < nF 1 ∧ 1 < 8) ∧ fo 1 3 = 2 ∧ 2 ≠ 0 := by decide
theorem fq_1_4 : (4 < 9 ∧ 4 < nF 1 ∧ 1 < 8) ∧ fo 1 4 = 3 ∧ 3 ≠ 0 := by decide
theorem fq_1_5 : (5 < 9 ∧ 5 < nF 1 ∧ 1 < 8) ∧ fo 1 5 = 4 ∧ 4 ≠ 0 := by decide
theorem fq_1_6 : (6 < 9 ∧ 6 < nF 1 ∧ 1 < 8) ∧ fo 1 6 = 5 ∧ 5 ≠ 0 := by decide
theorem fq_1_7 : (7 < 9 ∧ 7 < nF 1 ∧ 1 < 8) ∧ fo 1 7 = 6 ∧ 6 ≠ 0 := by decide
theorem fq_1_8 : (8 < 9 ∧ 8 < nF 1 ∧ 1 < 8) ∧ fo 1 8 = 7 ∧ 7 ≠ 0 := by decide
theorem fq_2_0 : (0 < 2 ∧ 0 < nF 2 ∧ 2 < 8) ∧ fo 2 0 = 0 := by decide
theorem fq_2_1 : (1 < 2 ∧ 1 < nF 2 ∧ 2 < 8) ∧ fo 2 1 = 1 ∧ 1 ≠ 0 := by decide
theorem fq_3_0 : (0 < 9 ∧ 0 < nF 3 ∧ 3 < 8) ∧ fo 3 0 = 0 := by decide
theorem fq_3_1 : (1 < 9 ∧ 1 < nF 3 ∧ 3 < 8) ∧ fo 3 1 = 1 ∧ 1 ≠ 0 := by decide
theorem fq_3_2 : (2 < 9 ∧ 2 < nF 3 ∧ 3 < 8) ∧ fo 3 2 = 0 := by decide
theorem fq_3_3 : (3 < 9 ∧ 3 < nF 3 ∧ 3 < 8) ∧ fo 3 3 = 0 := by decide
theorem fq_3_4 : (4 < 9 ∧ 4 < nF 3 ∧ 3 < 8) ∧ fo 3 4 = 0 := by decide
theorem fq_3_5 : (5 < 9 ∧ 5 < nF 3 ∧ 3 < 8) ∧ fo 3 5 = 0 := by decide
theorem fq_3_6 : (6 < 9 ∧ 6 < nF 3 ∧ 3 < 8) ∧ fo 3 6 = 0 := by decide
theorem fq_3_7 : (7 < 9 ∧ 7 < nF 3 ∧ 3 < 8) ∧ fo 3 7 = 0 := by decide
theorem fq_3_8 : (8 < 9 ∧ 8 < nF 3 ∧ 3 < 8) ∧ fo 3 8 = 0 := by decide
theorem fq_4_0 : (0 < 11 ∧ 0 < nF 4 ∧ 4 < 8) ∧ fo 4 0 = 1 ∧ 1 ≠ 0 := by decide
theorem fq_4_1 : (1 < 11 ∧ 1 < nF 4 ∧ 4 < 8) ∧ fo 4 1 = 10 ∧ 10 ≠ 0 := by decide
theorem fq_4_2 : (2 < 11 ∧ 2 < nF 4 ∧ 4 < 8) ∧ fo 4 2 = 18 ∧ 18 ≠ 0 := by decide
theorem fq_4_3 : (3 < 11 ∧ 3 < nF 4 ∧ 4 < 8) ∧ fo 4 3 = 0 := by decide
theorem fq_4_4 : (4 < 11 ∧ 4 < nF 4 ∧ 4 < 8) ∧ fo 4 4 = 0 := by decide
theorem fq_4_5 : (5 < 11 ∧ 5 < nF 4 ∧ 4 < 8) ∧ fo 4 5 = 0 := by decide
theorem fq_4_6 : (6 < 11 ∧ 6 < nF 4 ∧ 4 < 8) ∧ fo 4 6 = 0 := by decide
theorem fq_4_7 : (7 < 11 ∧ 7 < nF 4 ∧ 4 < 8) ∧ fo 4 7 = 0 := by decide
theorem fq_4_8 : (8 < 11 ∧ 8 < nF 4 ∧ 4 < 8) ∧ fo 4 8 = 21 ∧ 21 ≠ 0 := by decide
theorem fq_4_9 : (9 < 11 ∧ 9 < nF 4 ∧ 4 < 8) ∧ fo 4 9 = 22 ∧ 22 ≠ 0 := by decide
theorem fq_4_10 : (10 < 11 ∧ 10 < nF 4 ∧ 4 < 8) ∧ fo 4 10 = 0 := by decide
theorem fq_5_0 : (0 < 5 ∧ 0 < nF 5 ∧ 5 < 8) ∧ fo 5 0 = 0 := by decide
theorem fq_5_1 : (1 < 5 ∧ 1 < nF 5 ∧ 5 < 8) ∧ fo 5 1 = 0 := by decide
theorem fq_5_2 : (2 < 5 ∧ 2 < nF 5 ∧ 5 < 8) ∧ fo 5 2 = 0 := by decide
theorem fq_5_3 : (3 < 5 ∧ 3 < nF 5 ∧ 5 < 8) ∧ fo 5 3 = 1 ∧ 1 ≠ 0 := by decide
theorem fq_5_4 : (4 < 5 ∧ 4 < nF 5 ∧ 5 < 8) ∧ fo 5 4 = 2 ∧ 2 ≠ 0 := by decide
theorem fq_6_0 : (0 < 4 ∧ 0 < nF 6 ∧ 6 < 8) ∧ fo 6 0 = 1 ∧ 1 ≠ 0 := by decide
theorem fq_6_1 : (1 < 4 ∧ 1 < nF 6 ∧ 6 < 8) ∧ fo 6 1 = 24 ∧ 24 ≠ 0 := by decide
theorem fq_6_2 : (2 < 4 ∧ 2 < nF 6 ∧ 6 < 8) ∧ fo 6 2 = 47 ∧ 47 ≠ 0 := by decide
theorem fq_6_3 : (3 < 4 ∧ 3 < nF 6 ∧ 6 < 8) ∧ fo 6 3 = 141 ∧ 141 ≠ 0 := by decide
theorem fq_7_0 : (0 < 13 ∧ 0 < nF 7 ∧ 7 < 8) ∧ fo 7 0 = 1 ∧ 1 ≠ 0 := by decide
theorem fq_7_1 : (1 < 13 ∧ 1 < nF 7 ∧ 7 < 8) ∧ fo 7 1 = 2 ∧ 2 ≠ 0 := by decide
theorem fq_7_2 : (2 < 13 ∧ 2 < nF 7 ∧ 7 < 8) ∧ fo 7 2 = 3 ∧ 3 ≠ 0 := by decide
theorem fq_7_3 : (3 < 13 ∧ 3 < nF 7 ∧ 7 < 8) ∧ fo 7 3 = 4 ∧ 4 ≠ 0 := by decide
theorem fq_7_4 : (4 < 13 ∧ 4 < nF 7 ∧ 7 < 8) ∧ fo 7 4 = 0 := by decide
theorem fq_7_5 : (5 < 13 ∧ 5 < nF 7 ∧ 7 < 8) ∧ fo 7 5 = 5 ∧ 5 ≠ 0 := by decide
theorem fq_7_6 : (6 < 13 ∧ 6 < nF 7 ∧ 7 < 8) ∧ fo 7 6 = 0 := by decide
theorem fq_7_7 : (7 < 13 ∧ 7 < nF 7 ∧ 7 < 8) ∧ fo 7 7 = 0 := by decide
theorem fq_7_8 : (8 < 13 ∧ 8 < nF 7 ∧ 7 < 8) ∧ fo 7 8 = 6 ∧ 6 ≠ 0 := by decide
theorem fq_7_9 : (9 < 13 ∧ 9 < nF 7 ∧ 7 < 8) ∧ fo 7 9 = 0 := by decide
theorem fq_7_10 : (10 < 13 ∧ 10 < nF 7 ∧ 7 < 8) ∧ fo 7 10 = 0 := by decide
theorem fq_7_11 : (11 < 13 ∧ 11 < nF 7 ∧ 7 < 8) ∧ fo 7 11 = 0 := by decide
theorem fq_7_12 : (12 < 13 ∧ 12 < nF 7 ∧ 7 < 8) ∧ fo 7 12 = 0 := by decide
theorem ky_0_2 {j : Nat} (hk : kd j = 0) : kd (j + 1) = 8 := ky_of (by decide) (by decide +kernel) hk
theorem ky_0_3 {j : Nat} (hk : kd j = 0) : kd (j + 2) = 8 := ky_of (by decide) (by decide +kernel) hk
theorem ky_0_4 {j : Nat} (hk : kd j = 0) : kd (j + 3) = 8 := ky_of (by decide) (by decide +kernel) hk
theorem ky_0_5 {j : Nat} (hk : kd j = 0) : kd (j + 4) = 8 := ky_of (by decide) (by decide +kernel) hk
theorem ky_0_6 {j : Nat} (hk : kd j = 0) : kd (j + 5) = 8 := ky_of (by decide) (by decide +kernel) hk
theorem ky_0_7 {j : Nat} (hk : kd j = 0) : kd (j + 6) = 8 := ky_of (by decide) (by decide +kernel) hk
theorem ky_0_8 {j : Nat} (hk : kd j = 0) : kd (j + 7) = 8 := ky_of (by decide) (by decide +kernel) hk
theorem ky_0_9 {j : Nat} (hk : kd j = 0) : kd (j + 8) = 8 := ky_of (by decide) (by decide +kernel) hk
theorem ky_1_2 {j : Nat} (hk : kd j = 1) : kd (j + 1) = 9 := ky_of (by decide) (by decide +kernel) hk
theorem ky_1_3 {j : Nat} (hk : kd j = 1) : kd (j + 2) = 9 := ky_of (by decide) (by decide +kernel) hk
theorem ky_1_4 {j : Nat} (hk : kd j = 1) : kd (j + 3) = 9 := ky_of (by decide) (by decide +kernel) hk
theorem ky_1_5 {j : Nat} (hk : kd j = 1) : kd (j + 4) = 9 := ky_of (by decide) (by decide +kernel) hk
theorem ky_1_6 {j : Nat} (hk : kd j = 1) : kd (j + 5) = 9 := ky_of (by decide) (by decide +kernel) hk
theorem ky_1_7 {j : Nat} (hk : kd j = 1) : kd (j + 6) = 9 := ky_of (by decide) (by decide +kernel) hk
theorem ky_1_8 {j : Nat} (hk : kd j = 1) : kd (j + 7) = 9 := ky_of (by decide) (by decide +kernel) hk
theorem ky_2_1 {j : Nat} (hk : kd j = 2) : kd (j + 1) = 11 := ky_of (by decide) (by decide +kernel) hk
theorem ky_3_1 {j : Nat} (hk : kd j = 3) : kd (j + 1) = 10 := ky_of (by decide) (by decide +kernel) hk
theorem ky_4_0 {j : Nat} (hk : kd j = 4) : kd (j + 1) = 0 := ky_of (by decide) (by decide +kernel) hk
theorem ky_4_1 {j : Nat} (hk : kd j = 4) : kd (j + 10) = 1 := ky_of (by decide) (by decide +kernel) hk
theorem ky_4_2 {j : Nat} (hk : kd j = 4) : kd (j + 18) = 5 := ky_of (by decide) (by decide +kernel) hk
theorem ky_4_8 {j : Nat} (hk : kd j = 4) : kd (j + 21) = 8 := ky_of (by decide) (by decide +kernel) hk
theorem ky_4_9 {j : Nat} (hk : kd j = 4) : kd (j + 22) = 8 := ky_of (by decide) (by decide +kernel) hk
theorem ky_5_3 {j : Nat} (hk : kd j = 5) : kd (j + 1) = 8 := ky_of (by decide) (by decide +kernel) hk
theorem ky_5_4 {j : Nat} (hk : kd j = 5) : kd (j + 2) = 8 := ky_of (by decide) (by decide +kernel) hk
theorem ky_6_0 {j : Nat} (hk : kd j = 6) : kd (j + 1) = 4 := ky_of (by decide) (by decide +kernel) hk
theorem ky_6_1 {j : Nat} (hk : kd j = 6) : kd (j + 24) = 4 := ky_of (by decide) (by decide +kernel) hk
theorem ky_6_2 {j : Nat} (hk : kd j = 6) : kd (j + 47) = 2 := ky_of (by decide) (by decide +kernel) hk
theorem ky_6_3 {j : Nat} (hk : kd j = 6) : kd (j + 141) = 3 := ky_of (by decide) (by decide +kernel) hk
theorem ky_7_0 {j : Nat} (hk : kd j = 7) : kd (j + 1) = 12 := ky_of (by decide) (by decide +kernel) hk
theorem ky_7_1 {j : Nat} (hk : kd j = 7) : kd (j + 2) = 13 := ky_of (by decide) (by decide +kernel) hk
theorem ky_7_2 {j : Nat} (hk : kd j = 7) : kd (j + 3) = 12 := ky_of (by decide) (by decide +kernel) hk
theorem ky_7_3 {j : Nat} (hk : kd j = 7) : kd (j + 4) = 12 := ky_of (by decide) (by decide +kernel) hk
theorem ky_7_5 {j : Nat} (hk : kd j = 7) : kd (j + 5) = 14 := ky_of (by decide) (by decide +kernel) hk
theorem ky_7_8 {j : Nat} (hk : kd j = 7) : kd (j + 6) = 15 := ky_of (by decide) (by decide +kernel) hk
theorem hdV_X0_become : yX0_become.cls = RX0 ∧ yX0_become.cls ≠ "java/lang/invoke/MethodHandle" ∧ yX0_become.cls ≠ "java/lang/invoke/VarHandle" ∧ (parseMethodDescriptor yX0_become.desc).map (fun d => d.parameters.length) = some 1 := by decide +kernel
theorem hdV_X0_has : yX0_has.cls = RX0 ∧ yX0_has.cls ≠ "java/lang/invoke/MethodHandle" ∧ yX0_has.cls ≠ "java/lang/invoke/VarHandle" ∧ (parseMethodDescriptor yX0_has.desc).map (fun d => d.parameters.length) = some 1 := by decide +kernel
theorem hdV_X0_hasGate : yX0_hasGate.cls = RX0 ∧ yX0_hasGate.cls ≠ "java/lang/invoke/MethodHandle" ∧ yX0_hasGate.cls ≠ "java/lang/invoke/VarHandle" ∧ (parseMethodDescriptor yX0_hasGate.desc).map (fun d => d.parameters.length) = some 1 := by decide +kernel
theorem hdV_X0_allGates : yX0_allGates.cls = RX0 ∧ yX0_allGates.cls ≠ "java/lang/invoke/MethodHandle" ∧ yX0_allGates.cls ≠ "java/lang/invoke/VarHandle" ∧ (parseMethodDescriptor yX0_allGates.desc).map (fun d => d.parameters.length) = some 0 := by decide +kernel
theorem hdV_X0_areGates : yX0_areGates.cls = RX0 ∧ yX0_areGates.cls ≠ "java/lang/invoke/MethodHandle" ∧ yX0_areGates.cls ≠ "java/lang/invoke/VarHandle" ∧ (parseMethodDescriptor yX0_areGates.desc).map (fun d => d.parameters.length) = some 1 := by decide +kernel
theorem hdV_X0_add : yX0_add.cls = RX0 ∧ yX0_add.cls ≠ "java/lang/invoke/MethodHandle" ∧ yX0_add.cls ≠ "java/lang/invoke/VarHandle" ∧ (parseMethodDescriptor yX0_add.desc).map (fun d => d.parameters.length) = some 4 := by decide +kernel
theorem hdV_X0_isOpen : yX0_isOpen.cls = RX0 ∧ yX0_isOpen.cls ≠ "java/lang/invoke/MethodHandle" ∧ yX0_isOpen.cls ≠ "java/lang/invoke/VarHandle" ∧ (parseMethodDescriptor yX0_isOpen.desc).map (fun d => d.parameters.length) = some 1 := by decide +kernel
theorem hdV_X0_isTended : yX0_isTended.cls = RX0 ∧ yX0_isTended.cls ≠ "java/lang/invoke/MethodHandle" ∧ yX0_isTended.cls ≠ "java/lang/invoke/VarHandle" ∧ (parseMethodDescriptor yX0_isTended.desc).map (fun d => d.parameters.length) = some 1 := by decide +kernel
theorem hdV_X0_canBeOpened : yX0_canBeOpened.cls = RX0 ∧ yX0_canBeOpened.cls ≠ "java/lang/invoke/MethodHandle" ∧ yX0_canBeOpened.cls ≠ "java/lang/invoke/VarHandle" ∧ (parseMethodDescriptor yX0_canBeOpened.desc).map (fun d => d.parameters.length) = some 1 := by decide +kernel
theorem hdV_X0_canBeClosed : yX0_canBeClosed.cls = RX0 ∧ yX0_canBeClosed.cls ≠ "java/lang/invoke/MethodHandle" ∧ yX0_canBeClosed.cls ≠ "java/lang/invoke/VarHandle" ∧ (parseMethodDescriptor yX0_canBeClosed.desc).map (fun d => d.parameters.length) = some 1 := by decide +kernel
theorem hdV_X0_moveGate : yX0_moveGate.cls = RX0 ∧ yX0_moveGate.cls ≠ "java/lang/invoke/MethodHandle" ∧ yX0_moveGate.cls ≠ "java/lang/invoke/VarHandle" ∧ (parseMethodDescriptor yX0_moveGate.desc).map (fun d => d.parameters.length) = some 1 := by decide +kernel
theorem hdV_X0_tended : yX0_tended.cls = RX0 ∧ yX0_tended.cls ≠ "java/lang/invoke/MethodHandle" ∧ yX0_tended.cls ≠ "java/lang/invoke/VarHandle" ∧ (parseMethodDescriptor yX0_tended.desc).map (fun d => d.parameters.length) = some 0 := by decide +kernel
theorem hdV_X0_gatesOf : yX0_gatesOf.cls = RX0 ∧ yX0_gatesOf.cls ≠ "java/lang/invoke/MethodHandle" ∧ yX0_gatesOf.cls ≠ "java/lang/invoke/VarHandle" ∧ (parseMethodDescriptor yX0_gatesOf.desc).map (fun d => d.parameters.length) = some 1 := by decide +kernel
theorem hdV_X0_below : yX0_below.cls = RX0 ∧ yX0_below.cls ≠ "java/lang/invoke/MethodHandle" ∧ yX0_below.cls ≠ "java/lang/invoke/VarHandle" ∧ (parseMethodDescriptor yX0_below.desc).map (fun d => d.parameters.length) = some 1 := by decide +kernel
theorem hdV_X1_become : yX1_become.cls = RX1 ∧ yX1_become.cls ≠ "java/lang/invoke/MethodHandle" ∧ yX1_become.cls ≠ "java/lang/invoke/VarHandle" ∧ (parseMethodDescriptor yX1_become.desc).map (fun d => d.parameters.length) = some 1 := by decide +kernel
theorem hdV_X1_has : yX1_has.cls = RX1 ∧ yX1_has.cls ≠ "java/lang/invoke/MethodHandle" ∧ yX1_has.cls ≠ "java/lang/invoke/VarHandle" ∧ (parseMethodDescriptor yX1_has.desc).map (fun d => d.parameters.length) = some 1 := by decide +kernel
theorem hdV_X1_areFields : yX1_areFields.cls = RX1 ∧ yX1_areFields.cls ≠ "java/lang/invoke/MethodHandle" ∧ yX1_areFields.cls ≠ "java/lang/invoke/VarHandle" ∧ (parseMethodDescriptor yX1_areFields.desc).map (fun d => d.parameters.length) = some 1 := by decide +kernel
theorem hdV_X1_add : yX1_add.cls = RX1 ∧ yX1_add.cls ≠ "java/lang/invoke/MethodHandle" ∧ yX1_add.cls ≠ "java/lang/invoke/VarHandle" ∧ (parseMethodDescriptor yX1_add.desc).map (fun d => d.parameters.length) = some 4 := by decide +kernel
theorem hdV_X1_wants : yX1_wants.cls = RX1 ∧ yX1_wants.cls ≠ "java/lang/invoke/MethodHandle" ∧ yX1_wants.cls ≠ "java/lang/invoke/VarHandle" ∧ (parseMethodDescriptor yX1_wants.desc).map (fun d => d.parameters.length) = some 1 := by decide +kernel
theorem hdV_X1_wanting : yX1_wanting.cls = RX1 ∧ yX1_wanting.cls ≠ "java/lang/invoke/MethodHandle" ∧ yX1_wanting.cls ≠ "java/lang/invoke/VarHandle" ∧ (parseMethodDescriptor yX1_wanting.desc).map (fun d => d.parameters.length) = some 0 := by decide +kernel
theorem hdV_X1_calls : yX1_calls.cls = RX1 ∧ yX1_calls.cls ≠ "java/lang/invoke/MethodHandle" ∧ yX1_calls.cls ≠ "java/lang/invoke/VarHandle" ∧ (parseMethodDescriptor yX1_calls.desc).map (fun d => d.parameters.length) = some 1 := by decide +kernel
theorem hdV_X1_canCall : yX1_canCall.cls = RX1 ∧ yX1_canCall.cls ≠ "java/lang/invoke/MethodHandle" ∧ yX1_canCall.cls ≠ "java/lang/invoke/VarHandle" ∧ (parseMethodDescriptor yX1_canCall.desc).map (fun d => d.parameters.length) = some 1 := by decide +kernel
theorem hdS_J6_bitCount_0f7a4 : yJ6_bitCount_0f7a4.cls ≠ "java/lang/invoke/MethodHandle" ∧ yJ6_bitCount_0f7a4.cls ≠ "java/lang/invoke/VarHandle" ∧ (parseMethodDescriptor yJ6_bitCount_0f7a4.desc).map (fun d => d.parameters.length) = some 1 := by decide +kernel
theorem hdV_X1_beginCall : yX1_beginCall.cls = RX1 ∧ yX1_beginCall.cls ≠ "java/lang/invoke/MethodHandle" ∧ yX1_beginCall.cls ≠ "java/lang/invoke/VarHandle" ∧ (parseMethodDescriptor yX1_beginCall.desc).map (fun d => d.parameters.length) = some 1 := by decide +kernel
theorem hdV_X1_give : yX1_give.cls = RX1 ∧ yX1_give.cls ≠ "java/lang/invoke/MethodHandle" ∧ yX1_give.cls ≠ "java/lang/invoke/VarHandle" ∧ (parseMethodDescriptor yX1_give.desc).map (fun d => d.parameters.length) = some 3 := by decide +kernel
theorem hdV_X2_dropOldest : yX2_dropOldest.cls = RX2 ∧ yX2_dropOldest.cls ≠ "java/lang/invoke/MethodHandle" ∧ yX2_dropOldest.cls ≠ "java/lang/invoke/VarHandle" ∧ (parseMethodDescriptor yX2_dropOldest.desc).map (fun d => d.parameters.length) = some 0 := by decide +kernel
theorem hdV_X5_become : yX5_become.cls = RX5 ∧ yX5_become.cls ≠ "java/lang/invoke/MethodHandle" ∧ yX5_become.cls ≠ "java/lang/invoke/VarHandle" ∧ (parseMethodDescriptor yX5_become.desc).map (fun d => d.parameters.length) = some 1 := by decide +kernel
theorem hdV_X4_become : yX4_become.cls = RX4 ∧ yX4_become.cls ≠ "java/lang/invoke/MethodHandle" ∧ yX4_become.cls ≠ "java/lang/invoke/VarHandle" ∧ (parseMethodDescriptor yX4_become.desc).map (fun d => d.parameters.length) = some 1 := by decide +kernel
theorem hdV_X2_record : yX2_record.cls = RX2 ∧ yX2_record.cls ≠ "java/lang/invoke/MethodHandle" ∧ yX2_record.cls ≠ "java/lang/invoke/VarHandle" ∧ (parseMethodDescriptor yX2_record.desc).map (fun d => d.parameters.length) = some 1 := by decide +kernel
theorem hdV_X2_restoreLatest : yX2_restoreLatest.cls = RX2 ∧ yX2_restoreLatest.cls ≠ "java/lang/invoke/MethodHandle" ∧ yX2_restoreLatest.cls ≠ "java/lang/invoke/VarHandle" ∧ (parseMethodDescriptor yX2_restoreLatest.desc).map (fun d => d.parameters.length) = some 1 := by decide +kernel
theorem hdV_X3_append : yX3_append.cls = RX3 ∧ yX3_append.cls ≠ "java/lang/invoke/MethodHandle" ∧ yX3_append.cls ≠ "java/lang/invoke/VarHandle" ∧ (parseMethodDescriptor yX3_append.desc).map (fun d => d.parameters.length) = some 1 := by decide +kernel
theorem hdV_X3_characterAt : yX3_characterAt.cls = RX3 ∧ yX3_characterAt.cls ≠ "java/lang/invoke/MethodHandle" ∧ yX3_characterAt.cls ≠ "java/lang/invoke/VarHandle" ∧ (parseMethodDescriptor yX3_characterAt.desc).map (fun d => d.parameters.length) = some 1 := by decide +kernel
theorem hdV_X3_readNumber : yX3_readNumber.cls = RX3 ∧ yX3_readNumber.cls ≠ "java/lang/invoke/MethodHandle" ∧ yX3_readNumber.cls ≠ "java/lang/invoke/VarHandle" ∧ (parseMethodDescriptor yX3_readNumber.desc).map (fun d => d.parameters.length) = some 0 := by decide +kernel
theorem hdV_X3_skip : yX3_skip.cls = RX3 ∧ yX3_skip.cls ≠ "java/lang/invoke/MethodHandle" ∧ yX3_skip.cls ≠ "java/lang/invoke/VarHandle" ∧ (parseMethodDescriptor yX3_skip.desc).map (fun d => d.parameters.length) = some 1 := by decide +kernel
theorem hdV_X3_readOrder : yX3_readOrder.cls = RX3 ∧ yX3_readOrder.cls ≠ "java/lang/invoke/MethodHandle" ∧ yX3_readOrder.cls ≠ "java/lang/invoke/VarHandle" ∧ (parseMethodDescriptor yX3_readOrder.desc).map (fun d => d.parameters.length) = some 0 := by decide +kernel
theorem hdS_X6_isOutside : yX6_isOutside.cls ≠ "java/lang/invoke/MethodHandle" ∧ yX6_isOutside.cls ≠ "java/lang/invoke/VarHandle" ∧ (parseMethodDescriptor yX6_isOutside.desc).map (fun d => d.parameters.length) = some 3 := by decide +kernel
theorem hdV_X3_isInRange : yX3_isInRange.cls = RX3 ∧ yX3_isInRange.cls ≠ "java/lang/invoke/MethodHandle" ∧ yX3_isInRange.cls ≠ "java/lang/invoke/VarHandle" ∧ (parseMethodDescriptor yX3_isInRange.desc).map (fun d => d.parameters.length) = some 1 := by decide +kernel
theorem hdV_X4_hasHoursLeft : yX4_hasHoursLeft.cls = RX4 ∧ yX4_hasHoursLeft.cls ≠ "java/lang/invoke/MethodHandle" ∧ yX4_hasHoursLeft.cls ≠ "java/lang/invoke/VarHandle" ∧ (parseMethodDescriptor yX4_hasHoursLeft.desc).map (fun d => d.parameters.length) = some 1 := by decide +kernel
theorem hdV_X3_isPossible : yX3_isPossible.cls = RX3 ∧ yX3_isPossible.cls ≠ "java/lang/invoke/MethodHandle" ∧ yX3_isPossible.cls ≠ "java/lang/invoke/VarHandle" ∧ (parseMethodDescriptor yX3_isPossible.desc).map (fun d => d.parameters.length) = some 1 := by decide +kernel
theorem hdV_X3_reasonAgainst : yX3_reasonAgainst.cls = RX3 ∧ yX3_reasonAgainst.cls ≠ "java/lang/invoke/MethodHandle" ∧ yX3_reasonAgainst.cls ≠ "java/lang/invoke/VarHandle" ∧ (parseMethodDescriptor yX3_reasonAgainst.desc).map (fun d => d.parameters.length) = some 1 := by decide +kernel
theorem hdS_J7_fill_53178 : yJ7_fill_53178.cls ≠ "java/lang/invoke/MethodHandle" ∧ yJ7_fill_53178.cls ≠ "java/lang/invoke/VarHandle" ∧ (parseMethodDescriptor yJ7_fill_53178.desc).map (fun d => d.parameters.length) = some 2 := by decide +kernel
theorem hdV_X4_findCallsBelow : yX4_findCallsBelow.cls = RX4 ∧ yX4_findCallsBelow.cls ≠ "java/lang/invoke/MethodHandle" ∧ yX4_findCallsBelow.cls ≠ "java/lang/invoke/VarHandle" ∧ (parseMethodDescriptor yX4_findCallsBelow.desc).map (fun d => d.parameters.length) = some 0 := by decide +kernel
theorem hdV_X4_findPassingGates : yX4_findPassingGates.cls = RX4 ∧ yX4_findPassingGates.cls ≠ "java/lang/invoke/MethodHandle" ∧ yX4_findPassingGates.cls ≠ "java/lang/invoke/VarHandle" ∧ (parseMethodDescriptor yX4_findPassingGates.desc).map (fun d => d.parameters.length) = some 0 := by decide +kernel
theorem hdV_X4_seepAway : yX4_seepAway.cls = RX4 ∧ yX4_seepAway.cls ≠ "java/lang/invoke/MethodHandle" ∧ yX4_seepAway.cls ≠ "java/lang/invoke/VarHandle" ∧ (parseMethodDescriptor yX4_seepAway.desc).map (fun d => d.parameters.length) = some 2 := by decide +kernel
theorem hdV_X4_mayTake : yX4_mayTake.cls = RX4 ∧ yX4_mayTake.cls ≠ "java/lang/invoke/MethodHandle" ∧ yX4_mayTake.cls ≠ "java/lang/invoke/VarHandle" ∧ (parseMethodDescriptor yX4_mayTake.desc).map (fun d => d.parameters.length) = some 1 := by decide +kernel
theorem hdV_X4_giveToFields : yX4_giveToFields.cls = RX4 ∧ yX4_giveToFields.cls ≠ "java/lang/invoke/MethodHandle" ∧ yX4_giveToFields.cls ≠ "java/lang/invoke/VarHandle" ∧ (parseMethodDescriptor yX4_giveToFields.desc).map (fun d => d.parameters.length) = some 2 := by decide +kernel
theorem hdV_X4_isPassingFrom : yX4_isPassingFrom.cls = RX4 ∧ yX4_isPassingFrom.cls ≠ "java/lang/invoke/MethodHandle" ∧ yX4_isPassingFrom.cls ≠ "java/lang/invoke/VarHandle" ∧ (parseMethodDescriptor yX4_isPassingFrom.desc).map (fun d => d.parameters.length) = some 2 := by decide +kernel
theorem hdV_X4_throughGate : yX4_throughGate.cls = RX4 ∧ yX4_throughGate.cls ≠ "java/lang/invoke/MethodHandle" ∧ yX4_throughGate.cls ≠ "java/lang/invoke/VarHandle" ∧ (parseMethodDescriptor yX4_throughGate.desc).map (fun d => d.parameters.length) = some 2 := by decide +kernel
theorem hdV_X4_partAmongGates : yX4_partAmongGates.cls = RX4 ∧ yX4_partAmongGates.cls ≠ "java/lang/invoke/MethodHandle" ∧ yX4_partAmongGates.cls ≠ "java/lang/invoke/VarHandle" ∧ (parseMethodDescriptor yX4_partAmongGates.desc).map (fun d => d.parameters.length) = some 2 := by decide +kernel
theorem hdV_X4_endCalls : yX4_endCalls.cls = RX4 ∧ yX4_endCalls.cls ≠ "java/lang/invoke/MethodHandle" ∧ yX4_endCalls.cls ≠ "java/lang/invoke/VarHandle" ∧ (parseMethodDescriptor yX4_endCalls.desc).map (fun d => d.parameters.length) = some 0 := by decide +kernel
theorem hdV_X4_passHour : yX4_passHour.cls = RX4 ∧ yX4_passHour.cls ≠ "java/lang/invoke/MethodHandle" ∧ yX4_passHour.cls ≠ "java/lang/invoke/VarHandle" ∧ (parseMethodDescriptor yX4_passHour.desc).map (fun d => d.parameters.length) = some 1 := by decide +kernel
theorem hdV_X5_gatesFor : yX5_gatesFor.cls = RX5 ∧ yX5_gatesFor.cls ≠ "java/lang/invoke/MethodHandle" ∧ yX5_gatesFor.cls ≠ "java/lang/invoke/VarHandle" ∧ (parseMethodDescriptor yX5_gatesFor.desc).map (fun d => d.parameters.length) = some 1 := by decide +kernel
theorem hdV_X5_goOn : yX5_goOn.cls = RX5 ∧ yX5_goOn.cls ≠ "java/lang/invoke/MethodHandle" ∧ yX5_goOn.cls ≠ "java/lang/invoke/VarHandle" ∧ (parseMethodDescriptor yX5_goOn.desc).map (fun d => d.parameters.length) = some 0 := by decide +kernel
theorem hdV_X4_runHours : yX4_runHours.cls = RX4 ∧ yX4_runHours.cls ≠ "java/lang/invoke/MethodHandle" ∧ yX4_runHours.cls ≠ "java/lang/invoke/VarHandle" ∧ (parseMethodDescriptor yX4_runHours.desc).map (fun d => d.parameters.length) = some 2 := by decide +kernel
theorem hdV_X3_carryOut : yX3_carryOut.cls = RX3 ∧ yX3_carryOut.cls ≠ "java/lang/invoke/MethodHandle" ∧ yX3_carryOut.cls ≠ "java/lang/invoke/VarHandle" ∧ (parseMethodDescriptor yX3_carryOut.desc).map (fun d => d.parameters.length) = some 1 := by decide +kernel
theorem hdV_X3_carryOutAll : yX3_carryOutAll.cls = RX3 ∧ yX3_carryOutAll.cls ≠ "java/lang/invoke/MethodHandle" ∧ yX3_carryOutAll.cls ≠ "java/lang/invoke/VarHandle" ∧ (parseMethodDescriptor yX3_carryOutAll.desc).map (fun d => d.parameters.length) = some 1 := by decide +kernel
theorem hdV_X5_has : yX5_has.cls = RX5 ∧ yX5_has.cls ≠ "java/lang/invoke/MethodHandle" ∧ yX5_has.cls ≠ "java/lang/invoke/VarHandle" ∧ (parseMethodDescriptor yX5_has.desc).map (fun d => d.parameters.length) = some 1 := by decide +kernel
theorem hdV_X5_beginAgain : yX5_beginAgain.cls = RX5 ∧ yX5_beginAgain.cls ≠ "java/lang/invoke/MethodHandle" ∧ yX5_beginAgain.cls ≠ "java/lang/invoke/VarHandle" ∧ (parseMethodDescriptor yX5_beginAgain.desc).map (fun d => d.parameters.length) = some 0 := by decide +kernel
theorem hdV_X5_add : yX5_add.cls = RX5 ∧ yX5_add.cls ≠ "java/lang/invoke/MethodHandle" ∧ yX5_add.cls ≠ "java/lang/invoke/VarHandle" ∧ (parseMethodDescriptor yX5_add.desc).map (fun d => d.parameters.length) = some 2 := by decide +kernel
theorem hdV_X5_removeAll : yX5_removeAll.cls = RX5 ∧ yX5_removeAll.cls ≠ "java/lang/invoke/MethodHandle" ∧ yX5_removeAll.cls ≠ "java/lang/invoke/VarHandle" ∧ (parseMethodDescriptor yX5_removeAll.desc).map (fun d => d.parameters.length) = some 0 := by decide +kernel
theorem hdV_X6_canal : yX6_canal.cls = RX6 ∧ yX6_canal.cls ≠ "java/lang/invoke/MethodHandle" ∧ yX6_canal.cls ≠ "java/lang/invoke/VarHandle" ∧ (parseMethodDescriptor yX6_canal.desc).map (fun d => d.parameters.length) = some 4 := by decide +kernel
theorem hdV_X6_field : yX6_field.cls = RX6 ∧ yX6_field.cls ≠ "java/lang/invoke/MethodHandle" ∧ yX6_field.cls ≠ "java/lang/invoke/VarHandle" ∧ (parseMethodDescriptor yX6_field.desc).map (fun d => d.parameters.length) = some 4 := by decide +kernel
theorem hdS_X6_tendsKind : yX6_tendsKind.cls ≠ "java/lang/invoke/MethodHandle" ∧ yX6_tendsKind.cls ≠ "java/lang/invoke/VarHandle" ∧ (parseMethodDescriptor yX6_tendsKind.desc).map (fun d => d.parameters.length) = some 2 := by decide +kernel
theorem hdV_X6_tend : yX6_tend.cls = RX6 ∧ yX6_tend.cls ≠ "java/lang/invoke/MethodHandle" ∧ yX6_tend.cls ≠ "java/lang/invoke/VarHandle" ∧ (parseMethodDescriptor yX6_tend.desc).map (fun d => d.parameters.length) = some 2 := by decide +kernel
theorem hdV_X6_leave : yX6_leave.cls = RX6 ∧ yX6_leave.cls ≠ "java/lang/invoke/MethodHandle" ∧ yX6_leave.cls ≠ "java/lang/invoke/VarHandle" ∧ (parseMethodDescriptor yX6_leave.desc).map (fun d => d.parameters.length) = some 1 := by decide +kernel
theorem hdV_X6_open : yX6_open.cls = RX6 ∧ yX6_open.cls ≠ "java/lang/invoke/MethodHandle" ∧ yX6_open.cls ≠ "java/lang/invoke/VarHandle" ∧ (parseMethodDescriptor yX6_open.desc).map (fun d => d.parameters.length) = some 1 := by decide +kernel
theorem hdV_X6_close : yX6_close.cls = RX6 ∧ yX6_close.cls ≠ "java/lang/invoke/MethodHandle" ∧ yX6_close.cls ≠ "java/lang/invoke/VarHandle" ∧ (parseMethodDescriptor yX6_close.desc).map (fun d => d.parameters.length) = some 1 := by decide +kernel
theorem hdV_X6_call : yX6_call.cls = RX6 ∧ yX6_call.cls ≠ "java/lang/invoke/MethodHandle" ∧ yX6_call.cls ≠ "java/lang/invoke/VarHandle" ∧ (parseMethodDescriptor yX6_call.desc).map (fun d => d.parameters.length) = some 1 := by decide +kernel
theorem hdV_X6_turn : yX6_turn.cls = RX6 ∧ yX6_turn.cls ≠ "java/lang/invoke/MethodHandle" ∧ yX6_turn.cls ≠ "java/lang/invoke/VarHandle" ∧ (parseMethodDescriptor yX6_turn.desc).map (fun d => d.parameters.length) = some 2 := by decide +kernel
theorem hdV_X6_noTurns : yX6_noTurns.cls = RX6 ∧ yX6_noTurns.cls ≠ "java/lang/invoke/MethodHandle" ∧ yX6_noTurns.cls ≠ "java/lang/invoke/VarHandle" ∧ (parseMethodDescriptor yX6_noTurns.desc).map (fun d => d.parameters.length) = some 0 := by decide +kernel
theorem hdV_X6_hour : yX6_hour.cls = RX6 ∧ yX6_hour.cls ≠ "java/lang/invoke/MethodHandle" ∧ yX6_hour.cls ≠ "java/lang/invoke/VarHandle" ∧ (parseMethodDescriptor yX6_hour.desc).map (fun d => d.parameters.length) = some 1 := by decide +kernel
theorem hdV_X6_run : yX6_run.cls = RX6 ∧ yX6_run.cls ≠ "java/lang/invoke/MethodHandle" ∧ yX6_run.cls ≠ "java/lang/invoke/VarHandle" ∧ (parseMethodDescriptor yX6_run.desc).map (fun d => d.parameters.length) = some 2 := by decide +kernel
theorem hdS_X6_asNumber : yX6_asNumber.cls ≠ "java/lang/invoke/MethodHandle" ∧ yX6_asNumber.cls ≠ "java/lang/invoke/VarHandle" ∧ (parseMethodDescriptor yX6_asNumber.desc).map (fun d => d.parameters.length) = some 1 := by decide +kernel
theorem hdV_X6_canalOf : yX6_canalOf.cls = RX6 ∧ yX6_canalOf.cls ≠ "java/lang/invoke/MethodHandle" ∧ yX6_canalOf.cls ≠ "java/lang/invoke/VarHandle" ∧ (parseMethodDescriptor yX6_canalOf.desc).map (fun d => d.parameters.length) = some 2 := by decide +kernel
theorem hdV_X6_fieldOf : yX6_fieldOf.cls = RX6 ∧ yX6_fieldOf.cls ≠ "java/lang/invoke/MethodHandle" ∧ yX6_fieldOf.cls ≠ "java/lang/invoke/VarHandle" ∧ (parseMethodDescriptor yX6_fieldOf.desc).map (fun d => d.parameters.length) = some 2 := by decide +kernel
theorem hdV_X6_turnOf : yX6_turnOf.cls = RX6 ∧ yX6_turnOf.cls ≠ "java/lang/invoke/MethodHandle" ∧ yX6_turnOf.cls ≠ "java/lang/invoke/VarHandle" ∧ (parseMethodDescriptor yX6_turnOf.desc).map (fun d => d.parameters.length) = some 2 := by decide +kernel
theorem hdS_X6_floatBits : yX6_floatBits.cls ≠ "java/lang/invoke/MethodHandle" ∧ yX6_floatBits.cls ≠ "java/lang/invoke/VarHandle" ∧ (parseMethodDescriptor yX6_floatBits.desc).map (fun d => d.parameters.length) = some 2 := by decide +kernel
theorem hdV_X6_share : yX6_share.cls = RX6 ∧ yX6_share.cls ≠ "java/lang/invoke/MethodHandle" ∧ yX6_share.cls ≠ "java/lang/invoke/VarHandle" ∧ (parseMethodDescriptor yX6_share.desc).map (fun d => d.parameters.length) = some 1 := by decide +kernel
theorem hdV_X6_gain : yX6_gain.cls = RX6 ∧ yX6_gain.cls ≠ "java/lang/invoke/MethodHandle" ∧ yX6_gain.cls ≠ "java/lang/invoke/VarHandle" ∧ (parseMethodDescriptor yX6_gain.desc).map (fun d => d.parameters.length) = some 1 := by decide +kernel
theorem hdV_X6_would : yX6_would.cls = RX6 ∧ yX6_would.cls ≠ "java/lang/invoke/MethodHandle" ∧ yX6_would.cls ≠ "java/lang/invoke/VarHandle" ∧ (parseMethodDescriptor yX6_would.desc).map (fun d => d.parameters.length) = some 3 := by decide +kernel
theorem hdV_X6_wouldServe : yX6_wouldServe.cls = RX6 ∧ yX6_wouldServe.cls ≠ "java/lang/invoke/MethodHandle" ∧ yX6_wouldServe.cls ≠ "java/lang/invoke/VarHandle" ∧ (parseMethodDescriptor yX6_wouldServe.desc).map (fun d => d.parameters.length) = some 4 := by decide +kernel
theorem hdV_X6_leastGates : yX6_leastGates.cls = RX6 ∧ yX6_leastGates.cls ≠ "java/lang/invoke/MethodHandle" ∧ yX6_leastGates.cls ≠ "java/lang/invoke/VarHandle" ∧ (parseMethodDescriptor yX6_leastGates.desc).map (fun d => d.parameters.length) = some 3 := by decide +kernel
theorem hdV_X6_fewestBuckets : yX6_fewestBuckets.cls = RX6 ∧ yX6_fewestBuckets.cls ≠ "java/lang/invoke/MethodHandle" ∧ yX6_fewestBuckets.cls ≠ "java/lang/invoke/VarHandle" ∧ (parseMethodDescriptor yX6_fewestBuckets.desc).map (fun d => d.parameters.length) = some 1 := by decide +kernel
theorem hdV_X6_hoursFor : yX6_hoursFor.cls = RX6 ∧ yX6_hoursFor.cls ≠ "java/lang/invoke/MethodHandle" ∧ yX6_hoursFor.cls ≠ "java/lang/invoke/VarHandle" ∧ (parseMethodDescriptor yX6_hoursFor.desc).map (fun d => d.parameters.length) = some 1 := by decide +kernel
theorem hdV_X6_rightAt : yX6_rightAt.cls = RX6 ∧ yX6_rightAt.cls ≠ "java/lang/invoke/MethodHandle" ∧ yX6_rightAt.cls ≠ "java/lang/invoke/VarHandle" ∧ (parseMethodDescriptor yX6_rightAt.desc).map (fun d => d.parameters.length) = some 1 := by decide +kernel
theorem hdV_X6_count : yX6_count.cls = RX6 ∧ yX6_count.cls ≠ "java/lang/invoke/MethodHandle" ∧ yX6_count.cls ≠ "java/lang/invoke/VarHandle" ∧ (parseMethodDescriptor yX6_count.desc).map (fun d => d.parameters.length) = some 1 := by decide +kernel
theorem hdV_X6_undo : yX6_undo.cls = RX6 ∧ yX6_undo.cls ≠ "java/lang/invoke/MethodHandle" ∧ yX6_undo.cls ≠ "java/lang/invoke/VarHandle" ∧ (parseMethodDescriptor yX6_undo.desc).map (fun d => d.parameters.length) = some 0 := by decide +kernel
theorem hdV_X6_type : yX6_type.cls = RX6 ∧ yX6_type.cls ≠ "java/lang/invoke/MethodHandle" ∧ yX6_type.cls ≠ "java/lang/invoke/VarHandle" ∧ (parseMethodDescriptor yX6_type.desc).map (fun d => d.parameters.length) = some 1 := by decide +kernel
theorem hdV_X6_clearText : yX6_clearText.cls = RX6 ∧ yX6_clearText.cls ≠ "java/lang/invoke/MethodHandle" ∧ yX6_clearText.cls ≠ "java/lang/invoke/VarHandle" ∧ (parseMethodDescriptor yX6_clearText.desc).map (fun d => d.parameters.length) = some 0 := by decide +kernel
theorem hdV_X6_fault : yX6_fault.cls = RX6 ∧ yX6_fault.cls ≠ "java/lang/invoke/MethodHandle" ∧ yX6_fault.cls ≠ "java/lang/invoke/VarHandle" ∧ (parseMethodDescriptor yX6_fault.desc).map (fun d => d.parameters.length) = some 1 := by decide +kernel
theorem hdV_X6_play : yX6_play.cls = RX6 ∧ yX6_play.cls ≠ "java/lang/invoke/MethodHandle" ∧ yX6_play.cls ≠ "java/lang/invoke/VarHandle" ∧ (parseMethodDescriptor yX6_play.desc).map (fun d => d.parameters.length) = some 0 := by decide +kernel
theorem hdS_X7_in : yX7_in.cls ≠ "java/lang/invoke/MethodHandle" ∧ yX7_in.cls ≠ "java/lang/invoke/VarHandle" ∧ (parseMethodDescriptor yX7_in.desc).map (fun d => d.parameters.length) = some 3 := by decide +kernel
theorem hdV_X7_ca : yX7_ca.cls = RX7 ∧ yX7_ca.cls ≠ "java/lang/invoke/MethodHandle" ∧ yX7_ca.cls ≠ "java/lang/invoke/VarHandle" ∧ (parseMethodDescriptor yX7_ca.desc).map (fun d => d.parameters.length) = some 2 := by decide +kernel
theorem hdV_X7_fi : yX7_fi.cls = RX7 ∧ yX7_fi.cls ≠ "java/lang/invoke/MethodHandle" ∧ yX7_fi.cls ≠ "java/lang/invoke/VarHandle" ∧ (parseMethodDescriptor yX7_fi.desc).map (fun d => d.parameters.length) = some 2 := by decide +kernel
theorem hdV_X7_isCanal : yX7_isCanal.cls = RX7 ∧ yX7_isCanal.cls ≠ "java/lang/invoke/MethodHandle" ∧ yX7_isCanal.cls ≠ "java/lang/invoke/VarHandle" ∧ (parseMethodDescriptor yX7_isCanal.desc).map (fun d => d.parameters.length) = some 1 := by decide +kernel
theorem hdV_X7_isGate : yX7_isGate.cls = RX7 ∧ yX7_isGate.cls ≠ "java/lang/invoke/MethodHandle" ∧ yX7_isGate.cls ≠ "java/lang/invoke/VarHandle" ∧ (parseMethodDescriptor yX7_isGate.desc).map (fun d => d.parameters.length) = some 1 := by decide +kernel
theorem hdV_X7_isField : yX7_isField.cls = RX7 ∧ yX7_isField.cls ≠ "java/lang/invoke/MethodHandle" ∧ yX7_isField.cls ≠ "java/lang/invoke/VarHandle" ∧ (parseMethodDescriptor yX7_isField.desc).map (fun d => d.parameters.length) = some 1 := by decide +kernel
theorem hdV_X7_areGates : yX7_areGates.cls = RX7 ∧ yX7_areGates.cls ≠ "java/lang/invoke/MethodHandle" ∧ yX7_areGates.cls ≠ "java/lang/invoke/VarHandle" ∧ (parseMethodDescriptor yX7_areGates.desc).map (fun d => d.parameters.length) = some 1 := by decide +kernel
theorem hdV_X7_wants : yX7_wants.cls = RX7 ∧ yX7_wants.cls ≠ "java/lang/invoke/MethodHandle" ∧ yX7_wants.cls ≠ "java/lang/invoke/VarHandle" ∧ (parseMethodDescriptor yX7_wants.desc).map (fun d => d.parameters.length) = some 1 := by decide +kernel
theorem hdV_X7_keeps : yX7_keeps.cls = RX7 ∧ yX7_keeps.cls ≠ "java/lang/invoke/MethodHandle" ∧ yX7_keeps.cls ≠ "java/lang/invoke/VarHandle" ∧ (parseMethodDescriptor yX7_keeps.desc).map (fun d => d.parameters.length) = some 0 := by decide +kernel
theorem hdV_X7_acted : yX7_acted.cls = RX7 ∧ yX7_acted.cls ≠ "java/lang/invoke/MethodHandle" ∧ yX7_acted.cls ≠ "java/lang/invoke/VarHandle" ∧ (parseMethodDescriptor yX7_acted.desc).map (fun d => d.parameters.length) = some 1 := by decide +kernel
theorem hdV_X7_puts : yX7_puts.cls = RX7 ∧ yX7_puts.cls ≠ "java/lang/invoke/MethodHandle" ∧ yX7_puts.cls ≠ "java/lang/invoke/VarHandle" ∧ (parseMethodDescriptor yX7_puts.desc).map (fun d => d.parameters.length) = some 0 := by decide +kernel
theorem hdV_X7_restores : yX7_restores.cls = RX7 ∧ yX7_restores.cls ≠ "java/lang/invoke/MethodHandle" ∧ yX7_restores.cls ≠ "java/lang/invoke/VarHandle" ∧ (parseMethodDescriptor yX7_restores.desc).map (fun d => d.parameters.length) = some 0 := by decide +kernel
theorem hdV_X7_canal : yX7_canal.cls = RX7 ∧ yX7_canal.cls ≠ "java/lang/invoke/MethodHandle" ∧ yX7_canal.cls ≠ "java/lang/invoke/VarHandle" ∧ (parseMethodDescriptor yX7_canal.desc).map (fun d => d.parameters.length) = some 4 := by decide +kernel
theorem hdV_X7_field : yX7_field.cls = RX7 ∧ yX7_field.cls ≠ "java/lang/invoke/MethodHandle" ∧ yX7_field.cls ≠ "java/lang/invoke/VarHandle" ∧ (parseMethodDescriptor yX7_field.desc).map (fun d => d.parameters.length) = some 4 := by decide +kernel
theorem hdV_X7_tended : yX7_tended.cls = RX7 ∧ yX7_tended.cls ≠ "java/lang/invoke/MethodHandle" ∧ yX7_tended.cls ≠ "java/lang/invoke/VarHandle" ∧ (parseMethodDescriptor yX7_tended.desc).map (fun d => d.parameters.length) = some 1 := by decide +kernel
theorem hdV_X7_tend : yX7_tend.cls = RX7 ∧ yX7_tend.cls ≠ "java/lang/invoke/MethodHandle" ∧ yX7_tend.cls ≠ "java/lang/invoke/VarHandle" ∧ (parseMethodDescriptor yX7_tend.desc).map (fun d => d.parameters.length) = some 2 := by decide +kernel
theorem hdV_X7_leave : yX7_leave.cls = RX7 ∧ yX7_leave.cls ≠ "java/lang/invoke/MethodHandle" ∧ yX7_leave.cls ≠ "java/lang/invoke/VarHandle" ∧ (parseMethodDescriptor yX7_leave.desc).map (fun d => d.parameters.length) = some 1 := by decide +kernel
theorem hdV_X7_openOnes : yX7_openOnes.cls = RX7 ∧ yX7_openOnes.cls ≠ "java/lang/invoke/MethodHandle" ∧ yX7_openOnes.cls ≠ "java/lang/invoke/VarHandle" ∧ (parseMethodDescriptor yX7_openOnes.desc).map (fun d => d.parameters.length) = some 0 := by decide +kernel
theorem hdV_X7_sets : yX7_sets.cls = RX7 ∧ yX7_sets.cls ≠ "java/lang/invoke/MethodHandle" ∧ yX7_sets.cls ≠ "java/lang/invoke/VarHandle" ∧ (parseMethodDescriptor yX7_sets.desc).map (fun d => d.parameters.length) = some 1 := by decide +kernel
theorem hdV_X7_moves : yX7_moves.cls = RX7 ∧ yX7_moves.cls ≠ "java/lang/invoke/MethodHandle" ∧ yX7_moves.cls ≠ "java/lang/invoke/VarHandle" ∧ (parseMethodDescriptor yX7_moves.desc).map (fun d => d.parameters.length) = some 2 := by decide +kernel
theorem hdV_X7_open : yX7_open.cls = RX7 ∧ yX7_open.cls ≠ "java/lang/invoke/MethodHandle" ∧ yX7_open.cls ≠ "java/lang/invoke/VarHandle" ∧ (parseMethodDescriptor yX7_open.desc).map (fun d => d.parameters.length) = some 1 := by decide +kernel
theorem hdV_X7_close : yX7_close.cls = RX7 ∧ yX7_close.cls ≠ "java/lang/invoke/MethodHandle" ∧ yX7_close.cls ≠ "java/lang/invoke/VarHandle" ∧ (parseMethodDescriptor yX7_close.desc).map (fun d => d.parameters.length) = some 1 := by decide +kernel
theorem hdV_X7_calling : yX7_calling.cls = RX7 ∧ yX7_calling.cls ≠ "java/lang/invoke/MethodHandle" ∧ yX7_calling.cls ≠ "java/lang/invoke/VarHandle" ∧ (parseMethodDescriptor yX7_calling.desc).map (fun d => d.parameters.length) = some 0 := by decide +kernel
theorem hdS_X7_ones : yX7_ones.cls ≠ "java/lang/invoke/MethodHandle" ∧ yX7_ones.cls ≠ "java/lang/invoke/VarHandle" ∧ (parseMethodDescriptor yX7_ones.desc).map (fun d => d.parameters.length) = some 1 := by decide +kernel
theorem hdV_X7_calls : yX7_calls.cls = RX7 ∧ yX7_calls.cls ≠ "java/lang/invoke/MethodHandle" ∧ yX7_calls.cls ≠ "java/lang/invoke/VarHandle" ∧ (parseMethodDescriptor yX7_calls.desc).map (fun d => d.parameters.length) = some 1 := by decide +kernel
theorem hdV_X7_call : yX7_call.cls = RX7 ∧ yX7_call.cls ≠ "java/lang/invoke/MethodHandle" ∧ yX7_call.cls ≠ "java/lang/invoke/VarHandle" ∧ (parseMethodDescriptor yX7_call.desc).map (fun d => d.parameters.length) = some 1 := by decide +kernel
theorem hdV_X7_turn : yX7_turn.cls = RX7 ∧ yX7_turn.cls ≠ "java/lang/invoke/MethodHandle" ∧ yX7_turn.cls ≠ "java/lang/invoke/VarHandle" ∧ (parseMethodDescriptor yX7_turn.desc).map (fun d => d.parameters.length) = some 2 := by decide +kernel
theorem hdV_X7_noTurns : yX7_noTurns.cls = RX7 ∧ yX7_noTurns.cls ≠ "java/lang/invoke/MethodHandle" ∧ yX7_noTurns.cls ≠ "java/lang/invoke/VarHandle" ∧ (parseMethodDescriptor yX7_noTurns.desc).map (fun d => d.parameters.length) = some 0 := by decide +kernel
theorem hdV_X7_isBelow : yX7_isBelow.cls = RX7 ∧ yX7_isBelow.cls ≠ "java/lang/invoke/MethodHandle" ∧ yX7_isBelow.cls ≠ "java/lang/invoke/VarHandle" ∧ (parseMethodDescriptor yX7_isBelow.desc).map (fun d => d.parameters.length) = some 3 := by decide +kernel
theorem hdV_X7_mayTake : yX7_mayTake.cls = RX7 ∧ yX7_mayTake.cls ≠ "java/lang/invoke/MethodHandle" ∧ yX7_mayTake.cls ≠ "java/lang/invoke/VarHandle" ∧ (parseMethodDescriptor yX7_mayTake.desc).map (fun d => d.parameters.length) = some 1 := by decide +kernel
theorem hdV_X7_isWanted : yX7_isWanted.cls = RX7 ∧ yX7_isWanted.cls ≠ "java/lang/invoke/MethodHandle" ∧ yX7_isWanted.cls ≠ "java/lang/invoke/VarHandle" ∧ (parseMethodDescriptor yX7_isWanted.desc).map (fun d => d.parameters.length) = some 1 := by decide +kernel
theorem hdV_X7_next : yX7_next.cls = RX7 ∧ yX7_next.cls ≠ "java/lang/invoke/MethodHandle" ∧ yX7_next.cls ≠ "java/lang/invoke/VarHandle" ∧ (parseMethodDescriptor yX7_next.desc).map (fun d => d.parameters.length) = some 1 := by decide +kernel
theorem hdV_X7_serves : yX7_serves.cls = RX7 ∧ yX7_serves.cls ≠ "java/lang/invoke/MethodHandle" ∧ yX7_serves.cls ≠ "java/lang/invoke/VarHandle" ∧ (parseMethodDescriptor yX7_serves.desc).map (fun d => d.parameters.length) = some 2 := by decide +kernel
theorem hdV_X7_lets : yX7_lets.cls = RX7 ∧ yX7_lets.cls ≠ "java/lang/invoke/MethodHandle" ∧ yX7_lets.cls ≠ "java/lang/invoke/VarHandle" ∧ (parseMethodDescriptor yX7_lets.desc).map (fun d => d.parameters.length) = some 2 := by decide +kernel
theorem hdV_X7_parts : yX7_parts.cls = RX7 ∧ yX7_parts.cls ≠ "java/lang/invoke/MethodHandle" ∧ yX7_parts.cls ≠ "java/lang/invoke/VarHandle" ∧ (parseMethodDescriptor yX7_parts.desc).map (fun d => d.parameters.length) = some 2 := by decide +kernel
theorem hdV_X7_flows : yX7_flows.cls = RX7 ∧ yX7_flows.cls ≠ "java/lang/invoke/MethodHandle" ∧ yX7_flows.cls ≠ "java/lang/invoke/VarHandle" ∧ (parseMethodDescriptor yX7_flows.desc).map (fun d => d.parameters.length) = some 1 := by decide +kernel
theorem hdV_X7_goes : yX7_goes.cls = RX7 ∧ yX7_goes.cls ≠ "java/lang/invoke/MethodHandle" ∧ yX7_goes.cls ≠ "java/lang/invoke/VarHandle" ∧ (parseMethodDescriptor yX7_goes.desc).map (fun d => d.parameters.length) = some 1 := by decide +kernel
theorem hdV_X7_hour : yX7_hour.cls = RX7 ∧ yX7_hour.cls ≠ "java/lang/invoke/MethodHandle" ∧ yX7_hour.cls ≠ "java/lang/invoke/VarHandle" ∧ (parseMethodDescriptor yX7_hour.desc).map (fun d => d.parameters.length) = some 1 := by decide +kernel
theorem hdV_X7_runsOne : yX7_runsOne.cls = RX7 ∧ yX7_runsOne.cls ≠ "java/lang/invoke/MethodHandle" ∧ yX7_runsOne.cls ≠ "java/lang/invoke/VarHandle" ∧ (parseMethodDescriptor yX7_runsOne.desc).map (fun d => d.parameters.length) = some 1 := by decide +kernel
theorem hdV_X7_runs : yX7_runs.cls = RX7 ∧ yX7_runs.cls ≠ "java/lang/invoke/MethodHandle" ∧ yX7_runs.cls ≠ "java/lang/invoke/VarHandle" ∧ (parseMethodDescriptor yX7_runs.desc).map (fun d => d.parameters.length) = some 3 := by decide +kernel
theorem hdV_X7_run : yX7_run.cls = RX7 ∧ yX7_run.cls ≠ "java/lang/invoke/MethodHandle" ∧ yX7_run.cls ≠ "java/lang/invoke/VarHandle" ∧ (parseMethodDescriptor yX7_run.desc).map (fun d => d.parameters.length) = some 2 := by decide +kernel
theorem hdV_X7_below : yX7_below.cls = RX7 ∧ yX7_below.cls ≠ "java/lang/invoke/MethodHandle" ∧ yX7_below.cls ≠ "java/lang/invoke/VarHandle" ∧ (parseMethodDescriptor yX7_below.desc).map (fun d => d.parameters.length) = some 1 := by decide +kernel
theorem hdV_X7_canalOf : yX7_canalOf.cls = RX7 ∧ yX7_canalOf.cls ≠ "java/lang/invoke/MethodHandle" ∧ yX7_canalOf.cls ≠ "java/lang/invoke/VarHandle" ∧ (parseMethodDescriptor yX7_canalOf.desc).map (fun d => d.parameters.length) = some 2 := by decide +kernel
theorem hdV_X7_fieldOf : yX7_fieldOf.cls = RX7 ∧ yX7_fieldOf.cls ≠ "java/lang/invoke/MethodHandle" ∧ yX7_fieldOf.cls ≠ "java/lang/invoke/VarHandle" ∧ (parseMethodDescriptor yX7_fieldOf.desc).map (fun d => d.parameters.length) = some 2 := by decide +kernel
theorem hdV_X7_turnOf : yX7_turnOf.cls = RX7 ∧ yX7_turnOf.cls ≠ "java/lang/invoke/MethodHandle" ∧ yX7_turnOf.cls ≠ "java/lang/invoke/VarHandle" ∧ (parseMethodDescriptor yX7_turnOf.desc).map (fun d => d.parameters.length) = some 2 := by decide +kernel
theorem hdS_Jxf58ca_isNaN_12338 : yJxf58ca_isNaN_12338.cls ≠ "java/lang/invoke/MethodHandle" ∧ yJxf58ca_isNaN_12338.cls ≠ "java/lang/invoke/VarHandle" ∧ (parseMethodDescriptor yJxf58ca_isNaN_12338.desc).map (fun d => d.parameters.length) = some 1 := by decide +kernel
theorem hdS_Jxf58ca_floatToIntBits_5c35a : yJxf58ca_floatToIntBits_5c35a.cls ≠ "java/lang/invoke/MethodHandle" ∧ yJxf58ca_floatToIntBits_5c35a.cls ≠ "java/lang/invoke/VarHandle" ∧ (parseMethodDescriptor yJxf58ca_floatToIntBits_5c35a.desc).map (fun d => d.parameters.length) = some 1 := by decide +kernel
theorem hdV_X7_share : yX7_share.cls = RX7 ∧ yX7_share.cls ≠ "java/lang/invoke/MethodHandle" ∧ yX7_share.cls ≠ "java/lang/invoke/VarHandle" ∧ (parseMethodDescriptor yX7_share.desc).map (fun d => d.parameters.length) = some 1 := by decide +kernel
theorem hdV_X7_would : yX7_would.cls = RX7 ∧ yX7_would.cls ≠ "java/lang/invoke/MethodHandle" ∧ yX7_would.cls ≠ "java/lang/invoke/VarHandle" ∧ (parseMethodDescriptor yX7_would.desc).map (fun d => d.parameters.length) = some 3 := by decide +kernel
theorem hdV_X7_haveGot : yX7_haveGot.cls = RX7 ∧ yX7_haveGot.cls ≠ "java/lang/invoke/MethodHandle" ∧ yX7_haveGot.cls ≠ "java/lang/invoke/VarHandle" ∧ (parseMethodDescriptor yX7_haveGot.desc).map (fun d => d.parameters.length) = some 1 := by decide +kernel
theorem hdV_X7_leastGates : yX7_leastGates.cls = RX7 ∧ yX7_leastGates.cls ≠ "java/lang/invoke/MethodHandle" ∧ yX7_leastGates.cls ≠ "java/lang/invoke/VarHandle" ∧ (parseMethodDescriptor yX7_leastGates.desc).map (fun d => d.parameters.length) = some 3 := by decide +kernel
theorem hdV_X7_fewestBuckets : yX7_fewestBuckets.cls = RX7 ∧ yX7_fewestBuckets.cls ≠ "java/lang/invoke/MethodHandle" ∧ yX7_fewestBuckets.cls ≠ "java/lang/invoke/VarHandle" ∧ (parseMethodDescriptor yX7_fewestBuckets.desc).map (fun d => d.parameters.length) = some 1 := by decide +kernel
theorem hdV_X7_hoursFor : yX7_hoursFor.cls = RX7 ∧ yX7_hoursFor.cls ≠ "java/lang/invoke/MethodHandle" ∧ yX7_hoursFor.cls ≠ "java/lang/invoke/VarHandle" ∧ (parseMethodDescriptor yX7_hoursFor.desc).map (fun d => d.parameters.length) = some 1 := by decide +kernel
theorem hdV_X7_rightAt : yX7_rightAt.cls = RX7 ∧ yX7_rightAt.cls ≠ "java/lang/invoke/MethodHandle" ∧ yX7_rightAt.cls ≠ "java/lang/invoke/VarHandle" ∧ (parseMethodDescriptor yX7_rightAt.desc).map (fun d => d.parameters.length) = some 1 := by decide +kernel
theorem hdV_X7_tendedOnes : yX7_tendedOnes.cls = RX7 ∧ yX7_tendedOnes.cls ≠ "java/lang/invoke/MethodHandle" ∧ yX7_tendedOnes.cls ≠ "java/lang/invoke/VarHandle" ∧ (parseMethodDescriptor yX7_tendedOnes.desc).map (fun d => d.parameters.length) = some 0 := by decide +kernel
theorem hdV_X7_wanting : yX7_wanting.cls = RX7 ∧ yX7_wanting.cls ≠ "java/lang/invoke/MethodHandle" ∧ yX7_wanting.cls ≠ "java/lang/invoke/VarHandle" ∧ (parseMethodDescriptor yX7_wanting.desc).map (fun d => d.parameters.length) = some 0 := by decide +kernel
theorem hdV_X7_count : yX7_count.cls = RX7 ∧ yX7_count.cls ≠ "java/lang/invoke/MethodHandle" ∧ yX7_count.cls ≠ "java/lang/invoke/VarHandle" ∧ (parseMethodDescriptor yX7_count.desc).map (fun d => d.parameters.length) = some 1 := by decide +kernel
theorem hdV_X7_undo : yX7_undo.cls = RX7 ∧ yX7_undo.cls ≠ "java/lang/invoke/MethodHandle" ∧ yX7_undo.cls ≠ "java/lang/invoke/VarHandle" ∧ (parseMethodDescriptor yX7_undo.desc).map (fun d => d.parameters.length) = some 0 := by decide +kernel
theorem hdV_X7_type : yX7_type.cls = RX7 ∧ yX7_type.cls ≠ "java/lang/invoke/MethodHandle" ∧ yX7_type.cls ≠ "java/lang/invoke/VarHandle" ∧ (parseMethodDescriptor yX7_type.desc).map (fun d => d.parameters.length) = some 1 := by decide +kernel
theorem hdV_X7_clearText : yX7_clearText.cls = RX7 ∧ yX7_clearText.cls ≠ "java/lang/invoke/MethodHandle" ∧ yX7_clearText.cls ≠ "java/lang/invoke/VarHandle" ∧ (parseMethodDescriptor yX7_clearText.desc).map (fun d => d.parameters.length) = some 0 := by decide +kernel
theorem hdV_X7_sign : yX7_sign.cls = RX7 ∧ yX7_sign.cls ≠ "java/lang/invoke/MethodHandle" ∧ yX7_sign.cls ≠ "java/lang/invoke/VarHandle" ∧ (parseMethodDescriptor yX7_sign.desc).map (fun d => d.parameters.length) = some 0 := by decide +kernel
theorem hdV_X7_readsNumber : yX7_readsNumber.cls = RX7 ∧ yX7_readsNumber.cls ≠ "java/lang/invoke/MethodHandle" ∧ yX7_readsNumber.cls ≠ "java/lang/invoke/VarHandle" ∧ (parseMethodDescriptor yX7_readsNumber.desc).map (fun d => d.parameters.length) = some 0 := by decide +kernel
theorem hdV_X7_readsForm : yX7_readsForm.cls = RX7 ∧ yX7_readsForm.cls ≠ "java/lang/invoke/MethodHandle" ∧ yX7_readsForm.cls ≠ "java/lang/invoke/VarHandle" ∧ (parseMethodDescriptor yX7_readsForm.desc).map (fun d => d.parameters.length) = some 0 := by decide +kernel
theorem hdV_X7_isInRange : yX7_isInRange.cls = RX7 ∧ yX7_isInRange.cls ≠ "java/lang/invoke/MethodHandle" ∧ yX7_isInRange.cls ≠ "java/lang/invoke/VarHandle" ∧ (parseMethodDescriptor yX7_isInRange.desc).map (fun d => d.parameters.length) = some 1 := by decide +kernel
theorem hdV_X7_does : yX7_does.cls = RX7 ∧ yX7_does.cls ≠ "java/lang/invoke/MethodHandle" ∧ yX7_does.cls ≠ "java/lang/invoke/VarHandle" ∧ (parseMethodDescriptor yX7_does.desc).map (fun d => d.parameters.length) = some 1 := by decide +kernel
theorem hdV_X7_doesNext : yX7_doesNext.cls = RX7 ∧ yX7_doesNext.cls ≠ "java/lang/invoke/MethodHandle" ∧ yX7_doesNext.cls ≠ "java/lang/invoke/VarHandle" ∧ (parseMethodDescriptor yX7_doesNext.desc).map (fun d => d.parameters.length) = some 0 := by decide +kernel
theorem hdV_X7_faulty : yX7_faulty.cls = RX7 ∧ yX7_faulty.cls ≠ "java/lang/invoke/MethodHandle" ∧ yX7_faulty.cls ≠ "java/lang/invoke/VarHandle" ∧ (parseMethodDescriptor yX7_faulty.desc).map (fun d => d.parameters.length) = some 0 := by decide +kernel
theorem hdV_X7_fault : yX7_fault.cls = RX7 ∧ yX7_fault.cls ≠ "java/lang/invoke/MethodHandle" ∧ yX7_fault.cls ≠ "java/lang/invoke/VarHandle" ∧ (parseMethodDescriptor yX7_fault.desc).map (fun d => d.parameters.length) = some 1 := by decide +kernel
theorem hdV_X7_play : yX7_play.cls = RX7 ∧ yX7_play.cls ≠ "java/lang/invoke/MethodHandle" ∧ yX7_play.cls ≠ "java/lang/invoke/VarHandle" ∧ (parseMethodDescriptor yX7_play.desc).map (fun d => d.parameters.length) = some 0 := by decide +kernel
