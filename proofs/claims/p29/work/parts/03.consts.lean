/-! constants, fields, places: printed by gen.py -/
theorem k_bipush_m2 : (Int8.ofInt (-2)).toInt32 = (-2 : Int32) := by decide
theorem k_bipush_6 : (Int8.ofInt 6).toInt32 = (6 : Int32) := by decide
theorem k_bipush_7 : (Int8.ofInt 7).toInt32 = (7 : Int32) := by decide
theorem k_bipush_8 : (Int8.ofInt 8).toInt32 = (8 : Int32) := by decide
theorem k_bipush_9 : (Int8.ofInt 9).toInt32 = (9 : Int32) := by decide
theorem k_bipush_10 : (Int8.ofInt 10).toInt32 = (10 : Int32) := by decide
theorem k_bipush_12 : (Int8.ofInt 12).toInt32 = (12 : Int32) := by decide
theorem k_bipush_13 : (Int8.ofInt 13).toInt32 = (13 : Int32) := by decide
theorem k_bipush_16 : (Int8.ofInt 16).toInt32 = (16 : Int32) := by decide
theorem k_bipush_20 : (Int8.ofInt 20).toInt32 = (20 : Int32) := by decide
theorem k_bipush_23 : (Int8.ofInt 23).toInt32 = (23 : Int32) := by decide
theorem k_bipush_30 : (Int8.ofInt 30).toInt32 = (30 : Int32) := by decide
theorem k_bipush_32 : (Int8.ofInt 32).toInt32 = (32 : Int32) := by decide
theorem k_bipush_40 : (Int8.ofInt 40).toInt32 = (40 : Int32) := by decide
theorem k_bipush_46 : (Int8.ofInt 46).toInt32 = (46 : Int32) := by decide
theorem k_bipush_50 : (Int8.ofInt 50).toInt32 = (50 : Int32) := by decide
theorem k_bipush_60 : (Int8.ofInt 60).toInt32 = (60 : Int32) := by decide
theorem k_bipush_63 : (Int8.ofInt 63).toInt32 = (63 : Int32) := by decide
theorem k_bipush_80 : (Int8.ofInt 80).toInt32 = (80 : Int32) := by decide
theorem k_bipush_90 : (Int8.ofInt 90).toInt32 = (90 : Int32) := by decide
theorem k_bipush_99 : (Int8.ofInt 99).toInt32 = (99 : Int32) := by decide
theorem k_bipush_100 : (Int8.ofInt 100).toInt32 = (100 : Int32) := by decide
theorem k_bipush_120 : (Int8.ofInt 120).toInt32 = (120 : Int32) := by decide
theorem k_iconst_m1 : Int32.ofInt (-1) = (-1 : Int32) := by decide
theorem k_iconst_0 : Int32.ofInt 0 = (0 : Int32) := by decide
theorem k_iconst_1 : Int32.ofInt 1 = (1 : Int32) := by decide
theorem k_iconst_2 : Int32.ofInt 2 = (2 : Int32) := by decide
theorem k_iconst_3 : Int32.ofInt 3 = (3 : Int32) := by decide
theorem k_iconst_4 : Int32.ofInt 4 = (4 : Int32) := by decide
theorem k_iconst_5 : Int32.ofInt 5 = (5 : Int32) := by decide
theorem k_sipush_150 : (Int16.ofInt 150).toInt32 = (150 : Int32) := by decide
theorem k_sipush_200 : (Int16.ofInt 200).toInt32 = (200 : Int32) := by decide
theorem k_sipush_250 : (Int16.ofInt 250).toInt32 = (250 : Int32) := by decide
theorem k_sipush_256 : (Int16.ofInt 256).toInt32 = (256 : Int32) := by decide
theorem k_sipush_300 : (Int16.ofInt 300).toInt32 = (300 : Int32) := by decide
theorem k_sipush_500 : (Int16.ofInt 500).toInt32 = (500 : Int32) := by decide
theorem k_sipush_999 : (Int16.ofInt 999).toInt32 = (999 : Int32) := by decide
theorem k_sipush_1000 : (Int16.ofInt 1000).toInt32 = (1000 : Int32) := by decide
theorem k_sipush_2048 : (Int16.ofInt 2048).toInt32 = (2048 : Int32) := by decide
theorem k_sipush_4096 : (Int16.ofInt 4096).toInt32 = (4096 : Int32) := by decide
theorem k_sipush_8192 : (Int16.ofInt 8192).toInt32 = (8192 : Int32) := by decide
theorem k_sipush_20000 : (Int16.ofInt 20000).toInt32 = (20000 : Int32) := by decide
theorem ix_0 : ix (0 : Int32) = 0 := by decide
theorem ix_1 : ix (1 : Int32) = 1 := by decide
theorem ix_2 : ix (2 : Int32) = 2 := by decide
theorem ix_3 : ix (3 : Int32) = 3 := by decide
theorem ix_4 : ix (4 : Int32) = 4 := by decide
theorem ix_5 : ix (5 : Int32) = 5 := by decide
theorem ix_6 : ix (6 : Int32) = 6 := by decide
theorem ix_7 : ix (7 : Int32) = 7 := by decide
theorem ix_8 : ix (8 : Int32) = 8 := by decide
theorem ix_10 : ix (10 : Int32) = 10 := by decide
theorem vi_0_4 : vp_in (0 : Int32) 4 := vp_in_nI (n := 0) (by omega) (by omega)
theorem vi_0_8 : vp_in (0 : Int32) 8 := vp_in_nI (n := 0) (by omega) (by omega)
theorem vi_1_4 : vp_in (1 : Int32) 4 := vp_in_nI (n := 1) (by omega) (by omega)
theorem vi_1_8 : vp_in (1 : Int32) 8 := vp_in_nI (n := 1) (by omega) (by omega)
theorem vi_2_4 : vp_in (2 : Int32) 4 := vp_in_nI (n := 2) (by omega) (by omega)
theorem vi_2_8 : vp_in (2 : Int32) 8 := vp_in_nI (n := 2) (by omega) (by omega)
theorem vi_3_4 : vp_in (3 : Int32) 4 := vp_in_nI (n := 3) (by omega) (by omega)
theorem vi_3_8 : vp_in (3 : Int32) 8 := vp_in_nI (n := 3) (by omega) (by omega)
theorem vi_4_8 : vp_in (4 : Int32) 8 := vp_in_nI (n := 4) (by omega) (by omega)
theorem vi_5_8 : vp_in (5 : Int32) 8 := vp_in_nI (n := 5) (by omega) (by omega)
theorem vi_6_8 : vp_in (6 : Int32) 8 := vp_in_nI (n := 6) (by omega) (by omega)
theorem vi_7_8 : vp_in (7 : Int32) 8 := vp_in_nI (n := 7) (by omega) (by omega)
theorem cl_0 : vwCl[0]? = some (RX0, TX0, 10) := rfl
theorem cl_1 : vwCl[1]? = some (RX1, TX1, 9) := rfl
theorem cl_2 : vwCl[2]? = some (RX2, TX2, 2) := rfl
theorem cl_3 : vwCl[3]? = some (RX3, TX3, 9) := rfl
theorem cl_4 : vwCl[4]? = some (RX4, TX4, 11) := rfl
theorem cl_5 : vwCl[5]? = some (RX5, TX5, 5) := rfl
theorem cl_6 : vwCl[6]? = some (RX6, TX6, 4) := rfl
theorem ac_8 : rI 8 = true ∧ rn 8 = 8 := by decide
theorem ac_9 : rI 9 = true ∧ rn 9 = 10 := by decide
theorem ac_10 : rI 10 = true ∧ rn 10 = 60 := by decide
theorem fq_0_0 : (0 < 10 ∧ 0 < nF 0 ∧ 0 < 8) ∧ fo 0 0 = 0 := by decide
theorem fq_0_1 : (1 < 10 ∧ 1 < nF 0 ∧ 0 < 8) ∧ fo 0 1 = 0 := by decide
theorem fq_0_2 : (2 < 10 ∧ 2 < nF 0 ∧ 0 < 8) ∧ fo 0 2 = 1 ∧ 1 ≠ 0 := by decide
theorem fq_0_3 : (3 < 10 ∧ 3 < nF 0 ∧ 0 < 8) ∧ fo 0 3 = 2 ∧ 2 ≠ 0 := by decide
theorem fq_0_4 : (4 < 10 ∧ 4 < nF 0 ∧ 0 < 8) ∧ fo 0 4 = 3 ∧ 3 ≠ 0 := by decide
theorem fq_0_5 : (5 < 10 ∧ 5 < nF 0 ∧ 0 < 8) ∧ fo 0 5 = 4 ∧ 4 ≠ 0 := by decide
theorem fq_0_6 : (6 < 10 ∧ 6 < nF 0 ∧ 0 < 8) ∧ fo 0 6 = 5 ∧ 5 ≠ 0 := by decide
theorem fq_0_7 : (7 < 10 ∧ 7 < nF 0 ∧ 0 < 8) ∧ fo 0 7 = 6 ∧ 6 ≠ 0 := by decide
theorem fq_0_8 : (8 < 10 ∧ 8 < nF 0 ∧ 0 < 8) ∧ fo 0 8 = 7 ∧ 7 ≠ 0 := by decide
theorem fq_0_9 : (9 < 10 ∧ 9 < nF 0 ∧ 0 < 8) ∧ fo 0 9 = 8 ∧ 8 ≠ 0 := by decide
theorem fq_1_0 : (0 < 9 ∧ 0 < nF 1 ∧ 1 < 8) ∧ fo 1 0 = 0 := by decide
theorem fq_1_1 : (1 < 9 ∧ 1 < nF 1 ∧ 1 < 8) ∧ fo 1 1 = 0 := by decide
theorem fq_1_2 : (2 < 9 ∧ 2 < nF 1 ∧ 1 < 8) ∧ fo 1 2 = 1 ∧ 1 ≠ 0 := by decide
theorem fq_1_3 : (3 < 9 ∧ 3 < nF 1 ∧ 1 < 8) ∧ fo 1 3 = 2 ∧ 2 ≠ 0 := by decide
theorem fq_1_4 : (4 < 9 ∧ 4 < nF 1 ∧ 1 < 8) ∧ fo 1 4 = 3 ∧ 3 ≠ 0 := by decide
theorem fq_1_5 : (5 < 9 ∧ 5 < nF 1 ∧ 1 < 8) ∧ fo 1 5 = 4 ∧ 4 ≠ 0 := by decide
theorem fq_1_6 : (6 < 9 ∧ 6 < nF 1 ∧ 1 < 8) ∧ fo 1 6 = 5 ∧ 5 ≠ 0 := by decide
theorem fq_1_7 : (7 < 9 ∧ 7 < nF 1 ∧ 1 < 8) ∧ fo 1 7 = 6 ∧ 6 ≠ 0 := by decide
theorem fq_1_8 : (8 < 9 ∧ 8 < nF 1 ∧ 1 < 8) ∧ fo 1 8 = 7 ∧ 7 ≠ 0 := by decide
theorem fq_2_0 : (0 < 2 ∧ 0 < nF 2 ∧ 2 < 8) ∧ fo 2 0 = 0 := by decide
theorem fq_2_1 : (1 < 2 ∧ 1 < nF 2 ∧ 2 < 8) ∧ fo 2 1 = 1 ∧ 1 ≠ 0 := by decide
theorem fq_3_0 : (0 < 9 ∧ 0 < nF 3 ∧ 3 < 8) ∧ fo 3 0 = 0 := by decide
theorem fq_3_1 : (1 < 9 ∧ 1 < nF 3 ∧ 3 < 8) ∧ fo 3 1 = 1 ∧ 1 ≠ 0 := by decide
theorem fq_4_0 : (0 < 11 ∧ 0 < nF 4 ∧ 4 < 8) ∧ fo 4 0 = 1 ∧ 1 ≠ 0 := by decide
theorem fq_4_1 : (1 < 11 ∧ 1 < nF 4 ∧ 4 < 8) ∧ fo 4 1 = 10 ∧ 10 ≠ 0 := by decide
theorem fq_4_2 : (2 < 11 ∧ 2 < nF 4 ∧ 4 < 8) ∧ fo 4 2 = 18 ∧ 18 ≠ 0 := by decide
theorem fq_4_3 : (3 < 11 ∧ 3 < nF 4 ∧ 4 < 8) ∧ fo 4 3 = 0 := by decide
theorem fq_4_4 : (4 < 11 ∧ 4 < nF 4 ∧ 4 < 8) ∧ fo 4 4 = 0 := by decide
theorem fq_4_5 : (5 < 11 ∧ 5 < nF 4 ∧ 4 < 8) ∧ fo 4 5 = 0 := by decide
theorem fq_4_6 : (6 < 11 ∧ 6 < nF 4 ∧ 4 < 8) ∧ fo 4 6 = 0 := by decide
theorem fq_4_7 : (7 < 11 ∧ 7 < nF 4 ∧ 4 < 8) ∧ fo 4 7 = 0 := by decide
theorem fq_4_8 : (8 < 11 ∧ 8 < nF 4 ∧ 4 < 8) ∧ fo 4 8 = 21 ∧ 21 ≠ 0 := by decide
theorem fq_4_9 : (9 < 11 ∧ 9 < nF 4 ∧ 4 < 8) ∧ fo 4 9 = 22 ∧ 22 ≠ 0 := by decide
theorem fq_4_10 : (10 < 11 ∧ 10 < nF 4 ∧ 4 < 8) ∧ fo 4 10 = 0 := by decide
theorem fq_5_0 : (0 < 5 ∧ 0 < nF 5 ∧ 5 < 8) ∧ fo 5 0 = 0 := by decide
theorem fq_5_1 : (1 < 5 ∧ 1 < nF 5 ∧ 5 < 8) ∧ fo 5 1 = 0 := by decide
theorem fq_5_2 : (2 < 5 ∧ 2 < nF 5 ∧ 5 < 8) ∧ fo 5 2 = 0 := by decide
theorem fq_5_3 : (3 < 5 ∧ 3 < nF 5 ∧ 5 < 8) ∧ fo 5 3 = 1 ∧ 1 ≠ 0 := by decide
theorem fq_5_4 : (4 < 5 ∧ 4 < nF 5 ∧ 5 < 8) ∧ fo 5 4 = 2 ∧ 2 ≠ 0 := by decide
theorem fq_6_0 : (0 < 4 ∧ 0 < nF 6 ∧ 6 < 8) ∧ fo 6 0 = 1 ∧ 1 ≠ 0 := by decide
theorem fq_6_1 : (1 < 4 ∧ 1 < nF 6 ∧ 6 < 8) ∧ fo 6 1 = 24 ∧ 24 ≠ 0 := by decide
theorem fq_6_2 : (2 < 4 ∧ 2 < nF 6 ∧ 6 < 8) ∧ fo 6 2 = 47 ∧ 47 ≠ 0 := by decide
theorem fq_6_3 : (3 < 4 ∧ 3 < nF 6 ∧ 6 < 8) ∧ fo 6 3 = 141 ∧ 141 ≠ 0 := by decide
theorem ky_0_2 {j : Nat} (hk : kd j = 0) : kd (j + 1) = 8 := ky_of (by decide) (by decide +kernel) hk
theorem ky_0_3 {j : Nat} (hk : kd j = 0) : kd (j + 2) = 8 := ky_of (by decide) (by decide +kernel) hk
theorem ky_0_4 {j : Nat} (hk : kd j = 0) : kd (j + 3) = 8 := ky_of (by decide) (by decide +kernel) hk
theorem ky_0_5 {j : Nat} (hk : kd j = 0) : kd (j + 4) = 8 := ky_of (by decide) (by decide +kernel) hk
theorem ky_0_6 {j : Nat} (hk : kd j = 0) : kd (j + 5) = 8 := ky_of (by decide) (by decide +kernel) hk
theorem ky_0_7 {j : Nat} (hk : kd j = 0) : kd (j + 6) = 8 := ky_of (by decide) (by decide +kernel) hk
theorem ky_0_8 {j : Nat} (hk : kd j = 0) : kd (j + 7) = 8 := ky_of (by decide) (by decide +kernel) hk
theorem ky_0_9 {j : Nat} (hk : kd j = 0) : kd (j + 8) = 8 := ky_of (by decide) (by decide +kernel) hk
theorem ky_1_2 {j : Nat} (hk : kd j = 1) : kd (j + 1) = 9 := ky_of (by decide) (by decide +kernel) hk
theorem ky_1_3 {j : Nat} (hk : kd j = 1) : kd (j + 2) = 9 := ky_of (by decide) (by decide +kernel) hk
theorem ky_1_4 {j : Nat} (hk : kd j = 1) : kd (j + 3) = 9 := ky_of (by decide) (by decide +kernel) hk
theorem ky_1_5 {j : Nat} (hk : kd j = 1) : kd (j + 4) = 9 := ky_of (by decide) (by decide +kernel) hk
theorem ky_1_6 {j : Nat} (hk : kd j = 1) : kd (j + 5) = 9 := ky_of (by decide) (by decide +kernel) hk
theorem ky_1_7 {j : Nat} (hk : kd j = 1) : kd (j + 6) = 9 := ky_of (by decide) (by decide +kernel) hk
theorem ky_1_8 {j : Nat} (hk : kd j = 1) : kd (j + 7) = 9 := ky_of (by decide) (by decide +kernel) hk
theorem ky_2_1 {j : Nat} (hk : kd j = 2) : kd (j + 1) = 11 := ky_of (by decide) (by decide +kernel) hk
theorem ky_3_1 {j : Nat} (hk : kd j = 3) : kd (j + 1) = 10 := ky_of (by decide) (by decide +kernel) hk
theorem ky_4_0 {j : Nat} (hk : kd j = 4) : kd (j + 1) = 0 := ky_of (by decide) (by decide +kernel) hk
theorem ky_4_1 {j : Nat} (hk : kd j = 4) : kd (j + 10) = 1 := ky_of (by decide) (by decide +kernel) hk
theorem ky_4_2 {j : Nat} (hk : kd j = 4) : kd (j + 18) = 5 := ky_of (by decide) (by decide +kernel) hk
theorem ky_4_8 {j : Nat} (hk : kd j = 4) : kd (j + 21) = 8 := ky_of (by decide) (by decide +kernel) hk
theorem ky_4_9 {j : Nat} (hk : kd j = 4) : kd (j + 22) = 8 := ky_of (by decide) (by decide +kernel) hk
theorem ky_5_3 {j : Nat} (hk : kd j = 5) : kd (j + 1) = 8 := ky_of (by decide) (by decide +kernel) hk
theorem ky_5_4 {j : Nat} (hk : kd j = 5) : kd (j + 2) = 8 := ky_of (by decide) (by decide +kernel) hk
theorem ky_6_0 {j : Nat} (hk : kd j = 6) : kd (j + 1) = 4 := ky_of (by decide) (by decide +kernel) hk
theorem ky_6_1 {j : Nat} (hk : kd j = 6) : kd (j + 24) = 4 := ky_of (by decide) (by decide +kernel) hk
theorem ky_6_2 {j : Nat} (hk : kd j = 6) : kd (j + 47) = 2 := ky_of (by decide) (by decide +kernel) hk
theorem ky_6_3 {j : Nat} (hk : kd j = 6) : kd (j + 141) = 3 := ky_of (by decide) (by decide +kernel) hk
theorem ky_7_0 {j : Nat} (hk : kd j = 7) : kd (j + 1) = 12 := ky_of (by decide) (by decide +kernel) hk
theorem ky_7_1 {j : Nat} (hk : kd j = 7) : kd (j + 2) = 13 := ky_of (by decide) (by decide +kernel) hk
theorem ky_7_2 {j : Nat} (hk : kd j = 7) : kd (j + 3) = 12 := ky_of (by decide) (by decide +kernel) hk
theorem ky_7_3 {j : Nat} (hk : kd j = 7) : kd (j + 4) = 12 := ky_of (by decide) (by decide +kernel) hk
theorem ky_7_5 {j : Nat} (hk : kd j = 7) : kd (j + 5) = 14 := ky_of (by decide) (by decide +kernel) hk
theorem ky_7_8 {j : Nat} (hk : kd j = 7) : kd (j + 6) = 15 := ky_of (by decide) (by decide +kernel) hk
theorem hdV_X0_become : yX0_become.cls = RX0 ∧ yX0_become.cls ≠ "java/lang/invoke/MethodHandle" ∧ yX0_become.cls ≠ "java/lang/invoke/VarHandle" ∧ (parseMethodDescriptor yX0_become.desc).map (fun d => d.parameters.length) = some 1 := by decide +kernel
theorem hdV_X0_has : yX0_has.cls = RX0 ∧ yX0_has.cls ≠ "java/lang/invoke/MethodHandle" ∧ yX0_has.cls ≠ "java/lang/invoke/VarHandle" ∧ (parseMethodDescriptor yX0_has.desc).map (fun d => d.parameters.length) = some 1 := by decide +kernel
theorem hdV_X0_hasGate : yX0_hasGate.cls = RX0 ∧ yX0_hasGate.cls ≠ "java/lang/invoke/MethodHandle" ∧ yX0_hasGate.cls ≠ "java/lang/invoke/VarHandle" ∧ (parseMethodDescriptor yX0_hasGate.desc).map (fun d => d.parameters.length) = some 1 := by decide +kernel
theorem hdV_X0_allGates : yX0_allGates.cls = RX0 ∧ yX0_allGates.cls ≠ "java/lang/invoke/MethodHandle" ∧ yX0_allGates.cls ≠ "java/lang/invoke/VarHandle" ∧ (parseMethodDescriptor yX0_allGates.desc).map (fun d => d.parameters.length) = some 0 := by decide +kernel
theorem hdV_X0_areGates : yX0_areGates.cls = RX0 ∧ yX0_areGates.cls ≠ "java/lang/invoke/MethodHandle" ∧ yX0_areGates.cls ≠ "java/lang/invoke/VarHandle" ∧ (parseMethodDescriptor yX0_areGates.desc).map (fun d => d.parameters.length) = some 1 := by decide +kernel
theorem hdV_X0_add : yX0_add.cls = RX0 ∧ yX0_add.cls ≠ "java/lang/invoke/MethodHandle" ∧ yX0_add.cls ≠ "java/lang/invoke/VarHandle" ∧ (parseMethodDescriptor yX0_add.desc).map (fun d => d.parameters.length) = some 4 := by decide +kernel
theorem hdV_X0_isOpen : yX0_isOpen.cls = RX0 ∧ yX0_isOpen.cls ≠ "java/lang/invoke/MethodHandle" ∧ yX0_isOpen.cls ≠ "java/lang/invoke/VarHandle" ∧ (parseMethodDescriptor yX0_isOpen.desc).map (fun d => d.parameters.length) = some 1 := by decide +kernel
theorem hdV_X0_isTended : yX0_isTended.cls = RX0 ∧ yX0_isTended.cls ≠ "java/lang/invoke/MethodHandle" ∧ yX0_isTended.cls ≠ "java/lang/invoke/VarHandle" ∧ (parseMethodDescriptor yX0_isTended.desc).map (fun d => d.parameters.length) = some 1 := by decide +kernel
theorem hdV_X0_canBeOpened : yX0_canBeOpened.cls = RX0 ∧ yX0_canBeOpened.cls ≠ "java/lang/invoke/MethodHandle" ∧ yX0_canBeOpened.cls ≠ "java/lang/invoke/VarHandle" ∧ (parseMethodDescriptor yX0_canBeOpened.desc).map (fun d => d.parameters.length) = some 1 := by decide +kernel
theorem hdV_X0_flipGate : yX0_flipGate.cls = RX0 ∧ yX0_flipGate.cls ≠ "java/lang/invoke/MethodHandle" ∧ yX0_flipGate.cls ≠ "java/lang/invoke/VarHandle" ∧ (parseMethodDescriptor yX0_flipGate.desc).map (fun d => d.parameters.length) = some 1 := by decide +kernel
theorem hdV_X0_tended : yX0_tended.cls = RX0 ∧ yX0_tended.cls ≠ "java/lang/invoke/MethodHandle" ∧ yX0_tended.cls ≠ "java/lang/invoke/VarHandle" ∧ (parseMethodDescriptor yX0_tended.desc).map (fun d => d.parameters.length) = some 0 := by decide +kernel
theorem hdV_X0_gatesOf : yX0_gatesOf.cls = RX0 ∧ yX0_gatesOf.cls ≠ "java/lang/invoke/MethodHandle" ∧ yX0_gatesOf.cls ≠ "java/lang/invoke/VarHandle" ∧ (parseMethodDescriptor yX0_gatesOf.desc).map (fun d => d.parameters.length) = some 1 := by decide +kernel
theorem hdV_X0_below : yX0_below.cls = RX0 ∧ yX0_below.cls ≠ "java/lang/invoke/MethodHandle" ∧ yX0_below.cls ≠ "java/lang/invoke/VarHandle" ∧ (parseMethodDescriptor yX0_below.desc).map (fun d => d.parameters.length) = some 1 := by decide +kernel
theorem hdV_X1_become : yX1_become.cls = RX1 ∧ yX1_become.cls ≠ "java/lang/invoke/MethodHandle" ∧ yX1_become.cls ≠ "java/lang/invoke/VarHandle" ∧ (parseMethodDescriptor yX1_become.desc).map (fun d => d.parameters.length) = some 1 := by decide +kernel
theorem hdV_X1_has : yX1_has.cls = RX1 ∧ yX1_has.cls ≠ "java/lang/invoke/MethodHandle" ∧ yX1_has.cls ≠ "java/lang/invoke/VarHandle" ∧ (parseMethodDescriptor yX1_has.desc).map (fun d => d.parameters.length) = some 1 := by decide +kernel
theorem hdV_X1_add : yX1_add.cls = RX1 ∧ yX1_add.cls ≠ "java/lang/invoke/MethodHandle" ∧ yX1_add.cls ≠ "java/lang/invoke/VarHandle" ∧ (parseMethodDescriptor yX1_add.desc).map (fun d => d.parameters.length) = some 4 := by decide +kernel
theorem hdV_X1_wants : yX1_wants.cls = RX1 ∧ yX1_wants.cls ≠ "java/lang/invoke/MethodHandle" ∧ yX1_wants.cls ≠ "java/lang/invoke/VarHandle" ∧ (parseMethodDescriptor yX1_wants.desc).map (fun d => d.parameters.length) = some 1 := by decide +kernel
theorem hdV_X1_wanting : yX1_wanting.cls = RX1 ∧ yX1_wanting.cls ≠ "java/lang/invoke/MethodHandle" ∧ yX1_wanting.cls ≠ "java/lang/invoke/VarHandle" ∧ (parseMethodDescriptor yX1_wanting.desc).map (fun d => d.parameters.length) = some 0 := by decide +kernel
theorem hdV_X1_calls : yX1_calls.cls = RX1 ∧ yX1_calls.cls ≠ "java/lang/invoke/MethodHandle" ∧ yX1_calls.cls ≠ "java/lang/invoke/VarHandle" ∧ (parseMethodDescriptor yX1_calls.desc).map (fun d => d.parameters.length) = some 1 := by decide +kernel
theorem hdV_X1_canCall : yX1_canCall.cls = RX1 ∧ yX1_canCall.cls ≠ "java/lang/invoke/MethodHandle" ∧ yX1_canCall.cls ≠ "java/lang/invoke/VarHandle" ∧ (parseMethodDescriptor yX1_canCall.desc).map (fun d => d.parameters.length) = some 1 := by decide +kernel
theorem hdS_J6_bitCount_0f7a4 : yJ6_bitCount_0f7a4.cls ≠ "java/lang/invoke/MethodHandle" ∧ yJ6_bitCount_0f7a4.cls ≠ "java/lang/invoke/VarHandle" ∧ (parseMethodDescriptor yJ6_bitCount_0f7a4.desc).map (fun d => d.parameters.length) = some 1 := by decide +kernel
theorem hdV_X1_beginCall : yX1_beginCall.cls = RX1 ∧ yX1_beginCall.cls ≠ "java/lang/invoke/MethodHandle" ∧ yX1_beginCall.cls ≠ "java/lang/invoke/VarHandle" ∧ (parseMethodDescriptor yX1_beginCall.desc).map (fun d => d.parameters.length) = some 1 := by decide +kernel
theorem hdV_X1_give : yX1_give.cls = RX1 ∧ yX1_give.cls ≠ "java/lang/invoke/MethodHandle" ∧ yX1_give.cls ≠ "java/lang/invoke/VarHandle" ∧ (parseMethodDescriptor yX1_give.desc).map (fun d => d.parameters.length) = some 3 := by decide +kernel
theorem hdV_X2_dropOldest : yX2_dropOldest.cls = RX2 ∧ yX2_dropOldest.cls ≠ "java/lang/invoke/MethodHandle" ∧ yX2_dropOldest.cls ≠ "java/lang/invoke/VarHandle" ∧ (parseMethodDescriptor yX2_dropOldest.desc).map (fun d => d.parameters.length) = some 0 := by decide +kernel
theorem hdV_X5_become : yX5_become.cls = RX5 ∧ yX5_become.cls ≠ "java/lang/invoke/MethodHandle" ∧ yX5_become.cls ≠ "java/lang/invoke/VarHandle" ∧ (parseMethodDescriptor yX5_become.desc).map (fun d => d.parameters.length) = some 1 := by decide +kernel
theorem hdV_X4_become : yX4_become.cls = RX4 ∧ yX4_become.cls ≠ "java/lang/invoke/MethodHandle" ∧ yX4_become.cls ≠ "java/lang/invoke/VarHandle" ∧ (parseMethodDescriptor yX4_become.desc).map (fun d => d.parameters.length) = some 1 := by decide +kernel
theorem hdV_X2_record : yX2_record.cls = RX2 ∧ yX2_record.cls ≠ "java/lang/invoke/MethodHandle" ∧ yX2_record.cls ≠ "java/lang/invoke/VarHandle" ∧ (parseMethodDescriptor yX2_record.desc).map (fun d => d.parameters.length) = some 1 := by decide +kernel
theorem hdV_X2_restoreLatest : yX2_restoreLatest.cls = RX2 ∧ yX2_restoreLatest.cls ≠ "java/lang/invoke/MethodHandle" ∧ yX2_restoreLatest.cls ≠ "java/lang/invoke/VarHandle" ∧ (parseMethodDescriptor yX2_restoreLatest.desc).map (fun d => d.parameters.length) = some 1 := by decide +kernel
theorem hdV_X4_hasHoursLeft : yX4_hasHoursLeft.cls = RX4 ∧ yX4_hasHoursLeft.cls ≠ "java/lang/invoke/MethodHandle" ∧ yX4_hasHoursLeft.cls ≠ "java/lang/invoke/VarHandle" ∧ (parseMethodDescriptor yX4_hasHoursLeft.desc).map (fun d => d.parameters.length) = some 1 := by decide +kernel
theorem hdV_X5_gatesInNextHour : yX5_gatesInNextHour.cls = RX5 ∧ yX5_gatesInNextHour.cls ≠ "java/lang/invoke/MethodHandle" ∧ yX5_gatesInNextHour.cls ≠ "java/lang/invoke/VarHandle" ∧ (parseMethodDescriptor yX5_gatesInNextHour.desc).map (fun d => d.parameters.length) = some 1 := by decide +kernel
theorem hdS_J7_fill_53178 : yJ7_fill_53178.cls ≠ "java/lang/invoke/MethodHandle" ∧ yJ7_fill_53178.cls ≠ "java/lang/invoke/VarHandle" ∧ (parseMethodDescriptor yJ7_fill_53178.desc).map (fun d => d.parameters.length) = some 2 := by decide +kernel
theorem hdV_X4_findCallsBelow : yX4_findCallsBelow.cls = RX4 ∧ yX4_findCallsBelow.cls ≠ "java/lang/invoke/MethodHandle" ∧ yX4_findCallsBelow.cls ≠ "java/lang/invoke/VarHandle" ∧ (parseMethodDescriptor yX4_findCallsBelow.desc).map (fun d => d.parameters.length) = some 0 := by decide +kernel
theorem hdV_X4_findPassingGates : yX4_findPassingGates.cls = RX4 ∧ yX4_findPassingGates.cls ≠ "java/lang/invoke/MethodHandle" ∧ yX4_findPassingGates.cls ≠ "java/lang/invoke/VarHandle" ∧ (parseMethodDescriptor yX4_findPassingGates.desc).map (fun d => d.parameters.length) = some 0 := by decide +kernel
theorem hdV_X4_seepAway : yX4_seepAway.cls = RX4 ∧ yX4_seepAway.cls ≠ "java/lang/invoke/MethodHandle" ∧ yX4_seepAway.cls ≠ "java/lang/invoke/VarHandle" ∧ (parseMethodDescriptor yX4_seepAway.desc).map (fun d => d.parameters.length) = some 2 := by decide +kernel
theorem hdV_X4_mayTake : yX4_mayTake.cls = RX4 ∧ yX4_mayTake.cls ≠ "java/lang/invoke/MethodHandle" ∧ yX4_mayTake.cls ≠ "java/lang/invoke/VarHandle" ∧ (parseMethodDescriptor yX4_mayTake.desc).map (fun d => d.parameters.length) = some 1 := by decide +kernel
theorem hdV_X4_giveToFields : yX4_giveToFields.cls = RX4 ∧ yX4_giveToFields.cls ≠ "java/lang/invoke/MethodHandle" ∧ yX4_giveToFields.cls ≠ "java/lang/invoke/VarHandle" ∧ (parseMethodDescriptor yX4_giveToFields.desc).map (fun d => d.parameters.length) = some 2 := by decide +kernel
theorem hdV_X4_isPassingFrom : yX4_isPassingFrom.cls = RX4 ∧ yX4_isPassingFrom.cls ≠ "java/lang/invoke/MethodHandle" ∧ yX4_isPassingFrom.cls ≠ "java/lang/invoke/VarHandle" ∧ (parseMethodDescriptor yX4_isPassingFrom.desc).map (fun d => d.parameters.length) = some 2 := by decide +kernel
theorem hdV_X4_throughGate : yX4_throughGate.cls = RX4 ∧ yX4_throughGate.cls ≠ "java/lang/invoke/MethodHandle" ∧ yX4_throughGate.cls ≠ "java/lang/invoke/VarHandle" ∧ (parseMethodDescriptor yX4_throughGate.desc).map (fun d => d.parameters.length) = some 2 := by decide +kernel
theorem hdV_X4_partAmongGates : yX4_partAmongGates.cls = RX4 ∧ yX4_partAmongGates.cls ≠ "java/lang/invoke/MethodHandle" ∧ yX4_partAmongGates.cls ≠ "java/lang/invoke/VarHandle" ∧ (parseMethodDescriptor yX4_partAmongGates.desc).map (fun d => d.parameters.length) = some 2 := by decide +kernel
theorem hdV_X4_endCalls : yX4_endCalls.cls = RX4 ∧ yX4_endCalls.cls ≠ "java/lang/invoke/MethodHandle" ∧ yX4_endCalls.cls ≠ "java/lang/invoke/VarHandle" ∧ (parseMethodDescriptor yX4_endCalls.desc).map (fun d => d.parameters.length) = some 0 := by decide +kernel
theorem hdV_X4_passHour : yX4_passHour.cls = RX4 ∧ yX4_passHour.cls ≠ "java/lang/invoke/MethodHandle" ∧ yX4_passHour.cls ≠ "java/lang/invoke/VarHandle" ∧ (parseMethodDescriptor yX4_passHour.desc).map (fun d => d.parameters.length) = some 1 := by decide +kernel
theorem hdV_X5_goOn : yX5_goOn.cls = RX5 ∧ yX5_goOn.cls ≠ "java/lang/invoke/MethodHandle" ∧ yX5_goOn.cls ≠ "java/lang/invoke/VarHandle" ∧ (parseMethodDescriptor yX5_goOn.desc).map (fun d => d.parameters.length) = some 0 := by decide +kernel
theorem hdV_X4_runHours : yX4_runHours.cls = RX4 ∧ yX4_runHours.cls ≠ "java/lang/invoke/MethodHandle" ∧ yX4_runHours.cls ≠ "java/lang/invoke/VarHandle" ∧ (parseMethodDescriptor yX4_runHours.desc).map (fun d => d.parameters.length) = some 2 := by decide +kernel
theorem hdV_X5_has : yX5_has.cls = RX5 ∧ yX5_has.cls ≠ "java/lang/invoke/MethodHandle" ∧ yX5_has.cls ≠ "java/lang/invoke/VarHandle" ∧ (parseMethodDescriptor yX5_has.desc).map (fun d => d.parameters.length) = some 1 := by decide +kernel
theorem hdV_X5_beginAgain : yX5_beginAgain.cls = RX5 ∧ yX5_beginAgain.cls ≠ "java/lang/invoke/MethodHandle" ∧ yX5_beginAgain.cls ≠ "java/lang/invoke/VarHandle" ∧ (parseMethodDescriptor yX5_beginAgain.desc).map (fun d => d.parameters.length) = some 0 := by decide +kernel
theorem hdV_X5_add : yX5_add.cls = RX5 ∧ yX5_add.cls ≠ "java/lang/invoke/MethodHandle" ∧ yX5_add.cls ≠ "java/lang/invoke/VarHandle" ∧ (parseMethodDescriptor yX5_add.desc).map (fun d => d.parameters.length) = some 2 := by decide +kernel
theorem hdV_X5_removeAll : yX5_removeAll.cls = RX5 ∧ yX5_removeAll.cls ≠ "java/lang/invoke/MethodHandle" ∧ yX5_removeAll.cls ≠ "java/lang/invoke/VarHandle" ∧ (parseMethodDescriptor yX5_removeAll.desc).map (fun d => d.parameters.length) = some 0 := by decide +kernel
theorem hdS_X6_isOutside : yX6_isOutside.cls ≠ "java/lang/invoke/MethodHandle" ∧ yX6_isOutside.cls ≠ "java/lang/invoke/VarHandle" ∧ (parseMethodDescriptor yX6_isOutside.desc).map (fun d => d.parameters.length) = some 3 := by decide +kernel
theorem hdV_X6_canal : yX6_canal.cls = RX6 ∧ yX6_canal.cls ≠ "java/lang/invoke/MethodHandle" ∧ yX6_canal.cls ≠ "java/lang/invoke/VarHandle" ∧ (parseMethodDescriptor yX6_canal.desc).map (fun d => d.parameters.length) = some 4 := by decide +kernel
theorem hdV_X6_field : yX6_field.cls = RX6 ∧ yX6_field.cls ≠ "java/lang/invoke/MethodHandle" ∧ yX6_field.cls ≠ "java/lang/invoke/VarHandle" ∧ (parseMethodDescriptor yX6_field.desc).map (fun d => d.parameters.length) = some 4 := by decide +kernel
theorem hdS_X6_tendsKind : yX6_tendsKind.cls ≠ "java/lang/invoke/MethodHandle" ∧ yX6_tendsKind.cls ≠ "java/lang/invoke/VarHandle" ∧ (parseMethodDescriptor yX6_tendsKind.desc).map (fun d => d.parameters.length) = some 2 := by decide +kernel
theorem hdV_X6_tend : yX6_tend.cls = RX6 ∧ yX6_tend.cls ≠ "java/lang/invoke/MethodHandle" ∧ yX6_tend.cls ≠ "java/lang/invoke/VarHandle" ∧ (parseMethodDescriptor yX6_tend.desc).map (fun d => d.parameters.length) = some 2 := by decide +kernel
theorem hdV_X6_open : yX6_open.cls = RX6 ∧ yX6_open.cls ≠ "java/lang/invoke/MethodHandle" ∧ yX6_open.cls ≠ "java/lang/invoke/VarHandle" ∧ (parseMethodDescriptor yX6_open.desc).map (fun d => d.parameters.length) = some 1 := by decide +kernel
theorem hdV_X6_call : yX6_call.cls = RX6 ∧ yX6_call.cls ≠ "java/lang/invoke/MethodHandle" ∧ yX6_call.cls ≠ "java/lang/invoke/VarHandle" ∧ (parseMethodDescriptor yX6_call.desc).map (fun d => d.parameters.length) = some 1 := by decide +kernel
theorem hdV_X6_turn : yX6_turn.cls = RX6 ∧ yX6_turn.cls ≠ "java/lang/invoke/MethodHandle" ∧ yX6_turn.cls ≠ "java/lang/invoke/VarHandle" ∧ (parseMethodDescriptor yX6_turn.desc).map (fun d => d.parameters.length) = some 2 := by decide +kernel
theorem hdV_X6_noTurns : yX6_noTurns.cls = RX6 ∧ yX6_noTurns.cls ≠ "java/lang/invoke/MethodHandle" ∧ yX6_noTurns.cls ≠ "java/lang/invoke/VarHandle" ∧ (parseMethodDescriptor yX6_noTurns.desc).map (fun d => d.parameters.length) = some 0 := by decide +kernel
theorem hdV_X6_hour : yX6_hour.cls = RX6 ∧ yX6_hour.cls ≠ "java/lang/invoke/MethodHandle" ∧ yX6_hour.cls ≠ "java/lang/invoke/VarHandle" ∧ (parseMethodDescriptor yX6_hour.desc).map (fun d => d.parameters.length) = some 1 := by decide +kernel
theorem hdV_X6_run : yX6_run.cls = RX6 ∧ yX6_run.cls ≠ "java/lang/invoke/MethodHandle" ∧ yX6_run.cls ≠ "java/lang/invoke/VarHandle" ∧ (parseMethodDescriptor yX6_run.desc).map (fun d => d.parameters.length) = some 2 := by decide +kernel
theorem hdS_X6_asNumber : yX6_asNumber.cls ≠ "java/lang/invoke/MethodHandle" ∧ yX6_asNumber.cls ≠ "java/lang/invoke/VarHandle" ∧ (parseMethodDescriptor yX6_asNumber.desc).map (fun d => d.parameters.length) = some 1 := by decide +kernel
theorem hdV_X6_canalOf : yX6_canalOf.cls = RX6 ∧ yX6_canalOf.cls ≠ "java/lang/invoke/MethodHandle" ∧ yX6_canalOf.cls ≠ "java/lang/invoke/VarHandle" ∧ (parseMethodDescriptor yX6_canalOf.desc).map (fun d => d.parameters.length) = some 2 := by decide +kernel
theorem hdV_X6_fieldOf : yX6_fieldOf.cls = RX6 ∧ yX6_fieldOf.cls ≠ "java/lang/invoke/MethodHandle" ∧ yX6_fieldOf.cls ≠ "java/lang/invoke/VarHandle" ∧ (parseMethodDescriptor yX6_fieldOf.desc).map (fun d => d.parameters.length) = some 2 := by decide +kernel
theorem hdV_X6_turnOf : yX6_turnOf.cls = RX6 ∧ yX6_turnOf.cls ≠ "java/lang/invoke/MethodHandle" ∧ yX6_turnOf.cls ≠ "java/lang/invoke/VarHandle" ∧ (parseMethodDescriptor yX6_turnOf.desc).map (fun d => d.parameters.length) = some 2 := by decide +kernel
theorem hdS_X6_floatBits : yX6_floatBits.cls ≠ "java/lang/invoke/MethodHandle" ∧ yX6_floatBits.cls ≠ "java/lang/invoke/VarHandle" ∧ (parseMethodDescriptor yX6_floatBits.desc).map (fun d => d.parameters.length) = some 2 := by decide +kernel
theorem hdV_X6_share : yX6_share.cls = RX6 ∧ yX6_share.cls ≠ "java/lang/invoke/MethodHandle" ∧ yX6_share.cls ≠ "java/lang/invoke/VarHandle" ∧ (parseMethodDescriptor yX6_share.desc).map (fun d => d.parameters.length) = some 1 := by decide +kernel
theorem hdV_X6_count : yX6_count.cls = RX6 ∧ yX6_count.cls ≠ "java/lang/invoke/MethodHandle" ∧ yX6_count.cls ≠ "java/lang/invoke/VarHandle" ∧ (parseMethodDescriptor yX6_count.desc).map (fun d => d.parameters.length) = some 1 := by decide +kernel
theorem hdV_X6_undo : yX6_undo.cls = RX6 ∧ yX6_undo.cls ≠ "java/lang/invoke/MethodHandle" ∧ yX6_undo.cls ≠ "java/lang/invoke/VarHandle" ∧ (parseMethodDescriptor yX6_undo.desc).map (fun d => d.parameters.length) = some 0 := by decide +kernel
theorem hdS_L_cell : yL_cell.cls ≠ "java/lang/invoke/MethodHandle" ∧ yL_cell.cls ≠ "java/lang/invoke/VarHandle" ∧ (parseMethodDescriptor yL_cell.desc).map (fun d => d.parameters.length) = some 2 := by decide +kernel
theorem hdS_L_holds : yL_holds.cls ≠ "java/lang/invoke/MethodHandle" ∧ yL_holds.cls ≠ "java/lang/invoke/VarHandle" ∧ (parseMethodDescriptor yL_holds.desc).map (fun d => d.parameters.length) = some 1 := by decide +kernel
theorem hdS_L_hour : yL_hour.cls ≠ "java/lang/invoke/MethodHandle" ∧ yL_hour.cls ≠ "java/lang/invoke/VarHandle" ∧ (parseMethodDescriptor yL_hour.desc).map (fun d => d.parameters.length) = some 2 := by decide +kernel
theorem hdS_L_acts : yL_acts.cls ≠ "java/lang/invoke/MethodHandle" ∧ yL_acts.cls ≠ "java/lang/invoke/VarHandle" ∧ (parseMethodDescriptor yL_acts.desc).map (fun d => d.parameters.length) = some 2 := by decide +kernel
