/-! the walks: each method keeps its predicate; printed by gen.py -/
set_option maxHeartbeats 4000000 in
set_option maxRecDepth 100000 in
theorem mX6_fieldOf (l : Launch) (G : Gp) (j0a : Nat) (x1a : Int32) (x2a : Int32) (M : Mm) (Post : Mm → Int32 → Prop) (hk_j0a : kd j0a = 6) (h : wX6_fieldOf Post M j0a x1a x2a) : CtI l yX6_fieldOf wsX6_fieldOf rX6_fieldOf G [.ref (G.2.1 + j0a), .int x1a, .int x2a] M Post := by
  refine Met.ofW (cc := cX6_fieldOf) (maxL := 4) (ret := (some .int)) (by decide) rfl ?_
  intro p e s m args below meth c s₁ B hml hv
  obtain ⟨rfl, hK, hP⟩ := hv
  have hx := B.exec
  have hb := B.bytes
  have hr := B.returns
  have hlocks := B.notSynchronized
  have hts0 := atoms_spec (ws := wsX6_fieldOf) B.pre
  have hts : ∀ w ∈ wsL_law, w.before _ s = true := fun w hw => hts0 w (List.mem_cons_of_mem _ hw)
  have hown : s.vm.findClass RX6 = some m.cls := findClass_of_methodNamed B.named
  have hS : va_S (Fr G) s.heap s.heap [] := va_S.rf
  have hl := lv_entry ([.ref (G.2.1 + j0a), .int x1a, .int x2a]) (n := 4) (Nat.le_of_ble_eq_true rfl)
  rw [lg_entry_eq]
  generalize (lg_sl ([.ref (G.2.1 + j0a), .int x1a, .int x2a]) ++ List.replicate (4 - (lg_sl ([.ref (G.2.1 + j0a), .int x1a, .int x2a])).length) Slot.unset).toArray = ls at hl ⊢
  have hl : lv_has ls 4 [(0, .ref (G.2.1 + j0a)), (1, .int x1a), (2, .int x2a)] := hl
  unfold wX6_fieldOf at h
  refine lv_aload_n hx hb dX6_fieldOf_0 rfl (lv_at hl 0 rfl) ?_
  refine rk_getr hx hb hts inlX6 hown hK hP hk_j0a cl_6 0 1 fq_6_0 q_1_15 rfl dX6_fieldOf_1 ?_
  refine rk_getr hx hb hts inlX4 hown hK hP (ky_6_0 hk_j0a) cl_4 1 10 fq_4_1 q_8_11 rfl dX6_fieldOf_4 ?_
  refine lv_astore_n (lv' := [(3, .ref (G.2.1 + ((j0a + 1) + 10))), (0, .ref (G.2.1 + j0a)), (1, .int x1a), (2, .int x2a)]) hx hb dX6_fieldOf_7 rfl hl (by decide) rfl (fun ls hl => ?_)
  refine lv_aload_n hx hb dX6_fieldOf_8 rfl (lv_at hl 0 rfl) ?_
  refine lv_iload_n hx hb dX6_fieldOf_9 rfl (lv_at hl 2 rfl) ?_
  refine rc_Vi (As := [.int x1a]) (rest := []) ⟨hx, hb, hml, hown, hts⟩ (mX1_has l G ((j0a + 1) + 10) x1a M _ (ky_4_1 (ky_6_0 hk_j0a)) h) (cwV 1 hts (gV_X1_has q_12_17) rfl rfl rfl hdV_X1_has ⟨Nat.le_of_ble_eq_true rfl, Nat.le_of_ble_eq_true rfl⟩) hK hP hS (ky_4_1 (ky_6_0 hk_j0a)) (by decide) cl_1 rfl hl.1 rfl (Nat.le_of_ble_eq_true rfl) dX6_fieldOf_10 ⟨Nat.zero_le _, Nat.zero_le _⟩ (fun r2 M1 H locs h hP hS => ?_)
  refine lv_if_ne (tgt := 19) hx hb dX6_fieldOf_13 (by decide) (fun c3 => ?_) (fun c3 => ?_)
  · replace h := h.1 c3
    refine lv_iload_n hx hb dX6_fieldOf_19 rfl (lv_at hl 3 rfl) ?_
    by_cases c4 : x2a = (0 : Int32)
    · replace h := h.1 c4
      refine lv_tableIn (off := 48) (tgt := 68) hx hb dX6_fieldOf_20 (by rw [c4]; decide) (by rw [c4]; decide) (by rw [c4]; rfl) (by decide) ?_
      refine lv_aload_n hx hb dX6_fieldOf_68 rfl (lv_at hl 0 rfl) ?_
      refine rk_getr hx hb hts inlX1 hown hK hP (ky_4_1 (ky_6_0 hk_j0a)) cl_1 2 1 fq_1_2 q_24_13 rfl dX6_fieldOf_69 ?_
      refine lv_iload_n hx hb dX6_fieldOf_72 rfl (lv_at hl 2 rfl) ?_
      refine rk_iald hx hb hK hP (ky_1_2 (ky_4_1 (ky_6_0 hk_j0a))) ac_9 _ rfl h.1 dX6_fieldOf_73 ?_
      replace h := h.2
      exact re_i hx hb hr hlocks hP hS h dX6_fieldOf_74
    replace h := h.2 c4
    by_cases c5 : x2a = (1 : Int32)
    · replace h := h.1 c5
      refine lv_tableIn (off := 55) (tgt := 75) hx hb dX6_fieldOf_20 (by rw [c5]; decide) (by rw [c5]; decide) (by rw [c5]; rfl) (by decide) ?_
      refine lv_aload_n hx hb dX6_fieldOf_75 rfl (lv_at hl 0 rfl) ?_
      refine rk_getr hx hb hts inlX1 hown hK hP (ky_4_1 (ky_6_0 hk_j0a)) cl_1 3 2 fq_1_3 q_24_14 rfl dX6_fieldOf_76 ?_
      refine lv_iload_n hx hb dX6_fieldOf_79 rfl (lv_at hl 2 rfl) ?_
      refine rk_iald hx hb hK hP (ky_1_3 (ky_4_1 (ky_6_0 hk_j0a))) ac_9 _ rfl h.1 dX6_fieldOf_80 ?_
      replace h := h.2
      exact re_i hx hb hr hlocks hP hS h dX6_fieldOf_81
    replace h := h.2 c5
    by_cases c6 : x2a = (2 : Int32)
    · replace h := h.1 c6
      refine lv_tableIn (off := 62) (tgt := 82) hx hb dX6_fieldOf_20 (by rw [c6]; decide) (by rw [c6]; decide) (by rw [c6]; rfl) (by decide) ?_
      refine lv_aload_n hx hb dX6_fieldOf_82 rfl (lv_at hl 0 rfl) ?_
      refine rk_getr hx hb hts inlX1 hown hK hP (ky_4_1 (ky_6_0 hk_j0a)) cl_1 4 3 fq_1_4 q_24_15 rfl dX6_fieldOf_83 ?_
      refine lv_iload_n hx hb dX6_fieldOf_86 rfl (lv_at hl 2 rfl) ?_
      refine rk_iald hx hb hK hP (ky_1_4 (ky_4_1 (ky_6_0 hk_j0a))) ac_9 _ rfl h.1 dX6_fieldOf_87 ?_
      replace h := h.2
      exact re_i hx hb hr hlocks hP hS h dX6_fieldOf_88
    replace h := h.2 c6
    by_cases c7 : x2a = (3 : Int32)
    · replace h := h.1 c7
      refine lv_tableIn (off := 69) (tgt := 89) hx hb dX6_fieldOf_20 (by rw [c7]; decide) (by rw [c7]; decide) (by rw [c7]; rfl) (by decide) ?_
      refine lv_aload_n hx hb dX6_fieldOf_89 rfl (lv_at hl 0 rfl) ?_
      refine rk_getr hx hb hts inlX1 hown hK hP (ky_4_1 (ky_6_0 hk_j0a)) cl_1 5 4 fq_1_5 q_24_16 rfl dX6_fieldOf_90 ?_
      refine lv_iload_n hx hb dX6_fieldOf_93 rfl (lv_at hl 2 rfl) ?_
      refine rk_iald hx hb hK hP (ky_1_5 (ky_4_1 (ky_6_0 hk_j0a))) ac_9 _ rfl h.1 dX6_fieldOf_94 ?_
      replace h := h.2
      exact re_i hx hb hr hlocks hP hS h dX6_fieldOf_95
    replace h := h.2 c7
    by_cases c8 : x2a = (4 : Int32)
    · replace h := h.1 c8
      refine lv_tableIn (off := 76) (tgt := 96) hx hb dX6_fieldOf_20 (by rw [c8]; decide) (by rw [c8]; decide) (by rw [c8]; rfl) (by decide) ?_
      refine lv_aload_n hx hb dX6_fieldOf_96 rfl (lv_at hl 0 rfl) ?_
      refine rk_getr hx hb hts inlX1 hown hK hP (ky_4_1 (ky_6_0 hk_j0a)) cl_1 6 5 fq_1_6 q_24_17 rfl dX6_fieldOf_97 ?_
      refine lv_iload_n hx hb dX6_fieldOf_100 rfl (lv_at hl 2 rfl) ?_
      refine rk_iald hx hb hK hP (ky_1_6 (ky_4_1 (ky_6_0 hk_j0a))) ac_9 _ rfl h.1 dX6_fieldOf_101 ?_
      replace h := h.2
      exact re_i hx hb hr hlocks hP hS h dX6_fieldOf_102
    replace h := h.2 c8
    by_cases c9 : x2a = (5 : Int32)
    · replace h := h.1 c9
      refine lv_tableIn (off := 83) (tgt := 103) hx hb dX6_fieldOf_20 (by rw [c9]; decide) (by rw [c9]; decide) (by rw [c9]; rfl) (by decide) ?_
      refine lv_aload_n hx hb dX6_fieldOf_103 rfl (lv_at hl 0 rfl) ?_
      refine lv_iload_n hx hb dX6_fieldOf_104 rfl (lv_at hl 2 rfl) ?_
      refine rc_Vi (As := [.int x1a]) (rest := []) ⟨hx, hb, hml, hown, hts⟩ (mX1_calls l G ((j0a + 1) + 10) x1a M1 _ (ky_4_1 (ky_6_0 hk_j0a)) h) (cwV 1 hts (gV_X1_calls q_24_19) rfl rfl rfl hdV_X1_calls ⟨Nat.le_of_ble_eq_true rfl, Nat.le_of_ble_eq_true rfl⟩) hK hP hS (ky_4_1 (ky_6_0 hk_j0a)) (by decide) cl_1 rfl hl.1 rfl (Nat.le_of_ble_eq_true rfl) dX6_fieldOf_105 ⟨Nat.zero_le _, Nat.zero_le _⟩ (fun r11 M10 H locs h hP hS => ?_)
      refine rc_Si (As := [.int r11]) (rest := []) ⟨hx, hb, hml, hown, hts⟩ (mX6_asNumber l G r11 M10 _ h) (va_cwS 1 hts (gS_X6_asNumber q_23_17) rfl rfl rfl hdS_X6_asNumber ⟨Nat.le_of_ble_eq_true rfl, Nat.le_of_ble_eq_true rfl⟩) hK hP hS rfl hl.1 rfl (Nat.le_of_ble_eq_true rfl) dX6_fieldOf_108 ⟨Nat.zero_le _, Nat.zero_le _⟩ (fun r13 M12 H locs h hP hS => ?_)
      exact re_i hx hb hr hlocks hP hS h dX6_fieldOf_111
    replace h := h.2 c9
    by_cases c14 : x2a = (6 : Int32)
    · replace h := h.1 c14
      refine lv_tableIn (off := 92) (tgt := 112) hx hb dX6_fieldOf_20 (by rw [c14]; decide) (by rw [c14]; decide) (by rw [c14]; rfl) (by decide) ?_
      refine lv_aload_n hx hb dX6_fieldOf_112 rfl (lv_at hl 1 rfl) ?_
      refine rk_getr hx hb hts inlX6 hown hK hP hk_j0a cl_6 0 1 fq_6_0 q_1_15 rfl dX6_fieldOf_113 ?_
      refine rc_Vv (As := []) (rest := []) ⟨hx, hb, hml, hown, hts⟩ (mX4_findCallsBelow l G (j0a + 1) M1 _ (ky_6_0 hk_j0a) h) (cwV 0 hts (gV_X4_findCallsBelow q_24_20) rfl rfl rfl hdV_X4_findCallsBelow ⟨Nat.le_of_ble_eq_true rfl, Nat.le_of_ble_eq_true rfl⟩) hK hP hS (ky_6_0 hk_j0a) (by decide) cl_4 rfl hl.1 rfl (Nat.le_of_ble_eq_true rfl) dX6_fieldOf_116 ⟨Nat.zero_le _, Nat.zero_le _⟩ (fun M15 H locs h hP hS => ?_)
      refine lv_aload_n hx hb dX6_fieldOf_119 rfl (lv_at hl 1 rfl) ?_
      refine rk_getr hx hb hts inlX6 hown hK hP hk_j0a cl_6 0 1 fq_6_0 q_1_15 rfl dX6_fieldOf_120 ?_
      refine lv_iload_n hx hb dX6_fieldOf_123 rfl (lv_at hl 2 rfl) ?_
      refine rc_Vi (As := [.int x1a]) (rest := []) ⟨hx, hb, hml, hown, hts⟩ (mX4_mayTake l G (j0a + 1) x1a M15 _ (ky_6_0 hk_j0a) h) (cwV 1 hts (gV_X4_mayTake q_24_21) rfl rfl rfl hdV_X4_mayTake ⟨Nat.le_of_ble_eq_true rfl, Nat.le_of_ble_eq_true rfl⟩) hK hP hS (ky_6_0 hk_j0a) (by decide) cl_4 rfl hl.1 rfl (Nat.le_of_ble_eq_true rfl) dX6_fieldOf_124 ⟨Nat.zero_le _, Nat.zero_le _⟩ (fun r18 M17 H locs h hP hS => ?_)
      refine rc_Si (As := [.int r18]) (rest := []) ⟨hx, hb, hml, hown, hts⟩ (mX6_asNumber l G r18 M17 _ h) (va_cwS 1 hts (gS_X6_asNumber q_23_17) rfl rfl rfl hdS_X6_asNumber ⟨Nat.le_of_ble_eq_true rfl, Nat.le_of_ble_eq_true rfl⟩) hK hP hS rfl hl.1 rfl (Nat.le_of_ble_eq_true rfl) dX6_fieldOf_127 ⟨Nat.zero_le _, Nat.zero_le _⟩ (fun r20 M19 H locs h hP hS => ?_)
      exact re_i hx hb hr hlocks hP hS h dX6_fieldOf_130
    replace h := h.2 c14
    by_cases c21 : x2a = (7 : Int32)
    · replace h := h.1 c21
      refine lv_tableIn (off := 111) (tgt := 131) hx hb dX6_fieldOf_20 (by rw [c21]; decide) (by rw [c21]; decide) (by rw [c21]; rfl) (by decide) ?_
      refine lv_aload_n hx hb dX6_fieldOf_131 rfl (lv_at hl 0 rfl) ?_
      refine lv_iload_n hx hb dX6_fieldOf_132 rfl (lv_at hl 2 rfl) ?_
      refine rc_Vi (As := [.int x1a]) (rest := []) ⟨hx, hb, hml, hown, hts⟩ (mX1_wants l G ((j0a + 1) + 10) x1a M1 _ (ky_4_1 (ky_6_0 hk_j0a)) h) (cwV 1 hts (gV_X1_wants q_24_22) rfl rfl rfl hdV_X1_wants ⟨Nat.le_of_ble_eq_true rfl, Nat.le_of_ble_eq_true rfl⟩) hK hP hS (ky_4_1 (ky_6_0 hk_j0a)) (by decide) cl_1 rfl hl.1 rfl (Nat.le_of_ble_eq_true rfl) dX6_fieldOf_133 ⟨Nat.zero_le _, Nat.zero_le _⟩ (fun r23 M22 H locs h hP hS => ?_)
      refine lv_if_eq (tgt := 144) hx hb dX6_fieldOf_136 (by decide) (fun c24 => ?_) (fun c24 => ?_)
      · replace h := h.1 c24
        refine lv_aload_n hx hb dX6_fieldOf_144 rfl (lv_at hl 0 rfl) ?_
        refine rk_getr hx hb hts inlX1 hown hK hP (ky_4_1 (ky_6_0 hk_j0a)) cl_1 7 6 fq_1_7 q_24_18 rfl dX6_fieldOf_145 ?_
        refine lv_iload_n hx hb dX6_fieldOf_148 rfl (lv_at hl 2 rfl) ?_
        refine rk_iald hx hb hK hP (ky_1_7 (ky_4_1 (ky_6_0 hk_j0a))) ac_9 _ rfl h.1 dX6_fieldOf_149 ?_
        replace h := h.2
        exact re_i hx hb hr hlocks hP hS h dX6_fieldOf_150
      · replace h := h.2 c24
        refine lv_ldc hx hb hown (hts _ q_23_9) dX6_fieldOf_139 ?_
        refine lv_goto (tgt := 150) hx hb dX6_fieldOf_141 (by decide) ?_
        exact re_i hx hb hr hlocks hP hS h dX6_fieldOf_150
    replace h := h.2 c21
    refine lv_tableOut (tgt := 151) hx hb dX6_fieldOf_20 (by have gc4 := lv_neT c4 (show (0 : Int32).toInt = 0 from rfl); have gc5 := lv_neT c5 (show (1 : Int32).toInt = 1 from rfl); have gc6 := lv_neT c6 (show (2 : Int32).toInt = 2 from rfl); have gc7 := lv_neT c7 (show (3 : Int32).toInt = 3 from rfl); have gc8 := lv_neT c8 (show (4 : Int32).toInt = 4 from rfl); have gc9 := lv_neT c9 (show (5 : Int32).toInt = 5 from rfl); have gc14 := lv_neT c14 (show (6 : Int32).toInt = 6 from rfl); have gc21 := lv_neT c21 (show (7 : Int32).toInt = 7 from rfl); omega) (by decide) ?_
    refine lv_ldc hx hb hown (hts _ q_5_1) dX6_fieldOf_151 ?_
    exact re_i hx hb hr hlocks hP hS h dX6_fieldOf_153
  · replace h := h.2 c3
    refine lv_ldc hx hb hown (hts _ q_5_1) dX6_fieldOf_16 ?_
    exact re_i hx hb hr hlocks hP hS h dX6_fieldOf_18
set_option maxHeartbeats 4000000 in
set_option maxRecDepth 100000 in
theorem mX6_turnOf (l : Launch) (G : Gp) (j0a : Nat) (x1a : Int32) (x2a : Int32) (M : Mm) (Post : Mm → Int32 → Prop) (hk_j0a : kd j0a = 6) (h : wX6_turnOf Post M j0a x1a x2a) : CtI l yX6_turnOf wsX6_turnOf rX6_turnOf G [.ref (G.2.1 + j0a), .int x1a, .int x2a] M Post := by
  refine Met.ofW (cc := cX6_turnOf) (maxL := 3) (ret := (some .int)) (by decide) rfl ?_
  intro p e s m args below meth c s₁ B hml hv
  obtain ⟨rfl, hK, hP⟩ := hv
  have hx := B.exec
  have hb := B.bytes
  have hr := B.returns
  have hlocks := B.notSynchronized
  have hts0 := atoms_spec (ws := wsX6_turnOf) B.pre
  have hts : ∀ w ∈ wsL_law, w.before _ s = true := fun w hw => hts0 w (List.mem_cons_of_mem _ hw)
  have hown : s.vm.findClass RX6 = some m.cls := findClass_of_methodNamed B.named
  have hS : va_S (Fr G) s.heap s.heap [] := va_S.rf
  have hl := lv_entry ([.ref (G.2.1 + j0a), .int x1a, .int x2a]) (n := 3) (Nat.le_of_ble_eq_true rfl)
  rw [lg_entry_eq]
  generalize (lg_sl ([.ref (G.2.1 + j0a), .int x1a, .int x2a]) ++ List.replicate (3 - (lg_sl ([.ref (G.2.1 + j0a), .int x1a, .int x2a])).length) Slot.unset).toArray = ls at hl ⊢
  have hl : lv_has ls 3 [(0, .ref (G.2.1 + j0a)), (1, .int x1a), (2, .int x2a)] := hl
  unfold wX6_turnOf at h
  refine lv_aload_n hx hb dX6_turnOf_0 rfl (lv_at hl 0 rfl) ?_
  refine rk_getr hx hb hts inlX6 hown hK hP hk_j0a cl_6 0 1 fq_6_0 q_1_15 rfl dX6_turnOf_1 ?_
  refine rk_getr hx hb hts inlX4 hown hK hP (ky_6_0 hk_j0a) cl_4 2 18 fq_4_2 q_15_3 rfl dX6_turnOf_4 ?_
  refine lv_iload_n hx hb dX6_turnOf_7 rfl (lv_at hl 1 rfl) ?_
  refine rc_Vi (As := [.int x1a]) (rest := []) ⟨hx, hb, hml, hown, hts⟩ (mX5_has l G ((j0a + 1) + 18) x1a M _ (ky_4_2 (ky_6_0 hk_j0a)) h) (cwV 1 hts (gV_X5_has q_25_9) rfl rfl rfl hdV_X5_has ⟨Nat.le_of_ble_eq_true rfl, Nat.le_of_ble_eq_true rfl⟩) hK hP hS (ky_4_2 (ky_6_0 hk_j0a)) (by decide) cl_5 rfl hl.1 rfl (Nat.le_of_ble_eq_true rfl) dX6_turnOf_8 ⟨Nat.zero_le _, Nat.zero_le _⟩ (fun r2 M1 H locs h hP hS => ?_)
  refine lv_if_ne (tgt := 17) hx hb dX6_turnOf_11 (by decide) (fun c3 => ?_) (fun c3 => ?_)
  · replace h := h.1 c3
    refine lv_iload_n hx hb dX6_turnOf_17 rfl (lv_at hl 2 rfl) ?_
    by_cases c4 : x2a = (0 : Int32)
    · replace h := h.1 c4
      refine lv_lookup (off := 26) (tgt := 44) hx hb dX6_turnOf_18 (by decide) (by rw [c4]; rfl) (by decide) ?_
      refine lv_aload_n hx hb dX6_turnOf_44 rfl (lv_at hl 0 rfl) ?_
      refine rk_getr hx hb hts inlX6 hown hK hP hk_j0a cl_6 0 1 fq_6_0 q_1_15 rfl dX6_turnOf_45 ?_
      refine rk_getr hx hb hts inlX4 hown hK hP (ky_6_0 hk_j0a) cl_4 2 18 fq_4_2 q_15_3 rfl dX6_turnOf_48 ?_
      refine rk_getr hx hb hts inlX5 hown hK hP (ky_4_2 (ky_6_0 hk_j0a)) cl_5 3 1 fq_5_3 q_25_7 rfl dX6_turnOf_51 ?_
      refine lv_iload_n hx hb dX6_turnOf_54 rfl (lv_at hl 1 rfl) ?_
      refine rk_iald hx hb hK hP (ky_5_3 (ky_4_2 (ky_6_0 hk_j0a))) ac_8 _ rfl h.1 dX6_turnOf_55 ?_
      replace h := h.2
      exact re_i hx hb hr hlocks hP hS h dX6_turnOf_56
    replace h := h.2 c4
    by_cases c5 : x2a = (1 : Int32)
    · replace h := h.1 c5
      refine lv_lookup (off := 39) (tgt := 57) hx hb dX6_turnOf_18 (by decide) (by rw [c5]; rfl) (by decide) ?_
      refine lv_aload_n hx hb dX6_turnOf_57 rfl (lv_at hl 0 rfl) ?_
      refine rk_getr hx hb hts inlX6 hown hK hP hk_j0a cl_6 0 1 fq_6_0 q_1_15 rfl dX6_turnOf_58 ?_
      refine rk_getr hx hb hts inlX4 hown hK hP (ky_6_0 hk_j0a) cl_4 2 18 fq_4_2 q_15_3 rfl dX6_turnOf_61 ?_
      refine rk_getr hx hb hts inlX5 hown hK hP (ky_4_2 (ky_6_0 hk_j0a)) cl_5 4 2 fq_5_4 q_25_8 rfl dX6_turnOf_64 ?_
      refine lv_iload_n hx hb dX6_turnOf_67 rfl (lv_at hl 1 rfl) ?_
      refine rk_iald hx hb hK hP (ky_5_4 (ky_4_2 (ky_6_0 hk_j0a))) ac_8 _ rfl h.1 dX6_turnOf_68 ?_
      replace h := h.2
      exact re_i hx hb hr hlocks hP hS h dX6_turnOf_69
    replace h := h.2 c5
    refine lv_lookup (off := 52) (tgt := 70) hx hb dX6_turnOf_18 (by decide) (by show Op.lookupswitch.offset [(0, 26), (1, 39)] 52 _ = _; rw [lv_osw (a := 0) c4 rfl, lv_osw (a := 1) c5 rfl]; rfl) (by decide) ?_
    refine lv_ldc hx hb hown (hts _ q_5_1) dX6_turnOf_70 ?_
    exact re_i hx hb hr hlocks hP hS h dX6_turnOf_72
  · replace h := h.2 c3
    refine lv_ldc hx hb hown (hts _ q_5_1) dX6_turnOf_14 ?_
    exact re_i hx hb hr hlocks hP hS h dX6_turnOf_16
set_option maxHeartbeats 4000000 in
set_option maxRecDepth 100000 in
theorem mX6_floatBits (l : Launch) (G : Gp) (y0a : Int64) (y2a : Int64) (M : Mm) (Post : Mm → Int32 → Prop) (h : wX6_floatBits Post M y0a y2a) : CtI l yX6_floatBits wsX6_floatBits rX6_floatBits G [.long y0a, .long y2a] M Post := by
  refine Met.ofW (cc := cX6_floatBits) (maxL := 10) (ret := (some .int)) (by decide) rfl ?_
  intro p e s m args below meth c s₁ B hml hv
  obtain ⟨rfl, hK, hP⟩ := hv
  have hx := B.exec
  have hb := B.bytes
  have hr := B.returns
  have hlocks := B.notSynchronized
  have hts0 := atoms_spec (ws := wsX6_floatBits) B.pre
  have hts : ∀ w ∈ wsL_law, w.before _ s = true := fun w hw => hts0 w (List.mem_cons_of_mem _ hw)
  have hown : s.vm.findClass RX6 = some m.cls := findClass_of_methodNamed B.named
  have hS : va_S (Fr G) s.heap s.heap [] := va_S.rf
  have hl := lv_entry ([.long y0a, .long y2a]) (n := 10) (Nat.le_of_ble_eq_true rfl)
  rw [lg_entry_eq]
  generalize (lg_sl ([.long y0a, .long y2a]) ++ List.replicate (10 - (lg_sl ([.long y0a, .long y2a])).length) Slot.unset).toArray = ls at hl ⊢
  have hl : lv_has ls 10 [(0, .long y0a), (2, .long y2a)] := hl
  have B76 : ∀ (M : Mm) (x4 : Int32) (y5 : Int64) (H : Heap) (locs : List Loc) (ls : Array Slot), Rp G M H → va_S (Fr G) s.heap H locs → lv_has ls 10 [(4, .int x4), (5, .long y5)] → bX6_floatBits_76 Post M x4 y5 → Wi p l e (headSpec wsX6_floatBits rX6_floatBits).room s m [.long y0a, .long y2a].toArray below meth c G Post H locs (F0 m 76 ls []) := by
    intro M x4 y5 H locs ls hP hS hl h
    unfold bX6_floatBits_76 at h
    refine lv_sipush (v := (150 : Int32)) hx hb dX6_floatBits_76 k_sipush_150 ?_
    refine lv_iload hx hb dX6_floatBits_79 (lv_at hl 0 rfl) ?_
    refine lv_isub hx hb dX6_floatBits_81 ?_
    refine lv_topi (fun x9_11 ex9_11 => ?_)
    replace h := h x9_11 ex9_11
    refine lv_istore (lv' := [(9, .int x9_11), (4, .int x4), (5, .long y5)]) hx hb dX6_floatBits_82 hl (by decide) rfl (fun ls hl => ?_)
    refine lv_iload hx hb dX6_floatBits_84 (lv_at hl 0 rfl) ?_
    refine lv_bipush (v := (23 : Int32)) hx hb dX6_floatBits_86 k_bipush_23 ?_
    refine lv_ishl hx hb dX6_floatBits_88 ?_
    refine lv_lload hx hb dX6_floatBits_89 (lv_at hl 2 rfl) ?_
    refine lv_ldc2 hx hb hown (hts _ q_26_5) dX6_floatBits_91 ?_
    refine lv_lsub hx hb dX6_floatBits_94 ?_
    refine lv_l2i (v := (((y5 - (8388608 : Int64))).toInt32)) hx hb dX6_floatBits_95 rfl ?_
    refine lv_iadd hx hb dX6_floatBits_96 ?_
    exact re_i hx hb hr hlocks hP hS h dX6_floatBits_97
  have B43 : ∀ (M : Mm) (y0 : Int64) (y2 : Int64) (x4 : Int32) (H : Heap) (locs : List Loc) (ls : Array Slot), Rp G M H → va_S (Fr G) s.heap H locs → lv_has ls 10 [(0, .long y0), (2, .long y2), (4, .int x4)] → bX6_floatBits_43 Post M y0 y2 x4 → Wi p l e (headSpec wsX6_floatBits rX6_floatBits).room s m [.long y0a, .long y2a].toArray below meth c G Post H locs (F0 m 43 ls []) := by
    intro M y0 y2 x4 H locs ls hP hS hl h
    unfold bX6_floatBits_43 at h
    refine lv_lload_n hx hb dX6_floatBits_43 rfl (lv_at hl 0 rfl) ?_
    refine lv_iload hx hb dX6_floatBits_44 (lv_at hl 2 rfl) ?_
    refine lv_lshl (v := (y0 <<< (x4.toInt64 &&& 63))) hx hb dX6_floatBits_46 rfl ?_
    refine lv_lload_n hx hb dX6_floatBits_47 rfl (lv_at hl 1 rfl) ?_
    refine lv_ldiv hx hb dX6_floatBits_48 h.1 ?_
    replace h := h.2
    refine lv_topl (fun x5_7 ex5_7 => ?_)
    replace h := h x5_7 ex5_7
    refine lv_lstore (lv' := [(5, .long x5_7), (0, .long y0), (2, .long y2), (4, .int x4)]) hx hb dX6_floatBits_49 hl (by decide) rfl (fun ls hl => ?_)
    refine lv_lload_n hx hb dX6_floatBits_51 rfl (lv_at hl 1 rfl) ?_
    refine lv_iload hx hb dX6_floatBits_52 (lv_at hl 3 rfl) ?_
    refine lv_lshl (v := (y0 <<< (x4.toInt64 &&& 63))) hx hb dX6_floatBits_54 rfl ?_
    refine lv_lload_n hx hb dX6_floatBits_55 rfl (lv_at hl 2 rfl) ?_
    refine lv_lrem hx hb dX6_floatBits_56 h.1 ?_
    replace h := h.2
    refine lv_topl (fun x7_8 ex7_8 => ?_)
    replace h := h x7_8 ex7_8
    refine lv_lstore (lv' := [(7, .long x7_8), (5, .long x5_7), (0, .long y0), (2, .long y2), (4, .int x4)]) hx hb dX6_floatBits_57 hl (by decide) rfl (fun ls hl => ?_)
    refine lv_ldc2 hx hb hown (hts _ q_26_4) dX6_floatBits_59 ?_
    refine lv_lload hx hb dX6_floatBits_62 (lv_at hl 0 rfl) ?_
    refine lv_lmul hx hb dX6_floatBits_64 ?_
    refine lv_lload_n hx hb dX6_floatBits_65 rfl (lv_at hl 3 rfl) ?_
    refine W.lcmp hx hb dX6_floatBits_66 ?_
    refine lv_if_le (tgt := 76) hx hb dX6_floatBits_67 (by decide) (fun c9 => ?_) (fun c9 => ?_)
    · replace h := h.1 c9
      exact B76 _ _ _ _ _ _ hP hS (lv_sub hl [4, 1] rfl) h
    · replace h := h.2 c9
      refine lv_lload hx hb dX6_floatBits_70 (lv_at hl 1 rfl) ?_
      refine lv_lconst (v := (1 : Int64)) hx hb dX6_floatBits_72 (by decide) ?_
      refine lv_ladd hx hb dX6_floatBits_73 ?_
      refine lv_topl (fun x5_10 ex5_10 => ?_)
      replace h := h x5_10 ex5_10
      refine lv_lstore (lv' := [(5, .long x5_10), (7, .long x7_8), (0, .long y0), (2, .long y2), (4, .int x4)]) hx hb dX6_floatBits_74 hl (by decide) rfl (fun ls hl => ?_)
      exact B76 _ _ _ _ _ _ hP hS (lv_sub hl [4, 0] rfl) h
  have B18 : ∀ n : Nat, ∀ (M : Mm) (y0 : Int64) (y2 : Int64) (x4 : Int32) (H : Heap) (locs : List Loc) (ls : Array Slot), Rp G M H → va_S (Fr G) s.heap H locs → lv_has ls 10 [(0, .long y0), (2, .long y2), (4, .int x4)] → lX6_floatBits_18 Post n M y0 y2 x4 → Wi p l e (headSpec wsX6_floatBits rX6_floatBits).room s m [.long y0a, .long y2a].toArray below meth c G Post H locs (F0 m 18 ls []) := by
    intro n
    induction n with
    | zero => intro M y0 y2 x4 H locs ls hP hS hl h; exact h.elim
    | succ n ih =>
      intro M y0 y2 x4 H locs ls hP hS hl h
      have hA18 := ih
      replace h : bX6_floatBits_18 Post (lX6_floatBits_18 Post n) M y0 y2 x4 := h
      unfold bX6_floatBits_18 at h
      refine lv_iload hx hb dX6_floatBits_18 (lv_at hl 2 rfl) ?_
      refine lv_bipush (v := (46 : Int32)) hx hb dX6_floatBits_20 k_bipush_46 ?_
      refine lv_icmp_ge (tgt := 43) hx hb dX6_floatBits_22 (by decide) (fun c4 => ?_) (fun c4 => ?_)
      · replace h := h.1 c4
        exact B43 _ _ _ _ _ _ _ hP hS (lv_sub hl [0, 1, 2] rfl) h
      · replace h := h.2 c4
        refine lv_lload_n hx hb dX6_floatBits_25 rfl (lv_at hl 0 rfl) ?_
        refine lv_iload hx hb dX6_floatBits_26 (lv_at hl 2 rfl) ?_
        refine lv_lshl (v := (y0 <<< (x4.toInt64 &&& 63))) hx hb dX6_floatBits_28 rfl ?_
        refine lv_lload_n hx hb dX6_floatBits_29 rfl (lv_at hl 1 rfl) ?_
        refine lv_bipush (v := (23 : Int32)) hx hb dX6_floatBits_30 k_bipush_23 ?_
        refine lv_lshl (v := (y2 <<< ((23 : Int32).toInt64 &&& 63))) hx hb dX6_floatBits_32 rfl ?_
        refine W.lcmp hx hb dX6_floatBits_33 ?_
        refine lv_if_ge (tgt := 43) hx hb dX6_floatBits_34 (by decide) (fun c5 => ?_) (fun c5 => ?_)
        · replace h := h.1 c5
          exact B43 _ _ _ _ _ _ _ hP hS (lv_sub hl [0, 1, 2] rfl) h
        · replace h := h.2 c5
          obtain ⟨x4_6, ex4_6⟩ : ∃ y : Int32, y = x4 + (1 : Int32) := ⟨_, rfl⟩
          replace h := h x4_6 ex4_6
          refine lv_iinc (v := x4_6) (lv' := [(4, .int x4_6), (0, .long y0), (2, .long y2)]) hx hb dX6_floatBits_37 hl (k := 2) rfl (by rw [ex4_6]; rfl) (by decide) rfl (fun ls hl => ?_)
          refine lv_goto (tgt := 18) hx hb dX6_floatBits_40 (by decide) ?_
          exact hA18 _ _ _ _ _ _ _ hP hS (lv_sub hl [1, 2, 0] rfl) h
  unfold wX6_floatBits at h
  refine lv_lload_n hx hb dX6_floatBits_0 rfl (lv_at hl 0 rfl) ?_
  refine lv_lconst (v := (0 : Int64)) hx hb dX6_floatBits_1 (by decide) ?_
  refine W.lcmp hx hb dX6_floatBits_2 ?_
  refine lv_if_le (tgt := 12) hx hb dX6_floatBits_3 (by decide) (fun c1 => ?_) (fun c1 => ?_)
  · replace h := h.1 c1
    refine lv_iconst (v := (0 : Int32)) hx hb dX6_floatBits_12 k_iconst_0 ?_
    exact re_i hx hb hr hlocks hP hS h dX6_floatBits_13
  · replace h := h.2 c1
    refine lv_lload_n hx hb dX6_floatBits_6 rfl (lv_at hl 1 rfl) ?_
    refine lv_lconst (v := (0 : Int64)) hx hb dX6_floatBits_7 (by decide) ?_
    refine W.lcmp hx hb dX6_floatBits_8 ?_
    refine lv_if_gt (tgt := 14) hx hb dX6_floatBits_9 (by decide) (fun c2 => ?_) (fun c2 => ?_)
    · replace h := h.1 c2
      refine lv_bipush (v := (23 : Int32)) hx hb dX6_floatBits_14 k_bipush_23 ?_
      refine lv_istore (lv' := [(4, .int (23 : Int32)), (0, .long y0a), (2, .long y2a)]) hx hb dX6_floatBits_16 hl (by decide) rfl (fun ls hl => ?_)
      obtain ⟨n3, h⟩ := h
      exact B18 _ _ _ _ _ _ _ _ hP hS (lv_sub hl [1, 2, 0] rfl) h
    · replace h := h.2 c2
      refine lv_iconst (v := (0 : Int32)) hx hb dX6_floatBits_12 k_iconst_0 ?_
      exact re_i hx hb hr hlocks hP hS h dX6_floatBits_13
set_option maxHeartbeats 4000000 in
set_option maxRecDepth 100000 in
theorem mX6_share (l : Launch) (G : Gp) (j0a : Nat) (x1a : Int32) (M : Mm) (Post : Mm → Int32 → Prop) (hk_j0a : kd j0a = 6) (h : wX6_share Post M j0a x1a) : CtI l yX6_share wsX6_share rX6_share G [.ref (G.2.1 + j0a), .int x1a] M Post := by
  refine Met.ofW (cc := cX6_share) (maxL := 2) (ret := (some .int)) (by decide) rfl ?_
  intro p e s m args below meth c s₁ B hml hv
  obtain ⟨rfl, hK, hP⟩ := hv
  have hx := B.exec
  have hb := B.bytes
  have hr := B.returns
  have hlocks := B.notSynchronized
  have hts0 := atoms_spec (ws := wsX6_share) B.pre
  have hts : ∀ w ∈ wsL_law, w.before _ s = true := fun w hw => hts0 w (List.mem_cons_of_mem _ hw)
  have hown : s.vm.findClass RX6 = some m.cls := findClass_of_methodNamed B.named
  have hS : va_S (Fr G) s.heap s.heap [] := va_S.rf
  have hl := lv_entry ([.ref (G.2.1 + j0a), .int x1a]) (n := 2) (Nat.le_of_ble_eq_true rfl)
  rw [lg_entry_eq]
  generalize (lg_sl ([.ref (G.2.1 + j0a), .int x1a]) ++ List.replicate (2 - (lg_sl ([.ref (G.2.1 + j0a), .int x1a])).length) Slot.unset).toArray = ls at hl ⊢
  have hl : lv_has ls 2 [(0, .ref (G.2.1 + j0a)), (1, .int x1a)] := hl
  unfold wX6_share at h
  refine lv_iload_n hx hb dX6_share_0 rfl (lv_at hl 1 rfl) ?_
  refine lv_iconst (v := (0 : Int32)) hx hb dX6_share_1 k_iconst_0 ?_
  refine lv_iconst (v := (2 : Int32)) hx hb dX6_share_2 k_iconst_2 ?_
  refine rc_Si (As := [.int x1a, .int (0 : Int32), .int (2 : Int32)]) (rest := []) ⟨hx, hb, hml, hown, hts⟩ (mX6_isOutside l G x1a (0 : Int32) (2 : Int32) M _ h) (va_cwS 3 hts (gS_X6_isOutside q_5_8) rfl rfl rfl hdS_X6_isOutside ⟨Nat.le_of_ble_eq_true rfl, Nat.le_of_ble_eq_true rfl⟩) hK hP hS rfl hl.1 rfl (Nat.le_of_ble_eq_true rfl) dX6_share_3 ⟨Nat.zero_le _, Nat.zero_le _⟩ (fun r2 M1 H locs h hP hS => ?_)
  refine lv_if_eq (tgt := 12) hx hb dX6_share_6 (by decide) (fun c3 => ?_) (fun c3 => ?_)
  · replace h := h.1 c3
    refine lv_aload_n hx hb dX6_share_12 rfl (lv_at hl 0 rfl) ?_
    refine rk_getr hx hb hts inlX6 hown hK hP hk_j0a cl_6 0 1 fq_6_0 q_1_15 rfl dX6_share_13 ?_
    refine rk_geti hx hb hts inlX4 hown hK hP (ky_6_0 hk_j0a) cl_4 4 fq_4_4 q_25_21 rfl dX6_share_16 ?_
    refine lv_if_ne (tgt := 25) hx hb dX6_share_19 (by decide) (fun c4 => ?_) (fun c4 => ?_)
    · replace h := h.1 c4
      refine lv_iload_n hx hb dX6_share_25 rfl (lv_at hl 1 rfl) ?_
      by_cases c5 : x1a = (0 : Int32)
      · replace h := h.1 c5
        refine lv_lookup (off := 26) (tgt := 52) hx hb dX6_share_26 (by decide) (by rw [c5]; rfl) (by decide) ?_
        refine lv_aload_n hx hb dX6_share_52 rfl (lv_at hl 0 rfl) ?_
        refine rk_getr hx hb hts inlX6 hown hK hP hk_j0a cl_6 0 1 fq_6_0 q_1_15 rfl dX6_share_53 ?_
        refine rk_geti hx hb hts inlX4 hown hK hP (ky_6_0 hk_j0a) cl_4 5 fq_4_5 q_25_22 rfl dX6_share_56 ?_
        refine lv_i2l (v := (((M1 (j0a + 1) 5)).toInt64)) hx hb dX6_share_59 rfl ?_
        refine lv_aload_n hx hb dX6_share_60 rfl (lv_at hl 0 rfl) ?_
        refine rk_getr hx hb hts inlX6 hown hK hP hk_j0a cl_6 0 1 fq_6_0 q_1_15 rfl dX6_share_61 ?_
        refine rk_geti hx hb hts inlX4 hown hK hP (ky_6_0 hk_j0a) cl_4 4 fq_4_4 q_25_21 rfl dX6_share_64 ?_
        refine lv_i2l (v := (((M1 (j0a + 1) 4)).toInt64)) hx hb dX6_share_67 rfl ?_
        refine rc_Si (As := [.long (((M1 (j0a + 1) 5)).toInt64), .long (((M1 (j0a + 1) 4)).toInt64)]) (rest := []) ⟨hx, hb, hml, hown, hts⟩ (mX6_floatBits l G (((M1 (j0a + 1) 5)).toInt64) (((M1 (j0a + 1) 4)).toInt64) M1 _ h) (va_cwS 2 hts (gS_X6_floatBits q_26_1) rfl rfl rfl hdS_X6_floatBits ⟨Nat.le_of_ble_eq_true rfl, Nat.le_of_ble_eq_true rfl⟩) hK hP hS rfl hl.1 rfl (Nat.le_of_ble_eq_true rfl) dX6_share_68 ⟨Nat.zero_le _, Nat.zero_le _⟩ (fun r7 M6 H locs h hP hS => ?_)
        exact re_i hx hb hr hlocks hP hS h dX6_share_71
      replace h := h.2 c5
      by_cases c8 : x1a = (1 : Int32)
      · replace h := h.1 c8
        refine lv_lookup (off := 46) (tgt := 72) hx hb dX6_share_26 (by decide) (by rw [c8]; rfl) (by decide) ?_
        refine lv_aload_n hx hb dX6_share_72 rfl (lv_at hl 0 rfl) ?_
        refine rk_getr hx hb hts inlX6 hown hK hP hk_j0a cl_6 0 1 fq_6_0 q_1_15 rfl dX6_share_73 ?_
        refine rk_geti hx hb hts inlX4 hown hK hP (ky_6_0 hk_j0a) cl_4 6 fq_4_6 q_25_23 rfl dX6_share_76 ?_
        refine lv_i2l (v := (((M1 (j0a + 1) 6)).toInt64)) hx hb dX6_share_79 rfl ?_
        refine lv_aload_n hx hb dX6_share_80 rfl (lv_at hl 0 rfl) ?_
        refine rk_getr hx hb hts inlX6 hown hK hP hk_j0a cl_6 0 1 fq_6_0 q_1_15 rfl dX6_share_81 ?_
        refine rk_geti hx hb hts inlX4 hown hK hP (ky_6_0 hk_j0a) cl_4 4 fq_4_4 q_25_21 rfl dX6_share_84 ?_
        refine lv_i2l (v := (((M1 (j0a + 1) 4)).toInt64)) hx hb dX6_share_87 rfl ?_
        refine rc_Si (As := [.long (((M1 (j0a + 1) 6)).toInt64), .long (((M1 (j0a + 1) 4)).toInt64)]) (rest := []) ⟨hx, hb, hml, hown, hts⟩ (mX6_floatBits l G (((M1 (j0a + 1) 6)).toInt64) (((M1 (j0a + 1) 4)).toInt64) M1 _ h) (va_cwS 2 hts (gS_X6_floatBits q_26_1) rfl rfl rfl hdS_X6_floatBits ⟨Nat.le_of_ble_eq_true rfl, Nat.le_of_ble_eq_true rfl⟩) hK hP hS rfl hl.1 rfl (Nat.le_of_ble_eq_true rfl) dX6_share_88 ⟨Nat.zero_le _, Nat.zero_le _⟩ (fun r10 M9 H locs h hP hS => ?_)
        exact re_i hx hb hr hlocks hP hS h dX6_share_91
      replace h := h.2 c8
      refine lv_lookup (off := 66) (tgt := 92) hx hb dX6_share_26 (by decide) (by show Op.lookupswitch.offset [(0, 26), (1, 46)] 66 _ = _; rw [lv_osw (a := 0) c5 rfl, lv_osw (a := 1) c8 rfl]; rfl) (by decide) ?_
      refine lv_aload_n hx hb dX6_share_92 rfl (lv_at hl 0 rfl) ?_
      refine rk_getr hx hb hts inlX6 hown hK hP hk_j0a cl_6 0 1 fq_6_0 q_1_15 rfl dX6_share_93 ?_
      refine rk_geti hx hb hts inlX4 hown hK hP (ky_6_0 hk_j0a) cl_4 7 fq_4_7 q_26_0 rfl dX6_share_96 ?_
      refine lv_i2l (v := (((M1 (j0a + 1) 7)).toInt64)) hx hb dX6_share_99 rfl ?_
      refine lv_aload_n hx hb dX6_share_100 rfl (lv_at hl 0 rfl) ?_
      refine rk_getr hx hb hts inlX6 hown hK hP hk_j0a cl_6 0 1 fq_6_0 q_1_15 rfl dX6_share_101 ?_
      refine rk_geti hx hb hts inlX4 hown hK hP (ky_6_0 hk_j0a) cl_4 4 fq_4_4 q_25_21 rfl dX6_share_104 ?_
      refine lv_i2l (v := (((M1 (j0a + 1) 4)).toInt64)) hx hb dX6_share_107 rfl ?_
      refine rc_Si (As := [.long (((M1 (j0a + 1) 7)).toInt64), .long (((M1 (j0a + 1) 4)).toInt64)]) (rest := []) ⟨hx, hb, hml, hown, hts⟩ (mX6_floatBits l G (((M1 (j0a + 1) 7)).toInt64) (((M1 (j0a + 1) 4)).toInt64) M1 _ h) (va_cwS 2 hts (gS_X6_floatBits q_26_1) rfl rfl rfl hdS_X6_floatBits ⟨Nat.le_of_ble_eq_true rfl, Nat.le_of_ble_eq_true rfl⟩) hK hP hS rfl hl.1 rfl (Nat.le_of_ble_eq_true rfl) dX6_share_108 ⟨Nat.zero_le _, Nat.zero_le _⟩ (fun r12 M11 H locs h hP hS => ?_)
      exact re_i hx hb hr hlocks hP hS h dX6_share_111
    · replace h := h.2 c4
      refine lv_ldc hx hb hown (hts _ q_23_9) dX6_share_22 ?_
      exact re_i hx hb hr hlocks hP hS h dX6_share_24
  · replace h := h.2 c3
    refine lv_ldc hx hb hown (hts _ q_5_1) dX6_share_9 ?_
    exact re_i hx hb hr hlocks hP hS h dX6_share_11
set_option maxHeartbeats 4000000 in
set_option maxRecDepth 100000 in
theorem mX6_gain (l : Launch) (G : Gp) (j0a : Nat) (x1a : Int32) (M : Mm) (Post : Mm → Int32 → Prop) (hk_j0a : kd j0a = 6) (h : wX6_gain Post M j0a x1a) : CtI l yX6_gain wsX6_gain rX6_gain G [.ref (G.2.1 + j0a), .int x1a] M Post := by
  refine Met.ofW (cc := cX6_gain) (maxL := 2) (ret := (some .int)) (by decide) rfl ?_
  intro p e s m args below meth c s₁ B hml hv
  obtain ⟨rfl, hK, hP⟩ := hv
  have hx := B.exec
  have hb := B.bytes
  have hr := B.returns
  have hlocks := B.notSynchronized
  have hts0 := atoms_spec (ws := wsX6_gain) B.pre
  have hts : ∀ w ∈ wsL_law, w.before _ s = true := fun w hw => hts0 w (List.mem_cons_of_mem _ hw)
  have hown : s.vm.findClass RX6 = some m.cls := findClass_of_methodNamed B.named
  have hS : va_S (Fr G) s.heap s.heap [] := va_S.rf
  have hl := lv_entry ([.ref (G.2.1 + j0a), .int x1a]) (n := 2) (Nat.le_of_ble_eq_true rfl)
  rw [lg_entry_eq]
  generalize (lg_sl ([.ref (G.2.1 + j0a), .int x1a]) ++ List.replicate (2 - (lg_sl ([.ref (G.2.1 + j0a), .int x1a])).length) Slot.unset).toArray = ls at hl ⊢
  have hl : lv_has ls 2 [(0, .ref (G.2.1 + j0a)), (1, .int x1a)] := hl
  unfold wX6_gain at h
  refine lv_aload_n hx hb dX6_gain_0 rfl (lv_at hl 0 rfl) ?_
  refine rk_getr hx hb hts inlX6 hown hK hP hk_j0a cl_6 1 24 fq_6_1 q_1_16 rfl dX6_gain_1 ?_
  refine rk_getr hx hb hts inlX4 hown hK hP (ky_6_1 hk_j0a) cl_4 1 10 fq_4_1 q_8_11 rfl dX6_gain_4 ?_
  refine rk_getr hx hb hts inlX1 hown hK hP (ky_4_1 (ky_6_1 hk_j0a)) cl_1 6 5 fq_1_6 q_24_17 rfl dX6_gain_7 ?_
  refine lv_iload_n hx hb dX6_gain_10 rfl (lv_at hl 1 rfl) ?_
  refine rk_iald hx hb hK hP (ky_1_6 (ky_4_1 (ky_6_1 hk_j0a))) ac_9 _ rfl h.1 dX6_gain_11 ?_
  replace h := h.2
  refine lv_aload_n hx hb dX6_gain_12 rfl (lv_at hl 0 rfl) ?_
  refine rk_getr hx hb hts inlX6 hown hK hP hk_j0a cl_6 0 1 fq_6_0 q_1_15 rfl dX6_gain_13 ?_
  refine rk_getr hx hb hts inlX4 hown hK hP (ky_6_0 hk_j0a) cl_4 1 10 fq_4_1 q_8_11 rfl dX6_gain_16 ?_
  refine rk_getr hx hb hts inlX1 hown hK hP (ky_4_1 (ky_6_0 hk_j0a)) cl_1 6 5 fq_1_6 q_24_17 rfl dX6_gain_19 ?_
  refine lv_iload_n hx hb dX6_gain_22 rfl (lv_at hl 1 rfl) ?_
  refine rk_iald hx hb hK hP (ky_1_6 (ky_4_1 (ky_6_0 hk_j0a))) ac_9 _ rfl h.1 dX6_gain_23 ?_
  replace h := h.2
  refine lv_isub hx hb dX6_gain_24 ?_
  exact re_i hx hb hr hlocks hP hS h dX6_gain_25
set_option maxHeartbeats 4000000 in
set_option maxRecDepth 100000 in
theorem mX6_would (l : Launch) (G : Gp) (j0a : Nat) (x1a : Int32) (x2a : Int32) (x3a : Int32) (M : Mm) (Post : Mm → Int32 → Prop) (hk_j0a : kd j0a = 6) (h : wX6_would Post M j0a x1a x2a x3a) : CtI l yX6_would wsX6_would rX6_would G [.ref (G.2.1 + j0a), .int x1a, .int x2a, .int x3a] M Post := by
  refine Met.ofW (cc := cX6_would) (maxL := 5) (ret := (some .int)) (by decide) rfl ?_
  intro p e s m args below meth c s₁ B hml hv
  obtain ⟨rfl, hK, hP⟩ := hv
  have hx := B.exec
  have hb := B.bytes
  have hr := B.returns
  have hlocks := B.notSynchronized
  have hts0 := atoms_spec (ws := wsX6_would) B.pre
  have hts : ∀ w ∈ wsL_law, w.before _ s = true := fun w hw => hts0 w (List.mem_cons_of_mem _ hw)
  have hown : s.vm.findClass RX6 = some m.cls := findClass_of_methodNamed B.named
  have hS : va_S (Fr G) s.heap s.heap [] := va_S.rf
  have hl := lv_entry ([.ref (G.2.1 + j0a), .int x1a, .int x2a, .int x3a]) (n := 5) (Nat.le_of_ble_eq_true rfl)
  rw [lg_entry_eq]
  generalize (lg_sl ([.ref (G.2.1 + j0a), .int x1a, .int x2a, .int x3a]) ++ List.replicate (5 - (lg_sl ([.ref (G.2.1 + j0a), .int x1a, .int x2a, .int x3a])).length) Slot.unset).toArray = ls at hl ⊢
  have hl : lv_has ls 5 [(0, .ref (G.2.1 + j0a)), (1, .int x1a), (2, .int x2a), (3, .int x3a)] := hl
  have B72 : ∀ (M : Mm) (j0 : Nat) (x1 : Int32) (x2 : Int32) (x3 : Int32) (H : Heap) (locs : List Loc) (ls : Array Slot), Rp G M H → va_S (Fr G) s.heap H locs → lv_has ls 5 [(0, .ref (G.2.1 + j0)), (1, .int x1), (2, .int x2), (3, .int x3)] → kd j0 = 6 → bX6_would_72 Post M j0 x1 x2 x3 → Wi p l e (headSpec wsX6_would rX6_would).room s m [.ref (G.2.1 + j0a), .int x1a, .int x2a, .int x3a].toArray below meth c G Post H locs (F0 m 72 ls []) := by
    intro M j0 x1 x2 x3 H locs ls hP hS hl hk_j0 h
    unfold bX6_would_72 at h
    refine lv_aload_n hx hb dX6_would_72 rfl (lv_at hl 0 rfl) ?_
    refine rk_getr hx hb hts inlX6 hown hK hP hk_j0 cl_6 1 24 fq_6_1 q_1_16 rfl dX6_would_73 ?_
    refine lv_aload_n hx hb dX6_would_76 rfl (lv_at hl 0 rfl) ?_
    refine rk_getr hx hb hts inlX6 hown hK hP hk_j0 cl_6 0 1 fq_6_0 q_1_15 rfl dX6_would_77 ?_
    refine rc_Vv (As := [.ref (G.2.1 + (j0 + 1))]) (rest := []) ⟨hx, hb, hml, hown, hts⟩ (mX4_become l G (j0 + 24) (j0 + 1) M _ (ky_6_1 hk_j0) (ky_6_0 hk_j0) h) (cwV 1 hts (gV_X4_become q_27_3) rfl rfl rfl hdV_X4_become ⟨Nat.le_of_ble_eq_true rfl, Nat.le_of_ble_eq_true rfl⟩) hK hP hS (ky_6_1 hk_j0) (by decide) cl_4 rfl hl.1 rfl (Nat.le_of_ble_eq_true rfl) dX6_would_80 ⟨Nat.zero_le _, Nat.zero_le _⟩ (fun M15 H locs h hP hS => ?_)
    refine lv_aload_n hx hb dX6_would_83 rfl (lv_at hl 0 rfl) ?_
    refine rk_getr hx hb hts inlX6 hown hK hP hk_j0 cl_6 1 24 fq_6_1 q_1_16 rfl dX6_would_84 ?_
    refine rk_getr hx hb hts inlX4 hown hK hP (ky_6_1 hk_j0) cl_4 0 1 fq_4_0 q_5_0 rfl dX6_would_87 ?_
    refine lv_iload_n hx hb dX6_would_90 rfl (lv_at hl 1 rfl) ?_
    refine rk_puti hx hb hts inlX0 tyX0 tyX0_ok nmX0 hown hK hP hS (ky_4_0 (ky_6_1 hk_j0)) cl_0 1 fq_0_1 q_27_2 rfl rfl rfl dX6_would_91 (fun M17 eM17 H locs hP hS => ?_)
    replace h := h M17 eM17
    refine lv_aload_n hx hb dX6_would_94 rfl (lv_at hl 0 rfl) ?_
    refine rk_getr hx hb hts inlX6 hown hK hP hk_j0 cl_6 1 24 fq_6_1 q_1_16 rfl dX6_would_95 ?_
    refine lv_iload_n hx hb dX6_would_98 rfl (lv_at hl 2 rfl) ?_
    refine rc_Vi (As := [.int x2]) (rest := []) ⟨hx, hb, hml, hown, hts⟩ (mX4_passHour l G (j0 + 24) x2 M17 _ (ky_6_1 hk_j0) h) (cwV 1 hts (gV_X4_passHour q_17_1) rfl rfl rfl hdV_X4_passHour ⟨Nat.le_of_ble_eq_true rfl, Nat.le_of_ble_eq_true rfl⟩) hK hP hS (ky_6_1 hk_j0) (by decide) cl_4 rfl hl.1 rfl (Nat.le_of_ble_eq_true rfl) dX6_would_99 ⟨Nat.zero_le _, Nat.zero_le _⟩ (fun r19 M18 H locs h hP hS => ?_)
    refine lv_pop hx hb dX6_would_102 rfl ?_
    refine lv_iload_n hx hb dX6_would_103 rfl (lv_at hl 3 rfl) ?_
    by_cases c20 : x3 = (0 : Int32)
    · replace h := h.1 c20
      refine lv_tableIn (off := 28) (tgt := 132) hx hb dX6_would_104 (by rw [c20]; decide) (by rw [c20]; decide) (by rw [c20]; rfl) (by decide) ?_
      refine lv_aload_n hx hb dX6_would_132 rfl (lv_at hl 0 rfl) ?_
      refine rk_getr hx hb hts inlX6 hown hK hP hk_j0 cl_6 1 24 fq_6_1 q_1_16 rfl dX6_would_133 ?_
      refine rk_geti hx hb hts inlX4 hown hK hP (ky_6_1 hk_j0) cl_4 5 fq_4_5 q_25_22 rfl dX6_would_136 ?_
      refine lv_aload_n hx hb dX6_would_139 rfl (lv_at hl 0 rfl) ?_
      refine rk_getr hx hb hts inlX6 hown hK hP hk_j0 cl_6 0 1 fq_6_0 q_1_15 rfl dX6_would_140 ?_
      refine rk_geti hx hb hts inlX4 hown hK hP (ky_6_0 hk_j0) cl_4 5 fq_4_5 q_25_22 rfl dX6_would_143 ?_
      refine lv_isub hx hb dX6_would_146 ?_
      exact re_i hx hb hr hlocks hP hS h dX6_would_147
    replace h := h.2 c20
    by_cases c21 : x3 = (1 : Int32)
    · replace h := h.1 c21
      refine lv_tableIn (off := 44) (tgt := 148) hx hb dX6_would_104 (by rw [c21]; decide) (by rw [c21]; decide) (by rw [c21]; rfl) (by decide) ?_
      refine lv_aload_n hx hb dX6_would_148 rfl (lv_at hl 0 rfl) ?_
      refine rk_getr hx hb hts inlX6 hown hK hP hk_j0 cl_6 1 24 fq_6_1 q_1_16 rfl dX6_would_149 ?_
      refine rk_geti hx hb hts inlX4 hown hK hP (ky_6_1 hk_j0) cl_4 6 fq_4_6 q_25_23 rfl dX6_would_152 ?_
      refine lv_aload_n hx hb dX6_would_155 rfl (lv_at hl 0 rfl) ?_
      refine rk_getr hx hb hts inlX6 hown hK hP hk_j0 cl_6 0 1 fq_6_0 q_1_15 rfl dX6_would_156 ?_
      refine rk_geti hx hb hts inlX4 hown hK hP (ky_6_0 hk_j0) cl_4 6 fq_4_6 q_25_23 rfl dX6_would_159 ?_
      refine lv_isub hx hb dX6_would_162 ?_
      exact re_i hx hb hr hlocks hP hS h dX6_would_163
    replace h := h.2 c21
    by_cases c22 : x3 = (2 : Int32)
    · replace h := h.1 c22
      refine lv_tableIn (off := 60) (tgt := 164) hx hb dX6_would_104 (by rw [c22]; decide) (by rw [c22]; decide) (by rw [c22]; rfl) (by decide) ?_
      refine lv_aload_n hx hb dX6_would_164 rfl (lv_at hl 0 rfl) ?_
      refine rk_getr hx hb hts inlX6 hown hK hP hk_j0 cl_6 1 24 fq_6_1 q_1_16 rfl dX6_would_165 ?_
      refine rk_geti hx hb hts inlX4 hown hK hP (ky_6_1 hk_j0) cl_4 7 fq_4_7 q_26_0 rfl dX6_would_168 ?_
      refine lv_aload_n hx hb dX6_would_171 rfl (lv_at hl 0 rfl) ?_
      refine rk_getr hx hb hts inlX6 hown hK hP hk_j0 cl_6 0 1 fq_6_0 q_1_15 rfl dX6_would_172 ?_
      refine rk_geti hx hb hts inlX4 hown hK hP (ky_6_0 hk_j0) cl_4 7 fq_4_7 q_26_0 rfl dX6_would_175 ?_
      refine lv_isub hx hb dX6_would_178 ?_
      exact re_i hx hb hr hlocks hP hS h dX6_would_179
    replace h := h.2 c22
    refine lv_tableOut (tgt := 180) hx hb dX6_would_104 (by have gc20 := lv_neT c20 (show (0 : Int32).toInt = 0 from rfl); have gc21 := lv_neT c21 (show (1 : Int32).toInt = 1 from rfl); have gc22 := lv_neT c22 (show (2 : Int32).toInt = 2 from rfl); omega) (by decide) ?_
    refine lv_aload_n hx hb dX6_would_180 rfl (lv_at hl 0 rfl) ?_
    refine lv_iload_n hx hb dX6_would_181 rfl (lv_at hl 3 rfl) ?_
    refine lv_bipush (v := (10 : Int32)) hx hb dX6_would_182 k_bipush_10 ?_
    refine lv_isub hx hb dX6_would_184 ?_
    refine rc_Vi (As := [.int (x3 - (10 : Int32))]) (rest := []) ⟨hx, hb, hml, hown, hts⟩ (mX6_gain l G j0 (x3 - (10 : Int32)) M18 _ hk_j0 h) (cwV 1 hts (gV_X6_gain q_27_4) rfl rfl rfl hdV_X6_gain ⟨Nat.le_of_ble_eq_true rfl, Nat.le_of_ble_eq_true rfl⟩) hK hP hS hk_j0 (by decide) cl_6 rfl hl.1 rfl (Nat.le_of_ble_eq_true rfl) dX6_would_185 ⟨Nat.zero_le _, Nat.zero_le _⟩ (fun r24 M23 H locs h hP hS => ?_)
    exact re_i hx hb hr hlocks hP hS h dX6_would_188
  have B28 : ∀ (M : Mm) (j0 : Nat) (x1 : Int32) (x2 : Int32) (x3 : Int32) (t0 : Int32) (H : Heap) (locs : List Loc) (ls : Array Slot), Rp G M H → va_S (Fr G) s.heap H locs → lv_has ls 5 [(0, .ref (G.2.1 + j0)), (1, .int x1), (2, .int x2), (3, .int x3)] → kd j0 = 6 → bX6_would_28 Post M j0 x1 x2 x3 t0 → Wi p l e (headSpec wsX6_would rX6_would).room s m [.ref (G.2.1 + j0a), .int x1a, .int x2a, .int x3a].toArray below meth c G Post H locs (F0 m 28 ls [.int t0]) := by
    intro M j0 x1 x2 x3 t0 H locs ls hP hS hl hk_j0 h
    unfold bX6_would_28 at h
    refine lv_istore (lv' := [(4, .int t0), (0, .ref (G.2.1 + j0)), (1, .int x1), (2, .int x2), (3, .int x3)]) hx hb dX6_would_28 hl (by decide) rfl (fun ls hl => ?_)
    refine lv_aload_n hx hb dX6_would_30 rfl (lv_at hl 1 rfl) ?_
    refine rk_getr hx hb hts inlX6 hown hK hP hk_j0 cl_6 0 1 fq_6_0 q_1_15 rfl dX6_would_31 ?_
    refine rk_getr hx hb hts inlX4 hown hK hP (ky_6_0 hk_j0) cl_4 0 1 fq_4_0 q_5_0 rfl dX6_would_34 ?_
    refine lv_iload_n hx hb dX6_would_37 rfl (lv_at hl 2 rfl) ?_
    refine rc_Vi (As := [.int x1]) (rest := []) ⟨hx, hb, hml, hown, hts⟩ (mX0_areGates l G ((j0 + 1) + 1) x1 M _ (ky_4_0 (ky_6_0 hk_j0)) h) (cwV 1 hts (gV_X0_areGates q_15_5) rfl rfl rfl hdV_X0_areGates ⟨Nat.le_of_ble_eq_true rfl, Nat.le_of_ble_eq_true rfl⟩) hK hP hS (ky_4_0 (ky_6_0 hk_j0)) (by decide) cl_0 rfl hl.1 rfl (Nat.le_of_ble_eq_true rfl) dX6_would_38 ⟨Nat.zero_le _, Nat.zero_le _⟩ (fun r6 M5 H locs h hP hS => ?_)
    refine lv_if_eq (tgt := 69) hx hb dX6_would_41 (by decide) (fun c7 => ?_) (fun c7 => ?_)
    · replace h := h.1 c7
      refine lv_ldc hx hb hown (hts _ q_5_1) dX6_would_69 ?_
      exact re_i hx hb hr hlocks hP hS h dX6_would_71
    · replace h := h.2 c7
      refine lv_iload_n hx hb dX6_would_44 rfl (lv_at hl 3 rfl) ?_
      refine lv_iconst (v := (0 : Int32)) hx hb dX6_would_45 k_iconst_0 ?_
      refine lv_sipush (v := (999 : Int32)) hx hb dX6_would_46 k_sipush_999 ?_
      refine rc_Si (As := [.int x2, .int (0 : Int32), .int (999 : Int32)]) (rest := []) ⟨hx, hb, hml, hown, hts⟩ (mX6_isOutside l G x2 (0 : Int32) (999 : Int32) M5 _ h) (va_cwS 3 hts (gS_X6_isOutside q_5_8) rfl rfl rfl hdS_X6_isOutside ⟨Nat.le_of_ble_eq_true rfl, Nat.le_of_ble_eq_true rfl⟩) hK hP hS rfl hl.1 rfl (Nat.le_of_ble_eq_true rfl) dX6_would_49 ⟨Nat.zero_le _, Nat.zero_le _⟩ (fun r9 M8 H locs h hP hS => ?_)
      refine lv_if_ne (tgt := 69) hx hb dX6_would_52 (by decide) (fun c10 => ?_) (fun c10 => ?_)
      · replace h := h.1 c10
        refine lv_ldc hx hb hown (hts _ q_5_1) dX6_would_69 ?_
        exact re_i hx hb hr hlocks hP hS h dX6_would_71
      · replace h := h.2 c10
        refine lv_iload_n hx hb dX6_would_55 rfl (lv_at hl 4 rfl) ?_
        refine lv_iconst (v := (0 : Int32)) hx hb dX6_would_56 k_iconst_0 ?_
        refine lv_iconst (v := (2 : Int32)) hx hb dX6_would_57 k_iconst_2 ?_
        refine rc_Si (As := [.int x3, .int (0 : Int32), .int (2 : Int32)]) (rest := []) ⟨hx, hb, hml, hown, hts⟩ (mX6_isOutside l G x3 (0 : Int32) (2 : Int32) M8 _ h) (va_cwS 3 hts (gS_X6_isOutside q_5_8) rfl rfl rfl hdS_X6_isOutside ⟨Nat.le_of_ble_eq_true rfl, Nat.le_of_ble_eq_true rfl⟩) hK hP hS rfl hl.1 rfl (Nat.le_of_ble_eq_true rfl) dX6_would_58 ⟨Nat.zero_le _, Nat.zero_le _⟩ (fun r12 M11 H locs h hP hS => ?_)
        refine lv_if_eq (tgt := 72) hx hb dX6_would_61 (by decide) (fun c13 => ?_) (fun c13 => ?_)
        · replace h := h.1 c13
          exact B72 _ _ _ _ _ _ _ _ hP hS (lv_sub hl [1, 2, 3, 4] rfl) hk_j0 h
        · replace h := h.2 c13
          refine lv_iload hx hb dX6_would_64 (lv_at hl 0 rfl) ?_
          refine lv_if_ne (tgt := 72) hx hb dX6_would_66 (by decide) (fun c14 => ?_) (fun c14 => ?_)
          · replace h := h.1 c14
            exact B72 _ _ _ _ _ _ _ _ hP hS (lv_sub hl [1, 2, 3, 4] rfl) hk_j0 h
          · replace h := h.2 c14
            refine lv_ldc hx hb hown (hts _ q_5_1) dX6_would_69 ?_
            exact re_i hx hb hr hlocks hP hS h dX6_would_71
  have B27 : ∀ (M : Mm) (j0 : Nat) (x1 : Int32) (x2 : Int32) (x3 : Int32) (H : Heap) (locs : List Loc) (ls : Array Slot), Rp G M H → va_S (Fr G) s.heap H locs → lv_has ls 5 [(0, .ref (G.2.1 + j0)), (1, .int x1), (2, .int x2), (3, .int x3)] → kd j0 = 6 → bX6_would_27 Post M j0 x1 x2 x3 → Wi p l e (headSpec wsX6_would rX6_would).room s m [.ref (G.2.1 + j0a), .int x1a, .int x2a, .int x3a].toArray below meth c G Post H locs (F0 m 27 ls []) := by
    intro M j0 x1 x2 x3 H locs ls hP hS hl hk_j0 h
    unfold bX6_would_27 at h
    refine lv_iconst (v := (0 : Int32)) hx hb dX6_would_27 k_iconst_0 ?_
    exact B28 _ _ _ _ _ _ _ _ _ hP hS (lv_sub hl [0, 1, 2, 3] rfl) hk_j0 h
  unfold wX6_would at h
  refine lv_iload_n hx hb dX6_would_0 rfl (lv_at hl 3 rfl) ?_
  refine lv_bipush (v := (10 : Int32)) hx hb dX6_would_1 k_bipush_10 ?_
  refine lv_icmp_lt (tgt := 27) hx hb dX6_would_3 (by decide) (fun c1 => ?_) (fun c1 => ?_)
  · replace h := h.1 c1
    exact B27 _ _ _ _ _ _ _ _ hP hS (lv_sub hl [0, 1, 2, 3] rfl) hk_j0a h
  · replace h := h.2 c1
    refine lv_aload_n hx hb dX6_would_6 rfl (lv_at hl 0 rfl) ?_
    refine rk_getr hx hb hts inlX6 hown hK hP hk_j0a cl_6 0 1 fq_6_0 q_1_15 rfl dX6_would_7 ?_
    refine rk_getr hx hb hts inlX4 hown hK hP (ky_6_0 hk_j0a) cl_4 1 10 fq_4_1 q_8_11 rfl dX6_would_10 ?_
    refine lv_iload_n hx hb dX6_would_13 rfl (lv_at hl 3 rfl) ?_
    refine lv_bipush (v := (10 : Int32)) hx hb dX6_would_14 k_bipush_10 ?_
    refine lv_isub hx hb dX6_would_16 ?_
    refine rc_Vi (As := [.int (x3a - (10 : Int32))]) (rest := []) ⟨hx, hb, hml, hown, hts⟩ (mX1_has l G ((j0a + 1) + 10) (x3a - (10 : Int32)) M _ (ky_4_1 (ky_6_0 hk_j0a)) h) (cwV 1 hts (gV_X1_has q_12_17) rfl rfl rfl hdV_X1_has ⟨Nat.le_of_ble_eq_true rfl, Nat.le_of_ble_eq_true rfl⟩) hK hP hS (ky_4_1 (ky_6_0 hk_j0a)) (by decide) cl_1 rfl hl.1 rfl (Nat.le_of_ble_eq_true rfl) dX6_would_17 ⟨Nat.zero_le _, Nat.zero_le _⟩ (fun r3 M2 H locs h hP hS => ?_)
    refine lv_if_eq (tgt := 27) hx hb dX6_would_20 (by decide) (fun c4 => ?_) (fun c4 => ?_)
    · replace h := h.1 c4
      exact B27 _ _ _ _ _ _ _ _ hP hS (lv_sub hl [0, 1, 2, 3] rfl) hk_j0a h
    · replace h := h.2 c4
      refine lv_iconst (v := (1 : Int32)) hx hb dX6_would_23 k_iconst_1 ?_
      refine lv_goto (tgt := 28) hx hb dX6_would_24 (by decide) ?_
      exact B28 _ _ _ _ _ _ _ _ _ hP hS (lv_sub hl [0, 1, 2, 3] rfl) hk_j0a h
set_option maxHeartbeats 4000000 in
set_option maxRecDepth 100000 in
theorem mX6_wouldServe (l : Launch) (G : Gp) (j0a : Nat) (x1a : Int32) (x2a : Int32) (x3a : Int32) (x4a : Int32) (M : Mm) (Post : Mm → Int32 → Prop) (hk_j0a : kd j0a = 6) (h : wX6_wouldServe Post M j0a x1a x2a x3a x4a) : CtI l yX6_wouldServe wsX6_wouldServe rX6_wouldServe G [.ref (G.2.1 + j0a), .int x1a, .int x2a, .int x3a, .int x4a] M Post := by
  refine Met.ofW (cc := cX6_wouldServe) (maxL := 6) (ret := (some .boolean)) (by decide) rfl ?_
  intro p e s m args below meth c s₁ B hml hv
  obtain ⟨rfl, hK, hP⟩ := hv
  have hx := B.exec
  have hb := B.bytes
  have hr := B.returns
  have hlocks := B.notSynchronized
  have hts0 := atoms_spec (ws := wsX6_wouldServe) B.pre
  have hts : ∀ w ∈ wsL_law, w.before _ s = true := fun w hw => hts0 w (List.mem_cons_of_mem _ hw)
  have hown : s.vm.findClass RX6 = some m.cls := findClass_of_methodNamed B.named
  have hS : va_S (Fr G) s.heap s.heap [] := va_S.rf
  have hl := lv_entry ([.ref (G.2.1 + j0a), .int x1a, .int x2a, .int x3a, .int x4a]) (n := 6) (Nat.le_of_ble_eq_true rfl)
  rw [lg_entry_eq]
  generalize (lg_sl ([.ref (G.2.1 + j0a), .int x1a, .int x2a, .int x3a, .int x4a]) ++ List.replicate (6 - (lg_sl ([.ref (G.2.1 + j0a), .int x1a, .int x2a, .int x3a, .int x4a])).length) Slot.unset).toArray = ls at hl ⊢
  have hl : lv_has ls 6 [(0, .ref (G.2.1 + j0a)), (1, .int x1a), (2, .int x2a), (3, .int x3a), (4, .int x4a)] := hl
  have B62 : ∀ (M : Mm) (j0 : Nat) (x1 : Int32) (H : Heap) (locs : List Loc) (ls : Array Slot), Rp G M H → va_S (Fr G) s.heap H locs → lv_has ls 6 [(0, .ref (G.2.1 + j0)), (1, .int x1)] → kd j0 = 6 → bX6_wouldServe_62 Post M j0 x1 → Wi p l e (headSpec wsX6_wouldServe rX6_wouldServe).room s m [.ref (G.2.1 + j0a), .int x1a, .int x2a, .int x3a, .int x4a].toArray below meth c G Post H locs (F0 m 62 ls []) := by
    intro M j0 x1 H locs ls hP hS hl hk_j0 h
    unfold bX6_wouldServe_62 at h
    refine lv_aload_n hx hb dX6_wouldServe_62 rfl (lv_at hl 0 rfl) ?_
    refine rk_getr hx hb hts inlX6 hown hK hP hk_j0 cl_6 1 24 fq_6_1 q_1_16 rfl dX6_wouldServe_63 ?_
    refine rk_getr hx hb hts inlX4 hown hK hP (ky_6_1 hk_j0) cl_4 1 10 fq_4_1 q_8_11 rfl dX6_wouldServe_66 ?_
    refine rc_Vi (As := []) (rest := []) ⟨hx, hb, hml, hown, hts⟩ (mX1_wanting l G ((j0 + 24) + 10) M _ (ky_4_1 (ky_6_1 hk_j0)) h) (cwV 0 hts (gV_X1_wanting q_28_10) rfl rfl rfl hdV_X1_wanting ⟨Nat.le_of_ble_eq_true rfl, Nat.le_of_ble_eq_true rfl⟩) hK hP hS (ky_4_1 (ky_6_1 hk_j0)) (by decide) cl_1 rfl hl.1 rfl (Nat.le_of_ble_eq_true rfl) dX6_wouldServe_69 ⟨Nat.zero_le _, Nat.zero_le _⟩ (fun r13 M12 H locs h hP hS => ?_)
    refine lv_iload_n hx hb dX6_wouldServe_72 rfl (lv_at hl 1 rfl) ?_
    refine lv_iand hx hb dX6_wouldServe_73 ?_
    refine lv_if_ne (tgt := 81) hx hb dX6_wouldServe_74 (by decide) (fun c14 => ?_) (fun c14 => ?_)
    · replace h := h.1 c14
      refine lv_iconst (v := (0 : Int32)) hx hb dX6_wouldServe_81 k_iconst_0 ?_
      exact re_z hx hb hr hlocks (Or.inl rfl) hP hS h dX6_wouldServe_82
    · replace h := h.2 c14
      refine lv_iconst (v := (1 : Int32)) hx hb dX6_wouldServe_77 k_iconst_1 ?_
      refine lv_goto (tgt := 82) hx hb dX6_wouldServe_78 (by decide) ?_
      exact re_z hx hb hr hlocks (Or.inr rfl) hP hS h dX6_wouldServe_82
  have B25 : ∀ n : Nat, ∀ (M : Mm) (j0 : Nat) (x1 : Int32) (x3 : Int32) (x4 : Int32) (x5 : Int32) (H : Heap) (locs : List Loc) (ls : Array Slot), Rp G M H → va_S (Fr G) s.heap H locs → lv_has ls 6 [(0, .ref (G.2.1 + j0)), (1, .int x1), (3, .int x3), (4, .int x4), (5, .int x5)] → kd j0 = 6 → lX6_wouldServe_25 Post n M j0 x1 x3 x4 x5 → Wi p l e (headSpec wsX6_wouldServe rX6_wouldServe).room s m [.ref (G.2.1 + j0a), .int x1a, .int x2a, .int x3a, .int x4a].toArray below meth c G Post H locs (F0 m 25 ls []) := by
    intro n
    induction n with
    | zero => intro M j0 x1 x3 x4 x5 H locs ls hP hS hl hk_j0 h; exact h.elim
    | succ n ih =>
      intro M j0 x1 x3 x4 x5 H locs ls hP hS hl hk_j0 h
      have hA25 := ih
      replace h : bX6_wouldServe_25 Post (lX6_wouldServe_25 Post n) M j0 x1 x3 x4 x5 := h
      unfold bX6_wouldServe_25 at h
      refine lv_iload hx hb dX6_wouldServe_25 (lv_at hl 4 rfl) ?_
      refine lv_iload hx hb dX6_wouldServe_27 (lv_at hl 3 rfl) ?_
      refine lv_icmp_ge (tgt := 62) hx hb dX6_wouldServe_29 (by decide) (fun c5 => ?_) (fun c5 => ?_)
      · replace h := h.1 c5
        exact B62 _ _ _ _ _ _ hP hS (lv_sub hl [0, 1] rfl) hk_j0 h
      · replace h := h.2 c5
        refine lv_aload_n hx hb dX6_wouldServe_32 rfl (lv_at hl 0 rfl) ?_
        refine rk_getr hx hb hts inlX6 hown hK hP hk_j0 cl_6 1 24 fq_6_1 q_1_16 rfl dX6_wouldServe_33 ?_
        refine rk_getr hx hb hts inlX4 hown hK hP (ky_6_1 hk_j0) cl_4 1 10 fq_4_1 q_8_11 rfl dX6_wouldServe_36 ?_
        refine rc_Vi (As := []) (rest := []) ⟨hx, hb, hml, hown, hts⟩ (mX1_wanting l G ((j0 + 24) + 10) M _ (ky_4_1 (ky_6_1 hk_j0)) h) (cwV 0 hts (gV_X1_wanting q_28_10) rfl rfl rfl hdV_X1_wanting ⟨Nat.le_of_ble_eq_true rfl, Nat.le_of_ble_eq_true rfl⟩) hK hP hS (ky_4_1 (ky_6_1 hk_j0)) (by decide) cl_1 rfl hl.1 rfl (Nat.le_of_ble_eq_true rfl) dX6_wouldServe_39 ⟨Nat.zero_le _, Nat.zero_le _⟩ (fun r7 M6 H locs h hP hS => ?_)
        refine lv_iload_n hx hb dX6_wouldServe_42 rfl (lv_at hl 1 rfl) ?_
        refine lv_iand hx hb dX6_wouldServe_43 ?_
        refine lv_if_eq (tgt := 62) hx hb dX6_wouldServe_44 (by decide) (fun c8 => ?_) (fun c8 => ?_)
        · replace h := h.1 c8
          exact B62 _ _ _ _ _ _ hP hS (lv_sub hl [0, 1] rfl) hk_j0 h
        · replace h := h.2 c8
          refine lv_aload_n hx hb dX6_wouldServe_47 rfl (lv_at hl 0 rfl) ?_
          refine rk_getr hx hb hts inlX6 hown hK hP hk_j0 cl_6 1 24 fq_6_1 q_1_16 rfl dX6_wouldServe_48 ?_
          refine lv_iload_n hx hb dX6_wouldServe_51 rfl (lv_at hl 2 rfl) ?_
          refine rc_Vi (As := [.int x3]) (rest := []) ⟨hx, hb, hml, hown, hts⟩ (mX4_passHour l G (j0 + 24) x3 M6 _ (ky_6_1 hk_j0) h) (cwV 1 hts (gV_X4_passHour q_17_1) rfl rfl rfl hdV_X4_passHour ⟨Nat.le_of_ble_eq_true rfl, Nat.le_of_ble_eq_true rfl⟩) hK hP hS (ky_6_1 hk_j0) (by decide) cl_4 rfl hl.1 rfl (Nat.le_of_ble_eq_true rfl) dX6_wouldServe_52 ⟨Nat.zero_le _, Nat.zero_le _⟩ (fun r10 M9 H locs h hP hS => ?_)
          refine lv_pop hx hb dX6_wouldServe_55 rfl ?_
          obtain ⟨x5_11, ex5_11⟩ : ∃ y : Int32, y = x5 + (1 : Int32) := ⟨_, rfl⟩
          replace h := h x5_11 ex5_11
          refine lv_iinc (v := x5_11) (lv' := [(5, .int x5_11), (0, .ref (G.2.1 + j0)), (1, .int x1), (3, .int x3), (4, .int x4)]) hx hb dX6_wouldServe_56 hl (k := 4) rfl (by rw [ex5_11]; rfl) (by decide) rfl (fun ls hl => ?_)
          refine lv_goto (tgt := 25) hx hb dX6_wouldServe_59 (by decide) ?_
          exact hA25 _ _ _ _ _ _ _ _ _ hP hS (lv_sub hl [1, 2, 3, 4, 0] rfl) hk_j0 h
  unfold wX6_wouldServe at h
  refine lv_aload_n hx hb dX6_wouldServe_0 rfl (lv_at hl 0 rfl) ?_
  refine rk_getr hx hb hts inlX6 hown hK hP hk_j0a cl_6 1 24 fq_6_1 q_1_16 rfl dX6_wouldServe_1 ?_
  refine lv_aload_n hx hb dX6_wouldServe_4 rfl (lv_at hl 0 rfl) ?_
  refine rk_getr hx hb hts inlX6 hown hK hP hk_j0a cl_6 0 1 fq_6_0 q_1_15 rfl dX6_wouldServe_5 ?_
  refine rc_Vv (As := [.ref (G.2.1 + (j0a + 1))]) (rest := []) ⟨hx, hb, hml, hown, hts⟩ (mX4_become l G (j0a + 24) (j0a + 1) M _ (ky_6_1 hk_j0a) (ky_6_0 hk_j0a) h) (cwV 1 hts (gV_X4_become q_27_3) rfl rfl rfl hdV_X4_become ⟨Nat.le_of_ble_eq_true rfl, Nat.le_of_ble_eq_true rfl⟩) hK hP hS (ky_6_1 hk_j0a) (by decide) cl_4 rfl hl.1 rfl (Nat.le_of_ble_eq_true rfl) dX6_wouldServe_8 ⟨Nat.zero_le _, Nat.zero_le _⟩ (fun M1 H locs h hP hS => ?_)
  refine lv_aload_n hx hb dX6_wouldServe_11 rfl (lv_at hl 0 rfl) ?_
  refine rk_getr hx hb hts inlX6 hown hK hP hk_j0a cl_6 1 24 fq_6_1 q_1_16 rfl dX6_wouldServe_12 ?_
  refine rk_getr hx hb hts inlX4 hown hK hP (ky_6_1 hk_j0a) cl_4 0 1 fq_4_0 q_5_0 rfl dX6_wouldServe_15 ?_
  refine lv_iload_n hx hb dX6_wouldServe_18 rfl (lv_at hl 2 rfl) ?_
  refine rk_puti hx hb hts inlX0 tyX0 tyX0_ok nmX0 hown hK hP hS (ky_4_0 (ky_6_1 hk_j0a)) cl_0 1 fq_0_1 q_27_2 rfl rfl rfl dX6_wouldServe_19 (fun M3 eM3 H locs hP hS => ?_)
  replace h := h M3 eM3
  refine lv_iconst (v := (0 : Int32)) hx hb dX6_wouldServe_22 k_iconst_0 ?_
  refine lv_istore (lv' := [(5, .int (0 : Int32)), (0, .ref (G.2.1 + j0a)), (1, .int x1a), (2, .int x2a), (3, .int x3a), (4, .int x4a)]) hx hb dX6_wouldServe_23 hl (by decide) rfl (fun ls hl => ?_)
  obtain ⟨n4, h⟩ := h
  exact B25 _ _ _ _ _ _ _ _ _ _ hP hS (lv_sub hl [1, 2, 4, 5, 0] rfl) hk_j0a h
set_option maxHeartbeats 4000000 in
set_option maxRecDepth 100000 in
theorem mX6_leastGates (l : Launch) (G : Gp) (j0a : Nat) (x1a : Int32) (x2a : Int32) (x3a : Int32) (M : Mm) (Post : Mm → Int32 → Prop) (hk_j0a : kd j0a = 6) (h : wX6_leastGates Post M j0a x1a x2a x3a) : CtI l yX6_leastGates wsX6_leastGates rX6_leastGates G [.ref (G.2.1 + j0a), .int x1a, .int x2a, .int x3a] M Post := by
  refine Met.ofW (cc := cX6_leastGates) (maxL := 8) (ret := (some .int)) (by decide) rfl ?_
  intro p e s m args below meth c s₁ B hml hv
  obtain ⟨rfl, hK, hP⟩ := hv
  have hx := B.exec
  have hb := B.bytes
  have hr := B.returns
  have hlocks := B.notSynchronized
  have hts0 := atoms_spec (ws := wsX6_leastGates) B.pre
  have hts : ∀ w ∈ wsL_law, w.before _ s = true := fun w hw => hts0 w (List.mem_cons_of_mem _ hw)
  have hown : s.vm.findClass RX6 = some m.cls := findClass_of_methodNamed B.named
  have hS : va_S (Fr G) s.heap s.heap [] := va_S.rf
  have hl := lv_entry ([.ref (G.2.1 + j0a), .int x1a, .int x2a, .int x3a]) (n := 8) (Nat.le_of_ble_eq_true rfl)
  rw [lg_entry_eq]
  generalize (lg_sl ([.ref (G.2.1 + j0a), .int x1a, .int x2a, .int x3a]) ++ List.replicate (8 - (lg_sl ([.ref (G.2.1 + j0a), .int x1a, .int x2a, .int x3a])).length) Slot.unset).toArray = ls at hl ⊢
  have hl : lv_has ls 8 [(0, .ref (G.2.1 + j0a)), (1, .int x1a), (2, .int x2a), (3, .int x3a)] := hl
  have B88 : ∀ (A56 : Mm → Nat → Int32 → Int32 → Int32 → Int32 → Int32 → Int32 → Prop) (_ : ∀ (M : Mm) (j0 : Nat) (x1 : Int32) (x2 : Int32) (x3 : Int32) (x4 : Int32) (x5 : Int32) (x6 : Int32) (H : Heap) (locs : List Loc) (ls : Array Slot), Rp G M H → va_S (Fr G) s.heap H locs → lv_has ls 8 [(0, .ref (G.2.1 + j0)), (1, .int x1), (2, .int x2), (3, .int x3), (4, .int x4), (5, .int x5), (6, .int x6)] → kd j0 = 6 → A56 M j0 x1 x2 x3 x4 x5 x6 → Wi p l e (headSpec wsX6_leastGates rX6_leastGates).room s m [.ref (G.2.1 + j0a), .int x1a, .int x2a, .int x3a].toArray below meth c G Post H locs (F0 m 56 ls [])), ∀ (M : Mm) (j0 : Nat) (x1 : Int32) (x2 : Int32) (x3 : Int32) (x4 : Int32) (x5 : Int32) (x6 : Int32) (t0 : Int32) (H : Heap) (locs : List Loc) (ls : Array Slot), Rp G M H → va_S (Fr G) s.heap H locs → lv_has ls 8 [(0, .ref (G.2.1 + j0)), (1, .int x1), (2, .int x2), (3, .int x3), (4, .int x4), (5, .int x5), (6, .int x6)] → kd j0 = 6 → bX6_leastGates_88 Post A56 M j0 x1 x2 x3 x4 x5 x6 t0 → Wi p l e (headSpec wsX6_leastGates rX6_leastGates).room s m [.ref (G.2.1 + j0a), .int x1a, .int x2a, .int x3a].toArray below meth c G Post H locs (F0 m 88 ls [.int t0]) := by
    intro A56 hA56 M j0 x1 x2 x3 x4 x5 x6 t0 H locs ls hP hS hl hk_j0 h
    unfold bX6_leastGates_88 at h
    refine lv_istore (lv' := [(7, .int t0), (0, .ref (G.2.1 + j0)), (1, .int x1), (2, .int x2), (3, .int x3), (4, .int x4), (5, .int x5), (6, .int x6)]) hx hb dX6_leastGates_88 hl (by decide) rfl (fun ls hl => ?_)
    refine lv_iload hx hb dX6_leastGates_90 (lv_at hl 0 rfl) ?_
    refine lv_if_eq (tgt := 111) hx hb dX6_leastGates_92 (by decide) (fun c20 => ?_) (fun c20 => ?_)
    · replace h := h.1 c20
      obtain ⟨x6_21, ex6_21⟩ : ∃ y : Int32, y = x6 + (2 : Int32) := ⟨_, rfl⟩
      replace h := h x6_21 ex6_21
      refine lv_iinc (v := x6_21) (lv' := [(6, .int x6_21), (7, .int t0), (0, .ref (G.2.1 + j0)), (1, .int x1), (2, .int x2), (3, .int x3), (4, .int x4), (5, .int x5)]) hx hb dX6_leastGates_111 hl (k := 7) rfl (by rw [ex6_21]; rfl) (by decide) rfl (fun ls hl => ?_)
      refine lv_goto (tgt := 56) hx hb dX6_leastGates_114 (by decide) ?_
      exact hA56 _ _ _ _ _ _ _ _ _ _ _ hP hS (lv_sub hl [2, 3, 4, 5, 6, 7, 0] rfl) hk_j0 h
    · replace h := h.2 c20
      refine lv_aload_n hx hb dX6_leastGates_95 rfl (lv_at hl 1 rfl) ?_
      refine lv_iload_n hx hb dX6_leastGates_96 rfl (lv_at hl 2 rfl) ?_
      refine lv_iload hx hb dX6_leastGates_97 (lv_at hl 7 rfl) ?_
      refine lv_iload_n hx hb dX6_leastGates_99 rfl (lv_at hl 3 rfl) ?_
      refine lv_iload_n hx hb dX6_leastGates_100 rfl (lv_at hl 4 rfl) ?_
      refine rc_Vi (As := [.int x1, .int x6, .int x2, .int x3]) (rest := []) ⟨hx, hb, hml, hown, hts⟩ (mX6_wouldServe l G j0 x1 x6 x2 x3 M _ hk_j0 h) (cwV 4 hts (gV_X6_wouldServe q_28_6) rfl rfl rfl hdV_X6_wouldServe ⟨Nat.le_of_ble_eq_true rfl, Nat.le_of_ble_eq_true rfl⟩) hK hP hS hk_j0 (by decide) cl_6 rfl hl.1 rfl (Nat.le_of_ble_eq_true rfl) dX6_leastGates_101 ⟨Nat.zero_le _, Nat.zero_le _⟩ (fun r23 M22 H locs h hP hS => ?_)
      refine lv_if_eq (tgt := 111) hx hb dX6_leastGates_104 (by decide) (fun c24 => ?_) (fun c24 => ?_)
      · replace h := h.1 c24
        obtain ⟨x6_25, ex6_25⟩ : ∃ y : Int32, y = x6 + (2 : Int32) := ⟨_, rfl⟩
        replace h := h x6_25 ex6_25
        refine lv_iinc (v := x6_25) (lv' := [(6, .int x6_25), (7, .int t0), (0, .ref (G.2.1 + j0)), (1, .int x1), (2, .int x2), (3, .int x3), (4, .int x4), (5, .int x5)]) hx hb dX6_leastGates_111 hl (k := 7) rfl (by rw [ex6_25]; rfl) (by decide) rfl (fun ls hl => ?_)
        refine lv_goto (tgt := 56) hx hb dX6_leastGates_114 (by decide) ?_
        exact hA56 _ _ _ _ _ _ _ _ _ _ _ hP hS (lv_sub hl [2, 3, 4, 5, 6, 7, 0] rfl) hk_j0 h
      · replace h := h.2 c24
        refine lv_iload hx hb dX6_leastGates_107 (lv_at hl 7 rfl) ?_
        refine lv_istore (lv' := [(4, .int x6), (7, .int t0), (0, .ref (G.2.1 + j0)), (1, .int x1), (2, .int x2), (3, .int x3), (5, .int x5), (6, .int x6)]) hx hb dX6_leastGates_109 hl (by decide) rfl (fun ls hl => ?_)
        obtain ⟨x6_26, ex6_26⟩ : ∃ y : Int32, y = x6 + (2 : Int32) := ⟨_, rfl⟩
        replace h := h x6_26 ex6_26
        refine lv_iinc (v := x6_26) (lv' := [(6, .int x6_26), (4, .int x6), (7, .int t0), (0, .ref (G.2.1 + j0)), (1, .int x1), (2, .int x2), (3, .int x3), (5, .int x5)]) hx hb dX6_leastGates_111 hl (k := 7) rfl (by rw [ex6_26]; rfl) (by decide) rfl (fun ls hl => ?_)
        refine lv_goto (tgt := 56) hx hb dX6_leastGates_114 (by decide) ?_
        exact hA56 _ _ _ _ _ _ _ _ _ _ _ hP hS (lv_sub hl [3, 4, 5, 6, 1, 7, 0] rfl) hk_j0 h
  have B56 : ∀ n : Nat, ∀ (M : Mm) (j0 : Nat) (x1 : Int32) (x2 : Int32) (x3 : Int32) (x4 : Int32) (x5 : Int32) (x6 : Int32) (H : Heap) (locs : List Loc) (ls : Array Slot), Rp G M H → va_S (Fr G) s.heap H locs → lv_has ls 8 [(0, .ref (G.2.1 + j0)), (1, .int x1), (2, .int x2), (3, .int x3), (4, .int x4), (5, .int x5), (6, .int x6)] → kd j0 = 6 → lX6_leastGates_56 Post n M j0 x1 x2 x3 x4 x5 x6 → Wi p l e (headSpec wsX6_leastGates rX6_leastGates).room s m [.ref (G.2.1 + j0a), .int x1a, .int x2a, .int x3a].toArray below meth c G Post H locs (F0 m 56 ls []) := by
    intro n
    induction n with
    | zero => intro M j0 x1 x2 x3 x4 x5 x6 H locs ls hP hS hl hk_j0 h; exact h.elim
    | succ n ih =>
      intro M j0 x1 x2 x3 x4 x5 x6 H locs ls hP hS hl hk_j0 h
      have hA56 := ih
      replace h : bX6_leastGates_56 Post (lX6_leastGates_56 Post n) M j0 x1 x2 x3 x4 x5 x6 := h
      unfold bX6_leastGates_56 at h
      refine lv_iload hx hb dX6_leastGates_56 (lv_at hl 6 rfl) ?_
      refine lv_iload hx hb dX6_leastGates_58 (lv_at hl 5 rfl) ?_
      refine lv_icmp_gt (tgt := 117) hx hb dX6_leastGates_60 (by decide) (fun c13 => ?_) (fun c13 => ?_)
      · replace h := h.1 c13
        refine lv_iload hx hb dX6_leastGates_117 (lv_at hl 4 rfl) ?_
        exact re_i hx hb hr hlocks hP hS h dX6_leastGates_119
      · replace h := h.2 c13
        refine lv_iload hx hb dX6_leastGates_63 (lv_at hl 4 rfl) ?_
        refine lv_ldc hx hb hown (hts _ q_23_9) dX6_leastGates_65 ?_
        refine lv_icmp_eq (tgt := 83) hx hb dX6_leastGates_67 (by decide) (fun c14 => ?_) (fun c14 => ?_)
        · replace h := h.1 c14
          refine lv_iconst (v := (1 : Int32)) hx hb dX6_leastGates_83 k_iconst_1 ?_
          refine lv_goto (tgt := 88) hx hb dX6_leastGates_84 (by decide) ?_
          exact B88 _ hA56 _ _ _ _ _ _ _ _ _ _ _ _ hP hS (lv_sub hl [0, 1, 2, 3, 4, 5, 6] rfl) hk_j0 h
        · replace h := h.2 c14
          refine lv_iload hx hb dX6_leastGates_70 (lv_at hl 6 rfl) ?_
          refine rc_Si (As := [.int x6]) (rest := []) ⟨hx, hb, hml, hown, hts⟩ (mJ6_bitCount_0f7a4 l G x6 M _ h) (va_cwS 1 hts (gS_J6_bitCount_0f7a4 q_28_5) rfl rfl rfl hdS_J6_bitCount_0f7a4 ⟨Nat.le_of_ble_eq_true rfl, Nat.le_of_ble_eq_true rfl⟩) hK hP hS rfl hl.1 rfl (Nat.le_of_ble_eq_true rfl) dX6_leastGates_72 ⟨Nat.zero_le _, Nat.zero_le _⟩ (fun r16 M15 H locs h hP hS => ?_)
          refine lv_iload hx hb dX6_leastGates_75 (lv_at hl 4 rfl) ?_
          refine rc_Si (As := [.int x4]) (rest := [.int r16]) ⟨hx, hb, hml, hown, hts⟩ (mJ6_bitCount_0f7a4 l G x4 M15 _ h) (va_cwS 1 hts (gS_J6_bitCount_0f7a4 q_28_5) rfl rfl rfl hdS_J6_bitCount_0f7a4 ⟨Nat.le_of_ble_eq_true rfl, Nat.le_of_ble_eq_true rfl⟩) hK hP hS rfl hl.1 rfl (Nat.le_of_ble_eq_true rfl) dX6_leastGates_77 ⟨Nat.zero_le _, Nat.zero_le _⟩ (fun r18 M17 H locs h hP hS => ?_)
          refine lv_icmp_ge (tgt := 87) hx hb dX6_leastGates_80 (by decide) (fun c19 => ?_) (fun c19 => ?_)
          · replace h := h.1 c19
            refine lv_iconst (v := (0 : Int32)) hx hb dX6_leastGates_87 k_iconst_0 ?_
            exact B88 _ hA56 _ _ _ _ _ _ _ _ _ _ _ _ hP hS (lv_sub hl [0, 1, 2, 3, 4, 5, 6] rfl) hk_j0 h
          · replace h := h.2 c19
            refine lv_iconst (v := (1 : Int32)) hx hb dX6_leastGates_83 k_iconst_1 ?_
            refine lv_goto (tgt := 88) hx hb dX6_leastGates_84 (by decide) ?_
            exact B88 _ hA56 _ _ _ _ _ _ _ _ _ _ _ _ hP hS (lv_sub hl [0, 1, 2, 3, 4, 5, 6] rfl) hk_j0 h
  unfold wX6_leastGates at h
  refine lv_aload_n hx hb dX6_leastGates_0 rfl (lv_at hl 0 rfl) ?_
  refine rk_getr hx hb hts inlX6 hown hK hP hk_j0a cl_6 0 1 fq_6_0 q_1_15 rfl dX6_leastGates_1 ?_
  refine rk_getr hx hb hts inlX4 hown hK hP (ky_6_0 hk_j0a) cl_4 1 10 fq_4_1 q_8_11 rfl dX6_leastGates_4 ?_
  refine lv_iload_n hx hb dX6_leastGates_7 rfl (lv_at hl 1 rfl) ?_
  refine rc_Vi (As := [.int x1a]) (rest := []) ⟨hx, hb, hml, hown, hts⟩ (mX1_areFields l G ((j0a + 1) + 10) x1a M _ (ky_4_1 (ky_6_0 hk_j0a)) h) (cwV 1 hts (gV_X1_areFields q_28_0) rfl rfl rfl hdV_X1_areFields ⟨Nat.le_of_ble_eq_true rfl, Nat.le_of_ble_eq_true rfl⟩) hK hP hS (ky_4_1 (ky_6_0 hk_j0a)) (by decide) cl_1 rfl hl.1 rfl (Nat.le_of_ble_eq_true rfl) dX6_leastGates_8 ⟨Nat.zero_le _, Nat.zero_le _⟩ (fun r2 M1 H locs h hP hS => ?_)
  refine lv_if_eq (tgt := 34) hx hb dX6_leastGates_11 (by decide) (fun c3 => ?_) (fun c3 => ?_)
  · replace h := h.1 c3
    refine lv_ldc hx hb hown (hts _ q_5_1) dX6_leastGates_34 ?_
    exact re_i hx hb hr hlocks hP hS h dX6_leastGates_36
  · replace h := h.2 c3
    refine lv_iload_n hx hb dX6_leastGates_14 rfl (lv_at hl 2 rfl) ?_
    refine lv_iconst (v := (0 : Int32)) hx hb dX6_leastGates_15 k_iconst_0 ?_
    refine lv_sipush (v := (999 : Int32)) hx hb dX6_leastGates_16 k_sipush_999 ?_
    refine rc_Si (As := [.int x2a, .int (0 : Int32), .int (999 : Int32)]) (rest := []) ⟨hx, hb, hml, hown, hts⟩ (mX6_isOutside l G x2a (0 : Int32) (999 : Int32) M1 _ h) (va_cwS 3 hts (gS_X6_isOutside q_5_8) rfl rfl rfl hdS_X6_isOutside ⟨Nat.le_of_ble_eq_true rfl, Nat.le_of_ble_eq_true rfl⟩) hK hP hS rfl hl.1 rfl (Nat.le_of_ble_eq_true rfl) dX6_leastGates_19 ⟨Nat.zero_le _, Nat.zero_le _⟩ (fun r5 M4 H locs h hP hS => ?_)
    refine lv_if_ne (tgt := 34) hx hb dX6_leastGates_22 (by decide) (fun c6 => ?_) (fun c6 => ?_)
    · replace h := h.1 c6
      refine lv_ldc hx hb hown (hts _ q_5_1) dX6_leastGates_34 ?_
      exact re_i hx hb hr hlocks hP hS h dX6_leastGates_36
    · replace h := h.2 c6
      refine lv_iload_n hx hb dX6_leastGates_25 rfl (lv_at hl 3 rfl) ?_
      refine lv_iconst (v := (1 : Int32)) hx hb dX6_leastGates_26 k_iconst_1 ?_
      refine lv_iconst (v := (5 : Int32)) hx hb dX6_leastGates_27 k_iconst_5 ?_
      refine rc_Si (As := [.int x3a, .int (1 : Int32), .int (5 : Int32)]) (rest := []) ⟨hx, hb, hml, hown, hts⟩ (mX6_isOutside l G x3a (1 : Int32) (5 : Int32) M4 _ h) (va_cwS 3 hts (gS_X6_isOutside q_5_8) rfl rfl rfl hdS_X6_isOutside ⟨Nat.le_of_ble_eq_true rfl, Nat.le_of_ble_eq_true rfl⟩) hK hP hS rfl hl.1 rfl (Nat.le_of_ble_eq_true rfl) dX6_leastGates_28 ⟨Nat.zero_le _, Nat.zero_le _⟩ (fun r8 M7 H locs h hP hS => ?_)
      refine lv_if_eq (tgt := 37) hx hb dX6_leastGates_31 (by decide) (fun c9 => ?_) (fun c9 => ?_)
      · replace h := h.1 c9
        refine lv_ldc hx hb hown (hts _ q_23_9) dX6_leastGates_37 ?_
        refine lv_istore (lv' := [(4, .int (-1000004 : Int32)), (0, .ref (G.2.1 + j0a)), (1, .int x1a), (2, .int x2a), (3, .int x3a)]) hx hb dX6_leastGates_39 hl (by decide) rfl (fun ls hl => ?_)
        refine lv_aload_n hx hb dX6_leastGates_41 rfl (lv_at hl 1 rfl) ?_
        refine rk_getr hx hb hts inlX6 hown hK hP hk_j0a cl_6 0 1 fq_6_0 q_1_15 rfl dX6_leastGates_42 ?_
        refine rk_getr hx hb hts inlX4 hown hK hP (ky_6_0 hk_j0a) cl_4 0 1 fq_4_0 q_5_0 rfl dX6_leastGates_45 ?_
        refine rc_Vi (As := []) (rest := []) ⟨hx, hb, hml, hown, hts⟩ (mX0_allGates l G ((j0a + 1) + 1) M7 _ (ky_4_0 (ky_6_0 hk_j0a)) h) (cwV 0 hts (gV_X0_allGates q_28_4) rfl rfl rfl hdV_X0_allGates ⟨Nat.le_of_ble_eq_true rfl, Nat.le_of_ble_eq_true rfl⟩) hK hP hS (ky_4_0 (ky_6_0 hk_j0a)) (by decide) cl_0 rfl hl.1 rfl (Nat.le_of_ble_eq_true rfl) dX6_leastGates_48 ⟨Nat.zero_le _, Nat.zero_le _⟩ (fun r11 M10 H locs h hP hS => ?_)
        refine lv_istore (lv' := [(5, .int r11), (4, .int (-1000004 : Int32)), (0, .ref (G.2.1 + j0a)), (1, .int x1a), (2, .int x2a), (3, .int x3a)]) hx hb dX6_leastGates_51 hl (by decide) rfl (fun ls hl => ?_)
        refine lv_iconst (v := (0 : Int32)) hx hb dX6_leastGates_53 k_iconst_0 ?_
        refine lv_istore (lv' := [(6, .int (0 : Int32)), (5, .int r11), (4, .int (-1000004 : Int32)), (0, .ref (G.2.1 + j0a)), (1, .int x1a), (2, .int x2a), (3, .int x3a)]) hx hb dX6_leastGates_54 hl (by decide) rfl (fun ls hl => ?_)
        obtain ⟨n12, h⟩ := h
        exact B56 _ _ _ _ _ _ _ _ _ _ _ _ hP hS (lv_sub hl [3, 4, 5, 6, 2, 1, 0] rfl) hk_j0a h
      · replace h := h.2 c9
        refine lv_ldc hx hb hown (hts _ q_5_1) dX6_leastGates_34 ?_
        exact re_i hx hb hr hlocks hP hS h dX6_leastGates_36
set_option maxHeartbeats 4000000 in
set_option maxRecDepth 100000 in
theorem mX6_fewestBuckets (l : Launch) (G : Gp) (j0a : Nat) (x1a : Int32) (M : Mm) (Post : Mm → Int32 → Prop) (hk_j0a : kd j0a = 6) (h : wX6_fewestBuckets Post M j0a x1a) : CtI l yX6_fewestBuckets wsX6_fewestBuckets rX6_fewestBuckets G [.ref (G.2.1 + j0a), .int x1a] M Post := by
  refine Met.ofW (cc := cX6_fewestBuckets) (maxL := 3) (ret := (some .int)) (by decide) rfl ?_
  intro p e s m args below meth c s₁ B hml hv
  obtain ⟨rfl, hK, hP⟩ := hv
  have hx := B.exec
  have hb := B.bytes
  have hr := B.returns
  have hlocks := B.notSynchronized
  have hts0 := atoms_spec (ws := wsX6_fewestBuckets) B.pre
  have hts : ∀ w ∈ wsL_law, w.before _ s = true := fun w hw => hts0 w (List.mem_cons_of_mem _ hw)
  have hown : s.vm.findClass RX6 = some m.cls := findClass_of_methodNamed B.named
  have hS : va_S (Fr G) s.heap s.heap [] := va_S.rf
  have hl := lv_entry ([.ref (G.2.1 + j0a), .int x1a]) (n := 3) (Nat.le_of_ble_eq_true rfl)
  rw [lg_entry_eq]
  generalize (lg_sl ([.ref (G.2.1 + j0a), .int x1a]) ++ List.replicate (3 - (lg_sl ([.ref (G.2.1 + j0a), .int x1a])).length) Slot.unset).toArray = ls at hl ⊢
  have hl : lv_has ls 3 [(0, .ref (G.2.1 + j0a)), (1, .int x1a)] := hl
  have B19 : ∀ n : Nat, ∀ (M : Mm) (j0 : Nat) (x1 : Int32) (x2 : Int32) (H : Heap) (locs : List Loc) (ls : Array Slot), Rp G M H → va_S (Fr G) s.heap H locs → lv_has ls 3 [(0, .ref (G.2.1 + j0)), (1, .int x1), (2, .int x2)] → kd j0 = 6 → lX6_fewestBuckets_19 Post n M j0 x1 x2 → Wi p l e (headSpec wsX6_fewestBuckets rX6_fewestBuckets).room s m [.ref (G.2.1 + j0a), .int x1a].toArray below meth c G Post H locs (F0 m 19 ls []) := by
    intro n
    induction n with
    | zero => intro M j0 x1 x2 H locs ls hP hS hl hk_j0 h; exact h.elim
    | succ n ih =>
      intro M j0 x1 x2 H locs ls hP hS hl hk_j0 h
      have hA19 := ih
      replace h : bX6_fewestBuckets_19 Post (lX6_fewestBuckets_19 Post n) M j0 x1 x2 := h
      unfold bX6_fewestBuckets_19 at h
      refine lv_iload_n hx hb dX6_fewestBuckets_19 rfl (lv_at hl 2 rfl) ?_
      refine lv_sipush (v := (200 : Int32)) hx hb dX6_fewestBuckets_20 k_sipush_200 ?_
      refine lv_icmp_gt (tgt := 62) hx hb dX6_fewestBuckets_23 (by decide) (fun c5 => ?_) (fun c5 => ?_)
      · replace h := h.1 c5
        refine lv_ldc hx hb hown (hts _ q_23_9) dX6_fewestBuckets_62 ?_
        exact re_i hx hb hr hlocks hP hS h dX6_fewestBuckets_64
      · replace h := h.2 c5
        refine lv_aload_n hx hb dX6_fewestBuckets_26 rfl (lv_at hl 0 rfl) ?_
        refine rk_getr hx hb hts inlX6 hown hK hP hk_j0 cl_6 1 24 fq_6_1 q_1_16 rfl dX6_fewestBuckets_27 ?_
        refine lv_aload_n hx hb dX6_fewestBuckets_30 rfl (lv_at hl 0 rfl) ?_
        refine rk_getr hx hb hts inlX6 hown hK hP hk_j0 cl_6 0 1 fq_6_0 q_1_15 rfl dX6_fewestBuckets_31 ?_
        refine rc_Vv (As := [.ref (G.2.1 + (j0 + 1))]) (rest := []) ⟨hx, hb, hml, hown, hts⟩ (mX4_become l G (j0 + 24) (j0 + 1) M _ (ky_6_1 hk_j0) (ky_6_0 hk_j0) h) (cwV 1 hts (gV_X4_become q_27_3) rfl rfl rfl hdV_X4_become ⟨Nat.le_of_ble_eq_true rfl, Nat.le_of_ble_eq_true rfl⟩) hK hP hS (ky_6_1 hk_j0) (by decide) cl_4 rfl hl.1 rfl (Nat.le_of_ble_eq_true rfl) dX6_fewestBuckets_34 ⟨Nat.zero_le _, Nat.zero_le _⟩ (fun M6 H locs h hP hS => ?_)
        refine lv_aload_n hx hb dX6_fewestBuckets_37 rfl (lv_at hl 0 rfl) ?_
        refine rk_getr hx hb hts inlX6 hown hK hP hk_j0 cl_6 1 24 fq_6_1 q_1_16 rfl dX6_fewestBuckets_38 ?_
        refine lv_iload_n hx hb dX6_fewestBuckets_41 rfl (lv_at hl 2 rfl) ?_
        refine rc_Vi (As := [.int x2]) (rest := []) ⟨hx, hb, hml, hown, hts⟩ (mX4_passHour l G (j0 + 24) x2 M6 _ (ky_6_1 hk_j0) h) (cwV 1 hts (gV_X4_passHour q_17_1) rfl rfl rfl hdV_X4_passHour ⟨Nat.le_of_ble_eq_true rfl, Nat.le_of_ble_eq_true rfl⟩) hK hP hS (ky_6_1 hk_j0) (by decide) cl_4 rfl hl.1 rfl (Nat.le_of_ble_eq_true rfl) dX6_fewestBuckets_42 ⟨Nat.zero_le _, Nat.zero_le _⟩ (fun r9 M8 H locs h hP hS => ?_)
        refine lv_pop hx hb dX6_fewestBuckets_45 rfl ?_
        refine lv_aload_n hx hb dX6_fewestBuckets_46 rfl (lv_at hl 0 rfl) ?_
        refine lv_iload_n hx hb dX6_fewestBuckets_47 rfl (lv_at hl 1 rfl) ?_
        refine rc_Vi (As := [.int x1]) (rest := []) ⟨hx, hb, hml, hown, hts⟩ (mX6_gain l G j0 x1 M8 _ hk_j0 h) (cwV 1 hts (gV_X6_gain q_27_4) rfl rfl rfl hdV_X6_gain ⟨Nat.le_of_ble_eq_true rfl, Nat.le_of_ble_eq_true rfl⟩) hK hP hS hk_j0 (by decide) cl_6 rfl hl.1 rfl (Nat.le_of_ble_eq_true rfl) dX6_fewestBuckets_48 ⟨Nat.zero_le _, Nat.zero_le _⟩ (fun r11 M10 H locs h hP hS => ?_)
        refine lv_if_le (tgt := 56) hx hb dX6_fewestBuckets_51 (by decide) (fun c12 => ?_) (fun c12 => ?_)
        · replace h := h.1 c12
          obtain ⟨x2_13, ex2_13⟩ : ∃ y : Int32, y = x2 + (1 : Int32) := ⟨_, rfl⟩
          replace h := h x2_13 ex2_13
          refine lv_iinc (v := x2_13) (lv' := [(2, .int x2_13), (0, .ref (G.2.1 + j0)), (1, .int x1)]) hx hb dX6_fewestBuckets_56 hl (k := 2) rfl (by rw [ex2_13]; rfl) (by decide) rfl (fun ls hl => ?_)
          refine lv_goto (tgt := 19) hx hb dX6_fewestBuckets_59 (by decide) ?_
          exact hA19 _ _ _ _ _ _ _ hP hS (lv_sub hl [1, 2, 0] rfl) hk_j0 h
        · replace h := h.2 c12
          refine lv_iload_n hx hb dX6_fewestBuckets_54 rfl (lv_at hl 2 rfl) ?_
          exact re_i hx hb hr hlocks hP hS h dX6_fewestBuckets_55
  unfold wX6_fewestBuckets at h
  refine lv_aload_n hx hb dX6_fewestBuckets_0 rfl (lv_at hl 0 rfl) ?_
  refine rk_getr hx hb hts inlX6 hown hK hP hk_j0a cl_6 0 1 fq_6_0 q_1_15 rfl dX6_fewestBuckets_1 ?_
  refine rk_getr hx hb hts inlX4 hown hK hP (ky_6_0 hk_j0a) cl_4 1 10 fq_4_1 q_8_11 rfl dX6_fewestBuckets_4 ?_
  refine lv_iload_n hx hb dX6_fewestBuckets_7 rfl (lv_at hl 1 rfl) ?_
  refine rc_Vi (As := [.int x1a]) (rest := []) ⟨hx, hb, hml, hown, hts⟩ (mX1_has l G ((j0a + 1) + 10) x1a M _ (ky_4_1 (ky_6_0 hk_j0a)) h) (cwV 1 hts (gV_X1_has q_12_17) rfl rfl rfl hdV_X1_has ⟨Nat.le_of_ble_eq_true rfl, Nat.le_of_ble_eq_true rfl⟩) hK hP hS (ky_4_1 (ky_6_0 hk_j0a)) (by decide) cl_1 rfl hl.1 rfl (Nat.le_of_ble_eq_true rfl) dX6_fewestBuckets_8 ⟨Nat.zero_le _, Nat.zero_le _⟩ (fun r2 M1 H locs h hP hS => ?_)
  refine lv_if_ne (tgt := 17) hx hb dX6_fewestBuckets_11 (by decide) (fun c3 => ?_) (fun c3 => ?_)
  · replace h := h.1 c3
    refine lv_iconst (v := (0 : Int32)) hx hb dX6_fewestBuckets_17 k_iconst_0 ?_
    refine lv_istore_n (lv' := [(2, .int (0 : Int32)), (0, .ref (G.2.1 + j0a)), (1, .int x1a)]) hx hb dX6_fewestBuckets_18 rfl hl (by decide) rfl (fun ls hl => ?_)
    obtain ⟨n4, h⟩ := h
    exact B19 _ _ _ _ _ _ _ _ hP hS (lv_sub hl [1, 2, 0] rfl) hk_j0a h
  · replace h := h.2 c3
    refine lv_ldc hx hb hown (hts _ q_5_1) dX6_fewestBuckets_14 ?_
    exact re_i hx hb hr hlocks hP hS h dX6_fewestBuckets_16
set_option maxHeartbeats 4000000 in
set_option maxRecDepth 100000 in
theorem mX6_hoursFor (l : Launch) (G : Gp) (j0a : Nat) (x1a : Int32) (M : Mm) (Post : Mm → Int32 → Prop) (hk_j0a : kd j0a = 6) (h : wX6_hoursFor Post M j0a x1a) : CtI l yX6_hoursFor wsX6_hoursFor rX6_hoursFor G [.ref (G.2.1 + j0a), .int x1a] M Post := by
  refine Met.ofW (cc := cX6_hoursFor) (maxL := 3) (ret := (some .int)) (by decide) rfl ?_
  intro p e s m args below meth c s₁ B hml hv
  obtain ⟨rfl, hK, hP⟩ := hv
  have hx := B.exec
  have hb := B.bytes
  have hr := B.returns
  have hlocks := B.notSynchronized
  have hts0 := atoms_spec (ws := wsX6_hoursFor) B.pre
  have hts : ∀ w ∈ wsL_law, w.before _ s = true := fun w hw => hts0 w (List.mem_cons_of_mem _ hw)
  have hown : s.vm.findClass RX6 = some m.cls := findClass_of_methodNamed B.named
  have hS : va_S (Fr G) s.heap s.heap [] := va_S.rf
  have hl := lv_entry ([.ref (G.2.1 + j0a), .int x1a]) (n := 3) (Nat.le_of_ble_eq_true rfl)
  rw [lg_entry_eq]
  generalize (lg_sl ([.ref (G.2.1 + j0a), .int x1a]) ++ List.replicate (3 - (lg_sl ([.ref (G.2.1 + j0a), .int x1a])).length) Slot.unset).toArray = ls at hl ⊢
  have hl : lv_has ls 3 [(0, .ref (G.2.1 + j0a)), (1, .int x1a)] := hl
  have B27 : ∀ n : Nat, ∀ (M : Mm) (j0 : Nat) (x1 : Int32) (x2 : Int32) (H : Heap) (locs : List Loc) (ls : Array Slot), Rp G M H → va_S (Fr G) s.heap H locs → lv_has ls 3 [(0, .ref (G.2.1 + j0)), (1, .int x1), (2, .int x2)] → kd j0 = 6 → lX6_hoursFor_27 Post n M j0 x1 x2 → Wi p l e (headSpec wsX6_hoursFor rX6_hoursFor).room s m [.ref (G.2.1 + j0a), .int x1a].toArray below meth c G Post H locs (F0 m 27 ls []) := by
    intro n
    induction n with
    | zero => intro M j0 x1 x2 H locs ls hP hS hl hk_j0 h; exact h.elim
    | succ n ih =>
      intro M j0 x1 x2 H locs ls hP hS hl hk_j0 h
      have hA27 := ih
      replace h : bX6_hoursFor_27 Post (lX6_hoursFor_27 Post n) M j0 x1 x2 := h
      unfold bX6_hoursFor_27 at h
      refine lv_iload_n hx hb dX6_hoursFor_27 rfl (lv_at hl 2 rfl) ?_
      refine lv_bipush (v := (100 : Int32)) hx hb dX6_hoursFor_28 k_bipush_100 ?_
      refine lv_icmp_gt (tgt := 64) hx hb dX6_hoursFor_30 (by decide) (fun c7 => ?_) (fun c7 => ?_)
      · replace h := h.1 c7
        refine lv_ldc hx hb hown (hts _ q_23_9) dX6_hoursFor_64 ?_
        exact re_i hx hb hr hlocks hP hS h dX6_hoursFor_66
      · replace h := h.2 c7
        refine lv_aload_n hx hb dX6_hoursFor_33 rfl (lv_at hl 0 rfl) ?_
        refine rk_getr hx hb hts inlX6 hown hK hP hk_j0 cl_6 1 24 fq_6_1 q_1_16 rfl dX6_hoursFor_34 ?_
        refine rk_getr hx hb hts inlX4 hown hK hP (ky_6_1 hk_j0) cl_4 1 10 fq_4_1 q_8_11 rfl dX6_hoursFor_37 ?_
        refine rc_Vi (As := []) (rest := []) ⟨hx, hb, hml, hown, hts⟩ (mX1_wanting l G ((j0 + 24) + 10) M _ (ky_4_1 (ky_6_1 hk_j0)) h) (cwV 0 hts (gV_X1_wanting q_28_10) rfl rfl rfl hdV_X1_wanting ⟨Nat.le_of_ble_eq_true rfl, Nat.le_of_ble_eq_true rfl⟩) hK hP hS (ky_4_1 (ky_6_1 hk_j0)) (by decide) cl_1 rfl hl.1 rfl (Nat.le_of_ble_eq_true rfl) dX6_hoursFor_40 ⟨Nat.zero_le _, Nat.zero_le _⟩ (fun r9 M8 H locs h hP hS => ?_)
        refine lv_if_ne (tgt := 48) hx hb dX6_hoursFor_43 (by decide) (fun c10 => ?_) (fun c10 => ?_)
        · replace h := h.1 c10
          refine lv_aload_n hx hb dX6_hoursFor_48 rfl (lv_at hl 0 rfl) ?_
          refine rk_getr hx hb hts inlX6 hown hK hP hk_j0 cl_6 1 24 fq_6_1 q_1_16 rfl dX6_hoursFor_49 ?_
          refine lv_iconst (v := (1 : Int32)) hx hb dX6_hoursFor_52 k_iconst_1 ?_
          refine lv_iload_n hx hb dX6_hoursFor_53 rfl (lv_at hl 1 rfl) ?_
          refine rc_Vi (As := [.int (1 : Int32), .int x1]) (rest := []) ⟨hx, hb, hml, hown, hts⟩ (mX4_runHours l G (j0 + 24) (1 : Int32) x1 M8 _ (ky_6_1 hk_j0) h) (cwV 2 hts (gV_X4_runHours q_21_23) rfl rfl rfl hdV_X4_runHours ⟨Nat.le_of_ble_eq_true rfl, Nat.le_of_ble_eq_true rfl⟩) hK hP hS (ky_6_1 hk_j0) (by decide) cl_4 rfl hl.1 rfl (Nat.le_of_ble_eq_true rfl) dX6_hoursFor_54 ⟨Nat.zero_le _, Nat.zero_le _⟩ (fun r12 M11 H locs h hP hS => ?_)
          refine lv_pop hx hb dX6_hoursFor_57 rfl ?_
          obtain ⟨x2_13, ex2_13⟩ : ∃ y : Int32, y = x2 + (1 : Int32) := ⟨_, rfl⟩
          replace h := h x2_13 ex2_13
          refine lv_iinc (v := x2_13) (lv' := [(2, .int x2_13), (0, .ref (G.2.1 + j0)), (1, .int x1)]) hx hb dX6_hoursFor_58 hl (k := 2) rfl (by rw [ex2_13]; rfl) (by decide) rfl (fun ls hl => ?_)
          refine lv_goto (tgt := 27) hx hb dX6_hoursFor_61 (by decide) ?_
          exact hA27 _ _ _ _ _ _ _ hP hS (lv_sub hl [1, 2, 0] rfl) hk_j0 h
        · replace h := h.2 c10
          refine lv_iload_n hx hb dX6_hoursFor_46 rfl (lv_at hl 2 rfl) ?_
          exact re_i hx hb hr hlocks hP hS h dX6_hoursFor_47
  unfold wX6_hoursFor at h
  refine lv_iload_n hx hb dX6_hoursFor_0 rfl (lv_at hl 1 rfl) ?_
  refine lv_iconst (v := (0 : Int32)) hx hb dX6_hoursFor_1 k_iconst_0 ?_
  refine lv_sipush (v := (999 : Int32)) hx hb dX6_hoursFor_2 k_sipush_999 ?_
  refine rc_Si (As := [.int x1a, .int (0 : Int32), .int (999 : Int32)]) (rest := []) ⟨hx, hb, hml, hown, hts⟩ (mX6_isOutside l G x1a (0 : Int32) (999 : Int32) M _ h) (va_cwS 3 hts (gS_X6_isOutside q_5_8) rfl rfl rfl hdS_X6_isOutside ⟨Nat.le_of_ble_eq_true rfl, Nat.le_of_ble_eq_true rfl⟩) hK hP hS rfl hl.1 rfl (Nat.le_of_ble_eq_true rfl) dX6_hoursFor_5 ⟨Nat.zero_le _, Nat.zero_le _⟩ (fun r2 M1 H locs h hP hS => ?_)
  refine lv_if_eq (tgt := 14) hx hb dX6_hoursFor_8 (by decide) (fun c3 => ?_) (fun c3 => ?_)
  · replace h := h.1 c3
    refine lv_aload_n hx hb dX6_hoursFor_14 rfl (lv_at hl 0 rfl) ?_
    refine rk_getr hx hb hts inlX6 hown hK hP hk_j0a cl_6 1 24 fq_6_1 q_1_16 rfl dX6_hoursFor_15 ?_
    refine lv_aload_n hx hb dX6_hoursFor_18 rfl (lv_at hl 0 rfl) ?_
    refine rk_getr hx hb hts inlX6 hown hK hP hk_j0a cl_6 0 1 fq_6_0 q_1_15 rfl dX6_hoursFor_19 ?_
    refine rc_Vv (As := [.ref (G.2.1 + (j0a + 1))]) (rest := []) ⟨hx, hb, hml, hown, hts⟩ (mX4_become l G (j0a + 24) (j0a + 1) M1 _ (ky_6_1 hk_j0a) (ky_6_0 hk_j0a) h) (cwV 1 hts (gV_X4_become q_27_3) rfl rfl rfl hdV_X4_become ⟨Nat.le_of_ble_eq_true rfl, Nat.le_of_ble_eq_true rfl⟩) hK hP hS (ky_6_1 hk_j0a) (by decide) cl_4 rfl hl.1 rfl (Nat.le_of_ble_eq_true rfl) dX6_hoursFor_22 ⟨Nat.zero_le _, Nat.zero_le _⟩ (fun M4 H locs h hP hS => ?_)
    refine lv_iconst (v := (0 : Int32)) hx hb dX6_hoursFor_25 k_iconst_0 ?_
    refine lv_istore_n (lv' := [(2, .int (0 : Int32)), (0, .ref (G.2.1 + j0a)), (1, .int x1a)]) hx hb dX6_hoursFor_26 rfl hl (by decide) rfl (fun ls hl => ?_)
    obtain ⟨n6, h⟩ := h
    exact B27 _ _ _ _ _ _ _ _ hP hS (lv_sub hl [1, 2, 0] rfl) hk_j0a h
  · replace h := h.2 c3
    refine lv_ldc hx hb hown (hts _ q_5_1) dX6_hoursFor_11 ?_
    exact re_i hx hb hr hlocks hP hS h dX6_hoursFor_13
set_option maxHeartbeats 4000000 in
set_option maxRecDepth 100000 in
theorem mX6_rightAt (l : Launch) (G : Gp) (j0a : Nat) (x1a : Int32) (M : Mm) (Post : Mm → Int32 → Prop) (hk_j0a : kd j0a = 6) (h : wX6_rightAt Post M j0a x1a) : CtI l yX6_rightAt wsX6_rightAt rX6_rightAt G [.ref (G.2.1 + j0a), .int x1a] M Post := by
  refine Met.ofW (cc := cX6_rightAt) (maxL := 5) (ret := (some .int)) (by decide) rfl ?_
  intro p e s m args below meth c s₁ B hml hv
  obtain ⟨rfl, hK, hP⟩ := hv
  have hx := B.exec
  have hb := B.bytes
  have hr := B.returns
  have hlocks := B.notSynchronized
  have hts0 := atoms_spec (ws := wsX6_rightAt) B.pre
  have hts : ∀ w ∈ wsL_law, w.before _ s = true := fun w hw => hts0 w (List.mem_cons_of_mem _ hw)
  have hown : s.vm.findClass RX6 = some m.cls := findClass_of_methodNamed B.named
  have hS : va_S (Fr G) s.heap s.heap [] := va_S.rf
  have hl := lv_entry ([.ref (G.2.1 + j0a), .int x1a]) (n := 5) (Nat.le_of_ble_eq_true rfl)
  rw [lg_entry_eq]
  generalize (lg_sl ([.ref (G.2.1 + j0a), .int x1a]) ++ List.replicate (5 - (lg_sl ([.ref (G.2.1 + j0a), .int x1a])).length) Slot.unset).toArray = ls at hl ⊢
  have hl : lv_has ls 5 [(0, .ref (G.2.1 + j0a)), (1, .int x1a)] := hl
  have B11 : ∀ n : Nat, ∀ (M : Mm) (j0 : Nat) (x1 : Int32) (x2 : Int32) (x3 : Int32) (H : Heap) (locs : List Loc) (ls : Array Slot), Rp G M H → va_S (Fr G) s.heap H locs → lv_has ls 5 [(0, .ref (G.2.1 + j0)), (1, .int x1), (2, .int x2), (3, .int x3)] → kd j0 = 6 → lX6_rightAt_11 Post n M j0 x1 x2 x3 → Wi p l e (headSpec wsX6_rightAt rX6_rightAt).room s m [.ref (G.2.1 + j0a), .int x1a].toArray below meth c G Post H locs (F0 m 11 ls []) := by
    intro n
    induction n with
    | zero => intro M j0 x1 x2 x3 H locs ls hP hS hl hk_j0 h; exact h.elim
    | succ n ih =>
      intro M j0 x1 x2 x3 H locs ls hP hS hl hk_j0 h
      have hA11 := ih
      replace h : bX6_rightAt_11 Post (lX6_rightAt_11 Post n) M j0 x1 x2 x3 := h
      unfold bX6_rightAt_11 at h
      refine lv_iload_n hx hb dX6_rightAt_11 rfl (lv_at hl 3 rfl) ?_
      refine lv_aload_n hx hb dX6_rightAt_12 rfl (lv_at hl 0 rfl) ?_
      refine rk_getr hx hb hts inlX6 hown hK hP hk_j0 cl_6 0 1 fq_6_0 q_1_15 rfl dX6_rightAt_13 ?_
      refine rk_getr hx hb hts inlX4 hown hK hP (ky_6_0 hk_j0) cl_4 1 10 fq_4_1 q_8_11 rfl dX6_rightAt_16 ?_
      refine rk_geti hx hb hts inlX1 hown hK hP (ky_4_1 (ky_6_0 hk_j0)) cl_1 0 fq_1_0 q_8_12 rfl dX6_rightAt_19 ?_
      refine lv_icmp_ge (tgt := 71) hx hb dX6_rightAt_22 (by decide) (fun c3 => ?_) (fun c3 => ?_)
      · replace h := h.1 c3
        refine lv_ldc hx hb hown (hts _ q_23_9) dX6_rightAt_71 ?_
        exact re_i hx hb hr hlocks hP hS h dX6_rightAt_73
      · replace h := h.2 c3
        refine lv_aload_n hx hb dX6_rightAt_25 rfl (lv_at hl 0 rfl) ?_
        refine rk_getr hx hb hts inlX6 hown hK hP hk_j0 cl_6 0 1 fq_6_0 q_1_15 rfl dX6_rightAt_26 ?_
        refine rk_getr hx hb hts inlX4 hown hK hP (ky_6_0 hk_j0) cl_4 1 10 fq_4_1 q_8_11 rfl dX6_rightAt_29 ?_
        refine rk_getr hx hb hts inlX1 hown hK hP (ky_4_1 (ky_6_0 hk_j0)) cl_1 8 7 fq_1_8 q_29_15 rfl dX6_rightAt_32 ?_
        refine lv_iload_n hx hb dX6_rightAt_35 rfl (lv_at hl 3 rfl) ?_
        refine rk_iald hx hb hK hP (ky_1_8 (ky_4_1 (ky_6_0 hk_j0))) ac_9 _ rfl h.1 dX6_rightAt_36 ?_
        replace h := h.2
        refine lv_topi (fun x4_4 ex4_4 => ?_)
        replace h := h x4_4 ex4_4
        refine lv_istore (lv' := [(4, .int x4_4), (0, .ref (G.2.1 + j0)), (1, .int x1), (2, .int x2), (3, .int x3)]) hx hb dX6_rightAt_37 hl (by decide) rfl (fun ls hl => ?_)
        refine lv_aload_n hx hb dX6_rightAt_39 rfl (lv_at hl 1 rfl) ?_
        refine rk_getr hx hb hts inlX6 hown hK hP hk_j0 cl_6 0 1 fq_6_0 q_1_15 rfl dX6_rightAt_40 ?_
        refine rk_getr hx hb hts inlX4 hown hK hP (ky_6_0 hk_j0) cl_4 1 10 fq_4_1 q_8_11 rfl dX6_rightAt_43 ?_
        refine lv_iload hx hb dX6_rightAt_46 (lv_at hl 0 rfl) ?_
        refine rc_Vi (As := [.int x4_4]) (rest := []) ⟨hx, hb, hml, hown, hts⟩ (mX1_wants l G ((j0 + 1) + 10) x4_4 M _ (ky_4_1 (ky_6_0 hk_j0)) h) (cwV 1 hts (gV_X1_wants q_24_22) rfl rfl rfl hdV_X1_wants ⟨Nat.le_of_ble_eq_true rfl, Nat.le_of_ble_eq_true rfl⟩) hK hP hS (ky_4_1 (ky_6_0 hk_j0)) (by decide) cl_1 rfl hl.1 rfl (Nat.le_of_ble_eq_true rfl) dX6_rightAt_48 ⟨Nat.zero_le _, Nat.zero_le _⟩ (fun r6 M5 H locs h hP hS => ?_)
        refine lv_if_eq (tgt := 65) hx hb dX6_rightAt_51 (by decide) (fun c7 => ?_) (fun c7 => ?_)
        · replace h := h.1 c7
          obtain ⟨x3_8, ex3_8⟩ : ∃ y : Int32, y = x3 + (1 : Int32) := ⟨_, rfl⟩
          replace h := h x3_8 ex3_8
          refine lv_iinc (v := x3_8) (lv' := [(3, .int x3_8), (4, .int x4_4), (0, .ref (G.2.1 + j0)), (1, .int x1), (2, .int x2)]) hx hb dX6_rightAt_65 hl (k := 4) rfl (by rw [ex3_8]; rfl) (by decide) rfl (fun ls hl => ?_)
          refine lv_goto (tgt := 11) hx hb dX6_rightAt_68 (by decide) ?_
          exact hA11 _ _ _ _ _ _ _ _ hP hS (lv_sub hl [2, 3, 4, 0] rfl) hk_j0 h
        · replace h := h.2 c7
          refine lv_iload_n hx hb dX6_rightAt_54 rfl (lv_at hl 3 rfl) ?_
          refine lv_iload_n hx hb dX6_rightAt_55 rfl (lv_at hl 2 rfl) ?_
          refine lv_icmp_ne (tgt := 62) hx hb dX6_rightAt_56 (by decide) (fun c9 => ?_) (fun c9 => ?_)
          · replace h := h.1 c9
            obtain ⟨x2_10, ex2_10⟩ : ∃ y : Int32, y = x2 + (1 : Int32) := ⟨_, rfl⟩
            replace h := h x2_10 ex2_10
            refine lv_iinc (v := x2_10) (lv' := [(2, .int x2_10), (4, .int x4_4), (0, .ref (G.2.1 + j0)), (1, .int x1), (3, .int x3)]) hx hb dX6_rightAt_62 hl (k := 3) rfl (by rw [ex2_10]; rfl) (by decide) rfl (fun ls hl => ?_)
            obtain ⟨x3_11, ex3_11⟩ : ∃ y : Int32, y = x3 + (1 : Int32) := ⟨_, rfl⟩
            replace h := h x3_11 ex3_11
            refine lv_iinc (v := x3_11) (lv' := [(3, .int x3_11), (2, .int x2_10), (4, .int x4_4), (0, .ref (G.2.1 + j0)), (1, .int x1)]) hx hb dX6_rightAt_65 hl (k := 4) rfl (by rw [ex3_11]; rfl) (by decide) rfl (fun ls hl => ?_)
            refine lv_goto (tgt := 11) hx hb dX6_rightAt_68 (by decide) ?_
            exact hA11 _ _ _ _ _ _ _ _ hP hS (lv_sub hl [3, 4, 1, 0] rfl) hk_j0 h
          · replace h := h.2 c9
            refine lv_iload hx hb dX6_rightAt_59 (lv_at hl 0 rfl) ?_
            exact re_i hx hb hr hlocks hP hS h dX6_rightAt_61
  unfold wX6_rightAt at h
  refine lv_iload_n hx hb dX6_rightAt_0 rfl (lv_at hl 1 rfl) ?_
  refine lv_if_ge (tgt := 7) hx hb dX6_rightAt_1 (by decide) (fun c1 => ?_) (fun c1 => ?_)
  · replace h := h.1 c1
    refine lv_iconst (v := (0 : Int32)) hx hb dX6_rightAt_7 k_iconst_0 ?_
    refine lv_istore_n (lv' := [(2, .int (0 : Int32)), (0, .ref (G.2.1 + j0a)), (1, .int x1a)]) hx hb dX6_rightAt_8 rfl hl (by decide) rfl (fun ls hl => ?_)
    refine lv_iconst (v := (0 : Int32)) hx hb dX6_rightAt_9 k_iconst_0 ?_
    refine lv_istore_n (lv' := [(3, .int (0 : Int32)), (2, .int (0 : Int32)), (0, .ref (G.2.1 + j0a)), (1, .int x1a)]) hx hb dX6_rightAt_10 rfl hl (by decide) rfl (fun ls hl => ?_)
    obtain ⟨n2, h⟩ := h
    exact B11 _ _ _ _ _ _ _ _ _ hP hS (lv_sub hl [2, 3, 1, 0] rfl) hk_j0a h
  · replace h := h.2 c1
    refine lv_ldc hx hb hown (hts _ q_5_1) dX6_rightAt_4 ?_
    exact re_i hx hb hr hlocks hP hS h dX6_rightAt_6
set_option maxHeartbeats 4000000 in
set_option maxRecDepth 100000 in
theorem mX6_count (l : Launch) (G : Gp) (j0a : Nat) (x1a : Int32) (M : Mm) (Post : Mm → Int32 → Prop) (hk_j0a : kd j0a = 6) (h : wX6_count Post M j0a x1a) : CtI l yX6_count wsX6_count rX6_count G [.ref (G.2.1 + j0a), .int x1a] M Post := by
  refine Met.ofW (cc := cX6_count) (maxL := 2) (ret := (some .int)) (by decide) rfl ?_
  intro p e s m args below meth c s₁ B hml hv
  obtain ⟨rfl, hK, hP⟩ := hv
  have hx := B.exec
  have hb := B.bytes
  have hr := B.returns
  have hlocks := B.notSynchronized
  have hts0 := atoms_spec (ws := wsX6_count) B.pre
  have hts : ∀ w ∈ wsL_law, w.before _ s = true := fun w hw => hts0 w (List.mem_cons_of_mem _ hw)
  have hown : s.vm.findClass RX6 = some m.cls := findClass_of_methodNamed B.named
  have hS : va_S (Fr G) s.heap s.heap [] := va_S.rf
  have hl := lv_entry ([.ref (G.2.1 + j0a), .int x1a]) (n := 2) (Nat.le_of_ble_eq_true rfl)
  rw [lg_entry_eq]
  generalize (lg_sl ([.ref (G.2.1 + j0a), .int x1a]) ++ List.replicate (2 - (lg_sl ([.ref (G.2.1 + j0a), .int x1a])).length) Slot.unset).toArray = ls at hl ⊢
  have hl : lv_has ls 2 [(0, .ref (G.2.1 + j0a)), (1, .int x1a)] := hl
  unfold wX6_count at h
  refine lv_iload_n hx hb dX6_count_0 rfl (lv_at hl 1 rfl) ?_
  by_cases c1 : x1a = (0 : Int32)
  · replace h := h.1 c1
    refine lv_tableIn (off := 79) (tgt := 80) hx hb dX6_count_1 (by rw [c1]; decide) (by rw [c1]; decide) (by rw [c1]; rfl) (by decide) ?_
    refine lv_aload_n hx hb dX6_count_80 rfl (lv_at hl 0 rfl) ?_
    refine rk_getr hx hb hts inlX6 hown hK hP hk_j0a cl_6 0 1 fq_6_0 q_1_15 rfl dX6_count_81 ?_
    refine rk_getr hx hb hts inlX4 hown hK hP (ky_6_0 hk_j0a) cl_4 0 1 fq_4_0 q_5_0 rfl dX6_count_84 ?_
    refine rk_geti hx hb hts inlX0 hown hK hP (ky_4_0 (ky_6_0 hk_j0a)) cl_0 0 fq_0_0 q_5_2 rfl dX6_count_87 ?_
    exact re_i hx hb hr hlocks hP hS h dX6_count_90
  replace h := h.2 c1
  by_cases c2 : x1a = (1 : Int32)
  · replace h := h.1 c2
    refine lv_tableIn (off := 90) (tgt := 91) hx hb dX6_count_1 (by rw [c2]; decide) (by rw [c2]; decide) (by rw [c2]; rfl) (by decide) ?_
    refine lv_aload_n hx hb dX6_count_91 rfl (lv_at hl 0 rfl) ?_
    refine rk_getr hx hb hts inlX6 hown hK hP hk_j0a cl_6 0 1 fq_6_0 q_1_15 rfl dX6_count_92 ?_
    refine rk_getr hx hb hts inlX4 hown hK hP (ky_6_0 hk_j0a) cl_4 1 10 fq_4_1 q_8_11 rfl dX6_count_95 ?_
    refine rk_geti hx hb hts inlX1 hown hK hP (ky_4_1 (ky_6_0 hk_j0a)) cl_1 0 fq_1_0 q_8_12 rfl dX6_count_98 ?_
    exact re_i hx hb hr hlocks hP hS h dX6_count_101
  replace h := h.2 c2
  by_cases c3 : x1a = (2 : Int32)
  · replace h := h.1 c3
    refine lv_tableIn (off := 101) (tgt := 102) hx hb dX6_count_1 (by rw [c3]; decide) (by rw [c3]; decide) (by rw [c3]; rfl) (by decide) ?_
    refine lv_aload_n hx hb dX6_count_102 rfl (lv_at hl 0 rfl) ?_
    refine rk_getr hx hb hts inlX6 hown hK hP hk_j0a cl_6 0 1 fq_6_0 q_1_15 rfl dX6_count_103 ?_
    refine rk_getr hx hb hts inlX4 hown hK hP (ky_6_0 hk_j0a) cl_4 1 10 fq_4_1 q_8_11 rfl dX6_count_106 ?_
    refine rc_Vi (As := []) (rest := []) ⟨hx, hb, hml, hown, hts⟩ (mX1_wanting l G ((j0a + 1) + 10) M _ (ky_4_1 (ky_6_0 hk_j0a)) h) (cwV 0 hts (gV_X1_wanting q_28_10) rfl rfl rfl hdV_X1_wanting ⟨Nat.le_of_ble_eq_true rfl, Nat.le_of_ble_eq_true rfl⟩) hK hP hS (ky_4_1 (ky_6_0 hk_j0a)) (by decide) cl_1 rfl hl.1 rfl (Nat.le_of_ble_eq_true rfl) dX6_count_109 ⟨Nat.zero_le _, Nat.zero_le _⟩ (fun r5 M4 H locs h hP hS => ?_)
    refine rc_Si (As := [.int r5]) (rest := []) ⟨hx, hb, hml, hown, hts⟩ (mJ6_bitCount_0f7a4 l G r5 M4 _ h) (va_cwS 1 hts (gS_J6_bitCount_0f7a4 q_28_5) rfl rfl rfl hdS_J6_bitCount_0f7a4 ⟨Nat.le_of_ble_eq_true rfl, Nat.le_of_ble_eq_true rfl⟩) hK hP hS rfl hl.1 rfl (Nat.le_of_ble_eq_true rfl) dX6_count_112 ⟨Nat.zero_le _, Nat.zero_le _⟩ (fun r7 M6 H locs h hP hS => ?_)
    exact re_i hx hb hr hlocks hP hS h dX6_count_115
  replace h := h.2 c3
  by_cases c8 : x1a = (3 : Int32)
  · replace h := h.1 c8
    refine lv_tableIn (off := 115) (tgt := 116) hx hb dX6_count_1 (by rw [c8]; decide) (by rw [c8]; decide) (by rw [c8]; rfl) (by decide) ?_
    refine lv_aload_n hx hb dX6_count_116 rfl (lv_at hl 0 rfl) ?_
    refine rk_getr hx hb hts inlX6 hown hK hP hk_j0a cl_6 0 1 fq_6_0 q_1_15 rfl dX6_count_117 ?_
    refine rk_getr hx hb hts inlX4 hown hK hP (ky_6_0 hk_j0a) cl_4 1 10 fq_4_1 q_8_11 rfl dX6_count_120 ?_
    refine rk_geti hx hb hts inlX1 hown hK hP (ky_4_1 (ky_6_0 hk_j0a)) cl_1 1 fq_1_1 q_30_0 rfl dX6_count_123 ?_
    exact re_i hx hb hr hlocks hP hS h dX6_count_126
  replace h := h.2 c8
  by_cases c9 : x1a = (4 : Int32)
  · replace h := h.1 c9
    refine lv_tableIn (off := 126) (tgt := 127) hx hb dX6_count_1 (by rw [c9]; decide) (by rw [c9]; decide) (by rw [c9]; rfl) (by decide) ?_
    refine lv_aload_n hx hb dX6_count_127 rfl (lv_at hl 0 rfl) ?_
    refine rk_getr hx hb hts inlX6 hown hK hP hk_j0a cl_6 0 1 fq_6_0 q_1_15 rfl dX6_count_128 ?_
    refine rk_getr hx hb hts inlX4 hown hK hP (ky_6_0 hk_j0a) cl_4 0 1 fq_4_0 q_5_0 rfl dX6_count_131 ?_
    refine rk_geti hx hb hts inlX0 hown hK hP (ky_4_0 (ky_6_0 hk_j0a)) cl_0 1 fq_0_1 q_27_2 rfl dX6_count_134 ?_
    exact re_i hx hb hr hlocks hP hS h dX6_count_137
  replace h := h.2 c9
  by_cases c10 : x1a = (5 : Int32)
  · replace h := h.1 c10
    refine lv_tableIn (off := 137) (tgt := 138) hx hb dX6_count_1 (by rw [c10]; decide) (by rw [c10]; decide) (by rw [c10]; rfl) (by decide) ?_
    refine lv_aload_n hx hb dX6_count_138 rfl (lv_at hl 0 rfl) ?_
    refine rk_getr hx hb hts inlX6 hown hK hP hk_j0a cl_6 0 1 fq_6_0 q_1_15 rfl dX6_count_139 ?_
    refine rk_getr hx hb hts inlX4 hown hK hP (ky_6_0 hk_j0a) cl_4 0 1 fq_4_0 q_5_0 rfl dX6_count_142 ?_
    refine rc_Vi (As := []) (rest := []) ⟨hx, hb, hml, hown, hts⟩ (mX0_tended l G ((j0a + 1) + 1) M _ (ky_4_0 (ky_6_0 hk_j0a)) h) (cwV 0 hts (gV_X0_tended q_30_6) rfl rfl rfl hdV_X0_tended ⟨Nat.le_of_ble_eq_true rfl, Nat.le_of_ble_eq_true rfl⟩) hK hP hS (ky_4_0 (ky_6_0 hk_j0a)) (by decide) cl_0 rfl hl.1 rfl (Nat.le_of_ble_eq_true rfl) dX6_count_145 ⟨Nat.zero_le _, Nat.zero_le _⟩ (fun r12 M11 H locs h hP hS => ?_)
    exact re_i hx hb hr hlocks hP hS h dX6_count_148
  replace h := h.2 c10
  by_cases c13 : x1a = (6 : Int32)
  · replace h := h.1 c13
    refine lv_tableIn (off := 148) (tgt := 149) hx hb dX6_count_1 (by rw [c13]; decide) (by rw [c13]; decide) (by rw [c13]; rfl) (by decide) ?_
    refine lv_aload_n hx hb dX6_count_149 rfl (lv_at hl 0 rfl) ?_
    refine rk_getr hx hb hts inlX6 hown hK hP hk_j0a cl_6 0 1 fq_6_0 q_1_15 rfl dX6_count_150 ?_
    refine rk_geti hx hb hts inlX4 hown hK hP (ky_6_0 hk_j0a) cl_4 3 fq_4_3 q_30_1 rfl dX6_count_153 ?_
    exact re_i hx hb hr hlocks hP hS h dX6_count_156
  replace h := h.2 c13
  by_cases c14 : x1a = (7 : Int32)
  · replace h := h.1 c14
    refine lv_tableIn (off := 156) (tgt := 157) hx hb dX6_count_1 (by rw [c14]; decide) (by rw [c14]; decide) (by rw [c14]; rfl) (by decide) ?_
    refine lv_aload_n hx hb dX6_count_157 rfl (lv_at hl 0 rfl) ?_
    refine rk_getr hx hb hts inlX6 hown hK hP hk_j0a cl_6 0 1 fq_6_0 q_1_15 rfl dX6_count_158 ?_
    refine rk_geti hx hb hts inlX4 hown hK hP (ky_6_0 hk_j0a) cl_4 4 fq_4_4 q_25_21 rfl dX6_count_161 ?_
    exact re_i hx hb hr hlocks hP hS h dX6_count_164
  replace h := h.2 c14
  by_cases c15 : x1a = (8 : Int32)
  · replace h := h.1 c15
    refine lv_tableIn (off := 164) (tgt := 165) hx hb dX6_count_1 (by rw [c15]; decide) (by rw [c15]; decide) (by rw [c15]; rfl) (by decide) ?_
    refine lv_aload_n hx hb dX6_count_165 rfl (lv_at hl 0 rfl) ?_
    refine rk_getr hx hb hts inlX6 hown hK hP hk_j0a cl_6 0 1 fq_6_0 q_1_15 rfl dX6_count_166 ?_
    refine rk_geti hx hb hts inlX4 hown hK hP (ky_6_0 hk_j0a) cl_4 5 fq_4_5 q_25_22 rfl dX6_count_169 ?_
    exact re_i hx hb hr hlocks hP hS h dX6_count_172
  replace h := h.2 c15
  by_cases c16 : x1a = (9 : Int32)
  · replace h := h.1 c16
    refine lv_tableIn (off := 172) (tgt := 173) hx hb dX6_count_1 (by rw [c16]; decide) (by rw [c16]; decide) (by rw [c16]; rfl) (by decide) ?_
    refine lv_aload_n hx hb dX6_count_173 rfl (lv_at hl 0 rfl) ?_
    refine rk_getr hx hb hts inlX6 hown hK hP hk_j0a cl_6 0 1 fq_6_0 q_1_15 rfl dX6_count_174 ?_
    refine rk_geti hx hb hts inlX4 hown hK hP (ky_6_0 hk_j0a) cl_4 6 fq_4_6 q_25_23 rfl dX6_count_177 ?_
    exact re_i hx hb hr hlocks hP hS h dX6_count_180
  replace h := h.2 c16
  by_cases c17 : x1a = (10 : Int32)
  · replace h := h.1 c17
    refine lv_tableIn (off := 180) (tgt := 181) hx hb dX6_count_1 (by rw [c17]; decide) (by rw [c17]; decide) (by rw [c17]; rfl) (by decide) ?_
    refine lv_aload_n hx hb dX6_count_181 rfl (lv_at hl 0 rfl) ?_
    refine rk_getr hx hb hts inlX6 hown hK hP hk_j0a cl_6 0 1 fq_6_0 q_1_15 rfl dX6_count_182 ?_
    refine rk_geti hx hb hts inlX4 hown hK hP (ky_6_0 hk_j0a) cl_4 7 fq_4_7 q_26_0 rfl dX6_count_185 ?_
    exact re_i hx hb hr hlocks hP hS h dX6_count_188
  replace h := h.2 c17
  by_cases c18 : x1a = (11 : Int32)
  · replace h := h.1 c18
    refine lv_tableIn (off := 188) (tgt := 189) hx hb dX6_count_1 (by rw [c18]; decide) (by rw [c18]; decide) (by rw [c18]; rfl) (by decide) ?_
    refine lv_aload_n hx hb dX6_count_189 rfl (lv_at hl 0 rfl) ?_
    refine rk_getr hx hb hts inlX6 hown hK hP hk_j0a cl_6 0 1 fq_6_0 q_1_15 rfl dX6_count_190 ?_
    refine rk_getr hx hb hts inlX4 hown hK hP (ky_6_0 hk_j0a) cl_4 2 18 fq_4_2 q_15_3 rfl dX6_count_193 ?_
    refine rk_geti hx hb hts inlX5 hown hK hP (ky_4_2 (ky_6_0 hk_j0a)) cl_5 0 fq_5_0 q_15_4 rfl dX6_count_196 ?_
    exact re_i hx hb hr hlocks hP hS h dX6_count_199
  replace h := h.2 c18
  by_cases c19 : x1a = (12 : Int32)
  · replace h := h.1 c19
    refine lv_tableIn (off := 199) (tgt := 200) hx hb dX6_count_1 (by rw [c19]; decide) (by rw [c19]; decide) (by rw [c19]; rfl) (by decide) ?_
    refine lv_aload_n hx hb dX6_count_200 rfl (lv_at hl 0 rfl) ?_
    refine rk_getr hx hb hts inlX6 hown hK hP hk_j0a cl_6 0 1 fq_6_0 q_1_15 rfl dX6_count_201 ?_
    refine rk_getr hx hb hts inlX4 hown hK hP (ky_6_0 hk_j0a) cl_4 2 18 fq_4_2 q_15_3 rfl dX6_count_204 ?_
    refine rk_geti hx hb hts inlX5 hown hK hP (ky_4_2 (ky_6_0 hk_j0a)) cl_5 0 fq_5_0 q_15_4 rfl dX6_count_207 ?_
    refine lv_if_ne (tgt := 218) hx hb dX6_count_210 (by decide) (fun c20 => ?_) (fun c20 => ?_)
    · replace h := h.1 c20
      refine lv_aload_n hx hb dX6_count_218 rfl (lv_at hl 0 rfl) ?_
      refine rk_getr hx hb hts inlX6 hown hK hP hk_j0a cl_6 0 1 fq_6_0 q_1_15 rfl dX6_count_219 ?_
      refine rk_getr hx hb hts inlX4 hown hK hP (ky_6_0 hk_j0a) cl_4 2 18 fq_4_2 q_15_3 rfl dX6_count_222 ?_
      refine rk_geti hx hb hts inlX5 hown hK hP (ky_4_2 (ky_6_0 hk_j0a)) cl_5 1 fq_5_1 q_30_2 rfl dX6_count_225 ?_
      exact re_i hx hb hr hlocks hP hS h dX6_count_228
    · replace h := h.2 c20
      refine lv_ldc hx hb hown (hts _ q_23_9) dX6_count_213 ?_
      refine lv_goto (tgt := 228) hx hb dX6_count_215 (by decide) ?_
      exact re_i hx hb hr hlocks hP hS h dX6_count_228
  replace h := h.2 c19
  by_cases c21 : x1a = (13 : Int32)
  · replace h := h.1 c21
    refine lv_tableIn (off := 228) (tgt := 229) hx hb dX6_count_1 (by rw [c21]; decide) (by rw [c21]; decide) (by rw [c21]; rfl) (by decide) ?_
    refine lv_aload_n hx hb dX6_count_229 rfl (lv_at hl 0 rfl) ?_
    refine rk_getr hx hb hts inlX6 hown hK hP hk_j0a cl_6 0 1 fq_6_0 q_1_15 rfl dX6_count_230 ?_
    refine rk_getr hx hb hts inlX4 hown hK hP (ky_6_0 hk_j0a) cl_4 2 18 fq_4_2 q_15_3 rfl dX6_count_233 ?_
    refine rk_geti hx hb hts inlX5 hown hK hP (ky_4_2 (ky_6_0 hk_j0a)) cl_5 2 fq_5_2 q_30_3 rfl dX6_count_236 ?_
    exact re_i hx hb hr hlocks hP hS h dX6_count_239
  replace h := h.2 c21
  by_cases c22 : x1a = (14 : Int32)
  · replace h := h.1 c22
    refine lv_tableIn (off := 239) (tgt := 240) hx hb dX6_count_1 (by rw [c22]; decide) (by rw [c22]; decide) (by rw [c22]; rfl) (by decide) ?_
    refine lv_aload_n hx hb dX6_count_240 rfl (lv_at hl 0 rfl) ?_
    refine rk_getr hx hb hts inlX6 hown hK hP hk_j0a cl_6 2 47 fq_6_2 q_1_20 rfl dX6_count_241 ?_
    refine rk_geti hx hb hts inlX2 hown hK hP (ky_6_2 hk_j0a) cl_2 0 fq_2_0 q_30_4 rfl dX6_count_244 ?_
    exact re_i hx hb hr hlocks hP hS h dX6_count_247
  replace h := h.2 c22
  by_cases c23 : x1a = (15 : Int32)
  · replace h := h.1 c23
    refine lv_tableIn (off := 247) (tgt := 248) hx hb dX6_count_1 (by rw [c23]; decide) (by rw [c23]; decide) (by rw [c23]; rfl) (by decide) ?_
    refine lv_aload_n hx hb dX6_count_248 rfl (lv_at hl 0 rfl) ?_
    refine rk_getr hx hb hts inlX6 hown hK hP hk_j0a cl_6 3 141 fq_6_3 q_2_0 rfl dX6_count_249 ?_
    refine rk_geti hx hb hts inlX3 hown hK hP (ky_6_3 hk_j0a) cl_3 0 fq_3_0 q_30_5 rfl dX6_count_252 ?_
    exact re_i hx hb hr hlocks hP hS h dX6_count_255
  replace h := h.2 c23
  refine lv_tableOut (tgt := 256) hx hb dX6_count_1 (by have gc1 := lv_neT c1 (show (0 : Int32).toInt = 0 from rfl); have gc2 := lv_neT c2 (show (1 : Int32).toInt = 1 from rfl); have gc3 := lv_neT c3 (show (2 : Int32).toInt = 2 from rfl); have gc8 := lv_neT c8 (show (3 : Int32).toInt = 3 from rfl); have gc9 := lv_neT c9 (show (4 : Int32).toInt = 4 from rfl); have gc10 := lv_neT c10 (show (5 : Int32).toInt = 5 from rfl); have gc13 := lv_neT c13 (show (6 : Int32).toInt = 6 from rfl); have gc14 := lv_neT c14 (show (7 : Int32).toInt = 7 from rfl); have gc15 := lv_neT c15 (show (8 : Int32).toInt = 8 from rfl); have gc16 := lv_neT c16 (show (9 : Int32).toInt = 9 from rfl); have gc17 := lv_neT c17 (show (10 : Int32).toInt = 10 from rfl); have gc18 := lv_neT c18 (show (11 : Int32).toInt = 11 from rfl); have gc19 := lv_neT c19 (show (12 : Int32).toInt = 12 from rfl); have gc21 := lv_neT c21 (show (13 : Int32).toInt = 13 from rfl); have gc22 := lv_neT c22 (show (14 : Int32).toInt = 14 from rfl); have gc23 := lv_neT c23 (show (15 : Int32).toInt = 15 from rfl); omega) (by decide) ?_
  refine lv_ldc hx hb hown (hts _ q_5_1) dX6_count_256 ?_
  exact re_i hx hb hr hlocks hP hS h dX6_count_258
