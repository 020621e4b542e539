/-! the walks: each method keeps its predicate; printed by gen.py -/
set_option maxHeartbeats 4000000 in
set_option maxRecDepth 100000 in
theorem mX6_call (l : Launch) (G : Gp) (j0a : Nat) (x1a : Int32) (M : Mm) (Post : Mm → Int32 → Prop) (hk_j0a : kd j0a = 6) (h : wX6_call Post M j0a x1a) : CtI l yX6_call wsX6_call rX6_call G [.ref (G.2.1 + j0a), .int x1a] M Post := by
  refine Met.ofW (cc := cX6_call) (maxL := 2) (ret := (some .int)) (by decide) rfl ?_
  intro p e s m args below meth c s₁ B hml hv
  obtain ⟨rfl, hK, hP⟩ := hv
  have hx := B.exec
  have hb := B.bytes
  have hr := B.returns
  have hlocks := B.notSynchronized
  have hts0 := atoms_spec (ws := wsX6_call) B.pre
  have hts : ∀ w ∈ wsL_law, w.before _ s = true := fun w hw => hts0 w (List.mem_cons_of_mem _ hw)
  have hown : s.vm.findClass RX6 = some m.cls := findClass_of_methodNamed B.named
  have hS : va_S (Fr G) s.heap s.heap [] := va_S.rf
  have hl := lv_entry ([.ref (G.2.1 + j0a), .int x1a]) (n := 2) (Nat.le_of_ble_eq_true rfl)
  rw [lg_entry_eq]
  generalize (lg_sl ([.ref (G.2.1 + j0a), .int x1a]) ++ List.replicate (2 - (lg_sl ([.ref (G.2.1 + j0a), .int x1a])).length) Slot.unset).toArray = ls at hl ⊢
  have hl : lv_has ls 2 [(0, .ref (G.2.1 + j0a)), (1, .int x1a)] := hl
  unfold wX6_call at h
  refine lv_aload_n hx hb dX6_call_0 rfl (lv_at hl 0 rfl) ?_
  refine rk_getr hx hb hts inlX6 hown hK hP hk_j0a cl_6 0 1 fq_6_0 q_1_12 rfl dX6_call_1 ?_
  refine rk_getr hx hb hts inlX4 hown hK hP (ky_6_0 hk_j0a) cl_4 1 10 fq_4_1 q_4_17 rfl dX6_call_4 ?_
  refine lv_iload_n hx hb dX6_call_7 rfl (lv_at hl 1 rfl) ?_
  refine rc_Vi (As := [.int x1a]) (rest := []) ⟨hx, hb, hml, hown, hts⟩ (mX1_has l G ((j0a + 1) + 10) x1a M _ (ky_4_1 (ky_6_0 hk_j0a)) h) (cwV 1 hts (gV_X1_has q_6_20) rfl rfl rfl hdV_X1_has ⟨Nat.le_of_ble_eq_true rfl, Nat.le_of_ble_eq_true rfl⟩) hK hP hS (ky_4_1 (ky_6_0 hk_j0a)) (by decide) cl_1 rfl hl.1 rfl (Nat.le_of_ble_eq_true rfl) dX6_call_8 ⟨Nat.zero_le _, Nat.zero_le _⟩ (fun r2 M1 H locs h hP hS => ?_)
  refine lv_if_ne (tgt := 17) hx hb dX6_call_11 (by decide) (fun c3 => ?_) (fun c3 => ?_)
  · replace h := h.1 c3
    refine lv_aload_n hx hb dX6_call_17 rfl (lv_at hl 0 rfl) ?_
    refine rk_getr hx hb hts inlX6 hown hK hP hk_j0a cl_6 0 1 fq_6_0 q_1_12 rfl dX6_call_18 ?_
    refine rk_getr hx hb hts inlX4 hown hK hP (ky_6_0 hk_j0a) cl_4 1 10 fq_4_1 q_4_17 rfl dX6_call_21 ?_
    refine lv_iload_n hx hb dX6_call_24 rfl (lv_at hl 1 rfl) ?_
    refine rc_Vi (As := [.int x1a]) (rest := []) ⟨hx, hb, hml, hown, hts⟩ (mX1_canCall l G ((j0a + 1) + 10) x1a M1 _ (ky_4_1 (ky_6_0 hk_j0a)) h) (cwV 1 hts (gV_X1_canCall q_12_23) rfl rfl rfl hdV_X1_canCall ⟨Nat.le_of_ble_eq_true rfl, Nat.le_of_ble_eq_true rfl⟩) hK hP hS (ky_4_1 (ky_6_0 hk_j0a)) (by decide) cl_1 rfl hl.1 rfl (Nat.le_of_ble_eq_true rfl) dX6_call_25 ⟨Nat.zero_le _, Nat.zero_le _⟩ (fun r5 M4 H locs h hP hS => ?_)
    refine lv_if_ne (tgt := 34) hx hb dX6_call_28 (by decide) (fun c6 => ?_) (fun c6 => ?_)
    · replace h := h.1 c6
      refine lv_aload_n hx hb dX6_call_34 rfl (lv_at hl 0 rfl) ?_
      refine rk_getr hx hb hts inlX6 hown hK hP hk_j0a cl_6 2 47 fq_6_2 q_1_17 rfl dX6_call_35 ?_
      refine lv_aload_n hx hb dX6_call_38 rfl (lv_at hl 0 rfl) ?_
      refine rk_getr hx hb hts inlX6 hown hK hP hk_j0a cl_6 0 1 fq_6_0 q_1_12 rfl dX6_call_39 ?_
      refine rc_Vv (As := [.ref (G.2.1 + (j0a + 1))]) (rest := []) ⟨hx, hb, hml, hown, hts⟩ (mX2_record l G (j0a + 47) (j0a + 1) M4 _ (ky_6_2 hk_j0a) (ky_6_0 hk_j0a) h) (cwV 1 hts (gV_X2_record q_10_3) rfl rfl rfl hdV_X2_record ⟨Nat.le_of_ble_eq_true rfl, Nat.le_of_ble_eq_true rfl⟩) hK hP hS (ky_6_2 hk_j0a) (by decide) cl_2 rfl hl.1 rfl (Nat.le_of_ble_eq_true rfl) dX6_call_42 ⟨Nat.zero_le _, Nat.zero_le _⟩ (fun M7 H locs h hP hS => ?_)
      refine lv_aload_n hx hb dX6_call_45 rfl (lv_at hl 0 rfl) ?_
      refine rk_getr hx hb hts inlX6 hown hK hP hk_j0a cl_6 0 1 fq_6_0 q_1_12 rfl dX6_call_46 ?_
      refine rk_getr hx hb hts inlX4 hown hK hP (ky_6_0 hk_j0a) cl_4 1 10 fq_4_1 q_4_17 rfl dX6_call_49 ?_
      refine lv_iload_n hx hb dX6_call_52 rfl (lv_at hl 1 rfl) ?_
      refine rc_Vi (As := [.int x1a]) (rest := []) ⟨hx, hb, hml, hown, hts⟩ (mX1_beginCall l G ((j0a + 1) + 10) x1a M7 _ (ky_4_1 (ky_6_0 hk_j0a)) h) (cwV 1 hts (gV_X1_beginCall q_13_4) rfl rfl rfl hdV_X1_beginCall ⟨Nat.le_of_ble_eq_true rfl, Nat.le_of_ble_eq_true rfl⟩) hK hP hS (ky_4_1 (ky_6_0 hk_j0a)) (by decide) cl_1 rfl hl.1 rfl (Nat.le_of_ble_eq_true rfl) dX6_call_53 ⟨Nat.zero_le _, Nat.zero_le _⟩ (fun r10 M9 H locs h hP hS => ?_)
      exact re_i hx hb hr hlocks hP hS h dX6_call_56
    · replace h := h.2 c6
      refine lv_ldc hx hb hown (hts _ q_12_22) dX6_call_31 ?_
      exact re_i hx hb hr hlocks hP hS h dX6_call_33
  · replace h := h.2 c3
    refine lv_ldc hx hb hown (hts _ q_5_9) dX6_call_14 ?_
    exact re_i hx hb hr hlocks hP hS h dX6_call_16
set_option maxHeartbeats 4000000 in
set_option maxRecDepth 100000 in
theorem mX6_turn (l : Launch) (G : Gp) (j0a : Nat) (x1a : Int32) (x2a : Int32) (M : Mm) (Post : Mm → Int32 → Prop) (hk_j0a : kd j0a = 6) (h : wX6_turn Post M j0a x1a x2a) : CtI l yX6_turn wsX6_turn rX6_turn G [.ref (G.2.1 + j0a), .int x1a, .int x2a] M Post := by
  refine Met.ofW (cc := cX6_turn) (maxL := 3) (ret := (some .int)) (by decide) rfl ?_
  intro p e s m args below meth c s₁ B hml hv
  obtain ⟨rfl, hK, hP⟩ := hv
  have hx := B.exec
  have hb := B.bytes
  have hr := B.returns
  have hlocks := B.notSynchronized
  have hts0 := atoms_spec (ws := wsX6_turn) B.pre
  have hts : ∀ w ∈ wsL_law, w.before _ s = true := fun w hw => hts0 w (List.mem_cons_of_mem _ hw)
  have hown : s.vm.findClass RX6 = some m.cls := findClass_of_methodNamed B.named
  have hS : va_S (Fr G) s.heap s.heap [] := va_S.rf
  have hl := lv_entry ([.ref (G.2.1 + j0a), .int x1a, .int x2a]) (n := 3) (Nat.le_of_ble_eq_true rfl)
  rw [lg_entry_eq]
  generalize (lg_sl ([.ref (G.2.1 + j0a), .int x1a, .int x2a]) ++ List.replicate (3 - (lg_sl ([.ref (G.2.1 + j0a), .int x1a, .int x2a])).length) Slot.unset).toArray = ls at hl ⊢
  have hl : lv_has ls 3 [(0, .ref (G.2.1 + j0a)), (1, .int x1a), (2, .int x2a)] := hl
  unfold wX6_turn at h
  refine lv_aload_n hx hb dX6_turn_0 rfl (lv_at hl 0 rfl) ?_
  refine rk_getr hx hb hts inlX6 hown hK hP hk_j0a cl_6 0 1 fq_6_0 q_1_12 rfl dX6_turn_1 ?_
  refine rk_getr hx hb hts inlX4 hown hK hP (ky_6_0 hk_j0a) cl_4 0 1 fq_4_0 q_4_15 rfl dX6_turn_4 ?_
  refine lv_iload_n hx hb dX6_turn_7 rfl (lv_at hl 1 rfl) ?_
  refine rc_Vi (As := [.int x1a]) (rest := []) ⟨hx, hb, hml, hown, hts⟩ (mX0_areGates l G ((j0a + 1) + 1) x1a M _ (ky_4_0 (ky_6_0 hk_j0a)) h) (cwV 1 hts (gV_X0_areGates q_14_1) rfl rfl rfl hdV_X0_areGates ⟨Nat.le_of_ble_eq_true rfl, Nat.le_of_ble_eq_true rfl⟩) hK hP hS (ky_4_0 (ky_6_0 hk_j0a)) (by decide) cl_0 rfl hl.1 rfl (Nat.le_of_ble_eq_true rfl) dX6_turn_8 ⟨Nat.zero_le _, Nat.zero_le _⟩ (fun r2 M1 H locs h hP hS => ?_)
  refine lv_if_eq (tgt := 24) hx hb dX6_turn_11 (by decide) (fun c3 => ?_) (fun c3 => ?_)
  · replace h := h.1 c3
    refine lv_ldc hx hb hown (hts _ q_5_9) dX6_turn_24 ?_
    exact re_i hx hb hr hlocks hP hS h dX6_turn_26
  · replace h := h.2 c3
    refine lv_iload_n hx hb dX6_turn_14 rfl (lv_at hl 2 rfl) ?_
    refine lv_iconst (v := (1 : Int32)) hx hb dX6_turn_15 k_iconst_1 ?_
    refine lv_bipush (v := (20 : Int32)) hx hb dX6_turn_16 k_bipush_20 ?_
    refine rc_Si (As := [.int x2a, .int (1 : Int32), .int (20 : Int32)]) (rest := []) ⟨hx, hb, hml, hown, hts⟩ (mX6_isOutside l G x2a (1 : Int32) (20 : Int32) M1 _ h) (va_cwS 3 hts (gS_X6_isOutside q_9_14) rfl rfl rfl hdS_X6_isOutside ⟨Nat.le_of_ble_eq_true rfl, Nat.le_of_ble_eq_true rfl⟩) hK hP hS rfl hl.1 rfl (Nat.le_of_ble_eq_true rfl) dX6_turn_18 ⟨Nat.zero_le _, Nat.zero_le _⟩ (fun r5 M4 H locs h hP hS => ?_)
    refine lv_if_eq (tgt := 27) hx hb dX6_turn_21 (by decide) (fun c6 => ?_) (fun c6 => ?_)
    · replace h := h.1 c6
      refine lv_aload_n hx hb dX6_turn_27 rfl (lv_at hl 0 rfl) ?_
      refine rk_getr hx hb hts inlX6 hown hK hP hk_j0a cl_6 0 1 fq_6_0 q_1_12 rfl dX6_turn_28 ?_
      refine rk_getr hx hb hts inlX4 hown hK hP (ky_6_0 hk_j0a) cl_4 2 18 fq_4_2 q_5_2 rfl dX6_turn_31 ?_
      refine rk_geti hx hb hts inlX5 hown hK hP (ky_4_2 (ky_6_0 hk_j0a)) cl_5 0 fq_5_0 q_5_3 rfl dX6_turn_34 ?_
      refine lv_bipush (v := (8 : Int32)) hx hb dX6_turn_37 k_bipush_8 ?_
      refine lv_icmp_lt (tgt := 45) hx hb dX6_turn_39 (by decide) (fun c7 => ?_) (fun c7 => ?_)
      · replace h := h.1 c7
        refine lv_aload_n hx hb dX6_turn_45 rfl (lv_at hl 0 rfl) ?_
        refine rk_getr hx hb hts inlX6 hown hK hP hk_j0a cl_6 2 47 fq_6_2 q_1_17 rfl dX6_turn_46 ?_
        refine lv_aload_n hx hb dX6_turn_49 rfl (lv_at hl 0 rfl) ?_
        refine rk_getr hx hb hts inlX6 hown hK hP hk_j0a cl_6 0 1 fq_6_0 q_1_12 rfl dX6_turn_50 ?_
        refine rc_Vv (As := [.ref (G.2.1 + (j0a + 1))]) (rest := []) ⟨hx, hb, hml, hown, hts⟩ (mX2_record l G (j0a + 47) (j0a + 1) M4 _ (ky_6_2 hk_j0a) (ky_6_0 hk_j0a) h) (cwV 1 hts (gV_X2_record q_10_3) rfl rfl rfl hdV_X2_record ⟨Nat.le_of_ble_eq_true rfl, Nat.le_of_ble_eq_true rfl⟩) hK hP hS (ky_6_2 hk_j0a) (by decide) cl_2 rfl hl.1 rfl (Nat.le_of_ble_eq_true rfl) dX6_turn_53 ⟨Nat.zero_le _, Nat.zero_le _⟩ (fun M8 H locs h hP hS => ?_)
        refine lv_aload_n hx hb dX6_turn_56 rfl (lv_at hl 0 rfl) ?_
        refine rk_getr hx hb hts inlX6 hown hK hP hk_j0a cl_6 0 1 fq_6_0 q_1_12 rfl dX6_turn_57 ?_
        refine rk_getr hx hb hts inlX4 hown hK hP (ky_6_0 hk_j0a) cl_4 2 18 fq_4_2 q_5_2 rfl dX6_turn_60 ?_
        refine lv_iload_n hx hb dX6_turn_63 rfl (lv_at hl 1 rfl) ?_
        refine lv_iload_n hx hb dX6_turn_64 rfl (lv_at hl 2 rfl) ?_
        refine rc_Vi (As := [.int x1a, .int x2a]) (rest := []) ⟨hx, hb, hml, hown, hts⟩ (mX5_add l G ((j0a + 1) + 18) x1a x2a M8 _ (ky_4_2 (ky_6_0 hk_j0a)) h) (cwV 2 hts (gV_X5_add q_14_9) rfl rfl rfl hdV_X5_add ⟨Nat.le_of_ble_eq_true rfl, Nat.le_of_ble_eq_true rfl⟩) hK hP hS (ky_4_2 (ky_6_0 hk_j0a)) (by decide) cl_5 rfl hl.1 rfl (Nat.le_of_ble_eq_true rfl) dX6_turn_65 ⟨Nat.zero_le _, Nat.zero_le _⟩ (fun r11 M10 H locs h hP hS => ?_)
        exact re_i hx hb hr hlocks hP hS h dX6_turn_68
      · replace h := h.2 c7
        refine lv_ldc hx hb hown (hts _ q_10_2) dX6_turn_42 ?_
        exact re_i hx hb hr hlocks hP hS h dX6_turn_44
    · replace h := h.2 c6
      refine lv_ldc hx hb hown (hts _ q_5_9) dX6_turn_24 ?_
      exact re_i hx hb hr hlocks hP hS h dX6_turn_26
set_option maxHeartbeats 4000000 in
set_option maxRecDepth 100000 in
theorem mX6_noTurns (l : Launch) (G : Gp) (j0a : Nat) (M : Mm) (Post : Mm → Int32 → Prop) (hk_j0a : kd j0a = 6) (h : wX6_noTurns Post M j0a) : CtI l yX6_noTurns wsX6_noTurns rX6_noTurns G [.ref (G.2.1 + j0a)] M Post := by
  refine Met.ofW (cc := cX6_noTurns) (maxL := 1) (ret := (some .int)) (by decide) rfl ?_
  intro p e s m args below meth c s₁ B hml hv
  obtain ⟨rfl, hK, hP⟩ := hv
  have hx := B.exec
  have hb := B.bytes
  have hr := B.returns
  have hlocks := B.notSynchronized
  have hts0 := atoms_spec (ws := wsX6_noTurns) B.pre
  have hts : ∀ w ∈ wsL_law, w.before _ s = true := fun w hw => hts0 w (List.mem_cons_of_mem _ hw)
  have hown : s.vm.findClass RX6 = some m.cls := findClass_of_methodNamed B.named
  have hS : va_S (Fr G) s.heap s.heap [] := va_S.rf
  have hl := lv_entry ([.ref (G.2.1 + j0a)]) (n := 1) (Nat.le_of_ble_eq_true rfl)
  rw [lg_entry_eq]
  generalize (lg_sl ([.ref (G.2.1 + j0a)]) ++ List.replicate (1 - (lg_sl ([.ref (G.2.1 + j0a)])).length) Slot.unset).toArray = ls at hl ⊢
  have hl : lv_has ls 1 [(0, .ref (G.2.1 + j0a))] := hl
  unfold wX6_noTurns at h
  refine lv_aload_n hx hb dX6_noTurns_0 rfl (lv_at hl 0 rfl) ?_
  refine rk_getr hx hb hts inlX6 hown hK hP hk_j0a cl_6 2 47 fq_6_2 q_1_17 rfl dX6_noTurns_1 ?_
  refine lv_aload_n hx hb dX6_noTurns_4 rfl (lv_at hl 0 rfl) ?_
  refine rk_getr hx hb hts inlX6 hown hK hP hk_j0a cl_6 0 1 fq_6_0 q_1_12 rfl dX6_noTurns_5 ?_
  refine rc_Vv (As := [.ref (G.2.1 + (j0a + 1))]) (rest := []) ⟨hx, hb, hml, hown, hts⟩ (mX2_record l G (j0a + 47) (j0a + 1) M _ (ky_6_2 hk_j0a) (ky_6_0 hk_j0a) h) (cwV 1 hts (gV_X2_record q_10_3) rfl rfl rfl hdV_X2_record ⟨Nat.le_of_ble_eq_true rfl, Nat.le_of_ble_eq_true rfl⟩) hK hP hS (ky_6_2 hk_j0a) (by decide) cl_2 rfl hl.1 rfl (Nat.le_of_ble_eq_true rfl) dX6_noTurns_8 ⟨Nat.zero_le _, Nat.zero_le _⟩ (fun M1 H locs h hP hS => ?_)
  refine lv_aload_n hx hb dX6_noTurns_11 rfl (lv_at hl 0 rfl) ?_
  refine rk_getr hx hb hts inlX6 hown hK hP hk_j0a cl_6 0 1 fq_6_0 q_1_12 rfl dX6_noTurns_12 ?_
  refine rk_getr hx hb hts inlX4 hown hK hP (ky_6_0 hk_j0a) cl_4 2 18 fq_4_2 q_5_2 rfl dX6_noTurns_15 ?_
  refine rc_Vi (As := []) (rest := []) ⟨hx, hb, hml, hown, hts⟩ (mX5_removeAll l G ((j0a + 1) + 18) M1 _ (ky_4_2 (ky_6_0 hk_j0a)) h) (cwV 0 hts (gV_X5_removeAll q_13_13) rfl rfl rfl hdV_X5_removeAll ⟨Nat.le_of_ble_eq_true rfl, Nat.le_of_ble_eq_true rfl⟩) hK hP hS (ky_4_2 (ky_6_0 hk_j0a)) (by decide) cl_5 rfl hl.1 rfl (Nat.le_of_ble_eq_true rfl) dX6_noTurns_18 ⟨Nat.zero_le _, Nat.zero_le _⟩ (fun r4 M3 H locs h hP hS => ?_)
  exact re_i hx hb hr hlocks hP hS h dX6_noTurns_21
set_option maxHeartbeats 4000000 in
set_option maxRecDepth 100000 in
theorem mX6_hour (l : Launch) (G : Gp) (j0a : Nat) (x1a : Int32) (M : Mm) (Post : Mm → Int32 → Prop) (hk_j0a : kd j0a = 6) (h : wX6_hour Post M j0a x1a) : CtI l yX6_hour wsX6_hour rX6_hour G [.ref (G.2.1 + j0a), .int x1a] M Post := by
  refine Met.ofW (cc := cX6_hour) (maxL := 2) (ret := (some .int)) (by decide) rfl ?_
  intro p e s m args below meth c s₁ B hml hv
  obtain ⟨rfl, hK, hP⟩ := hv
  have hx := B.exec
  have hb := B.bytes
  have hr := B.returns
  have hlocks := B.notSynchronized
  have hts0 := atoms_spec (ws := wsX6_hour) B.pre
  have hts : ∀ w ∈ wsL_law, w.before _ s = true := fun w hw => hts0 w (List.mem_cons_of_mem _ hw)
  have hown : s.vm.findClass RX6 = some m.cls := findClass_of_methodNamed B.named
  have hS : va_S (Fr G) s.heap s.heap [] := va_S.rf
  have hl := lv_entry ([.ref (G.2.1 + j0a), .int x1a]) (n := 2) (Nat.le_of_ble_eq_true rfl)
  rw [lg_entry_eq]
  generalize (lg_sl ([.ref (G.2.1 + j0a), .int x1a]) ++ List.replicate (2 - (lg_sl ([.ref (G.2.1 + j0a), .int x1a])).length) Slot.unset).toArray = ls at hl ⊢
  have hl : lv_has ls 2 [(0, .ref (G.2.1 + j0a)), (1, .int x1a)] := hl
  unfold wX6_hour at h
  refine lv_iload_n hx hb dX6_hour_0 rfl (lv_at hl 1 rfl) ?_
  refine lv_iconst (v := (0 : Int32)) hx hb dX6_hour_1 k_iconst_0 ?_
  refine lv_sipush (v := (999 : Int32)) hx hb dX6_hour_2 k_sipush_999 ?_
  refine rc_Si (As := [.int x1a, .int (0 : Int32), .int (999 : Int32)]) (rest := []) ⟨hx, hb, hml, hown, hts⟩ (mX6_isOutside l G x1a (0 : Int32) (999 : Int32) M _ h) (va_cwS 3 hts (gS_X6_isOutside q_9_14) rfl rfl rfl hdS_X6_isOutside ⟨Nat.le_of_ble_eq_true rfl, Nat.le_of_ble_eq_true rfl⟩) hK hP hS rfl hl.1 rfl (Nat.le_of_ble_eq_true rfl) dX6_hour_5 ⟨Nat.zero_le _, Nat.zero_le _⟩ (fun r2 M1 H locs h hP hS => ?_)
  refine lv_if_eq (tgt := 14) hx hb dX6_hour_8 (by decide) (fun c3 => ?_) (fun c3 => ?_)
  · replace h := h.1 c3
    refine lv_aload_n hx hb dX6_hour_14 rfl (lv_at hl 0 rfl) ?_
    refine rk_getr hx hb hts inlX6 hown hK hP hk_j0a cl_6 0 1 fq_6_0 q_1_12 rfl dX6_hour_15 ?_
    refine lv_iconst (v := (1 : Int32)) hx hb dX6_hour_18 k_iconst_1 ?_
    refine rc_Vi (As := [.int (1 : Int32)]) (rest := []) ⟨hx, hb, hml, hown, hts⟩ (mX4_hasHoursLeft l G (j0a + 1) (1 : Int32) M1 _ (ky_6_0 hk_j0a) h) (cwV 1 hts (gV_X4_hasHoursLeft q_14_17) rfl rfl rfl hdV_X4_hasHoursLeft ⟨Nat.le_of_ble_eq_true rfl, Nat.le_of_ble_eq_true rfl⟩) hK hP hS (ky_6_0 hk_j0a) (by decide) cl_4 rfl hl.1 rfl (Nat.le_of_ble_eq_true rfl) dX6_hour_19 ⟨Nat.zero_le _, Nat.zero_le _⟩ (fun r5 M4 H locs h hP hS => ?_)
    refine lv_if_ne (tgt := 28) hx hb dX6_hour_22 (by decide) (fun c6 => ?_) (fun c6 => ?_)
    · replace h := h.1 c6
      refine lv_aload_n hx hb dX6_hour_28 rfl (lv_at hl 0 rfl) ?_
      refine rk_getr hx hb hts inlX6 hown hK hP hk_j0a cl_6 2 47 fq_6_2 q_1_17 rfl dX6_hour_29 ?_
      refine lv_aload_n hx hb dX6_hour_32 rfl (lv_at hl 0 rfl) ?_
      refine rk_getr hx hb hts inlX6 hown hK hP hk_j0a cl_6 0 1 fq_6_0 q_1_12 rfl dX6_hour_33 ?_
      refine rc_Vv (As := [.ref (G.2.1 + (j0a + 1))]) (rest := []) ⟨hx, hb, hml, hown, hts⟩ (mX2_record l G (j0a + 47) (j0a + 1) M4 _ (ky_6_2 hk_j0a) (ky_6_0 hk_j0a) h) (cwV 1 hts (gV_X2_record q_10_3) rfl rfl rfl hdV_X2_record ⟨Nat.le_of_ble_eq_true rfl, Nat.le_of_ble_eq_true rfl⟩) hK hP hS (ky_6_2 hk_j0a) (by decide) cl_2 rfl hl.1 rfl (Nat.le_of_ble_eq_true rfl) dX6_hour_36 ⟨Nat.zero_le _, Nat.zero_le _⟩ (fun M7 H locs h hP hS => ?_)
      refine lv_aload_n hx hb dX6_hour_39 rfl (lv_at hl 0 rfl) ?_
      refine rk_getr hx hb hts inlX6 hown hK hP hk_j0a cl_6 0 1 fq_6_0 q_1_12 rfl dX6_hour_40 ?_
      refine lv_iload_n hx hb dX6_hour_43 rfl (lv_at hl 1 rfl) ?_
      refine rc_Vi (As := [.int x1a]) (rest := []) ⟨hx, hb, hml, hown, hts⟩ (mX4_passHour l G (j0a + 1) x1a M7 _ (ky_6_0 hk_j0a) h) (cwV 1 hts (gV_X4_passHour q_19_9) rfl rfl rfl hdV_X4_passHour ⟨Nat.le_of_ble_eq_true rfl, Nat.le_of_ble_eq_true rfl⟩) hK hP hS (ky_6_0 hk_j0a) (by decide) cl_4 rfl hl.1 rfl (Nat.le_of_ble_eq_true rfl) dX6_hour_44 ⟨Nat.zero_le _, Nat.zero_le _⟩ (fun r10 M9 H locs h hP hS => ?_)
      exact re_i hx hb hr hlocks hP hS h dX6_hour_47
    · replace h := h.2 c6
      refine lv_ldc hx hb hown (hts _ q_10_2) dX6_hour_25 ?_
      exact re_i hx hb hr hlocks hP hS h dX6_hour_27
  · replace h := h.2 c3
    refine lv_ldc hx hb hown (hts _ q_5_9) dX6_hour_11 ?_
    exact re_i hx hb hr hlocks hP hS h dX6_hour_13
set_option maxHeartbeats 4000000 in
set_option maxRecDepth 100000 in
theorem mX6_run (l : Launch) (G : Gp) (j0a : Nat) (x1a : Int32) (x2a : Int32) (M : Mm) (Post : Mm → Int32 → Prop) (hk_j0a : kd j0a = 6) (h : wX6_run Post M j0a x1a x2a) : CtI l yX6_run wsX6_run rX6_run G [.ref (G.2.1 + j0a), .int x1a, .int x2a] M Post := by
  refine Met.ofW (cc := cX6_run) (maxL := 3) (ret := (some .int)) (by decide) rfl ?_
  intro p e s m args below meth c s₁ B hml hv
  obtain ⟨rfl, hK, hP⟩ := hv
  have hx := B.exec
  have hb := B.bytes
  have hr := B.returns
  have hlocks := B.notSynchronized
  have hts0 := atoms_spec (ws := wsX6_run) B.pre
  have hts : ∀ w ∈ wsL_law, w.before _ s = true := fun w hw => hts0 w (List.mem_cons_of_mem _ hw)
  have hown : s.vm.findClass RX6 = some m.cls := findClass_of_methodNamed B.named
  have hS : va_S (Fr G) s.heap s.heap [] := va_S.rf
  have hl := lv_entry ([.ref (G.2.1 + j0a), .int x1a, .int x2a]) (n := 3) (Nat.le_of_ble_eq_true rfl)
  rw [lg_entry_eq]
  generalize (lg_sl ([.ref (G.2.1 + j0a), .int x1a, .int x2a]) ++ List.replicate (3 - (lg_sl ([.ref (G.2.1 + j0a), .int x1a, .int x2a])).length) Slot.unset).toArray = ls at hl ⊢
  have hl : lv_has ls 3 [(0, .ref (G.2.1 + j0a)), (1, .int x1a), (2, .int x2a)] := hl
  unfold wX6_run at h
  refine lv_iload_n hx hb dX6_run_0 rfl (lv_at hl 1 rfl) ?_
  refine lv_iconst (v := (1 : Int32)) hx hb dX6_run_1 k_iconst_1 ?_
  refine lv_bipush (v := (100 : Int32)) hx hb dX6_run_2 k_bipush_100 ?_
  refine rc_Si (As := [.int x1a, .int (1 : Int32), .int (100 : Int32)]) (rest := []) ⟨hx, hb, hml, hown, hts⟩ (mX6_isOutside l G x1a (1 : Int32) (100 : Int32) M _ h) (va_cwS 3 hts (gS_X6_isOutside q_9_14) rfl rfl rfl hdS_X6_isOutside ⟨Nat.le_of_ble_eq_true rfl, Nat.le_of_ble_eq_true rfl⟩) hK hP hS rfl hl.1 rfl (Nat.le_of_ble_eq_true rfl) dX6_run_4 ⟨Nat.zero_le _, Nat.zero_le _⟩ (fun r2 M1 H locs h hP hS => ?_)
  refine lv_if_ne (tgt := 21) hx hb dX6_run_7 (by decide) (fun c3 => ?_) (fun c3 => ?_)
  · replace h := h.1 c3
    refine lv_ldc hx hb hown (hts _ q_5_9) dX6_run_21 ?_
    exact re_i hx hb hr hlocks hP hS h dX6_run_23
  · replace h := h.2 c3
    refine lv_iload_n hx hb dX6_run_10 rfl (lv_at hl 2 rfl) ?_
    refine lv_iconst (v := (0 : Int32)) hx hb dX6_run_11 k_iconst_0 ?_
    refine lv_sipush (v := (999 : Int32)) hx hb dX6_run_12 k_sipush_999 ?_
    refine rc_Si (As := [.int x2a, .int (0 : Int32), .int (999 : Int32)]) (rest := []) ⟨hx, hb, hml, hown, hts⟩ (mX6_isOutside l G x2a (0 : Int32) (999 : Int32) M1 _ h) (va_cwS 3 hts (gS_X6_isOutside q_9_14) rfl rfl rfl hdS_X6_isOutside ⟨Nat.le_of_ble_eq_true rfl, Nat.le_of_ble_eq_true rfl⟩) hK hP hS rfl hl.1 rfl (Nat.le_of_ble_eq_true rfl) dX6_run_15 ⟨Nat.zero_le _, Nat.zero_le _⟩ (fun r5 M4 H locs h hP hS => ?_)
    refine lv_if_eq (tgt := 24) hx hb dX6_run_18 (by decide) (fun c6 => ?_) (fun c6 => ?_)
    · replace h := h.1 c6
      refine lv_aload_n hx hb dX6_run_24 rfl (lv_at hl 0 rfl) ?_
      refine rk_getr hx hb hts inlX6 hown hK hP hk_j0a cl_6 0 1 fq_6_0 q_1_12 rfl dX6_run_25 ?_
      refine lv_iload_n hx hb dX6_run_28 rfl (lv_at hl 1 rfl) ?_
      refine rc_Vi (As := [.int x1a]) (rest := []) ⟨hx, hb, hml, hown, hts⟩ (mX4_hasHoursLeft l G (j0a + 1) x1a M4 _ (ky_6_0 hk_j0a) h) (cwV 1 hts (gV_X4_hasHoursLeft q_14_17) rfl rfl rfl hdV_X4_hasHoursLeft ⟨Nat.le_of_ble_eq_true rfl, Nat.le_of_ble_eq_true rfl⟩) hK hP hS (ky_6_0 hk_j0a) (by decide) cl_4 rfl hl.1 rfl (Nat.le_of_ble_eq_true rfl) dX6_run_29 ⟨Nat.zero_le _, Nat.zero_le _⟩ (fun r8 M7 H locs h hP hS => ?_)
      refine lv_if_ne (tgt := 38) hx hb dX6_run_32 (by decide) (fun c9 => ?_) (fun c9 => ?_)
      · replace h := h.1 c9
        refine lv_aload_n hx hb dX6_run_38 rfl (lv_at hl 0 rfl) ?_
        refine rk_getr hx hb hts inlX6 hown hK hP hk_j0a cl_6 2 47 fq_6_2 q_1_17 rfl dX6_run_39 ?_
        refine lv_aload_n hx hb dX6_run_42 rfl (lv_at hl 0 rfl) ?_
        refine rk_getr hx hb hts inlX6 hown hK hP hk_j0a cl_6 0 1 fq_6_0 q_1_12 rfl dX6_run_43 ?_
        refine rc_Vv (As := [.ref (G.2.1 + (j0a + 1))]) (rest := []) ⟨hx, hb, hml, hown, hts⟩ (mX2_record l G (j0a + 47) (j0a + 1) M7 _ (ky_6_2 hk_j0a) (ky_6_0 hk_j0a) h) (cwV 1 hts (gV_X2_record q_10_3) rfl rfl rfl hdV_X2_record ⟨Nat.le_of_ble_eq_true rfl, Nat.le_of_ble_eq_true rfl⟩) hK hP hS (ky_6_2 hk_j0a) (by decide) cl_2 rfl hl.1 rfl (Nat.le_of_ble_eq_true rfl) dX6_run_46 ⟨Nat.zero_le _, Nat.zero_le _⟩ (fun M10 H locs h hP hS => ?_)
        refine lv_aload_n hx hb dX6_run_49 rfl (lv_at hl 0 rfl) ?_
        refine rk_getr hx hb hts inlX6 hown hK hP hk_j0a cl_6 0 1 fq_6_0 q_1_12 rfl dX6_run_50 ?_
        refine lv_iload_n hx hb dX6_run_53 rfl (lv_at hl 1 rfl) ?_
        refine lv_iload_n hx hb dX6_run_54 rfl (lv_at hl 2 rfl) ?_
        refine rc_Vi (As := [.int x1a, .int x2a]) (rest := []) ⟨hx, hb, hml, hown, hts⟩ (mX4_runHours l G (j0a + 1) x1a x2a M10 _ (ky_6_0 hk_j0a) h) (cwV 2 hts (gV_X4_runHours q_14_21) rfl rfl rfl hdV_X4_runHours ⟨Nat.le_of_ble_eq_true rfl, Nat.le_of_ble_eq_true rfl⟩) hK hP hS (ky_6_0 hk_j0a) (by decide) cl_4 rfl hl.1 rfl (Nat.le_of_ble_eq_true rfl) dX6_run_55 ⟨Nat.zero_le _, Nat.zero_le _⟩ (fun r13 M12 H locs h hP hS => ?_)
        exact re_i hx hb hr hlocks hP hS h dX6_run_58
      · replace h := h.2 c9
        refine lv_ldc hx hb hown (hts _ q_10_2) dX6_run_35 ?_
        exact re_i hx hb hr hlocks hP hS h dX6_run_37
    · replace h := h.2 c6
      refine lv_ldc hx hb hown (hts _ q_5_9) dX6_run_21 ?_
      exact re_i hx hb hr hlocks hP hS h dX6_run_23
set_option maxHeartbeats 4000000 in
set_option maxRecDepth 100000 in
theorem mX6_asNumber (l : Launch) (G : Gp) (x0a : Int32) (M : Mm) (Post : Mm → Int32 → Prop) (h : wX6_asNumber Post M x0a) : CtI l yX6_asNumber wsX6_asNumber rX6_asNumber G [.int x0a] M Post := by
  refine Met.ofW (cc := cX6_asNumber) (maxL := 1) (ret := (some .int)) (by decide) rfl ?_
  intro p e s m args below meth c s₁ B hml hv
  obtain ⟨rfl, hK, hP⟩ := hv
  have hx := B.exec
  have hb := B.bytes
  have hr := B.returns
  have hlocks := B.notSynchronized
  have hts0 := atoms_spec (ws := wsX6_asNumber) B.pre
  have hts : ∀ w ∈ wsL_law, w.before _ s = true := fun w hw => hts0 w (List.mem_cons_of_mem _ hw)
  have hown : s.vm.findClass RX6 = some m.cls := findClass_of_methodNamed B.named
  have hS : va_S (Fr G) s.heap s.heap [] := va_S.rf
  have hl := lv_entry ([.int x0a]) (n := 1) (Nat.le_of_ble_eq_true rfl)
  rw [lg_entry_eq]
  generalize (lg_sl ([.int x0a]) ++ List.replicate (1 - (lg_sl ([.int x0a])).length) Slot.unset).toArray = ls at hl ⊢
  have hl : lv_has ls 1 [(0, .int x0a)] := hl
  unfold wX6_asNumber at h
  refine lv_iload_n hx hb dX6_asNumber_0 rfl (lv_at hl 0 rfl) ?_
  refine lv_if_eq (tgt := 8) hx hb dX6_asNumber_1 (by decide) (fun c1 => ?_) (fun c1 => ?_)
  · replace h := h.1 c1
    refine lv_iconst (v := (0 : Int32)) hx hb dX6_asNumber_8 k_iconst_0 ?_
    exact re_i hx hb hr hlocks hP hS h dX6_asNumber_9
  · replace h := h.2 c1
    refine lv_iconst (v := (1 : Int32)) hx hb dX6_asNumber_4 k_iconst_1 ?_
    refine lv_goto (tgt := 9) hx hb dX6_asNumber_5 (by decide) ?_
    exact re_i hx hb hr hlocks hP hS h dX6_asNumber_9
set_option maxHeartbeats 4000000 in
set_option maxRecDepth 100000 in
theorem mX6_canalOf (l : Launch) (G : Gp) (j0a : Nat) (x1a : Int32) (x2a : Int32) (M : Mm) (Post : Mm → Int32 → Prop) (hk_j0a : kd j0a = 6) (h : wX6_canalOf Post M j0a x1a x2a) : CtI l yX6_canalOf wsX6_canalOf rX6_canalOf G [.ref (G.2.1 + j0a), .int x1a, .int x2a] M Post := by
  refine Met.ofW (cc := cX6_canalOf) (maxL := 4) (ret := (some .int)) (by decide) rfl ?_
  intro p e s m args below meth c s₁ B hml hv
  obtain ⟨rfl, hK, hP⟩ := hv
  have hx := B.exec
  have hb := B.bytes
  have hr := B.returns
  have hlocks := B.notSynchronized
  have hts0 := atoms_spec (ws := wsX6_canalOf) B.pre
  have hts : ∀ w ∈ wsL_law, w.before _ s = true := fun w hw => hts0 w (List.mem_cons_of_mem _ hw)
  have hown : s.vm.findClass RX6 = some m.cls := findClass_of_methodNamed B.named
  have hS : va_S (Fr G) s.heap s.heap [] := va_S.rf
  have hl := lv_entry ([.ref (G.2.1 + j0a), .int x1a, .int x2a]) (n := 4) (Nat.le_of_ble_eq_true rfl)
  rw [lg_entry_eq]
  generalize (lg_sl ([.ref (G.2.1 + j0a), .int x1a, .int x2a]) ++ List.replicate (4 - (lg_sl ([.ref (G.2.1 + j0a), .int x1a, .int x2a])).length) Slot.unset).toArray = ls at hl ⊢
  have hl : lv_has ls 4 [(0, .ref (G.2.1 + j0a)), (1, .int x1a), (2, .int x2a)] := hl
  unfold wX6_canalOf at h
  refine lv_aload_n hx hb dX6_canalOf_0 rfl (lv_at hl 0 rfl) ?_
  refine rk_getr hx hb hts inlX6 hown hK hP hk_j0a cl_6 0 1 fq_6_0 q_1_12 rfl dX6_canalOf_1 ?_
  refine rk_getr hx hb hts inlX4 hown hK hP (ky_6_0 hk_j0a) cl_4 0 1 fq_4_0 q_4_15 rfl dX6_canalOf_4 ?_
  refine lv_astore_n (lv' := [(3, .ref (G.2.1 + ((j0a + 1) + 1))), (0, .ref (G.2.1 + j0a)), (1, .int x1a), (2, .int x2a)]) hx hb dX6_canalOf_7 rfl hl (by decide) rfl (fun ls hl => ?_)
  refine lv_aload_n hx hb dX6_canalOf_8 rfl (lv_at hl 0 rfl) ?_
  refine lv_iload_n hx hb dX6_canalOf_9 rfl (lv_at hl 2 rfl) ?_
  refine rc_Vi (As := [.int x1a]) (rest := []) ⟨hx, hb, hml, hown, hts⟩ (mX0_has l G ((j0a + 1) + 1) x1a M _ (ky_4_0 (ky_6_0 hk_j0a)) h) (cwV 1 hts (gV_X0_has q_9_0) rfl rfl rfl hdV_X0_has ⟨Nat.le_of_ble_eq_true rfl, Nat.le_of_ble_eq_true rfl⟩) hK hP hS (ky_4_0 (ky_6_0 hk_j0a)) (by decide) cl_0 rfl hl.1 rfl (Nat.le_of_ble_eq_true rfl) dX6_canalOf_10 ⟨Nat.zero_le _, Nat.zero_le _⟩ (fun r2 M1 H locs h hP hS => ?_)
  refine lv_if_ne (tgt := 19) hx hb dX6_canalOf_13 (by decide) (fun c3 => ?_) (fun c3 => ?_)
  · replace h := h.1 c3
    refine lv_iload_n hx hb dX6_canalOf_19 rfl (lv_at hl 3 rfl) ?_
    by_cases c4 : x2a = (0 : Int32)
    · replace h := h.1 c4
      refine lv_tableIn (off := 56) (tgt := 76) hx hb dX6_canalOf_20 (by rw [c4]; decide) (by rw [c4]; decide) (by rw [c4]; rfl) (by decide) ?_
      refine lv_iload_n hx hb dX6_canalOf_76 rfl (lv_at hl 2 rfl) ?_
      refine lv_if_ne (tgt := 85) hx hb dX6_canalOf_77 (by decide) (fun c5 => ?_) (fun c5 => ?_)
      · replace h := h.1 c5
        refine lv_aload_n hx hb dX6_canalOf_85 rfl (lv_at hl 0 rfl) ?_
        refine rk_getr hx hb hts inlX0 hown hK hP (ky_4_0 (ky_6_0 hk_j0a)) cl_0 2 1 fq_0_2 q_8_16 rfl dX6_canalOf_86 ?_
        refine lv_iload_n hx hb dX6_canalOf_89 rfl (lv_at hl 2 rfl) ?_
        refine rk_iald hx hb hK hP (ky_0_2 (ky_4_0 (ky_6_0 hk_j0a))) ac_8 _ rfl h.1 dX6_canalOf_90 ?_
        replace h := h.2
        exact re_i hx hb hr hlocks hP hS h dX6_canalOf_91
      · replace h := h.2 c5
        refine lv_ldc hx hb hown (hts _ q_5_4) dX6_canalOf_80 ?_
        refine lv_goto (tgt := 91) hx hb dX6_canalOf_82 (by decide) ?_
        exact re_i hx hb hr hlocks hP hS h dX6_canalOf_91
    replace h := h.2 c4
    by_cases c6 : x2a = (1 : Int32)
    · replace h := h.1 c6
      refine lv_tableIn (off := 72) (tgt := 92) hx hb dX6_canalOf_20 (by rw [c6]; decide) (by rw [c6]; decide) (by rw [c6]; rfl) (by decide) ?_
      refine lv_iload_n hx hb dX6_canalOf_92 rfl (lv_at hl 2 rfl) ?_
      refine lv_if_ne (tgt := 101) hx hb dX6_canalOf_93 (by decide) (fun c7 => ?_) (fun c7 => ?_)
      · replace h := h.1 c7
        refine lv_aload_n hx hb dX6_canalOf_101 rfl (lv_at hl 0 rfl) ?_
        refine rk_getr hx hb hts inlX0 hown hK hP (ky_4_0 (ky_6_0 hk_j0a)) cl_0 3 2 fq_0_3 q_8_17 rfl dX6_canalOf_102 ?_
        refine lv_iload_n hx hb dX6_canalOf_105 rfl (lv_at hl 2 rfl) ?_
        refine rk_iald hx hb hK hP (ky_0_3 (ky_4_0 (ky_6_0 hk_j0a))) ac_8 _ rfl h.1 dX6_canalOf_106 ?_
        replace h := h.2
        exact re_i hx hb hr hlocks hP hS h dX6_canalOf_107
      · replace h := h.2 c7
        refine lv_ldc hx hb hown (hts _ q_5_4) dX6_canalOf_96 ?_
        refine lv_goto (tgt := 107) hx hb dX6_canalOf_98 (by decide) ?_
        exact re_i hx hb hr hlocks hP hS h dX6_canalOf_107
    replace h := h.2 c6
    by_cases c8 : x2a = (2 : Int32)
    · replace h := h.1 c8
      refine lv_tableIn (off := 88) (tgt := 108) hx hb dX6_canalOf_20 (by rw [c8]; decide) (by rw [c8]; decide) (by rw [c8]; rfl) (by decide) ?_
      refine lv_aload_n hx hb dX6_canalOf_108 rfl (lv_at hl 0 rfl) ?_
      refine rk_getr hx hb hts inlX0 hown hK hP (ky_4_0 (ky_6_0 hk_j0a)) cl_0 4 3 fq_0_4 q_8_18 rfl dX6_canalOf_109 ?_
      refine lv_iload_n hx hb dX6_canalOf_112 rfl (lv_at hl 2 rfl) ?_
      refine rk_iald hx hb hK hP (ky_0_4 (ky_4_0 (ky_6_0 hk_j0a))) ac_8 _ rfl h.1 dX6_canalOf_113 ?_
      replace h := h.2
      exact re_i hx hb hr hlocks hP hS h dX6_canalOf_114
    replace h := h.2 c8
    by_cases c9 : x2a = (3 : Int32)
    · replace h := h.1 c9
      refine lv_tableIn (off := 95) (tgt := 115) hx hb dX6_canalOf_20 (by rw [c9]; decide) (by rw [c9]; decide) (by rw [c9]; rfl) (by decide) ?_
      refine lv_aload_n hx hb dX6_canalOf_115 rfl (lv_at hl 0 rfl) ?_
      refine rk_getr hx hb hts inlX0 hown hK hP (ky_4_0 (ky_6_0 hk_j0a)) cl_0 5 4 fq_0_5 q_8_19 rfl dX6_canalOf_116 ?_
      refine lv_iload_n hx hb dX6_canalOf_119 rfl (lv_at hl 2 rfl) ?_
      refine rk_iald hx hb hK hP (ky_0_5 (ky_4_0 (ky_6_0 hk_j0a))) ac_8 _ rfl h.1 dX6_canalOf_120 ?_
      replace h := h.2
      exact re_i hx hb hr hlocks hP hS h dX6_canalOf_121
    replace h := h.2 c9
    by_cases c10 : x2a = (4 : Int32)
    · replace h := h.1 c10
      refine lv_tableIn (off := 102) (tgt := 122) hx hb dX6_canalOf_20 (by rw [c10]; decide) (by rw [c10]; decide) (by rw [c10]; rfl) (by decide) ?_
      refine lv_iload_n hx hb dX6_canalOf_122 rfl (lv_at hl 2 rfl) ?_
      refine lv_if_ne (tgt := 131) hx hb dX6_canalOf_123 (by decide) (fun c11 => ?_) (fun c11 => ?_)
      · replace h := h.1 c11
        refine lv_aload_n hx hb dX6_canalOf_131 rfl (lv_at hl 0 rfl) ?_
        refine lv_iload_n hx hb dX6_canalOf_132 rfl (lv_at hl 2 rfl) ?_
        refine rc_Vi (As := [.int x1a]) (rest := []) ⟨hx, hb, hml, hown, hts⟩ (mX0_isOpen l G ((j0a + 1) + 1) x1a M1 _ (ky_4_0 (ky_6_0 hk_j0a)) h) (cwV 1 hts (gV_X0_isOpen q_9_4) rfl rfl rfl hdV_X0_isOpen ⟨Nat.le_of_ble_eq_true rfl, Nat.le_of_ble_eq_true rfl⟩) hK hP hS (ky_4_0 (ky_6_0 hk_j0a)) (by decide) cl_0 rfl hl.1 rfl (Nat.le_of_ble_eq_true rfl) dX6_canalOf_133 ⟨Nat.zero_le _, Nat.zero_le _⟩ (fun r13 M12 H locs h hP hS => ?_)
        refine rc_Si (As := [.int r13]) (rest := []) ⟨hx, hb, hml, hown, hts⟩ (mX6_asNumber l G r13 M12 _ h) (va_cwS 1 hts (gS_X6_asNumber q_7_5) rfl rfl rfl hdS_X6_asNumber ⟨Nat.le_of_ble_eq_true rfl, Nat.le_of_ble_eq_true rfl⟩) hK hP hS rfl hl.1 rfl (Nat.le_of_ble_eq_true rfl) dX6_canalOf_136 ⟨Nat.zero_le _, Nat.zero_le _⟩ (fun r15 M14 H locs h hP hS => ?_)
        exact re_i hx hb hr hlocks hP hS h dX6_canalOf_139
      · replace h := h.2 c11
        refine lv_ldc hx hb hown (hts _ q_5_4) dX6_canalOf_126 ?_
        refine lv_goto (tgt := 139) hx hb dX6_canalOf_128 (by decide) ?_
        exact re_i hx hb hr hlocks hP hS h dX6_canalOf_139
    replace h := h.2 c10
    by_cases c16 : x2a = (5 : Int32)
    · replace h := h.1 c16
      refine lv_tableIn (off := 120) (tgt := 140) hx hb dX6_canalOf_20 (by rw [c16]; decide) (by rw [c16]; decide) (by rw [c16]; rfl) (by decide) ?_
      refine lv_aload_n hx hb dX6_canalOf_140 rfl (lv_at hl 0 rfl) ?_
      refine lv_iload_n hx hb dX6_canalOf_141 rfl (lv_at hl 2 rfl) ?_
      refine rc_Vi (As := [.int x1a]) (rest := []) ⟨hx, hb, hml, hown, hts⟩ (mX0_isTended l G ((j0a + 1) + 1) x1a M1 _ (ky_4_0 (ky_6_0 hk_j0a)) h) (cwV 1 hts (gV_X0_isTended q_9_5) rfl rfl rfl hdV_X0_isTended ⟨Nat.le_of_ble_eq_true rfl, Nat.le_of_ble_eq_true rfl⟩) hK hP hS (ky_4_0 (ky_6_0 hk_j0a)) (by decide) cl_0 rfl hl.1 rfl (Nat.le_of_ble_eq_true rfl) dX6_canalOf_142 ⟨Nat.zero_le _, Nat.zero_le _⟩ (fun r18 M17 H locs h hP hS => ?_)
      refine lv_if_eq (tgt := 157) hx hb dX6_canalOf_145 (by decide) (fun c19 => ?_) (fun c19 => ?_)
      · replace h := h.1 c19
        refine lv_ldc hx hb hown (hts _ q_5_4) dX6_canalOf_157 ?_
        exact re_i hx hb hr hlocks hP hS h dX6_canalOf_159
      · replace h := h.2 c19
        refine lv_aload_n hx hb dX6_canalOf_148 rfl (lv_at hl 0 rfl) ?_
        refine rk_getr hx hb hts inlX0 hown hK hP (ky_4_0 (ky_6_0 hk_j0a)) cl_0 6 5 fq_0_6 q_8_20 rfl dX6_canalOf_149 ?_
        refine lv_iload_n hx hb dX6_canalOf_152 rfl (lv_at hl 2 rfl) ?_
        refine rk_iald hx hb hK hP (ky_0_6 (ky_4_0 (ky_6_0 hk_j0a))) ac_8 _ rfl h.1 dX6_canalOf_153 ?_
        replace h := h.2
        refine lv_goto (tgt := 159) hx hb dX6_canalOf_154 (by decide) ?_
        exact re_i hx hb hr hlocks hP hS h dX6_canalOf_159
    replace h := h.2 c16
    by_cases c20 : x2a = (6 : Int32)
    · replace h := h.1 c20
      refine lv_tableIn (off := 140) (tgt := 160) hx hb dX6_canalOf_20 (by rw [c20]; decide) (by rw [c20]; decide) (by rw [c20]; rfl) (by decide) ?_
      refine lv_aload_n hx hb dX6_canalOf_160 rfl (lv_at hl 0 rfl) ?_
      refine lv_iload_n hx hb dX6_canalOf_161 rfl (lv_at hl 2 rfl) ?_
      refine rc_Vi (As := [.int x1a]) (rest := []) ⟨hx, hb, hml, hown, hts⟩ (mX0_below l G ((j0a + 1) + 1) x1a M1 _ (ky_4_0 (ky_6_0 hk_j0a)) h) (cwV 1 hts (gV_X0_below q_9_6) rfl rfl rfl hdV_X0_below ⟨Nat.le_of_ble_eq_true rfl, Nat.le_of_ble_eq_true rfl⟩) hK hP hS (ky_4_0 (ky_6_0 hk_j0a)) (by decide) cl_0 rfl hl.1 rfl (Nat.le_of_ble_eq_true rfl) dX6_canalOf_162 ⟨Nat.zero_le _, Nat.zero_le _⟩ (fun r22 M21 H locs h hP hS => ?_)
      exact re_i hx hb hr hlocks hP hS h dX6_canalOf_165
    replace h := h.2 c20
    by_cases c23 : x2a = (7 : Int32)
    · replace h := h.1 c23
      refine lv_tableIn (off := 146) (tgt := 166) hx hb dX6_canalOf_20 (by rw [c23]; decide) (by rw [c23]; decide) (by rw [c23]; rfl) (by decide) ?_
      refine lv_aload_n hx hb dX6_canalOf_166 rfl (lv_at hl 0 rfl) ?_
      refine rk_getr hx hb hts inlX0 hown hK hP (ky_4_0 (ky_6_0 hk_j0a)) cl_0 7 6 fq_0_7 q_8_21 rfl dX6_canalOf_167 ?_
      refine lv_iload_n hx hb dX6_canalOf_170 rfl (lv_at hl 2 rfl) ?_
      refine rk_iald hx hb hK hP (ky_0_7 (ky_4_0 (ky_6_0 hk_j0a))) ac_8 _ rfl h.1 dX6_canalOf_171 ?_
      replace h := h.2
      exact re_i hx hb hr hlocks hP hS h dX6_canalOf_172
    replace h := h.2 c23
    by_cases c24 : x2a = (8 : Int32)
    · replace h := h.1 c24
      refine lv_tableIn (off := 153) (tgt := 173) hx hb dX6_canalOf_20 (by rw [c24]; decide) (by rw [c24]; decide) (by rw [c24]; rfl) (by decide) ?_
      refine lv_aload_n hx hb dX6_canalOf_173 rfl (lv_at hl 0 rfl) ?_
      refine rk_getr hx hb hts inlX0 hown hK hP (ky_4_0 (ky_6_0 hk_j0a)) cl_0 8 7 fq_0_8 q_8_22 rfl dX6_canalOf_174 ?_
      refine lv_iload_n hx hb dX6_canalOf_177 rfl (lv_at hl 2 rfl) ?_
      refine rk_iald hx hb hK hP (ky_0_8 (ky_4_0 (ky_6_0 hk_j0a))) ac_8 _ rfl h.1 dX6_canalOf_178 ?_
      replace h := h.2
      exact re_i hx hb hr hlocks hP hS h dX6_canalOf_179
    replace h := h.2 c24
    by_cases c25 : x2a = (9 : Int32)
    · replace h := h.1 c25
      refine lv_tableIn (off := 160) (tgt := 180) hx hb dX6_canalOf_20 (by rw [c25]; decide) (by rw [c25]; decide) (by rw [c25]; rfl) (by decide) ?_
      refine lv_aload_n hx hb dX6_canalOf_180 rfl (lv_at hl 0 rfl) ?_
      refine rk_getr hx hb hts inlX0 hown hK hP (ky_4_0 (ky_6_0 hk_j0a)) cl_0 9 8 fq_0_9 q_8_23 rfl dX6_canalOf_181 ?_
      refine lv_iload_n hx hb dX6_canalOf_184 rfl (lv_at hl 2 rfl) ?_
      refine rk_iald hx hb hK hP (ky_0_9 (ky_4_0 (ky_6_0 hk_j0a))) ac_8 _ rfl h.1 dX6_canalOf_185 ?_
      replace h := h.2
      exact re_i hx hb hr hlocks hP hS h dX6_canalOf_186
    replace h := h.2 c25
    refine lv_tableOut (tgt := 187) hx hb dX6_canalOf_20 (by have gc4 := lv_neT c4 (show (0 : Int32).toInt = 0 from rfl); have gc6 := lv_neT c6 (show (1 : Int32).toInt = 1 from rfl); have gc8 := lv_neT c8 (show (2 : Int32).toInt = 2 from rfl); have gc9 := lv_neT c9 (show (3 : Int32).toInt = 3 from rfl); have gc10 := lv_neT c10 (show (4 : Int32).toInt = 4 from rfl); have gc16 := lv_neT c16 (show (5 : Int32).toInt = 5 from rfl); have gc20 := lv_neT c20 (show (6 : Int32).toInt = 6 from rfl); have gc23 := lv_neT c23 (show (7 : Int32).toInt = 7 from rfl); have gc24 := lv_neT c24 (show (8 : Int32).toInt = 8 from rfl); have gc25 := lv_neT c25 (show (9 : Int32).toInt = 9 from rfl); omega) (by decide) ?_
    refine lv_ldc hx hb hown (hts _ q_5_9) dX6_canalOf_187 ?_
    exact re_i hx hb hr hlocks hP hS h dX6_canalOf_189
  · replace h := h.2 c3
    refine lv_ldc hx hb hown (hts _ q_5_9) dX6_canalOf_16 ?_
    exact re_i hx hb hr hlocks hP hS h dX6_canalOf_18
set_option maxHeartbeats 4000000 in
set_option maxRecDepth 100000 in
theorem mX6_fieldOf (l : Launch) (G : Gp) (j0a : Nat) (x1a : Int32) (x2a : Int32) (M : Mm) (Post : Mm → Int32 → Prop) (hk_j0a : kd j0a = 6) (h : wX6_fieldOf Post M j0a x1a x2a) : CtI l yX6_fieldOf wsX6_fieldOf rX6_fieldOf G [.ref (G.2.1 + j0a), .int x1a, .int x2a] M Post := by
  refine Met.ofW (cc := cX6_fieldOf) (maxL := 4) (ret := (some .int)) (by decide) rfl ?_
  intro p e s m args below meth c s₁ B hml hv
  obtain ⟨rfl, hK, hP⟩ := hv
  have hx := B.exec
  have hb := B.bytes
  have hr := B.returns
  have hlocks := B.notSynchronized
  have hts0 := atoms_spec (ws := wsX6_fieldOf) B.pre
  have hts : ∀ w ∈ wsL_law, w.before _ s = true := fun w hw => hts0 w (List.mem_cons_of_mem _ hw)
  have hown : s.vm.findClass RX6 = some m.cls := findClass_of_methodNamed B.named
  have hS : va_S (Fr G) s.heap s.heap [] := va_S.rf
  have hl := lv_entry ([.ref (G.2.1 + j0a), .int x1a, .int x2a]) (n := 4) (Nat.le_of_ble_eq_true rfl)
  rw [lg_entry_eq]
  generalize (lg_sl ([.ref (G.2.1 + j0a), .int x1a, .int x2a]) ++ List.replicate (4 - (lg_sl ([.ref (G.2.1 + j0a), .int x1a, .int x2a])).length) Slot.unset).toArray = ls at hl ⊢
  have hl : lv_has ls 4 [(0, .ref (G.2.1 + j0a)), (1, .int x1a), (2, .int x2a)] := hl
  unfold wX6_fieldOf at h
  refine lv_aload_n hx hb dX6_fieldOf_0 rfl (lv_at hl 0 rfl) ?_
  refine rk_getr hx hb hts inlX6 hown hK hP hk_j0a cl_6 0 1 fq_6_0 q_1_12 rfl dX6_fieldOf_1 ?_
  refine rk_getr hx hb hts inlX4 hown hK hP (ky_6_0 hk_j0a) cl_4 1 10 fq_4_1 q_4_17 rfl dX6_fieldOf_4 ?_
  refine lv_astore_n (lv' := [(3, .ref (G.2.1 + ((j0a + 1) + 10))), (0, .ref (G.2.1 + j0a)), (1, .int x1a), (2, .int x2a)]) hx hb dX6_fieldOf_7 rfl hl (by decide) rfl (fun ls hl => ?_)
  refine lv_aload_n hx hb dX6_fieldOf_8 rfl (lv_at hl 0 rfl) ?_
  refine lv_iload_n hx hb dX6_fieldOf_9 rfl (lv_at hl 2 rfl) ?_
  refine rc_Vi (As := [.int x1a]) (rest := []) ⟨hx, hb, hml, hown, hts⟩ (mX1_has l G ((j0a + 1) + 10) x1a M _ (ky_4_1 (ky_6_0 hk_j0a)) h) (cwV 1 hts (gV_X1_has q_6_20) rfl rfl rfl hdV_X1_has ⟨Nat.le_of_ble_eq_true rfl, Nat.le_of_ble_eq_true rfl⟩) hK hP hS (ky_4_1 (ky_6_0 hk_j0a)) (by decide) cl_1 rfl hl.1 rfl (Nat.le_of_ble_eq_true rfl) dX6_fieldOf_10 ⟨Nat.zero_le _, Nat.zero_le _⟩ (fun r2 M1 H locs h hP hS => ?_)
  refine lv_if_ne (tgt := 19) hx hb dX6_fieldOf_13 (by decide) (fun c3 => ?_) (fun c3 => ?_)
  · replace h := h.1 c3
    refine lv_iload_n hx hb dX6_fieldOf_19 rfl (lv_at hl 3 rfl) ?_
    by_cases c4 : x2a = (0 : Int32)
    · replace h := h.1 c4
      refine lv_tableIn (off := 48) (tgt := 68) hx hb dX6_fieldOf_20 (by rw [c4]; decide) (by rw [c4]; decide) (by rw [c4]; rfl) (by decide) ?_
      refine lv_aload_n hx hb dX6_fieldOf_68 rfl (lv_at hl 0 rfl) ?_
      refine rk_getr hx hb hts inlX1 hown hK hP (ky_4_1 (ky_6_0 hk_j0a)) cl_1 2 1 fq_1_2 q_6_14 rfl dX6_fieldOf_69 ?_
      refine lv_iload_n hx hb dX6_fieldOf_72 rfl (lv_at hl 2 rfl) ?_
      refine rk_iald hx hb hK hP (ky_1_2 (ky_4_1 (ky_6_0 hk_j0a))) ac_9 _ rfl h.1 dX6_fieldOf_73 ?_
      replace h := h.2
      exact re_i hx hb hr hlocks hP hS h dX6_fieldOf_74
    replace h := h.2 c4
    by_cases c5 : x2a = (1 : Int32)
    · replace h := h.1 c5
      refine lv_tableIn (off := 55) (tgt := 75) hx hb dX6_fieldOf_20 (by rw [c5]; decide) (by rw [c5]; decide) (by rw [c5]; rfl) (by decide) ?_
      refine lv_aload_n hx hb dX6_fieldOf_75 rfl (lv_at hl 0 rfl) ?_
      refine rk_getr hx hb hts inlX1 hown hK hP (ky_4_1 (ky_6_0 hk_j0a)) cl_1 3 2 fq_1_3 q_6_15 rfl dX6_fieldOf_76 ?_
      refine lv_iload_n hx hb dX6_fieldOf_79 rfl (lv_at hl 2 rfl) ?_
      refine rk_iald hx hb hK hP (ky_1_3 (ky_4_1 (ky_6_0 hk_j0a))) ac_9 _ rfl h.1 dX6_fieldOf_80 ?_
      replace h := h.2
      exact re_i hx hb hr hlocks hP hS h dX6_fieldOf_81
    replace h := h.2 c5
    by_cases c6 : x2a = (2 : Int32)
    · replace h := h.1 c6
      refine lv_tableIn (off := 62) (tgt := 82) hx hb dX6_fieldOf_20 (by rw [c6]; decide) (by rw [c6]; decide) (by rw [c6]; rfl) (by decide) ?_
      refine lv_aload_n hx hb dX6_fieldOf_82 rfl (lv_at hl 0 rfl) ?_
      refine rk_getr hx hb hts inlX1 hown hK hP (ky_4_1 (ky_6_0 hk_j0a)) cl_1 4 3 fq_1_4 q_6_16 rfl dX6_fieldOf_83 ?_
      refine lv_iload_n hx hb dX6_fieldOf_86 rfl (lv_at hl 2 rfl) ?_
      refine rk_iald hx hb hK hP (ky_1_4 (ky_4_1 (ky_6_0 hk_j0a))) ac_9 _ rfl h.1 dX6_fieldOf_87 ?_
      replace h := h.2
      exact re_i hx hb hr hlocks hP hS h dX6_fieldOf_88
    replace h := h.2 c6
    by_cases c7 : x2a = (3 : Int32)
    · replace h := h.1 c7
      refine lv_tableIn (off := 69) (tgt := 89) hx hb dX6_fieldOf_20 (by rw [c7]; decide) (by rw [c7]; decide) (by rw [c7]; rfl) (by decide) ?_
      refine lv_aload_n hx hb dX6_fieldOf_89 rfl (lv_at hl 0 rfl) ?_
      refine rk_getr hx hb hts inlX1 hown hK hP (ky_4_1 (ky_6_0 hk_j0a)) cl_1 5 4 fq_1_5 q_6_17 rfl dX6_fieldOf_90 ?_
      refine lv_iload_n hx hb dX6_fieldOf_93 rfl (lv_at hl 2 rfl) ?_
      refine rk_iald hx hb hK hP (ky_1_5 (ky_4_1 (ky_6_0 hk_j0a))) ac_9 _ rfl h.1 dX6_fieldOf_94 ?_
      replace h := h.2
      exact re_i hx hb hr hlocks hP hS h dX6_fieldOf_95
    replace h := h.2 c7
    by_cases c8 : x2a = (4 : Int32)
    · replace h := h.1 c8
      refine lv_tableIn (off := 76) (tgt := 96) hx hb dX6_fieldOf_20 (by rw [c8]; decide) (by rw [c8]; decide) (by rw [c8]; rfl) (by decide) ?_
      refine lv_aload_n hx hb dX6_fieldOf_96 rfl (lv_at hl 0 rfl) ?_
      refine rk_getr hx hb hts inlX1 hown hK hP (ky_4_1 (ky_6_0 hk_j0a)) cl_1 6 5 fq_1_6 q_6_18 rfl dX6_fieldOf_97 ?_
      refine lv_iload_n hx hb dX6_fieldOf_100 rfl (lv_at hl 2 rfl) ?_
      refine rk_iald hx hb hK hP (ky_1_6 (ky_4_1 (ky_6_0 hk_j0a))) ac_9 _ rfl h.1 dX6_fieldOf_101 ?_
      replace h := h.2
      exact re_i hx hb hr hlocks hP hS h dX6_fieldOf_102
    replace h := h.2 c8
    by_cases c9 : x2a = (5 : Int32)
    · replace h := h.1 c9
      refine lv_tableIn (off := 83) (tgt := 103) hx hb dX6_fieldOf_20 (by rw [c9]; decide) (by rw [c9]; decide) (by rw [c9]; rfl) (by decide) ?_
      refine lv_aload_n hx hb dX6_fieldOf_103 rfl (lv_at hl 0 rfl) ?_
      refine lv_iload_n hx hb dX6_fieldOf_104 rfl (lv_at hl 2 rfl) ?_
      refine rc_Vi (As := [.int x1a]) (rest := []) ⟨hx, hb, hml, hown, hts⟩ (mX1_calls l G ((j0a + 1) + 10) x1a M1 _ (ky_4_1 (ky_6_0 hk_j0a)) h) (cwV 1 hts (gV_X1_calls q_7_0) rfl rfl rfl hdV_X1_calls ⟨Nat.le_of_ble_eq_true rfl, Nat.le_of_ble_eq_true rfl⟩) hK hP hS (ky_4_1 (ky_6_0 hk_j0a)) (by decide) cl_1 rfl hl.1 rfl (Nat.le_of_ble_eq_true rfl) dX6_fieldOf_105 ⟨Nat.zero_le _, Nat.zero_le _⟩ (fun r11 M10 H locs h hP hS => ?_)
      refine rc_Si (As := [.int r11]) (rest := []) ⟨hx, hb, hml, hown, hts⟩ (mX6_asNumber l G r11 M10 _ h) (va_cwS 1 hts (gS_X6_asNumber q_7_5) rfl rfl rfl hdS_X6_asNumber ⟨Nat.le_of_ble_eq_true rfl, Nat.le_of_ble_eq_true rfl⟩) hK hP hS rfl hl.1 rfl (Nat.le_of_ble_eq_true rfl) dX6_fieldOf_108 ⟨Nat.zero_le _, Nat.zero_le _⟩ (fun r13 M12 H locs h hP hS => ?_)
      exact re_i hx hb hr hlocks hP hS h dX6_fieldOf_111
    replace h := h.2 c9
    by_cases c14 : x2a = (6 : Int32)
    · replace h := h.1 c14
      refine lv_tableIn (off := 92) (tgt := 112) hx hb dX6_fieldOf_20 (by rw [c14]; decide) (by rw [c14]; decide) (by rw [c14]; rfl) (by decide) ?_
      refine lv_aload_n hx hb dX6_fieldOf_112 rfl (lv_at hl 1 rfl) ?_
      refine rk_getr hx hb hts inlX6 hown hK hP hk_j0a cl_6 0 1 fq_6_0 q_1_12 rfl dX6_fieldOf_113 ?_
      refine rc_Vv (As := []) (rest := []) ⟨hx, hb, hml, hown, hts⟩ (mX4_findCallsBelow l G (j0a + 1) M1 _ (ky_6_0 hk_j0a) h) (cwV 0 hts (gV_X4_findCallsBelow q_7_8) rfl rfl rfl hdV_X4_findCallsBelow ⟨Nat.le_of_ble_eq_true rfl, Nat.le_of_ble_eq_true rfl⟩) hK hP hS (ky_6_0 hk_j0a) (by decide) cl_4 rfl hl.1 rfl (Nat.le_of_ble_eq_true rfl) dX6_fieldOf_116 ⟨Nat.zero_le _, Nat.zero_le _⟩ (fun M15 H locs h hP hS => ?_)
      refine lv_aload_n hx hb dX6_fieldOf_119 rfl (lv_at hl 1 rfl) ?_
      refine rk_getr hx hb hts inlX6 hown hK hP hk_j0a cl_6 0 1 fq_6_0 q_1_12 rfl dX6_fieldOf_120 ?_
      refine lv_iload_n hx hb dX6_fieldOf_123 rfl (lv_at hl 2 rfl) ?_
      refine rc_Vi (As := [.int x1a]) (rest := []) ⟨hx, hb, hml, hown, hts⟩ (mX4_mayTake l G (j0a + 1) x1a M15 _ (ky_6_0 hk_j0a) h) (cwV 1 hts (gV_X4_mayTake q_8_7) rfl rfl rfl hdV_X4_mayTake ⟨Nat.le_of_ble_eq_true rfl, Nat.le_of_ble_eq_true rfl⟩) hK hP hS (ky_6_0 hk_j0a) (by decide) cl_4 rfl hl.1 rfl (Nat.le_of_ble_eq_true rfl) dX6_fieldOf_124 ⟨Nat.zero_le _, Nat.zero_le _⟩ (fun r18 M17 H locs h hP hS => ?_)
      refine rc_Si (As := [.int r18]) (rest := []) ⟨hx, hb, hml, hown, hts⟩ (mX6_asNumber l G r18 M17 _ h) (va_cwS 1 hts (gS_X6_asNumber q_7_5) rfl rfl rfl hdS_X6_asNumber ⟨Nat.le_of_ble_eq_true rfl, Nat.le_of_ble_eq_true rfl⟩) hK hP hS rfl hl.1 rfl (Nat.le_of_ble_eq_true rfl) dX6_fieldOf_127 ⟨Nat.zero_le _, Nat.zero_le _⟩ (fun r20 M19 H locs h hP hS => ?_)
      exact re_i hx hb hr hlocks hP hS h dX6_fieldOf_130
    replace h := h.2 c14
    by_cases c21 : x2a = (7 : Int32)
    · replace h := h.1 c21
      refine lv_tableIn (off := 111) (tgt := 131) hx hb dX6_fieldOf_20 (by rw [c21]; decide) (by rw [c21]; decide) (by rw [c21]; rfl) (by decide) ?_
      refine lv_aload_n hx hb dX6_fieldOf_131 rfl (lv_at hl 0 rfl) ?_
      refine lv_iload_n hx hb dX6_fieldOf_132 rfl (lv_at hl 2 rfl) ?_
      refine rc_Vi (As := [.int x1a]) (rest := []) ⟨hx, hb, hml, hown, hts⟩ (mX1_wants l G ((j0a + 1) + 10) x1a M1 _ (ky_4_1 (ky_6_0 hk_j0a)) h) (cwV 1 hts (gV_X1_wants q_8_11) rfl rfl rfl hdV_X1_wants ⟨Nat.le_of_ble_eq_true rfl, Nat.le_of_ble_eq_true rfl⟩) hK hP hS (ky_4_1 (ky_6_0 hk_j0a)) (by decide) cl_1 rfl hl.1 rfl (Nat.le_of_ble_eq_true rfl) dX6_fieldOf_133 ⟨Nat.zero_le _, Nat.zero_le _⟩ (fun r23 M22 H locs h hP hS => ?_)
      refine lv_if_eq (tgt := 144) hx hb dX6_fieldOf_136 (by decide) (fun c24 => ?_) (fun c24 => ?_)
      · replace h := h.1 c24
        refine lv_aload_n hx hb dX6_fieldOf_144 rfl (lv_at hl 0 rfl) ?_
        refine rk_getr hx hb hts inlX1 hown hK hP (ky_4_1 (ky_6_0 hk_j0a)) cl_1 7 6 fq_1_7 q_6_19 rfl dX6_fieldOf_145 ?_
        refine lv_iload_n hx hb dX6_fieldOf_148 rfl (lv_at hl 2 rfl) ?_
        refine rk_iald hx hb hK hP (ky_1_7 (ky_4_1 (ky_6_0 hk_j0a))) ac_9 _ rfl h.1 dX6_fieldOf_149 ?_
        replace h := h.2
        exact re_i hx hb hr hlocks hP hS h dX6_fieldOf_150
      · replace h := h.2 c24
        refine lv_ldc hx hb hown (hts _ q_5_4) dX6_fieldOf_139 ?_
        refine lv_goto (tgt := 150) hx hb dX6_fieldOf_141 (by decide) ?_
        exact re_i hx hb hr hlocks hP hS h dX6_fieldOf_150
    replace h := h.2 c21
    refine lv_tableOut (tgt := 151) hx hb dX6_fieldOf_20 (by have gc4 := lv_neT c4 (show (0 : Int32).toInt = 0 from rfl); have gc5 := lv_neT c5 (show (1 : Int32).toInt = 1 from rfl); have gc6 := lv_neT c6 (show (2 : Int32).toInt = 2 from rfl); have gc7 := lv_neT c7 (show (3 : Int32).toInt = 3 from rfl); have gc8 := lv_neT c8 (show (4 : Int32).toInt = 4 from rfl); have gc9 := lv_neT c9 (show (5 : Int32).toInt = 5 from rfl); have gc14 := lv_neT c14 (show (6 : Int32).toInt = 6 from rfl); have gc21 := lv_neT c21 (show (7 : Int32).toInt = 7 from rfl); omega) (by decide) ?_
    refine lv_ldc hx hb hown (hts _ q_5_9) dX6_fieldOf_151 ?_
    exact re_i hx hb hr hlocks hP hS h dX6_fieldOf_153
  · replace h := h.2 c3
    refine lv_ldc hx hb hown (hts _ q_5_9) dX6_fieldOf_16 ?_
    exact re_i hx hb hr hlocks hP hS h dX6_fieldOf_18
set_option maxHeartbeats 4000000 in
set_option maxRecDepth 100000 in
theorem mX6_turnOf (l : Launch) (G : Gp) (j0a : Nat) (x1a : Int32) (x2a : Int32) (M : Mm) (Post : Mm → Int32 → Prop) (hk_j0a : kd j0a = 6) (h : wX6_turnOf Post M j0a x1a x2a) : CtI l yX6_turnOf wsX6_turnOf rX6_turnOf G [.ref (G.2.1 + j0a), .int x1a, .int x2a] M Post := by
  refine Met.ofW (cc := cX6_turnOf) (maxL := 3) (ret := (some .int)) (by decide) rfl ?_
  intro p e s m args below meth c s₁ B hml hv
  obtain ⟨rfl, hK, hP⟩ := hv
  have hx := B.exec
  have hb := B.bytes
  have hr := B.returns
  have hlocks := B.notSynchronized
  have hts0 := atoms_spec (ws := wsX6_turnOf) B.pre
  have hts : ∀ w ∈ wsL_law, w.before _ s = true := fun w hw => hts0 w (List.mem_cons_of_mem _ hw)
  have hown : s.vm.findClass RX6 = some m.cls := findClass_of_methodNamed B.named
  have hS : va_S (Fr G) s.heap s.heap [] := va_S.rf
  have hl := lv_entry ([.ref (G.2.1 + j0a), .int x1a, .int x2a]) (n := 3) (Nat.le_of_ble_eq_true rfl)
  rw [lg_entry_eq]
  generalize (lg_sl ([.ref (G.2.1 + j0a), .int x1a, .int x2a]) ++ List.replicate (3 - (lg_sl ([.ref (G.2.1 + j0a), .int x1a, .int x2a])).length) Slot.unset).toArray = ls at hl ⊢
  have hl : lv_has ls 3 [(0, .ref (G.2.1 + j0a)), (1, .int x1a), (2, .int x2a)] := hl
  unfold wX6_turnOf at h
  refine lv_aload_n hx hb dX6_turnOf_0 rfl (lv_at hl 0 rfl) ?_
  refine rk_getr hx hb hts inlX6 hown hK hP hk_j0a cl_6 0 1 fq_6_0 q_1_12 rfl dX6_turnOf_1 ?_
  refine rk_getr hx hb hts inlX4 hown hK hP (ky_6_0 hk_j0a) cl_4 2 18 fq_4_2 q_5_2 rfl dX6_turnOf_4 ?_
  refine lv_iload_n hx hb dX6_turnOf_7 rfl (lv_at hl 1 rfl) ?_
  refine rc_Vi (As := [.int x1a]) (rest := []) ⟨hx, hb, hml, hown, hts⟩ (mX5_has l G ((j0a + 1) + 18) x1a M _ (ky_4_2 (ky_6_0 hk_j0a)) h) (cwV 1 hts (gV_X5_has q_17_18) rfl rfl rfl hdV_X5_has ⟨Nat.le_of_ble_eq_true rfl, Nat.le_of_ble_eq_true rfl⟩) hK hP hS (ky_4_2 (ky_6_0 hk_j0a)) (by decide) cl_5 rfl hl.1 rfl (Nat.le_of_ble_eq_true rfl) dX6_turnOf_8 ⟨Nat.zero_le _, Nat.zero_le _⟩ (fun r2 M1 H locs h hP hS => ?_)
  refine lv_if_ne (tgt := 17) hx hb dX6_turnOf_11 (by decide) (fun c3 => ?_) (fun c3 => ?_)
  · replace h := h.1 c3
    refine lv_iload_n hx hb dX6_turnOf_17 rfl (lv_at hl 2 rfl) ?_
    by_cases c4 : x2a = (0 : Int32)
    · replace h := h.1 c4
      refine lv_lookup (off := 26) (tgt := 44) hx hb dX6_turnOf_18 (by decide) (by rw [c4]; rfl) (by decide) ?_
      refine lv_aload_n hx hb dX6_turnOf_44 rfl (lv_at hl 0 rfl) ?_
      refine rk_getr hx hb hts inlX6 hown hK hP hk_j0a cl_6 0 1 fq_6_0 q_1_12 rfl dX6_turnOf_45 ?_
      refine rk_getr hx hb hts inlX4 hown hK hP (ky_6_0 hk_j0a) cl_4 2 18 fq_4_2 q_5_2 rfl dX6_turnOf_48 ?_
      refine rk_getr hx hb hts inlX5 hown hK hP (ky_4_2 (ky_6_0 hk_j0a)) cl_5 3 1 fq_5_3 q_17_16 rfl dX6_turnOf_51 ?_
      refine lv_iload_n hx hb dX6_turnOf_54 rfl (lv_at hl 1 rfl) ?_
      refine rk_iald hx hb hK hP (ky_5_3 (ky_4_2 (ky_6_0 hk_j0a))) ac_8 _ rfl h.1 dX6_turnOf_55 ?_
      replace h := h.2
      exact re_i hx hb hr hlocks hP hS h dX6_turnOf_56
    replace h := h.2 c4
    by_cases c5 : x2a = (1 : Int32)
    · replace h := h.1 c5
      refine lv_lookup (off := 39) (tgt := 57) hx hb dX6_turnOf_18 (by decide) (by rw [c5]; rfl) (by decide) ?_
      refine lv_aload_n hx hb dX6_turnOf_57 rfl (lv_at hl 0 rfl) ?_
      refine rk_getr hx hb hts inlX6 hown hK hP hk_j0a cl_6 0 1 fq_6_0 q_1_12 rfl dX6_turnOf_58 ?_
      refine rk_getr hx hb hts inlX4 hown hK hP (ky_6_0 hk_j0a) cl_4 2 18 fq_4_2 q_5_2 rfl dX6_turnOf_61 ?_
      refine rk_getr hx hb hts inlX5 hown hK hP (ky_4_2 (ky_6_0 hk_j0a)) cl_5 4 2 fq_5_4 q_17_17 rfl dX6_turnOf_64 ?_
      refine lv_iload_n hx hb dX6_turnOf_67 rfl (lv_at hl 1 rfl) ?_
      refine rk_iald hx hb hK hP (ky_5_4 (ky_4_2 (ky_6_0 hk_j0a))) ac_8 _ rfl h.1 dX6_turnOf_68 ?_
      replace h := h.2
      exact re_i hx hb hr hlocks hP hS h dX6_turnOf_69
    replace h := h.2 c5
    refine lv_lookup (off := 52) (tgt := 70) hx hb dX6_turnOf_18 (by decide) (by show Op.lookupswitch.offset [(0, 26), (1, 39)] 52 _ = _; rw [lv_osw (a := 0) c4 rfl, lv_osw (a := 1) c5 rfl]; rfl) (by decide) ?_
    refine lv_ldc hx hb hown (hts _ q_5_9) dX6_turnOf_70 ?_
    exact re_i hx hb hr hlocks hP hS h dX6_turnOf_72
  · replace h := h.2 c3
    refine lv_ldc hx hb hown (hts _ q_5_9) dX6_turnOf_14 ?_
    exact re_i hx hb hr hlocks hP hS h dX6_turnOf_16
set_option maxHeartbeats 4000000 in
set_option maxRecDepth 100000 in
theorem mX6_floatBits (l : Launch) (G : Gp) (y0a : Int64) (y2a : Int64) (M : Mm) (Post : Mm → Int32 → Prop) (h : wX6_floatBits Post M y0a y2a) : CtI l yX6_floatBits wsX6_floatBits rX6_floatBits G [.long y0a, .long y2a] M Post := by
  refine Met.ofW (cc := cX6_floatBits) (maxL := 10) (ret := (some .int)) (by decide) rfl ?_
  intro p e s m args below meth c s₁ B hml hv
  obtain ⟨rfl, hK, hP⟩ := hv
  have hx := B.exec
  have hb := B.bytes
  have hr := B.returns
  have hlocks := B.notSynchronized
  have hts0 := atoms_spec (ws := wsX6_floatBits) B.pre
  have hts : ∀ w ∈ wsL_law, w.before _ s = true := fun w hw => hts0 w (List.mem_cons_of_mem _ hw)
  have hown : s.vm.findClass RX6 = some m.cls := findClass_of_methodNamed B.named
  have hS : va_S (Fr G) s.heap s.heap [] := va_S.rf
  have hl := lv_entry ([.long y0a, .long y2a]) (n := 10) (Nat.le_of_ble_eq_true rfl)
  rw [lg_entry_eq]
  generalize (lg_sl ([.long y0a, .long y2a]) ++ List.replicate (10 - (lg_sl ([.long y0a, .long y2a])).length) Slot.unset).toArray = ls at hl ⊢
  have hl : lv_has ls 10 [(0, .long y0a), (2, .long y2a)] := hl
  have B76 : ∀ (M : Mm) (x4 : Int32) (y5 : Int64) (H : Heap) (locs : List Loc) (ls : Array Slot), Rp G M H → va_S (Fr G) s.heap H locs → lv_has ls 10 [(4, .int x4), (5, .long y5)] → bX6_floatBits_76 Post M x4 y5 → Wi p l e (headSpec wsX6_floatBits rX6_floatBits).room s m [.long y0a, .long y2a].toArray below meth c G Post H locs (F0 m 76 ls []) := by
    intro M x4 y5 H locs ls hP hS hl h
    unfold bX6_floatBits_76 at h
    refine lv_sipush (v := (150 : Int32)) hx hb dX6_floatBits_76 k_sipush_150 ?_
    refine lv_iload hx hb dX6_floatBits_79 (lv_at hl 0 rfl) ?_
    refine lv_isub hx hb dX6_floatBits_81 ?_
    refine lv_topi (fun x9_11 ex9_11 => ?_)
    replace h := h x9_11 ex9_11
    refine lv_istore (lv' := [(9, .int x9_11), (4, .int x4), (5, .long y5)]) hx hb dX6_floatBits_82 hl (by decide) rfl (fun ls hl => ?_)
    refine lv_iload hx hb dX6_floatBits_84 (lv_at hl 0 rfl) ?_
    refine lv_bipush (v := (23 : Int32)) hx hb dX6_floatBits_86 k_bipush_23 ?_
    refine lv_ishl hx hb dX6_floatBits_88 ?_
    refine lv_lload hx hb dX6_floatBits_89 (lv_at hl 2 rfl) ?_
    refine lv_ldc2 hx hb hown (hts _ q_9_21) dX6_floatBits_91 ?_
    refine lv_lsub hx hb dX6_floatBits_94 ?_
    refine lv_l2i (v := (((y5 - (8388608 : Int64))).toInt32)) hx hb dX6_floatBits_95 rfl ?_
    refine lv_iadd hx hb dX6_floatBits_96 ?_
    exact re_i hx hb hr hlocks hP hS h dX6_floatBits_97
  have B43 : ∀ (M : Mm) (y0 : Int64) (y2 : Int64) (x4 : Int32) (H : Heap) (locs : List Loc) (ls : Array Slot), Rp G M H → va_S (Fr G) s.heap H locs → lv_has ls 10 [(0, .long y0), (2, .long y2), (4, .int x4)] → bX6_floatBits_43 Post M y0 y2 x4 → Wi p l e (headSpec wsX6_floatBits rX6_floatBits).room s m [.long y0a, .long y2a].toArray below meth c G Post H locs (F0 m 43 ls []) := by
    intro M y0 y2 x4 H locs ls hP hS hl h
    unfold bX6_floatBits_43 at h
    refine lv_lload_n hx hb dX6_floatBits_43 rfl (lv_at hl 0 rfl) ?_
    refine lv_iload hx hb dX6_floatBits_44 (lv_at hl 2 rfl) ?_
    refine lv_lshl (v := (y0 <<< (x4.toInt64 &&& 63))) hx hb dX6_floatBits_46 rfl ?_
    refine lv_lload_n hx hb dX6_floatBits_47 rfl (lv_at hl 1 rfl) ?_
    refine lv_ldiv hx hb dX6_floatBits_48 h.1 ?_
    replace h := h.2
    refine lv_topl (fun x5_7 ex5_7 => ?_)
    replace h := h x5_7 ex5_7
    refine lv_lstore (lv' := [(5, .long x5_7), (0, .long y0), (2, .long y2), (4, .int x4)]) hx hb dX6_floatBits_49 hl (by decide) rfl (fun ls hl => ?_)
    refine lv_lload_n hx hb dX6_floatBits_51 rfl (lv_at hl 1 rfl) ?_
    refine lv_iload hx hb dX6_floatBits_52 (lv_at hl 3 rfl) ?_
    refine lv_lshl (v := (y0 <<< (x4.toInt64 &&& 63))) hx hb dX6_floatBits_54 rfl ?_
    refine lv_lload_n hx hb dX6_floatBits_55 rfl (lv_at hl 2 rfl) ?_
    refine lv_lrem hx hb dX6_floatBits_56 h.1 ?_
    replace h := h.2
    refine lv_topl (fun x7_8 ex7_8 => ?_)
    replace h := h x7_8 ex7_8
    refine lv_lstore (lv' := [(7, .long x7_8), (5, .long x5_7), (0, .long y0), (2, .long y2), (4, .int x4)]) hx hb dX6_floatBits_57 hl (by decide) rfl (fun ls hl => ?_)
    refine lv_ldc2 hx hb hown (hts _ q_9_20) dX6_floatBits_59 ?_
    refine lv_lload hx hb dX6_floatBits_62 (lv_at hl 0 rfl) ?_
    refine lv_lmul hx hb dX6_floatBits_64 ?_
    refine lv_lload_n hx hb dX6_floatBits_65 rfl (lv_at hl 3 rfl) ?_
    refine W.lcmp hx hb dX6_floatBits_66 ?_
    refine lv_if_le (tgt := 76) hx hb dX6_floatBits_67 (by decide) (fun c9 => ?_) (fun c9 => ?_)
    · replace h := h.1 c9
      exact B76 _ _ _ _ _ _ hP hS (lv_sub hl [4, 1] rfl) h
    · replace h := h.2 c9
      refine lv_lload hx hb dX6_floatBits_70 (lv_at hl 1 rfl) ?_
      refine lv_lconst (v := (1 : Int64)) hx hb dX6_floatBits_72 (by decide) ?_
      refine lv_ladd hx hb dX6_floatBits_73 ?_
      refine lv_topl (fun x5_10 ex5_10 => ?_)
      replace h := h x5_10 ex5_10
      refine lv_lstore (lv' := [(5, .long x5_10), (7, .long x7_8), (0, .long y0), (2, .long y2), (4, .int x4)]) hx hb dX6_floatBits_74 hl (by decide) rfl (fun ls hl => ?_)
      exact B76 _ _ _ _ _ _ hP hS (lv_sub hl [4, 0] rfl) h
  have B18 : ∀ n : Nat, ∀ (M : Mm) (y0 : Int64) (y2 : Int64) (x4 : Int32) (H : Heap) (locs : List Loc) (ls : Array Slot), Rp G M H → va_S (Fr G) s.heap H locs → lv_has ls 10 [(0, .long y0), (2, .long y2), (4, .int x4)] → lX6_floatBits_18 Post n M y0 y2 x4 → Wi p l e (headSpec wsX6_floatBits rX6_floatBits).room s m [.long y0a, .long y2a].toArray below meth c G Post H locs (F0 m 18 ls []) := by
    intro n
    induction n with
    | zero => intro M y0 y2 x4 H locs ls hP hS hl h; exact h.elim
    | succ n ih =>
      intro M y0 y2 x4 H locs ls hP hS hl h
      have hA18 := ih
      replace h : bX6_floatBits_18 Post (lX6_floatBits_18 Post n) M y0 y2 x4 := h
      unfold bX6_floatBits_18 at h
      refine lv_iload hx hb dX6_floatBits_18 (lv_at hl 2 rfl) ?_
      refine lv_bipush (v := (46 : Int32)) hx hb dX6_floatBits_20 k_bipush_46 ?_
      refine lv_icmp_ge (tgt := 43) hx hb dX6_floatBits_22 (by decide) (fun c4 => ?_) (fun c4 => ?_)
      · replace h := h.1 c4
        exact B43 _ _ _ _ _ _ _ hP hS (lv_sub hl [0, 1, 2] rfl) h
      · replace h := h.2 c4
        refine lv_lload_n hx hb dX6_floatBits_25 rfl (lv_at hl 0 rfl) ?_
        refine lv_iload hx hb dX6_floatBits_26 (lv_at hl 2 rfl) ?_
        refine lv_lshl (v := (y0 <<< (x4.toInt64 &&& 63))) hx hb dX6_floatBits_28 rfl ?_
        refine lv_lload_n hx hb dX6_floatBits_29 rfl (lv_at hl 1 rfl) ?_
        refine lv_bipush (v := (23 : Int32)) hx hb dX6_floatBits_30 k_bipush_23 ?_
        refine lv_lshl (v := (y2 <<< ((23 : Int32).toInt64 &&& 63))) hx hb dX6_floatBits_32 rfl ?_
        refine W.lcmp hx hb dX6_floatBits_33 ?_
        refine lv_if_ge (tgt := 43) hx hb dX6_floatBits_34 (by decide) (fun c5 => ?_) (fun c5 => ?_)
        · replace h := h.1 c5
          exact B43 _ _ _ _ _ _ _ hP hS (lv_sub hl [0, 1, 2] rfl) h
        · replace h := h.2 c5
          obtain ⟨x4_6, ex4_6⟩ : ∃ y : Int32, y = x4 + (1 : Int32) := ⟨_, rfl⟩
          replace h := h x4_6 ex4_6
          refine lv_iinc (v := x4_6) (lv' := [(4, .int x4_6), (0, .long y0), (2, .long y2)]) hx hb dX6_floatBits_37 hl (k := 2) rfl (by rw [ex4_6]; rfl) (by decide) rfl (fun ls hl => ?_)
          refine lv_goto (tgt := 18) hx hb dX6_floatBits_40 (by decide) ?_
          exact hA18 _ _ _ _ _ _ _ hP hS (lv_sub hl [1, 2, 0] rfl) h
  unfold wX6_floatBits at h
  refine lv_lload_n hx hb dX6_floatBits_0 rfl (lv_at hl 0 rfl) ?_
  refine lv_lconst (v := (0 : Int64)) hx hb dX6_floatBits_1 (by decide) ?_
  refine W.lcmp hx hb dX6_floatBits_2 ?_
  refine lv_if_le (tgt := 12) hx hb dX6_floatBits_3 (by decide) (fun c1 => ?_) (fun c1 => ?_)
  · replace h := h.1 c1
    refine lv_iconst (v := (0 : Int32)) hx hb dX6_floatBits_12 k_iconst_0 ?_
    exact re_i hx hb hr hlocks hP hS h dX6_floatBits_13
  · replace h := h.2 c1
    refine lv_lload_n hx hb dX6_floatBits_6 rfl (lv_at hl 1 rfl) ?_
    refine lv_lconst (v := (0 : Int64)) hx hb dX6_floatBits_7 (by decide) ?_
    refine W.lcmp hx hb dX6_floatBits_8 ?_
    refine lv_if_gt (tgt := 14) hx hb dX6_floatBits_9 (by decide) (fun c2 => ?_) (fun c2 => ?_)
    · replace h := h.1 c2
      refine lv_bipush (v := (23 : Int32)) hx hb dX6_floatBits_14 k_bipush_23 ?_
      refine lv_istore (lv' := [(4, .int (23 : Int32)), (0, .long y0a), (2, .long y2a)]) hx hb dX6_floatBits_16 hl (by decide) rfl (fun ls hl => ?_)
      obtain ⟨n3, h⟩ := h
      exact B18 _ _ _ _ _ _ _ _ hP hS (lv_sub hl [1, 2, 0] rfl) h
    · replace h := h.2 c2
      refine lv_iconst (v := (0 : Int32)) hx hb dX6_floatBits_12 k_iconst_0 ?_
      exact re_i hx hb hr hlocks hP hS h dX6_floatBits_13
set_option maxHeartbeats 4000000 in
set_option maxRecDepth 100000 in
theorem mX6_share (l : Launch) (G : Gp) (j0a : Nat) (x1a : Int32) (M : Mm) (Post : Mm → Int32 → Prop) (hk_j0a : kd j0a = 6) (h : wX6_share Post M j0a x1a) : CtI l yX6_share wsX6_share rX6_share G [.ref (G.2.1 + j0a), .int x1a] M Post := by
  refine Met.ofW (cc := cX6_share) (maxL := 2) (ret := (some .int)) (by decide) rfl ?_
  intro p e s m args below meth c s₁ B hml hv
  obtain ⟨rfl, hK, hP⟩ := hv
  have hx := B.exec
  have hb := B.bytes
  have hr := B.returns
  have hlocks := B.notSynchronized
  have hts0 := atoms_spec (ws := wsX6_share) B.pre
  have hts : ∀ w ∈ wsL_law, w.before _ s = true := fun w hw => hts0 w (List.mem_cons_of_mem _ hw)
  have hown : s.vm.findClass RX6 = some m.cls := findClass_of_methodNamed B.named
  have hS : va_S (Fr G) s.heap s.heap [] := va_S.rf
  have hl := lv_entry ([.ref (G.2.1 + j0a), .int x1a]) (n := 2) (Nat.le_of_ble_eq_true rfl)
  rw [lg_entry_eq]
  generalize (lg_sl ([.ref (G.2.1 + j0a), .int x1a]) ++ List.replicate (2 - (lg_sl ([.ref (G.2.1 + j0a), .int x1a])).length) Slot.unset).toArray = ls at hl ⊢
  have hl : lv_has ls 2 [(0, .ref (G.2.1 + j0a)), (1, .int x1a)] := hl
  unfold wX6_share at h
  refine lv_iload_n hx hb dX6_share_0 rfl (lv_at hl 1 rfl) ?_
  refine lv_iconst (v := (0 : Int32)) hx hb dX6_share_1 k_iconst_0 ?_
  refine lv_iconst (v := (2 : Int32)) hx hb dX6_share_2 k_iconst_2 ?_
  refine rc_Si (As := [.int x1a, .int (0 : Int32), .int (2 : Int32)]) (rest := []) ⟨hx, hb, hml, hown, hts⟩ (mX6_isOutside l G x1a (0 : Int32) (2 : Int32) M _ h) (va_cwS 3 hts (gS_X6_isOutside q_9_14) rfl rfl rfl hdS_X6_isOutside ⟨Nat.le_of_ble_eq_true rfl, Nat.le_of_ble_eq_true rfl⟩) hK hP hS rfl hl.1 rfl (Nat.le_of_ble_eq_true rfl) dX6_share_3 ⟨Nat.zero_le _, Nat.zero_le _⟩ (fun r2 M1 H locs h hP hS => ?_)
  refine lv_if_eq (tgt := 12) hx hb dX6_share_6 (by decide) (fun c3 => ?_) (fun c3 => ?_)
  · replace h := h.1 c3
    refine lv_aload_n hx hb dX6_share_12 rfl (lv_at hl 0 rfl) ?_
    refine rk_getr hx hb hts inlX6 hown hK hP hk_j0a cl_6 0 1 fq_6_0 q_1_12 rfl dX6_share_13 ?_
    refine rk_geti hx hb hts inlX4 hown hK hP (ky_6_0 hk_j0a) cl_4 4 fq_4_4 q_4_22 rfl dX6_share_16 ?_
    refine lv_if_ne (tgt := 25) hx hb dX6_share_19 (by decide) (fun c4 => ?_) (fun c4 => ?_)
    · replace h := h.1 c4
      refine lv_iload_n hx hb dX6_share_25 rfl (lv_at hl 1 rfl) ?_
      by_cases c5 : x1a = (0 : Int32)
      · replace h := h.1 c5
        refine lv_lookup (off := 26) (tgt := 52) hx hb dX6_share_26 (by decide) (by rw [c5]; rfl) (by decide) ?_
        refine lv_aload_n hx hb dX6_share_52 rfl (lv_at hl 0 rfl) ?_
        refine rk_getr hx hb hts inlX6 hown hK hP hk_j0a cl_6 0 1 fq_6_0 q_1_12 rfl dX6_share_53 ?_
        refine rk_geti hx hb hts inlX4 hown hK hP (ky_6_0 hk_j0a) cl_4 5 fq_4_5 q_4_23 rfl dX6_share_56 ?_
        refine lv_i2l (v := (((M1 (j0a + 1) 5)).toInt64)) hx hb dX6_share_59 rfl ?_
        refine lv_aload_n hx hb dX6_share_60 rfl (lv_at hl 0 rfl) ?_
        refine rk_getr hx hb hts inlX6 hown hK hP hk_j0a cl_6 0 1 fq_6_0 q_1_12 rfl dX6_share_61 ?_
        refine rk_geti hx hb hts inlX4 hown hK hP (ky_6_0 hk_j0a) cl_4 4 fq_4_4 q_4_22 rfl dX6_share_64 ?_
        refine lv_i2l (v := (((M1 (j0a + 1) 4)).toInt64)) hx hb dX6_share_67 rfl ?_
        refine rc_Si (As := [.long (((M1 (j0a + 1) 5)).toInt64), .long (((M1 (j0a + 1) 4)).toInt64)]) (rest := []) ⟨hx, hb, hml, hown, hts⟩ (mX6_floatBits l G (((M1 (j0a + 1) 5)).toInt64) (((M1 (j0a + 1) 4)).toInt64) M1 _ h) (va_cwS 2 hts (gS_X6_floatBits q_9_17) rfl rfl rfl hdS_X6_floatBits ⟨Nat.le_of_ble_eq_true rfl, Nat.le_of_ble_eq_true rfl⟩) hK hP hS rfl hl.1 rfl (Nat.le_of_ble_eq_true rfl) dX6_share_68 ⟨Nat.zero_le _, Nat.zero_le _⟩ (fun r7 M6 H locs h hP hS => ?_)
        exact re_i hx hb hr hlocks hP hS h dX6_share_71
      replace h := h.2 c5
      by_cases c8 : x1a = (1 : Int32)
      · replace h := h.1 c8
        refine lv_lookup (off := 46) (tgt := 72) hx hb dX6_share_26 (by decide) (by rw [c8]; rfl) (by decide) ?_
        refine lv_aload_n hx hb dX6_share_72 rfl (lv_at hl 0 rfl) ?_
        refine rk_getr hx hb hts inlX6 hown hK hP hk_j0a cl_6 0 1 fq_6_0 q_1_12 rfl dX6_share_73 ?_
        refine rk_geti hx hb hts inlX4 hown hK hP (ky_6_0 hk_j0a) cl_4 6 fq_4_6 q_5_0 rfl dX6_share_76 ?_
        refine lv_i2l (v := (((M1 (j0a + 1) 6)).toInt64)) hx hb dX6_share_79 rfl ?_
        refine lv_aload_n hx hb dX6_share_80 rfl (lv_at hl 0 rfl) ?_
        refine rk_getr hx hb hts inlX6 hown hK hP hk_j0a cl_6 0 1 fq_6_0 q_1_12 rfl dX6_share_81 ?_
        refine rk_geti hx hb hts inlX4 hown hK hP (ky_6_0 hk_j0a) cl_4 4 fq_4_4 q_4_22 rfl dX6_share_84 ?_
        refine lv_i2l (v := (((M1 (j0a + 1) 4)).toInt64)) hx hb dX6_share_87 rfl ?_
        refine rc_Si (As := [.long (((M1 (j0a + 1) 6)).toInt64), .long (((M1 (j0a + 1) 4)).toInt64)]) (rest := []) ⟨hx, hb, hml, hown, hts⟩ (mX6_floatBits l G (((M1 (j0a + 1) 6)).toInt64) (((M1 (j0a + 1) 4)).toInt64) M1 _ h) (va_cwS 2 hts (gS_X6_floatBits q_9_17) rfl rfl rfl hdS_X6_floatBits ⟨Nat.le_of_ble_eq_true rfl, Nat.le_of_ble_eq_true rfl⟩) hK hP hS rfl hl.1 rfl (Nat.le_of_ble_eq_true rfl) dX6_share_88 ⟨Nat.zero_le _, Nat.zero_le _⟩ (fun r10 M9 H locs h hP hS => ?_)
        exact re_i hx hb hr hlocks hP hS h dX6_share_91
      replace h := h.2 c8
      refine lv_lookup (off := 66) (tgt := 92) hx hb dX6_share_26 (by decide) (by show Op.lookupswitch.offset [(0, 26), (1, 46)] 66 _ = _; rw [lv_osw (a := 0) c5 rfl, lv_osw (a := 1) c8 rfl]; rfl) (by decide) ?_
      refine lv_aload_n hx hb dX6_share_92 rfl (lv_at hl 0 rfl) ?_
      refine rk_getr hx hb hts inlX6 hown hK hP hk_j0a cl_6 0 1 fq_6_0 q_1_12 rfl dX6_share_93 ?_
      refine rk_geti hx hb hts inlX4 hown hK hP (ky_6_0 hk_j0a) cl_4 7 fq_4_7 q_5_1 rfl dX6_share_96 ?_
      refine lv_i2l (v := (((M1 (j0a + 1) 7)).toInt64)) hx hb dX6_share_99 rfl ?_
      refine lv_aload_n hx hb dX6_share_100 rfl (lv_at hl 0 rfl) ?_
      refine rk_getr hx hb hts inlX6 hown hK hP hk_j0a cl_6 0 1 fq_6_0 q_1_12 rfl dX6_share_101 ?_
      refine rk_geti hx hb hts inlX4 hown hK hP (ky_6_0 hk_j0a) cl_4 4 fq_4_4 q_4_22 rfl dX6_share_104 ?_
      refine lv_i2l (v := (((M1 (j0a + 1) 4)).toInt64)) hx hb dX6_share_107 rfl ?_
      refine rc_Si (As := [.long (((M1 (j0a + 1) 7)).toInt64), .long (((M1 (j0a + 1) 4)).toInt64)]) (rest := []) ⟨hx, hb, hml, hown, hts⟩ (mX6_floatBits l G (((M1 (j0a + 1) 7)).toInt64) (((M1 (j0a + 1) 4)).toInt64) M1 _ h) (va_cwS 2 hts (gS_X6_floatBits q_9_17) rfl rfl rfl hdS_X6_floatBits ⟨Nat.le_of_ble_eq_true rfl, Nat.le_of_ble_eq_true rfl⟩) hK hP hS rfl hl.1 rfl (Nat.le_of_ble_eq_true rfl) dX6_share_108 ⟨Nat.zero_le _, Nat.zero_le _⟩ (fun r12 M11 H locs h hP hS => ?_)
      exact re_i hx hb hr hlocks hP hS h dX6_share_111
    · replace h := h.2 c4
      refine lv_ldc hx hb hown (hts _ q_5_4) dX6_share_22 ?_
      exact re_i hx hb hr hlocks hP hS h dX6_share_24
  · replace h := h.2 c3
    refine lv_ldc hx hb hown (hts _ q_5_9) dX6_share_9 ?_
    exact re_i hx hb hr hlocks hP hS h dX6_share_11
set_option maxHeartbeats 4000000 in
set_option maxRecDepth 100000 in
theorem mX6_count (l : Launch) (G : Gp) (j0a : Nat) (x1a : Int32) (M : Mm) (Post : Mm → Int32 → Prop) (hk_j0a : kd j0a = 6) (h : wX6_count Post M j0a x1a) : CtI l yX6_count wsX6_count rX6_count G [.ref (G.2.1 + j0a), .int x1a] M Post := by
  refine Met.ofW (cc := cX6_count) (maxL := 2) (ret := (some .int)) (by decide) rfl ?_
  intro p e s m args below meth c s₁ B hml hv
  obtain ⟨rfl, hK, hP⟩ := hv
  have hx := B.exec
  have hb := B.bytes
  have hr := B.returns
  have hlocks := B.notSynchronized
  have hts0 := atoms_spec (ws := wsX6_count) B.pre
  have hts : ∀ w ∈ wsL_law, w.before _ s = true := fun w hw => hts0 w (List.mem_cons_of_mem _ hw)
  have hown : s.vm.findClass RX6 = some m.cls := findClass_of_methodNamed B.named
  have hS : va_S (Fr G) s.heap s.heap [] := va_S.rf
  have hl := lv_entry ([.ref (G.2.1 + j0a), .int x1a]) (n := 2) (Nat.le_of_ble_eq_true rfl)
  rw [lg_entry_eq]
  generalize (lg_sl ([.ref (G.2.1 + j0a), .int x1a]) ++ List.replicate (2 - (lg_sl ([.ref (G.2.1 + j0a), .int x1a])).length) Slot.unset).toArray = ls at hl ⊢
  have hl : lv_has ls 2 [(0, .ref (G.2.1 + j0a)), (1, .int x1a)] := hl
  unfold wX6_count at h
  refine lv_iload_n hx hb dX6_count_0 rfl (lv_at hl 1 rfl) ?_
  by_cases c1 : x1a = (0 : Int32)
  · replace h := h.1 c1
    refine lv_tableIn (off := 79) (tgt := 80) hx hb dX6_count_1 (by rw [c1]; decide) (by rw [c1]; decide) (by rw [c1]; rfl) (by decide) ?_
    refine lv_aload_n hx hb dX6_count_80 rfl (lv_at hl 0 rfl) ?_
    refine rk_getr hx hb hts inlX6 hown hK hP hk_j0a cl_6 0 1 fq_6_0 q_1_12 rfl dX6_count_81 ?_
    refine rk_getr hx hb hts inlX4 hown hK hP (ky_6_0 hk_j0a) cl_4 0 1 fq_4_0 q_4_15 rfl dX6_count_84 ?_
    refine rk_geti hx hb hts inlX0 hown hK hP (ky_4_0 (ky_6_0 hk_j0a)) cl_0 0 fq_0_0 q_4_16 rfl dX6_count_87 ?_
    exact re_i hx hb hr hlocks hP hS h dX6_count_90
  replace h := h.2 c1
  by_cases c2 : x1a = (1 : Int32)
  · replace h := h.1 c2
    refine lv_tableIn (off := 90) (tgt := 91) hx hb dX6_count_1 (by rw [c2]; decide) (by rw [c2]; decide) (by rw [c2]; rfl) (by decide) ?_
    refine lv_aload_n hx hb dX6_count_91 rfl (lv_at hl 0 rfl) ?_
    refine rk_getr hx hb hts inlX6 hown hK hP hk_j0a cl_6 0 1 fq_6_0 q_1_12 rfl dX6_count_92 ?_
    refine rk_getr hx hb hts inlX4 hown hK hP (ky_6_0 hk_j0a) cl_4 1 10 fq_4_1 q_4_17 rfl dX6_count_95 ?_
    refine rk_geti hx hb hts inlX1 hown hK hP (ky_4_1 (ky_6_0 hk_j0a)) cl_1 0 fq_1_0 q_4_18 rfl dX6_count_98 ?_
    exact re_i hx hb hr hlocks hP hS h dX6_count_101
  replace h := h.2 c2
  by_cases c3 : x1a = (2 : Int32)
  · replace h := h.1 c3
    refine lv_tableIn (off := 101) (tgt := 102) hx hb dX6_count_1 (by rw [c3]; decide) (by rw [c3]; decide) (by rw [c3]; rfl) (by decide) ?_
    refine lv_aload_n hx hb dX6_count_102 rfl (lv_at hl 0 rfl) ?_
    refine rk_getr hx hb hts inlX6 hown hK hP hk_j0a cl_6 0 1 fq_6_0 q_1_12 rfl dX6_count_103 ?_
    refine rk_getr hx hb hts inlX4 hown hK hP (ky_6_0 hk_j0a) cl_4 1 10 fq_4_1 q_4_17 rfl dX6_count_106 ?_
    refine rc_Vi (As := []) (rest := []) ⟨hx, hb, hml, hown, hts⟩ (mX1_wanting l G ((j0a + 1) + 10) M _ (ky_4_1 (ky_6_0 hk_j0a)) h) (cwV 0 hts (gV_X1_wanting q_5_10) rfl rfl rfl hdV_X1_wanting ⟨Nat.le_of_ble_eq_true rfl, Nat.le_of_ble_eq_true rfl⟩) hK hP hS (ky_4_1 (ky_6_0 hk_j0a)) (by decide) cl_1 rfl hl.1 rfl (Nat.le_of_ble_eq_true rfl) dX6_count_109 ⟨Nat.zero_le _, Nat.zero_le _⟩ (fun r5 M4 H locs h hP hS => ?_)
    refine rc_Si (As := [.int r5]) (rest := []) ⟨hx, hb, hml, hown, hts⟩ (mJ6_bitCount_0f7a4 l G r5 M4 _ h) (va_cwS 1 hts (gS_J6_bitCount_0f7a4 q_5_19) rfl rfl rfl hdS_J6_bitCount_0f7a4 ⟨Nat.le_of_ble_eq_true rfl, Nat.le_of_ble_eq_true rfl⟩) hK hP hS rfl hl.1 rfl (Nat.le_of_ble_eq_true rfl) dX6_count_112 ⟨Nat.zero_le _, Nat.zero_le _⟩ (fun r7 M6 H locs h hP hS => ?_)
    exact re_i hx hb hr hlocks hP hS h dX6_count_115
  replace h := h.2 c3
  by_cases c8 : x1a = (3 : Int32)
  · replace h := h.1 c8
    refine lv_tableIn (off := 115) (tgt := 116) hx hb dX6_count_1 (by rw [c8]; decide) (by rw [c8]; decide) (by rw [c8]; rfl) (by decide) ?_
    refine lv_aload_n hx hb dX6_count_116 rfl (lv_at hl 0 rfl) ?_
    refine rk_getr hx hb hts inlX6 hown hK hP hk_j0a cl_6 0 1 fq_6_0 q_1_12 rfl dX6_count_117 ?_
    refine rk_getr hx hb hts inlX4 hown hK hP (ky_6_0 hk_j0a) cl_4 1 10 fq_4_1 q_4_17 rfl dX6_count_120 ?_
    refine rk_geti hx hb hts inlX1 hown hK hP (ky_4_1 (ky_6_0 hk_j0a)) cl_1 1 fq_1_1 q_4_19 rfl dX6_count_123 ?_
    exact re_i hx hb hr hlocks hP hS h dX6_count_126
  replace h := h.2 c8
  by_cases c9 : x1a = (4 : Int32)
  · replace h := h.1 c9
    refine lv_tableIn (off := 126) (tgt := 127) hx hb dX6_count_1 (by rw [c9]; decide) (by rw [c9]; decide) (by rw [c9]; rfl) (by decide) ?_
    refine lv_aload_n hx hb dX6_count_127 rfl (lv_at hl 0 rfl) ?_
    refine rk_getr hx hb hts inlX6 hown hK hP hk_j0a cl_6 0 1 fq_6_0 q_1_12 rfl dX6_count_128 ?_
    refine rk_getr hx hb hts inlX4 hown hK hP (ky_6_0 hk_j0a) cl_4 0 1 fq_4_0 q_4_15 rfl dX6_count_131 ?_
    refine rk_geti hx hb hts inlX0 hown hK hP (ky_4_0 (ky_6_0 hk_j0a)) cl_0 1 fq_0_1 q_4_20 rfl dX6_count_134 ?_
    exact re_i hx hb hr hlocks hP hS h dX6_count_137
  replace h := h.2 c9
  by_cases c10 : x1a = (5 : Int32)
  · replace h := h.1 c10
    refine lv_tableIn (off := 137) (tgt := 138) hx hb dX6_count_1 (by rw [c10]; decide) (by rw [c10]; decide) (by rw [c10]; rfl) (by decide) ?_
    refine lv_aload_n hx hb dX6_count_138 rfl (lv_at hl 0 rfl) ?_
    refine rk_getr hx hb hts inlX6 hown hK hP hk_j0a cl_6 0 1 fq_6_0 q_1_12 rfl dX6_count_139 ?_
    refine rk_getr hx hb hts inlX4 hown hK hP (ky_6_0 hk_j0a) cl_4 0 1 fq_4_0 q_4_15 rfl dX6_count_142 ?_
    refine rc_Vi (As := []) (rest := []) ⟨hx, hb, hml, hown, hts⟩ (mX0_tended l G ((j0a + 1) + 1) M _ (ky_4_0 (ky_6_0 hk_j0a)) h) (cwV 0 hts (gV_X0_tended q_6_2) rfl rfl rfl hdV_X0_tended ⟨Nat.le_of_ble_eq_true rfl, Nat.le_of_ble_eq_true rfl⟩) hK hP hS (ky_4_0 (ky_6_0 hk_j0a)) (by decide) cl_0 rfl hl.1 rfl (Nat.le_of_ble_eq_true rfl) dX6_count_145 ⟨Nat.zero_le _, Nat.zero_le _⟩ (fun r12 M11 H locs h hP hS => ?_)
    exact re_i hx hb hr hlocks hP hS h dX6_count_148
  replace h := h.2 c10
  by_cases c13 : x1a = (6 : Int32)
  · replace h := h.1 c13
    refine lv_tableIn (off := 148) (tgt := 149) hx hb dX6_count_1 (by rw [c13]; decide) (by rw [c13]; decide) (by rw [c13]; rfl) (by decide) ?_
    refine lv_aload_n hx hb dX6_count_149 rfl (lv_at hl 0 rfl) ?_
    refine rk_getr hx hb hts inlX6 hown hK hP hk_j0a cl_6 0 1 fq_6_0 q_1_12 rfl dX6_count_150 ?_
    refine rk_geti hx hb hts inlX4 hown hK hP (ky_6_0 hk_j0a) cl_4 3 fq_4_3 q_4_21 rfl dX6_count_153 ?_
    exact re_i hx hb hr hlocks hP hS h dX6_count_156
  replace h := h.2 c13
  by_cases c14 : x1a = (7 : Int32)
  · replace h := h.1 c14
    refine lv_tableIn (off := 156) (tgt := 157) hx hb dX6_count_1 (by rw [c14]; decide) (by rw [c14]; decide) (by rw [c14]; rfl) (by decide) ?_
    refine lv_aload_n hx hb dX6_count_157 rfl (lv_at hl 0 rfl) ?_
    refine rk_getr hx hb hts inlX6 hown hK hP hk_j0a cl_6 0 1 fq_6_0 q_1_12 rfl dX6_count_158 ?_
    refine rk_geti hx hb hts inlX4 hown hK hP (ky_6_0 hk_j0a) cl_4 4 fq_4_4 q_4_22 rfl dX6_count_161 ?_
    exact re_i hx hb hr hlocks hP hS h dX6_count_164
  replace h := h.2 c14
  by_cases c15 : x1a = (8 : Int32)
  · replace h := h.1 c15
    refine lv_tableIn (off := 164) (tgt := 165) hx hb dX6_count_1 (by rw [c15]; decide) (by rw [c15]; decide) (by rw [c15]; rfl) (by decide) ?_
    refine lv_aload_n hx hb dX6_count_165 rfl (lv_at hl 0 rfl) ?_
    refine rk_getr hx hb hts inlX6 hown hK hP hk_j0a cl_6 0 1 fq_6_0 q_1_12 rfl dX6_count_166 ?_
    refine rk_geti hx hb hts inlX4 hown hK hP (ky_6_0 hk_j0a) cl_4 5 fq_4_5 q_4_23 rfl dX6_count_169 ?_
    exact re_i hx hb hr hlocks hP hS h dX6_count_172
  replace h := h.2 c15
  by_cases c16 : x1a = (9 : Int32)
  · replace h := h.1 c16
    refine lv_tableIn (off := 172) (tgt := 173) hx hb dX6_count_1 (by rw [c16]; decide) (by rw [c16]; decide) (by rw [c16]; rfl) (by decide) ?_
    refine lv_aload_n hx hb dX6_count_173 rfl (lv_at hl 0 rfl) ?_
    refine rk_getr hx hb hts inlX6 hown hK hP hk_j0a cl_6 0 1 fq_6_0 q_1_12 rfl dX6_count_174 ?_
    refine rk_geti hx hb hts inlX4 hown hK hP (ky_6_0 hk_j0a) cl_4 6 fq_4_6 q_5_0 rfl dX6_count_177 ?_
    exact re_i hx hb hr hlocks hP hS h dX6_count_180
  replace h := h.2 c16
  by_cases c17 : x1a = (10 : Int32)
  · replace h := h.1 c17
    refine lv_tableIn (off := 180) (tgt := 181) hx hb dX6_count_1 (by rw [c17]; decide) (by rw [c17]; decide) (by rw [c17]; rfl) (by decide) ?_
    refine lv_aload_n hx hb dX6_count_181 rfl (lv_at hl 0 rfl) ?_
    refine rk_getr hx hb hts inlX6 hown hK hP hk_j0a cl_6 0 1 fq_6_0 q_1_12 rfl dX6_count_182 ?_
    refine rk_geti hx hb hts inlX4 hown hK hP (ky_6_0 hk_j0a) cl_4 7 fq_4_7 q_5_1 rfl dX6_count_185 ?_
    exact re_i hx hb hr hlocks hP hS h dX6_count_188
  replace h := h.2 c17
  by_cases c18 : x1a = (11 : Int32)
  · replace h := h.1 c18
    refine lv_tableIn (off := 188) (tgt := 189) hx hb dX6_count_1 (by rw [c18]; decide) (by rw [c18]; decide) (by rw [c18]; rfl) (by decide) ?_
    refine lv_aload_n hx hb dX6_count_189 rfl (lv_at hl 0 rfl) ?_
    refine rk_getr hx hb hts inlX6 hown hK hP hk_j0a cl_6 0 1 fq_6_0 q_1_12 rfl dX6_count_190 ?_
    refine rk_getr hx hb hts inlX4 hown hK hP (ky_6_0 hk_j0a) cl_4 2 18 fq_4_2 q_5_2 rfl dX6_count_193 ?_
    refine rk_geti hx hb hts inlX5 hown hK hP (ky_4_2 (ky_6_0 hk_j0a)) cl_5 0 fq_5_0 q_5_3 rfl dX6_count_196 ?_
    exact re_i hx hb hr hlocks hP hS h dX6_count_199
  replace h := h.2 c18
  by_cases c19 : x1a = (12 : Int32)
  · replace h := h.1 c19
    refine lv_tableIn (off := 199) (tgt := 200) hx hb dX6_count_1 (by rw [c19]; decide) (by rw [c19]; decide) (by rw [c19]; rfl) (by decide) ?_
    refine lv_aload_n hx hb dX6_count_200 rfl (lv_at hl 0 rfl) ?_
    refine rk_getr hx hb hts inlX6 hown hK hP hk_j0a cl_6 0 1 fq_6_0 q_1_12 rfl dX6_count_201 ?_
    refine rk_getr hx hb hts inlX4 hown hK hP (ky_6_0 hk_j0a) cl_4 2 18 fq_4_2 q_5_2 rfl dX6_count_204 ?_
    refine rk_geti hx hb hts inlX5 hown hK hP (ky_4_2 (ky_6_0 hk_j0a)) cl_5 0 fq_5_0 q_5_3 rfl dX6_count_207 ?_
    refine lv_if_ne (tgt := 218) hx hb dX6_count_210 (by decide) (fun c20 => ?_) (fun c20 => ?_)
    · replace h := h.1 c20
      refine lv_aload_n hx hb dX6_count_218 rfl (lv_at hl 0 rfl) ?_
      refine rk_getr hx hb hts inlX6 hown hK hP hk_j0a cl_6 0 1 fq_6_0 q_1_12 rfl dX6_count_219 ?_
      refine rk_getr hx hb hts inlX4 hown hK hP (ky_6_0 hk_j0a) cl_4 2 18 fq_4_2 q_5_2 rfl dX6_count_222 ?_
      refine rk_geti hx hb hts inlX5 hown hK hP (ky_4_2 (ky_6_0 hk_j0a)) cl_5 1 fq_5_1 q_5_5 rfl dX6_count_225 ?_
      exact re_i hx hb hr hlocks hP hS h dX6_count_228
    · replace h := h.2 c20
      refine lv_ldc hx hb hown (hts _ q_5_4) dX6_count_213 ?_
      refine lv_goto (tgt := 228) hx hb dX6_count_215 (by decide) ?_
      exact re_i hx hb hr hlocks hP hS h dX6_count_228
  replace h := h.2 c19
  by_cases c21 : x1a = (13 : Int32)
  · replace h := h.1 c21
    refine lv_tableIn (off := 228) (tgt := 229) hx hb dX6_count_1 (by rw [c21]; decide) (by rw [c21]; decide) (by rw [c21]; rfl) (by decide) ?_
    refine lv_aload_n hx hb dX6_count_229 rfl (lv_at hl 0 rfl) ?_
    refine rk_getr hx hb hts inlX6 hown hK hP hk_j0a cl_6 0 1 fq_6_0 q_1_12 rfl dX6_count_230 ?_
    refine rk_getr hx hb hts inlX4 hown hK hP (ky_6_0 hk_j0a) cl_4 2 18 fq_4_2 q_5_2 rfl dX6_count_233 ?_
    refine rk_geti hx hb hts inlX5 hown hK hP (ky_4_2 (ky_6_0 hk_j0a)) cl_5 2 fq_5_2 q_5_6 rfl dX6_count_236 ?_
    exact re_i hx hb hr hlocks hP hS h dX6_count_239
  replace h := h.2 c21
  by_cases c22 : x1a = (14 : Int32)
  · replace h := h.1 c22
    refine lv_tableIn (off := 239) (tgt := 240) hx hb dX6_count_1 (by rw [c22]; decide) (by rw [c22]; decide) (by rw [c22]; rfl) (by decide) ?_
    refine lv_aload_n hx hb dX6_count_240 rfl (lv_at hl 0 rfl) ?_
    refine rk_getr hx hb hts inlX6 hown hK hP hk_j0a cl_6 2 47 fq_6_2 q_1_17 rfl dX6_count_241 ?_
    refine rk_geti hx hb hts inlX2 hown hK hP (ky_6_2 hk_j0a) cl_2 0 fq_2_0 q_5_7 rfl dX6_count_244 ?_
    exact re_i hx hb hr hlocks hP hS h dX6_count_247
  replace h := h.2 c22
  by_cases c23 : x1a = (15 : Int32)
  · replace h := h.1 c23
    refine lv_tableIn (off := 247) (tgt := 248) hx hb dX6_count_1 (by rw [c23]; decide) (by rw [c23]; decide) (by rw [c23]; rfl) (by decide) ?_
    refine lv_aload_n hx hb dX6_count_248 rfl (lv_at hl 0 rfl) ?_
    refine rk_getr hx hb hts inlX6 hown hK hP hk_j0a cl_6 3 141 fq_6_3 q_1_21 rfl dX6_count_249 ?_
    refine rk_geti hx hb hts inlX3 hown hK hP (ky_6_3 hk_j0a) cl_3 0 fq_3_0 q_5_8 rfl dX6_count_252 ?_
    exact re_i hx hb hr hlocks hP hS h dX6_count_255
  replace h := h.2 c23
  refine lv_tableOut (tgt := 256) hx hb dX6_count_1 (by have gc1 := lv_neT c1 (show (0 : Int32).toInt = 0 from rfl); have gc2 := lv_neT c2 (show (1 : Int32).toInt = 1 from rfl); have gc3 := lv_neT c3 (show (2 : Int32).toInt = 2 from rfl); have gc8 := lv_neT c8 (show (3 : Int32).toInt = 3 from rfl); have gc9 := lv_neT c9 (show (4 : Int32).toInt = 4 from rfl); have gc10 := lv_neT c10 (show (5 : Int32).toInt = 5 from rfl); have gc13 := lv_neT c13 (show (6 : Int32).toInt = 6 from rfl); have gc14 := lv_neT c14 (show (7 : Int32).toInt = 7 from rfl); have gc15 := lv_neT c15 (show (8 : Int32).toInt = 8 from rfl); have gc16 := lv_neT c16 (show (9 : Int32).toInt = 9 from rfl); have gc17 := lv_neT c17 (show (10 : Int32).toInt = 10 from rfl); have gc18 := lv_neT c18 (show (11 : Int32).toInt = 11 from rfl); have gc19 := lv_neT c19 (show (12 : Int32).toInt = 12 from rfl); have gc21 := lv_neT c21 (show (13 : Int32).toInt = 13 from rfl); have gc22 := lv_neT c22 (show (14 : Int32).toInt = 14 from rfl); have gc23 := lv_neT c23 (show (15 : Int32).toInt = 15 from rfl); omega) (by decide) ?_
  refine lv_ldc hx hb hown (hts _ q_5_9) dX6_count_256 ?_
  exact re_i hx hb hr hlocks hP hS h dX6_count_258
set_option maxHeartbeats 4000000 in
set_option maxRecDepth 100000 in
theorem mX6_undo (l : Launch) (G : Gp) (j0a : Nat) (M : Mm) (Post : Mm → Int32 → Prop) (hk_j0a : kd j0a = 6) (h : wX6_undo Post M j0a) : CtI l yX6_undo wsX6_undo rX6_undo G [.ref (G.2.1 + j0a)] M Post := by
  refine Met.ofW (cc := cX6_undo) (maxL := 1) (ret := (some .int)) (by decide) rfl ?_
  intro p e s m args below meth c s₁ B hml hv
  obtain ⟨rfl, hK, hP⟩ := hv
  have hx := B.exec
  have hb := B.bytes
  have hr := B.returns
  have hlocks := B.notSynchronized
  have hts0 := atoms_spec (ws := wsX6_undo) B.pre
  have hts : ∀ w ∈ wsL_law, w.before _ s = true := fun w hw => hts0 w (List.mem_cons_of_mem _ hw)
  have hown : s.vm.findClass RX6 = some m.cls := findClass_of_methodNamed B.named
  have hS : va_S (Fr G) s.heap s.heap [] := va_S.rf
  have hl := lv_entry ([.ref (G.2.1 + j0a)]) (n := 1) (Nat.le_of_ble_eq_true rfl)
  rw [lg_entry_eq]
  generalize (lg_sl ([.ref (G.2.1 + j0a)]) ++ List.replicate (1 - (lg_sl ([.ref (G.2.1 + j0a)])).length) Slot.unset).toArray = ls at hl ⊢
  have hl : lv_has ls 1 [(0, .ref (G.2.1 + j0a))] := hl
  unfold wX6_undo at h
  refine lv_aload_n hx hb dX6_undo_0 rfl (lv_at hl 0 rfl) ?_
  refine rk_getr hx hb hts inlX6 hown hK hP hk_j0a cl_6 2 47 fq_6_2 q_1_17 rfl dX6_undo_1 ?_
  refine rk_geti hx hb hts inlX2 hown hK hP (ky_6_2 hk_j0a) cl_2 0 fq_2_0 q_5_7 rfl dX6_undo_4 ?_
  refine lv_if_ne (tgt := 13) hx hb dX6_undo_7 (by decide) (fun c1 => ?_) (fun c1 => ?_)
  · replace h := h.1 c1
    refine lv_aload_n hx hb dX6_undo_13 rfl (lv_at hl 0 rfl) ?_
    refine rk_getr hx hb hts inlX6 hown hK hP hk_j0a cl_6 2 47 fq_6_2 q_1_17 rfl dX6_undo_14 ?_
    refine lv_aload_n hx hb dX6_undo_17 rfl (lv_at hl 0 rfl) ?_
    refine rk_getr hx hb hts inlX6 hown hK hP hk_j0a cl_6 0 1 fq_6_0 q_1_12 rfl dX6_undo_18 ?_
    refine rc_Vi (As := [.ref (G.2.1 + (j0a + 1))]) (rest := []) ⟨hx, hb, hml, hown, hts⟩ (mX2_restoreLatest l G (j0a + 47) (j0a + 1) M _ (ky_6_2 hk_j0a) (ky_6_0 hk_j0a) h) (cwV 1 hts (gV_X2_restoreLatest q_19_14) rfl rfl rfl hdV_X2_restoreLatest ⟨Nat.le_of_ble_eq_true rfl, Nat.le_of_ble_eq_true rfl⟩) hK hP hS (ky_6_2 hk_j0a) (by decide) cl_2 rfl hl.1 rfl (Nat.le_of_ble_eq_true rfl) dX6_undo_21 ⟨Nat.zero_le _, Nat.zero_le _⟩ (fun r3 M2 H locs h hP hS => ?_)
    exact re_i hx hb hr hlocks hP hS h dX6_undo_24
  · replace h := h.2 c1
    refine lv_ldc hx hb hown (hts _ q_12_22) dX6_undo_10 ?_
    exact re_i hx hb hr hlocks hP hS h dX6_undo_12
