/-! the walks: each method keeps its predicate; printed by gen.py -/
set_option maxHeartbeats 4000000 in
set_option maxRecDepth 100000 in
theorem mX6_undo (l : Launch) (G : Gp) (j0a : Nat) (M : Mm) (Post : Mm → Int32 → Prop) (hk_j0a : kd j0a = 6) (h : wX6_undo Post M j0a) : CtI l yX6_undo wsX6_undo rX6_undo G [.ref (G.2.1 + j0a)] M Post := by
  refine Met.ofW (cc := cX6_undo) (maxL := 1) (ret := (some .int)) (by decide) rfl ?_
  intro p e s m args below meth c s₁ B hml hv
  obtain ⟨rfl, hK, hP⟩ := hv
  have hx := B.exec
  have hb := B.bytes
  have hr := B.returns
  have hlocks := B.notSynchronized
  have hts0 := atoms_spec (ws := wsX6_undo) B.pre
  have hts : ∀ w ∈ wsL_law, w.before _ s = true := fun w hw => hts0 w (List.mem_cons_of_mem _ hw)
  have hown : s.vm.findClass RX6 = some m.cls := findClass_of_methodNamed B.named
  have hS : va_S (Fr G) s.heap s.heap [] := va_S.rf
  have hl := lv_entry ([.ref (G.2.1 + j0a)]) (n := 1) (Nat.le_of_ble_eq_true rfl)
  rw [lg_entry_eq]
  generalize (lg_sl ([.ref (G.2.1 + j0a)]) ++ List.replicate (1 - (lg_sl ([.ref (G.2.1 + j0a)])).length) Slot.unset).toArray = ls at hl ⊢
  have hl : lv_has ls 1 [(0, .ref (G.2.1 + j0a))] := hl
  unfold wX6_undo at h
  refine lv_aload_n hx hb dX6_undo_0 rfl (lv_at hl 0 rfl) ?_
  refine rk_getr hx hb hts inlX6 hown hK hP hk_j0a cl_6 2 47 fq_6_2 q_1_20 rfl dX6_undo_1 ?_
  refine rk_geti hx hb hts inlX2 hown hK hP (ky_6_2 hk_j0a) cl_2 0 fq_2_0 q_30_4 rfl dX6_undo_4 ?_
  refine lv_if_ne (tgt := 13) hx hb dX6_undo_7 (by decide) (fun c1 => ?_) (fun c1 => ?_)
  · replace h := h.1 c1
    refine lv_aload_n hx hb dX6_undo_13 rfl (lv_at hl 0 rfl) ?_
    refine rk_getr hx hb hts inlX6 hown hK hP hk_j0a cl_6 2 47 fq_6_2 q_1_20 rfl dX6_undo_14 ?_
    refine lv_aload_n hx hb dX6_undo_17 rfl (lv_at hl 0 rfl) ?_
    refine rk_getr hx hb hts inlX6 hown hK hP hk_j0a cl_6 0 1 fq_6_0 q_1_15 rfl dX6_undo_18 ?_
    refine rc_Vi (As := [.ref (G.2.1 + (j0a + 1))]) (rest := []) ⟨hx, hb, hml, hown, hts⟩ (mX2_restoreLatest l G (j0a + 47) (j0a + 1) M _ (ky_6_2 hk_j0a) (ky_6_0 hk_j0a) h) (cwV 1 hts (gV_X2_restoreLatest q_31_3) rfl rfl rfl hdV_X2_restoreLatest ⟨Nat.le_of_ble_eq_true rfl, Nat.le_of_ble_eq_true rfl⟩) hK hP hS (ky_6_2 hk_j0a) (by decide) cl_2 rfl hl.1 rfl (Nat.le_of_ble_eq_true rfl) dX6_undo_21 ⟨Nat.zero_le _, Nat.zero_le _⟩ (fun r3 M2 H locs h hP hS => ?_)
    exact re_i hx hb hr hlocks hP hS h dX6_undo_24
  · replace h := h.2 c1
    refine lv_ldc hx hb hown (hts _ q_9_2) dX6_undo_10 ?_
    exact re_i hx hb hr hlocks hP hS h dX6_undo_12
set_option maxHeartbeats 4000000 in
set_option maxRecDepth 100000 in
theorem mX6_type (l : Launch) (G : Gp) (j0a : Nat) (x1a : Int32) (M : Mm) (Post : Mm → Int32 → Prop) (hk_j0a : kd j0a = 6) (h : wX6_type Post M j0a x1a) : CtI l yX6_type wsX6_type rX6_type G [.ref (G.2.1 + j0a), .int x1a] M Post := by
  refine Met.ofW (cc := cX6_type) (maxL := 2) (ret := (some .int)) (by decide) rfl ?_
  intro p e s m args below meth c s₁ B hml hv
  obtain ⟨rfl, hK, hP⟩ := hv
  have hx := B.exec
  have hb := B.bytes
  have hr := B.returns
  have hlocks := B.notSynchronized
  have hts0 := atoms_spec (ws := wsX6_type) B.pre
  have hts : ∀ w ∈ wsL_law, w.before _ s = true := fun w hw => hts0 w (List.mem_cons_of_mem _ hw)
  have hown : s.vm.findClass RX6 = some m.cls := findClass_of_methodNamed B.named
  have hS : va_S (Fr G) s.heap s.heap [] := va_S.rf
  have hl := lv_entry ([.ref (G.2.1 + j0a), .int x1a]) (n := 2) (Nat.le_of_ble_eq_true rfl)
  rw [lg_entry_eq]
  generalize (lg_sl ([.ref (G.2.1 + j0a), .int x1a]) ++ List.replicate (2 - (lg_sl ([.ref (G.2.1 + j0a), .int x1a])).length) Slot.unset).toArray = ls at hl ⊢
  have hl : lv_has ls 2 [(0, .ref (G.2.1 + j0a)), (1, .int x1a)] := hl
  unfold wX6_type at h
  refine lv_iload_n hx hb dX6_type_0 rfl (lv_at hl 1 rfl) ?_
  refine lv_bipush (v := (32 : Int32)) hx hb dX6_type_1 k_bipush_32 ?_
  refine lv_bipush (v := (126 : Int32)) hx hb dX6_type_3 k_bipush_126 ?_
  refine rc_Si (As := [.int x1a, .int (32 : Int32), .int (126 : Int32)]) (rest := []) ⟨hx, hb, hml, hown, hts⟩ (mX6_isOutside l G x1a (32 : Int32) (126 : Int32) M _ h) (va_cwS 3 hts (gS_X6_isOutside q_5_8) rfl rfl rfl hdS_X6_isOutside ⟨Nat.le_of_ble_eq_true rfl, Nat.le_of_ble_eq_true rfl⟩) hK hP hS rfl hl.1 rfl (Nat.le_of_ble_eq_true rfl) dX6_type_5 ⟨Nat.zero_le _, Nat.zero_le _⟩ (fun r2 M1 H locs h hP hS => ?_)
  refine lv_if_eq (tgt := 14) hx hb dX6_type_8 (by decide) (fun c3 => ?_) (fun c3 => ?_)
  · replace h := h.1 c3
    refine lv_aload_n hx hb dX6_type_14 rfl (lv_at hl 0 rfl) ?_
    refine rk_getr hx hb hts inlX6 hown hK hP hk_j0a cl_6 3 141 fq_6_3 q_2_0 rfl dX6_type_15 ?_
    refine rk_geti hx hb hts inlX3 hown hK hP (ky_6_3 hk_j0a) cl_3 0 fq_3_0 q_30_5 rfl dX6_type_18 ?_
    refine lv_bipush (v := (60 : Int32)) hx hb dX6_type_21 k_bipush_60 ?_
    refine lv_icmp_lt (tgt := 29) hx hb dX6_type_23 (by decide) (fun c4 => ?_) (fun c4 => ?_)
    · replace h := h.1 c4
      refine lv_aload_n hx hb dX6_type_29 rfl (lv_at hl 0 rfl) ?_
      refine rk_getr hx hb hts inlX6 hown hK hP hk_j0a cl_6 3 141 fq_6_3 q_2_0 rfl dX6_type_30 ?_
      refine lv_iload_n hx hb dX6_type_33 rfl (lv_at hl 1 rfl) ?_
      refine rc_Vi (As := [.int x1a]) (rest := []) ⟨hx, hb, hml, hown, hts⟩ (mX3_append l G (j0a + 141) x1a M1 _ (ky_6_3 hk_j0a) h) (cwV 1 hts (gV_X3_append q_31_15) rfl rfl rfl hdV_X3_append ⟨Nat.le_of_ble_eq_true rfl, Nat.le_of_ble_eq_true rfl⟩) hK hP hS (ky_6_3 hk_j0a) (by decide) cl_3 rfl hl.1 rfl (Nat.le_of_ble_eq_true rfl) dX6_type_34 ⟨Nat.zero_le _, Nat.zero_le _⟩ (fun r6 M5 H locs h hP hS => ?_)
      exact re_i hx hb hr hlocks hP hS h dX6_type_37
    · replace h := h.2 c4
      refine lv_ldc hx hb hown (hts _ q_5_3) dX6_type_26 ?_
      exact re_i hx hb hr hlocks hP hS h dX6_type_28
  · replace h := h.2 c3
    refine lv_ldc hx hb hown (hts _ q_5_1) dX6_type_11 ?_
    exact re_i hx hb hr hlocks hP hS h dX6_type_13
set_option maxHeartbeats 4000000 in
set_option maxRecDepth 100000 in
theorem mX6_clearText (l : Launch) (G : Gp) (j0a : Nat) (M : Mm) (Post : Mm → Int32 → Prop) (hk_j0a : kd j0a = 6) (h : wX6_clearText Post M j0a) : CtI l yX6_clearText wsX6_clearText rX6_clearText G [.ref (G.2.1 + j0a)] M Post := by
  refine Met.ofW (cc := cX6_clearText) (maxL := 2) (ret := (some .int)) (by decide) rfl ?_
  intro p e s m args below meth c s₁ B hml hv
  obtain ⟨rfl, hK, hP⟩ := hv
  have hx := B.exec
  have hb := B.bytes
  have hr := B.returns
  have hlocks := B.notSynchronized
  have hts0 := atoms_spec (ws := wsX6_clearText) B.pre
  have hts : ∀ w ∈ wsL_law, w.before _ s = true := fun w hw => hts0 w (List.mem_cons_of_mem _ hw)
  have hown : s.vm.findClass RX6 = some m.cls := findClass_of_methodNamed B.named
  have hS : va_S (Fr G) s.heap s.heap [] := va_S.rf
  have hl := lv_entry ([.ref (G.2.1 + j0a)]) (n := 2) (Nat.le_of_ble_eq_true rfl)
  rw [lg_entry_eq]
  generalize (lg_sl ([.ref (G.2.1 + j0a)]) ++ List.replicate (2 - (lg_sl ([.ref (G.2.1 + j0a)])).length) Slot.unset).toArray = ls at hl ⊢
  have hl : lv_has ls 2 [(0, .ref (G.2.1 + j0a))] := hl
  unfold wX6_clearText at h
  refine lv_aload_n hx hb dX6_clearText_0 rfl (lv_at hl 0 rfl) ?_
  refine rk_getr hx hb hts inlX6 hown hK hP hk_j0a cl_6 3 141 fq_6_3 q_2_0 rfl dX6_clearText_1 ?_
  refine rk_geti hx hb hts inlX3 hown hK hP (ky_6_3 hk_j0a) cl_3 0 fq_3_0 q_30_5 rfl dX6_clearText_4 ?_
  refine lv_topi (fun x1_1 ex1_1 => ?_)
  replace h := h x1_1 ex1_1
  refine lv_istore_n (lv' := [(1, .int x1_1), (0, .ref (G.2.1 + j0a))]) hx hb dX6_clearText_7 rfl hl (by decide) rfl (fun ls hl => ?_)
  refine lv_aload_n hx hb dX6_clearText_8 rfl (lv_at hl 1 rfl) ?_
  refine rk_getr hx hb hts inlX6 hown hK hP hk_j0a cl_6 3 141 fq_6_3 q_2_0 rfl dX6_clearText_9 ?_
  refine lv_iconst (v := (0 : Int32)) hx hb dX6_clearText_12 k_iconst_0 ?_
  refine rk_puti hx hb hts inlX3 tyX3 tyX3_ok nmX3 hown hK hP hS (ky_6_3 hk_j0a) cl_3 0 fq_3_0 q_30_5 rfl rfl rfl dX6_clearText_13 (fun M2 eM2 H locs hP hS => ?_)
  replace h := h M2 eM2
  refine lv_iload_n hx hb dX6_clearText_16 rfl (lv_at hl 0 rfl) ?_
  exact re_i hx hb hr hlocks hP hS h dX6_clearText_17
set_option maxHeartbeats 4000000 in
set_option maxRecDepth 100000 in
theorem mX6_fault (l : Launch) (G : Gp) (j0a : Nat) (x1a : Int32) (M : Mm) (Post : Mm → Int32 → Prop) (hk_j0a : kd j0a = 6) (h : wX6_fault Post M j0a x1a) : CtI l yX6_fault wsX6_fault rX6_fault G [.ref (G.2.1 + j0a), .int x1a] M Post := by
  refine Met.ofW (cc := cX6_fault) (maxL := 2) (ret := (some .int)) (by decide) rfl ?_
  intro p e s m args below meth c s₁ B hml hv
  obtain ⟨rfl, hK, hP⟩ := hv
  have hx := B.exec
  have hb := B.bytes
  have hr := B.returns
  have hlocks := B.notSynchronized
  have hts0 := atoms_spec (ws := wsX6_fault) B.pre
  have hts : ∀ w ∈ wsL_law, w.before _ s = true := fun w hw => hts0 w (List.mem_cons_of_mem _ hw)
  have hown : s.vm.findClass RX6 = some m.cls := findClass_of_methodNamed B.named
  have hS : va_S (Fr G) s.heap s.heap [] := va_S.rf
  have hl := lv_entry ([.ref (G.2.1 + j0a), .int x1a]) (n := 2) (Nat.le_of_ble_eq_true rfl)
  rw [lg_entry_eq]
  generalize (lg_sl ([.ref (G.2.1 + j0a), .int x1a]) ++ List.replicate (2 - (lg_sl ([.ref (G.2.1 + j0a), .int x1a])).length) Slot.unset).toArray = ls at hl ⊢
  have hl : lv_has ls 2 [(0, .ref (G.2.1 + j0a)), (1, .int x1a)] := hl
  unfold wX6_fault at h
  refine lv_iload_n hx hb dX6_fault_0 rfl (lv_at hl 1 rfl) ?_
  refine lv_iconst (v := (0 : Int32)) hx hb dX6_fault_1 k_iconst_0 ?_
  refine lv_iconst (v := (2 : Int32)) hx hb dX6_fault_2 k_iconst_2 ?_
  refine rc_Si (As := [.int x1a, .int (0 : Int32), .int (2 : Int32)]) (rest := []) ⟨hx, hb, hml, hown, hts⟩ (mX6_isOutside l G x1a (0 : Int32) (2 : Int32) M _ h) (va_cwS 3 hts (gS_X6_isOutside q_5_8) rfl rfl rfl hdS_X6_isOutside ⟨Nat.le_of_ble_eq_true rfl, Nat.le_of_ble_eq_true rfl⟩) hK hP hS rfl hl.1 rfl (Nat.le_of_ble_eq_true rfl) dX6_fault_3 ⟨Nat.zero_le _, Nat.zero_le _⟩ (fun r2 M1 H locs h hP hS => ?_)
  refine lv_if_eq (tgt := 12) hx hb dX6_fault_6 (by decide) (fun c3 => ?_) (fun c3 => ?_)
  · replace h := h.1 c3
    refine lv_aload_n hx hb dX6_fault_12 rfl (lv_at hl 0 rfl) ?_
    refine rk_getr hx hb hts inlX6 hown hK hP hk_j0a cl_6 1 24 fq_6_1 q_1_16 rfl dX6_fault_13 ?_
    refine lv_aload_n hx hb dX6_fault_16 rfl (lv_at hl 0 rfl) ?_
    refine rk_getr hx hb hts inlX6 hown hK hP hk_j0a cl_6 0 1 fq_6_0 q_1_15 rfl dX6_fault_17 ?_
    refine rc_Vv (As := [.ref (G.2.1 + (j0a + 1))]) (rest := []) ⟨hx, hb, hml, hown, hts⟩ (mX4_become l G (j0a + 24) (j0a + 1) M1 _ (ky_6_1 hk_j0a) (ky_6_0 hk_j0a) h) (cwV 1 hts (gV_X4_become q_27_3) rfl rfl rfl hdV_X4_become ⟨Nat.le_of_ble_eq_true rfl, Nat.le_of_ble_eq_true rfl⟩) hK hP hS (ky_6_1 hk_j0a) (by decide) cl_4 rfl hl.1 rfl (Nat.le_of_ble_eq_true rfl) dX6_fault_20 ⟨Nat.zero_le _, Nat.zero_le _⟩ (fun M4 H locs h hP hS => ?_)
    refine lv_aload_n hx hb dX6_fault_23 rfl (lv_at hl 0 rfl) ?_
    refine rk_getr hx hb hts inlX6 hown hK hP hk_j0a cl_6 3 141 fq_6_3 q_2_0 rfl dX6_fault_24 ?_
    refine lv_aload_n hx hb dX6_fault_27 rfl (lv_at hl 0 rfl) ?_
    refine rk_getr hx hb hts inlX6 hown hK hP hk_j0a cl_6 1 24 fq_6_1 q_1_16 rfl dX6_fault_28 ?_
    refine rc_Vi (As := [.ref (G.2.1 + (j0a + 24))]) (rest := []) ⟨hx, hb, hml, hown, hts⟩ (mX3_carryOutAll l G (j0a + 141) (j0a + 24) M4 _ (ky_6_3 hk_j0a) (ky_6_1 hk_j0a) h) (cwV 1 hts (gV_X3_carryOutAll q_32_15) rfl rfl rfl hdV_X3_carryOutAll ⟨Nat.le_of_ble_eq_true rfl, Nat.le_of_ble_eq_true rfl⟩) hK hP hS (ky_6_3 hk_j0a) (by decide) cl_3 rfl hl.1 rfl (Nat.le_of_ble_eq_true rfl) dX6_fault_31 ⟨Nat.zero_le _, Nat.zero_le _⟩ (fun r7 M6 H locs h hP hS => ?_)
    refine lv_pop hx hb dX6_fault_34 rfl ?_
    refine lv_aload_n hx hb dX6_fault_35 rfl (lv_at hl 0 rfl) ?_
    refine rk_getr hx hb hts inlX6 hown hK hP hk_j0a cl_6 3 141 fq_6_3 q_2_0 rfl dX6_fault_36 ?_
    refine rk_geti hx hb hts inlX3 hown hK hP (ky_6_3 hk_j0a) cl_3 7 fq_3_7 q_32_12 rfl dX6_fault_39 ?_
    refine lv_if_ne (tgt := 48) hx hb dX6_fault_42 (by decide) (fun c8 => ?_) (fun c8 => ?_)
    · replace h := h.1 c8
      refine lv_iload_n hx hb dX6_fault_48 rfl (lv_at hl 1 rfl) ?_
      by_cases c9 : x1a = (0 : Int32)
      · replace h := h.1 c9
        refine lv_lookup (off := 27) (tgt := 76) hx hb dX6_fault_49 (by decide) (by rw [c9]; rfl) (by decide) ?_
        refine lv_aload_n hx hb dX6_fault_76 rfl (lv_at hl 0 rfl) ?_
        refine rk_getr hx hb hts inlX6 hown hK hP hk_j0a cl_6 3 141 fq_6_3 q_2_0 rfl dX6_fault_77 ?_
        refine rk_geti hx hb hts inlX3 hown hK hP (ky_6_3 hk_j0a) cl_3 2 fq_3_2 q_32_13 rfl dX6_fault_80 ?_
        exact re_i hx hb hr hlocks hP hS h dX6_fault_83
      replace h := h.2 c9
      by_cases c10 : x1a = (1 : Int32)
      · replace h := h.1 c10
        refine lv_lookup (off := 35) (tgt := 84) hx hb dX6_fault_49 (by decide) (by rw [c10]; rfl) (by decide) ?_
        refine lv_aload_n hx hb dX6_fault_84 rfl (lv_at hl 0 rfl) ?_
        refine rk_getr hx hb hts inlX6 hown hK hP hk_j0a cl_6 3 141 fq_6_3 q_2_0 rfl dX6_fault_85 ?_
        refine rk_geti hx hb hts inlX3 hown hK hP (ky_6_3 hk_j0a) cl_3 7 fq_3_7 q_32_12 rfl dX6_fault_88 ?_
        exact re_i hx hb hr hlocks hP hS h dX6_fault_91
      replace h := h.2 c10
      refine lv_lookup (off := 43) (tgt := 92) hx hb dX6_fault_49 (by decide) (by show Op.lookupswitch.offset [(0, 27), (1, 35)] 43 _ = _; rw [lv_osw (a := 0) c9 rfl, lv_osw (a := 1) c10 rfl]; rfl) (by decide) ?_
      refine lv_aload_n hx hb dX6_fault_92 rfl (lv_at hl 0 rfl) ?_
      refine rk_getr hx hb hts inlX6 hown hK hP hk_j0a cl_6 3 141 fq_6_3 q_2_0 rfl dX6_fault_93 ?_
      refine rk_geti hx hb hts inlX3 hown hK hP (ky_6_3 hk_j0a) cl_3 7 fq_3_7 q_32_12 rfl dX6_fault_96 ?_
      refine lv_iconst (v := (3 : Int32)) hx hb dX6_fault_99 k_iconst_3 ?_
      refine lv_icmp_ne (tgt := 108) hx hb dX6_fault_100 (by decide) (fun c11 => ?_) (fun c11 => ?_)
      · replace h := h.1 c11
        refine lv_aload_n hx hb dX6_fault_108 rfl (lv_at hl 0 rfl) ?_
        refine rk_getr hx hb hts inlX6 hown hK hP hk_j0a cl_6 3 141 fq_6_3 q_2_0 rfl dX6_fault_109 ?_
        refine rk_geti hx hb hts inlX3 hown hK hP (ky_6_3 hk_j0a) cl_3 8 fq_3_8 q_32_14 rfl dX6_fault_112 ?_
        exact re_i hx hb hr hlocks hP hS h dX6_fault_115
      · replace h := h.2 c11
        refine lv_ldc hx hb hown (hts _ q_23_9) dX6_fault_103 ?_
        refine lv_goto (tgt := 115) hx hb dX6_fault_105 (by decide) ?_
        exact re_i hx hb hr hlocks hP hS h dX6_fault_115
    · replace h := h.2 c8
      refine lv_ldc hx hb hown (hts _ q_23_9) dX6_fault_45 ?_
      exact re_i hx hb hr hlocks hP hS h dX6_fault_47
  · replace h := h.2 c3
    refine lv_ldc hx hb hown (hts _ q_5_1) dX6_fault_9 ?_
    exact re_i hx hb hr hlocks hP hS h dX6_fault_11
set_option maxHeartbeats 4000000 in
set_option maxRecDepth 100000 in
theorem mX6_play (l : Launch) (G : Gp) (j0a : Nat) (M : Mm) (Post : Mm → Int32 → Prop) (hk_j0a : kd j0a = 6) (h : wX6_play Post M j0a) : CtI l yX6_play wsX6_play rX6_play G [.ref (G.2.1 + j0a)] M Post := by
  refine Met.ofW (cc := cX6_play) (maxL := 2) (ret := (some .int)) (by decide) rfl ?_
  intro p e s m args below meth c s₁ B hml hv
  obtain ⟨rfl, hK, hP⟩ := hv
  have hx := B.exec
  have hb := B.bytes
  have hr := B.returns
  have hlocks := B.notSynchronized
  have hts0 := atoms_spec (ws := wsX6_play) B.pre
  have hts : ∀ w ∈ wsL_law, w.before _ s = true := fun w hw => hts0 w (List.mem_cons_of_mem _ hw)
  have hown : s.vm.findClass RX6 = some m.cls := findClass_of_methodNamed B.named
  have hS : va_S (Fr G) s.heap s.heap [] := va_S.rf
  have hl := lv_entry ([.ref (G.2.1 + j0a)]) (n := 2) (Nat.le_of_ble_eq_true rfl)
  rw [lg_entry_eq]
  generalize (lg_sl ([.ref (G.2.1 + j0a)]) ++ List.replicate (2 - (lg_sl ([.ref (G.2.1 + j0a)])).length) Slot.unset).toArray = ls at hl ⊢
  have hl : lv_has ls 2 [(0, .ref (G.2.1 + j0a))] := hl
  unfold wX6_play at h
  refine lv_aload_n hx hb dX6_play_0 rfl (lv_at hl 0 rfl) ?_
  refine rk_getr hx hb hts inlX6 hown hK hP hk_j0a cl_6 1 24 fq_6_1 q_1_16 rfl dX6_play_1 ?_
  refine lv_aload_n hx hb dX6_play_4 rfl (lv_at hl 0 rfl) ?_
  refine rk_getr hx hb hts inlX6 hown hK hP hk_j0a cl_6 0 1 fq_6_0 q_1_15 rfl dX6_play_5 ?_
  refine rc_Vv (As := [.ref (G.2.1 + (j0a + 1))]) (rest := []) ⟨hx, hb, hml, hown, hts⟩ (mX4_become l G (j0a + 24) (j0a + 1) M _ (ky_6_1 hk_j0a) (ky_6_0 hk_j0a) h) (cwV 1 hts (gV_X4_become q_27_3) rfl rfl rfl hdV_X4_become ⟨Nat.le_of_ble_eq_true rfl, Nat.le_of_ble_eq_true rfl⟩) hK hP hS (ky_6_1 hk_j0a) (by decide) cl_4 rfl hl.1 rfl (Nat.le_of_ble_eq_true rfl) dX6_play_8 ⟨Nat.zero_le _, Nat.zero_le _⟩ (fun M1 H locs h hP hS => ?_)
  refine lv_aload_n hx hb dX6_play_11 rfl (lv_at hl 0 rfl) ?_
  refine rk_getr hx hb hts inlX6 hown hK hP hk_j0a cl_6 3 141 fq_6_3 q_2_0 rfl dX6_play_12 ?_
  refine lv_aload_n hx hb dX6_play_15 rfl (lv_at hl 0 rfl) ?_
  refine rk_getr hx hb hts inlX6 hown hK hP hk_j0a cl_6 1 24 fq_6_1 q_1_16 rfl dX6_play_16 ?_
  refine rc_Vi (As := [.ref (G.2.1 + (j0a + 24))]) (rest := []) ⟨hx, hb, hml, hown, hts⟩ (mX3_carryOutAll l G (j0a + 141) (j0a + 24) M1 _ (ky_6_3 hk_j0a) (ky_6_1 hk_j0a) h) (cwV 1 hts (gV_X3_carryOutAll q_32_15) rfl rfl rfl hdV_X3_carryOutAll ⟨Nat.le_of_ble_eq_true rfl, Nat.le_of_ble_eq_true rfl⟩) hK hP hS (ky_6_3 hk_j0a) (by decide) cl_3 rfl hl.1 rfl (Nat.le_of_ble_eq_true rfl) dX6_play_19 ⟨Nat.zero_le _, Nat.zero_le _⟩ (fun r4 M3 H locs h hP hS => ?_)
  refine lv_istore_n (lv' := [(1, .int r4), (0, .ref (G.2.1 + j0a))]) hx hb dX6_play_22 rfl hl (by decide) rfl (fun ls hl => ?_)
  refine lv_aload_n hx hb dX6_play_23 rfl (lv_at hl 1 rfl) ?_
  refine rk_getr hx hb hts inlX6 hown hK hP hk_j0a cl_6 3 141 fq_6_3 q_2_0 rfl dX6_play_24 ?_
  refine rk_geti hx hb hts inlX3 hown hK hP (ky_6_3 hk_j0a) cl_3 7 fq_3_7 q_32_12 rfl dX6_play_27 ?_
  refine lv_if_eq (tgt := 36) hx hb dX6_play_30 (by decide) (fun c5 => ?_) (fun c5 => ?_)
  · replace h := h.1 c5
    refine lv_aload_n hx hb dX6_play_36 rfl (lv_at hl 1 rfl) ?_
    refine rk_getr hx hb hts inlX6 hown hK hP hk_j0a cl_6 2 47 fq_6_2 q_1_20 rfl dX6_play_37 ?_
    refine lv_aload_n hx hb dX6_play_40 rfl (lv_at hl 1 rfl) ?_
    refine rk_getr hx hb hts inlX6 hown hK hP hk_j0a cl_6 0 1 fq_6_0 q_1_15 rfl dX6_play_41 ?_
    refine rc_Vv (As := [.ref (G.2.1 + (j0a + 1))]) (rest := []) ⟨hx, hb, hml, hown, hts⟩ (mX2_record l G (j0a + 47) (j0a + 1) M3 _ (ky_6_2 hk_j0a) (ky_6_0 hk_j0a) h) (cwV 1 hts (gV_X2_record q_5_11) rfl rfl rfl hdV_X2_record ⟨Nat.le_of_ble_eq_true rfl, Nat.le_of_ble_eq_true rfl⟩) hK hP hS (ky_6_2 hk_j0a) (by decide) cl_2 rfl hl.1 rfl (Nat.le_of_ble_eq_true rfl) dX6_play_44 ⟨Nat.zero_le _, Nat.zero_le _⟩ (fun M6 H locs h hP hS => ?_)
    refine lv_aload_n hx hb dX6_play_47 rfl (lv_at hl 1 rfl) ?_
    refine rk_getr hx hb hts inlX6 hown hK hP hk_j0a cl_6 0 1 fq_6_0 q_1_15 rfl dX6_play_48 ?_
    refine lv_aload_n hx hb dX6_play_51 rfl (lv_at hl 1 rfl) ?_
    refine rk_getr hx hb hts inlX6 hown hK hP hk_j0a cl_6 1 24 fq_6_1 q_1_16 rfl dX6_play_52 ?_
    refine rc_Vv (As := [.ref (G.2.1 + (j0a + 24))]) (rest := []) ⟨hx, hb, hml, hown, hts⟩ (mX4_become l G (j0a + 1) (j0a + 24) M6 _ (ky_6_0 hk_j0a) (ky_6_1 hk_j0a) h) (cwV 1 hts (gV_X4_become q_27_3) rfl rfl rfl hdV_X4_become ⟨Nat.le_of_ble_eq_true rfl, Nat.le_of_ble_eq_true rfl⟩) hK hP hS (ky_6_0 hk_j0a) (by decide) cl_4 rfl hl.1 rfl (Nat.le_of_ble_eq_true rfl) dX6_play_55 ⟨Nat.zero_le _, Nat.zero_le _⟩ (fun M8 H locs h hP hS => ?_)
    refine lv_iload_n hx hb dX6_play_58 rfl (lv_at hl 0 rfl) ?_
    exact re_i hx hb hr hlocks hP hS h dX6_play_59
  · replace h := h.2 c5
    refine lv_ldc hx hb hown (hts _ q_9_2) dX6_play_33 ?_
    exact re_i hx hb hr hlocks hP hS h dX6_play_35
set_option maxHeartbeats 4000000 in
set_option maxRecDepth 100000 in
theorem mX7_in (l : Launch) (G : Gp) (x0a : Int32) (x1a : Int32) (x2a : Int32) (M : Mm) (Post : Mm → Int32 → Prop) (h : wX7_in Post M x0a x1a x2a) : CtI l yX7_in wsX7_in rX7_in G [.int x0a, .int x1a, .int x2a] M Post := by
  refine Met.ofW (cc := cX7_in) (maxL := 3) (ret := (some .boolean)) (by decide) rfl ?_
  intro p e s m args below meth c s₁ B hml hv
  obtain ⟨rfl, hK, hP⟩ := hv
  have hx := B.exec
  have hb := B.bytes
  have hr := B.returns
  have hlocks := B.notSynchronized
  have hts0 := atoms_spec (ws := wsX7_in) B.pre
  have hts : ∀ w ∈ wsL_law, w.before _ s = true := fun w hw => hts0 w (List.mem_cons_of_mem _ hw)
  have hown : s.vm.findClass RX7 = some m.cls := findClass_of_methodNamed B.named
  have hS : va_S (Fr G) s.heap s.heap [] := va_S.rf
  have hl := lv_entry ([.int x0a, .int x1a, .int x2a]) (n := 3) (Nat.le_of_ble_eq_true rfl)
  rw [lg_entry_eq]
  generalize (lg_sl ([.int x0a, .int x1a, .int x2a]) ++ List.replicate (3 - (lg_sl ([.int x0a, .int x1a, .int x2a])).length) Slot.unset).toArray = ls at hl ⊢
  have hl : lv_has ls 3 [(0, .int x0a), (1, .int x1a), (2, .int x2a)] := hl
  unfold wX7_in at h
  refine lv_iload_n hx hb dX7_in_0 rfl (lv_at hl 0 rfl) ?_
  refine lv_iload_n hx hb dX7_in_1 rfl (lv_at hl 1 rfl) ?_
  refine lv_icmp_lt (tgt := 14) hx hb dX7_in_2 (by decide) (fun c1 => ?_) (fun c1 => ?_)
  · replace h := h.1 c1
    refine lv_iconst (v := (0 : Int32)) hx hb dX7_in_14 k_iconst_0 ?_
    exact re_z hx hb hr hlocks (Or.inl rfl) hP hS h dX7_in_15
  · replace h := h.2 c1
    refine lv_iload_n hx hb dX7_in_5 rfl (lv_at hl 0 rfl) ?_
    refine lv_iload_n hx hb dX7_in_6 rfl (lv_at hl 2 rfl) ?_
    refine lv_icmp_gt (tgt := 14) hx hb dX7_in_7 (by decide) (fun c2 => ?_) (fun c2 => ?_)
    · replace h := h.1 c2
      refine lv_iconst (v := (0 : Int32)) hx hb dX7_in_14 k_iconst_0 ?_
      exact re_z hx hb hr hlocks (Or.inl rfl) hP hS h dX7_in_15
    · replace h := h.2 c2
      refine lv_iconst (v := (1 : Int32)) hx hb dX7_in_10 k_iconst_1 ?_
      refine lv_goto (tgt := 15) hx hb dX7_in_11 (by decide) ?_
      exact re_z hx hb hr hlocks (Or.inr rfl) hP hS h dX7_in_15
set_option maxHeartbeats 4000000 in
set_option maxRecDepth 100000 in
theorem mX7_ca (l : Launch) (G : Gp) (j0a : Nat) (x1a : Int32) (x2a : Int32) (M : Mm) (Post : Mm → Int32 → Prop) (hk_j0a : kd j0a = 7) (h : wX7_ca Post M j0a x1a x2a) : CtI l yX7_ca wsX7_ca rX7_ca G [.ref (G.2.1 + j0a), .int x1a, .int x2a] M Post := by
  refine Met.ofW (cc := cX7_ca) (maxL := 3) (ret := (some .int)) (by decide) rfl ?_
  intro p e s m args below meth c s₁ B hml hv
  obtain ⟨rfl, hK, hP⟩ := hv
  have hx := B.exec
  have hb := B.bytes
  have hr := B.returns
  have hlocks := B.notSynchronized
  have hts0 := atoms_spec (ws := wsX7_ca) B.pre
  have hts : ∀ w ∈ wsL_law, w.before _ s = true := fun w hw => hts0 w (List.mem_cons_of_mem _ hw)
  have hown : s.vm.findClass RX7 = some m.cls := findClass_of_methodNamed B.named
  have hS : va_S (Fr G) s.heap s.heap [] := va_S.rf
  have hl := lv_entry ([.ref (G.2.1 + j0a), .int x1a, .int x2a]) (n := 3) (Nat.le_of_ble_eq_true rfl)
  rw [lg_entry_eq]
  generalize (lg_sl ([.ref (G.2.1 + j0a), .int x1a, .int x2a]) ++ List.replicate (3 - (lg_sl ([.ref (G.2.1 + j0a), .int x1a, .int x2a])).length) Slot.unset).toArray = ls at hl ⊢
  have hl : lv_has ls 3 [(0, .ref (G.2.1 + j0a)), (1, .int x1a), (2, .int x2a)] := hl
  unfold wX7_ca at h
  refine lv_aload_n hx hb dX7_ca_0 rfl (lv_at hl 0 rfl) ?_
  refine rk_getr hx hb hts inlX7 hown hK hP hk_j0a cl_7 0 1 fq_7_0 q_4_13 rfl dX7_ca_1 ?_
  refine lv_bipush (v := (10 : Int32)) hx hb dX7_ca_4 k_bipush_10 ?_
  refine lv_bipush (v := (9 : Int32)) hx hb dX7_ca_6 k_bipush_9 ?_
  refine lv_iload_n hx hb dX7_ca_8 rfl (lv_at hl 1 rfl) ?_
  refine lv_imul hx hb dX7_ca_9 ?_
  refine lv_iadd hx hb dX7_ca_10 ?_
  refine lv_iload_n hx hb dX7_ca_11 rfl (lv_at hl 2 rfl) ?_
  refine lv_iadd hx hb dX7_ca_12 ?_
  refine rk_iald hx hb hK hP (ky_7_0 hk_j0a) ac_12 _ rfl h.1 dX7_ca_13 ?_
  replace h := h.2
  exact re_i hx hb hr hlocks hP hS h dX7_ca_14
set_option maxHeartbeats 4000000 in
set_option maxRecDepth 100000 in
theorem mX7_fi (l : Launch) (G : Gp) (j0a : Nat) (x1a : Int32) (x2a : Int32) (M : Mm) (Post : Mm → Int32 → Prop) (hk_j0a : kd j0a = 7) (h : wX7_fi Post M j0a x1a x2a) : CtI l yX7_fi wsX7_fi rX7_fi G [.ref (G.2.1 + j0a), .int x1a, .int x2a] M Post := by
  refine Met.ofW (cc := cX7_fi) (maxL := 3) (ret := (some .int)) (by decide) rfl ?_
  intro p e s m args below meth c s₁ B hml hv
  obtain ⟨rfl, hK, hP⟩ := hv
  have hx := B.exec
  have hb := B.bytes
  have hr := B.returns
  have hlocks := B.notSynchronized
  have hts0 := atoms_spec (ws := wsX7_fi) B.pre
  have hts : ∀ w ∈ wsL_law, w.before _ s = true := fun w hw => hts0 w (List.mem_cons_of_mem _ hw)
  have hown : s.vm.findClass RX7 = some m.cls := findClass_of_methodNamed B.named
  have hS : va_S (Fr G) s.heap s.heap [] := va_S.rf
  have hl := lv_entry ([.ref (G.2.1 + j0a), .int x1a, .int x2a]) (n := 3) (Nat.le_of_ble_eq_true rfl)
  rw [lg_entry_eq]
  generalize (lg_sl ([.ref (G.2.1 + j0a), .int x1a, .int x2a]) ++ List.replicate (3 - (lg_sl ([.ref (G.2.1 + j0a), .int x1a, .int x2a])).length) Slot.unset).toArray = ls at hl ⊢
  have hl : lv_has ls 3 [(0, .ref (G.2.1 + j0a)), (1, .int x1a), (2, .int x2a)] := hl
  unfold wX7_fi at h
  refine lv_aload_n hx hb dX7_fi_0 rfl (lv_at hl 0 rfl) ?_
  refine rk_getr hx hb hts inlX7 hown hK hP hk_j0a cl_7 0 1 fq_7_0 q_4_13 rfl dX7_fi_1 ?_
  refine lv_bipush (v := (82 : Int32)) hx hb dX7_fi_4 k_bipush_82 ?_
  refine lv_bipush (v := (7 : Int32)) hx hb dX7_fi_6 k_bipush_7 ?_
  refine lv_iload_n hx hb dX7_fi_8 rfl (lv_at hl 1 rfl) ?_
  refine lv_imul hx hb dX7_fi_9 ?_
  refine lv_iadd hx hb dX7_fi_10 ?_
  refine lv_iload_n hx hb dX7_fi_11 rfl (lv_at hl 2 rfl) ?_
  refine lv_iadd hx hb dX7_fi_12 ?_
  refine rk_iald hx hb hK hP (ky_7_0 hk_j0a) ac_12 _ rfl h.1 dX7_fi_13 ?_
  replace h := h.2
  exact re_i hx hb hr hlocks hP hS h dX7_fi_14
set_option maxHeartbeats 4000000 in
set_option maxRecDepth 100000 in
theorem mX7_isCanal (l : Launch) (G : Gp) (j0a : Nat) (x1a : Int32) (M : Mm) (Post : Mm → Int32 → Prop) (hk_j0a : kd j0a = 7) (h : wX7_isCanal Post M j0a x1a) : CtI l yX7_isCanal wsX7_isCanal rX7_isCanal G [.ref (G.2.1 + j0a), .int x1a] M Post := by
  refine Met.ofW (cc := cX7_isCanal) (maxL := 2) (ret := (some .boolean)) (by decide) rfl ?_
  intro p e s m args below meth c s₁ B hml hv
  obtain ⟨rfl, hK, hP⟩ := hv
  have hx := B.exec
  have hb := B.bytes
  have hr := B.returns
  have hlocks := B.notSynchronized
  have hts0 := atoms_spec (ws := wsX7_isCanal) B.pre
  have hts : ∀ w ∈ wsL_law, w.before _ s = true := fun w hw => hts0 w (List.mem_cons_of_mem _ hw)
  have hown : s.vm.findClass RX7 = some m.cls := findClass_of_methodNamed B.named
  have hS : va_S (Fr G) s.heap s.heap [] := va_S.rf
  have hl := lv_entry ([.ref (G.2.1 + j0a), .int x1a]) (n := 2) (Nat.le_of_ble_eq_true rfl)
  rw [lg_entry_eq]
  generalize (lg_sl ([.ref (G.2.1 + j0a), .int x1a]) ++ List.replicate (2 - (lg_sl ([.ref (G.2.1 + j0a), .int x1a])).length) Slot.unset).toArray = ls at hl ⊢
  have hl : lv_has ls 2 [(0, .ref (G.2.1 + j0a)), (1, .int x1a)] := hl
  unfold wX7_isCanal at h
  refine lv_iload_n hx hb dX7_isCanal_0 rfl (lv_at hl 1 rfl) ?_
  refine lv_iconst (v := (0 : Int32)) hx hb dX7_isCanal_1 k_iconst_0 ?_
  refine lv_aload_n hx hb dX7_isCanal_2 rfl (lv_at hl 0 rfl) ?_
  refine rk_getr hx hb hts inlX7 hown hK hP hk_j0a cl_7 0 1 fq_7_0 q_4_13 rfl dX7_isCanal_3 ?_
  refine lv_iconst (v := (0 : Int32)) hx hb dX7_isCanal_6 k_iconst_0 ?_
  refine rk_iald hx hb hK hP (ky_7_0 hk_j0a) ac_12 0 ix_0 vi_0_168 dX7_isCanal_7 ?_
  refine lv_iconst (v := (1 : Int32)) hx hb dX7_isCanal_8 k_iconst_1 ?_
  refine lv_isub hx hb dX7_isCanal_9 ?_
  refine rc_Si (As := [.int x1a, .int (0 : Int32), .int ((M (j0a + 1) 0) - (1 : Int32))]) (rest := []) ⟨hx, hb, hml, hown, hts⟩ (mX7_in l G x1a (0 : Int32) ((M (j0a + 1) 0) - (1 : Int32)) M _ h) (va_cwS 3 hts (gS_X7_in q_7_19) rfl rfl rfl hdS_X7_in ⟨Nat.le_of_ble_eq_true rfl, Nat.le_of_ble_eq_true rfl⟩) hK hP hS rfl hl.1 rfl (Nat.le_of_ble_eq_true rfl) dX7_isCanal_10 ⟨Nat.zero_le _, Nat.zero_le _⟩ (fun r2 M1 H locs h hP hS => ?_)
  exact re_z hx hb hr hlocks h.1 hP hS h.2 dX7_isCanal_13
set_option maxHeartbeats 4000000 in
set_option maxRecDepth 100000 in
theorem mX7_isGate (l : Launch) (G : Gp) (j0a : Nat) (x1a : Int32) (M : Mm) (Post : Mm → Int32 → Prop) (hk_j0a : kd j0a = 7) (h : wX7_isGate Post M j0a x1a) : CtI l yX7_isGate wsX7_isGate rX7_isGate G [.ref (G.2.1 + j0a), .int x1a] M Post := by
  refine Met.ofW (cc := cX7_isGate) (maxL := 2) (ret := (some .boolean)) (by decide) rfl ?_
  intro p e s m args below meth c s₁ B hml hv
  obtain ⟨rfl, hK, hP⟩ := hv
  have hx := B.exec
  have hb := B.bytes
  have hr := B.returns
  have hlocks := B.notSynchronized
  have hts0 := atoms_spec (ws := wsX7_isGate) B.pre
  have hts : ∀ w ∈ wsL_law, w.before _ s = true := fun w hw => hts0 w (List.mem_cons_of_mem _ hw)
  have hown : s.vm.findClass RX7 = some m.cls := findClass_of_methodNamed B.named
  have hS : va_S (Fr G) s.heap s.heap [] := va_S.rf
  have hl := lv_entry ([.ref (G.2.1 + j0a), .int x1a]) (n := 2) (Nat.le_of_ble_eq_true rfl)
  rw [lg_entry_eq]
  generalize (lg_sl ([.ref (G.2.1 + j0a), .int x1a]) ++ List.replicate (2 - (lg_sl ([.ref (G.2.1 + j0a), .int x1a])).length) Slot.unset).toArray = ls at hl ⊢
  have hl : lv_has ls 2 [(0, .ref (G.2.1 + j0a)), (1, .int x1a)] := hl
  unfold wX7_isGate at h
  refine lv_iload_n hx hb dX7_isGate_0 rfl (lv_at hl 1 rfl) ?_
  refine lv_iconst (v := (1 : Int32)) hx hb dX7_isGate_1 k_iconst_1 ?_
  refine lv_aload_n hx hb dX7_isGate_2 rfl (lv_at hl 0 rfl) ?_
  refine rk_getr hx hb hts inlX7 hown hK hP hk_j0a cl_7 0 1 fq_7_0 q_4_13 rfl dX7_isGate_3 ?_
  refine lv_iconst (v := (0 : Int32)) hx hb dX7_isGate_6 k_iconst_0 ?_
  refine rk_iald hx hb hK hP (ky_7_0 hk_j0a) ac_12 0 ix_0 vi_0_168 dX7_isGate_7 ?_
  refine lv_iconst (v := (1 : Int32)) hx hb dX7_isGate_8 k_iconst_1 ?_
  refine lv_isub hx hb dX7_isGate_9 ?_
  refine rc_Si (As := [.int x1a, .int (1 : Int32), .int ((M (j0a + 1) 0) - (1 : Int32))]) (rest := []) ⟨hx, hb, hml, hown, hts⟩ (mX7_in l G x1a (1 : Int32) ((M (j0a + 1) 0) - (1 : Int32)) M _ h) (va_cwS 3 hts (gS_X7_in q_7_19) rfl rfl rfl hdS_X7_in ⟨Nat.le_of_ble_eq_true rfl, Nat.le_of_ble_eq_true rfl⟩) hK hP hS rfl hl.1 rfl (Nat.le_of_ble_eq_true rfl) dX7_isGate_10 ⟨Nat.zero_le _, Nat.zero_le _⟩ (fun r2 M1 H locs h hP hS => ?_)
  exact re_z hx hb hr hlocks h.1 hP hS h.2 dX7_isGate_13
set_option maxHeartbeats 4000000 in
set_option maxRecDepth 100000 in
theorem mX7_isField (l : Launch) (G : Gp) (j0a : Nat) (x1a : Int32) (M : Mm) (Post : Mm → Int32 → Prop) (hk_j0a : kd j0a = 7) (h : wX7_isField Post M j0a x1a) : CtI l yX7_isField wsX7_isField rX7_isField G [.ref (G.2.1 + j0a), .int x1a] M Post := by
  refine Met.ofW (cc := cX7_isField) (maxL := 2) (ret := (some .boolean)) (by decide) rfl ?_
  intro p e s m args below meth c s₁ B hml hv
  obtain ⟨rfl, hK, hP⟩ := hv
  have hx := B.exec
  have hb := B.bytes
  have hr := B.returns
  have hlocks := B.notSynchronized
  have hts0 := atoms_spec (ws := wsX7_isField) B.pre
  have hts : ∀ w ∈ wsL_law, w.before _ s = true := fun w hw => hts0 w (List.mem_cons_of_mem _ hw)
  have hown : s.vm.findClass RX7 = some m.cls := findClass_of_methodNamed B.named
  have hS : va_S (Fr G) s.heap s.heap [] := va_S.rf
  have hl := lv_entry ([.ref (G.2.1 + j0a), .int x1a]) (n := 2) (Nat.le_of_ble_eq_true rfl)
  rw [lg_entry_eq]
  generalize (lg_sl ([.ref (G.2.1 + j0a), .int x1a]) ++ List.replicate (2 - (lg_sl ([.ref (G.2.1 + j0a), .int x1a])).length) Slot.unset).toArray = ls at hl ⊢
  have hl : lv_has ls 2 [(0, .ref (G.2.1 + j0a)), (1, .int x1a)] := hl
  unfold wX7_isField at h
  refine lv_iload_n hx hb dX7_isField_0 rfl (lv_at hl 1 rfl) ?_
  refine lv_iconst (v := (0 : Int32)) hx hb dX7_isField_1 k_iconst_0 ?_
  refine lv_aload_n hx hb dX7_isField_2 rfl (lv_at hl 0 rfl) ?_
  refine rk_getr hx hb hts inlX7 hown hK hP hk_j0a cl_7 0 1 fq_7_0 q_4_13 rfl dX7_isField_3 ?_
  refine lv_iconst (v := (1 : Int32)) hx hb dX7_isField_6 k_iconst_1 ?_
  refine rk_iald hx hb hK hP (ky_7_0 hk_j0a) ac_12 1 ix_1 vi_1_168 dX7_isField_7 ?_
  refine lv_iconst (v := (1 : Int32)) hx hb dX7_isField_8 k_iconst_1 ?_
  refine lv_isub hx hb dX7_isField_9 ?_
  refine rc_Si (As := [.int x1a, .int (0 : Int32), .int ((M (j0a + 1) 1) - (1 : Int32))]) (rest := []) ⟨hx, hb, hml, hown, hts⟩ (mX7_in l G x1a (0 : Int32) ((M (j0a + 1) 1) - (1 : Int32)) M _ h) (va_cwS 3 hts (gS_X7_in q_7_19) rfl rfl rfl hdS_X7_in ⟨Nat.le_of_ble_eq_true rfl, Nat.le_of_ble_eq_true rfl⟩) hK hP hS rfl hl.1 rfl (Nat.le_of_ble_eq_true rfl) dX7_isField_10 ⟨Nat.zero_le _, Nat.zero_le _⟩ (fun r2 M1 H locs h hP hS => ?_)
  exact re_z hx hb hr hlocks h.1 hP hS h.2 dX7_isField_13
set_option maxHeartbeats 4000000 in
set_option maxRecDepth 100000 in
theorem mX7_areGates (l : Launch) (G : Gp) (j0a : Nat) (x1a : Int32) (M : Mm) (Post : Mm → Int32 → Prop) (hk_j0a : kd j0a = 7) (h : wX7_areGates Post M j0a x1a) : CtI l yX7_areGates wsX7_areGates rX7_areGates G [.ref (G.2.1 + j0a), .int x1a] M Post := by
  refine Met.ofW (cc := cX7_areGates) (maxL := 2) (ret := (some .boolean)) (by decide) rfl ?_
  intro p e s m args below meth c s₁ B hml hv
  obtain ⟨rfl, hK, hP⟩ := hv
  have hx := B.exec
  have hb := B.bytes
  have hr := B.returns
  have hlocks := B.notSynchronized
  have hts0 := atoms_spec (ws := wsX7_areGates) B.pre
  have hts : ∀ w ∈ wsL_law, w.before _ s = true := fun w hw => hts0 w (List.mem_cons_of_mem _ hw)
  have hown : s.vm.findClass RX7 = some m.cls := findClass_of_methodNamed B.named
  have hS : va_S (Fr G) s.heap s.heap [] := va_S.rf
  have hl := lv_entry ([.ref (G.2.1 + j0a), .int x1a]) (n := 2) (Nat.le_of_ble_eq_true rfl)
  rw [lg_entry_eq]
  generalize (lg_sl ([.ref (G.2.1 + j0a), .int x1a]) ++ List.replicate (2 - (lg_sl ([.ref (G.2.1 + j0a), .int x1a])).length) Slot.unset).toArray = ls at hl ⊢
  have hl : lv_has ls 2 [(0, .ref (G.2.1 + j0a)), (1, .int x1a)] := hl
  unfold wX7_areGates at h
  refine lv_iload_n hx hb dX7_areGates_0 rfl (lv_at hl 1 rfl) ?_
  refine lv_if_lt (tgt := 25) hx hb dX7_areGates_1 (by decide) (fun c1 => ?_) (fun c1 => ?_)
  · replace h := h.1 c1
    refine lv_iconst (v := (0 : Int32)) hx hb dX7_areGates_25 k_iconst_0 ?_
    exact re_z hx hb hr hlocks (Or.inl rfl) hP hS h dX7_areGates_26
  · replace h := h.2 c1
    refine lv_iload_n hx hb dX7_areGates_4 rfl (lv_at hl 1 rfl) ?_
    refine lv_iconst (v := (1 : Int32)) hx hb dX7_areGates_5 k_iconst_1 ?_
    refine lv_aload_n hx hb dX7_areGates_6 rfl (lv_at hl 0 rfl) ?_
    refine rk_getr hx hb hts inlX7 hown hK hP hk_j0a cl_7 0 1 fq_7_0 q_4_13 rfl dX7_areGates_7 ?_
    refine lv_iconst (v := (0 : Int32)) hx hb dX7_areGates_10 k_iconst_0 ?_
    refine rk_iald hx hb hK hP (ky_7_0 hk_j0a) ac_12 0 ix_0 vi_0_168 dX7_areGates_11 ?_
    refine lv_ishl hx hb dX7_areGates_12 ?_
    refine lv_iconst (v := (2 : Int32)) hx hb dX7_areGates_13 k_iconst_2 ?_
    refine lv_isub hx hb dX7_areGates_14 ?_
    refine lv_iconst (v := (-1 : Int32)) hx hb dX7_areGates_15 k_iconst_m1 ?_
    refine lv_ixor hx hb dX7_areGates_16 ?_
    refine lv_iand hx hb dX7_areGates_17 ?_
    refine lv_if_ne (tgt := 25) hx hb dX7_areGates_18 (by decide) (fun c2 => ?_) (fun c2 => ?_)
    · replace h := h.1 c2
      refine lv_iconst (v := (0 : Int32)) hx hb dX7_areGates_25 k_iconst_0 ?_
      exact re_z hx hb hr hlocks (Or.inl rfl) hP hS h dX7_areGates_26
    · replace h := h.2 c2
      refine lv_iconst (v := (1 : Int32)) hx hb dX7_areGates_21 k_iconst_1 ?_
      refine lv_goto (tgt := 26) hx hb dX7_areGates_22 (by decide) ?_
      exact re_z hx hb hr hlocks (Or.inr rfl) hP hS h dX7_areGates_26
set_option maxHeartbeats 4000000 in
set_option maxRecDepth 100000 in
theorem mX7_wants (l : Launch) (G : Gp) (j0a : Nat) (x1a : Int32) (M : Mm) (Post : Mm → Int32 → Prop) (hk_j0a : kd j0a = 7) (h : wX7_wants Post M j0a x1a) : CtI l yX7_wants wsX7_wants rX7_wants G [.ref (G.2.1 + j0a), .int x1a] M Post := by
  refine Met.ofW (cc := cX7_wants) (maxL := 2) (ret := (some .boolean)) (by decide) rfl ?_
  intro p e s m args below meth c s₁ B hml hv
  obtain ⟨rfl, hK, hP⟩ := hv
  have hx := B.exec
  have hb := B.bytes
  have hr := B.returns
  have hlocks := B.notSynchronized
  have hts0 := atoms_spec (ws := wsX7_wants) B.pre
  have hts : ∀ w ∈ wsL_law, w.before _ s = true := fun w hw => hts0 w (List.mem_cons_of_mem _ hw)
  have hown : s.vm.findClass RX7 = some m.cls := findClass_of_methodNamed B.named
  have hS : va_S (Fr G) s.heap s.heap [] := va_S.rf
  have hl := lv_entry ([.ref (G.2.1 + j0a), .int x1a]) (n := 2) (Nat.le_of_ble_eq_true rfl)
  rw [lg_entry_eq]
  generalize (lg_sl ([.ref (G.2.1 + j0a), .int x1a]) ++ List.replicate (2 - (lg_sl ([.ref (G.2.1 + j0a), .int x1a])).length) Slot.unset).toArray = ls at hl ⊢
  have hl : lv_has ls 2 [(0, .ref (G.2.1 + j0a)), (1, .int x1a)] := hl
  unfold wX7_wants at h
  refine lv_aload_n hx hb dX7_wants_0 rfl (lv_at hl 0 rfl) ?_
  refine lv_iload_n hx hb dX7_wants_1 rfl (lv_at hl 1 rfl) ?_
  refine lv_iconst (v := (4 : Int32)) hx hb dX7_wants_2 k_iconst_4 ?_
  refine rc_Vi (As := [.int x1a, .int (4 : Int32)]) (rest := []) ⟨hx, hb, hml, hown, hts⟩ (mX7_fi l G j0a x1a (4 : Int32) M _ hk_j0a h) (cwV 2 hts (gV_X7_fi q_14_8) rfl rfl rfl hdV_X7_fi ⟨Nat.le_of_ble_eq_true rfl, Nat.le_of_ble_eq_true rfl⟩) hK hP hS hk_j0a (by decide) cl_7 rfl hl.1 rfl (Nat.le_of_ble_eq_true rfl) dX7_wants_3 ⟨Nat.zero_le _, Nat.zero_le _⟩ (fun r2 M1 H locs h hP hS => ?_)
  refine lv_aload_n hx hb dX7_wants_6 rfl (lv_at hl 0 rfl) ?_
  refine lv_iload_n hx hb dX7_wants_7 rfl (lv_at hl 1 rfl) ?_
  refine lv_iconst (v := (1 : Int32)) hx hb dX7_wants_8 k_iconst_1 ?_
  refine rc_Vi (As := [.int x1a, .int (1 : Int32)]) (rest := [.int r2]) ⟨hx, hb, hml, hown, hts⟩ (mX7_fi l G j0a x1a (1 : Int32) M1 _ hk_j0a h) (cwV 2 hts (gV_X7_fi q_14_8) rfl rfl rfl hdV_X7_fi ⟨Nat.le_of_ble_eq_true rfl, Nat.le_of_ble_eq_true rfl⟩) hK hP hS hk_j0a (by decide) cl_7 rfl hl.1 rfl (Nat.le_of_ble_eq_true rfl) dX7_wants_9 ⟨Nat.zero_le _, Nat.zero_le _⟩ (fun r4 M3 H locs h hP hS => ?_)
  refine lv_icmp_ge (tgt := 19) hx hb dX7_wants_12 (by decide) (fun c5 => ?_) (fun c5 => ?_)
  · replace h := h.1 c5
    refine lv_iconst (v := (0 : Int32)) hx hb dX7_wants_19 k_iconst_0 ?_
    exact re_z hx hb hr hlocks (Or.inl rfl) hP hS h dX7_wants_20
  · replace h := h.2 c5
    refine lv_iconst (v := (1 : Int32)) hx hb dX7_wants_15 k_iconst_1 ?_
    refine lv_goto (tgt := 20) hx hb dX7_wants_16 (by decide) ?_
    exact re_z hx hb hr hlocks (Or.inr rfl) hP hS h dX7_wants_20
set_option maxHeartbeats 4000000 in
set_option maxRecDepth 100000 in
theorem mX7_keeps (l : Launch) (G : Gp) (j0a : Nat) (M : Mm) (Post : Mm → Prop) (hk_j0a : kd j0a = 7) (h : wX7_keeps Post M j0a) : CtV l yX7_keeps wsX7_keeps rX7_keeps G [.ref (G.2.1 + j0a)] M Post := by
  refine Met.ofW (cc := cX7_keeps) (maxL := 2) (ret := none) (by decide) rfl ?_
  intro p e s m args below meth c s₁ B hml hv
  obtain ⟨rfl, hK, hP⟩ := hv
  have hx := B.exec
  have hb := B.bytes
  have hr := B.returns
  have hlocks := B.notSynchronized
  have hts0 := atoms_spec (ws := wsX7_keeps) B.pre
  have hts : ∀ w ∈ wsL_law, w.before _ s = true := fun w hw => hts0 w (List.mem_cons_of_mem _ hw)
  have hown : s.vm.findClass RX7 = some m.cls := findClass_of_methodNamed B.named
  have hS : va_S (Fr G) s.heap s.heap [] := va_S.rf
  have hl := lv_entry ([.ref (G.2.1 + j0a)]) (n := 2) (Nat.le_of_ble_eq_true rfl)
  rw [lg_entry_eq]
  generalize (lg_sl ([.ref (G.2.1 + j0a)]) ++ List.replicate (2 - (lg_sl ([.ref (G.2.1 + j0a)])).length) Slot.unset).toArray = ls at hl ⊢
  have hl : lv_has ls 2 [(0, .ref (G.2.1 + j0a))] := hl
  have B2 : ∀ n : Nat, ∀ (M : Mm) (j0 : Nat) (x1 : Int32) (H : Heap) (locs : List Loc) (ls : Array Slot), Rp G M H → va_S (Fr G) s.heap H locs → lv_has ls 2 [(0, .ref (G.2.1 + j0)), (1, .int x1)] → kd j0 = 7 → lX7_keeps_2 Post n M j0 x1 → Wv p l e (headSpec wsX7_keeps rX7_keeps).room s m [.ref (G.2.1 + j0a)].toArray below meth c G Post H locs (F0 m 2 ls []) := by
    intro n
    induction n with
    | zero => intro M j0 x1 H locs ls hP hS hl hk_j0 h; exact h.elim
    | succ n ih =>
      intro M j0 x1 H locs ls hP hS hl hk_j0 h
      have hA2 := ih
      replace h : bX7_keeps_2 Post (lX7_keeps_2 Post n) M j0 x1 := h
      unfold bX7_keeps_2 at h
      refine lv_iload_n hx hb dX7_keeps_2 rfl (lv_at hl 1 rfl) ?_
      refine lv_sipush (v := (168 : Int32)) hx hb dX7_keeps_3 k_sipush_168 ?_
      refine lv_icmp_ge (tgt := 27) hx hb dX7_keeps_6 (by decide) (fun c2 => ?_) (fun c2 => ?_)
      · replace h := h.1 c2
        exact re_v hx hb hr hlocks hP hS h dX7_keeps_27
      · replace h := h.2 c2
        refine lv_aload_n hx hb dX7_keeps_9 rfl (lv_at hl 0 rfl) ?_
        refine rk_getr hx hb hts inlX7 hown hK hP hk_j0 cl_7 2 3 fq_7_2 q_4_15 rfl dX7_keeps_10 ?_
        refine lv_iload_n hx hb dX7_keeps_13 rfl (lv_at hl 1 rfl) ?_
        refine lv_aload_n hx hb dX7_keeps_14 rfl (lv_at hl 0 rfl) ?_
        refine rk_getr hx hb hts inlX7 hown hK hP hk_j0 cl_7 0 1 fq_7_0 q_4_13 rfl dX7_keeps_15 ?_
        refine lv_iload_n hx hb dX7_keeps_18 rfl (lv_at hl 1 rfl) ?_
        refine rk_iald hx hb hK hP (ky_7_0 hk_j0) ac_12 _ rfl h.1 dX7_keeps_19 ?_
        replace h := h.2
        refine rk_iast hx hb hK hP hS (ky_7_2 hk_j0) ac_12 _ rfl h.1 dX7_keeps_20 (fun M3 eM3 H locs hP hS => ?_)
        replace h := h.2
        replace h := h M3 eM3
        obtain ⟨x1_4, ex1_4⟩ : ∃ y : Int32, y = x1 + (1 : Int32) := ⟨_, rfl⟩
        replace h := h x1_4 ex1_4
        refine lv_iinc (v := x1_4) (lv' := [(1, .int x1_4), (0, .ref (G.2.1 + j0))]) hx hb dX7_keeps_21 hl (k := 1) rfl (by rw [ex1_4]; rfl) (by decide) rfl (fun ls hl => ?_)
        refine lv_goto (tgt := 2) hx hb dX7_keeps_24 (by decide) ?_
        exact hA2 _ _ _ _ _ _ hP hS (lv_sub hl [1, 0] rfl) hk_j0 h
  unfold wX7_keeps at h
  refine lv_iconst (v := (0 : Int32)) hx hb dX7_keeps_0 k_iconst_0 ?_
  refine lv_istore_n (lv' := [(1, .int (0 : Int32)), (0, .ref (G.2.1 + j0a))]) hx hb dX7_keeps_1 rfl hl (by decide) rfl (fun ls hl => ?_)
  obtain ⟨n1, h⟩ := h
  exact B2 _ _ _ _ _ _ _ hP hS (lv_sub hl [1, 0] rfl) hk_j0a h
set_option maxHeartbeats 4000000 in
set_option maxRecDepth 100000 in
theorem mX7_acted (l : Launch) (G : Gp) (j0a : Nat) (x1a : Int32) (M : Mm) (Post : Mm → Int32 → Prop) (hk_j0a : kd j0a = 7) (h : wX7_acted Post M j0a x1a) : CtI l yX7_acted wsX7_acted rX7_acted G [.ref (G.2.1 + j0a), .int x1a] M Post := by
  refine Met.ofW (cc := cX7_acted) (maxL := 3) (ret := (some .int)) (by decide) rfl ?_
  intro p e s m args below meth c s₁ B hml hv
  obtain ⟨rfl, hK, hP⟩ := hv
  have hx := B.exec
  have hb := B.bytes
  have hr := B.returns
  have hlocks := B.notSynchronized
  have hts0 := atoms_spec (ws := wsX7_acted) B.pre
  have hts : ∀ w ∈ wsL_law, w.before _ s = true := fun w hw => hts0 w (List.mem_cons_of_mem _ hw)
  have hown : s.vm.findClass RX7 = some m.cls := findClass_of_methodNamed B.named
  have hS : va_S (Fr G) s.heap s.heap [] := va_S.rf
  have hl := lv_entry ([.ref (G.2.1 + j0a), .int x1a]) (n := 3) (Nat.le_of_ble_eq_true rfl)
  rw [lg_entry_eq]
  generalize (lg_sl ([.ref (G.2.1 + j0a), .int x1a]) ++ List.replicate (3 - (lg_sl ([.ref (G.2.1 + j0a), .int x1a])).length) Slot.unset).toArray = ls at hl ⊢
  have hl : lv_has ls 3 [(0, .ref (G.2.1 + j0a)), (1, .int x1a)] := hl
  have B57 : ∀ n : Nat, ∀ (M : Mm) (j0 : Nat) (x1 : Int32) (x2 : Int32) (H : Heap) (locs : List Loc) (ls : Array Slot), Rp G M H → va_S (Fr G) s.heap H locs → lv_has ls 3 [(0, .ref (G.2.1 + j0)), (1, .int x1), (2, .int x2)] → kd j0 = 7 → lX7_acted_57 Post n M j0 x1 x2 → Wi p l e (headSpec wsX7_acted rX7_acted).room s m [.ref (G.2.1 + j0a), .int x1a].toArray below meth c G Post H locs (F0 m 57 ls []) := by
    intro n
    induction n with
    | zero => intro M j0 x1 x2 H locs ls hP hS hl hk_j0 h; exact h.elim
    | succ n ih =>
      intro M j0 x1 x2 H locs ls hP hS hl hk_j0 h
      have hA57 := ih
      replace h : bX7_acted_57 Post (lX7_acted_57 Post n) M j0 x1 x2 := h
      unfold bX7_acted_57 at h
      refine lv_iload_n hx hb dX7_acted_57 rfl (lv_at hl 2 rfl) ?_
      refine lv_sipush (v := (168 : Int32)) hx hb dX7_acted_58 k_sipush_168 ?_
      refine lv_icmp_ge (tgt := 91) hx hb dX7_acted_61 (by decide) (fun c10 => ?_) (fun c10 => ?_)
      · replace h := h.1 c10
        refine lv_aload_n hx hb dX7_acted_91 rfl (lv_at hl 0 rfl) ?_
        refine lv_dup hx hb dX7_acted_92 rfl ?_
        refine rk_geti hx hb hts inlX7 hown hK hP hk_j0 cl_7 4 fq_7_4 q_8_6 rfl dX7_acted_93 ?_
        refine lv_iconst (v := (1 : Int32)) hx hb dX7_acted_96 k_iconst_1 ?_
        refine lv_iadd hx hb dX7_acted_97 ?_
        refine rk_puti hx hb hts inlX7 tyX7 tyX7_ok nmX7 hown hK hP hS hk_j0 cl_7 4 fq_7_4 q_8_6 rfl rfl rfl dX7_acted_98 (fun M11 eM11 H locs hP hS => ?_)
        replace h := h M11 eM11
        refine lv_iload_n hx hb dX7_acted_101 rfl (lv_at hl 1 rfl) ?_
        exact re_i hx hb hr hlocks hP hS h dX7_acted_102
      · replace h := h.2 c10
        refine lv_aload_n hx hb dX7_acted_64 rfl (lv_at hl 0 rfl) ?_
        refine rk_getr hx hb hts inlX7 hown hK hP hk_j0 cl_7 1 2 fq_7_1 q_4_14 rfl dX7_acted_65 ?_
        refine lv_sipush (v := (168 : Int32)) hx hb dX7_acted_68 k_sipush_168 ?_
        refine lv_aload_n hx hb dX7_acted_71 rfl (lv_at hl 0 rfl) ?_
        refine rk_geti hx hb hts inlX7 hown hK hP hk_j0 cl_7 4 fq_7_4 q_8_6 rfl dX7_acted_72 ?_
        refine lv_imul hx hb dX7_acted_75 ?_
        refine lv_iload_n hx hb dX7_acted_76 rfl (lv_at hl 2 rfl) ?_
        refine lv_iadd hx hb dX7_acted_77 ?_
        refine lv_aload_n hx hb dX7_acted_78 rfl (lv_at hl 0 rfl) ?_
        refine rk_getr hx hb hts inlX7 hown hK hP hk_j0 cl_7 2 3 fq_7_2 q_4_15 rfl dX7_acted_79 ?_
        refine lv_iload_n hx hb dX7_acted_82 rfl (lv_at hl 2 rfl) ?_
        refine rk_iald hx hb hK hP (ky_7_2 hk_j0) ac_12 _ rfl h.1 dX7_acted_83 ?_
        replace h := h.2
        refine rk_iast hx hb hK hP hS (ky_7_1 hk_j0) ac_13 _ rfl h.1 dX7_acted_84 (fun M12 eM12 H locs hP hS => ?_)
        replace h := h.2
        replace h := h M12 eM12
        obtain ⟨x2_13, ex2_13⟩ : ∃ y : Int32, y = x2 + (1 : Int32) := ⟨_, rfl⟩
        replace h := h x2_13 ex2_13
        refine lv_iinc (v := x2_13) (lv' := [(2, .int x2_13), (0, .ref (G.2.1 + j0)), (1, .int x1)]) hx hb dX7_acted_85 hl (k := 2) rfl (by rw [ex2_13]; rfl) (by decide) rfl (fun ls hl => ?_)
        refine lv_goto (tgt := 57) hx hb dX7_acted_88 (by decide) ?_
        exact hA57 _ _ _ _ _ _ _ hP hS (lv_sub hl [1, 2, 0] rfl) hk_j0 h
  have B16 : ∀ n : Nat, ∀ (M : Mm) (j0 : Nat) (x1 : Int32) (x2 : Int32) (H : Heap) (locs : List Loc) (ls : Array Slot), Rp G M H → va_S (Fr G) s.heap H locs → lv_has ls 3 [(0, .ref (G.2.1 + j0)), (1, .int x1), (2, .int x2)] → kd j0 = 7 → lX7_acted_16 Post n M j0 x1 x2 → Wi p l e (headSpec wsX7_acted rX7_acted).room s m [.ref (G.2.1 + j0a), .int x1a].toArray below meth c G Post H locs (F0 m 16 ls []) := by
    intro n
    induction n with
    | zero => intro M j0 x1 x2 H locs ls hP hS hl hk_j0 h; exact h.elim
    | succ n ih =>
      intro M j0 x1 x2 H locs ls hP hS hl hk_j0 h
      have hA16 := ih
      replace h : bX7_acted_16 Post (lX7_acted_16 Post n) M j0 x1 x2 := h
      unfold bX7_acted_16 at h
      refine lv_iload_n hx hb dX7_acted_16 rfl (lv_at hl 2 rfl) ?_
      refine lv_sipush (v := (504 : Int32)) hx hb dX7_acted_17 k_sipush_504 ?_
      refine lv_icmp_ge (tgt := 45) hx hb dX7_acted_20 (by decide) (fun c5 => ?_) (fun c5 => ?_)
      · replace h := h.1 c5
        refine lv_aload_n hx hb dX7_acted_45 rfl (lv_at hl 0 rfl) ?_
        refine lv_dup hx hb dX7_acted_46 rfl ?_
        refine rk_geti hx hb hts inlX7 hown hK hP hk_j0 cl_7 4 fq_7_4 q_8_6 rfl dX7_acted_47 ?_
        refine lv_iconst (v := (1 : Int32)) hx hb dX7_acted_50 k_iconst_1 ?_
        refine lv_isub hx hb dX7_acted_51 ?_
        refine rk_puti hx hb hts inlX7 tyX7 tyX7_ok nmX7 hown hK hP hS hk_j0 cl_7 4 fq_7_4 q_8_6 rfl rfl rfl dX7_acted_52 (fun M6 eM6 H locs hP hS => ?_)
        replace h := h M6 eM6
        refine lv_iconst (v := (0 : Int32)) hx hb dX7_acted_55 k_iconst_0 ?_
        refine lv_istore_n (lv' := [(2, .int (0 : Int32)), (0, .ref (G.2.1 + j0)), (1, .int x1)]) hx hb dX7_acted_56 rfl hl (by decide) rfl (fun ls hl => ?_)
        obtain ⟨n7, h⟩ := h
        exact B57 _ _ _ _ _ _ _ _ hP hS (lv_sub hl [1, 2, 0] rfl) hk_j0 h
      · replace h := h.2 c5
        refine lv_aload_n hx hb dX7_acted_23 rfl (lv_at hl 0 rfl) ?_
        refine rk_getr hx hb hts inlX7 hown hK hP hk_j0 cl_7 1 2 fq_7_1 q_4_14 rfl dX7_acted_24 ?_
        refine lv_iload_n hx hb dX7_acted_27 rfl (lv_at hl 2 rfl) ?_
        refine lv_aload_n hx hb dX7_acted_28 rfl (lv_at hl 0 rfl) ?_
        refine rk_getr hx hb hts inlX7 hown hK hP hk_j0 cl_7 1 2 fq_7_1 q_4_14 rfl dX7_acted_29 ?_
        refine lv_iload_n hx hb dX7_acted_32 rfl (lv_at hl 2 rfl) ?_
        refine lv_sipush (v := (168 : Int32)) hx hb dX7_acted_33 k_sipush_168 ?_
        refine lv_iadd hx hb dX7_acted_36 ?_
        refine rk_iald hx hb hK hP (ky_7_1 hk_j0) ac_13 _ rfl h.1 dX7_acted_37 ?_
        replace h := h.2
        refine rk_iast hx hb hK hP hS (ky_7_1 hk_j0) ac_13 _ rfl h.1 dX7_acted_38 (fun M8 eM8 H locs hP hS => ?_)
        replace h := h.2
        replace h := h M8 eM8
        obtain ⟨x2_9, ex2_9⟩ : ∃ y : Int32, y = x2 + (1 : Int32) := ⟨_, rfl⟩
        replace h := h x2_9 ex2_9
        refine lv_iinc (v := x2_9) (lv' := [(2, .int x2_9), (0, .ref (G.2.1 + j0)), (1, .int x1)]) hx hb dX7_acted_39 hl (k := 2) rfl (by rw [ex2_9]; rfl) (by decide) rfl (fun ls hl => ?_)
        refine lv_goto (tgt := 16) hx hb dX7_acted_42 (by decide) ?_
        exact hA16 _ _ _ _ _ _ _ hP hS (lv_sub hl [1, 2, 0] rfl) hk_j0 h
  unfold wX7_acted at h
  refine lv_iload_n hx hb dX7_acted_0 rfl (lv_at hl 1 rfl) ?_
  refine lv_ldc hx hb hown (hts _ q_7_13) dX7_acted_1 ?_
  refine lv_icmp_le (tgt := 101) hx hb dX7_acted_3 (by decide) (fun c1 => ?_) (fun c1 => ?_)
  · replace h := h.1 c1
    refine lv_iload_n hx hb dX7_acted_101 rfl (lv_at hl 1 rfl) ?_
    exact re_i hx hb hr hlocks hP hS h dX7_acted_102
  · replace h := h.2 c1
    refine lv_aload_n hx hb dX7_acted_6 rfl (lv_at hl 0 rfl) ?_
    refine rk_geti hx hb hts inlX7 hown hK hP hk_j0a cl_7 4 fq_7_4 q_8_6 rfl dX7_acted_7 ?_
    refine lv_iconst (v := (4 : Int32)) hx hb dX7_acted_10 k_iconst_4 ?_
    refine lv_icmp_ne (tgt := 55) hx hb dX7_acted_11 (by decide) (fun c2 => ?_) (fun c2 => ?_)
    · replace h := h.1 c2
      refine lv_iconst (v := (0 : Int32)) hx hb dX7_acted_55 k_iconst_0 ?_
      refine lv_istore_n (lv' := [(2, .int (0 : Int32)), (0, .ref (G.2.1 + j0a)), (1, .int x1a)]) hx hb dX7_acted_56 rfl hl (by decide) rfl (fun ls hl => ?_)
      obtain ⟨n3, h⟩ := h
      exact B57 _ _ _ _ _ _ _ _ hP hS (lv_sub hl [1, 2, 0] rfl) hk_j0a h
    · replace h := h.2 c2
      refine lv_iconst (v := (0 : Int32)) hx hb dX7_acted_14 k_iconst_0 ?_
      refine lv_istore_n (lv' := [(2, .int (0 : Int32)), (0, .ref (G.2.1 + j0a)), (1, .int x1a)]) hx hb dX7_acted_15 rfl hl (by decide) rfl (fun ls hl => ?_)
      obtain ⟨n4, h⟩ := h
      exact B16 _ _ _ _ _ _ _ _ hP hS (lv_sub hl [1, 2, 0] rfl) hk_j0a h
set_option maxHeartbeats 4000000 in
set_option maxRecDepth 100000 in
theorem mX7_puts (l : Launch) (G : Gp) (j0a : Nat) (M : Mm) (Post : Mm → Prop) (hk_j0a : kd j0a = 7) (h : wX7_puts Post M j0a) : CtV l yX7_puts wsX7_puts rX7_puts G [.ref (G.2.1 + j0a)] M Post := by
  refine Met.ofW (cc := cX7_puts) (maxL := 2) (ret := none) (by decide) rfl ?_
  intro p e s m args below meth c s₁ B hml hv
  obtain ⟨rfl, hK, hP⟩ := hv
  have hx := B.exec
  have hb := B.bytes
  have hr := B.returns
  have hlocks := B.notSynchronized
  have hts0 := atoms_spec (ws := wsX7_puts) B.pre
  have hts : ∀ w ∈ wsL_law, w.before _ s = true := fun w hw => hts0 w (List.mem_cons_of_mem _ hw)
  have hown : s.vm.findClass RX7 = some m.cls := findClass_of_methodNamed B.named
  have hS : va_S (Fr G) s.heap s.heap [] := va_S.rf
  have hl := lv_entry ([.ref (G.2.1 + j0a)]) (n := 2) (Nat.le_of_ble_eq_true rfl)
  rw [lg_entry_eq]
  generalize (lg_sl ([.ref (G.2.1 + j0a)]) ++ List.replicate (2 - (lg_sl ([.ref (G.2.1 + j0a)])).length) Slot.unset).toArray = ls at hl ⊢
  have hl : lv_has ls 2 [(0, .ref (G.2.1 + j0a))] := hl
  have B2 : ∀ n : Nat, ∀ (M : Mm) (j0 : Nat) (x1 : Int32) (H : Heap) (locs : List Loc) (ls : Array Slot), Rp G M H → va_S (Fr G) s.heap H locs → lv_has ls 2 [(0, .ref (G.2.1 + j0)), (1, .int x1)] → kd j0 = 7 → lX7_puts_2 Post n M j0 x1 → Wv p l e (headSpec wsX7_puts rX7_puts).room s m [.ref (G.2.1 + j0a)].toArray below meth c G Post H locs (F0 m 2 ls []) := by
    intro n
    induction n with
    | zero => intro M j0 x1 H locs ls hP hS hl hk_j0 h; exact h.elim
    | succ n ih =>
      intro M j0 x1 H locs ls hP hS hl hk_j0 h
      have hA2 := ih
      replace h : bX7_puts_2 Post (lX7_puts_2 Post n) M j0 x1 := h
      unfold bX7_puts_2 at h
      refine lv_iload_n hx hb dX7_puts_2 rfl (lv_at hl 1 rfl) ?_
      refine lv_sipush (v := (168 : Int32)) hx hb dX7_puts_3 k_sipush_168 ?_
      refine lv_icmp_ge (tgt := 27) hx hb dX7_puts_6 (by decide) (fun c2 => ?_) (fun c2 => ?_)
      · replace h := h.1 c2
        exact re_v hx hb hr hlocks hP hS h dX7_puts_27
      · replace h := h.2 c2
        refine lv_aload_n hx hb dX7_puts_9 rfl (lv_at hl 0 rfl) ?_
        refine rk_getr hx hb hts inlX7 hown hK hP hk_j0 cl_7 3 4 fq_7_3 q_4_16 rfl dX7_puts_10 ?_
        refine lv_iload_n hx hb dX7_puts_13 rfl (lv_at hl 1 rfl) ?_
        refine lv_aload_n hx hb dX7_puts_14 rfl (lv_at hl 0 rfl) ?_
        refine rk_getr hx hb hts inlX7 hown hK hP hk_j0 cl_7 0 1 fq_7_0 q_4_13 rfl dX7_puts_15 ?_
        refine lv_iload_n hx hb dX7_puts_18 rfl (lv_at hl 1 rfl) ?_
        refine rk_iald hx hb hK hP (ky_7_0 hk_j0) ac_12 _ rfl h.1 dX7_puts_19 ?_
        replace h := h.2
        refine rk_iast hx hb hK hP hS (ky_7_3 hk_j0) ac_12 _ rfl h.1 dX7_puts_20 (fun M3 eM3 H locs hP hS => ?_)
        replace h := h.2
        replace h := h M3 eM3
        obtain ⟨x1_4, ex1_4⟩ : ∃ y : Int32, y = x1 + (1 : Int32) := ⟨_, rfl⟩
        replace h := h x1_4 ex1_4
        refine lv_iinc (v := x1_4) (lv' := [(1, .int x1_4), (0, .ref (G.2.1 + j0))]) hx hb dX7_puts_21 hl (k := 1) rfl (by rw [ex1_4]; rfl) (by decide) rfl (fun ls hl => ?_)
        refine lv_goto (tgt := 2) hx hb dX7_puts_24 (by decide) ?_
        exact hA2 _ _ _ _ _ _ hP hS (lv_sub hl [1, 0] rfl) hk_j0 h
  unfold wX7_puts at h
  refine lv_iconst (v := (0 : Int32)) hx hb dX7_puts_0 k_iconst_0 ?_
  refine lv_istore_n (lv' := [(1, .int (0 : Int32)), (0, .ref (G.2.1 + j0a))]) hx hb dX7_puts_1 rfl hl (by decide) rfl (fun ls hl => ?_)
  obtain ⟨n1, h⟩ := h
  exact B2 _ _ _ _ _ _ _ hP hS (lv_sub hl [1, 0] rfl) hk_j0a h
set_option maxHeartbeats 4000000 in
set_option maxRecDepth 100000 in
theorem mX7_restores (l : Launch) (G : Gp) (j0a : Nat) (M : Mm) (Post : Mm → Prop) (hk_j0a : kd j0a = 7) (h : wX7_restores Post M j0a) : CtV l yX7_restores wsX7_restores rX7_restores G [.ref (G.2.1 + j0a)] M Post := by
  refine Met.ofW (cc := cX7_restores) (maxL := 2) (ret := none) (by decide) rfl ?_
  intro p e s m args below meth c s₁ B hml hv
  obtain ⟨rfl, hK, hP⟩ := hv
  have hx := B.exec
  have hb := B.bytes
  have hr := B.returns
  have hlocks := B.notSynchronized
  have hts0 := atoms_spec (ws := wsX7_restores) B.pre
  have hts : ∀ w ∈ wsL_law, w.before _ s = true := fun w hw => hts0 w (List.mem_cons_of_mem _ hw)
  have hown : s.vm.findClass RX7 = some m.cls := findClass_of_methodNamed B.named
  have hS : va_S (Fr G) s.heap s.heap [] := va_S.rf
  have hl := lv_entry ([.ref (G.2.1 + j0a)]) (n := 2) (Nat.le_of_ble_eq_true rfl)
  rw [lg_entry_eq]
  generalize (lg_sl ([.ref (G.2.1 + j0a)]) ++ List.replicate (2 - (lg_sl ([.ref (G.2.1 + j0a)])).length) Slot.unset).toArray = ls at hl ⊢
  have hl : lv_has ls 2 [(0, .ref (G.2.1 + j0a))] := hl
  have B2 : ∀ n : Nat, ∀ (M : Mm) (j0 : Nat) (x1 : Int32) (H : Heap) (locs : List Loc) (ls : Array Slot), Rp G M H → va_S (Fr G) s.heap H locs → lv_has ls 2 [(0, .ref (G.2.1 + j0)), (1, .int x1)] → kd j0 = 7 → lX7_restores_2 Post n M j0 x1 → Wv p l e (headSpec wsX7_restores rX7_restores).room s m [.ref (G.2.1 + j0a)].toArray below meth c G Post H locs (F0 m 2 ls []) := by
    intro n
    induction n with
    | zero => intro M j0 x1 H locs ls hP hS hl hk_j0 h; exact h.elim
    | succ n ih =>
      intro M j0 x1 H locs ls hP hS hl hk_j0 h
      have hA2 := ih
      replace h : bX7_restores_2 Post (lX7_restores_2 Post n) M j0 x1 := h
      unfold bX7_restores_2 at h
      refine lv_iload_n hx hb dX7_restores_2 rfl (lv_at hl 1 rfl) ?_
      refine lv_sipush (v := (168 : Int32)) hx hb dX7_restores_3 k_sipush_168 ?_
      refine lv_icmp_ge (tgt := 27) hx hb dX7_restores_6 (by decide) (fun c2 => ?_) (fun c2 => ?_)
      · replace h := h.1 c2
        exact re_v hx hb hr hlocks hP hS h dX7_restores_27
      · replace h := h.2 c2
        refine lv_aload_n hx hb dX7_restores_9 rfl (lv_at hl 0 rfl) ?_
        refine rk_getr hx hb hts inlX7 hown hK hP hk_j0 cl_7 0 1 fq_7_0 q_4_13 rfl dX7_restores_10 ?_
        refine lv_iload_n hx hb dX7_restores_13 rfl (lv_at hl 1 rfl) ?_
        refine lv_aload_n hx hb dX7_restores_14 rfl (lv_at hl 0 rfl) ?_
        refine rk_getr hx hb hts inlX7 hown hK hP hk_j0 cl_7 3 4 fq_7_3 q_4_16 rfl dX7_restores_15 ?_
        refine lv_iload_n hx hb dX7_restores_18 rfl (lv_at hl 1 rfl) ?_
        refine rk_iald hx hb hK hP (ky_7_3 hk_j0) ac_12 _ rfl h.1 dX7_restores_19 ?_
        replace h := h.2
        refine rk_iast hx hb hK hP hS (ky_7_0 hk_j0) ac_12 _ rfl h.1 dX7_restores_20 (fun M3 eM3 H locs hP hS => ?_)
        replace h := h.2
        replace h := h M3 eM3
        obtain ⟨x1_4, ex1_4⟩ : ∃ y : Int32, y = x1 + (1 : Int32) := ⟨_, rfl⟩
        replace h := h x1_4 ex1_4
        refine lv_iinc (v := x1_4) (lv' := [(1, .int x1_4), (0, .ref (G.2.1 + j0))]) hx hb dX7_restores_21 hl (k := 1) rfl (by rw [ex1_4]; rfl) (by decide) rfl (fun ls hl => ?_)
        refine lv_goto (tgt := 2) hx hb dX7_restores_24 (by decide) ?_
        exact hA2 _ _ _ _ _ _ hP hS (lv_sub hl [1, 0] rfl) hk_j0 h
  unfold wX7_restores at h
  refine lv_iconst (v := (0 : Int32)) hx hb dX7_restores_0 k_iconst_0 ?_
  refine lv_istore_n (lv' := [(1, .int (0 : Int32)), (0, .ref (G.2.1 + j0a))]) hx hb dX7_restores_1 rfl hl (by decide) rfl (fun ls hl => ?_)
  obtain ⟨n1, h⟩ := h
  exact B2 _ _ _ _ _ _ _ hP hS (lv_sub hl [1, 0] rfl) hk_j0a h
set_option maxHeartbeats 4000000 in
set_option maxRecDepth 100000 in
theorem mX7_canal (l : Launch) (G : Gp) (j0a : Nat) (x1a : Int32) (x2a : Int32) (x3a : Int32) (x4a : Int32) (M : Mm) (Post : Mm → Int32 → Prop) (hk_j0a : kd j0a = 7) (h : wX7_canal Post M j0a x1a x2a x3a x4a) : CtI l yX7_canal wsX7_canal rX7_canal G [.ref (G.2.1 + j0a), .int x1a, .int x2a, .int x3a, .int x4a] M Post := by
  refine Met.ofW (cc := cX7_canal) (maxL := 7) (ret := (some .int)) (by decide) rfl ?_
  intro p e s m args below meth c s₁ B hml hv
  obtain ⟨rfl, hK, hP⟩ := hv
  have hx := B.exec
  have hb := B.bytes
  have hr := B.returns
  have hlocks := B.notSynchronized
  have hts0 := atoms_spec (ws := wsX7_canal) B.pre
  have hts : ∀ w ∈ wsL_law, w.before _ s = true := fun w hw => hts0 w (List.mem_cons_of_mem _ hw)
  have hown : s.vm.findClass RX7 = some m.cls := findClass_of_methodNamed B.named
  have hS : va_S (Fr G) s.heap s.heap [] := va_S.rf
  have hl := lv_entry ([.ref (G.2.1 + j0a), .int x1a, .int x2a, .int x3a, .int x4a]) (n := 7) (Nat.le_of_ble_eq_true rfl)
  rw [lg_entry_eq]
  generalize (lg_sl ([.ref (G.2.1 + j0a), .int x1a, .int x2a, .int x3a, .int x4a]) ++ List.replicate (7 - (lg_sl ([.ref (G.2.1 + j0a), .int x1a, .int x2a, .int x3a, .int x4a])).length) Slot.unset).toArray = ls at hl ⊢
  have hl : lv_has ls 7 [(0, .ref (G.2.1 + j0a)), (1, .int x1a), (2, .int x2a), (3, .int x3a), (4, .int x4a)] := hl
  have B78 : ∀ n : Nat, ∀ (M : Mm) (j0 : Nat) (x1 : Int32) (x2 : Int32) (x3 : Int32) (x4 : Int32) (x5 : Int32) (x6 : Int32) (H : Heap) (locs : List Loc) (ls : Array Slot), Rp G M H → va_S (Fr G) s.heap H locs → lv_has ls 7 [(0, .ref (G.2.1 + j0)), (1, .int x1), (2, .int x2), (3, .int x3), (4, .int x4), (5, .int x5), (6, .int x6)] → kd j0 = 7 → lX7_canal_78 Post n M j0 x1 x2 x3 x4 x5 x6 → Wi p l e (headSpec wsX7_canal rX7_canal).room s m [.ref (G.2.1 + j0a), .int x1a, .int x2a, .int x3a, .int x4a].toArray below meth c G Post H locs (F0 m 78 ls []) := by
    intro n
    induction n with
    | zero => intro M j0 x1 x2 x3 x4 x5 x6 H locs ls hP hS hl hk_j0 h; exact h.elim
    | succ n ih =>
      intro M j0 x1 x2 x3 x4 x5 x6 H locs ls hP hS hl hk_j0 h
      have hA78 := ih
      replace h : bX7_canal_78 Post (lX7_canal_78 Post n) M j0 x1 x2 x3 x4 x5 x6 := h
      unfold bX7_canal_78 at h
      refine lv_iload hx hb dX7_canal_78 (lv_at hl 6 rfl) ?_
      refine lv_bipush (v := (9 : Int32)) hx hb dX7_canal_80 k_bipush_9 ?_
      refine lv_icmp_ge (tgt := 102) hx hb dX7_canal_82 (by decide) (fun c18 => ?_) (fun c18 => ?_)
      · replace h := h.1 c18
        refine lv_aload_n hx hb dX7_canal_102 rfl (lv_at hl 0 rfl) ?_
        refine rk_getr hx hb hts inlX7 hown hK hP hk_j0 cl_7 0 1 fq_7_0 q_4_13 rfl dX7_canal_103 ?_
        refine lv_iload hx hb dX7_canal_106 (lv_at hl 5 rfl) ?_
        refine lv_iload_n hx hb dX7_canal_108 rfl (lv_at hl 1 rfl) ?_
        refine rk_iast hx hb hK hP hS (ky_7_0 hk_j0) ac_12 _ rfl h.1 dX7_canal_109 (fun M19 eM19 H locs hP hS => ?_)
        replace h := h.2
        replace h := h M19 eM19
        refine lv_aload_n hx hb dX7_canal_110 rfl (lv_at hl 0 rfl) ?_
        refine rk_getr hx hb hts inlX7 hown hK hP hk_j0 cl_7 0 1 fq_7_0 q_4_13 rfl dX7_canal_111 ?_
        refine lv_iload hx hb dX7_canal_114 (lv_at hl 5 rfl) ?_
        refine lv_iconst (v := (1 : Int32)) hx hb dX7_canal_116 k_iconst_1 ?_
        refine lv_iadd hx hb dX7_canal_117 ?_
        refine lv_iload_n hx hb dX7_canal_118 rfl (lv_at hl 2 rfl) ?_
        refine rk_iast hx hb hK hP hS (ky_7_0 hk_j0) ac_12 _ rfl h.1 dX7_canal_119 (fun M20 eM20 H locs hP hS => ?_)
        replace h := h.2
        replace h := h M20 eM20
        refine lv_aload_n hx hb dX7_canal_120 rfl (lv_at hl 0 rfl) ?_
        refine rk_getr hx hb hts inlX7 hown hK hP hk_j0 cl_7 0 1 fq_7_0 q_4_13 rfl dX7_canal_121 ?_
        refine lv_iload hx hb dX7_canal_124 (lv_at hl 5 rfl) ?_
        refine lv_iconst (v := (2 : Int32)) hx hb dX7_canal_126 k_iconst_2 ?_
        refine lv_iadd hx hb dX7_canal_127 ?_
        refine lv_iload_n hx hb dX7_canal_128 rfl (lv_at hl 3 rfl) ?_
        refine rk_iast hx hb hK hP hS (ky_7_0 hk_j0) ac_12 _ rfl h.1 dX7_canal_129 (fun M21 eM21 H locs hP hS => ?_)
        replace h := h.2
        replace h := h M21 eM21
        refine lv_aload_n hx hb dX7_canal_130 rfl (lv_at hl 0 rfl) ?_
        refine rk_getr hx hb hts inlX7 hown hK hP hk_j0 cl_7 0 1 fq_7_0 q_4_13 rfl dX7_canal_131 ?_
        refine lv_iload hx hb dX7_canal_134 (lv_at hl 5 rfl) ?_
        refine lv_iconst (v := (3 : Int32)) hx hb dX7_canal_136 k_iconst_3 ?_
        refine lv_iadd hx hb dX7_canal_137 ?_
        refine lv_iload hx hb dX7_canal_138 (lv_at hl 4 rfl) ?_
        refine rk_iast hx hb hK hP hS (ky_7_0 hk_j0) ac_12 _ rfl h.1 dX7_canal_140 (fun M22 eM22 H locs hP hS => ?_)
        replace h := h.2
        replace h := h M22 eM22
        refine lv_aload_n hx hb dX7_canal_141 rfl (lv_at hl 0 rfl) ?_
        refine rk_getr hx hb hts inlX7 hown hK hP hk_j0 cl_7 0 1 fq_7_0 q_4_13 rfl dX7_canal_142 ?_
        refine lv_iload hx hb dX7_canal_145 (lv_at hl 5 rfl) ?_
        refine lv_iconst (v := (5 : Int32)) hx hb dX7_canal_147 k_iconst_5 ?_
        refine lv_iadd hx hb dX7_canal_148 ?_
        refine lv_iconst (v := (-1 : Int32)) hx hb dX7_canal_149 k_iconst_m1 ?_
        refine rk_iast hx hb hK hP hS (ky_7_0 hk_j0) ac_12 _ rfl h.1 dX7_canal_150 (fun M23 eM23 H locs hP hS => ?_)
        replace h := h.2
        replace h := h M23 eM23
        refine lv_aload_n hx hb dX7_canal_151 rfl (lv_at hl 0 rfl) ?_
        refine rk_getr hx hb hts inlX7 hown hK hP hk_j0 cl_7 0 1 fq_7_0 q_4_13 rfl dX7_canal_152 ?_
        refine lv_iconst (v := (0 : Int32)) hx hb dX7_canal_155 k_iconst_0 ?_
        refine lv_dup2_11 hx hb dX7_canal_156 rfl rfl ?_
        refine rk_iald hx hb hK hP (ky_7_0 hk_j0) ac_12 0 ix_0 vi_0_168 dX7_canal_157 ?_
        refine lv_iconst (v := (1 : Int32)) hx hb dX7_canal_158 k_iconst_1 ?_
        refine lv_iadd hx hb dX7_canal_159 ?_
        refine rk_iast hx hb hK hP hS (ky_7_0 hk_j0) ac_12 0 ix_0 vi_0_168 dX7_canal_160 (fun M24 eM24 H locs hP hS => ?_)
        replace h := h M24 eM24
        refine lv_aload_n hx hb dX7_canal_161 rfl (lv_at hl 0 rfl) ?_
        refine lv_aload_n hx hb dX7_canal_162 rfl (lv_at hl 0 rfl) ?_
        refine rk_getr hx hb hts inlX7 hown hK hP hk_j0 cl_7 0 1 fq_7_0 q_4_13 rfl dX7_canal_163 ?_
        refine lv_iconst (v := (0 : Int32)) hx hb dX7_canal_166 k_iconst_0 ?_
        refine rk_iald hx hb hK hP (ky_7_0 hk_j0) ac_12 0 ix_0 vi_0_168 dX7_canal_167 ?_
        refine lv_iconst (v := (1 : Int32)) hx hb dX7_canal_168 k_iconst_1 ?_
        refine lv_isub hx hb dX7_canal_169 ?_
        refine rc_Vi (As := [.int ((M24 (j0 + 1) 0) - (1 : Int32))]) (rest := []) ⟨hx, hb, hml, hown, hts⟩ (mX7_acted l G j0 ((M24 (j0 + 1) 0) - (1 : Int32)) M24 _ hk_j0 h) (cwV 1 hts (gV_X7_acted q_8_2) rfl rfl rfl hdV_X7_acted ⟨Nat.le_of_ble_eq_true rfl, Nat.le_of_ble_eq_true rfl⟩) hK hP hS hk_j0 (by decide) cl_7 rfl hl.1 rfl (Nat.le_of_ble_eq_true rfl) dX7_canal_170 ⟨Nat.zero_le _, Nat.zero_le _⟩ (fun r26 M25 H locs h hP hS => ?_)
        exact re_i hx hb hr hlocks hP hS h dX7_canal_173
      · replace h := h.2 c18
        refine lv_aload_n hx hb dX7_canal_85 rfl (lv_at hl 0 rfl) ?_
        refine rk_getr hx hb hts inlX7 hown hK hP hk_j0 cl_7 0 1 fq_7_0 q_4_13 rfl dX7_canal_86 ?_
        refine lv_iload hx hb dX7_canal_89 (lv_at hl 5 rfl) ?_
        refine lv_iload hx hb dX7_canal_91 (lv_at hl 6 rfl) ?_
        refine lv_iadd hx hb dX7_canal_93 ?_
        refine lv_iconst (v := (0 : Int32)) hx hb dX7_canal_94 k_iconst_0 ?_
        refine rk_iast hx hb hK hP hS (ky_7_0 hk_j0) ac_12 _ rfl h.1 dX7_canal_95 (fun M27 eM27 H locs hP hS => ?_)
        replace h := h.2
        replace h := h M27 eM27
        obtain ⟨x6_28, ex6_28⟩ : ∃ y : Int32, y = x6 + (1 : Int32) := ⟨_, rfl⟩
        replace h := h x6_28 ex6_28
        refine lv_iinc (v := x6_28) (lv' := [(6, .int x6_28), (0, .ref (G.2.1 + j0)), (1, .int x1), (2, .int x2), (3, .int x3), (4, .int x4), (5, .int x5)]) hx hb dX7_canal_96 hl (k := 6) rfl (by rw [ex6_28]; rfl) (by decide) rfl (fun ls hl => ?_)
        refine lv_goto (tgt := 78) hx hb dX7_canal_99 (by decide) ?_
        exact hA78 _ _ _ _ _ _ _ _ _ _ _ hP hS (lv_sub hl [1, 2, 3, 4, 5, 6, 0] rfl) hk_j0 h
  unfold wX7_canal at h
  refine lv_aload_n hx hb dX7_canal_0 rfl (lv_at hl 0 rfl) ?_
  refine lv_iload_n hx hb dX7_canal_1 rfl (lv_at hl 1 rfl) ?_
  refine rc_Vi (As := [.int x1a]) (rest := []) ⟨hx, hb, hml, hown, hts⟩ (mX7_isCanal l G j0a x1a M _ hk_j0a h) (cwV 1 hts (gV_X7_isCanal q_7_15) rfl rfl rfl hdV_X7_isCanal ⟨Nat.le_of_ble_eq_true rfl, Nat.le_of_ble_eq_true rfl⟩) hK hP hS hk_j0a (by decide) cl_7 rfl hl.1 rfl (Nat.le_of_ble_eq_true rfl) dX7_canal_2 ⟨Nat.zero_le _, Nat.zero_le _⟩ (fun r2 M1 H locs h hP hS => ?_)
  refine lv_if_eq (tgt := 40) hx hb dX7_canal_5 (by decide) (fun c3 => ?_) (fun c3 => ?_)
  · replace h := h.1 c3
    refine lv_ldc hx hb hown (hts _ q_7_13) dX7_canal_40 ?_
    exact re_i hx hb hr hlocks hP hS h dX7_canal_42
  · replace h := h.2 c3
    refine lv_iload_n hx hb dX7_canal_8 rfl (lv_at hl 2 rfl) ?_
    refine lv_iconst (v := (0 : Int32)) hx hb dX7_canal_9 k_iconst_0 ?_
    refine lv_iconst (v := (2 : Int32)) hx hb dX7_canal_10 k_iconst_2 ?_
    refine rc_Si (As := [.int x2a, .int (0 : Int32), .int (2 : Int32)]) (rest := []) ⟨hx, hb, hml, hown, hts⟩ (mX7_in l G x2a (0 : Int32) (2 : Int32) M1 _ h) (va_cwS 3 hts (gS_X7_in q_7_19) rfl rfl rfl hdS_X7_in ⟨Nat.le_of_ble_eq_true rfl, Nat.le_of_ble_eq_true rfl⟩) hK hP hS rfl hl.1 rfl (Nat.le_of_ble_eq_true rfl) dX7_canal_11 ⟨Nat.zero_le _, Nat.zero_le _⟩ (fun r5 M4 H locs h hP hS => ?_)
    refine lv_if_eq (tgt := 40) hx hb dX7_canal_14 (by decide) (fun c6 => ?_) (fun c6 => ?_)
    · replace h := h.1 c6
      refine lv_ldc hx hb hown (hts _ q_7_13) dX7_canal_40 ?_
      exact re_i hx hb hr hlocks hP hS h dX7_canal_42
    · replace h := h.2 c6
      refine lv_iload_n hx hb dX7_canal_17 rfl (lv_at hl 3 rfl) ?_
      refine lv_iconst (v := (1 : Int32)) hx hb dX7_canal_18 k_iconst_1 ?_
      refine lv_sipush (v := (500 : Int32)) hx hb dX7_canal_19 k_sipush_500 ?_
      refine rc_Si (As := [.int x3a, .int (1 : Int32), .int (500 : Int32)]) (rest := []) ⟨hx, hb, hml, hown, hts⟩ (mX7_in l G x3a (1 : Int32) (500 : Int32) M4 _ h) (va_cwS 3 hts (gS_X7_in q_7_19) rfl rfl rfl hdS_X7_in ⟨Nat.le_of_ble_eq_true rfl, Nat.le_of_ble_eq_true rfl⟩) hK hP hS rfl hl.1 rfl (Nat.le_of_ble_eq_true rfl) dX7_canal_22 ⟨Nat.zero_le _, Nat.zero_le _⟩ (fun r8 M7 H locs h hP hS => ?_)
      refine lv_if_eq (tgt := 40) hx hb dX7_canal_25 (by decide) (fun c9 => ?_) (fun c9 => ?_)
      · replace h := h.1 c9
        refine lv_ldc hx hb hown (hts _ q_7_13) dX7_canal_40 ?_
        exact re_i hx hb hr hlocks hP hS h dX7_canal_42
      · replace h := h.2 c9
        refine lv_iload hx hb dX7_canal_28 (lv_at hl 4 rfl) ?_
        refine lv_iconst (v := (0 : Int32)) hx hb dX7_canal_30 k_iconst_0 ?_
        refine lv_sipush (v := (500 : Int32)) hx hb dX7_canal_31 k_sipush_500 ?_
        refine rc_Si (As := [.int x4a, .int (0 : Int32), .int (500 : Int32)]) (rest := []) ⟨hx, hb, hml, hown, hts⟩ (mX7_in l G x4a (0 : Int32) (500 : Int32) M7 _ h) (va_cwS 3 hts (gS_X7_in q_7_19) rfl rfl rfl hdS_X7_in ⟨Nat.le_of_ble_eq_true rfl, Nat.le_of_ble_eq_true rfl⟩) hK hP hS rfl hl.1 rfl (Nat.le_of_ble_eq_true rfl) dX7_canal_34 ⟨Nat.zero_le _, Nat.zero_le _⟩ (fun r11 M10 H locs h hP hS => ?_)
        refine lv_if_ne (tgt := 43) hx hb dX7_canal_37 (by decide) (fun c12 => ?_) (fun c12 => ?_)
        · replace h := h.1 c12
          refine lv_aload_n hx hb dX7_canal_43 rfl (lv_at hl 0 rfl) ?_
          refine rk_getr hx hb hts inlX7 hown hK hP hk_j0a cl_7 0 1 fq_7_0 q_4_13 rfl dX7_canal_44 ?_
          refine lv_iconst (v := (0 : Int32)) hx hb dX7_canal_47 k_iconst_0 ?_
          refine rk_iald hx hb hK hP (ky_7_0 hk_j0a) ac_12 0 ix_0 vi_0_168 dX7_canal_48 ?_
          refine lv_bipush (v := (8 : Int32)) hx hb dX7_canal_49 k_bipush_8 ?_
          refine lv_icmp_ne (tgt := 57) hx hb dX7_canal_51 (by decide) (fun c13 => ?_) (fun c13 => ?_)
          · replace h := h.1 c13
            refine lv_aload_n hx hb dX7_canal_57 rfl (lv_at hl 0 rfl) ?_
            refine rc_Vv (As := []) (rest := []) ⟨hx, hb, hml, hown, hts⟩ (mX7_keeps l G j0a M10 _ hk_j0a h) (cwV 0 hts (gV_X7_keeps q_7_22) rfl rfl rfl hdV_X7_keeps ⟨Nat.le_of_ble_eq_true rfl, Nat.le_of_ble_eq_true rfl⟩) hK hP hS hk_j0a (by decide) cl_7 rfl hl.1 rfl (Nat.le_of_ble_eq_true rfl) dX7_canal_58 ⟨Nat.zero_le _, Nat.zero_le _⟩ (fun M14 H locs h hP hS => ?_)
            refine lv_bipush (v := (10 : Int32)) hx hb dX7_canal_61 k_bipush_10 ?_
            refine lv_bipush (v := (9 : Int32)) hx hb dX7_canal_63 k_bipush_9 ?_
            refine lv_aload_n hx hb dX7_canal_65 rfl (lv_at hl 0 rfl) ?_
            refine rk_getr hx hb hts inlX7 hown hK hP hk_j0a cl_7 0 1 fq_7_0 q_4_13 rfl dX7_canal_66 ?_
            refine lv_iconst (v := (0 : Int32)) hx hb dX7_canal_69 k_iconst_0 ?_
            refine rk_iald hx hb hK hP (ky_7_0 hk_j0a) ac_12 0 ix_0 vi_0_168 dX7_canal_70 ?_
            refine lv_imul hx hb dX7_canal_71 ?_
            refine lv_iadd hx hb dX7_canal_72 ?_
            refine lv_topi (fun x5_16 ex5_16 => ?_)
            replace h := h x5_16 ex5_16
            refine lv_istore (lv' := [(5, .int x5_16), (0, .ref (G.2.1 + j0a)), (1, .int x1a), (2, .int x2a), (3, .int x3a), (4, .int x4a)]) hx hb dX7_canal_73 hl (by decide) rfl (fun ls hl => ?_)
            refine lv_iconst (v := (0 : Int32)) hx hb dX7_canal_75 k_iconst_0 ?_
            refine lv_istore (lv' := [(6, .int (0 : Int32)), (5, .int x5_16), (0, .ref (G.2.1 + j0a)), (1, .int x1a), (2, .int x2a), (3, .int x3a), (4, .int x4a)]) hx hb dX7_canal_76 hl (by decide) rfl (fun ls hl => ?_)
            obtain ⟨n17, h⟩ := h
            exact B78 _ _ _ _ _ _ _ _ _ _ _ _ hP hS (lv_sub hl [2, 3, 4, 5, 6, 1, 0] rfl) hk_j0a h
          · replace h := h.2 c13
            refine lv_ldc hx hb hown (hts _ q_7_14) dX7_canal_54 ?_
            exact re_i hx hb hr hlocks hP hS h dX7_canal_56
        · replace h := h.2 c12
          refine lv_ldc hx hb hown (hts _ q_7_13) dX7_canal_40 ?_
          exact re_i hx hb hr hlocks hP hS h dX7_canal_42
set_option maxHeartbeats 4000000 in
set_option maxRecDepth 100000 in
theorem mX7_field (l : Launch) (G : Gp) (j0a : Nat) (x1a : Int32) (x2a : Int32) (x3a : Int32) (x4a : Int32) (M : Mm) (Post : Mm → Int32 → Prop) (hk_j0a : kd j0a = 7) (h : wX7_field Post M j0a x1a x2a x3a x4a) : CtI l yX7_field wsX7_field rX7_field G [.ref (G.2.1 + j0a), .int x1a, .int x2a, .int x3a, .int x4a] M Post := by
  refine Met.ofW (cc := cX7_field) (maxL := 7) (ret := (some .int)) (by decide) rfl ?_
  intro p e s m args below meth c s₁ B hml hv
  obtain ⟨rfl, hK, hP⟩ := hv
  have hx := B.exec
  have hb := B.bytes
  have hr := B.returns
  have hlocks := B.notSynchronized
  have hts0 := atoms_spec (ws := wsX7_field) B.pre
  have hts : ∀ w ∈ wsL_law, w.before _ s = true := fun w hw => hts0 w (List.mem_cons_of_mem _ hw)
  have hown : s.vm.findClass RX7 = some m.cls := findClass_of_methodNamed B.named
  have hS : va_S (Fr G) s.heap s.heap [] := va_S.rf
  have hl := lv_entry ([.ref (G.2.1 + j0a), .int x1a, .int x2a, .int x3a, .int x4a]) (n := 7) (Nat.le_of_ble_eq_true rfl)
  rw [lg_entry_eq]
  generalize (lg_sl ([.ref (G.2.1 + j0a), .int x1a, .int x2a, .int x3a, .int x4a]) ++ List.replicate (7 - (lg_sl ([.ref (G.2.1 + j0a), .int x1a, .int x2a, .int x3a, .int x4a])).length) Slot.unset).toArray = ls at hl ⊢
  have hl : lv_has ls 7 [(0, .ref (G.2.1 + j0a)), (1, .int x1a), (2, .int x2a), (3, .int x3a), (4, .int x4a)] := hl
  have B79 : ∀ n : Nat, ∀ (M : Mm) (j0 : Nat) (x1 : Int32) (x2 : Int32) (x3 : Int32) (x4 : Int32) (x5 : Int32) (x6 : Int32) (H : Heap) (locs : List Loc) (ls : Array Slot), Rp G M H → va_S (Fr G) s.heap H locs → lv_has ls 7 [(0, .ref (G.2.1 + j0)), (1, .int x1), (2, .int x2), (3, .int x3), (4, .int x4), (5, .int x5), (6, .int x6)] → kd j0 = 7 → lX7_field_79 Post n M j0 x1 x2 x3 x4 x5 x6 → Wi p l e (headSpec wsX7_field rX7_field).room s m [.ref (G.2.1 + j0a), .int x1a, .int x2a, .int x3a, .int x4a].toArray below meth c G Post H locs (F0 m 79 ls []) := by
    intro n
    induction n with
    | zero => intro M j0 x1 x2 x3 x4 x5 x6 H locs ls hP hS hl hk_j0 h; exact h.elim
    | succ n ih =>
      intro M j0 x1 x2 x3 x4 x5 x6 H locs ls hP hS hl hk_j0 h
      have hA79 := ih
      replace h : bX7_field_79 Post (lX7_field_79 Post n) M j0 x1 x2 x3 x4 x5 x6 := h
      unfold bX7_field_79 at h
      refine lv_iload hx hb dX7_field_79 (lv_at hl 6 rfl) ?_
      refine lv_bipush (v := (7 : Int32)) hx hb dX7_field_81 k_bipush_7 ?_
      refine lv_icmp_ge (tgt := 103) hx hb dX7_field_83 (by decide) (fun c18 => ?_) (fun c18 => ?_)
      · replace h := h.1 c18
        refine lv_aload_n hx hb dX7_field_103 rfl (lv_at hl 0 rfl) ?_
        refine rk_getr hx hb hts inlX7 hown hK hP hk_j0 cl_7 0 1 fq_7_0 q_4_13 rfl dX7_field_104 ?_
        refine lv_iload hx hb dX7_field_107 (lv_at hl 5 rfl) ?_
        refine lv_iload_n hx hb dX7_field_109 rfl (lv_at hl 1 rfl) ?_
        refine rk_iast hx hb hK hP hS (ky_7_0 hk_j0) ac_12 _ rfl h.1 dX7_field_110 (fun M19 eM19 H locs hP hS => ?_)
        replace h := h.2
        replace h := h M19 eM19
        refine lv_aload_n hx hb dX7_field_111 rfl (lv_at hl 0 rfl) ?_
        refine rk_getr hx hb hts inlX7 hown hK hP hk_j0 cl_7 0 1 fq_7_0 q_4_13 rfl dX7_field_112 ?_
        refine lv_iload hx hb dX7_field_115 (lv_at hl 5 rfl) ?_
        refine lv_iconst (v := (1 : Int32)) hx hb dX7_field_117 k_iconst_1 ?_
        refine lv_iadd hx hb dX7_field_118 ?_
        refine lv_iload_n hx hb dX7_field_119 rfl (lv_at hl 2 rfl) ?_
        refine rk_iast hx hb hK hP hS (ky_7_0 hk_j0) ac_12 _ rfl h.1 dX7_field_120 (fun M20 eM20 H locs hP hS => ?_)
        replace h := h.2
        replace h := h M20 eM20
        refine lv_aload_n hx hb dX7_field_121 rfl (lv_at hl 0 rfl) ?_
        refine rk_getr hx hb hts inlX7 hown hK hP hk_j0 cl_7 0 1 fq_7_0 q_4_13 rfl dX7_field_122 ?_
        refine lv_iload hx hb dX7_field_125 (lv_at hl 5 rfl) ?_
        refine lv_iconst (v := (2 : Int32)) hx hb dX7_field_127 k_iconst_2 ?_
        refine lv_iadd hx hb dX7_field_128 ?_
        refine lv_iload_n hx hb dX7_field_129 rfl (lv_at hl 3 rfl) ?_
        refine rk_iast hx hb hK hP hS (ky_7_0 hk_j0) ac_12 _ rfl h.1 dX7_field_130 (fun M21 eM21 H locs hP hS => ?_)
        replace h := h.2
        replace h := h M21 eM21
        refine lv_aload_n hx hb dX7_field_131 rfl (lv_at hl 0 rfl) ?_
        refine rk_getr hx hb hts inlX7 hown hK hP hk_j0 cl_7 0 1 fq_7_0 q_4_13 rfl dX7_field_132 ?_
        refine lv_iload hx hb dX7_field_135 (lv_at hl 5 rfl) ?_
        refine lv_iconst (v := (3 : Int32)) hx hb dX7_field_137 k_iconst_3 ?_
        refine lv_iadd hx hb dX7_field_138 ?_
        refine lv_iload hx hb dX7_field_139 (lv_at hl 4 rfl) ?_
        refine rk_iast hx hb hK hP hS (ky_7_0 hk_j0) ac_12 _ rfl h.1 dX7_field_141 (fun M22 eM22 H locs hP hS => ?_)
        replace h := h.2
        replace h := h M22 eM22
        refine lv_aload_n hx hb dX7_field_142 rfl (lv_at hl 0 rfl) ?_
        refine rk_getr hx hb hts inlX7 hown hK hP hk_j0 cl_7 0 1 fq_7_0 q_4_13 rfl dX7_field_143 ?_
        refine lv_iconst (v := (1 : Int32)) hx hb dX7_field_146 k_iconst_1 ?_
        refine lv_dup2_11 hx hb dX7_field_147 rfl rfl ?_
        refine rk_iald hx hb hK hP (ky_7_0 hk_j0) ac_12 1 ix_1 vi_1_168 dX7_field_148 ?_
        refine lv_iconst (v := (1 : Int32)) hx hb dX7_field_149 k_iconst_1 ?_
        refine lv_iadd hx hb dX7_field_150 ?_
        refine rk_iast hx hb hK hP hS (ky_7_0 hk_j0) ac_12 1 ix_1 vi_1_168 dX7_field_151 (fun M23 eM23 H locs hP hS => ?_)
        replace h := h M23 eM23
        refine lv_aload_n hx hb dX7_field_152 rfl (lv_at hl 0 rfl) ?_
        refine lv_aload_n hx hb dX7_field_153 rfl (lv_at hl 0 rfl) ?_
        refine rk_getr hx hb hts inlX7 hown hK hP hk_j0 cl_7 0 1 fq_7_0 q_4_13 rfl dX7_field_154 ?_
        refine lv_iconst (v := (1 : Int32)) hx hb dX7_field_157 k_iconst_1 ?_
        refine rk_iald hx hb hK hP (ky_7_0 hk_j0) ac_12 1 ix_1 vi_1_168 dX7_field_158 ?_
        refine lv_iconst (v := (1 : Int32)) hx hb dX7_field_159 k_iconst_1 ?_
        refine lv_isub hx hb dX7_field_160 ?_
        refine rc_Vi (As := [.int ((M23 (j0 + 1) 1) - (1 : Int32))]) (rest := []) ⟨hx, hb, hml, hown, hts⟩ (mX7_acted l G j0 ((M23 (j0 + 1) 1) - (1 : Int32)) M23 _ hk_j0 h) (cwV 1 hts (gV_X7_acted q_8_2) rfl rfl rfl hdV_X7_acted ⟨Nat.le_of_ble_eq_true rfl, Nat.le_of_ble_eq_true rfl⟩) hK hP hS hk_j0 (by decide) cl_7 rfl hl.1 rfl (Nat.le_of_ble_eq_true rfl) dX7_field_161 ⟨Nat.zero_le _, Nat.zero_le _⟩ (fun r25 M24 H locs h hP hS => ?_)
        exact re_i hx hb hr hlocks hP hS h dX7_field_164
      · replace h := h.2 c18
        refine lv_aload_n hx hb dX7_field_86 rfl (lv_at hl 0 rfl) ?_
        refine rk_getr hx hb hts inlX7 hown hK hP hk_j0 cl_7 0 1 fq_7_0 q_4_13 rfl dX7_field_87 ?_
        refine lv_iload hx hb dX7_field_90 (lv_at hl 5 rfl) ?_
        refine lv_iload hx hb dX7_field_92 (lv_at hl 6 rfl) ?_
        refine lv_iadd hx hb dX7_field_94 ?_
        refine lv_iconst (v := (0 : Int32)) hx hb dX7_field_95 k_iconst_0 ?_
        refine rk_iast hx hb hK hP hS (ky_7_0 hk_j0) ac_12 _ rfl h.1 dX7_field_96 (fun M26 eM26 H locs hP hS => ?_)
        replace h := h.2
        replace h := h M26 eM26
        obtain ⟨x6_27, ex6_27⟩ : ∃ y : Int32, y = x6 + (1 : Int32) := ⟨_, rfl⟩
        replace h := h x6_27 ex6_27
        refine lv_iinc (v := x6_27) (lv' := [(6, .int x6_27), (0, .ref (G.2.1 + j0)), (1, .int x1), (2, .int x2), (3, .int x3), (4, .int x4), (5, .int x5)]) hx hb dX7_field_97 hl (k := 6) rfl (by rw [ex6_27]; rfl) (by decide) rfl (fun ls hl => ?_)
        refine lv_goto (tgt := 79) hx hb dX7_field_100 (by decide) ?_
        exact hA79 _ _ _ _ _ _ _ _ _ _ _ hP hS (lv_sub hl [1, 2, 3, 4, 5, 6, 0] rfl) hk_j0 h
  unfold wX7_field at h
  refine lv_aload_n hx hb dX7_field_0 rfl (lv_at hl 0 rfl) ?_
  refine lv_iload_n hx hb dX7_field_1 rfl (lv_at hl 1 rfl) ?_
  refine rc_Vi (As := [.int x1a]) (rest := []) ⟨hx, hb, hml, hown, hts⟩ (mX7_isCanal l G j0a x1a M _ hk_j0a h) (cwV 1 hts (gV_X7_isCanal q_7_15) rfl rfl rfl hdV_X7_isCanal ⟨Nat.le_of_ble_eq_true rfl, Nat.le_of_ble_eq_true rfl⟩) hK hP hS hk_j0a (by decide) cl_7 rfl hl.1 rfl (Nat.le_of_ble_eq_true rfl) dX7_field_2 ⟨Nat.zero_le _, Nat.zero_le _⟩ (fun r2 M1 H locs h hP hS => ?_)
  refine lv_if_eq (tgt := 41) hx hb dX7_field_5 (by decide) (fun c3 => ?_) (fun c3 => ?_)
  · replace h := h.1 c3
    refine lv_ldc hx hb hown (hts _ q_7_13) dX7_field_41 ?_
    exact re_i hx hb hr hlocks hP hS h dX7_field_43
  · replace h := h.2 c3
    refine lv_iload_n hx hb dX7_field_8 rfl (lv_at hl 2 rfl) ?_
    refine lv_iconst (v := (1 : Int32)) hx hb dX7_field_9 k_iconst_1 ?_
    refine lv_sipush (v := (999 : Int32)) hx hb dX7_field_10 k_sipush_999 ?_
    refine rc_Si (As := [.int x2a, .int (1 : Int32), .int (999 : Int32)]) (rest := []) ⟨hx, hb, hml, hown, hts⟩ (mX7_in l G x2a (1 : Int32) (999 : Int32) M1 _ h) (va_cwS 3 hts (gS_X7_in q_7_19) rfl rfl rfl hdS_X7_in ⟨Nat.le_of_ble_eq_true rfl, Nat.le_of_ble_eq_true rfl⟩) hK hP hS rfl hl.1 rfl (Nat.le_of_ble_eq_true rfl) dX7_field_13 ⟨Nat.zero_le _, Nat.zero_le _⟩ (fun r5 M4 H locs h hP hS => ?_)
    refine lv_if_eq (tgt := 41) hx hb dX7_field_16 (by decide) (fun c6 => ?_) (fun c6 => ?_)
    · replace h := h.1 c6
      refine lv_ldc hx hb hown (hts _ q_7_13) dX7_field_41 ?_
      exact re_i hx hb hr hlocks hP hS h dX7_field_43
    · replace h := h.2 c6
      refine lv_iload_n hx hb dX7_field_19 rfl (lv_at hl 3 rfl) ?_
      refine lv_iconst (v := (1 : Int32)) hx hb dX7_field_20 k_iconst_1 ?_
      refine lv_sipush (v := (200 : Int32)) hx hb dX7_field_21 k_sipush_200 ?_
      refine rc_Si (As := [.int x3a, .int (1 : Int32), .int (200 : Int32)]) (rest := []) ⟨hx, hb, hml, hown, hts⟩ (mX7_in l G x3a (1 : Int32) (200 : Int32) M4 _ h) (va_cwS 3 hts (gS_X7_in q_7_19) rfl rfl rfl hdS_X7_in ⟨Nat.le_of_ble_eq_true rfl, Nat.le_of_ble_eq_true rfl⟩) hK hP hS rfl hl.1 rfl (Nat.le_of_ble_eq_true rfl) dX7_field_24 ⟨Nat.zero_le _, Nat.zero_le _⟩ (fun r8 M7 H locs h hP hS => ?_)
      refine lv_if_eq (tgt := 41) hx hb dX7_field_27 (by decide) (fun c9 => ?_) (fun c9 => ?_)
      · replace h := h.1 c9
        refine lv_ldc hx hb hown (hts _ q_7_13) dX7_field_41 ?_
        exact re_i hx hb hr hlocks hP hS h dX7_field_43
      · replace h := h.2 c9
        refine lv_iload hx hb dX7_field_30 (lv_at hl 4 rfl) ?_
        refine lv_iconst (v := (0 : Int32)) hx hb dX7_field_32 k_iconst_0 ?_
        refine lv_bipush (v := (99 : Int32)) hx hb dX7_field_33 k_bipush_99 ?_
        refine rc_Si (As := [.int x4a, .int (0 : Int32), .int (99 : Int32)]) (rest := []) ⟨hx, hb, hml, hown, hts⟩ (mX7_in l G x4a (0 : Int32) (99 : Int32) M7 _ h) (va_cwS 3 hts (gS_X7_in q_7_19) rfl rfl rfl hdS_X7_in ⟨Nat.le_of_ble_eq_true rfl, Nat.le_of_ble_eq_true rfl⟩) hK hP hS rfl hl.1 rfl (Nat.le_of_ble_eq_true rfl) dX7_field_35 ⟨Nat.zero_le _, Nat.zero_le _⟩ (fun r11 M10 H locs h hP hS => ?_)
        refine lv_if_ne (tgt := 44) hx hb dX7_field_38 (by decide) (fun c12 => ?_) (fun c12 => ?_)
        · replace h := h.1 c12
          refine lv_aload_n hx hb dX7_field_44 rfl (lv_at hl 0 rfl) ?_
          refine rk_getr hx hb hts inlX7 hown hK hP hk_j0a cl_7 0 1 fq_7_0 q_4_13 rfl dX7_field_45 ?_
          refine lv_iconst (v := (1 : Int32)) hx hb dX7_field_48 k_iconst_1 ?_
          refine rk_iald hx hb hK hP (ky_7_0 hk_j0a) ac_12 1 ix_1 vi_1_168 dX7_field_49 ?_
          refine lv_bipush (v := (10 : Int32)) hx hb dX7_field_50 k_bipush_10 ?_
          refine lv_icmp_ne (tgt := 58) hx hb dX7_field_52 (by decide) (fun c13 => ?_) (fun c13 => ?_)
          · replace h := h.1 c13
            refine lv_aload_n hx hb dX7_field_58 rfl (lv_at hl 0 rfl) ?_
            refine rc_Vv (As := []) (rest := []) ⟨hx, hb, hml, hown, hts⟩ (mX7_keeps l G j0a M10 _ hk_j0a h) (cwV 0 hts (gV_X7_keeps q_7_22) rfl rfl rfl hdV_X7_keeps ⟨Nat.le_of_ble_eq_true rfl, Nat.le_of_ble_eq_true rfl⟩) hK hP hS hk_j0a (by decide) cl_7 rfl hl.1 rfl (Nat.le_of_ble_eq_true rfl) dX7_field_59 ⟨Nat.zero_le _, Nat.zero_le _⟩ (fun M14 H locs h hP hS => ?_)
            refine lv_bipush (v := (82 : Int32)) hx hb dX7_field_62 k_bipush_82 ?_
            refine lv_bipush (v := (7 : Int32)) hx hb dX7_field_64 k_bipush_7 ?_
            refine lv_aload_n hx hb dX7_field_66 rfl (lv_at hl 0 rfl) ?_
            refine rk_getr hx hb hts inlX7 hown hK hP hk_j0a cl_7 0 1 fq_7_0 q_4_13 rfl dX7_field_67 ?_
            refine lv_iconst (v := (1 : Int32)) hx hb dX7_field_70 k_iconst_1 ?_
            refine rk_iald hx hb hK hP (ky_7_0 hk_j0a) ac_12 1 ix_1 vi_1_168 dX7_field_71 ?_
            refine lv_imul hx hb dX7_field_72 ?_
            refine lv_iadd hx hb dX7_field_73 ?_
            refine lv_topi (fun x5_16 ex5_16 => ?_)
            replace h := h x5_16 ex5_16
            refine lv_istore (lv' := [(5, .int x5_16), (0, .ref (G.2.1 + j0a)), (1, .int x1a), (2, .int x2a), (3, .int x3a), (4, .int x4a)]) hx hb dX7_field_74 hl (by decide) rfl (fun ls hl => ?_)
            refine lv_iconst (v := (0 : Int32)) hx hb dX7_field_76 k_iconst_0 ?_
            refine lv_istore (lv' := [(6, .int (0 : Int32)), (5, .int x5_16), (0, .ref (G.2.1 + j0a)), (1, .int x1a), (2, .int x2a), (3, .int x3a), (4, .int x4a)]) hx hb dX7_field_77 hl (by decide) rfl (fun ls hl => ?_)
            obtain ⟨n17, h⟩ := h
            exact B79 _ _ _ _ _ _ _ _ _ _ _ _ hP hS (lv_sub hl [2, 3, 4, 5, 6, 1, 0] rfl) hk_j0a h
          · replace h := h.2 c13
            refine lv_ldc hx hb hown (hts _ q_7_14) dX7_field_55 ?_
            exact re_i hx hb hr hlocks hP hS h dX7_field_57
        · replace h := h.2 c12
          refine lv_ldc hx hb hown (hts _ q_7_13) dX7_field_41 ?_
          exact re_i hx hb hr hlocks hP hS h dX7_field_43
