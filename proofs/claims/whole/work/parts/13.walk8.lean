/-! the walks: each method keeps its predicate; printed by gen.py -/
set_option maxHeartbeats 4000000 in
set_option maxRecDepth 100000 in
theorem mX7_hour (l : Launch) (G : Gp) (j0a : Nat) (x1a : Int32) (M : Mm) (Post : Mm → Int32 → Prop) (hk_j0a : kd j0a = 7) (h : wX7_hour Post M j0a x1a) : CtI l yX7_hour wsX7_hour rX7_hour G [.ref (G.2.1 + j0a), .int x1a] M Post := by
  refine Met.ofW (cc := cX7_hour) (maxL := 2) (ret := (some .int)) (by decide) rfl ?_
  intro p e s m args below meth c s₁ B hml hv
  obtain ⟨rfl, hK, hP⟩ := hv
  have hx := B.exec
  have hb := B.bytes
  have hr := B.returns
  have hlocks := B.notSynchronized
  have hts0 := atoms_spec (ws := wsX7_hour) B.pre
  have hts : ∀ w ∈ wsL_law, w.before _ s = true := fun w hw => hts0 w (List.mem_cons_of_mem _ hw)
  have hown : s.vm.findClass RX7 = some m.cls := findClass_of_methodNamed B.named
  have hS : va_S (Fr G) s.heap s.heap [] := va_S.rf
  have hl := lv_entry ([.ref (G.2.1 + j0a), .int x1a]) (n := 2) (Nat.le_of_ble_eq_true rfl)
  rw [lg_entry_eq]
  generalize (lg_sl ([.ref (G.2.1 + j0a), .int x1a]) ++ List.replicate (2 - (lg_sl ([.ref (G.2.1 + j0a), .int x1a])).length) Slot.unset).toArray = ls at hl ⊢
  have hl : lv_has ls 2 [(0, .ref (G.2.1 + j0a)), (1, .int x1a)] := hl
  unfold wX7_hour at h
  refine lv_aload_n hx hb dX7_hour_0 rfl (lv_at hl 0 rfl) ?_
  refine rc_Vv (As := []) (rest := []) ⟨hx, hb, hml, hown, hts⟩ (mX7_keeps l G j0a M _ hk_j0a h) (cwV 0 hts (gV_X7_keeps q_7_22) rfl rfl rfl hdV_X7_keeps ⟨Nat.le_of_ble_eq_true rfl, Nat.le_of_ble_eq_true rfl⟩) hK hP hS hk_j0a (by decide) cl_7 rfl hl.1 rfl (Nat.le_of_ble_eq_true rfl) dX7_hour_1 ⟨Nat.zero_le _, Nat.zero_le _⟩ (fun M1 H locs h hP hS => ?_)
  refine lv_aload_n hx hb dX7_hour_4 rfl (lv_at hl 0 rfl) ?_
  refine lv_aload_n hx hb dX7_hour_5 rfl (lv_at hl 0 rfl) ?_
  refine lv_iload_n hx hb dX7_hour_6 rfl (lv_at hl 1 rfl) ?_
  refine rc_Vi (As := [.int x1a]) (rest := [.ref (G.2.1 + j0a)]) ⟨hx, hb, hml, hown, hts⟩ (mX7_goes l G j0a x1a M1 _ hk_j0a h) (cwV 1 hts (gV_X7_goes q_20_7) rfl rfl rfl hdV_X7_goes ⟨Nat.le_of_ble_eq_true rfl, Nat.le_of_ble_eq_true rfl⟩) hK hP hS hk_j0a (by decide) cl_7 rfl hl.1 rfl (Nat.le_of_ble_eq_true rfl) dX7_hour_7 ⟨Nat.zero_le _, Nat.zero_le _⟩ (fun r4 M3 H locs h hP hS => ?_)
  refine rc_Vi (As := [.int r4]) (rest := []) ⟨hx, hb, hml, hown, hts⟩ (mX7_acted l G j0a r4 M3 _ hk_j0a h) (cwV 1 hts (gV_X7_acted q_8_2) rfl rfl rfl hdV_X7_acted ⟨Nat.le_of_ble_eq_true rfl, Nat.le_of_ble_eq_true rfl⟩) hK hP hS hk_j0a (by decide) cl_7 rfl hl.1 rfl (Nat.le_of_ble_eq_true rfl) dX7_hour_10 ⟨Nat.zero_le _, Nat.zero_le _⟩ (fun r6 M5 H locs h hP hS => ?_)
  exact re_i hx hb hr hlocks hP hS h dX7_hour_13
set_option maxHeartbeats 4000000 in
set_option maxRecDepth 100000 in
theorem mX7_runsOne (l : Launch) (G : Gp) (j0a : Nat) (x1a : Int32) (M : Mm) (Post : Mm → Int32 → Prop) (hk_j0a : kd j0a = 7) (h : wX7_runsOne Post M j0a x1a) : CtI l yX7_runsOne wsX7_runsOne rX7_runsOne G [.ref (G.2.1 + j0a), .int x1a] M Post := by
  refine Met.ofW (cc := cX7_runsOne) (maxL := 3) (ret := (some .int)) (by decide) rfl ?_
  intro p e s m args below meth c s₁ B hml hv
  obtain ⟨rfl, hK, hP⟩ := hv
  have hx := B.exec
  have hb := B.bytes
  have hr := B.returns
  have hlocks := B.notSynchronized
  have hts0 := atoms_spec (ws := wsX7_runsOne) B.pre
  have hts : ∀ w ∈ wsL_law, w.before _ s = true := fun w hw => hts0 w (List.mem_cons_of_mem _ hw)
  have hown : s.vm.findClass RX7 = some m.cls := findClass_of_methodNamed B.named
  have hS : va_S (Fr G) s.heap s.heap [] := va_S.rf
  have hl := lv_entry ([.ref (G.2.1 + j0a), .int x1a]) (n := 3) (Nat.le_of_ble_eq_true rfl)
  rw [lg_entry_eq]
  generalize (lg_sl ([.ref (G.2.1 + j0a), .int x1a]) ++ List.replicate (3 - (lg_sl ([.ref (G.2.1 + j0a), .int x1a])).length) Slot.unset).toArray = ls at hl ⊢
  have hl : lv_has ls 3 [(0, .ref (G.2.1 + j0a)), (1, .int x1a)] := hl
  have B39 : ∀ (M : Mm) (j0 : Nat) (x1 : Int32) (H : Heap) (locs : List Loc) (ls : Array Slot), Rp G M H → va_S (Fr G) s.heap H locs → lv_has ls 3 [(0, .ref (G.2.1 + j0)), (1, .int x1)] → kd j0 = 7 → bX7_runsOne_39 Post M j0 x1 → Wi p l e (headSpec wsX7_runsOne rX7_runsOne).room s m [.ref (G.2.1 + j0a), .int x1a].toArray below meth c G Post H locs (F0 m 39 ls []) := by
    intro M j0 x1 H locs ls hP hS hl hk_j0 h
    unfold bX7_runsOne_39 at h
    refine lv_aload_n hx hb dX7_runsOne_39 rfl (lv_at hl 0 rfl) ?_
    refine lv_iload_n hx hb dX7_runsOne_40 rfl (lv_at hl 1 rfl) ?_
    refine rc_Vi (As := [.int x1]) (rest := []) ⟨hx, hb, hml, hown, hts⟩ (mX7_flows l G j0 x1 M _ hk_j0 h) (cwV 1 hts (gV_X7_flows q_20_11) rfl rfl rfl hdV_X7_flows ⟨Nat.le_of_ble_eq_true rfl, Nat.le_of_ble_eq_true rfl⟩) hK hP hS hk_j0 (by decide) cl_7 rfl hl.1 rfl (Nat.le_of_ble_eq_true rfl) dX7_runsOne_41 ⟨Nat.zero_le _, Nat.zero_le _⟩ (fun r6 M5 H locs h hP hS => ?_)
    refine lv_istore_n (lv' := [(2, .int r6), (0, .ref (G.2.1 + j0)), (1, .int x1)]) hx hb dX7_runsOne_44 rfl hl (by decide) rfl (fun ls hl => ?_)
    refine lv_aload_n hx hb dX7_runsOne_45 rfl (lv_at hl 1 rfl) ?_
    refine rk_getr hx hb hts inlX7 hown hK hP hk_j0 cl_7 0 1 fq_7_0 q_4_13 rfl dX7_runsOne_46 ?_
    refine lv_iconst (v := (2 : Int32)) hx hb dX7_runsOne_49 k_iconst_2 ?_
    refine rk_iald hx hb hK hP (ky_7_0 hk_j0) ac_12 2 ix_2 vi_2_168 dX7_runsOne_50 ?_
    refine lv_if_le (tgt := 120) hx hb dX7_runsOne_51 (by decide) (fun c7 => ?_) (fun c7 => ?_)
    · replace h := h.1 c7
      refine lv_iload_n hx hb dX7_runsOne_120 rfl (lv_at hl 0 rfl) ?_
      exact re_i hx hb hr hlocks hP hS h dX7_runsOne_121
    · replace h := h.2 c7
      refine lv_aload_n hx hb dX7_runsOne_54 rfl (lv_at hl 1 rfl) ?_
      refine rk_getr hx hb hts inlX7 hown hK hP hk_j0 cl_7 0 1 fq_7_0 q_4_13 rfl dX7_runsOne_55 ?_
      refine lv_iconst (v := (4 : Int32)) hx hb dX7_runsOne_58 k_iconst_4 ?_
      refine lv_dup2_11 hx hb dX7_runsOne_59 rfl rfl ?_
      refine rk_iald hx hb hK hP (ky_7_0 hk_j0) ac_12 4 ix_4 vi_4_168 dX7_runsOne_60 ?_
      refine lv_iconst (v := (1 : Int32)) hx hb dX7_runsOne_61 k_iconst_1 ?_
      refine lv_iadd hx hb dX7_runsOne_62 ?_
      refine rk_iast hx hb hK hP hS (ky_7_0 hk_j0) ac_12 4 ix_4 vi_4_168 dX7_runsOne_63 (fun M8 eM8 H locs hP hS => ?_)
      replace h := h M8 eM8
      refine lv_aload_n hx hb dX7_runsOne_64 rfl (lv_at hl 1 rfl) ?_
      refine rk_getr hx hb hts inlX7 hown hK hP hk_j0 cl_7 0 1 fq_7_0 q_4_13 rfl dX7_runsOne_65 ?_
      refine lv_iconst (v := (4 : Int32)) hx hb dX7_runsOne_68 k_iconst_4 ?_
      refine rk_iald hx hb hK hP (ky_7_0 hk_j0) ac_12 4 ix_4 vi_4_168 dX7_runsOne_69 ?_
      refine lv_aload_n hx hb dX7_runsOne_70 rfl (lv_at hl 1 rfl) ?_
      refine rk_getr hx hb hts inlX7 hown hK hP hk_j0 cl_7 0 1 fq_7_0 q_4_13 rfl dX7_runsOne_71 ?_
      refine lv_sipush (v := (152 : Int32)) hx hb dX7_runsOne_74 k_sipush_152 ?_
      refine lv_iconst (v := (2 : Int32)) hx hb dX7_runsOne_77 k_iconst_2 ?_
      refine lv_aload_n hx hb dX7_runsOne_78 rfl (lv_at hl 1 rfl) ?_
      refine rk_getr hx hb hts inlX7 hown hK hP hk_j0 cl_7 0 1 fq_7_0 q_4_13 rfl dX7_runsOne_79 ?_
      refine lv_iconst (v := (3 : Int32)) hx hb dX7_runsOne_82 k_iconst_3 ?_
      refine rk_iald hx hb hK hP (ky_7_0 hk_j0) ac_12 3 ix_3 vi_3_168 dX7_runsOne_83 ?_
      refine lv_imul hx hb dX7_runsOne_84 ?_
      refine lv_iadd hx hb dX7_runsOne_85 ?_
      refine lv_iconst (v := (1 : Int32)) hx hb dX7_runsOne_86 k_iconst_1 ?_
      refine lv_iadd hx hb dX7_runsOne_87 ?_
      refine rk_iald hx hb hK hP (ky_7_0 hk_j0) ac_12 _ rfl h.1 dX7_runsOne_88 ?_
      replace h := h.2
      refine lv_icmp_ne (tgt := 120) hx hb dX7_runsOne_89 (by decide) (fun c9 => ?_) (fun c9 => ?_)
      · replace h := h.1 c9
        refine lv_iload_n hx hb dX7_runsOne_120 rfl (lv_at hl 0 rfl) ?_
        exact re_i hx hb hr hlocks hP hS h dX7_runsOne_121
      · replace h := h.2 c9
        refine lv_aload_n hx hb dX7_runsOne_92 rfl (lv_at hl 1 rfl) ?_
        refine rk_getr hx hb hts inlX7 hown hK hP hk_j0 cl_7 0 1 fq_7_0 q_4_13 rfl dX7_runsOne_93 ?_
        refine lv_iconst (v := (3 : Int32)) hx hb dX7_runsOne_96 k_iconst_3 ?_
        refine lv_aload_n hx hb dX7_runsOne_97 rfl (lv_at hl 1 rfl) ?_
        refine rk_getr hx hb hts inlX7 hown hK hP hk_j0 cl_7 0 1 fq_7_0 q_4_13 rfl dX7_runsOne_98 ?_
        refine lv_iconst (v := (3 : Int32)) hx hb dX7_runsOne_101 k_iconst_3 ?_
        refine rk_iald hx hb hK hP (ky_7_0 hk_j0) ac_12 3 ix_3 vi_3_168 dX7_runsOne_102 ?_
        refine lv_iconst (v := (1 : Int32)) hx hb dX7_runsOne_103 k_iconst_1 ?_
        refine lv_iadd hx hb dX7_runsOne_104 ?_
        refine lv_aload_n hx hb dX7_runsOne_105 rfl (lv_at hl 1 rfl) ?_
        refine rk_getr hx hb hts inlX7 hown hK hP hk_j0 cl_7 0 1 fq_7_0 q_4_13 rfl dX7_runsOne_106 ?_
        refine lv_iconst (v := (2 : Int32)) hx hb dX7_runsOne_109 k_iconst_2 ?_
        refine rk_iald hx hb hK hP (ky_7_0 hk_j0) ac_12 2 ix_2 vi_2_168 dX7_runsOne_110 ?_
        refine lv_irem hx hb dX7_runsOne_111 h.1 ?_
        replace h := h.2
        refine rk_iast hx hb hK hP hS (ky_7_0 hk_j0) ac_12 3 ix_3 vi_3_168 dX7_runsOne_112 (fun M10 eM10 H locs hP hS => ?_)
        replace h := h M10 eM10
        refine lv_aload_n hx hb dX7_runsOne_113 rfl (lv_at hl 1 rfl) ?_
        refine rk_getr hx hb hts inlX7 hown hK hP hk_j0 cl_7 0 1 fq_7_0 q_4_13 rfl dX7_runsOne_114 ?_
        refine lv_iconst (v := (4 : Int32)) hx hb dX7_runsOne_117 k_iconst_4 ?_
        refine lv_iconst (v := (0 : Int32)) hx hb dX7_runsOne_118 k_iconst_0 ?_
        refine rk_iast hx hb hK hP hS (ky_7_0 hk_j0) ac_12 4 ix_4 vi_4_168 dX7_runsOne_119 (fun M11 eM11 H locs hP hS => ?_)
        replace h := h M11 eM11
        refine lv_iload_n hx hb dX7_runsOne_120 rfl (lv_at hl 0 rfl) ?_
        exact re_i hx hb hr hlocks hP hS h dX7_runsOne_121
  unfold wX7_runsOne at h
  refine lv_aload_n hx hb dX7_runsOne_0 rfl (lv_at hl 0 rfl) ?_
  refine rk_getr hx hb hts inlX7 hown hK hP hk_j0a cl_7 0 1 fq_7_0 q_4_13 rfl dX7_runsOne_1 ?_
  refine lv_iconst (v := (2 : Int32)) hx hb dX7_runsOne_4 k_iconst_2 ?_
  refine rk_iald hx hb hK hP (ky_7_0 hk_j0a) ac_12 2 ix_2 vi_2_168 dX7_runsOne_5 ?_
  refine lv_if_le (tgt := 39) hx hb dX7_runsOne_6 (by decide) (fun c1 => ?_) (fun c1 => ?_)
  · replace h := h.1 c1
    exact B39 _ _ _ _ _ _ hP hS (lv_sub hl [0, 1] rfl) hk_j0a h
  · replace h := h.2 c1
    refine lv_aload_n hx hb dX7_runsOne_9 rfl (lv_at hl 0 rfl) ?_
    refine rk_getr hx hb hts inlX7 hown hK hP hk_j0a cl_7 0 1 fq_7_0 q_4_13 rfl dX7_runsOne_10 ?_
    refine lv_iconst (v := (4 : Int32)) hx hb dX7_runsOne_13 k_iconst_4 ?_
    refine rk_iald hx hb hK hP (ky_7_0 hk_j0a) ac_12 4 ix_4 vi_4_168 dX7_runsOne_14 ?_
    refine lv_if_ne (tgt := 39) hx hb dX7_runsOne_15 (by decide) (fun c2 => ?_) (fun c2 => ?_)
    · replace h := h.1 c2
      exact B39 _ _ _ _ _ _ hP hS (lv_sub hl [0, 1] rfl) hk_j0a h
    · replace h := h.2 c2
      refine lv_aload_n hx hb dX7_runsOne_18 rfl (lv_at hl 0 rfl) ?_
      refine lv_aload_n hx hb dX7_runsOne_19 rfl (lv_at hl 0 rfl) ?_
      refine rk_getr hx hb hts inlX7 hown hK hP hk_j0a cl_7 0 1 fq_7_0 q_4_13 rfl dX7_runsOne_20 ?_
      refine lv_sipush (v := (152 : Int32)) hx hb dX7_runsOne_23 k_sipush_152 ?_
      refine lv_iconst (v := (2 : Int32)) hx hb dX7_runsOne_26 k_iconst_2 ?_
      refine lv_aload_n hx hb dX7_runsOne_27 rfl (lv_at hl 0 rfl) ?_
      refine rk_getr hx hb hts inlX7 hown hK hP hk_j0a cl_7 0 1 fq_7_0 q_4_13 rfl dX7_runsOne_28 ?_
      refine lv_iconst (v := (3 : Int32)) hx hb dX7_runsOne_31 k_iconst_3 ?_
      refine rk_iald hx hb hK hP (ky_7_0 hk_j0a) ac_12 3 ix_3 vi_3_168 dX7_runsOne_32 ?_
      refine lv_imul hx hb dX7_runsOne_33 ?_
      refine lv_iadd hx hb dX7_runsOne_34 ?_
      refine rk_iald hx hb hK hP (ky_7_0 hk_j0a) ac_12 _ rfl h.1 dX7_runsOne_35 ?_
      replace h := h.2
      refine rc_Vv (As := [.int (M (j0a + 1) (ix ((152 : Int32) + ((2 : Int32) * (M (j0a + 1) 3)))))]) (rest := []) ⟨hx, hb, hml, hown, hts⟩ (mX7_sets l G j0a (M (j0a + 1) (ix ((152 : Int32) + ((2 : Int32) * (M (j0a + 1) 3))))) M _ hk_j0a h) (cwV 1 hts (gV_X7_sets q_23_1) rfl rfl rfl hdV_X7_sets ⟨Nat.le_of_ble_eq_true rfl, Nat.le_of_ble_eq_true rfl⟩) hK hP hS hk_j0a (by decide) cl_7 rfl hl.1 rfl (Nat.le_of_ble_eq_true rfl) dX7_runsOne_36 ⟨Nat.zero_le _, Nat.zero_le _⟩ (fun M3 H locs h hP hS => ?_)
      exact B39 _ _ _ _ _ _ hP hS (lv_sub hl [0, 1] rfl) hk_j0a h
set_option maxHeartbeats 4000000 in
set_option maxRecDepth 100000 in
theorem mX7_runs (l : Launch) (G : Gp) (j0a : Nat) (x1a : Int32) (x2a : Int32) (x3a : Int32) (M : Mm) (Post : Mm → Int32 → Prop) (hk_j0a : kd j0a = 7) (h : wX7_runs Post M j0a x1a x2a x3a) : CtI l yX7_runs wsX7_runs rX7_runs G [.ref (G.2.1 + j0a), .int x1a, .int x2a, .int x3a] M Post := by
  refine Met.ofW (cc := cX7_runs) (maxL := 6) (ret := (some .int)) (by decide) rfl ?_
  intro p e s m args below meth c s₁ B hml hv
  obtain ⟨rfl, hK, hP⟩ := hv
  have hx := B.exec
  have hb := B.bytes
  have hr := B.returns
  have hlocks := B.notSynchronized
  have hts0 := atoms_spec (ws := wsX7_runs) B.pre
  have hts : ∀ w ∈ wsL_law, w.before _ s = true := fun w hw => hts0 w (List.mem_cons_of_mem _ hw)
  have hown : s.vm.findClass RX7 = some m.cls := findClass_of_methodNamed B.named
  have hS : va_S (Fr G) s.heap s.heap [] := va_S.rf
  have hl := lv_entry ([.ref (G.2.1 + j0a), .int x1a, .int x2a, .int x3a]) (n := 6) (Nat.le_of_ble_eq_true rfl)
  rw [lg_entry_eq]
  generalize (lg_sl ([.ref (G.2.1 + j0a), .int x1a, .int x2a, .int x3a]) ++ List.replicate (6 - (lg_sl ([.ref (G.2.1 + j0a), .int x1a, .int x2a, .int x3a])).length) Slot.unset).toArray = ls at hl ⊢
  have hl : lv_has ls 6 [(0, .ref (G.2.1 + j0a)), (1, .int x1a), (2, .int x2a), (3, .int x3a)] := hl
  have B46 : ∀ n : Nat, ∀ (M : Mm) (j0 : Nat) (x1 : Int32) (x3 : Int32) (x4 : Int32) (x5 : Int32) (H : Heap) (locs : List Loc) (ls : Array Slot), Rp G M H → va_S (Fr G) s.heap H locs → lv_has ls 6 [(0, .ref (G.2.1 + j0)), (1, .int x1), (3, .int x3), (4, .int x4), (5, .int x5)] → kd j0 = 7 → lX7_runs_46 Post n M j0 x1 x3 x4 x5 → Wi p l e (headSpec wsX7_runs rX7_runs).room s m [.ref (G.2.1 + j0a), .int x1a, .int x2a, .int x3a].toArray below meth c G Post H locs (F0 m 46 ls []) := by
    intro n
    induction n with
    | zero => intro M j0 x1 x3 x4 x5 H locs ls hP hS hl hk_j0 h; exact h.elim
    | succ n ih =>
      intro M j0 x1 x3 x4 x5 H locs ls hP hS hl hk_j0 h
      have hA46 := ih
      replace h : bX7_runs_46 Post (lX7_runs_46 Post n) M j0 x1 x3 x4 x5 := h
      unfold bX7_runs_46 at h
      refine lv_iload hx hb dX7_runs_46 (lv_at hl 4 rfl) ?_
      refine lv_iload_n hx hb dX7_runs_48 rfl (lv_at hl 1 rfl) ?_
      refine lv_icmp_ge (tgt := 68) hx hb dX7_runs_49 (by decide) (fun c9 => ?_) (fun c9 => ?_)
      · replace h := h.1 c9
        refine lv_iload hx hb dX7_runs_68 (lv_at hl 3 rfl) ?_
        exact re_i hx hb hr hlocks hP hS h dX7_runs_70
      · replace h := h.2 c9
        refine lv_iload hx hb dX7_runs_52 (lv_at hl 3 rfl) ?_
        refine lv_aload_n hx hb dX7_runs_54 rfl (lv_at hl 0 rfl) ?_
        refine lv_iload_n hx hb dX7_runs_55 rfl (lv_at hl 2 rfl) ?_
        refine rc_Vi (As := [.int x3]) (rest := [.int x4]) ⟨hx, hb, hml, hown, hts⟩ (mX7_runsOne l G j0 x3 M _ hk_j0 h) (cwV 1 hts (gV_X7_runsOne q_22_21) rfl rfl rfl hdV_X7_runsOne ⟨Nat.le_of_ble_eq_true rfl, Nat.le_of_ble_eq_true rfl⟩) hK hP hS hk_j0 (by decide) cl_7 rfl hl.1 rfl (Nat.le_of_ble_eq_true rfl) dX7_runs_56 ⟨Nat.zero_le _, Nat.zero_le _⟩ (fun r11 M10 H locs h hP hS => ?_)
        refine lv_iadd hx hb dX7_runs_59 ?_
        refine lv_topi (fun x4_12 ex4_12 => ?_)
        replace h := h x4_12 ex4_12
        refine lv_istore (lv' := [(4, .int x4_12), (0, .ref (G.2.1 + j0)), (1, .int x1), (3, .int x3), (5, .int x5)]) hx hb dX7_runs_60 hl (by decide) rfl (fun ls hl => ?_)
        obtain ⟨x5_13, ex5_13⟩ : ∃ y : Int32, y = x5 + (1 : Int32) := ⟨_, rfl⟩
        replace h := h x5_13 ex5_13
        refine lv_iinc (v := x5_13) (lv' := [(5, .int x5_13), (4, .int x4_12), (0, .ref (G.2.1 + j0)), (1, .int x1), (3, .int x3)]) hx hb dX7_runs_62 hl (k := 4) rfl (by rw [ex5_13]; rfl) (by decide) rfl (fun ls hl => ?_)
        refine lv_goto (tgt := 46) hx hb dX7_runs_65 (by decide) ?_
        exact hA46 _ _ _ _ _ _ _ _ _ hP hS (lv_sub hl [2, 3, 4, 1, 0] rfl) hk_j0 h
  unfold wX7_runs at h
  refine lv_iload_n hx hb dX7_runs_0 rfl (lv_at hl 1 rfl) ?_
  refine lv_iconst (v := (1 : Int32)) hx hb dX7_runs_1 k_iconst_1 ?_
  refine lv_iload_n hx hb dX7_runs_2 rfl (lv_at hl 2 rfl) ?_
  refine rc_Si (As := [.int x1a, .int (1 : Int32), .int x2a]) (rest := []) ⟨hx, hb, hml, hown, hts⟩ (mX7_in l G x1a (1 : Int32) x2a M _ h) (va_cwS 3 hts (gS_X7_in q_7_19) rfl rfl rfl hdS_X7_in ⟨Nat.le_of_ble_eq_true rfl, Nat.le_of_ble_eq_true rfl⟩) hK hP hS rfl hl.1 rfl (Nat.le_of_ble_eq_true rfl) dX7_runs_3 ⟨Nat.zero_le _, Nat.zero_le _⟩ (fun r2 M1 H locs h hP hS => ?_)
  refine lv_if_eq (tgt := 20) hx hb dX7_runs_6 (by decide) (fun c3 => ?_) (fun c3 => ?_)
  · replace h := h.1 c3
    refine lv_ldc hx hb hown (hts _ q_7_13) dX7_runs_20 ?_
    exact re_i hx hb hr hlocks hP hS h dX7_runs_22
  · replace h := h.2 c3
    refine lv_iload_n hx hb dX7_runs_9 rfl (lv_at hl 3 rfl) ?_
    refine lv_iconst (v := (0 : Int32)) hx hb dX7_runs_10 k_iconst_0 ?_
    refine lv_sipush (v := (999 : Int32)) hx hb dX7_runs_11 k_sipush_999 ?_
    refine rc_Si (As := [.int x3a, .int (0 : Int32), .int (999 : Int32)]) (rest := []) ⟨hx, hb, hml, hown, hts⟩ (mX7_in l G x3a (0 : Int32) (999 : Int32) M1 _ h) (va_cwS 3 hts (gS_X7_in q_7_19) rfl rfl rfl hdS_X7_in ⟨Nat.le_of_ble_eq_true rfl, Nat.le_of_ble_eq_true rfl⟩) hK hP hS rfl hl.1 rfl (Nat.le_of_ble_eq_true rfl) dX7_runs_14 ⟨Nat.zero_le _, Nat.zero_le _⟩ (fun r5 M4 H locs h hP hS => ?_)
    refine lv_if_ne (tgt := 23) hx hb dX7_runs_17 (by decide) (fun c6 => ?_) (fun c6 => ?_)
    · replace h := h.1 c6
      refine lv_aload_n hx hb dX7_runs_23 rfl (lv_at hl 0 rfl) ?_
      refine rk_getr hx hb hts inlX7 hown hK hP hk_j0a cl_7 0 1 fq_7_0 q_4_13 rfl dX7_runs_24 ?_
      refine lv_iconst (v := (5 : Int32)) hx hb dX7_runs_27 k_iconst_5 ?_
      refine rk_iald hx hb hK hP (ky_7_0 hk_j0a) ac_12 5 ix_5 vi_5_168 dX7_runs_28 ?_
      refine lv_iload_n hx hb dX7_runs_29 rfl (lv_at hl 1 rfl) ?_
      refine lv_iadd hx hb dX7_runs_30 ?_
      refine lv_sipush (v := (20000 : Int32)) hx hb dX7_runs_31 k_sipush_20000 ?_
      refine lv_icmp_le (tgt := 40) hx hb dX7_runs_34 (by decide) (fun c7 => ?_) (fun c7 => ?_)
      · replace h := h.1 c7
        refine lv_iconst (v := (0 : Int32)) hx hb dX7_runs_40 k_iconst_0 ?_
        refine lv_istore (lv' := [(4, .int (0 : Int32)), (0, .ref (G.2.1 + j0a)), (1, .int x1a), (2, .int x2a), (3, .int x3a)]) hx hb dX7_runs_41 hl (by decide) rfl (fun ls hl => ?_)
        refine lv_iconst (v := (0 : Int32)) hx hb dX7_runs_43 k_iconst_0 ?_
        refine lv_istore (lv' := [(5, .int (0 : Int32)), (4, .int (0 : Int32)), (0, .ref (G.2.1 + j0a)), (1, .int x1a), (2, .int x2a), (3, .int x3a)]) hx hb dX7_runs_44 hl (by decide) rfl (fun ls hl => ?_)
        obtain ⟨n8, h⟩ := h
        exact B46 _ _ _ _ _ _ _ _ _ _ hP hS (lv_sub hl [2, 3, 5, 1, 0] rfl) hk_j0a h
      · replace h := h.2 c7
        refine lv_ldc hx hb hown (hts _ q_7_14) dX7_runs_37 ?_
        exact re_i hx hb hr hlocks hP hS h dX7_runs_39
    · replace h := h.2 c6
      refine lv_ldc hx hb hown (hts _ q_7_13) dX7_runs_20 ?_
      exact re_i hx hb hr hlocks hP hS h dX7_runs_22
set_option maxHeartbeats 4000000 in
set_option maxRecDepth 100000 in
theorem mX7_run (l : Launch) (G : Gp) (j0a : Nat) (x1a : Int32) (x2a : Int32) (M : Mm) (Post : Mm → Int32 → Prop) (hk_j0a : kd j0a = 7) (h : wX7_run Post M j0a x1a x2a) : CtI l yX7_run wsX7_run rX7_run G [.ref (G.2.1 + j0a), .int x1a, .int x2a] M Post := by
  refine Met.ofW (cc := cX7_run) (maxL := 3) (ret := (some .int)) (by decide) rfl ?_
  intro p e s m args below meth c s₁ B hml hv
  obtain ⟨rfl, hK, hP⟩ := hv
  have hx := B.exec
  have hb := B.bytes
  have hr := B.returns
  have hlocks := B.notSynchronized
  have hts0 := atoms_spec (ws := wsX7_run) B.pre
  have hts : ∀ w ∈ wsL_law, w.before _ s = true := fun w hw => hts0 w (List.mem_cons_of_mem _ hw)
  have hown : s.vm.findClass RX7 = some m.cls := findClass_of_methodNamed B.named
  have hS : va_S (Fr G) s.heap s.heap [] := va_S.rf
  have hl := lv_entry ([.ref (G.2.1 + j0a), .int x1a, .int x2a]) (n := 3) (Nat.le_of_ble_eq_true rfl)
  rw [lg_entry_eq]
  generalize (lg_sl ([.ref (G.2.1 + j0a), .int x1a, .int x2a]) ++ List.replicate (3 - (lg_sl ([.ref (G.2.1 + j0a), .int x1a, .int x2a])).length) Slot.unset).toArray = ls at hl ⊢
  have hl : lv_has ls 3 [(0, .ref (G.2.1 + j0a)), (1, .int x1a), (2, .int x2a)] := hl
  unfold wX7_run at h
  refine lv_aload_n hx hb dX7_run_0 rfl (lv_at hl 0 rfl) ?_
  refine rc_Vv (As := []) (rest := []) ⟨hx, hb, hml, hown, hts⟩ (mX7_keeps l G j0a M _ hk_j0a h) (cwV 0 hts (gV_X7_keeps q_7_22) rfl rfl rfl hdV_X7_keeps ⟨Nat.le_of_ble_eq_true rfl, Nat.le_of_ble_eq_true rfl⟩) hK hP hS hk_j0a (by decide) cl_7 rfl hl.1 rfl (Nat.le_of_ble_eq_true rfl) dX7_run_1 ⟨Nat.zero_le _, Nat.zero_le _⟩ (fun M1 H locs h hP hS => ?_)
  refine lv_aload_n hx hb dX7_run_4 rfl (lv_at hl 0 rfl) ?_
  refine lv_aload_n hx hb dX7_run_5 rfl (lv_at hl 0 rfl) ?_
  refine lv_iload_n hx hb dX7_run_6 rfl (lv_at hl 1 rfl) ?_
  refine lv_bipush (v := (100 : Int32)) hx hb dX7_run_7 k_bipush_100 ?_
  refine lv_iload_n hx hb dX7_run_9 rfl (lv_at hl 2 rfl) ?_
  refine rc_Vi (As := [.int x1a, .int (100 : Int32), .int x2a]) (rest := [.ref (G.2.1 + j0a)]) ⟨hx, hb, hml, hown, hts⟩ (mX7_runs l G j0a x1a (100 : Int32) x2a M1 _ hk_j0a h) (cwV 3 hts (gV_X7_runs q_22_17) rfl rfl rfl hdV_X7_runs ⟨Nat.le_of_ble_eq_true rfl, Nat.le_of_ble_eq_true rfl⟩) hK hP hS hk_j0a (by decide) cl_7 rfl hl.1 rfl (Nat.le_of_ble_eq_true rfl) dX7_run_10 ⟨Nat.zero_le _, Nat.zero_le _⟩ (fun r4 M3 H locs h hP hS => ?_)
  refine rc_Vi (As := [.int r4]) (rest := []) ⟨hx, hb, hml, hown, hts⟩ (mX7_acted l G j0a r4 M3 _ hk_j0a h) (cwV 1 hts (gV_X7_acted q_8_2) rfl rfl rfl hdV_X7_acted ⟨Nat.le_of_ble_eq_true rfl, Nat.le_of_ble_eq_true rfl⟩) hK hP hS hk_j0a (by decide) cl_7 rfl hl.1 rfl (Nat.le_of_ble_eq_true rfl) dX7_run_13 ⟨Nat.zero_le _, Nat.zero_le _⟩ (fun r6 M5 H locs h hP hS => ?_)
  exact re_i hx hb hr hlocks hP hS h dX7_run_16
set_option maxHeartbeats 4000000 in
set_option maxRecDepth 100000 in
theorem mX7_below (l : Launch) (G : Gp) (j0a : Nat) (x1a : Int32) (M : Mm) (Post : Mm → Int32 → Prop) (hk_j0a : kd j0a = 7) (h : wX7_below Post M j0a x1a) : CtI l yX7_below wsX7_below rX7_below G [.ref (G.2.1 + j0a), .int x1a] M Post := by
  refine Met.ofW (cc := cX7_below) (maxL := 4) (ret := (some .int)) (by decide) rfl ?_
  intro p e s m args below meth c s₁ B hml hv
  obtain ⟨rfl, hK, hP⟩ := hv
  have hx := B.exec
  have hb := B.bytes
  have hr := B.returns
  have hlocks := B.notSynchronized
  have hts0 := atoms_spec (ws := wsX7_below) B.pre
  have hts : ∀ w ∈ wsL_law, w.before _ s = true := fun w hw => hts0 w (List.mem_cons_of_mem _ hw)
  have hown : s.vm.findClass RX7 = some m.cls := findClass_of_methodNamed B.named
  have hS : va_S (Fr G) s.heap s.heap [] := va_S.rf
  have hl := lv_entry ([.ref (G.2.1 + j0a), .int x1a]) (n := 4) (Nat.le_of_ble_eq_true rfl)
  rw [lg_entry_eq]
  generalize (lg_sl ([.ref (G.2.1 + j0a), .int x1a]) ++ List.replicate (4 - (lg_sl ([.ref (G.2.1 + j0a), .int x1a])).length) Slot.unset).toArray = ls at hl ⊢
  have hl : lv_has ls 4 [(0, .ref (G.2.1 + j0a)), (1, .int x1a)] := hl
  have B6 : ∀ n : Nat, ∀ (M : Mm) (j0 : Nat) (x1 : Int32) (x2 : Int32) (x3 : Int32) (H : Heap) (locs : List Loc) (ls : Array Slot), Rp G M H → va_S (Fr G) s.heap H locs → lv_has ls 4 [(0, .ref (G.2.1 + j0)), (1, .int x1), (2, .int x2), (3, .int x3)] → kd j0 = 7 → lX7_below_6 Post n M j0 x1 x2 x3 → Wi p l e (headSpec wsX7_below rX7_below).room s m [.ref (G.2.1 + j0a), .int x1a].toArray below meth c G Post H locs (F0 m 6 ls []) := by
    intro n
    induction n with
    | zero => intro M j0 x1 x2 x3 H locs ls hP hS hl hk_j0 h; exact h.elim
    | succ n ih =>
      intro M j0 x1 x2 x3 H locs ls hP hS hl hk_j0 h
      have hA6 := ih
      replace h : bX7_below_6 Post (lX7_below_6 Post n) M j0 x1 x2 x3 := h
      unfold bX7_below_6 at h
      refine lv_iload_n hx hb dX7_below_6 rfl (lv_at hl 3 rfl) ?_
      refine lv_aload_n hx hb dX7_below_7 rfl (lv_at hl 0 rfl) ?_
      refine rk_getr hx hb hts inlX7 hown hK hP hk_j0 cl_7 0 1 fq_7_0 q_4_13 rfl dX7_below_8 ?_
      refine lv_iconst (v := (0 : Int32)) hx hb dX7_below_11 k_iconst_0 ?_
      refine rk_iald hx hb hK hP (ky_7_0 hk_j0) ac_12 0 ix_0 vi_0_168 dX7_below_12 ?_
      refine lv_icmp_ge (tgt := 42) hx hb dX7_below_13 (by decide) (fun c3 => ?_) (fun c3 => ?_)
      · replace h := h.1 c3
        refine lv_iload_n hx hb dX7_below_42 rfl (lv_at hl 2 rfl) ?_
        exact re_i hx hb hr hlocks hP hS h dX7_below_43
      · replace h := h.2 c3
        refine lv_iload_n hx hb dX7_below_16 rfl (lv_at hl 2 rfl) ?_
        refine lv_aload_n hx hb dX7_below_17 rfl (lv_at hl 0 rfl) ?_
        refine lv_iload_n hx hb dX7_below_18 rfl (lv_at hl 3 rfl) ?_
        refine lv_iload_n hx hb dX7_below_19 rfl (lv_at hl 1 rfl) ?_
        refine lv_iconst (v := (0 : Int32)) hx hb dX7_below_20 k_iconst_0 ?_
        refine rc_Vi (As := [.int x3, .int x1, .int (0 : Int32)]) (rest := [.int x2]) ⟨hx, hb, hml, hown, hts⟩ (mX7_isBelow l G j0 x3 x1 (0 : Int32) M _ hk_j0 h) (cwV 3 hts (gV_X7_isBelow q_20_23) rfl rfl rfl hdV_X7_isBelow ⟨Nat.le_of_ble_eq_true rfl, Nat.le_of_ble_eq_true rfl⟩) hK hP hS hk_j0 (by decide) cl_7 rfl hl.1 rfl (Nat.le_of_ble_eq_true rfl) dX7_below_21 ⟨Nat.zero_le _, Nat.zero_le _⟩ (fun r5 M4 H locs h hP hS => ?_)
        refine lv_if_eq (tgt := 33) hx hb dX7_below_24 (by decide) (fun c6 => ?_) (fun c6 => ?_)
        · replace h := h.1 c6
          refine lv_iconst (v := (0 : Int32)) hx hb dX7_below_33 k_iconst_0 ?_
          refine lv_ior hx hb dX7_below_34 ?_
          refine lv_topi (fun x2_7 ex2_7 => ?_)
          replace h := h x2_7 ex2_7
          refine lv_istore_n (lv' := [(2, .int x2_7), (0, .ref (G.2.1 + j0)), (1, .int x1), (3, .int x3)]) hx hb dX7_below_35 rfl hl (by decide) rfl (fun ls hl => ?_)
          obtain ⟨x3_8, ex3_8⟩ : ∃ y : Int32, y = x3 + (1 : Int32) := ⟨_, rfl⟩
          replace h := h x3_8 ex3_8
          refine lv_iinc (v := x3_8) (lv' := [(3, .int x3_8), (2, .int x2_7), (0, .ref (G.2.1 + j0)), (1, .int x1)]) hx hb dX7_below_36 hl (k := 3) rfl (by rw [ex3_8]; rfl) (by decide) rfl (fun ls hl => ?_)
          refine lv_goto (tgt := 6) hx hb dX7_below_39 (by decide) ?_
          exact hA6 _ _ _ _ _ _ _ _ hP hS (lv_sub hl [2, 3, 1, 0] rfl) hk_j0 h
        · replace h := h.2 c6
          refine lv_iconst (v := (1 : Int32)) hx hb dX7_below_27 k_iconst_1 ?_
          refine lv_iload_n hx hb dX7_below_28 rfl (lv_at hl 3 rfl) ?_
          refine lv_ishl hx hb dX7_below_29 ?_
          refine lv_goto (tgt := 34) hx hb dX7_below_30 (by decide) ?_
          refine lv_ior hx hb dX7_below_34 ?_
          refine lv_topi (fun x2_9 ex2_9 => ?_)
          replace h := h x2_9 ex2_9
          refine lv_istore_n (lv' := [(2, .int x2_9), (0, .ref (G.2.1 + j0)), (1, .int x1), (3, .int x3)]) hx hb dX7_below_35 rfl hl (by decide) rfl (fun ls hl => ?_)
          obtain ⟨x3_10, ex3_10⟩ : ∃ y : Int32, y = x3 + (1 : Int32) := ⟨_, rfl⟩
          replace h := h x3_10 ex3_10
          refine lv_iinc (v := x3_10) (lv' := [(3, .int x3_10), (2, .int x2_9), (0, .ref (G.2.1 + j0)), (1, .int x1)]) hx hb dX7_below_36 hl (k := 3) rfl (by rw [ex3_10]; rfl) (by decide) rfl (fun ls hl => ?_)
          refine lv_goto (tgt := 6) hx hb dX7_below_39 (by decide) ?_
          exact hA6 _ _ _ _ _ _ _ _ hP hS (lv_sub hl [2, 3, 1, 0] rfl) hk_j0 h
  unfold wX7_below at h
  refine lv_iconst (v := (0 : Int32)) hx hb dX7_below_0 k_iconst_0 ?_
  refine lv_istore_n (lv' := [(2, .int (0 : Int32)), (0, .ref (G.2.1 + j0a)), (1, .int x1a)]) hx hb dX7_below_1 rfl hl (by decide) rfl (fun ls hl => ?_)
  refine lv_iload_n hx hb dX7_below_2 rfl (lv_at hl 2 rfl) ?_
  refine lv_iconst (v := (1 : Int32)) hx hb dX7_below_3 k_iconst_1 ?_
  refine lv_iadd hx hb dX7_below_4 ?_
  refine lv_topi (fun x3_1 ex3_1 => ?_)
  replace h := h x3_1 ex3_1
  refine lv_istore_n (lv' := [(3, .int x3_1), (2, .int (0 : Int32)), (0, .ref (G.2.1 + j0a)), (1, .int x1a)]) hx hb dX7_below_5 rfl hl (by decide) rfl (fun ls hl => ?_)
  obtain ⟨n2, h⟩ := h
  exact B6 _ _ _ _ _ _ _ _ _ hP hS (lv_sub hl [2, 3, 1, 0] rfl) hk_j0a h
set_option maxHeartbeats 4000000 in
set_option maxRecDepth 100000 in
theorem mX7_canalOf (l : Launch) (G : Gp) (j0a : Nat) (x1a : Int32) (x2a : Int32) (M : Mm) (Post : Mm → Int32 → Prop) (hk_j0a : kd j0a = 7) (h : wX7_canalOf Post M j0a x1a x2a) : CtI l yX7_canalOf wsX7_canalOf rX7_canalOf G [.ref (G.2.1 + j0a), .int x1a, .int x2a] M Post := by
  refine Met.ofW (cc := cX7_canalOf) (maxL := 4) (ret := (some .int)) (by decide) rfl ?_
  intro p e s m args below meth c s₁ B hml hv
  obtain ⟨rfl, hK, hP⟩ := hv
  have hx := B.exec
  have hb := B.bytes
  have hr := B.returns
  have hlocks := B.notSynchronized
  have hts0 := atoms_spec (ws := wsX7_canalOf) B.pre
  have hts : ∀ w ∈ wsL_law, w.before _ s = true := fun w hw => hts0 w (List.mem_cons_of_mem _ hw)
  have hown : s.vm.findClass RX7 = some m.cls := findClass_of_methodNamed B.named
  have hS : va_S (Fr G) s.heap s.heap [] := va_S.rf
  have hl := lv_entry ([.ref (G.2.1 + j0a), .int x1a, .int x2a]) (n := 4) (Nat.le_of_ble_eq_true rfl)
  rw [lg_entry_eq]
  generalize (lg_sl ([.ref (G.2.1 + j0a), .int x1a, .int x2a]) ++ List.replicate (4 - (lg_sl ([.ref (G.2.1 + j0a), .int x1a, .int x2a])).length) Slot.unset).toArray = ls at hl ⊢
  have hl : lv_has ls 4 [(0, .ref (G.2.1 + j0a)), (1, .int x1a), (2, .int x2a)] := hl
  have B88 : ∀ (M : Mm) (j0 : Nat) (x1 : Int32) (x2 : Int32) (x3 : Int32) (H : Heap) (locs : List Loc) (ls : Array Slot), Rp G M H → va_S (Fr G) s.heap H locs → lv_has ls 4 [(0, .ref (G.2.1 + j0)), (1, .int x1), (2, .int x2), (3, .int x3)] → kd j0 = 7 → bX7_canalOf_88 Post M j0 x1 x2 x3 → Wi p l e (headSpec wsX7_canalOf rX7_canalOf).room s m [.ref (G.2.1 + j0a), .int x1a, .int x2a].toArray below meth c G Post H locs (F0 m 88 ls []) := by
    intro M j0 x1 x2 x3 H locs ls hP hS hl hk_j0 h
    unfold bX7_canalOf_88 at h
    refine lv_iload_n hx hb dX7_canalOf_88 rfl (lv_at hl 3 rfl) ?_
    refine lv_if_eq (tgt := 101) hx hb dX7_canalOf_89 (by decide) (fun c26 => ?_) (fun c26 => ?_)
    · replace h := h.1 c26
      refine lv_ldc hx hb hown (hts _ q_24_4) dX7_canalOf_101 ?_
      exact re_i hx hb hr hlocks hP hS h dX7_canalOf_103
    · replace h := h.2 c26
      refine lv_aload_n hx hb dX7_canalOf_92 rfl (lv_at hl 0 rfl) ?_
      refine lv_iload_n hx hb dX7_canalOf_93 rfl (lv_at hl 1 rfl) ?_
      refine lv_iload_n hx hb dX7_canalOf_94 rfl (lv_at hl 2 rfl) ?_
      refine rc_Vi (As := [.int x1, .int x2]) (rest := []) ⟨hx, hb, hml, hown, hts⟩ (mX7_ca l G j0 x1 x2 M _ hk_j0 h) (cwV 2 hts (gV_X7_ca q_10_4) rfl rfl rfl hdV_X7_ca ⟨Nat.le_of_ble_eq_true rfl, Nat.le_of_ble_eq_true rfl⟩) hK hP hS hk_j0 (by decide) cl_7 rfl hl.1 rfl (Nat.le_of_ble_eq_true rfl) dX7_canalOf_95 ⟨Nat.zero_le _, Nat.zero_le _⟩ (fun r28 M27 H locs h hP hS => ?_)
      refine lv_goto (tgt := 103) hx hb dX7_canalOf_98 (by decide) ?_
      exact re_i hx hb hr hlocks hP hS h dX7_canalOf_103
  have B135 : ∀ (M : Mm) (j0 : Nat) (x1 : Int32) (x2 : Int32) (H : Heap) (locs : List Loc) (ls : Array Slot), Rp G M H → va_S (Fr G) s.heap H locs → lv_has ls 4 [(0, .ref (G.2.1 + j0)), (1, .int x1), (2, .int x2)] → kd j0 = 7 → bX7_canalOf_135 Post M j0 x1 x2 → Wi p l e (headSpec wsX7_canalOf rX7_canalOf).room s m [.ref (G.2.1 + j0a), .int x1a, .int x2a].toArray below meth c G Post H locs (F0 m 135 ls []) := by
    intro M j0 x1 x2 H locs ls hP hS hl hk_j0 h
    unfold bX7_canalOf_135 at h
    refine lv_aload_n hx hb dX7_canalOf_135 rfl (lv_at hl 0 rfl) ?_
    refine lv_iload_n hx hb dX7_canalOf_136 rfl (lv_at hl 1 rfl) ?_
    refine lv_iload_n hx hb dX7_canalOf_137 rfl (lv_at hl 2 rfl) ?_
    refine lv_iconst (v := (1 : Int32)) hx hb dX7_canalOf_138 k_iconst_1 ?_
    refine lv_isub hx hb dX7_canalOf_139 ?_
    refine rc_Vi (As := [.int x1, .int (x2 - (1 : Int32))]) (rest := []) ⟨hx, hb, hml, hown, hts⟩ (mX7_ca l G j0 x1 (x2 - (1 : Int32)) M _ hk_j0 h) (cwV 2 hts (gV_X7_ca q_10_4) rfl rfl rfl hdV_X7_ca ⟨Nat.le_of_ble_eq_true rfl, Nat.le_of_ble_eq_true rfl⟩) hK hP hS hk_j0 (by decide) cl_7 rfl hl.1 rfl (Nat.le_of_ble_eq_true rfl) dX7_canalOf_140 ⟨Nat.zero_le _, Nat.zero_le _⟩ (fun r30 M29 H locs h hP hS => ?_)
    exact re_i hx hb hr hlocks hP hS h dX7_canalOf_143
  have B144 : ∀ (M : Mm) (j0 : Nat) (x1 : Int32) (x2 : Int32) (H : Heap) (locs : List Loc) (ls : Array Slot), Rp G M H → va_S (Fr G) s.heap H locs → lv_has ls 4 [(0, .ref (G.2.1 + j0)), (1, .int x1), (2, .int x2)] → kd j0 = 7 → bX7_canalOf_144 Post M j0 x1 x2 → Wi p l e (headSpec wsX7_canalOf rX7_canalOf).room s m [.ref (G.2.1 + j0a), .int x1a, .int x2a].toArray below meth c G Post H locs (F0 m 144 ls []) := by
    intro M j0 x1 x2 H locs ls hP hS hl hk_j0 h
    unfold bX7_canalOf_144 at h
    refine lv_aload_n hx hb dX7_canalOf_144 rfl (lv_at hl 0 rfl) ?_
    refine lv_iload_n hx hb dX7_canalOf_145 rfl (lv_at hl 1 rfl) ?_
    refine lv_iload_n hx hb dX7_canalOf_146 rfl (lv_at hl 2 rfl) ?_
    refine rc_Vi (As := [.int x1, .int x2]) (rest := []) ⟨hx, hb, hml, hown, hts⟩ (mX7_ca l G j0 x1 x2 M _ hk_j0 h) (cwV 2 hts (gV_X7_ca q_10_4) rfl rfl rfl hdV_X7_ca ⟨Nat.le_of_ble_eq_true rfl, Nat.le_of_ble_eq_true rfl⟩) hK hP hS hk_j0 (by decide) cl_7 rfl hl.1 rfl (Nat.le_of_ble_eq_true rfl) dX7_canalOf_147 ⟨Nat.zero_le _, Nat.zero_le _⟩ (fun r32 M31 H locs h hP hS => ?_)
    exact re_i hx hb hr hlocks hP hS h dX7_canalOf_150
  have B30 : ∀ (M : Mm) (j0 : Nat) (x1 : Int32) (x2 : Int32) (t0 : Int32) (H : Heap) (locs : List Loc) (ls : Array Slot), Rp G M H → va_S (Fr G) s.heap H locs → lv_has ls 4 [(0, .ref (G.2.1 + j0)), (1, .int x1), (2, .int x2)] → kd j0 = 7 → bX7_canalOf_30 Post M j0 x1 x2 t0 → Wi p l e (headSpec wsX7_canalOf rX7_canalOf).room s m [.ref (G.2.1 + j0a), .int x1a, .int x2a].toArray below meth c G Post H locs (F0 m 30 ls [.int t0]) := by
    intro M j0 x1 x2 t0 H locs ls hP hS hl hk_j0 h
    unfold bX7_canalOf_30 at h
    refine lv_istore_n (lv' := [(3, .int t0), (0, .ref (G.2.1 + j0)), (1, .int x1), (2, .int x2)]) hx hb dX7_canalOf_30 rfl hl (by decide) rfl (fun ls hl => ?_)
    refine lv_iload_n hx hb dX7_canalOf_31 rfl (lv_at hl 3 rfl) ?_
    by_cases c8 : x2 = (0 : Int32)
    · replace h := h.1 c8
      refine lv_tableIn (off := 56) (tgt := 88) hx hb dX7_canalOf_32 (by rw [c8]; decide) (by rw [c8]; decide) (by rw [c8]; rfl) (by decide) ?_
      exact B88 _ _ _ _ _ _ _ _ hP hS (lv_sub hl [1, 2, 3, 0] rfl) hk_j0 h
    replace h := h.2 c8
    by_cases c9 : x2 = (1 : Int32)
    · replace h := h.1 c9
      refine lv_tableIn (off := 56) (tgt := 88) hx hb dX7_canalOf_32 (by rw [c9]; decide) (by rw [c9]; decide) (by rw [c9]; rfl) (by decide) ?_
      exact B88 _ _ _ _ _ _ _ _ hP hS (lv_sub hl [1, 2, 3, 0] rfl) hk_j0 h
    replace h := h.2 c9
    by_cases c10 : x2 = (2 : Int32)
    · replace h := h.1 c10
      refine lv_tableIn (off := 112) (tgt := 144) hx hb dX7_canalOf_32 (by rw [c10]; decide) (by rw [c10]; decide) (by rw [c10]; rfl) (by decide) ?_
      exact B144 _ _ _ _ _ _ _ hP hS (lv_sub hl [1, 2, 3] rfl) hk_j0 h
    replace h := h.2 c10
    by_cases c11 : x2 = (3 : Int32)
    · replace h := h.1 c11
      refine lv_tableIn (off := 112) (tgt := 144) hx hb dX7_canalOf_32 (by rw [c11]; decide) (by rw [c11]; decide) (by rw [c11]; rfl) (by decide) ?_
      exact B144 _ _ _ _ _ _ _ hP hS (lv_sub hl [1, 2, 3] rfl) hk_j0 h
    replace h := h.2 c11
    by_cases c12 : x2 = (4 : Int32)
    · replace h := h.1 c12
      refine lv_tableIn (off := 56) (tgt := 88) hx hb dX7_canalOf_32 (by rw [c12]; decide) (by rw [c12]; decide) (by rw [c12]; rfl) (by decide) ?_
      exact B88 _ _ _ _ _ _ _ _ hP hS (lv_sub hl [1, 2, 3, 0] rfl) hk_j0 h
    replace h := h.2 c12
    by_cases c13 : x2 = (5 : Int32)
    · replace h := h.1 c13
      refine lv_tableIn (off := 72) (tgt := 104) hx hb dX7_canalOf_32 (by rw [c13]; decide) (by rw [c13]; decide) (by rw [c13]; rfl) (by decide) ?_
      refine lv_iload_n hx hb dX7_canalOf_104 rfl (lv_at hl 0 rfl) ?_
      refine lv_if_eq (tgt := 126) hx hb dX7_canalOf_105 (by decide) (fun c14 => ?_) (fun c14 => ?_)
      · replace h := h.1 c14
        refine lv_ldc hx hb hown (hts _ q_24_4) dX7_canalOf_126 ?_
        exact re_i hx hb hr hlocks hP hS h dX7_canalOf_128
      · replace h := h.2 c14
        refine lv_aload_n hx hb dX7_canalOf_108 rfl (lv_at hl 1 rfl) ?_
        refine lv_iload_n hx hb dX7_canalOf_109 rfl (lv_at hl 2 rfl) ?_
        refine lv_iconst (v := (5 : Int32)) hx hb dX7_canalOf_110 k_iconst_5 ?_
        refine rc_Vi (As := [.int x1, .int (5 : Int32)]) (rest := []) ⟨hx, hb, hml, hown, hts⟩ (mX7_ca l G j0 x1 (5 : Int32) M _ hk_j0 h) (cwV 2 hts (gV_X7_ca q_10_4) rfl rfl rfl hdV_X7_ca ⟨Nat.le_of_ble_eq_true rfl, Nat.le_of_ble_eq_true rfl⟩) hK hP hS hk_j0 (by decide) cl_7 rfl hl.1 rfl (Nat.le_of_ble_eq_true rfl) dX7_canalOf_111 ⟨Nat.zero_le _, Nat.zero_le _⟩ (fun r16 M15 H locs h hP hS => ?_)
        refine lv_if_lt (tgt := 126) hx hb dX7_canalOf_114 (by decide) (fun c17 => ?_) (fun c17 => ?_)
        · replace h := h.1 c17
          refine lv_ldc hx hb hown (hts _ q_24_4) dX7_canalOf_126 ?_
          exact re_i hx hb hr hlocks hP hS h dX7_canalOf_128
        · replace h := h.2 c17
          refine lv_aload_n hx hb dX7_canalOf_117 rfl (lv_at hl 1 rfl) ?_
          refine lv_iload_n hx hb dX7_canalOf_118 rfl (lv_at hl 2 rfl) ?_
          refine lv_iconst (v := (5 : Int32)) hx hb dX7_canalOf_119 k_iconst_5 ?_
          refine rc_Vi (As := [.int x1, .int (5 : Int32)]) (rest := []) ⟨hx, hb, hml, hown, hts⟩ (mX7_ca l G j0 x1 (5 : Int32) M15 _ hk_j0 h) (cwV 2 hts (gV_X7_ca q_10_4) rfl rfl rfl hdV_X7_ca ⟨Nat.le_of_ble_eq_true rfl, Nat.le_of_ble_eq_true rfl⟩) hK hP hS hk_j0 (by decide) cl_7 rfl hl.1 rfl (Nat.le_of_ble_eq_true rfl) dX7_canalOf_120 ⟨Nat.zero_le _, Nat.zero_le _⟩ (fun r19 M18 H locs h hP hS => ?_)
          refine lv_goto (tgt := 128) hx hb dX7_canalOf_123 (by decide) ?_
          exact re_i hx hb hr hlocks hP hS h dX7_canalOf_128
    replace h := h.2 c13
    by_cases c20 : x2 = (6 : Int32)
    · replace h := h.1 c20
      refine lv_tableIn (off := 97) (tgt := 129) hx hb dX7_canalOf_32 (by rw [c20]; decide) (by rw [c20]; decide) (by rw [c20]; rfl) (by decide) ?_
      refine lv_aload_n hx hb dX7_canalOf_129 rfl (lv_at hl 1 rfl) ?_
      refine lv_iload_n hx hb dX7_canalOf_130 rfl (lv_at hl 2 rfl) ?_
      refine rc_Vi (As := [.int x1]) (rest := []) ⟨hx, hb, hml, hown, hts⟩ (mX7_below l G j0 x1 M _ hk_j0 h) (cwV 1 hts (gV_X7_below q_24_5) rfl rfl rfl hdV_X7_below ⟨Nat.le_of_ble_eq_true rfl, Nat.le_of_ble_eq_true rfl⟩) hK hP hS hk_j0 (by decide) cl_7 rfl hl.1 rfl (Nat.le_of_ble_eq_true rfl) dX7_canalOf_131 ⟨Nat.zero_le _, Nat.zero_le _⟩ (fun r22 M21 H locs h hP hS => ?_)
      exact re_i hx hb hr hlocks hP hS h dX7_canalOf_134
    replace h := h.2 c20
    by_cases c23 : x2 = (7 : Int32)
    · replace h := h.1 c23
      refine lv_tableIn (off := 103) (tgt := 135) hx hb dX7_canalOf_32 (by rw [c23]; decide) (by rw [c23]; decide) (by rw [c23]; rfl) (by decide) ?_
      exact B135 _ _ _ _ _ _ _ hP hS (lv_sub hl [1, 2, 3] rfl) hk_j0 h
    replace h := h.2 c23
    by_cases c24 : x2 = (8 : Int32)
    · replace h := h.1 c24
      refine lv_tableIn (off := 103) (tgt := 135) hx hb dX7_canalOf_32 (by rw [c24]; decide) (by rw [c24]; decide) (by rw [c24]; rfl) (by decide) ?_
      exact B135 _ _ _ _ _ _ _ hP hS (lv_sub hl [1, 2, 3] rfl) hk_j0 h
    replace h := h.2 c24
    by_cases c25 : x2 = (9 : Int32)
    · replace h := h.1 c25
      refine lv_tableIn (off := 103) (tgt := 135) hx hb dX7_canalOf_32 (by rw [c25]; decide) (by rw [c25]; decide) (by rw [c25]; rfl) (by decide) ?_
      exact B135 _ _ _ _ _ _ _ hP hS (lv_sub hl [1, 2, 3] rfl) hk_j0 h
    replace h := h.2 c25
    refine lv_tableOut (tgt := 144) hx hb dX7_canalOf_32 (by have gc8 := lv_neT c8 (show (0 : Int32).toInt = 0 from rfl); have gc9 := lv_neT c9 (show (1 : Int32).toInt = 1 from rfl); have gc10 := lv_neT c10 (show (2 : Int32).toInt = 2 from rfl); have gc11 := lv_neT c11 (show (3 : Int32).toInt = 3 from rfl); have gc12 := lv_neT c12 (show (4 : Int32).toInt = 4 from rfl); have gc13 := lv_neT c13 (show (5 : Int32).toInt = 5 from rfl); have gc20 := lv_neT c20 (show (6 : Int32).toInt = 6 from rfl); have gc23 := lv_neT c23 (show (7 : Int32).toInt = 7 from rfl); have gc24 := lv_neT c24 (show (8 : Int32).toInt = 8 from rfl); have gc25 := lv_neT c25 (show (9 : Int32).toInt = 9 from rfl); omega) (by decide) ?_
    exact B144 _ _ _ _ _ _ _ hP hS (lv_sub hl [1, 2, 3] rfl) hk_j0 h
  unfold wX7_canalOf at h
  refine lv_aload_n hx hb dX7_canalOf_0 rfl (lv_at hl 0 rfl) ?_
  refine lv_iload_n hx hb dX7_canalOf_1 rfl (lv_at hl 1 rfl) ?_
  refine rc_Vi (As := [.int x1a]) (rest := []) ⟨hx, hb, hml, hown, hts⟩ (mX7_isCanal l G j0a x1a M _ hk_j0a h) (cwV 1 hts (gV_X7_isCanal q_7_15) rfl rfl rfl hdV_X7_isCanal ⟨Nat.le_of_ble_eq_true rfl, Nat.le_of_ble_eq_true rfl⟩) hK hP hS hk_j0a (by decide) cl_7 rfl hl.1 rfl (Nat.le_of_ble_eq_true rfl) dX7_canalOf_2 ⟨Nat.zero_le _, Nat.zero_le _⟩ (fun r2 M1 H locs h hP hS => ?_)
  refine lv_if_eq (tgt := 18) hx hb dX7_canalOf_5 (by decide) (fun c3 => ?_) (fun c3 => ?_)
  · replace h := h.1 c3
    refine lv_ldc hx hb hown (hts _ q_7_13) dX7_canalOf_18 ?_
    exact re_i hx hb hr hlocks hP hS h dX7_canalOf_20
  · replace h := h.2 c3
    refine lv_iload_n hx hb dX7_canalOf_8 rfl (lv_at hl 2 rfl) ?_
    refine lv_iconst (v := (0 : Int32)) hx hb dX7_canalOf_9 k_iconst_0 ?_
    refine lv_bipush (v := (9 : Int32)) hx hb dX7_canalOf_10 k_bipush_9 ?_
    refine rc_Si (As := [.int x2a, .int (0 : Int32), .int (9 : Int32)]) (rest := []) ⟨hx, hb, hml, hown, hts⟩ (mX7_in l G x2a (0 : Int32) (9 : Int32) M1 _ h) (va_cwS 3 hts (gS_X7_in q_7_19) rfl rfl rfl hdS_X7_in ⟨Nat.le_of_ble_eq_true rfl, Nat.le_of_ble_eq_true rfl⟩) hK hP hS rfl hl.1 rfl (Nat.le_of_ble_eq_true rfl) dX7_canalOf_12 ⟨Nat.zero_le _, Nat.zero_le _⟩ (fun r5 M4 H locs h hP hS => ?_)
    refine lv_if_ne (tgt := 21) hx hb dX7_canalOf_15 (by decide) (fun c6 => ?_) (fun c6 => ?_)
    · replace h := h.1 c6
      refine lv_iload_n hx hb dX7_canalOf_21 rfl (lv_at hl 1 rfl) ?_
      refine lv_if_le (tgt := 29) hx hb dX7_canalOf_22 (by decide) (fun c7 => ?_) (fun c7 => ?_)
      · replace h := h.1 c7
        refine lv_iconst (v := (0 : Int32)) hx hb dX7_canalOf_29 k_iconst_0 ?_
        exact B30 _ _ _ _ _ _ _ _ hP hS (lv_sub hl [0, 1, 2] rfl) hk_j0a h
      · replace h := h.2 c7
        refine lv_iconst (v := (1 : Int32)) hx hb dX7_canalOf_25 k_iconst_1 ?_
        refine lv_goto (tgt := 30) hx hb dX7_canalOf_26 (by decide) ?_
        exact B30 _ _ _ _ _ _ _ _ hP hS (lv_sub hl [0, 1, 2] rfl) hk_j0a h
    · replace h := h.2 c6
      refine lv_ldc hx hb hown (hts _ q_7_13) dX7_canalOf_18 ?_
      exact re_i hx hb hr hlocks hP hS h dX7_canalOf_20
set_option maxHeartbeats 4000000 in
set_option maxRecDepth 100000 in
theorem mX7_fieldOf (l : Launch) (G : Gp) (j0a : Nat) (x1a : Int32) (x2a : Int32) (M : Mm) (Post : Mm → Int32 → Prop) (hk_j0a : kd j0a = 7) (h : wX7_fieldOf Post M j0a x1a x2a) : CtI l yX7_fieldOf wsX7_fieldOf rX7_fieldOf G [.ref (G.2.1 + j0a), .int x1a, .int x2a] M Post := by
  refine Met.ofW (cc := cX7_fieldOf) (maxL := 3) (ret := (some .int)) (by decide) rfl ?_
  intro p e s m args below meth c s₁ B hml hv
  obtain ⟨rfl, hK, hP⟩ := hv
  have hx := B.exec
  have hb := B.bytes
  have hr := B.returns
  have hlocks := B.notSynchronized
  have hts0 := atoms_spec (ws := wsX7_fieldOf) B.pre
  have hts : ∀ w ∈ wsL_law, w.before _ s = true := fun w hw => hts0 w (List.mem_cons_of_mem _ hw)
  have hown : s.vm.findClass RX7 = some m.cls := findClass_of_methodNamed B.named
  have hS : va_S (Fr G) s.heap s.heap [] := va_S.rf
  have hl := lv_entry ([.ref (G.2.1 + j0a), .int x1a, .int x2a]) (n := 3) (Nat.le_of_ble_eq_true rfl)
  rw [lg_entry_eq]
  generalize (lg_sl ([.ref (G.2.1 + j0a), .int x1a, .int x2a]) ++ List.replicate (3 - (lg_sl ([.ref (G.2.1 + j0a), .int x1a, .int x2a])).length) Slot.unset).toArray = ls at hl ⊢
  have hl : lv_has ls 3 [(0, .ref (G.2.1 + j0a)), (1, .int x1a), (2, .int x2a)] := hl
  unfold wX7_fieldOf at h
  refine lv_aload_n hx hb dX7_fieldOf_0 rfl (lv_at hl 0 rfl) ?_
  refine lv_iload_n hx hb dX7_fieldOf_1 rfl (lv_at hl 1 rfl) ?_
  refine rc_Vi (As := [.int x1a]) (rest := []) ⟨hx, hb, hml, hown, hts⟩ (mX7_isField l G j0a x1a M _ hk_j0a h) (cwV 1 hts (gV_X7_isField q_14_4) rfl rfl rfl hdV_X7_isField ⟨Nat.le_of_ble_eq_true rfl, Nat.le_of_ble_eq_true rfl⟩) hK hP hS hk_j0a (by decide) cl_7 rfl hl.1 rfl (Nat.le_of_ble_eq_true rfl) dX7_fieldOf_2 ⟨Nat.zero_le _, Nat.zero_le _⟩ (fun r2 M1 H locs h hP hS => ?_)
  refine lv_if_eq (tgt := 18) hx hb dX7_fieldOf_5 (by decide) (fun c3 => ?_) (fun c3 => ?_)
  · replace h := h.1 c3
    refine lv_ldc hx hb hown (hts _ q_7_13) dX7_fieldOf_18 ?_
    exact re_i hx hb hr hlocks hP hS h dX7_fieldOf_20
  · replace h := h.2 c3
    refine lv_iload_n hx hb dX7_fieldOf_8 rfl (lv_at hl 2 rfl) ?_
    refine lv_iconst (v := (0 : Int32)) hx hb dX7_fieldOf_9 k_iconst_0 ?_
    refine lv_bipush (v := (7 : Int32)) hx hb dX7_fieldOf_10 k_bipush_7 ?_
    refine rc_Si (As := [.int x2a, .int (0 : Int32), .int (7 : Int32)]) (rest := []) ⟨hx, hb, hml, hown, hts⟩ (mX7_in l G x2a (0 : Int32) (7 : Int32) M1 _ h) (va_cwS 3 hts (gS_X7_in q_7_19) rfl rfl rfl hdS_X7_in ⟨Nat.le_of_ble_eq_true rfl, Nat.le_of_ble_eq_true rfl⟩) hK hP hS rfl hl.1 rfl (Nat.le_of_ble_eq_true rfl) dX7_fieldOf_12 ⟨Nat.zero_le _, Nat.zero_le _⟩ (fun r5 M4 H locs h hP hS => ?_)
    refine lv_if_ne (tgt := 21) hx hb dX7_fieldOf_15 (by decide) (fun c6 => ?_) (fun c6 => ?_)
    · replace h := h.1 c6
      refine lv_iload_n hx hb dX7_fieldOf_21 rfl (lv_at hl 2 rfl) ?_
      by_cases c7 : x2a = (6 : Int32)
      · replace h := h.1 c7
        refine lv_lookup (off := 26) (tgt := 48) hx hb dX7_fieldOf_22 (by decide) (by rw [c7]; rfl) (by decide) ?_
        refine lv_aload_n hx hb dX7_fieldOf_48 rfl (lv_at hl 0 rfl) ?_
        refine lv_iload_n hx hb dX7_fieldOf_49 rfl (lv_at hl 1 rfl) ?_
        refine rc_Vi (As := [.int x1a]) (rest := []) ⟨hx, hb, hml, hown, hts⟩ (mX7_mayTake l G j0a x1a M4 _ hk_j0a h) (cwV 1 hts (gV_X7_mayTake q_20_19) rfl rfl rfl hdV_X7_mayTake ⟨Nat.le_of_ble_eq_true rfl, Nat.le_of_ble_eq_true rfl⟩) hK hP hS hk_j0a (by decide) cl_7 rfl hl.1 rfl (Nat.le_of_ble_eq_true rfl) dX7_fieldOf_50 ⟨Nat.zero_le _, Nat.zero_le _⟩ (fun r9 M8 H locs h hP hS => ?_)
        refine lv_if_eq (tgt := 60) hx hb dX7_fieldOf_53 (by decide) (fun c10 => ?_) (fun c10 => ?_)
        · replace h := h.1 c10
          refine lv_iconst (v := (0 : Int32)) hx hb dX7_fieldOf_60 k_iconst_0 ?_
          exact re_i hx hb hr hlocks hP hS h dX7_fieldOf_61
        · replace h := h.2 c10
          refine lv_iconst (v := (1 : Int32)) hx hb dX7_fieldOf_56 k_iconst_1 ?_
          refine lv_goto (tgt := 61) hx hb dX7_fieldOf_57 (by decide) ?_
          exact re_i hx hb hr hlocks hP hS h dX7_fieldOf_61
      replace h := h.2 c7
      by_cases c11 : x2a = (7 : Int32)
      · replace h := h.1 c11
        refine lv_lookup (off := 40) (tgt := 62) hx hb dX7_fieldOf_22 (by decide) (by rw [c11]; rfl) (by decide) ?_
        refine lv_aload_n hx hb dX7_fieldOf_62 rfl (lv_at hl 0 rfl) ?_
        refine lv_iload_n hx hb dX7_fieldOf_63 rfl (lv_at hl 1 rfl) ?_
        refine rc_Vi (As := [.int x1a]) (rest := []) ⟨hx, hb, hml, hown, hts⟩ (mX7_wants l G j0a x1a M4 _ hk_j0a h) (cwV 1 hts (gV_X7_wants q_14_12) rfl rfl rfl hdV_X7_wants ⟨Nat.le_of_ble_eq_true rfl, Nat.le_of_ble_eq_true rfl⟩) hK hP hS hk_j0a (by decide) cl_7 rfl hl.1 rfl (Nat.le_of_ble_eq_true rfl) dX7_fieldOf_64 ⟨Nat.zero_le _, Nat.zero_le _⟩ (fun r13 M12 H locs h hP hS => ?_)
        refine lv_if_eq (tgt := 75) hx hb dX7_fieldOf_67 (by decide) (fun c14 => ?_) (fun c14 => ?_)
        · replace h := h.1 c14
          refine lv_aload_n hx hb dX7_fieldOf_75 rfl (lv_at hl 0 rfl) ?_
          refine lv_iload_n hx hb dX7_fieldOf_76 rfl (lv_at hl 1 rfl) ?_
          refine lv_bipush (v := (6 : Int32)) hx hb dX7_fieldOf_77 k_bipush_6 ?_
          refine rc_Vi (As := [.int x1a, .int (6 : Int32)]) (rest := []) ⟨hx, hb, hml, hown, hts⟩ (mX7_fi l G j0a x1a (6 : Int32) M12 _ hk_j0a h) (cwV 2 hts (gV_X7_fi q_14_8) rfl rfl rfl hdV_X7_fi ⟨Nat.le_of_ble_eq_true rfl, Nat.le_of_ble_eq_true rfl⟩) hK hP hS hk_j0a (by decide) cl_7 rfl hl.1 rfl (Nat.le_of_ble_eq_true rfl) dX7_fieldOf_79 ⟨Nat.zero_le _, Nat.zero_le _⟩ (fun r16 M15 H locs h hP hS => ?_)
          exact re_i hx hb hr hlocks hP hS h dX7_fieldOf_82
        · replace h := h.2 c14
          refine lv_ldc hx hb hown (hts _ q_24_4) dX7_fieldOf_70 ?_
          refine lv_goto (tgt := 82) hx hb dX7_fieldOf_72 (by decide) ?_
          exact re_i hx hb hr hlocks hP hS h dX7_fieldOf_82
      replace h := h.2 c11
      refine lv_lookup (off := 61) (tgt := 83) hx hb dX7_fieldOf_22 (by decide) (by show Op.lookupswitch.offset [(6, 26), (7, 40)] 61 _ = _; rw [lv_osw (a := 6) c7 rfl, lv_osw (a := 7) c11 rfl]; rfl) (by decide) ?_
      refine lv_aload_n hx hb dX7_fieldOf_83 rfl (lv_at hl 0 rfl) ?_
      refine lv_iload_n hx hb dX7_fieldOf_84 rfl (lv_at hl 1 rfl) ?_
      refine lv_iload_n hx hb dX7_fieldOf_85 rfl (lv_at hl 2 rfl) ?_
      refine rc_Vi (As := [.int x1a, .int x2a]) (rest := []) ⟨hx, hb, hml, hown, hts⟩ (mX7_fi l G j0a x1a x2a M4 _ hk_j0a h) (cwV 2 hts (gV_X7_fi q_14_8) rfl rfl rfl hdV_X7_fi ⟨Nat.le_of_ble_eq_true rfl, Nat.le_of_ble_eq_true rfl⟩) hK hP hS hk_j0a (by decide) cl_7 rfl hl.1 rfl (Nat.le_of_ble_eq_true rfl) dX7_fieldOf_86 ⟨Nat.zero_le _, Nat.zero_le _⟩ (fun r18 M17 H locs h hP hS => ?_)
      exact re_i hx hb hr hlocks hP hS h dX7_fieldOf_89
    · replace h := h.2 c6
      refine lv_ldc hx hb hown (hts _ q_7_13) dX7_fieldOf_18 ?_
      exact re_i hx hb hr hlocks hP hS h dX7_fieldOf_20
set_option maxHeartbeats 4000000 in
set_option maxRecDepth 100000 in
theorem mX7_turnOf (l : Launch) (G : Gp) (j0a : Nat) (x1a : Int32) (x2a : Int32) (M : Mm) (Post : Mm → Int32 → Prop) (hk_j0a : kd j0a = 7) (h : wX7_turnOf Post M j0a x1a x2a) : CtI l yX7_turnOf wsX7_turnOf rX7_turnOf G [.ref (G.2.1 + j0a), .int x1a, .int x2a] M Post := by
  refine Met.ofW (cc := cX7_turnOf) (maxL := 3) (ret := (some .int)) (by decide) rfl ?_
  intro p e s m args below meth c s₁ B hml hv
  obtain ⟨rfl, hK, hP⟩ := hv
  have hx := B.exec
  have hb := B.bytes
  have hr := B.returns
  have hlocks := B.notSynchronized
  have hts0 := atoms_spec (ws := wsX7_turnOf) B.pre
  have hts : ∀ w ∈ wsL_law, w.before _ s = true := fun w hw => hts0 w (List.mem_cons_of_mem _ hw)
  have hown : s.vm.findClass RX7 = some m.cls := findClass_of_methodNamed B.named
  have hS : va_S (Fr G) s.heap s.heap [] := va_S.rf
  have hl := lv_entry ([.ref (G.2.1 + j0a), .int x1a, .int x2a]) (n := 3) (Nat.le_of_ble_eq_true rfl)
  rw [lg_entry_eq]
  generalize (lg_sl ([.ref (G.2.1 + j0a), .int x1a, .int x2a]) ++ List.replicate (3 - (lg_sl ([.ref (G.2.1 + j0a), .int x1a, .int x2a])).length) Slot.unset).toArray = ls at hl ⊢
  have hl : lv_has ls 3 [(0, .ref (G.2.1 + j0a)), (1, .int x1a), (2, .int x2a)] := hl
  unfold wX7_turnOf at h
  refine lv_iload_n hx hb dX7_turnOf_0 rfl (lv_at hl 1 rfl) ?_
  refine lv_iconst (v := (0 : Int32)) hx hb dX7_turnOf_1 k_iconst_0 ?_
  refine lv_aload_n hx hb dX7_turnOf_2 rfl (lv_at hl 0 rfl) ?_
  refine rk_getr hx hb hts inlX7 hown hK hP hk_j0a cl_7 0 1 fq_7_0 q_4_13 rfl dX7_turnOf_3 ?_
  refine lv_iconst (v := (2 : Int32)) hx hb dX7_turnOf_6 k_iconst_2 ?_
  refine rk_iald hx hb hK hP (ky_7_0 hk_j0a) ac_12 2 ix_2 vi_2_168 dX7_turnOf_7 ?_
  refine lv_iconst (v := (1 : Int32)) hx hb dX7_turnOf_8 k_iconst_1 ?_
  refine lv_isub hx hb dX7_turnOf_9 ?_
  refine rc_Si (As := [.int x1a, .int (0 : Int32), .int ((M (j0a + 1) 2) - (1 : Int32))]) (rest := []) ⟨hx, hb, hml, hown, hts⟩ (mX7_in l G x1a (0 : Int32) ((M (j0a + 1) 2) - (1 : Int32)) M _ h) (va_cwS 3 hts (gS_X7_in q_7_19) rfl rfl rfl hdS_X7_in ⟨Nat.le_of_ble_eq_true rfl, Nat.le_of_ble_eq_true rfl⟩) hK hP hS rfl hl.1 rfl (Nat.le_of_ble_eq_true rfl) dX7_turnOf_10 ⟨Nat.zero_le _, Nat.zero_le _⟩ (fun r2 M1 H locs h hP hS => ?_)
  refine lv_if_eq (tgt := 42) hx hb dX7_turnOf_13 (by decide) (fun c3 => ?_) (fun c3 => ?_)
  · replace h := h.1 c3
    refine lv_ldc hx hb hown (hts _ q_7_13) dX7_turnOf_42 ?_
    exact re_i hx hb hr hlocks hP hS h dX7_turnOf_44
  · replace h := h.2 c3
    refine lv_iload_n hx hb dX7_turnOf_16 rfl (lv_at hl 2 rfl) ?_
    refine lv_iconst (v := (0 : Int32)) hx hb dX7_turnOf_17 k_iconst_0 ?_
    refine lv_iconst (v := (1 : Int32)) hx hb dX7_turnOf_18 k_iconst_1 ?_
    refine rc_Si (As := [.int x2a, .int (0 : Int32), .int (1 : Int32)]) (rest := []) ⟨hx, hb, hml, hown, hts⟩ (mX7_in l G x2a (0 : Int32) (1 : Int32) M1 _ h) (va_cwS 3 hts (gS_X7_in q_7_19) rfl rfl rfl hdS_X7_in ⟨Nat.le_of_ble_eq_true rfl, Nat.le_of_ble_eq_true rfl⟩) hK hP hS rfl hl.1 rfl (Nat.le_of_ble_eq_true rfl) dX7_turnOf_19 ⟨Nat.zero_le _, Nat.zero_le _⟩ (fun r5 M4 H locs h hP hS => ?_)
    refine lv_if_eq (tgt := 42) hx hb dX7_turnOf_22 (by decide) (fun c6 => ?_) (fun c6 => ?_)
    · replace h := h.1 c6
      refine lv_ldc hx hb hown (hts _ q_7_13) dX7_turnOf_42 ?_
      exact re_i hx hb hr hlocks hP hS h dX7_turnOf_44
    · replace h := h.2 c6
      refine lv_aload_n hx hb dX7_turnOf_25 rfl (lv_at hl 0 rfl) ?_
      refine rk_getr hx hb hts inlX7 hown hK hP hk_j0a cl_7 0 1 fq_7_0 q_4_13 rfl dX7_turnOf_26 ?_
      refine lv_sipush (v := (152 : Int32)) hx hb dX7_turnOf_29 k_sipush_152 ?_
      refine lv_iconst (v := (2 : Int32)) hx hb dX7_turnOf_32 k_iconst_2 ?_
      refine lv_iload_n hx hb dX7_turnOf_33 rfl (lv_at hl 1 rfl) ?_
      refine lv_imul hx hb dX7_turnOf_34 ?_
      refine lv_iadd hx hb dX7_turnOf_35 ?_
      refine lv_iload_n hx hb dX7_turnOf_36 rfl (lv_at hl 2 rfl) ?_
      refine lv_iadd hx hb dX7_turnOf_37 ?_
      refine rk_iald hx hb hK hP (ky_7_0 hk_j0a) ac_12 _ rfl h.1 dX7_turnOf_38 ?_
      replace h := h.2
      refine lv_goto (tgt := 44) hx hb dX7_turnOf_39 (by decide) ?_
      exact re_i hx hb hr hlocks hP hS h dX7_turnOf_44
set_option maxHeartbeats 4000000 in
set_option maxRecDepth 100000 in
theorem mJxf58ca_isNaN_12338 (l : Launch) (G : Gp) (z0a : UInt32) (M : Mm) (Post : Mm → Int32 → Prop) (h : wJxf58ca_isNaN_12338 Post M z0a) : CtI l yJxf58ca_isNaN_12338 wsJxf58ca_isNaN_12338 rJxf58ca_isNaN_12338 G [.float z0a] M Post := by
  refine zf_ofW (cc := cJxf58ca_isNaN_12338) (maxL := 1) (ret := (some .boolean)) (by decide +kernel) rfl ?_
  intro p e s m args below meth c s₁ B hml hv
  obtain ⟨rfl, hK, hP⟩ := hv
  have hx := B.exec
  have hb := B.bytes
  have hr := B.returns
  have hlocks := B.notSynchronized
  have hts0 := atoms_spec (ws := wsJxf58ca_isNaN_12338) B.pre
  have hts : ∀ w ∈ wsL_law, w.before _ s = true := fun w hw => hts0 w (List.mem_cons_of_mem _ hw)
  have hown : s.vm.findClass RJxf58ca = some m.cls := findClass_of_methodNamed B.named
  have hS : va_S (Fr G) s.heap s.heap [] := va_S.rf
  have hl := lv_entry ([.float z0a]) (n := 1) (Nat.le_of_ble_eq_true rfl)
  rw [lg_entry_eq]
  generalize (lg_sl ([.float z0a]) ++ List.replicate (1 - (lg_sl ([.float z0a])).length) Slot.unset).toArray = ls at hl ⊢
  have hl : lv_has ls 1 [(0, .float z0a)] := hl
  unfold wJxf58ca_isNaN_12338 at h
  refine lv_fload_n hx hb dJxf58ca_isNaN_12338_0 rfl (lv_at hl 0 rfl) ?_
  refine lv_fload_n hx hb dJxf58ca_isNaN_12338_1 rfl (lv_at hl 0 rfl) ?_
  refine lv_fcmp hx hb dJxf58ca_isNaN_12338_2 ?_
  refine lv_if_eq (tgt := 10) hx hb dJxf58ca_isNaN_12338_3 (by decide) (fun c1 => ?_) (fun c1 => ?_)
  · replace h := h.1 c1
    refine lv_iconst (v := (0 : Int32)) hx hb dJxf58ca_isNaN_12338_10 k_iconst_0 ?_
    exact re_z hx hb hr hlocks (Or.inl rfl) hP hS h dJxf58ca_isNaN_12338_11
  · replace h := h.2 c1
    refine lv_iconst (v := (1 : Int32)) hx hb dJxf58ca_isNaN_12338_6 k_iconst_1 ?_
    refine lv_goto (tgt := 11) hx hb dJxf58ca_isNaN_12338_7 (by decide) ?_
    exact re_z hx hb hr hlocks (Or.inr rfl) hP hS h dJxf58ca_isNaN_12338_11
set_option maxHeartbeats 4000000 in
set_option maxRecDepth 100000 in
theorem mJxf58ca_floatToIntBits_5c35a (l : Launch) (G : Gp) (z0a : UInt32) (M : Mm) (Post : Mm → Int32 → Prop) (h : wJxf58ca_floatToIntBits_5c35a Post M z0a) : CtI l yJxf58ca_floatToIntBits_5c35a wsJxf58ca_floatToIntBits_5c35a rJxf58ca_floatToIntBits_5c35a G [.float z0a] M Post := by
  refine zf_ofW (cc := cJxf58ca_floatToIntBits_5c35a) (maxL := 1) (ret := (some .int)) (by decide +kernel) rfl ?_
  intro p e s m args below meth c s₁ B hml hv
  obtain ⟨rfl, hK, hP⟩ := hv
  have hx := B.exec
  have hb := B.bytes
  have hr := B.returns
  have hlocks := B.notSynchronized
  have hts0 := atoms_spec (ws := wsJxf58ca_floatToIntBits_5c35a) B.pre
  have hts : ∀ w ∈ wsL_law, w.before _ s = true := fun w hw => hts0 w (List.mem_cons_of_mem _ hw)
  have hown : s.vm.findClass RJxf58ca = some m.cls := findClass_of_methodNamed B.named
  have hS : va_S (Fr G) s.heap s.heap [] := va_S.rf
  have hl := lv_entry ([.float z0a]) (n := 1) (Nat.le_of_ble_eq_true rfl)
  rw [lg_entry_eq]
  generalize (lg_sl ([.float z0a]) ++ List.replicate (1 - (lg_sl ([.float z0a])).length) Slot.unset).toArray = ls at hl ⊢
  have hl : lv_has ls 1 [(0, .float z0a)] := hl
  unfold wJxf58ca_floatToIntBits_5c35a at h
  refine lv_fload_n hx hb dJxf58ca_floatToIntBits_5c35a_0 rfl (lv_at hl 0 rfl) ?_
  refine rc_Si (As := [.float z0a]) (rest := []) ⟨hx, hb, hml, hown, hts⟩ (mJxf58ca_isNaN_12338 l G z0a M _ h) (va_cwS 1 hts (gS_Jxf58ca_isNaN_12338 q_26_19) rfl rfl rfl hdS_Jxf58ca_isNaN_12338 ⟨Nat.le_of_ble_eq_true rfl, Nat.le_of_ble_eq_true rfl⟩) hK hP hS rfl hl.1 rfl (Nat.le_of_ble_eq_true rfl) dJxf58ca_floatToIntBits_5c35a_1 ⟨Nat.zero_le _, Nat.zero_le _⟩ (fun r2 M1 H locs h hP hS => ?_)
  refine lv_if_ne (tgt := 12) hx hb dJxf58ca_floatToIntBits_5c35a_4 (by decide) (fun c3 => ?_) (fun c3 => ?_)
  · replace h := h.1 c3
    refine lv_ldc hx hb hown (hts _ q_26_18) dJxf58ca_floatToIntBits_5c35a_12 ?_
    exact re_i hx hb hr hlocks hP hS h dJxf58ca_floatToIntBits_5c35a_14
  · replace h := h.2 c3
    refine lv_fload_n hx hb dJxf58ca_floatToIntBits_5c35a_7 rfl (lv_at hl 0 rfl) ?_
    refine vn_f2i hx hb (hml.trans hl.1.symm) hown (hts _ q_26_14) (hts _ q_26_15) (hts _ q_26_16) (hts _ q_26_17) (Nat.le_of_ble_eq_true rfl) (Nat.le_of_ble_eq_true rfl) dJxf58ca_floatToIntBits_5c35a_8 ?_
    exact re_i hx hb hr hlocks hP hS h dJxf58ca_floatToIntBits_5c35a_11
set_option maxHeartbeats 4000000 in
set_option maxRecDepth 100000 in
theorem mX7_share (l : Launch) (G : Gp) (j0a : Nat) (x1a : Int32) (M : Mm) (Post : Mm → Int32 → Prop) (hk_j0a : kd j0a = 7) (h : wX7_share Post M j0a x1a) : CtI l yX7_share wsX7_share rX7_share G [.ref (G.2.1 + j0a), .int x1a] M Post := by
  refine Met.ofW (cc := cX7_share) (maxL := 2) (ret := (some .int)) (by decide) rfl ?_
  intro p e s m args below meth c s₁ B hml hv
  obtain ⟨rfl, hK, hP⟩ := hv
  have hx := B.exec
  have hb := B.bytes
  have hr := B.returns
  have hlocks := B.notSynchronized
  have hts0 := atoms_spec (ws := wsX7_share) B.pre
  have hts : ∀ w ∈ wsL_law, w.before _ s = true := fun w hw => hts0 w (List.mem_cons_of_mem _ hw)
  have hown : s.vm.findClass RX7 = some m.cls := findClass_of_methodNamed B.named
  have hS : va_S (Fr G) s.heap s.heap [] := va_S.rf
  have hl := lv_entry ([.ref (G.2.1 + j0a), .int x1a]) (n := 2) (Nat.le_of_ble_eq_true rfl)
  rw [lg_entry_eq]
  generalize (lg_sl ([.ref (G.2.1 + j0a), .int x1a]) ++ List.replicate (2 - (lg_sl ([.ref (G.2.1 + j0a), .int x1a])).length) Slot.unset).toArray = ls at hl ⊢
  have hl : lv_has ls 2 [(0, .ref (G.2.1 + j0a)), (1, .int x1a)] := hl
  unfold wX7_share at h
  refine lv_iload_n hx hb dX7_share_0 rfl (lv_at hl 1 rfl) ?_
  refine lv_iconst (v := (0 : Int32)) hx hb dX7_share_1 k_iconst_0 ?_
  refine lv_iconst (v := (2 : Int32)) hx hb dX7_share_2 k_iconst_2 ?_
  refine rc_Si (As := [.int x1a, .int (0 : Int32), .int (2 : Int32)]) (rest := []) ⟨hx, hb, hml, hown, hts⟩ (mX7_in l G x1a (0 : Int32) (2 : Int32) M _ h) (va_cwS 3 hts (gS_X7_in q_7_19) rfl rfl rfl hdS_X7_in ⟨Nat.le_of_ble_eq_true rfl, Nat.le_of_ble_eq_true rfl⟩) hK hP hS rfl hl.1 rfl (Nat.le_of_ble_eq_true rfl) dX7_share_3 ⟨Nat.zero_le _, Nat.zero_le _⟩ (fun r2 M1 H locs h hP hS => ?_)
  refine lv_if_ne (tgt := 12) hx hb dX7_share_6 (by decide) (fun c3 => ?_) (fun c3 => ?_)
  · replace h := h.1 c3
    refine lv_aload_n hx hb dX7_share_12 rfl (lv_at hl 0 rfl) ?_
    refine rk_getr hx hb hts inlX7 hown hK hP hk_j0a cl_7 0 1 fq_7_0 q_4_13 rfl dX7_share_13 ?_
    refine lv_bipush (v := (6 : Int32)) hx hb dX7_share_16 k_bipush_6 ?_
    refine rk_iald hx hb hK hP (ky_7_0 hk_j0a) ac_12 6 ix_6 vi_6_168 dX7_share_18 ?_
    refine lv_if_ne (tgt := 27) hx hb dX7_share_19 (by decide) (fun c4 => ?_) (fun c4 => ?_)
    · replace h := h.1 c4
      refine lv_aload_n hx hb dX7_share_27 rfl (lv_at hl 0 rfl) ?_
      refine rk_getr hx hb hts inlX7 hown hK hP hk_j0a cl_7 0 1 fq_7_0 q_4_13 rfl dX7_share_28 ?_
      refine lv_bipush (v := (7 : Int32)) hx hb dX7_share_31 k_bipush_7 ?_
      refine lv_iload_n hx hb dX7_share_33 rfl (lv_at hl 1 rfl) ?_
      refine lv_iadd hx hb dX7_share_34 ?_
      refine rk_iald hx hb hK hP (ky_7_0 hk_j0a) ac_12 _ rfl h.1 dX7_share_35 ?_
      replace h := h.2
      refine lv_i2f hx hb dX7_share_36 ?_
      refine lv_aload_n hx hb dX7_share_37 rfl (lv_at hl 0 rfl) ?_
      refine rk_getr hx hb hts inlX7 hown hK hP hk_j0a cl_7 0 1 fq_7_0 q_4_13 rfl dX7_share_38 ?_
      refine lv_bipush (v := (6 : Int32)) hx hb dX7_share_41 k_bipush_6 ?_
      refine rk_iald hx hb hK hP (ky_7_0 hk_j0a) ac_12 6 ix_6 vi_6_168 dX7_share_43 ?_
      refine lv_i2f hx hb dX7_share_44 ?_
      refine lv_fdiv hx hb dX7_share_45 h.1 ?_
      replace h := h.2
      refine rc_Si (As := [.float (FP.fdiv (FP.i2f (M1 (j0a + 1) (ix ((7 : Int32) + x1a)))) (FP.i2f (M1 (j0a + 1) 6)))]) (rest := []) ⟨hx, hb, hml, hown, hts⟩ (mJxf58ca_floatToIntBits_5c35a l G (FP.fdiv (FP.i2f (M1 (j0a + 1) (ix ((7 : Int32) + x1a)))) (FP.i2f (M1 (j0a + 1) 6))) M1 _ h) (va_cwS 1 hts (gS_Jxf58ca_floatToIntBits_5c35a q_26_10) rfl rfl rfl hdS_Jxf58ca_floatToIntBits_5c35a ⟨Nat.le_of_ble_eq_true rfl, Nat.le_of_ble_eq_true rfl⟩) hK hP hS rfl hl.1 rfl (Nat.le_of_ble_eq_true rfl) dX7_share_46 ⟨Nat.zero_le _, Nat.zero_le _⟩ (fun r6 M5 H locs h hP hS => ?_)
      exact re_i hx hb hr hlocks hP hS h dX7_share_49
    · replace h := h.2 c4
      refine lv_ldc hx hb hown (hts _ q_24_4) dX7_share_22 ?_
      refine lv_goto (tgt := 49) hx hb dX7_share_24 (by decide) ?_
      exact re_i hx hb hr hlocks hP hS h dX7_share_49
  · replace h := h.2 c3
    refine lv_ldc hx hb hown (hts _ q_7_13) dX7_share_9 ?_
    exact re_i hx hb hr hlocks hP hS h dX7_share_11
set_option maxHeartbeats 4000000 in
set_option maxRecDepth 100000 in
theorem mX7_would (l : Launch) (G : Gp) (j0a : Nat) (x1a : Int32) (x2a : Int32) (x3a : Int32) (M : Mm) (Post : Mm → Int32 → Prop) (hk_j0a : kd j0a = 7) (h : wX7_would Post M j0a x1a x2a x3a) : CtI l yX7_would wsX7_would rX7_would G [.ref (G.2.1 + j0a), .int x1a, .int x2a, .int x3a] M Post := by
  refine Met.ofW (cc := cX7_would) (maxL := 6) (ret := (some .int)) (by decide) rfl ?_
  intro p e s m args below meth c s₁ B hml hv
  obtain ⟨rfl, hK, hP⟩ := hv
  have hx := B.exec
  have hb := B.bytes
  have hr := B.returns
  have hlocks := B.notSynchronized
  have hts0 := atoms_spec (ws := wsX7_would) B.pre
  have hts : ∀ w ∈ wsL_law, w.before _ s = true := fun w hw => hts0 w (List.mem_cons_of_mem _ hw)
  have hown : s.vm.findClass RX7 = some m.cls := findClass_of_methodNamed B.named
  have hS : va_S (Fr G) s.heap s.heap [] := va_S.rf
  have hl := lv_entry ([.ref (G.2.1 + j0a), .int x1a, .int x2a, .int x3a]) (n := 6) (Nat.le_of_ble_eq_true rfl)
  rw [lg_entry_eq]
  generalize (lg_sl ([.ref (G.2.1 + j0a), .int x1a, .int x2a, .int x3a]) ++ List.replicate (6 - (lg_sl ([.ref (G.2.1 + j0a), .int x1a, .int x2a, .int x3a])).length) Slot.unset).toArray = ls at hl ⊢
  have hl : lv_has ls 6 [(0, .ref (G.2.1 + j0a)), (1, .int x1a), (2, .int x2a), (3, .int x3a)] := hl
  have B88 : ∀ (M : Mm) (j0 : Nat) (t0 : Int32) (H : Heap) (locs : List Loc) (ls : Array Slot), Rp G M H → va_S (Fr G) s.heap H locs → lv_has ls 6 [(0, .ref (G.2.1 + j0))] → kd j0 = 7 → bX7_would_88 Post M j0 t0 → Wi p l e (headSpec wsX7_would rX7_would).room s m [.ref (G.2.1 + j0a), .int x1a, .int x2a, .int x3a].toArray below meth c G Post H locs (F0 m 88 ls [.int t0]) := by
    intro M j0 t0 H locs ls hP hS hl hk_j0 h
    unfold bX7_would_88 at h
    refine lv_istore (lv' := [(4, .int t0), (0, .ref (G.2.1 + j0))]) hx hb dX7_would_88 hl (by decide) rfl (fun ls hl => ?_)
    refine lv_aload_n hx hb dX7_would_90 rfl (lv_at hl 1 rfl) ?_
    refine rk_getr hx hb hts inlX7 hown hK hP hk_j0 cl_7 0 1 fq_7_0 q_4_13 rfl dX7_would_91 ?_
    refine lv_iload hx hb dX7_would_94 (lv_at hl 0 rfl) ?_
    refine rk_iald hx hb hK hP (ky_7_0 hk_j0) ac_12 _ rfl h.1 dX7_would_96 ?_
    replace h := h.2
    refine lv_aload_n hx hb dX7_would_97 rfl (lv_at hl 1 rfl) ?_
    refine rk_getr hx hb hts inlX7 hown hK hP hk_j0 cl_7 3 4 fq_7_3 q_4_16 rfl dX7_would_98 ?_
    refine lv_iload hx hb dX7_would_101 (lv_at hl 0 rfl) ?_
    refine rk_iald hx hb hK hP (ky_7_3 hk_j0) ac_12 _ rfl h.1 dX7_would_103 ?_
    replace h := h.2
    refine lv_isub hx hb dX7_would_104 ?_
    refine lv_topi (fun x5_21 ex5_21 => ?_)
    replace h := h x5_21 ex5_21
    refine lv_istore (lv' := [(5, .int x5_21), (4, .int t0), (0, .ref (G.2.1 + j0))]) hx hb dX7_would_105 hl (by decide) rfl (fun ls hl => ?_)
    refine lv_aload_n hx hb dX7_would_107 rfl (lv_at hl 2 rfl) ?_
    refine rc_Vv (As := []) (rest := []) ⟨hx, hb, hml, hown, hts⟩ (mX7_restores l G j0 M _ hk_j0 h) (cwV 0 hts (gV_X7_restores q_27_16) rfl rfl rfl hdV_X7_restores ⟨Nat.le_of_ble_eq_true rfl, Nat.le_of_ble_eq_true rfl⟩) hK hP hS hk_j0 (by decide) cl_7 rfl hl.1 rfl (Nat.le_of_ble_eq_true rfl) dX7_would_108 ⟨Nat.zero_le _, Nat.zero_le _⟩ (fun M22 H locs h hP hS => ?_)
    refine lv_iload hx hb dX7_would_111 (lv_at hl 0 rfl) ?_
    exact re_i hx hb hr hlocks hP hS h dX7_would_113
  have B48 : ∀ (M : Mm) (j0 : Nat) (x1 : Int32) (x2 : Int32) (x3 : Int32) (H : Heap) (locs : List Loc) (ls : Array Slot), Rp G M H → va_S (Fr G) s.heap H locs → lv_has ls 6 [(0, .ref (G.2.1 + j0)), (1, .int x1), (2, .int x2), (3, .int x3)] → kd j0 = 7 → bX7_would_48 Post M j0 x1 x2 x3 → Wi p l e (headSpec wsX7_would rX7_would).room s m [.ref (G.2.1 + j0a), .int x1a, .int x2a, .int x3a].toArray below meth c G Post H locs (F0 m 48 ls []) := by
    intro M j0 x1 x2 x3 H locs ls hP hS hl hk_j0 h
    unfold bX7_would_48 at h
    refine lv_aload_n hx hb dX7_would_48 rfl (lv_at hl 0 rfl) ?_
    refine rc_Vv (As := []) (rest := []) ⟨hx, hb, hml, hown, hts⟩ (mX7_puts l G j0 M _ hk_j0 h) (cwV 0 hts (gV_X7_puts q_27_12) rfl rfl rfl hdV_X7_puts ⟨Nat.le_of_ble_eq_true rfl, Nat.le_of_ble_eq_true rfl⟩) hK hP hS hk_j0 (by decide) cl_7 rfl hl.1 rfl (Nat.le_of_ble_eq_true rfl) dX7_would_49 ⟨Nat.zero_le _, Nat.zero_le _⟩ (fun M14 H locs h hP hS => ?_)
    refine lv_aload_n hx hb dX7_would_52 rfl (lv_at hl 0 rfl) ?_
    refine lv_iload_n hx hb dX7_would_53 rfl (lv_at hl 1 rfl) ?_
    refine rc_Vv (As := [.int x1]) (rest := []) ⟨hx, hb, hml, hown, hts⟩ (mX7_sets l G j0 x1 M14 _ hk_j0 h) (cwV 1 hts (gV_X7_sets q_23_1) rfl rfl rfl hdV_X7_sets ⟨Nat.le_of_ble_eq_true rfl, Nat.le_of_ble_eq_true rfl⟩) hK hP hS hk_j0 (by decide) cl_7 rfl hl.1 rfl (Nat.le_of_ble_eq_true rfl) dX7_would_54 ⟨Nat.zero_le _, Nat.zero_le _⟩ (fun M16 H locs h hP hS => ?_)
    refine lv_aload_n hx hb dX7_would_57 rfl (lv_at hl 0 rfl) ?_
    refine lv_iload_n hx hb dX7_would_58 rfl (lv_at hl 2 rfl) ?_
    refine rc_Vi (As := [.int x2]) (rest := []) ⟨hx, hb, hml, hown, hts⟩ (mX7_flows l G j0 x2 M16 _ hk_j0 h) (cwV 1 hts (gV_X7_flows q_20_11) rfl rfl rfl hdV_X7_flows ⟨Nat.le_of_ble_eq_true rfl, Nat.le_of_ble_eq_true rfl⟩) hK hP hS hk_j0 (by decide) cl_7 rfl hl.1 rfl (Nat.le_of_ble_eq_true rfl) dX7_would_59 ⟨Nat.zero_le _, Nat.zero_le _⟩ (fun r19 M18 H locs h hP hS => ?_)
    refine lv_pop hx hb dX7_would_62 rfl ?_
    refine lv_iload_n hx hb dX7_would_63 rfl (lv_at hl 3 rfl) ?_
    refine lv_bipush (v := (10 : Int32)) hx hb dX7_would_64 k_bipush_10 ?_
    refine lv_icmp_ge (tgt := 76) hx hb dX7_would_66 (by decide) (fun c20 => ?_) (fun c20 => ?_)
    · replace h := h.1 c20
      refine lv_bipush (v := (82 : Int32)) hx hb dX7_would_76 k_bipush_82 ?_
      refine lv_bipush (v := (7 : Int32)) hx hb dX7_would_78 k_bipush_7 ?_
      refine lv_iload_n hx hb dX7_would_80 rfl (lv_at hl 3 rfl) ?_
      refine lv_bipush (v := (10 : Int32)) hx hb dX7_would_81 k_bipush_10 ?_
      refine lv_isub hx hb dX7_would_83 ?_
      refine lv_imul hx hb dX7_would_84 ?_
      refine lv_iadd hx hb dX7_would_85 ?_
      refine lv_iconst (v := (4 : Int32)) hx hb dX7_would_86 k_iconst_4 ?_
      refine lv_iadd hx hb dX7_would_87 ?_
      exact B88 _ _ _ _ _ _ hP hS (lv_sub hl [0] rfl) hk_j0 h
    · replace h := h.2 c20
      refine lv_bipush (v := (7 : Int32)) hx hb dX7_would_69 k_bipush_7 ?_
      refine lv_iload_n hx hb dX7_would_71 rfl (lv_at hl 3 rfl) ?_
      refine lv_iadd hx hb dX7_would_72 ?_
      refine lv_goto (tgt := 88) hx hb dX7_would_73 (by decide) ?_
      exact B88 _ _ _ _ _ _ hP hS (lv_sub hl [0] rfl) hk_j0 h
  unfold wX7_would at h
  refine lv_aload_n hx hb dX7_would_0 rfl (lv_at hl 0 rfl) ?_
  refine lv_iload_n hx hb dX7_would_1 rfl (lv_at hl 1 rfl) ?_
  refine rc_Vi (As := [.int x1a]) (rest := []) ⟨hx, hb, hml, hown, hts⟩ (mX7_areGates l G j0a x1a M _ hk_j0a h) (cwV 1 hts (gV_X7_areGates q_16_1) rfl rfl rfl hdV_X7_areGates ⟨Nat.le_of_ble_eq_true rfl, Nat.le_of_ble_eq_true rfl⟩) hK hP hS hk_j0a (by decide) cl_7 rfl hl.1 rfl (Nat.le_of_ble_eq_true rfl) dX7_would_2 ⟨Nat.zero_le _, Nat.zero_le _⟩ (fun r2 M1 H locs h hP hS => ?_)
  refine lv_if_eq (tgt := 45) hx hb dX7_would_5 (by decide) (fun c3 => ?_) (fun c3 => ?_)
  · replace h := h.1 c3
    refine lv_ldc hx hb hown (hts _ q_7_13) dX7_would_45 ?_
    exact re_i hx hb hr hlocks hP hS h dX7_would_47
  · replace h := h.2 c3
    refine lv_iload_n hx hb dX7_would_8 rfl (lv_at hl 2 rfl) ?_
    refine lv_iconst (v := (0 : Int32)) hx hb dX7_would_9 k_iconst_0 ?_
    refine lv_sipush (v := (999 : Int32)) hx hb dX7_would_10 k_sipush_999 ?_
    refine rc_Si (As := [.int x2a, .int (0 : Int32), .int (999 : Int32)]) (rest := []) ⟨hx, hb, hml, hown, hts⟩ (mX7_in l G x2a (0 : Int32) (999 : Int32) M1 _ h) (va_cwS 3 hts (gS_X7_in q_7_19) rfl rfl rfl hdS_X7_in ⟨Nat.le_of_ble_eq_true rfl, Nat.le_of_ble_eq_true rfl⟩) hK hP hS rfl hl.1 rfl (Nat.le_of_ble_eq_true rfl) dX7_would_13 ⟨Nat.zero_le _, Nat.zero_le _⟩ (fun r5 M4 H locs h hP hS => ?_)
    refine lv_if_eq (tgt := 45) hx hb dX7_would_16 (by decide) (fun c6 => ?_) (fun c6 => ?_)
    · replace h := h.1 c6
      refine lv_ldc hx hb hown (hts _ q_7_13) dX7_would_45 ?_
      exact re_i hx hb hr hlocks hP hS h dX7_would_47
    · replace h := h.2 c6
      refine lv_iload_n hx hb dX7_would_19 rfl (lv_at hl 3 rfl) ?_
      refine lv_iconst (v := (0 : Int32)) hx hb dX7_would_20 k_iconst_0 ?_
      refine lv_iconst (v := (2 : Int32)) hx hb dX7_would_21 k_iconst_2 ?_
      refine rc_Si (As := [.int x3a, .int (0 : Int32), .int (2 : Int32)]) (rest := []) ⟨hx, hb, hml, hown, hts⟩ (mX7_in l G x3a (0 : Int32) (2 : Int32) M4 _ h) (va_cwS 3 hts (gS_X7_in q_7_19) rfl rfl rfl hdS_X7_in ⟨Nat.le_of_ble_eq_true rfl, Nat.le_of_ble_eq_true rfl⟩) hK hP hS rfl hl.1 rfl (Nat.le_of_ble_eq_true rfl) dX7_would_22 ⟨Nat.zero_le _, Nat.zero_le _⟩ (fun r8 M7 H locs h hP hS => ?_)
      refine lv_if_ne (tgt := 48) hx hb dX7_would_25 (by decide) (fun c9 => ?_) (fun c9 => ?_)
      · replace h := h.1 c9
        exact B48 _ _ _ _ _ _ _ _ hP hS (lv_sub hl [0, 1, 2, 3] rfl) hk_j0a h
      · replace h := h.2 c9
        refine lv_iload_n hx hb dX7_would_28 rfl (lv_at hl 3 rfl) ?_
        refine lv_bipush (v := (10 : Int32)) hx hb dX7_would_29 k_bipush_10 ?_
        refine lv_icmp_lt (tgt := 45) hx hb dX7_would_31 (by decide) (fun c10 => ?_) (fun c10 => ?_)
        · replace h := h.1 c10
          refine lv_ldc hx hb hown (hts _ q_7_13) dX7_would_45 ?_
          exact re_i hx hb hr hlocks hP hS h dX7_would_47
        · replace h := h.2 c10
          refine lv_aload_n hx hb dX7_would_34 rfl (lv_at hl 0 rfl) ?_
          refine lv_iload_n hx hb dX7_would_35 rfl (lv_at hl 3 rfl) ?_
          refine lv_bipush (v := (10 : Int32)) hx hb dX7_would_36 k_bipush_10 ?_
          refine lv_isub hx hb dX7_would_38 ?_
          refine rc_Vi (As := [.int (x3a - (10 : Int32))]) (rest := []) ⟨hx, hb, hml, hown, hts⟩ (mX7_isField l G j0a (x3a - (10 : Int32)) M7 _ hk_j0a h) (cwV 1 hts (gV_X7_isField q_14_4) rfl rfl rfl hdV_X7_isField ⟨Nat.le_of_ble_eq_true rfl, Nat.le_of_ble_eq_true rfl⟩) hK hP hS hk_j0a (by decide) cl_7 rfl hl.1 rfl (Nat.le_of_ble_eq_true rfl) dX7_would_39 ⟨Nat.zero_le _, Nat.zero_le _⟩ (fun r12 M11 H locs h hP hS => ?_)
          refine lv_if_ne (tgt := 48) hx hb dX7_would_42 (by decide) (fun c13 => ?_) (fun c13 => ?_)
          · replace h := h.1 c13
            exact B48 _ _ _ _ _ _ _ _ hP hS (lv_sub hl [0, 1, 2, 3] rfl) hk_j0a h
          · replace h := h.2 c13
            refine lv_ldc hx hb hown (hts _ q_7_13) dX7_would_45 ?_
            exact re_i hx hb hr hlocks hP hS h dX7_would_47
set_option maxHeartbeats 4000000 in
set_option maxRecDepth 100000 in
theorem mX7_haveGot (l : Launch) (G : Gp) (j0a : Nat) (x1a : Int32) (M : Mm) (Post : Mm → Int32 → Prop) (hk_j0a : kd j0a = 7) (h : wX7_haveGot Post M j0a x1a) : CtI l yX7_haveGot wsX7_haveGot rX7_haveGot G [.ref (G.2.1 + j0a), .int x1a] M Post := by
  refine Met.ofW (cc := cX7_haveGot) (maxL := 4) (ret := (some .boolean)) (by decide) rfl ?_
  intro p e s m args below meth c s₁ B hml hv
  obtain ⟨rfl, hK, hP⟩ := hv
  have hx := B.exec
  have hb := B.bytes
  have hr := B.returns
  have hlocks := B.notSynchronized
  have hts0 := atoms_spec (ws := wsX7_haveGot) B.pre
  have hts : ∀ w ∈ wsL_law, w.before _ s = true := fun w hw => hts0 w (List.mem_cons_of_mem _ hw)
  have hown : s.vm.findClass RX7 = some m.cls := findClass_of_methodNamed B.named
  have hS : va_S (Fr G) s.heap s.heap [] := va_S.rf
  have hl := lv_entry ([.ref (G.2.1 + j0a), .int x1a]) (n := 4) (Nat.le_of_ble_eq_true rfl)
  rw [lg_entry_eq]
  generalize (lg_sl ([.ref (G.2.1 + j0a), .int x1a]) ++ List.replicate (4 - (lg_sl ([.ref (G.2.1 + j0a), .int x1a])).length) Slot.unset).toArray = ls at hl ⊢
  have hl : lv_has ls 4 [(0, .ref (G.2.1 + j0a)), (1, .int x1a)] := hl
  have B4 : ∀ n : Nat, ∀ (M : Mm) (j0 : Nat) (x1 : Int32) (x2 : Int32) (x3 : Int32) (H : Heap) (locs : List Loc) (ls : Array Slot), Rp G M H → va_S (Fr G) s.heap H locs → lv_has ls 4 [(0, .ref (G.2.1 + j0)), (1, .int x1), (2, .int x2), (3, .int x3)] → kd j0 = 7 → lX7_haveGot_4 Post n M j0 x1 x2 x3 → Wi p l e (headSpec wsX7_haveGot rX7_haveGot).room s m [.ref (G.2.1 + j0a), .int x1a].toArray below meth c G Post H locs (F0 m 4 ls []) := by
    intro n
    induction n with
    | zero => intro M j0 x1 x2 x3 H locs ls hP hS hl hk_j0 h; exact h.elim
    | succ n ih =>
      intro M j0 x1 x2 x3 H locs ls hP hS hl hk_j0 h
      have hA4 := ih
      replace h : bX7_haveGot_4 Post (lX7_haveGot_4 Post n) M j0 x1 x2 x3 := h
      unfold bX7_haveGot_4 at h
      refine lv_iload_n hx hb dX7_haveGot_4 rfl (lv_at hl 3 rfl) ?_
      refine lv_aload_n hx hb dX7_haveGot_5 rfl (lv_at hl 0 rfl) ?_
      refine rk_getr hx hb hts inlX7 hown hK hP hk_j0 cl_7 0 1 fq_7_0 q_4_13 rfl dX7_haveGot_6 ?_
      refine lv_iconst (v := (1 : Int32)) hx hb dX7_haveGot_9 k_iconst_1 ?_
      refine rk_iald hx hb hK hP (ky_7_0 hk_j0) ac_12 1 ix_1 vi_1_168 dX7_haveGot_10 ?_
      refine lv_icmp_ge (tgt := 46) hx hb dX7_haveGot_11 (by decide) (fun c2 => ?_) (fun c2 => ?_)
      · replace h := h.1 c2
        refine lv_iload_n hx hb dX7_haveGot_46 rfl (lv_at hl 2 rfl) ?_
        exact re_z hx hb hr hlocks h.1 hP hS h.2 dX7_haveGot_47
      · replace h := h.2 c2
        refine lv_iload_n hx hb dX7_haveGot_14 rfl (lv_at hl 2 rfl) ?_
        refine lv_if_eq (tgt := 38) hx hb dX7_haveGot_15 (by decide) (fun c3 => ?_) (fun c3 => ?_)
        · replace h := h.1 c3
          refine lv_iconst (v := (0 : Int32)) hx hb dX7_haveGot_38 k_iconst_0 ?_
          refine lv_istore_n (lv' := [(2, .int (0 : Int32)), (0, .ref (G.2.1 + j0)), (1, .int x1), (3, .int x3)]) hx hb dX7_haveGot_39 rfl hl (by decide) rfl (fun ls hl => ?_)
          obtain ⟨x3_4, ex3_4⟩ : ∃ y : Int32, y = x3 + (1 : Int32) := ⟨_, rfl⟩
          replace h := h x3_4 ex3_4
          refine lv_iinc (v := x3_4) (lv' := [(3, .int x3_4), (2, .int (0 : Int32)), (0, .ref (G.2.1 + j0)), (1, .int x1)]) hx hb dX7_haveGot_40 hl (k := 3) rfl (by rw [ex3_4]; rfl) (by decide) rfl (fun ls hl => ?_)
          refine lv_goto (tgt := 4) hx hb dX7_haveGot_43 (by decide) ?_
          exact hA4 _ _ _ _ _ _ _ _ hP hS (lv_sub hl [2, 3, 1, 0] rfl) hk_j0 h
        · replace h := h.2 c3
          refine lv_iload_n hx hb dX7_haveGot_18 rfl (lv_at hl 1 rfl) ?_
          refine lv_iload_n hx hb dX7_haveGot_19 rfl (lv_at hl 3 rfl) ?_
          refine lv_ishr hx hb dX7_haveGot_20 ?_
          refine lv_iconst (v := (1 : Int32)) hx hb dX7_haveGot_21 k_iconst_1 ?_
          refine lv_iand hx hb dX7_haveGot_22 ?_
          refine lv_if_eq (tgt := 34) hx hb dX7_haveGot_23 (by decide) (fun c5 => ?_) (fun c5 => ?_)
          · replace h := h.1 c5
            refine lv_iconst (v := (1 : Int32)) hx hb dX7_haveGot_34 k_iconst_1 ?_
            refine lv_goto (tgt := 39) hx hb dX7_haveGot_35 (by decide) ?_
            refine lv_istore_n (lv' := [(2, .int (1 : Int32)), (0, .ref (G.2.1 + j0)), (1, .int x1), (3, .int x3)]) hx hb dX7_haveGot_39 rfl hl (by decide) rfl (fun ls hl => ?_)
            obtain ⟨x3_6, ex3_6⟩ : ∃ y : Int32, y = x3 + (1 : Int32) := ⟨_, rfl⟩
            replace h := h x3_6 ex3_6
            refine lv_iinc (v := x3_6) (lv' := [(3, .int x3_6), (2, .int (1 : Int32)), (0, .ref (G.2.1 + j0)), (1, .int x1)]) hx hb dX7_haveGot_40 hl (k := 3) rfl (by rw [ex3_6]; rfl) (by decide) rfl (fun ls hl => ?_)
            refine lv_goto (tgt := 4) hx hb dX7_haveGot_43 (by decide) ?_
            exact hA4 _ _ _ _ _ _ _ _ hP hS (lv_sub hl [2, 3, 1, 0] rfl) hk_j0 h
          · replace h := h.2 c5
            refine lv_aload_n hx hb dX7_haveGot_26 rfl (lv_at hl 0 rfl) ?_
            refine lv_iload_n hx hb dX7_haveGot_27 rfl (lv_at hl 3 rfl) ?_
            refine rc_Vi (As := [.int x3]) (rest := []) ⟨hx, hb, hml, hown, hts⟩ (mX7_wants l G j0 x3 M _ hk_j0 h) (cwV 1 hts (gV_X7_wants q_14_12) rfl rfl rfl hdV_X7_wants ⟨Nat.le_of_ble_eq_true rfl, Nat.le_of_ble_eq_true rfl⟩) hK hP hS hk_j0 (by decide) cl_7 rfl hl.1 rfl (Nat.le_of_ble_eq_true rfl) dX7_haveGot_28 ⟨Nat.zero_le _, Nat.zero_le _⟩ (fun r8 M7 H locs h hP hS => ?_)
            refine lv_if_ne (tgt := 38) hx hb dX7_haveGot_31 (by decide) (fun c9 => ?_) (fun c9 => ?_)
            · replace h := h.1 c9
              refine lv_iconst (v := (0 : Int32)) hx hb dX7_haveGot_38 k_iconst_0 ?_
              refine lv_istore_n (lv' := [(2, .int (0 : Int32)), (0, .ref (G.2.1 + j0)), (1, .int x1), (3, .int x3)]) hx hb dX7_haveGot_39 rfl hl (by decide) rfl (fun ls hl => ?_)
              obtain ⟨x3_10, ex3_10⟩ : ∃ y : Int32, y = x3 + (1 : Int32) := ⟨_, rfl⟩
              replace h := h x3_10 ex3_10
              refine lv_iinc (v := x3_10) (lv' := [(3, .int x3_10), (2, .int (0 : Int32)), (0, .ref (G.2.1 + j0)), (1, .int x1)]) hx hb dX7_haveGot_40 hl (k := 3) rfl (by rw [ex3_10]; rfl) (by decide) rfl (fun ls hl => ?_)
              refine lv_goto (tgt := 4) hx hb dX7_haveGot_43 (by decide) ?_
              exact hA4 _ _ _ _ _ _ _ _ hP hS (lv_sub hl [2, 3, 1, 0] rfl) hk_j0 h
            · replace h := h.2 c9
              refine lv_iconst (v := (1 : Int32)) hx hb dX7_haveGot_34 k_iconst_1 ?_
              refine lv_goto (tgt := 39) hx hb dX7_haveGot_35 (by decide) ?_
              refine lv_istore_n (lv' := [(2, .int (1 : Int32)), (0, .ref (G.2.1 + j0)), (1, .int x1), (3, .int x3)]) hx hb dX7_haveGot_39 rfl hl (by decide) rfl (fun ls hl => ?_)
              obtain ⟨x3_11, ex3_11⟩ : ∃ y : Int32, y = x3 + (1 : Int32) := ⟨_, rfl⟩
              replace h := h x3_11 ex3_11
              refine lv_iinc (v := x3_11) (lv' := [(3, .int x3_11), (2, .int (1 : Int32)), (0, .ref (G.2.1 + j0)), (1, .int x1)]) hx hb dX7_haveGot_40 hl (k := 3) rfl (by rw [ex3_11]; rfl) (by decide) rfl (fun ls hl => ?_)
              refine lv_goto (tgt := 4) hx hb dX7_haveGot_43 (by decide) ?_
              exact hA4 _ _ _ _ _ _ _ _ hP hS (lv_sub hl [2, 3, 1, 0] rfl) hk_j0 h
  unfold wX7_haveGot at h
  refine lv_iconst (v := (1 : Int32)) hx hb dX7_haveGot_0 k_iconst_1 ?_
  refine lv_istore_n (lv' := [(2, .int (1 : Int32)), (0, .ref (G.2.1 + j0a)), (1, .int x1a)]) hx hb dX7_haveGot_1 rfl hl (by decide) rfl (fun ls hl => ?_)
  refine lv_iconst (v := (0 : Int32)) hx hb dX7_haveGot_2 k_iconst_0 ?_
  refine lv_istore_n (lv' := [(3, .int (0 : Int32)), (2, .int (1 : Int32)), (0, .ref (G.2.1 + j0a)), (1, .int x1a)]) hx hb dX7_haveGot_3 rfl hl (by decide) rfl (fun ls hl => ?_)
  obtain ⟨n1, h⟩ := h
  exact B4 _ _ _ _ _ _ _ _ _ hP hS (lv_sub hl [2, 3, 1, 0] rfl) hk_j0a h
set_option maxHeartbeats 4000000 in
set_option maxRecDepth 100000 in
theorem mX7_leastGates (l : Launch) (G : Gp) (j0a : Nat) (x1a : Int32) (x2a : Int32) (x3a : Int32) (M : Mm) (Post : Mm → Int32 → Prop) (hk_j0a : kd j0a = 7) (h : wX7_leastGates Post M j0a x1a x2a x3a) : CtI l yX7_leastGates wsX7_leastGates rX7_leastGates G [.ref (G.2.1 + j0a), .int x1a, .int x2a, .int x3a] M Post := by
  refine Met.ofW (cc := cX7_leastGates) (maxL := 7) (ret := (some .int)) (by decide) rfl ?_
  intro p e s m args below meth c s₁ B hml hv
  obtain ⟨rfl, hK, hP⟩ := hv
  have hx := B.exec
  have hb := B.bytes
  have hr := B.returns
  have hlocks := B.notSynchronized
  have hts0 := atoms_spec (ws := wsX7_leastGates) B.pre
  have hts : ∀ w ∈ wsL_law, w.before _ s = true := fun w hw => hts0 w (List.mem_cons_of_mem _ hw)
  have hown : s.vm.findClass RX7 = some m.cls := findClass_of_methodNamed B.named
  have hS : va_S (Fr G) s.heap s.heap [] := va_S.rf
  have hl := lv_entry ([.ref (G.2.1 + j0a), .int x1a, .int x2a, .int x3a]) (n := 7) (Nat.le_of_ble_eq_true rfl)
  rw [lg_entry_eq]
  generalize (lg_sl ([.ref (G.2.1 + j0a), .int x1a, .int x2a, .int x3a]) ++ List.replicate (7 - (lg_sl ([.ref (G.2.1 + j0a), .int x1a, .int x2a, .int x3a])).length) Slot.unset).toArray = ls at hl ⊢
  have hl : lv_has ls 7 [(0, .ref (G.2.1 + j0a)), (1, .int x1a), (2, .int x2a), (3, .int x3a)] := hl
  have B125 : ∀ (A52 : Mm → Nat → Int32 → Int32 → Int32 → Int32 → Int32 → Prop) (_ : ∀ (M : Mm) (j0 : Nat) (x1 : Int32) (x2 : Int32) (x3 : Int32) (x4 : Int32) (x5 : Int32) (H : Heap) (locs : List Loc) (ls : Array Slot), Rp G M H → va_S (Fr G) s.heap H locs → lv_has ls 7 [(0, .ref (G.2.1 + j0)), (1, .int x1), (2, .int x2), (3, .int x3), (4, .int x4), (5, .int x5)] → kd j0 = 7 → A52 M j0 x1 x2 x3 x4 x5 → Wi p l e (headSpec wsX7_leastGates rX7_leastGates).room s m [.ref (G.2.1 + j0a), .int x1a, .int x2a, .int x3a].toArray below meth c G Post H locs (F0 m 52 ls [])), ∀ (M : Mm) (j0 : Nat) (x1 : Int32) (x2 : Int32) (x3 : Int32) (x5 : Int32) (t0 : Int32) (H : Heap) (locs : List Loc) (ls : Array Slot), Rp G M H → va_S (Fr G) s.heap H locs → lv_has ls 7 [(0, .ref (G.2.1 + j0)), (1, .int x1), (2, .int x2), (3, .int x3), (5, .int x5)] → kd j0 = 7 → bX7_leastGates_125 Post A52 M j0 x1 x2 x3 x5 t0 → Wi p l e (headSpec wsX7_leastGates rX7_leastGates).room s m [.ref (G.2.1 + j0a), .int x1a, .int x2a, .int x3a].toArray below meth c G Post H locs (F0 m 125 ls [.int t0]) := by
    intro A52 hA52 M j0 x1 x2 x3 x5 t0 H locs ls hP hS hl hk_j0 h
    unfold bX7_leastGates_125 at h
    refine lv_istore (lv' := [(4, .int t0), (0, .ref (G.2.1 + j0)), (1, .int x1), (2, .int x2), (3, .int x3), (5, .int x5)]) hx hb dX7_leastGates_125 hl (by decide) rfl (fun ls hl => ?_)
    refine lv_aload_n hx hb dX7_leastGates_127 rfl (lv_at hl 1 rfl) ?_
    refine rc_Vv (As := []) (rest := []) ⟨hx, hb, hml, hown, hts⟩ (mX7_restores l G j0 M _ hk_j0 h) (cwV 0 hts (gV_X7_restores q_27_16) rfl rfl rfl hdV_X7_restores ⟨Nat.le_of_ble_eq_true rfl, Nat.le_of_ble_eq_true rfl⟩) hK hP hS hk_j0 (by decide) cl_7 rfl hl.1 rfl (Nat.le_of_ble_eq_true rfl) dX7_leastGates_128 ⟨Nat.zero_le _, Nat.zero_le _⟩ (fun M31 H locs h hP hS => ?_)
    obtain ⟨x5_33, ex5_33⟩ : ∃ y : Int32, y = x5 + (2 : Int32) := ⟨_, rfl⟩
    replace h := h x5_33 ex5_33
    refine lv_iinc (v := x5_33) (lv' := [(5, .int x5_33), (4, .int t0), (0, .ref (G.2.1 + j0)), (1, .int x1), (2, .int x2), (3, .int x3)]) hx hb dX7_leastGates_131 hl (k := 5) rfl (by rw [ex5_33]; rfl) (by decide) rfl (fun ls hl => ?_)
    refine lv_goto (tgt := 52) hx hb dX7_leastGates_134 (by decide) ?_
    exact hA52 _ _ _ _ _ _ _ _ _ _ hP hS (lv_sub hl [2, 3, 4, 5, 1, 0] rfl) hk_j0 h
  have B92 : ∀ (A52 : Mm → Nat → Int32 → Int32 → Int32 → Int32 → Int32 → Prop) (_ : ∀ (M : Mm) (j0 : Nat) (x1 : Int32) (x2 : Int32) (x3 : Int32) (x4 : Int32) (x5 : Int32) (H : Heap) (locs : List Loc) (ls : Array Slot), Rp G M H → va_S (Fr G) s.heap H locs → lv_has ls 7 [(0, .ref (G.2.1 + j0)), (1, .int x1), (2, .int x2), (3, .int x3), (4, .int x4), (5, .int x5)] → kd j0 = 7 → A52 M j0 x1 x2 x3 x4 x5 → Wi p l e (headSpec wsX7_leastGates rX7_leastGates).room s m [.ref (G.2.1 + j0a), .int x1a, .int x2a, .int x3a].toArray below meth c G Post H locs (F0 m 52 ls [])), ∀ n : Nat, ∀ (M : Mm) (j0 : Nat) (x1 : Int32) (x2 : Int32) (x3 : Int32) (x4 : Int32) (x5 : Int32) (x6 : Int32) (H : Heap) (locs : List Loc) (ls : Array Slot), Rp G M H → va_S (Fr G) s.heap H locs → lv_has ls 7 [(0, .ref (G.2.1 + j0)), (1, .int x1), (2, .int x2), (3, .int x3), (4, .int x4), (5, .int x5), (6, .int x6)] → kd j0 = 7 → lX7_leastGates_92 Post A52 n M j0 x1 x2 x3 x4 x5 x6 → Wi p l e (headSpec wsX7_leastGates rX7_leastGates).room s m [.ref (G.2.1 + j0a), .int x1a, .int x2a, .int x3a].toArray below meth c G Post H locs (F0 m 92 ls []) := by
    intro A52 hA52 n
    induction n with
    | zero => intro M j0 x1 x2 x3 x4 x5 x6 H locs ls hP hS hl hk_j0 h; exact h.elim
    | succ n ih =>
      intro M j0 x1 x2 x3 x4 x5 x6 H locs ls hP hS hl hk_j0 h
      have hA92 := ih
      replace h : bX7_leastGates_92 Post A52 (lX7_leastGates_92 Post A52 n) M j0 x1 x2 x3 x4 x5 x6 := h
      unfold bX7_leastGates_92 at h
      refine lv_iload hx hb dX7_leastGates_92 (lv_at hl 6 rfl) ?_
      refine lv_iload_n hx hb dX7_leastGates_94 rfl (lv_at hl 3 rfl) ?_
      refine lv_icmp_ge (tgt := 110) hx hb dX7_leastGates_95 (by decide) (fun c24 => ?_) (fun c24 => ?_)
      · replace h := h.1 c24
        refine lv_aload_n hx hb dX7_leastGates_110 rfl (lv_at hl 0 rfl) ?_
        refine lv_iload_n hx hb dX7_leastGates_111 rfl (lv_at hl 1 rfl) ?_
        refine rc_Vi (As := [.int x1]) (rest := []) ⟨hx, hb, hml, hown, hts⟩ (mX7_haveGot l G j0 x1 M _ hk_j0 h) (cwV 1 hts (gV_X7_haveGot q_28_15) rfl rfl rfl hdV_X7_haveGot ⟨Nat.le_of_ble_eq_true rfl, Nat.le_of_ble_eq_true rfl⟩) hK hP hS hk_j0 (by decide) cl_7 rfl hl.1 rfl (Nat.le_of_ble_eq_true rfl) dX7_leastGates_112 ⟨Nat.zero_le _, Nat.zero_le _⟩ (fun r26 M25 H locs h hP hS => ?_)
        refine lv_if_eq (tgt := 123) hx hb dX7_leastGates_115 (by decide) (fun c27 => ?_) (fun c27 => ?_)
        · replace h := h.1 c27
          refine lv_iload hx hb dX7_leastGates_123 (lv_at hl 4 rfl) ?_
          exact B125 _ hA52 _ _ _ _ _ _ _ _ _ _ hP hS (lv_sub hl [0, 1, 2, 3, 5] rfl) hk_j0 h
        · replace h := h.2 c27
          refine lv_iload hx hb dX7_leastGates_118 (lv_at hl 5 rfl) ?_
          refine lv_goto (tgt := 125) hx hb dX7_leastGates_120 (by decide) ?_
          exact B125 _ hA52 _ _ _ _ _ _ _ _ _ _ hP hS (lv_sub hl [0, 1, 2, 3, 5] rfl) hk_j0 h
      · replace h := h.2 c24
        refine lv_aload_n hx hb dX7_leastGates_98 rfl (lv_at hl 0 rfl) ?_
        refine lv_iload_n hx hb dX7_leastGates_99 rfl (lv_at hl 2 rfl) ?_
        refine rc_Vi (As := [.int x2]) (rest := []) ⟨hx, hb, hml, hown, hts⟩ (mX7_flows l G j0 x2 M _ hk_j0 h) (cwV 1 hts (gV_X7_flows q_20_11) rfl rfl rfl hdV_X7_flows ⟨Nat.le_of_ble_eq_true rfl, Nat.le_of_ble_eq_true rfl⟩) hK hP hS hk_j0 (by decide) cl_7 rfl hl.1 rfl (Nat.le_of_ble_eq_true rfl) dX7_leastGates_100 ⟨Nat.zero_le _, Nat.zero_le _⟩ (fun r29 M28 H locs h hP hS => ?_)
        refine lv_pop hx hb dX7_leastGates_103 rfl ?_
        obtain ⟨x6_30, ex6_30⟩ : ∃ y : Int32, y = x6 + (1 : Int32) := ⟨_, rfl⟩
        replace h := h x6_30 ex6_30
        refine lv_iinc (v := x6_30) (lv' := [(6, .int x6_30), (0, .ref (G.2.1 + j0)), (1, .int x1), (2, .int x2), (3, .int x3), (4, .int x4), (5, .int x5)]) hx hb dX7_leastGates_104 hl (k := 6) rfl (by rw [ex6_30]; rfl) (by decide) rfl (fun ls hl => ?_)
        refine lv_goto (tgt := 92) hx hb dX7_leastGates_107 (by decide) ?_
        exact hA92 _ _ _ _ _ _ _ _ _ _ _ hP hS (lv_sub hl [1, 2, 3, 4, 5, 6, 0] rfl) hk_j0 h
  have B83 : ∀ (A52 : Mm → Nat → Int32 → Int32 → Int32 → Int32 → Int32 → Prop) (_ : ∀ (M : Mm) (j0 : Nat) (x1 : Int32) (x2 : Int32) (x3 : Int32) (x4 : Int32) (x5 : Int32) (H : Heap) (locs : List Loc) (ls : Array Slot), Rp G M H → va_S (Fr G) s.heap H locs → lv_has ls 7 [(0, .ref (G.2.1 + j0)), (1, .int x1), (2, .int x2), (3, .int x3), (4, .int x4), (5, .int x5)] → kd j0 = 7 → A52 M j0 x1 x2 x3 x4 x5 → Wi p l e (headSpec wsX7_leastGates rX7_leastGates).room s m [.ref (G.2.1 + j0a), .int x1a, .int x2a, .int x3a].toArray below meth c G Post H locs (F0 m 52 ls [])), ∀ (M : Mm) (j0 : Nat) (x1 : Int32) (x2 : Int32) (x3 : Int32) (x4 : Int32) (x5 : Int32) (H : Heap) (locs : List Loc) (ls : Array Slot), Rp G M H → va_S (Fr G) s.heap H locs → lv_has ls 7 [(0, .ref (G.2.1 + j0)), (1, .int x1), (2, .int x2), (3, .int x3), (4, .int x4), (5, .int x5)] → kd j0 = 7 → bX7_leastGates_83 Post A52 M j0 x1 x2 x3 x4 x5 → Wi p l e (headSpec wsX7_leastGates rX7_leastGates).room s m [.ref (G.2.1 + j0a), .int x1a, .int x2a, .int x3a].toArray below meth c G Post H locs (F0 m 83 ls []) := by
    intro A52 hA52 M j0 x1 x2 x3 x4 x5 H locs ls hP hS hl hk_j0 h
    unfold bX7_leastGates_83 at h
    refine lv_aload_n hx hb dX7_leastGates_83 rfl (lv_at hl 0 rfl) ?_
    refine lv_iload hx hb dX7_leastGates_84 (lv_at hl 5 rfl) ?_
    refine rc_Vv (As := [.int x5]) (rest := []) ⟨hx, hb, hml, hown, hts⟩ (mX7_sets l G j0 x5 M _ hk_j0 h) (cwV 1 hts (gV_X7_sets q_23_1) rfl rfl rfl hdV_X7_sets ⟨Nat.le_of_ble_eq_true rfl, Nat.le_of_ble_eq_true rfl⟩) hK hP hS hk_j0 (by decide) cl_7 rfl hl.1 rfl (Nat.le_of_ble_eq_true rfl) dX7_leastGates_86 ⟨Nat.zero_le _, Nat.zero_le _⟩ (fun M21 H locs h hP hS => ?_)
    refine lv_iconst (v := (0 : Int32)) hx hb dX7_leastGates_89 k_iconst_0 ?_
    refine lv_istore (lv' := [(6, .int (0 : Int32)), (0, .ref (G.2.1 + j0)), (1, .int x1), (2, .int x2), (3, .int x3), (4, .int x4), (5, .int x5)]) hx hb dX7_leastGates_90 hl (by decide) rfl (fun ls hl => ?_)
    obtain ⟨n23, h⟩ := h
    exact B92 _ hA52 _ _ _ _ _ _ _ _ _ _ _ _ hP hS (lv_sub hl [1, 2, 3, 4, 5, 6, 0] rfl) hk_j0 h
  have B52 : ∀ n : Nat, ∀ (M : Mm) (j0 : Nat) (x1 : Int32) (x2 : Int32) (x3 : Int32) (x4 : Int32) (x5 : Int32) (H : Heap) (locs : List Loc) (ls : Array Slot), Rp G M H → va_S (Fr G) s.heap H locs → lv_has ls 7 [(0, .ref (G.2.1 + j0)), (1, .int x1), (2, .int x2), (3, .int x3), (4, .int x4), (5, .int x5)] → kd j0 = 7 → lX7_leastGates_52 Post n M j0 x1 x2 x3 x4 x5 → Wi p l e (headSpec wsX7_leastGates rX7_leastGates).room s m [.ref (G.2.1 + j0a), .int x1a, .int x2a, .int x3a].toArray below meth c G Post H locs (F0 m 52 ls []) := by
    intro n
    induction n with
    | zero => intro M j0 x1 x2 x3 x4 x5 H locs ls hP hS hl hk_j0 h; exact h.elim
    | succ n ih =>
      intro M j0 x1 x2 x3 x4 x5 H locs ls hP hS hl hk_j0 h
      have hA52 := ih
      replace h : bX7_leastGates_52 Post (lX7_leastGates_52 Post n) M j0 x1 x2 x3 x4 x5 := h
      unfold bX7_leastGates_52 at h
      refine lv_iload hx hb dX7_leastGates_52 (lv_at hl 5 rfl) ?_
      refine lv_iconst (v := (1 : Int32)) hx hb dX7_leastGates_54 k_iconst_1 ?_
      refine lv_aload_n hx hb dX7_leastGates_55 rfl (lv_at hl 0 rfl) ?_
      refine rk_getr hx hb hts inlX7 hown hK hP hk_j0 cl_7 0 1 fq_7_0 q_4_13 rfl dX7_leastGates_56 ?_
      refine lv_iconst (v := (0 : Int32)) hx hb dX7_leastGates_59 k_iconst_0 ?_
      refine rk_iald hx hb hK hP (ky_7_0 hk_j0) ac_12 0 ix_0 vi_0_168 dX7_leastGates_60 ?_
      refine lv_ishl hx hb dX7_leastGates_61 ?_
      refine lv_icmp_ge (tgt := 137) hx hb dX7_leastGates_62 (by decide) (fun c13 => ?_) (fun c13 => ?_)
      · replace h := h.1 c13
        refine lv_iload hx hb dX7_leastGates_137 (lv_at hl 4 rfl) ?_
        exact re_i hx hb hr hlocks hP hS h dX7_leastGates_139
      · replace h := h.2 c13
        refine lv_iload hx hb dX7_leastGates_65 (lv_at hl 4 rfl) ?_
        refine lv_if_lt (tgt := 83) hx hb dX7_leastGates_67 (by decide) (fun c14 => ?_) (fun c14 => ?_)
        · replace h := h.1 c14
          exact B83 _ hA52 _ _ _ _ _ _ _ _ _ _ hP hS (lv_sub hl [0, 1, 2, 3, 4, 5] rfl) hk_j0 h
        · replace h := h.2 c14
          refine lv_iload hx hb dX7_leastGates_70 (lv_at hl 5 rfl) ?_
          refine rc_Si (As := [.int x5]) (rest := []) ⟨hx, hb, hml, hown, hts⟩ (mX7_ones l G x5 M _ h) (va_cwS 1 hts (gS_X7_ones q_14_20) rfl rfl rfl hdS_X7_ones ⟨Nat.le_of_ble_eq_true rfl, Nat.le_of_ble_eq_true rfl⟩) hK hP hS rfl hl.1 rfl (Nat.le_of_ble_eq_true rfl) dX7_leastGates_72 ⟨Nat.zero_le _, Nat.zero_le _⟩ (fun r16 M15 H locs h hP hS => ?_)
          refine lv_iload hx hb dX7_leastGates_75 (lv_at hl 4 rfl) ?_
          refine rc_Si (As := [.int x4]) (rest := [.int r16]) ⟨hx, hb, hml, hown, hts⟩ (mX7_ones l G x4 M15 _ h) (va_cwS 1 hts (gS_X7_ones q_14_20) rfl rfl rfl hdS_X7_ones ⟨Nat.le_of_ble_eq_true rfl, Nat.le_of_ble_eq_true rfl⟩) hK hP hS rfl hl.1 rfl (Nat.le_of_ble_eq_true rfl) dX7_leastGates_77 ⟨Nat.zero_le _, Nat.zero_le _⟩ (fun r18 M17 H locs h hP hS => ?_)
          refine lv_icmp_ge (tgt := 131) hx hb dX7_leastGates_80 (by decide) (fun c19 => ?_) (fun c19 => ?_)
          · replace h := h.1 c19
            obtain ⟨x5_20, ex5_20⟩ : ∃ y : Int32, y = x5 + (2 : Int32) := ⟨_, rfl⟩
            replace h := h x5_20 ex5_20
            refine lv_iinc (v := x5_20) (lv' := [(5, .int x5_20), (0, .ref (G.2.1 + j0)), (1, .int x1), (2, .int x2), (3, .int x3), (4, .int x4)]) hx hb dX7_leastGates_131 hl (k := 5) rfl (by rw [ex5_20]; rfl) (by decide) rfl (fun ls hl => ?_)
            refine lv_goto (tgt := 52) hx hb dX7_leastGates_134 (by decide) ?_
            exact hA52 _ _ _ _ _ _ _ _ _ _ hP hS (lv_sub hl [1, 2, 3, 4, 5, 0] rfl) hk_j0 h
          · replace h := h.2 c19
            exact B83 _ hA52 _ _ _ _ _ _ _ _ _ _ hP hS (lv_sub hl [0, 1, 2, 3, 4, 5] rfl) hk_j0 h
  unfold wX7_leastGates at h
  refine lv_iload_n hx hb dX7_leastGates_0 rfl (lv_at hl 1 rfl) ?_
  refine lv_iconst (v := (0 : Int32)) hx hb dX7_leastGates_1 k_iconst_0 ?_
  refine lv_iconst (v := (1 : Int32)) hx hb dX7_leastGates_2 k_iconst_1 ?_
  refine lv_aload_n hx hb dX7_leastGates_3 rfl (lv_at hl 0 rfl) ?_
  refine rk_getr hx hb hts inlX7 hown hK hP hk_j0a cl_7 0 1 fq_7_0 q_4_13 rfl dX7_leastGates_4 ?_
  refine lv_iconst (v := (1 : Int32)) hx hb dX7_leastGates_7 k_iconst_1 ?_
  refine rk_iald hx hb hK hP (ky_7_0 hk_j0a) ac_12 1 ix_1 vi_1_168 dX7_leastGates_8 ?_
  refine lv_ishl hx hb dX7_leastGates_9 ?_
  refine lv_iconst (v := (1 : Int32)) hx hb dX7_leastGates_10 k_iconst_1 ?_
  refine lv_isub hx hb dX7_leastGates_11 ?_
  refine rc_Si (As := [.int x1a, .int (0 : Int32), .int (((1 : Int32) <<< ((M (j0a + 1) 1) &&& 31)) - (1 : Int32))]) (rest := []) ⟨hx, hb, hml, hown, hts⟩ (mX7_in l G x1a (0 : Int32) (((1 : Int32) <<< ((M (j0a + 1) 1) &&& 31)) - (1 : Int32)) M _ h) (va_cwS 3 hts (gS_X7_in q_7_19) rfl rfl rfl hdS_X7_in ⟨Nat.le_of_ble_eq_true rfl, Nat.le_of_ble_eq_true rfl⟩) hK hP hS rfl hl.1 rfl (Nat.le_of_ble_eq_true rfl) dX7_leastGates_12 ⟨Nat.zero_le _, Nat.zero_le _⟩ (fun r2 M1 H locs h hP hS => ?_)
  refine lv_if_eq (tgt := 38) hx hb dX7_leastGates_15 (by decide) (fun c3 => ?_) (fun c3 => ?_)
  · replace h := h.1 c3
    refine lv_ldc hx hb hown (hts _ q_7_13) dX7_leastGates_38 ?_
    exact re_i hx hb hr hlocks hP hS h dX7_leastGates_40
  · replace h := h.2 c3
    refine lv_iload_n hx hb dX7_leastGates_18 rfl (lv_at hl 2 rfl) ?_
    refine lv_iconst (v := (0 : Int32)) hx hb dX7_leastGates_19 k_iconst_0 ?_
    refine lv_sipush (v := (999 : Int32)) hx hb dX7_leastGates_20 k_sipush_999 ?_
    refine rc_Si (As := [.int x2a, .int (0 : Int32), .int (999 : Int32)]) (rest := []) ⟨hx, hb, hml, hown, hts⟩ (mX7_in l G x2a (0 : Int32) (999 : Int32) M1 _ h) (va_cwS 3 hts (gS_X7_in q_7_19) rfl rfl rfl hdS_X7_in ⟨Nat.le_of_ble_eq_true rfl, Nat.le_of_ble_eq_true rfl⟩) hK hP hS rfl hl.1 rfl (Nat.le_of_ble_eq_true rfl) dX7_leastGates_23 ⟨Nat.zero_le _, Nat.zero_le _⟩ (fun r5 M4 H locs h hP hS => ?_)
    refine lv_if_eq (tgt := 38) hx hb dX7_leastGates_26 (by decide) (fun c6 => ?_) (fun c6 => ?_)
    · replace h := h.1 c6
      refine lv_ldc hx hb hown (hts _ q_7_13) dX7_leastGates_38 ?_
      exact re_i hx hb hr hlocks hP hS h dX7_leastGates_40
    · replace h := h.2 c6
      refine lv_iload_n hx hb dX7_leastGates_29 rfl (lv_at hl 3 rfl) ?_
      refine lv_iconst (v := (1 : Int32)) hx hb dX7_leastGates_30 k_iconst_1 ?_
      refine lv_iconst (v := (5 : Int32)) hx hb dX7_leastGates_31 k_iconst_5 ?_
      refine rc_Si (As := [.int x3a, .int (1 : Int32), .int (5 : Int32)]) (rest := []) ⟨hx, hb, hml, hown, hts⟩ (mX7_in l G x3a (1 : Int32) (5 : Int32) M4 _ h) (va_cwS 3 hts (gS_X7_in q_7_19) rfl rfl rfl hdS_X7_in ⟨Nat.le_of_ble_eq_true rfl, Nat.le_of_ble_eq_true rfl⟩) hK hP hS rfl hl.1 rfl (Nat.le_of_ble_eq_true rfl) dX7_leastGates_32 ⟨Nat.zero_le _, Nat.zero_le _⟩ (fun r8 M7 H locs h hP hS => ?_)
      refine lv_if_ne (tgt := 41) hx hb dX7_leastGates_35 (by decide) (fun c9 => ?_) (fun c9 => ?_)
      · replace h := h.1 c9
        refine lv_ldc hx hb hown (hts _ q_24_4) dX7_leastGates_41 ?_
        refine lv_istore (lv' := [(4, .int (-1000004 : Int32)), (0, .ref (G.2.1 + j0a)), (1, .int x1a), (2, .int x2a), (3, .int x3a)]) hx hb dX7_leastGates_43 hl (by decide) rfl (fun ls hl => ?_)
        refine lv_aload_n hx hb dX7_leastGates_45 rfl (lv_at hl 1 rfl) ?_
        refine rc_Vv (As := []) (rest := []) ⟨hx, hb, hml, hown, hts⟩ (mX7_puts l G j0a M7 _ hk_j0a h) (cwV 0 hts (gV_X7_puts q_27_12) rfl rfl rfl hdV_X7_puts ⟨Nat.le_of_ble_eq_true rfl, Nat.le_of_ble_eq_true rfl⟩) hK hP hS hk_j0a (by decide) cl_7 rfl hl.1 rfl (Nat.le_of_ble_eq_true rfl) dX7_leastGates_46 ⟨Nat.zero_le _, Nat.zero_le _⟩ (fun M10 H locs h hP hS => ?_)
        refine lv_iconst (v := (0 : Int32)) hx hb dX7_leastGates_49 k_iconst_0 ?_
        refine lv_istore (lv' := [(5, .int (0 : Int32)), (4, .int (-1000004 : Int32)), (0, .ref (G.2.1 + j0a)), (1, .int x1a), (2, .int x2a), (3, .int x3a)]) hx hb dX7_leastGates_50 hl (by decide) rfl (fun ls hl => ?_)
        obtain ⟨n12, h⟩ := h
        exact B52 _ _ _ _ _ _ _ _ _ _ _ hP hS (lv_sub hl [2, 3, 4, 5, 1, 0] rfl) hk_j0a h
      · replace h := h.2 c9
        refine lv_ldc hx hb hown (hts _ q_7_13) dX7_leastGates_38 ?_
        exact re_i hx hb hr hlocks hP hS h dX7_leastGates_40
