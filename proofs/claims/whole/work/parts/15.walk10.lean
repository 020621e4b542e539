/-! the walks: each method keeps its predicate; printed by gen.py -/
set_option maxHeartbeats 4000000 in
set_option maxRecDepth 100000 in
theorem mX7_does (l : Launch) (G : Gp) (j0a : Nat) (x1a : Int32) (M : Mm) (Post : Mm → Int32 → Prop) (hk_j0a : kd j0a = 7) (h : wX7_does Post M j0a x1a) : CtI l yX7_does wsX7_does rX7_does G [.ref (G.2.1 + j0a), .int x1a] M Post := by
  refine Met.ofW (cc := cX7_does) (maxL := 2) (ret := (some .int)) (by decide) rfl ?_
  intro p e s m args below meth c s₁ B hml hv
  obtain ⟨rfl, hK, hP⟩ := hv
  have hx := B.exec
  have hb := B.bytes
  have hr := B.returns
  have hlocks := B.notSynchronized
  have hts0 := atoms_spec (ws := wsX7_does) B.pre
  have hts : ∀ w ∈ wsL_law, w.before _ s = true := fun w hw => hts0 w (List.mem_cons_of_mem _ hw)
  have hown : s.vm.findClass RX7 = some m.cls := findClass_of_methodNamed B.named
  have hS : va_S (Fr G) s.heap s.heap [] := va_S.rf
  have hl := lv_entry ([.ref (G.2.1 + j0a), .int x1a]) (n := 2) (Nat.le_of_ble_eq_true rfl)
  rw [lg_entry_eq]
  generalize (lg_sl ([.ref (G.2.1 + j0a), .int x1a]) ++ List.replicate (2 - (lg_sl ([.ref (G.2.1 + j0a), .int x1a])).length) Slot.unset).toArray = ls at hl ⊢
  have hl : lv_has ls 2 [(0, .ref (G.2.1 + j0a)), (1, .int x1a)] := hl
  unfold wX7_does at h
  refine lv_iload_n hx hb dX7_does_0 rfl (lv_at hl 1 rfl) ?_
  by_cases c1 : x1a = (99 : Int32)
  · replace h := h.1 c1
    refine lv_lookup (off := 55) (tgt := 56) hx hb dX7_does_1 (by decide) (by rw [c1]; rfl) (by decide) ?_
    refine lv_aload_n hx hb dX7_does_56 rfl (lv_at hl 0 rfl) ?_
    refine lv_aload_n hx hb dX7_does_57 rfl (lv_at hl 0 rfl) ?_
    refine rk_getr hx hb hts inlX7 hown hK hP hk_j0a cl_7 8 6 fq_7_8 q_4_19 rfl dX7_does_58 ?_
    refine lv_iconst (v := (0 : Int32)) hx hb dX7_does_61 k_iconst_0 ?_
    refine rk_iald hx hb hK hP (ky_7_8 hk_j0a) ac_15 0 ix_0 vi_0_2 dX7_does_62 ?_
    refine lv_iconst (v := (0 : Int32)) hx hb dX7_does_63 k_iconst_0 ?_
    refine rc_Vi (As := [.int (M (j0a + 6) 0), .int (0 : Int32)]) (rest := []) ⟨hx, hb, hml, hown, hts⟩ (mX7_moves l G j0a (M (j0a + 6) 0) (0 : Int32) M _ hk_j0a h) (cwV 2 hts (gV_X7_moves q_11_17) rfl rfl rfl hdV_X7_moves ⟨Nat.le_of_ble_eq_true rfl, Nat.le_of_ble_eq_true rfl⟩) hK hP hS hk_j0a (by decide) cl_7 rfl hl.1 rfl (Nat.le_of_ble_eq_true rfl) dX7_does_64 ⟨Nat.zero_le _, Nat.zero_le _⟩ (fun r3 M2 H locs h hP hS => ?_)
    exact re_i hx hb hr hlocks hP hS h dX7_does_67
  replace h := h.2 c1
  by_cases c4 : x1a = (104 : Int32)
  · replace h := h.1 c4
    refine lv_lookup (off := 78) (tgt := 79) hx hb dX7_does_1 (by decide) (by rw [c4]; rfl) (by decide) ?_
    refine lv_aload_n hx hb dX7_does_79 rfl (lv_at hl 0 rfl) ?_
    refine lv_aload_n hx hb dX7_does_80 rfl (lv_at hl 0 rfl) ?_
    refine rk_getr hx hb hts inlX7 hown hK hP hk_j0a cl_7 8 6 fq_7_8 q_4_19 rfl dX7_does_81 ?_
    refine lv_iconst (v := (0 : Int32)) hx hb dX7_does_84 k_iconst_0 ?_
    refine rk_iald hx hb hK hP (ky_7_8 hk_j0a) ac_15 0 ix_0 vi_0_2 dX7_does_85 ?_
    refine rc_Vi (As := [.int (M (j0a + 6) 0)]) (rest := []) ⟨hx, hb, hml, hown, hts⟩ (mX7_goes l G j0a (M (j0a + 6) 0) M _ hk_j0a h) (cwV 1 hts (gV_X7_goes q_20_7) rfl rfl rfl hdV_X7_goes ⟨Nat.le_of_ble_eq_true rfl, Nat.le_of_ble_eq_true rfl⟩) hK hP hS hk_j0a (by decide) cl_7 rfl hl.1 rfl (Nat.le_of_ble_eq_true rfl) dX7_does_86 ⟨Nat.zero_le _, Nat.zero_le _⟩ (fun r6 M5 H locs h hP hS => ?_)
    exact re_i hx hb hr hlocks hP hS h dX7_does_89
  replace h := h.2 c4
  by_cases c7 : x1a = (111 : Int32)
  · replace h := h.1 c7
    refine lv_lookup (off := 43) (tgt := 44) hx hb dX7_does_1 (by decide) (by rw [c7]; rfl) (by decide) ?_
    refine lv_aload_n hx hb dX7_does_44 rfl (lv_at hl 0 rfl) ?_
    refine lv_aload_n hx hb dX7_does_45 rfl (lv_at hl 0 rfl) ?_
    refine rk_getr hx hb hts inlX7 hown hK hP hk_j0a cl_7 8 6 fq_7_8 q_4_19 rfl dX7_does_46 ?_
    refine lv_iconst (v := (0 : Int32)) hx hb dX7_does_49 k_iconst_0 ?_
    refine rk_iald hx hb hK hP (ky_7_8 hk_j0a) ac_15 0 ix_0 vi_0_2 dX7_does_50 ?_
    refine lv_iconst (v := (1 : Int32)) hx hb dX7_does_51 k_iconst_1 ?_
    refine rc_Vi (As := [.int (M (j0a + 6) 0), .int (1 : Int32)]) (rest := []) ⟨hx, hb, hml, hown, hts⟩ (mX7_moves l G j0a (M (j0a + 6) 0) (1 : Int32) M _ hk_j0a h) (cwV 2 hts (gV_X7_moves q_11_17) rfl rfl rfl hdV_X7_moves ⟨Nat.le_of_ble_eq_true rfl, Nat.le_of_ble_eq_true rfl⟩) hK hP hS hk_j0a (by decide) cl_7 rfl hl.1 rfl (Nat.le_of_ble_eq_true rfl) dX7_does_52 ⟨Nat.zero_le _, Nat.zero_le _⟩ (fun r9 M8 H locs h hP hS => ?_)
    exact re_i hx hb hr hlocks hP hS h dX7_does_55
  replace h := h.2 c7
  by_cases c10 : x1a = (121 : Int32)
  · replace h := h.1 c10
    refine lv_lookup (off := 67) (tgt := 68) hx hb dX7_does_1 (by decide) (by rw [c10]; rfl) (by decide) ?_
    refine lv_aload_n hx hb dX7_does_68 rfl (lv_at hl 0 rfl) ?_
    refine lv_aload_n hx hb dX7_does_69 rfl (lv_at hl 0 rfl) ?_
    refine rk_getr hx hb hts inlX7 hown hK hP hk_j0a cl_7 8 6 fq_7_8 q_4_19 rfl dX7_does_70 ?_
    refine lv_iconst (v := (0 : Int32)) hx hb dX7_does_73 k_iconst_0 ?_
    refine rk_iald hx hb hK hP (ky_7_8 hk_j0a) ac_15 0 ix_0 vi_0_2 dX7_does_74 ?_
    refine rc_Vi (As := [.int (M (j0a + 6) 0)]) (rest := []) ⟨hx, hb, hml, hown, hts⟩ (mX7_calls l G j0a (M (j0a + 6) 0) M _ hk_j0a h) (cwV 1 hts (gV_X7_calls q_14_0) rfl rfl rfl hdV_X7_calls ⟨Nat.le_of_ble_eq_true rfl, Nat.le_of_ble_eq_true rfl⟩) hK hP hS hk_j0a (by decide) cl_7 rfl hl.1 rfl (Nat.le_of_ble_eq_true rfl) dX7_does_75 ⟨Nat.zero_le _, Nat.zero_le _⟩ (fun r12 M11 H locs h hP hS => ?_)
    exact re_i hx hb hr hlocks hP hS h dX7_does_78
  replace h := h.2 c10
  refine lv_lookup (off := 89) (tgt := 90) hx hb dX7_does_1 (by decide) (by show Op.lookupswitch.offset [(99, 55), (104, 78), (111, 43), (121, 67)] 89 _ = _; rw [lv_osw (a := 99) c1 rfl, lv_osw (a := 104) c4 rfl, lv_osw (a := 111) c7 rfl, lv_osw (a := 121) c10 rfl]; rfl) (by decide) ?_
  refine lv_aload_n hx hb dX7_does_90 rfl (lv_at hl 0 rfl) ?_
  refine lv_aload_n hx hb dX7_does_91 rfl (lv_at hl 0 rfl) ?_
  refine rk_getr hx hb hts inlX7 hown hK hP hk_j0a cl_7 8 6 fq_7_8 q_4_19 rfl dX7_does_92 ?_
  refine lv_iconst (v := (0 : Int32)) hx hb dX7_does_95 k_iconst_0 ?_
  refine rk_iald hx hb hK hP (ky_7_8 hk_j0a) ac_15 0 ix_0 vi_0_2 dX7_does_96 ?_
  refine lv_bipush (v := (10 : Int32)) hx hb dX7_does_97 k_bipush_10 ?_
  refine lv_aload_n hx hb dX7_does_99 rfl (lv_at hl 0 rfl) ?_
  refine rk_getr hx hb hts inlX7 hown hK hP hk_j0a cl_7 8 6 fq_7_8 q_4_19 rfl dX7_does_100 ?_
  refine lv_iconst (v := (1 : Int32)) hx hb dX7_does_103 k_iconst_1 ?_
  refine rk_iald hx hb hK hP (ky_7_8 hk_j0a) ac_15 1 ix_1 vi_1_2 dX7_does_104 ?_
  refine rc_Vi (As := [.int (M (j0a + 6) 0), .int (10 : Int32), .int (M (j0a + 6) 1)]) (rest := []) ⟨hx, hb, hml, hown, hts⟩ (mX7_runs l G j0a (M (j0a + 6) 0) (10 : Int32) (M (j0a + 6) 1) M _ hk_j0a h) (cwV 3 hts (gV_X7_runs q_22_17) rfl rfl rfl hdV_X7_runs ⟨Nat.le_of_ble_eq_true rfl, Nat.le_of_ble_eq_true rfl⟩) hK hP hS hk_j0a (by decide) cl_7 rfl hl.1 rfl (Nat.le_of_ble_eq_true rfl) dX7_does_105 ⟨Nat.zero_le _, Nat.zero_le _⟩ (fun r14 M13 H locs h hP hS => ?_)
  exact re_i hx hb hr hlocks hP hS h dX7_does_108
set_option maxHeartbeats 4000000 in
set_option maxRecDepth 100000 in
theorem mX7_doesNext (l : Launch) (G : Gp) (j0a : Nat) (M : Mm) (Post : Mm → Int32 → Prop) (hk_j0a : kd j0a = 7) (h : wX7_doesNext Post M j0a) : CtI l yX7_doesNext wsX7_doesNext rX7_doesNext G [.ref (G.2.1 + j0a)] M Post := by
  refine Met.ofW (cc := cX7_doesNext) (maxL := 4) (ret := (some .int)) (by decide) rfl ?_
  intro p e s m args below meth c s₁ B hml hv
  obtain ⟨rfl, hK, hP⟩ := hv
  have hx := B.exec
  have hb := B.bytes
  have hr := B.returns
  have hlocks := B.notSynchronized
  have hts0 := atoms_spec (ws := wsX7_doesNext) B.pre
  have hts : ∀ w ∈ wsL_law, w.before _ s = true := fun w hw => hts0 w (List.mem_cons_of_mem _ hw)
  have hown : s.vm.findClass RX7 = some m.cls := findClass_of_methodNamed B.named
  have hS : va_S (Fr G) s.heap s.heap [] := va_S.rf
  have hl := lv_entry ([.ref (G.2.1 + j0a)]) (n := 4) (Nat.le_of_ble_eq_true rfl)
  rw [lg_entry_eq]
  generalize (lg_sl ([.ref (G.2.1 + j0a)]) ++ List.replicate (4 - (lg_sl ([.ref (G.2.1 + j0a)])).length) Slot.unset).toArray = ls at hl ⊢
  have hl : lv_has ls 4 [(0, .ref (G.2.1 + j0a))] := hl
  have B84 : ∀ (M : Mm) (x3 : Int32) (t0 : Int32) (t1 : Int32) (js2 : Nat) (H : Heap) (locs : List Loc) (ls : Array Slot), Rp G M H → va_S (Fr G) s.heap H locs → lv_has ls 4 [(3, .int x3)] → kd js2 = 7 → bX7_doesNext_84 Post M x3 t0 t1 js2 → Wi p l e (headSpec wsX7_doesNext rX7_doesNext).room s m [.ref (G.2.1 + j0a)].toArray below meth c G Post H locs (F0 m 84 ls [.int t0, .int t1, .ref (G.2.1 + js2)]) := by
    intro M x3 t0 t1 js2 H locs ls hP hS hl hk_js2 h
    unfold bX7_doesNext_84 at h
    refine lv_iadd hx hb dX7_doesNext_84 ?_
    refine rk_puti hx hb hts inlX7 tyX7 tyX7_ok nmX7 hown hK hP hS hk_js2 cl_7 12 fq_7_12 q_35_16 rfl rfl rfl dX7_doesNext_85 (fun M18 eM18 H locs hP hS => ?_)
    replace h := h M18 eM18
    refine lv_iload_n hx hb dX7_doesNext_88 rfl (lv_at hl 0 rfl) ?_
    refine lv_ldc hx hb hown (hts _ q_7_13) dX7_doesNext_89 ?_
    refine lv_icmp_le (tgt := 98) hx hb dX7_doesNext_91 (by decide) (fun c19 => ?_) (fun c19 => ?_)
    · replace h := h.1 c19
      refine lv_iconst (v := (3 : Int32)) hx hb dX7_doesNext_98 k_iconst_3 ?_
      exact re_i hx hb hr hlocks hP hS h dX7_doesNext_99
    · replace h := h.2 c19
      refine lv_iconst (v := (0 : Int32)) hx hb dX7_doesNext_94 k_iconst_0 ?_
      refine lv_goto (tgt := 99) hx hb dX7_doesNext_95 (by decide) ?_
      exact re_i hx hb hr hlocks hP hS h dX7_doesNext_99
  have B83 : ∀ (M : Mm) (x3 : Int32) (t0 : Int32) (js1 : Nat) (H : Heap) (locs : List Loc) (ls : Array Slot), Rp G M H → va_S (Fr G) s.heap H locs → lv_has ls 4 [(3, .int x3)] → kd js1 = 7 → bX7_doesNext_83 Post M x3 t0 js1 → Wi p l e (headSpec wsX7_doesNext rX7_doesNext).room s m [.ref (G.2.1 + j0a)].toArray below meth c G Post H locs (F0 m 83 ls [.int t0, .ref (G.2.1 + js1)]) := by
    intro M x3 t0 js1 H locs ls hP hS hl hk_js1 h
    unfold bX7_doesNext_83 at h
    refine lv_iconst (v := (0 : Int32)) hx hb dX7_doesNext_83 k_iconst_0 ?_
    exact B84 _ _ _ _ _ _ _ _ hP hS (lv_sub hl [0] rfl) hk_js1 h
  unfold wX7_doesNext at h
  refine lv_aload_n hx hb dX7_doesNext_0 rfl (lv_at hl 0 rfl) ?_
  refine rk_geti hx hb hts inlX7 hown hK hP hk_j0a cl_7 7 fq_7_7 q_35_11 rfl dX7_doesNext_1 ?_
  refine lv_topi (fun x1_1 ex1_1 => ?_)
  replace h := h x1_1 ex1_1
  refine lv_istore_n (lv' := [(1, .int x1_1), (0, .ref (G.2.1 + j0a))]) hx hb dX7_doesNext_4 rfl hl (by decide) rfl (fun ls hl => ?_)
  refine lv_aload_n hx hb dX7_doesNext_5 rfl (lv_at hl 1 rfl) ?_
  refine rc_Vi (As := []) (rest := []) ⟨hx, hb, hml, hown, hts⟩ (mX7_sign l G j0a M _ hk_j0a h) (cwV 0 hts (gV_X7_sign q_35_17) rfl rfl rfl hdV_X7_sign ⟨Nat.le_of_ble_eq_true rfl, Nat.le_of_ble_eq_true rfl⟩) hK hP hS hk_j0a (by decide) cl_7 rfl hl.1 rfl (Nat.le_of_ble_eq_true rfl) dX7_doesNext_6 ⟨Nat.zero_le _, Nat.zero_le _⟩ (fun r3 M2 H locs h hP hS => ?_)
  refine lv_istore_n (lv' := [(2, .int r3), (1, .int x1_1), (0, .ref (G.2.1 + j0a))]) hx hb dX7_doesNext_9 rfl hl (by decide) rfl (fun ls hl => ?_)
  refine lv_aload_n hx hb dX7_doesNext_10 rfl (lv_at hl 2 rfl) ?_
  refine rc_Vi (As := []) (rest := []) ⟨hx, hb, hml, hown, hts⟩ (mX7_readsForm l G j0a M2 _ hk_j0a h) (cwV 0 hts (gV_X7_readsForm q_35_21) rfl rfl rfl hdV_X7_readsForm ⟨Nat.le_of_ble_eq_true rfl, Nat.le_of_ble_eq_true rfl⟩) hK hP hS hk_j0a (by decide) cl_7 rfl hl.1 rfl (Nat.le_of_ble_eq_true rfl) dX7_doesNext_11 ⟨Nat.zero_le _, Nat.zero_le _⟩ (fun r5 M4 H locs h hP hS => ?_)
  refine lv_if_ne (tgt := 29) hx hb dX7_doesNext_14 (by decide) (fun c6 => ?_) (fun c6 => ?_)
  · replace h := h.1 c6
    refine lv_aload_n hx hb dX7_doesNext_29 rfl (lv_at hl 2 rfl) ?_
    refine lv_iload_n hx hb dX7_doesNext_30 rfl (lv_at hl 0 rfl) ?_
    refine rc_Vi (As := [.int r3]) (rest := []) ⟨hx, hb, hml, hown, hts⟩ (mX7_isInRange l G j0a r3 M4 _ hk_j0a h) (cwV 1 hts (gV_X7_isInRange q_36_6) rfl rfl rfl hdV_X7_isInRange ⟨Nat.le_of_ble_eq_true rfl, Nat.le_of_ble_eq_true rfl⟩) hK hP hS hk_j0a (by decide) cl_7 rfl hl.1 rfl (Nat.le_of_ble_eq_true rfl) dX7_doesNext_31 ⟨Nat.zero_le _, Nat.zero_le _⟩ (fun r8 M7 H locs h hP hS => ?_)
    refine lv_if_ne (tgt := 44) hx hb dX7_doesNext_34 (by decide) (fun c9 => ?_) (fun c9 => ?_)
    · replace h := h.1 c9
      refine lv_aload_n hx hb dX7_doesNext_44 rfl (lv_at hl 2 rfl) ?_
      refine lv_ldc hx hb hown (hts _ q_24_4) dX7_doesNext_45 ?_
      refine rk_puti hx hb hts inlX7 tyX7 tyX7_ok nmX7 hown hK hP hS hk_j0a cl_7 11 fq_7_11 q_35_6 rfl rfl rfl dX7_doesNext_47 (fun M10 eM10 H locs hP hS => ?_)
      replace h := h M10 eM10
      refine lv_aload_n hx hb dX7_doesNext_50 rfl (lv_at hl 2 rfl) ?_
      refine lv_iload_n hx hb dX7_doesNext_51 rfl (lv_at hl 0 rfl) ?_
      refine rc_Vi (As := [.int r3]) (rest := []) ⟨hx, hb, hml, hown, hts⟩ (mX7_does l G j0a r3 M10 _ hk_j0a h) (cwV 1 hts (gV_X7_does q_36_10) rfl rfl rfl hdV_X7_does ⟨Nat.le_of_ble_eq_true rfl, Nat.le_of_ble_eq_true rfl⟩) hK hP hS hk_j0a (by decide) cl_7 rfl hl.1 rfl (Nat.le_of_ble_eq_true rfl) dX7_doesNext_52 ⟨Nat.zero_le _, Nat.zero_le _⟩ (fun r12 M11 H locs h hP hS => ?_)
      refine lv_istore_n (lv' := [(3, .int r12), (2, .int r3), (1, .int x1_1), (0, .ref (G.2.1 + j0a))]) hx hb dX7_doesNext_55 rfl hl (by decide) rfl (fun ls hl => ?_)
      refine lv_aload_n hx hb dX7_doesNext_56 rfl (lv_at hl 3 rfl) ?_
      refine lv_dup hx hb dX7_doesNext_57 rfl ?_
      refine rk_geti hx hb hts inlX7 hown hK hP hk_j0a cl_7 12 fq_7_12 q_35_16 rfl dX7_doesNext_58 ?_
      refine lv_iload_n hx hb dX7_doesNext_61 rfl (lv_at hl 0 rfl) ?_
      refine lv_ldc hx hb hown (hts _ q_7_13) dX7_doesNext_62 ?_
      refine lv_icmp_le (tgt := 83) hx hb dX7_doesNext_64 (by decide) (fun c13 => ?_) (fun c13 => ?_)
      · replace h := h.1 c13
        exact B83 _ _ _ _ _ _ _ hP hS (lv_sub hl [0] rfl) hk_j0a h
      · replace h := h.2 c13
        refine lv_iload_n hx hb dX7_doesNext_67 rfl (lv_at hl 1 rfl) ?_
        refine lv_bipush (v := (104 : Int32)) hx hb dX7_doesNext_68 k_bipush_104 ?_
        refine lv_icmp_eq (tgt := 79) hx hb dX7_doesNext_70 (by decide) (fun c14 => ?_) (fun c14 => ?_)
        · replace h := h.1 c14
          refine lv_iload_n hx hb dX7_doesNext_79 rfl (lv_at hl 0 rfl) ?_
          refine lv_goto (tgt := 84) hx hb dX7_doesNext_80 (by decide) ?_
          exact B84 _ _ _ _ _ _ _ _ hP hS (lv_sub hl [0] rfl) hk_j0a h
        · replace h := h.2 c14
          refine lv_iload_n hx hb dX7_doesNext_73 rfl (lv_at hl 1 rfl) ?_
          refine lv_bipush (v := (114 : Int32)) hx hb dX7_doesNext_74 k_bipush_114 ?_
          refine lv_icmp_ne (tgt := 83) hx hb dX7_doesNext_76 (by decide) (fun c15 => ?_) (fun c15 => ?_)
          · replace h := h.1 c15
            exact B83 _ _ _ _ _ _ _ hP hS (lv_sub hl [0] rfl) hk_j0a h
          · replace h := h.2 c15
            refine lv_iload_n hx hb dX7_doesNext_79 rfl (lv_at hl 0 rfl) ?_
            refine lv_goto (tgt := 84) hx hb dX7_doesNext_80 (by decide) ?_
            exact B84 _ _ _ _ _ _ _ _ hP hS (lv_sub hl [0] rfl) hk_j0a h
    · replace h := h.2 c9
      refine lv_aload_n hx hb dX7_doesNext_37 rfl (lv_at hl 2 rfl) ?_
      refine lv_iconst (v := (0 : Int32)) hx hb dX7_doesNext_38 k_iconst_0 ?_
      refine rk_puti hx hb hts inlX7 tyX7 tyX7_ok nmX7 hown hK hP hS hk_j0a cl_7 11 fq_7_11 q_35_6 rfl rfl rfl dX7_doesNext_39 (fun M16 eM16 H locs hP hS => ?_)
      replace h := h M16 eM16
      refine lv_iconst (v := (2 : Int32)) hx hb dX7_doesNext_42 k_iconst_2 ?_
      exact re_i hx hb hr hlocks hP hS h dX7_doesNext_43
  · replace h := h.2 c6
    refine lv_aload_n hx hb dX7_doesNext_17 rfl (lv_at hl 2 rfl) ?_
    refine lv_aload_n hx hb dX7_doesNext_18 rfl (lv_at hl 2 rfl) ?_
    refine rk_geti hx hb hts inlX7 hown hK hP hk_j0a cl_7 7 fq_7_7 q_35_11 rfl dX7_doesNext_19 ?_
    refine lv_iload_n hx hb dX7_doesNext_22 rfl (lv_at hl 1 rfl) ?_
    refine lv_isub hx hb dX7_doesNext_23 ?_
    refine rk_puti hx hb hts inlX7 tyX7 tyX7_ok nmX7 hown hK hP hS hk_j0a cl_7 11 fq_7_11 q_35_6 rfl rfl rfl dX7_doesNext_24 (fun M17 eM17 H locs hP hS => ?_)
    replace h := h M17 eM17
    refine lv_iconst (v := (1 : Int32)) hx hb dX7_doesNext_27 k_iconst_1 ?_
    exact re_i hx hb hr hlocks hP hS h dX7_doesNext_28
set_option maxHeartbeats 4000000 in
set_option maxRecDepth 100000 in
theorem mX7_faulty (l : Launch) (G : Gp) (j0a : Nat) (M : Mm) (Post : Mm → Int32 → Prop) (hk_j0a : kd j0a = 7) (h : wX7_faulty Post M j0a) : CtI l yX7_faulty wsX7_faulty rX7_faulty G [.ref (G.2.1 + j0a)] M Post := by
  refine Met.ofW (cc := cX7_faulty) (maxL := 3) (ret := (some .int)) (by decide) rfl ?_
  intro p e s m args below meth c s₁ B hml hv
  obtain ⟨rfl, hK, hP⟩ := hv
  have hx := B.exec
  have hb := B.bytes
  have hr := B.returns
  have hlocks := B.notSynchronized
  have hts0 := atoms_spec (ws := wsX7_faulty) B.pre
  have hts : ∀ w ∈ wsL_law, w.before _ s = true := fun w hw => hts0 w (List.mem_cons_of_mem _ hw)
  have hown : s.vm.findClass RX7 = some m.cls := findClass_of_methodNamed B.named
  have hS : va_S (Fr G) s.heap s.heap [] := va_S.rf
  have hl := lv_entry ([.ref (G.2.1 + j0a)]) (n := 3) (Nat.le_of_ble_eq_true rfl)
  rw [lg_entry_eq]
  generalize (lg_sl ([.ref (G.2.1 + j0a)]) ++ List.replicate (3 - (lg_sl ([.ref (G.2.1 + j0a)])).length) Slot.unset).toArray = ls at hl ⊢
  have hl : lv_has ls 3 [(0, .ref (G.2.1 + j0a))] := hl
  have B58 : ∀ (M : Mm) (j0 : Nat) (x1 : Int32) (H : Heap) (locs : List Loc) (ls : Array Slot), Rp G M H → va_S (Fr G) s.heap H locs → lv_has ls 3 [(0, .ref (G.2.1 + j0)), (1, .int x1)] → kd j0 = 7 → bX7_faulty_58 Post M j0 x1 → Wi p l e (headSpec wsX7_faulty rX7_faulty).room s m [.ref (G.2.1 + j0a)].toArray below meth c G Post H locs (F0 m 58 ls []) := by
    intro M j0 x1 H locs ls hP hS hl hk_j0 h
    unfold bX7_faulty_58 at h
    refine lv_aload_n hx hb dX7_faulty_58 rfl (lv_at hl 0 rfl) ?_
    refine rc_Vv (As := []) (rest := []) ⟨hx, hb, hml, hown, hts⟩ (mX7_restores l G j0 M _ hk_j0 h) (cwV 0 hts (gV_X7_restores q_27_16) rfl rfl rfl hdV_X7_restores ⟨Nat.le_of_ble_eq_true rfl, Nat.le_of_ble_eq_true rfl⟩) hK hP hS hk_j0 (by decide) cl_7 rfl hl.1 rfl (Nat.le_of_ble_eq_true rfl) dX7_faulty_59 ⟨Nat.zero_le _, Nat.zero_le _⟩ (fun M12 H locs h hP hS => ?_)
    refine lv_iload_n hx hb dX7_faulty_62 rfl (lv_at hl 1 rfl) ?_
    exact re_i hx hb hr hlocks hP hS h dX7_faulty_63
  have B12 : ∀ n : Nat, ∀ (M : Mm) (j0 : Nat) (x1 : Int32) (H : Heap) (locs : List Loc) (ls : Array Slot), Rp G M H → va_S (Fr G) s.heap H locs → lv_has ls 3 [(0, .ref (G.2.1 + j0)), (1, .int x1)] → kd j0 = 7 → lX7_faulty_12 Post n M j0 x1 → Wi p l e (headSpec wsX7_faulty rX7_faulty).room s m [.ref (G.2.1 + j0a)].toArray below meth c G Post H locs (F0 m 12 ls []) := by
    intro n
    induction n with
    | zero => intro M j0 x1 H locs ls hP hS hl hk_j0 h; exact h.elim
    | succ n ih =>
      intro M j0 x1 H locs ls hP hS hl hk_j0 h
      have hA12 := ih
      replace h : bX7_faulty_12 Post (lX7_faulty_12 Post n) M j0 x1 := h
      unfold bX7_faulty_12 at h
      refine lv_aload_n hx hb dX7_faulty_12 rfl (lv_at hl 0 rfl) ?_
      refine rk_geti hx hb hts inlX7 hown hK hP hk_j0 cl_7 7 fq_7_7 q_35_11 rfl dX7_faulty_13 ?_
      refine lv_aload_n hx hb dX7_faulty_16 rfl (lv_at hl 0 rfl) ?_
      refine rk_geti hx hb hts inlX7 hown hK hP hk_j0 cl_7 6 fq_7_6 q_30_14 rfl dX7_faulty_17 ?_
      refine lv_icmp_ge (tgt := 58) hx hb dX7_faulty_20 (by decide) (fun c5 => ?_) (fun c5 => ?_)
      · replace h := h.1 c5
        exact B58 _ _ _ _ _ _ hP hS (lv_sub hl [0, 1] rfl) hk_j0 h
      · replace h := h.2 c5
        refine lv_iload_n hx hb dX7_faulty_23 rfl (lv_at hl 1 rfl) ?_
        refine lv_ldc hx hb hown (hts _ q_24_4) dX7_faulty_24 ?_
        refine lv_icmp_ne (tgt := 58) hx hb dX7_faulty_26 (by decide) (fun c6 => ?_) (fun c6 => ?_)
        · replace h := h.1 c6
          exact B58 _ _ _ _ _ _ hP hS (lv_sub hl [0, 1] rfl) hk_j0 h
        · replace h := h.2 c6
          refine lv_aload_n hx hb dX7_faulty_29 rfl (lv_at hl 0 rfl) ?_
          refine rk_geti hx hb hts inlX7 hown hK hP hk_j0 cl_7 7 fq_7_7 q_35_11 rfl dX7_faulty_30 ?_
          refine lv_topi (fun x2_7 ex2_7 => ?_)
          replace h := h x2_7 ex2_7
          refine lv_istore_n (lv' := [(2, .int x2_7), (0, .ref (G.2.1 + j0)), (1, .int x1)]) hx hb dX7_faulty_33 rfl hl (by decide) rfl (fun ls hl => ?_)
          refine lv_aload_n hx hb dX7_faulty_34 rfl (lv_at hl 1 rfl) ?_
          refine lv_aload_n hx hb dX7_faulty_35 rfl (lv_at hl 1 rfl) ?_
          refine rc_Vi (As := []) (rest := [.ref (G.2.1 + j0)]) ⟨hx, hb, hml, hown, hts⟩ (mX7_doesNext l G j0 M _ hk_j0 h) (cwV 0 hts (gV_X7_doesNext q_35_12) rfl rfl rfl hdV_X7_doesNext ⟨Nat.le_of_ble_eq_true rfl, Nat.le_of_ble_eq_true rfl⟩) hK hP hS hk_j0 (by decide) cl_7 rfl hl.1 rfl (Nat.le_of_ble_eq_true rfl) dX7_faulty_36 ⟨Nat.zero_le _, Nat.zero_le _⟩ (fun r9 M8 H locs h hP hS => ?_)
          refine rk_puti hx hb hts inlX7 tyX7 tyX7_ok nmX7 hown hK hP hS hk_j0 cl_7 10 fq_7_10 q_35_5 rfl rfl rfl dX7_faulty_39 (fun M10 eM10 H locs hP hS => ?_)
          replace h := h M10 eM10
          refine lv_aload_n hx hb dX7_faulty_42 rfl (lv_at hl 1 rfl) ?_
          refine rk_geti hx hb hts inlX7 hown hK hP hk_j0 cl_7 10 fq_7_10 q_35_5 rfl dX7_faulty_43 ?_
          refine lv_if_le (tgt := 53) hx hb dX7_faulty_46 (by decide) (fun c11 => ?_) (fun c11 => ?_)
          · replace h := h.1 c11
            refine lv_iload_n hx hb dX7_faulty_53 rfl (lv_at hl 2 rfl) ?_
            refine lv_istore_n (lv' := [(1, .int x1), (2, .int x2_7), (0, .ref (G.2.1 + j0))]) hx hb dX7_faulty_54 rfl hl (by decide) rfl (fun ls hl => ?_)
            refine lv_goto (tgt := 12) hx hb dX7_faulty_55 (by decide) ?_
            exact hA12 _ _ _ _ _ _ hP hS (lv_sub hl [2, 0] rfl) hk_j0 h
          · replace h := h.2 c11
            refine lv_iload_n hx hb dX7_faulty_49 rfl (lv_at hl 0 rfl) ?_
            refine lv_goto (tgt := 54) hx hb dX7_faulty_50 (by decide) ?_
            refine lv_istore_n (lv' := [(1, .int x2_7), (2, .int x2_7), (0, .ref (G.2.1 + j0))]) hx hb dX7_faulty_54 rfl hl (by decide) rfl (fun ls hl => ?_)
            refine lv_goto (tgt := 12) hx hb dX7_faulty_55 (by decide) ?_
            exact hA12 _ _ _ _ _ _ hP hS (lv_sub hl [2, 0] rfl) hk_j0 h
  unfold wX7_faulty at h
  refine lv_aload_n hx hb dX7_faulty_0 rfl (lv_at hl 0 rfl) ?_
  refine rc_Vv (As := []) (rest := []) ⟨hx, hb, hml, hown, hts⟩ (mX7_puts l G j0a M _ hk_j0a h) (cwV 0 hts (gV_X7_puts q_27_12) rfl rfl rfl hdV_X7_puts ⟨Nat.le_of_ble_eq_true rfl, Nat.le_of_ble_eq_true rfl⟩) hK hP hS hk_j0a (by decide) cl_7 rfl hl.1 rfl (Nat.le_of_ble_eq_true rfl) dX7_faulty_1 ⟨Nat.zero_le _, Nat.zero_le _⟩ (fun M1 H locs h hP hS => ?_)
  refine lv_ldc hx hb hown (hts _ q_24_4) dX7_faulty_4 ?_
  refine lv_istore_n (lv' := [(1, .int (-1000004 : Int32)), (0, .ref (G.2.1 + j0a))]) hx hb dX7_faulty_6 rfl hl (by decide) rfl (fun ls hl => ?_)
  refine lv_aload_n hx hb dX7_faulty_7 rfl (lv_at hl 1 rfl) ?_
  refine lv_iconst (v := (0 : Int32)) hx hb dX7_faulty_8 k_iconst_0 ?_
  refine rk_puti hx hb hts inlX7 tyX7 tyX7_ok nmX7 hown hK hP hS hk_j0a cl_7 7 fq_7_7 q_35_11 rfl rfl rfl dX7_faulty_9 (fun M3 eM3 H locs hP hS => ?_)
  replace h := h M3 eM3
  obtain ⟨n4, h⟩ := h
  exact B12 _ _ _ _ _ _ _ hP hS (lv_sub hl [1, 0] rfl) hk_j0a h
set_option maxHeartbeats 4000000 in
set_option maxRecDepth 100000 in
theorem mX7_fault (l : Launch) (G : Gp) (j0a : Nat) (x1a : Int32) (M : Mm) (Post : Mm → Int32 → Prop) (hk_j0a : kd j0a = 7) (h : wX7_fault Post M j0a x1a) : CtI l yX7_fault wsX7_fault rX7_fault G [.ref (G.2.1 + j0a), .int x1a] M Post := by
  refine Met.ofW (cc := cX7_fault) (maxL := 3) (ret := (some .int)) (by decide) rfl ?_
  intro p e s m args below meth c s₁ B hml hv
  obtain ⟨rfl, hK, hP⟩ := hv
  have hx := B.exec
  have hb := B.bytes
  have hr := B.returns
  have hlocks := B.notSynchronized
  have hts0 := atoms_spec (ws := wsX7_fault) B.pre
  have hts : ∀ w ∈ wsL_law, w.before _ s = true := fun w hw => hts0 w (List.mem_cons_of_mem _ hw)
  have hown : s.vm.findClass RX7 = some m.cls := findClass_of_methodNamed B.named
  have hS : va_S (Fr G) s.heap s.heap [] := va_S.rf
  have hl := lv_entry ([.ref (G.2.1 + j0a), .int x1a]) (n := 3) (Nat.le_of_ble_eq_true rfl)
  rw [lg_entry_eq]
  generalize (lg_sl ([.ref (G.2.1 + j0a), .int x1a]) ++ List.replicate (3 - (lg_sl ([.ref (G.2.1 + j0a), .int x1a])).length) Slot.unset).toArray = ls at hl ⊢
  have hl : lv_has ls 3 [(0, .ref (G.2.1 + j0a)), (1, .int x1a)] := hl
  unfold wX7_fault at h
  refine lv_iload_n hx hb dX7_fault_0 rfl (lv_at hl 1 rfl) ?_
  refine lv_iconst (v := (0 : Int32)) hx hb dX7_fault_1 k_iconst_0 ?_
  refine lv_iconst (v := (2 : Int32)) hx hb dX7_fault_2 k_iconst_2 ?_
  refine rc_Si (As := [.int x1a, .int (0 : Int32), .int (2 : Int32)]) (rest := []) ⟨hx, hb, hml, hown, hts⟩ (mX7_in l G x1a (0 : Int32) (2 : Int32) M _ h) (va_cwS 3 hts (gS_X7_in q_7_19) rfl rfl rfl hdS_X7_in ⟨Nat.le_of_ble_eq_true rfl, Nat.le_of_ble_eq_true rfl⟩) hK hP hS rfl hl.1 rfl (Nat.le_of_ble_eq_true rfl) dX7_fault_3 ⟨Nat.zero_le _, Nat.zero_le _⟩ (fun r2 M1 H locs h hP hS => ?_)
  refine lv_if_ne (tgt := 12) hx hb dX7_fault_6 (by decide) (fun c3 => ?_) (fun c3 => ?_)
  · replace h := h.1 c3
    refine lv_aload_n hx hb dX7_fault_12 rfl (lv_at hl 0 rfl) ?_
    refine rc_Vi (As := []) (rest := []) ⟨hx, hb, hml, hown, hts⟩ (mX7_faulty l G j0a M1 _ hk_j0a h) (cwV 0 hts (gV_X7_faulty q_35_7) rfl rfl rfl hdV_X7_faulty ⟨Nat.le_of_ble_eq_true rfl, Nat.le_of_ble_eq_true rfl⟩) hK hP hS hk_j0a (by decide) cl_7 rfl hl.1 rfl (Nat.le_of_ble_eq_true rfl) dX7_fault_13 ⟨Nat.zero_le _, Nat.zero_le _⟩ (fun r5 M4 H locs h hP hS => ?_)
    refine lv_istore_n (lv' := [(2, .int r5), (0, .ref (G.2.1 + j0a)), (1, .int x1a)]) hx hb dX7_fault_16 rfl hl (by decide) rfl (fun ls hl => ?_)
    refine lv_iload_n hx hb dX7_fault_17 rfl (lv_at hl 0 rfl) ?_
    refine lv_ldc hx hb hown (hts _ q_24_4) dX7_fault_18 ?_
    refine lv_icmp_eq (tgt := 27) hx hb dX7_fault_20 (by decide) (fun c6 => ?_) (fun c6 => ?_)
    · replace h := h.1 c6
      refine lv_iload_n hx hb dX7_fault_27 rfl (lv_at hl 0 rfl) ?_
      refine lv_goto (tgt := 47) hx hb dX7_fault_28 (by decide) ?_
      exact re_i hx hb hr hlocks hP hS h dX7_fault_47
    · replace h := h.2 c6
      refine lv_iload_n hx hb dX7_fault_23 rfl (lv_at hl 2 rfl) ?_
      refine lv_if_ne (tgt := 31) hx hb dX7_fault_24 (by decide) (fun c7 => ?_) (fun c7 => ?_)
      · replace h := h.1 c7
        refine lv_iload_n hx hb dX7_fault_31 rfl (lv_at hl 2 rfl) ?_
        refine lv_iconst (v := (1 : Int32)) hx hb dX7_fault_32 k_iconst_1 ?_
        refine lv_icmp_ne (tgt := 43) hx hb dX7_fault_33 (by decide) (fun c8 => ?_) (fun c8 => ?_)
        · replace h := h.1 c8
          refine lv_aload_n hx hb dX7_fault_43 rfl (lv_at hl 1 rfl) ?_
          refine rk_geti hx hb hts inlX7 hown hK hP hk_j0a cl_7 11 fq_7_11 q_35_6 rfl dX7_fault_44 ?_
          exact re_i hx hb hr hlocks hP hS h dX7_fault_47
        · replace h := h.2 c8
          refine lv_aload_n hx hb dX7_fault_36 rfl (lv_at hl 1 rfl) ?_
          refine rk_geti hx hb hts inlX7 hown hK hP hk_j0a cl_7 10 fq_7_10 q_35_5 rfl dX7_fault_37 ?_
          refine lv_goto (tgt := 47) hx hb dX7_fault_40 (by decide) ?_
          exact re_i hx hb hr hlocks hP hS h dX7_fault_47
      · replace h := h.2 c7
        refine lv_iload_n hx hb dX7_fault_27 rfl (lv_at hl 0 rfl) ?_
        refine lv_goto (tgt := 47) hx hb dX7_fault_28 (by decide) ?_
        exact re_i hx hb hr hlocks hP hS h dX7_fault_47
  · replace h := h.2 c3
    refine lv_ldc hx hb hown (hts _ q_7_13) dX7_fault_9 ?_
    exact re_i hx hb hr hlocks hP hS h dX7_fault_11
set_option maxHeartbeats 4000000 in
set_option maxRecDepth 100000 in
theorem mX7_play (l : Launch) (G : Gp) (j0a : Nat) (M : Mm) (Post : Mm → Int32 → Prop) (hk_j0a : kd j0a = 7) (h : wX7_play Post M j0a) : CtI l yX7_play wsX7_play rX7_play G [.ref (G.2.1 + j0a)] M Post := by
  refine Met.ofW (cc := cX7_play) (maxL := 1) (ret := (some .int)) (by decide) rfl ?_
  intro p e s m args below meth c s₁ B hml hv
  obtain ⟨rfl, hK, hP⟩ := hv
  have hx := B.exec
  have hb := B.bytes
  have hr := B.returns
  have hlocks := B.notSynchronized
  have hts0 := atoms_spec (ws := wsX7_play) B.pre
  have hts : ∀ w ∈ wsL_law, w.before _ s = true := fun w hw => hts0 w (List.mem_cons_of_mem _ hw)
  have hown : s.vm.findClass RX7 = some m.cls := findClass_of_methodNamed B.named
  have hS : va_S (Fr G) s.heap s.heap [] := va_S.rf
  have hl := lv_entry ([.ref (G.2.1 + j0a)]) (n := 1) (Nat.le_of_ble_eq_true rfl)
  rw [lg_entry_eq]
  generalize (lg_sl ([.ref (G.2.1 + j0a)]) ++ List.replicate (1 - (lg_sl ([.ref (G.2.1 + j0a)])).length) Slot.unset).toArray = ls at hl ⊢
  have hl : lv_has ls 1 [(0, .ref (G.2.1 + j0a))] := hl
  have B26 : ∀ n : Nat, ∀ (M : Mm) (j0 : Nat) (H : Heap) (locs : List Loc) (ls : Array Slot), Rp G M H → va_S (Fr G) s.heap H locs → lv_has ls 1 [(0, .ref (G.2.1 + j0))] → kd j0 = 7 → lX7_play_26 Post n M j0 → Wi p l e (headSpec wsX7_play rX7_play).room s m [.ref (G.2.1 + j0a)].toArray below meth c G Post H locs (F0 m 26 ls []) := by
    intro n
    induction n with
    | zero => intro M j0 H locs ls hP hS hl hk_j0 h; exact h.elim
    | succ n ih =>
      intro M j0 H locs ls hP hS hl hk_j0 h
      have hA26 := ih
      replace h : bX7_play_26 Post (lX7_play_26 Post n) M j0 := h
      unfold bX7_play_26 at h
      refine lv_aload_n hx hb dX7_play_26 rfl (lv_at hl 0 rfl) ?_
      refine rk_geti hx hb hts inlX7 hown hK hP hk_j0 cl_7 7 fq_7_7 q_35_11 rfl dX7_play_27 ?_
      refine lv_aload_n hx hb dX7_play_30 rfl (lv_at hl 0 rfl) ?_
      refine rk_geti hx hb hts inlX7 hown hK hP hk_j0 cl_7 6 fq_7_6 q_30_14 rfl dX7_play_31 ?_
      refine lv_icmp_ge (tgt := 45) hx hb dX7_play_34 (by decide) (fun c9 => ?_) (fun c9 => ?_)
      · replace h := h.1 c9
        refine lv_aload_n hx hb dX7_play_45 rfl (lv_at hl 0 rfl) ?_
        refine lv_aload_n hx hb dX7_play_46 rfl (lv_at hl 0 rfl) ?_
        refine rk_geti hx hb hts inlX7 hown hK hP hk_j0 cl_7 12 fq_7_12 q_35_16 rfl dX7_play_47 ?_
        refine rc_Vi (As := [.int (M j0 12)]) (rest := []) ⟨hx, hb, hml, hown, hts⟩ (mX7_acted l G j0 (M j0 12) M _ hk_j0 h) (cwV 1 hts (gV_X7_acted q_8_2) rfl rfl rfl hdV_X7_acted ⟨Nat.le_of_ble_eq_true rfl, Nat.le_of_ble_eq_true rfl⟩) hK hP hS hk_j0 (by decide) cl_7 rfl hl.1 rfl (Nat.le_of_ble_eq_true rfl) dX7_play_50 ⟨Nat.zero_le _, Nat.zero_le _⟩ (fun r11 M10 H locs h hP hS => ?_)
        exact re_i hx hb hr hlocks hP hS h dX7_play_53
      · replace h := h.2 c9
        refine lv_aload_n hx hb dX7_play_37 rfl (lv_at hl 0 rfl) ?_
        refine rc_Vi (As := []) (rest := []) ⟨hx, hb, hml, hown, hts⟩ (mX7_doesNext l G j0 M _ hk_j0 h) (cwV 0 hts (gV_X7_doesNext q_35_12) rfl rfl rfl hdV_X7_doesNext ⟨Nat.le_of_ble_eq_true rfl, Nat.le_of_ble_eq_true rfl⟩) hK hP hS hk_j0 (by decide) cl_7 rfl hl.1 rfl (Nat.le_of_ble_eq_true rfl) dX7_play_38 ⟨Nat.zero_le _, Nat.zero_le _⟩ (fun r13 M12 H locs h hP hS => ?_)
        refine lv_pop hx hb dX7_play_41 rfl ?_
        refine lv_goto (tgt := 26) hx hb dX7_play_42 (by decide) ?_
        exact hA26 _ _ _ _ _ hP hS (lv_sub hl [0] rfl) hk_j0 h
  unfold wX7_play at h
  refine lv_aload_n hx hb dX7_play_0 rfl (lv_at hl 0 rfl) ?_
  refine rc_Vi (As := []) (rest := []) ⟨hx, hb, hml, hown, hts⟩ (mX7_faulty l G j0a M _ hk_j0a h) (cwV 0 hts (gV_X7_faulty q_35_7) rfl rfl rfl hdV_X7_faulty ⟨Nat.le_of_ble_eq_true rfl, Nat.le_of_ble_eq_true rfl⟩) hK hP hS hk_j0a (by decide) cl_7 rfl hl.1 rfl (Nat.le_of_ble_eq_true rfl) dX7_play_1 ⟨Nat.zero_le _, Nat.zero_le _⟩ (fun r2 M1 H locs h hP hS => ?_)
  refine lv_ldc hx hb hown (hts _ q_24_4) dX7_play_4 ?_
  refine lv_icmp_eq (tgt := 12) hx hb dX7_play_6 (by decide) (fun c3 => ?_) (fun c3 => ?_)
  · replace h := h.1 c3
    refine lv_aload_n hx hb dX7_play_12 rfl (lv_at hl 0 rfl) ?_
    refine rc_Vv (As := []) (rest := []) ⟨hx, hb, hml, hown, hts⟩ (mX7_keeps l G j0a M1 _ hk_j0a h) (cwV 0 hts (gV_X7_keeps q_7_22) rfl rfl rfl hdV_X7_keeps ⟨Nat.le_of_ble_eq_true rfl, Nat.le_of_ble_eq_true rfl⟩) hK hP hS hk_j0a (by decide) cl_7 rfl hl.1 rfl (Nat.le_of_ble_eq_true rfl) dX7_play_13 ⟨Nat.zero_le _, Nat.zero_le _⟩ (fun M4 H locs h hP hS => ?_)
    refine lv_aload_n hx hb dX7_play_16 rfl (lv_at hl 0 rfl) ?_
    refine lv_iconst (v := (0 : Int32)) hx hb dX7_play_17 k_iconst_0 ?_
    refine rk_puti hx hb hts inlX7 tyX7 tyX7_ok nmX7 hown hK hP hS hk_j0a cl_7 12 fq_7_12 q_35_16 rfl rfl rfl dX7_play_18 (fun M6 eM6 H locs hP hS => ?_)
    replace h := h M6 eM6
    refine lv_aload_n hx hb dX7_play_21 rfl (lv_at hl 0 rfl) ?_
    refine lv_iconst (v := (0 : Int32)) hx hb dX7_play_22 k_iconst_0 ?_
    refine rk_puti hx hb hts inlX7 tyX7 tyX7_ok nmX7 hown hK hP hS hk_j0a cl_7 7 fq_7_7 q_35_11 rfl rfl rfl dX7_play_23 (fun M7 eM7 H locs hP hS => ?_)
    replace h := h M7 eM7
    obtain ⟨n8, h⟩ := h
    exact B26 _ _ _ _ _ _ hP hS (lv_sub hl [0] rfl) hk_j0a h
  · replace h := h.2 c3
    refine lv_ldc hx hb hown (hts _ q_9_23) dX7_play_9 ?_
    exact re_i hx hb hr hlocks hP hS h dX7_play_11
