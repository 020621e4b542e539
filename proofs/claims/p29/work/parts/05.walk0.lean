/-! the walks: each method keeps its predicate; printed by gen.py -/
set_option maxHeartbeats 4000000 in
set_option maxRecDepth 100000 in
theorem mX0_become (l : Launch) (G : Gp) (j0a : Nat) (j1a : Nat) (M : Mm) (Post : Mm → Prop) (hk_j0a : kd j0a = 0) (hk_j1a : kd j1a = 0) (h : wX0_become Post M j0a j1a) : CtV l yX0_become wsX0_become rX0_become G [.ref (G.2.1 + j0a), .ref (G.2.1 + j1a)] M Post := by
  refine Met.ofW (cc := cX0_become) (maxL := 2) (ret := none) (by decide) rfl ?_
  intro p e s m args below meth c s₁ B hml hv
  obtain ⟨rfl, hK, hP⟩ := hv
  have hx := B.exec
  have hb := B.bytes
  have hr := B.returns
  have hlocks := B.notSynchronized
  have hts0 := atoms_spec (ws := wsX0_become) B.pre
  have hts : ∀ w ∈ wsL_law, w.before _ s = true := fun w hw => hts0 w (List.mem_cons_of_mem _ hw)
  have hown : s.vm.findClass RX0 = some m.cls := findClass_of_methodNamed B.named
  have hS : va_S (Fr G) s.heap s.heap [] := va_S.rf
  have hl := lv_entry ([.ref (G.2.1 + j0a), .ref (G.2.1 + j1a)]) (n := 2) (Nat.le_of_ble_eq_true rfl)
  rw [lg_entry_eq]
  generalize (lg_sl ([.ref (G.2.1 + j0a), .ref (G.2.1 + j1a)]) ++ List.replicate (2 - (lg_sl ([.ref (G.2.1 + j0a), .ref (G.2.1 + j1a)])).length) Slot.unset).toArray = ls at hl ⊢
  have hl : lv_has ls 2 [(0, .ref (G.2.1 + j0a)), (1, .ref (G.2.1 + j1a))] := hl
  unfold wX0_become at h
  refine lv_aload_n hx hb dX0_become_0 rfl (lv_at hl 0 rfl) ?_
  refine lv_aload_n hx hb dX0_become_1 rfl (lv_at hl 1 rfl) ?_
  refine rk_geti hx hb hts inlX0 hown hK hP hk_j1a cl_0 0 fq_0_0 q_2_20 rfl dX0_become_2 ?_
  refine rk_puti hx hb hts inlX0 tyX0 tyX0_ok nmX0 hown hK hP hS hk_j0a cl_0 0 fq_0_0 q_2_20 rfl rfl rfl dX0_become_5 (fun M1 eM1 H locs hP hS => ?_)
  replace h := h M1 eM1
  refine lv_aload_n hx hb dX0_become_8 rfl (lv_at hl 0 rfl) ?_
  refine lv_aload_n hx hb dX0_become_9 rfl (lv_at hl 1 rfl) ?_
  refine rk_geti hx hb hts inlX0 hown hK hP hk_j1a cl_0 1 fq_0_1 q_8_6 rfl dX0_become_10 ?_
  refine rk_puti hx hb hts inlX0 tyX0 tyX0_ok nmX0 hown hK hP hS hk_j0a cl_0 1 fq_0_1 q_8_6 rfl rfl rfl dX0_become_13 (fun M2 eM2 H locs hP hS => ?_)
  replace h := h M2 eM2
  refine lv_aload_n hx hb dX0_become_16 rfl (lv_at hl 1 rfl) ?_
  refine rk_getr hx hb hts inlX0 hown hK hP hk_j1a cl_0 2 1 fq_0_2 q_2_21 rfl dX0_become_17 ?_
  refine lv_iconst (v := (0 : Int32)) hx hb dX0_become_20 k_iconst_0 ?_
  refine lv_aload_n hx hb dX0_become_21 rfl (lv_at hl 0 rfl) ?_
  refine rk_getr hx hb hts inlX0 hown hK hP hk_j0a cl_0 2 1 fq_0_2 q_2_21 rfl dX0_become_22 ?_
  refine lv_iconst (v := (0 : Int32)) hx hb dX0_become_25 k_iconst_0 ?_
  refine lv_bipush (v := (8 : Int32)) hx hb dX0_become_26 k_bipush_8 ?_
  refine rk_copy hx hb (hml.trans hl.1.symm) hts hown q_11_1 q_11_2 q_11_3 q_11_4 hK hP hS (ky_0_2 hk_j1a) (ky_0_2 hk_j0a) ac_8 ⟨ix_8, by decide⟩ (Nat.le_of_ble_eq_true rfl) (by decide) dX0_become_28 (fun M3 eM3 H locs hP hS => ?_)
  replace h := h M3 eM3
  refine lv_aload_n hx hb dX0_become_31 rfl (lv_at hl 1 rfl) ?_
  refine rk_getr hx hb hts inlX0 hown hK hP hk_j1a cl_0 3 2 fq_0_3 q_2_22 rfl dX0_become_32 ?_
  refine lv_iconst (v := (0 : Int32)) hx hb dX0_become_35 k_iconst_0 ?_
  refine lv_aload_n hx hb dX0_become_36 rfl (lv_at hl 0 rfl) ?_
  refine rk_getr hx hb hts inlX0 hown hK hP hk_j0a cl_0 3 2 fq_0_3 q_2_22 rfl dX0_become_37 ?_
  refine lv_iconst (v := (0 : Int32)) hx hb dX0_become_40 k_iconst_0 ?_
  refine lv_bipush (v := (8 : Int32)) hx hb dX0_become_41 k_bipush_8 ?_
  refine rk_copy hx hb (hml.trans hl.1.symm) hts hown q_11_1 q_11_2 q_11_3 q_11_4 hK hP hS (ky_0_3 hk_j1a) (ky_0_3 hk_j0a) ac_8 ⟨ix_8, by decide⟩ (Nat.le_of_ble_eq_true rfl) (by decide) dX0_become_43 (fun M4 eM4 H locs hP hS => ?_)
  replace h := h M4 eM4
  refine lv_aload_n hx hb dX0_become_46 rfl (lv_at hl 1 rfl) ?_
  refine rk_getr hx hb hts inlX0 hown hK hP hk_j1a cl_0 4 3 fq_0_4 q_2_23 rfl dX0_become_47 ?_
  refine lv_iconst (v := (0 : Int32)) hx hb dX0_become_50 k_iconst_0 ?_
  refine lv_aload_n hx hb dX0_become_51 rfl (lv_at hl 0 rfl) ?_
  refine rk_getr hx hb hts inlX0 hown hK hP hk_j0a cl_0 4 3 fq_0_4 q_2_23 rfl dX0_become_52 ?_
  refine lv_iconst (v := (0 : Int32)) hx hb dX0_become_55 k_iconst_0 ?_
  refine lv_bipush (v := (8 : Int32)) hx hb dX0_become_56 k_bipush_8 ?_
  refine rk_copy hx hb (hml.trans hl.1.symm) hts hown q_11_1 q_11_2 q_11_3 q_11_4 hK hP hS (ky_0_4 hk_j1a) (ky_0_4 hk_j0a) ac_8 ⟨ix_8, by decide⟩ (Nat.le_of_ble_eq_true rfl) (by decide) dX0_become_58 (fun M5 eM5 H locs hP hS => ?_)
  replace h := h M5 eM5
  refine lv_aload_n hx hb dX0_become_61 rfl (lv_at hl 1 rfl) ?_
  refine rk_getr hx hb hts inlX0 hown hK hP hk_j1a cl_0 5 4 fq_0_5 q_3_0 rfl dX0_become_62 ?_
  refine lv_iconst (v := (0 : Int32)) hx hb dX0_become_65 k_iconst_0 ?_
  refine lv_aload_n hx hb dX0_become_66 rfl (lv_at hl 0 rfl) ?_
  refine rk_getr hx hb hts inlX0 hown hK hP hk_j0a cl_0 5 4 fq_0_5 q_3_0 rfl dX0_become_67 ?_
  refine lv_iconst (v := (0 : Int32)) hx hb dX0_become_70 k_iconst_0 ?_
  refine lv_bipush (v := (8 : Int32)) hx hb dX0_become_71 k_bipush_8 ?_
  refine rk_copy hx hb (hml.trans hl.1.symm) hts hown q_11_1 q_11_2 q_11_3 q_11_4 hK hP hS (ky_0_5 hk_j1a) (ky_0_5 hk_j0a) ac_8 ⟨ix_8, by decide⟩ (Nat.le_of_ble_eq_true rfl) (by decide) dX0_become_73 (fun M6 eM6 H locs hP hS => ?_)
  replace h := h M6 eM6
  refine lv_aload_n hx hb dX0_become_76 rfl (lv_at hl 1 rfl) ?_
  refine rk_getr hx hb hts inlX0 hown hK hP hk_j1a cl_0 6 5 fq_0_6 q_3_1 rfl dX0_become_77 ?_
  refine lv_iconst (v := (0 : Int32)) hx hb dX0_become_80 k_iconst_0 ?_
  refine lv_aload_n hx hb dX0_become_81 rfl (lv_at hl 0 rfl) ?_
  refine rk_getr hx hb hts inlX0 hown hK hP hk_j0a cl_0 6 5 fq_0_6 q_3_1 rfl dX0_become_82 ?_
  refine lv_iconst (v := (0 : Int32)) hx hb dX0_become_85 k_iconst_0 ?_
  refine lv_bipush (v := (8 : Int32)) hx hb dX0_become_86 k_bipush_8 ?_
  refine rk_copy hx hb (hml.trans hl.1.symm) hts hown q_11_1 q_11_2 q_11_3 q_11_4 hK hP hS (ky_0_6 hk_j1a) (ky_0_6 hk_j0a) ac_8 ⟨ix_8, by decide⟩ (Nat.le_of_ble_eq_true rfl) (by decide) dX0_become_88 (fun M7 eM7 H locs hP hS => ?_)
  replace h := h M7 eM7
  refine lv_aload_n hx hb dX0_become_91 rfl (lv_at hl 1 rfl) ?_
  refine rk_getr hx hb hts inlX0 hown hK hP hk_j1a cl_0 7 6 fq_0_7 q_3_2 rfl dX0_become_92 ?_
  refine lv_iconst (v := (0 : Int32)) hx hb dX0_become_95 k_iconst_0 ?_
  refine lv_aload_n hx hb dX0_become_96 rfl (lv_at hl 0 rfl) ?_
  refine rk_getr hx hb hts inlX0 hown hK hP hk_j0a cl_0 7 6 fq_0_7 q_3_2 rfl dX0_become_97 ?_
  refine lv_iconst (v := (0 : Int32)) hx hb dX0_become_100 k_iconst_0 ?_
  refine lv_bipush (v := (8 : Int32)) hx hb dX0_become_101 k_bipush_8 ?_
  refine rk_copy hx hb (hml.trans hl.1.symm) hts hown q_11_1 q_11_2 q_11_3 q_11_4 hK hP hS (ky_0_7 hk_j1a) (ky_0_7 hk_j0a) ac_8 ⟨ix_8, by decide⟩ (Nat.le_of_ble_eq_true rfl) (by decide) dX0_become_103 (fun M8 eM8 H locs hP hS => ?_)
  replace h := h M8 eM8
  refine lv_aload_n hx hb dX0_become_106 rfl (lv_at hl 1 rfl) ?_
  refine rk_getr hx hb hts inlX0 hown hK hP hk_j1a cl_0 8 7 fq_0_8 q_3_3 rfl dX0_become_107 ?_
  refine lv_iconst (v := (0 : Int32)) hx hb dX0_become_110 k_iconst_0 ?_
  refine lv_aload_n hx hb dX0_become_111 rfl (lv_at hl 0 rfl) ?_
  refine rk_getr hx hb hts inlX0 hown hK hP hk_j0a cl_0 8 7 fq_0_8 q_3_3 rfl dX0_become_112 ?_
  refine lv_iconst (v := (0 : Int32)) hx hb dX0_become_115 k_iconst_0 ?_
  refine lv_bipush (v := (8 : Int32)) hx hb dX0_become_116 k_bipush_8 ?_
  refine rk_copy hx hb (hml.trans hl.1.symm) hts hown q_11_1 q_11_2 q_11_3 q_11_4 hK hP hS (ky_0_8 hk_j1a) (ky_0_8 hk_j0a) ac_8 ⟨ix_8, by decide⟩ (Nat.le_of_ble_eq_true rfl) (by decide) dX0_become_118 (fun M9 eM9 H locs hP hS => ?_)
  replace h := h M9 eM9
  refine lv_aload_n hx hb dX0_become_121 rfl (lv_at hl 1 rfl) ?_
  refine rk_getr hx hb hts inlX0 hown hK hP hk_j1a cl_0 9 8 fq_0_9 q_3_4 rfl dX0_become_122 ?_
  refine lv_iconst (v := (0 : Int32)) hx hb dX0_become_125 k_iconst_0 ?_
  refine lv_aload_n hx hb dX0_become_126 rfl (lv_at hl 0 rfl) ?_
  refine rk_getr hx hb hts inlX0 hown hK hP hk_j0a cl_0 9 8 fq_0_9 q_3_4 rfl dX0_become_127 ?_
  refine lv_iconst (v := (0 : Int32)) hx hb dX0_become_130 k_iconst_0 ?_
  refine lv_bipush (v := (8 : Int32)) hx hb dX0_become_131 k_bipush_8 ?_
  refine rk_copy hx hb (hml.trans hl.1.symm) hts hown q_11_1 q_11_2 q_11_3 q_11_4 hK hP hS (ky_0_9 hk_j1a) (ky_0_9 hk_j0a) ac_8 ⟨ix_8, by decide⟩ (Nat.le_of_ble_eq_true rfl) (by decide) dX0_become_133 (fun M10 eM10 H locs hP hS => ?_)
  replace h := h M10 eM10
  exact re_v hx hb hr hlocks hP hS h dX0_become_136
set_option maxHeartbeats 4000000 in
set_option maxRecDepth 100000 in
theorem mX0_has (l : Launch) (G : Gp) (j0a : Nat) (x1a : Int32) (M : Mm) (Post : Mm → Int32 → Prop) (hk_j0a : kd j0a = 0) (h : wX0_has Post M j0a x1a) : CtI l yX0_has wsX0_has rX0_has G [.ref (G.2.1 + j0a), .int x1a] M Post := by
  refine Met.ofW (cc := cX0_has) (maxL := 2) (ret := (some .boolean)) (by decide) rfl ?_
  intro p e s m args below meth c s₁ B hml hv
  obtain ⟨rfl, hK, hP⟩ := hv
  have hx := B.exec
  have hb := B.bytes
  have hr := B.returns
  have hlocks := B.notSynchronized
  have hts0 := atoms_spec (ws := wsX0_has) B.pre
  have hts : ∀ w ∈ wsL_law, w.before _ s = true := fun w hw => hts0 w (List.mem_cons_of_mem _ hw)
  have hown : s.vm.findClass RX0 = some m.cls := findClass_of_methodNamed B.named
  have hS : va_S (Fr G) s.heap s.heap [] := va_S.rf
  have hl := lv_entry ([.ref (G.2.1 + j0a), .int x1a]) (n := 2) (Nat.le_of_ble_eq_true rfl)
  rw [lg_entry_eq]
  generalize (lg_sl ([.ref (G.2.1 + j0a), .int x1a]) ++ List.replicate (2 - (lg_sl ([.ref (G.2.1 + j0a), .int x1a])).length) Slot.unset).toArray = ls at hl ⊢
  have hl : lv_has ls 2 [(0, .ref (G.2.1 + j0a)), (1, .int x1a)] := hl
  unfold wX0_has at h
  refine lv_iload_n hx hb dX0_has_0 rfl (lv_at hl 1 rfl) ?_
  refine lv_if_lt (tgt := 16) hx hb dX0_has_1 (by decide) (fun c1 => ?_) (fun c1 => ?_)
  · replace h := h.1 c1
    refine lv_iconst (v := (0 : Int32)) hx hb dX0_has_16 k_iconst_0 ?_
    exact re_z hx hb hr hlocks (Or.inl rfl) hP hS h dX0_has_17
  · replace h := h.2 c1
    refine lv_iload_n hx hb dX0_has_4 rfl (lv_at hl 1 rfl) ?_
    refine lv_aload_n hx hb dX0_has_5 rfl (lv_at hl 0 rfl) ?_
    refine rk_geti hx hb hts inlX0 hown hK hP hk_j0a cl_0 0 fq_0_0 q_2_20 rfl dX0_has_6 ?_
    refine lv_icmp_ge (tgt := 16) hx hb dX0_has_9 (by decide) (fun c2 => ?_) (fun c2 => ?_)
    · replace h := h.1 c2
      refine lv_iconst (v := (0 : Int32)) hx hb dX0_has_16 k_iconst_0 ?_
      exact re_z hx hb hr hlocks (Or.inl rfl) hP hS h dX0_has_17
    · replace h := h.2 c2
      refine lv_iconst (v := (1 : Int32)) hx hb dX0_has_12 k_iconst_1 ?_
      refine lv_goto (tgt := 17) hx hb dX0_has_13 (by decide) ?_
      exact re_z hx hb hr hlocks (Or.inr rfl) hP hS h dX0_has_17
set_option maxHeartbeats 4000000 in
set_option maxRecDepth 100000 in
theorem mX0_hasGate (l : Launch) (G : Gp) (j0a : Nat) (x1a : Int32) (M : Mm) (Post : Mm → Int32 → Prop) (hk_j0a : kd j0a = 0) (h : wX0_hasGate Post M j0a x1a) : CtI l yX0_hasGate wsX0_hasGate rX0_hasGate G [.ref (G.2.1 + j0a), .int x1a] M Post := by
  refine Met.ofW (cc := cX0_hasGate) (maxL := 2) (ret := (some .boolean)) (by decide) rfl ?_
  intro p e s m args below meth c s₁ B hml hv
  obtain ⟨rfl, hK, hP⟩ := hv
  have hx := B.exec
  have hb := B.bytes
  have hr := B.returns
  have hlocks := B.notSynchronized
  have hts0 := atoms_spec (ws := wsX0_hasGate) B.pre
  have hts : ∀ w ∈ wsL_law, w.before _ s = true := fun w hw => hts0 w (List.mem_cons_of_mem _ hw)
  have hown : s.vm.findClass RX0 = some m.cls := findClass_of_methodNamed B.named
  have hS : va_S (Fr G) s.heap s.heap [] := va_S.rf
  have hl := lv_entry ([.ref (G.2.1 + j0a), .int x1a]) (n := 2) (Nat.le_of_ble_eq_true rfl)
  rw [lg_entry_eq]
  generalize (lg_sl ([.ref (G.2.1 + j0a), .int x1a]) ++ List.replicate (2 - (lg_sl ([.ref (G.2.1 + j0a), .int x1a])).length) Slot.unset).toArray = ls at hl ⊢
  have hl : lv_has ls 2 [(0, .ref (G.2.1 + j0a)), (1, .int x1a)] := hl
  unfold wX0_hasGate at h
  refine lv_iload_n hx hb dX0_hasGate_0 rfl (lv_at hl 1 rfl) ?_
  refine lv_if_le (tgt := 16) hx hb dX0_hasGate_1 (by decide) (fun c1 => ?_) (fun c1 => ?_)
  · replace h := h.1 c1
    refine lv_iconst (v := (0 : Int32)) hx hb dX0_hasGate_16 k_iconst_0 ?_
    exact re_z hx hb hr hlocks (Or.inl rfl) hP hS h dX0_hasGate_17
  · replace h := h.2 c1
    refine lv_iload_n hx hb dX0_hasGate_4 rfl (lv_at hl 1 rfl) ?_
    refine lv_aload_n hx hb dX0_hasGate_5 rfl (lv_at hl 0 rfl) ?_
    refine rk_geti hx hb hts inlX0 hown hK hP hk_j0a cl_0 0 fq_0_0 q_2_20 rfl dX0_hasGate_6 ?_
    refine lv_icmp_ge (tgt := 16) hx hb dX0_hasGate_9 (by decide) (fun c2 => ?_) (fun c2 => ?_)
    · replace h := h.1 c2
      refine lv_iconst (v := (0 : Int32)) hx hb dX0_hasGate_16 k_iconst_0 ?_
      exact re_z hx hb hr hlocks (Or.inl rfl) hP hS h dX0_hasGate_17
    · replace h := h.2 c2
      refine lv_iconst (v := (1 : Int32)) hx hb dX0_hasGate_12 k_iconst_1 ?_
      refine lv_goto (tgt := 17) hx hb dX0_hasGate_13 (by decide) ?_
      exact re_z hx hb hr hlocks (Or.inr rfl) hP hS h dX0_hasGate_17
set_option maxHeartbeats 4000000 in
set_option maxRecDepth 100000 in
theorem mX0_allGates (l : Launch) (G : Gp) (j0a : Nat) (M : Mm) (Post : Mm → Int32 → Prop) (hk_j0a : kd j0a = 0) (h : wX0_allGates Post M j0a) : CtI l yX0_allGates wsX0_allGates rX0_allGates G [.ref (G.2.1 + j0a)] M Post := by
  refine Met.ofW (cc := cX0_allGates) (maxL := 1) (ret := (some .int)) (by decide) rfl ?_
  intro p e s m args below meth c s₁ B hml hv
  obtain ⟨rfl, hK, hP⟩ := hv
  have hx := B.exec
  have hb := B.bytes
  have hr := B.returns
  have hlocks := B.notSynchronized
  have hts0 := atoms_spec (ws := wsX0_allGates) B.pre
  have hts : ∀ w ∈ wsL_law, w.before _ s = true := fun w hw => hts0 w (List.mem_cons_of_mem _ hw)
  have hown : s.vm.findClass RX0 = some m.cls := findClass_of_methodNamed B.named
  have hS : va_S (Fr G) s.heap s.heap [] := va_S.rf
  have hl := lv_entry ([.ref (G.2.1 + j0a)]) (n := 1) (Nat.le_of_ble_eq_true rfl)
  rw [lg_entry_eq]
  generalize (lg_sl ([.ref (G.2.1 + j0a)]) ++ List.replicate (1 - (lg_sl ([.ref (G.2.1 + j0a)])).length) Slot.unset).toArray = ls at hl ⊢
  have hl : lv_has ls 1 [(0, .ref (G.2.1 + j0a))] := hl
  unfold wX0_allGates at h
  refine lv_iconst (v := (1 : Int32)) hx hb dX0_allGates_0 k_iconst_1 ?_
  refine lv_aload_n hx hb dX0_allGates_1 rfl (lv_at hl 0 rfl) ?_
  refine rk_geti hx hb hts inlX0 hown hK hP hk_j0a cl_0 0 fq_0_0 q_2_20 rfl dX0_allGates_2 ?_
  refine lv_ishl hx hb dX0_allGates_5 ?_
  refine lv_iconst (v := (2 : Int32)) hx hb dX0_allGates_6 k_iconst_2 ?_
  refine lv_isub hx hb dX0_allGates_7 ?_
  exact re_i hx hb hr hlocks hP hS h dX0_allGates_8
set_option maxHeartbeats 4000000 in
set_option maxRecDepth 100000 in
theorem mX0_areGates (l : Launch) (G : Gp) (j0a : Nat) (x1a : Int32) (M : Mm) (Post : Mm → Int32 → Prop) (hk_j0a : kd j0a = 0) (h : wX0_areGates Post M j0a x1a) : CtI l yX0_areGates wsX0_areGates rX0_areGates G [.ref (G.2.1 + j0a), .int x1a] M Post := by
  refine Met.ofW (cc := cX0_areGates) (maxL := 2) (ret := (some .boolean)) (by decide) rfl ?_
  intro p e s m args below meth c s₁ B hml hv
  obtain ⟨rfl, hK, hP⟩ := hv
  have hx := B.exec
  have hb := B.bytes
  have hr := B.returns
  have hlocks := B.notSynchronized
  have hts0 := atoms_spec (ws := wsX0_areGates) B.pre
  have hts : ∀ w ∈ wsL_law, w.before _ s = true := fun w hw => hts0 w (List.mem_cons_of_mem _ hw)
  have hown : s.vm.findClass RX0 = some m.cls := findClass_of_methodNamed B.named
  have hS : va_S (Fr G) s.heap s.heap [] := va_S.rf
  have hl := lv_entry ([.ref (G.2.1 + j0a), .int x1a]) (n := 2) (Nat.le_of_ble_eq_true rfl)
  rw [lg_entry_eq]
  generalize (lg_sl ([.ref (G.2.1 + j0a), .int x1a]) ++ List.replicate (2 - (lg_sl ([.ref (G.2.1 + j0a), .int x1a])).length) Slot.unset).toArray = ls at hl ⊢
  have hl : lv_has ls 2 [(0, .ref (G.2.1 + j0a)), (1, .int x1a)] := hl
  unfold wX0_areGates at h
  refine lv_iload_n hx hb dX0_areGates_0 rfl (lv_at hl 1 rfl) ?_
  refine lv_aload_n hx hb dX0_areGates_1 rfl (lv_at hl 0 rfl) ?_
  refine rc_Vi (As := []) (rest := [.int x1a]) ⟨hx, hb, hml, hown, hts⟩ (mX0_allGates l G j0a M _ hk_j0a h) (cwV 0 hts (gV_X0_allGates q_14_5) rfl rfl rfl hdV_X0_allGates ⟨Nat.le_of_ble_eq_true rfl, Nat.le_of_ble_eq_true rfl⟩) hK hP hS hk_j0a (by decide) cl_0 rfl hl.1 rfl (Nat.le_of_ble_eq_true rfl) dX0_areGates_2 ⟨Nat.zero_le _, Nat.zero_le _⟩ (fun r2 M1 H locs h hP hS => ?_)
  refine lv_iconst (v := (-1 : Int32)) hx hb dX0_areGates_5 k_iconst_m1 ?_
  refine lv_ixor hx hb dX0_areGates_6 ?_
  refine lv_iand hx hb dX0_areGates_7 ?_
  refine lv_if_ne (tgt := 15) hx hb dX0_areGates_8 (by decide) (fun c3 => ?_) (fun c3 => ?_)
  · replace h := h.1 c3
    refine lv_iconst (v := (0 : Int32)) hx hb dX0_areGates_15 k_iconst_0 ?_
    exact re_z hx hb hr hlocks (Or.inl rfl) hP hS h dX0_areGates_16
  · replace h := h.2 c3
    refine lv_iconst (v := (1 : Int32)) hx hb dX0_areGates_11 k_iconst_1 ?_
    refine lv_goto (tgt := 16) hx hb dX0_areGates_12 (by decide) ?_
    exact re_z hx hb hr hlocks (Or.inr rfl) hP hS h dX0_areGates_16
set_option maxHeartbeats 4000000 in
set_option maxRecDepth 100000 in
theorem mX0_add (l : Launch) (G : Gp) (j0a : Nat) (x1a : Int32) (x2a : Int32) (x3a : Int32) (x4a : Int32) (M : Mm) (Post : Mm → Int32 → Prop) (hk_j0a : kd j0a = 0) (h : wX0_add Post M j0a x1a x2a x3a x4a) : CtI l yX0_add wsX0_add rX0_add G [.ref (G.2.1 + j0a), .int x1a, .int x2a, .int x3a, .int x4a] M Post := by
  refine Met.ofW (cc := cX0_add) (maxL := 6) (ret := (some .int)) (by decide) rfl ?_
  intro p e s m args below meth c s₁ B hml hv
  obtain ⟨rfl, hK, hP⟩ := hv
  have hx := B.exec
  have hb := B.bytes
  have hr := B.returns
  have hlocks := B.notSynchronized
  have hts0 := atoms_spec (ws := wsX0_add) B.pre
  have hts : ∀ w ∈ wsL_law, w.before _ s = true := fun w hw => hts0 w (List.mem_cons_of_mem _ hw)
  have hown : s.vm.findClass RX0 = some m.cls := findClass_of_methodNamed B.named
  have hS : va_S (Fr G) s.heap s.heap [] := va_S.rf
  have hl := lv_entry ([.ref (G.2.1 + j0a), .int x1a, .int x2a, .int x3a, .int x4a]) (n := 6) (Nat.le_of_ble_eq_true rfl)
  rw [lg_entry_eq]
  generalize (lg_sl ([.ref (G.2.1 + j0a), .int x1a, .int x2a, .int x3a, .int x4a]) ++ List.replicate (6 - (lg_sl ([.ref (G.2.1 + j0a), .int x1a, .int x2a, .int x3a, .int x4a])).length) Slot.unset).toArray = ls at hl ⊢
  have hl : lv_has ls 6 [(0, .ref (G.2.1 + j0a)), (1, .int x1a), (2, .int x2a), (3, .int x3a), (4, .int x4a)] := hl
  unfold wX0_add at h
  refine lv_aload_n hx hb dX0_add_0 rfl (lv_at hl 0 rfl) ?_
  refine rk_geti hx hb hts inlX0 hown hK hP hk_j0a cl_0 0 fq_0_0 q_2_20 rfl dX0_add_1 ?_
  refine lv_topi (fun x5_1 ex5_1 => ?_)
  replace h := h x5_1 ex5_1
  refine lv_istore (lv' := [(5, .int x5_1), (0, .ref (G.2.1 + j0a)), (1, .int x1a), (2, .int x2a), (3, .int x3a), (4, .int x4a)]) hx hb dX0_add_4 hl (by decide) rfl (fun ls hl => ?_)
  refine lv_aload_n hx hb dX0_add_6 rfl (lv_at hl 1 rfl) ?_
  refine rk_getr hx hb hts inlX0 hown hK hP hk_j0a cl_0 2 1 fq_0_2 q_2_21 rfl dX0_add_7 ?_
  refine lv_iload hx hb dX0_add_10 (lv_at hl 0 rfl) ?_
  refine lv_iload_n hx hb dX0_add_12 rfl (lv_at hl 2 rfl) ?_
  refine rk_iast hx hb hK hP hS (ky_0_2 hk_j0a) ac_8 _ rfl h.1 dX0_add_13 (fun M2 eM2 H locs hP hS => ?_)
  replace h := h.2
  replace h := h M2 eM2
  refine lv_aload_n hx hb dX0_add_14 rfl (lv_at hl 1 rfl) ?_
  refine rk_getr hx hb hts inlX0 hown hK hP hk_j0a cl_0 3 2 fq_0_3 q_2_22 rfl dX0_add_15 ?_
  refine lv_iload hx hb dX0_add_18 (lv_at hl 0 rfl) ?_
  refine lv_iload_n hx hb dX0_add_20 rfl (lv_at hl 3 rfl) ?_
  refine rk_iast hx hb hK hP hS (ky_0_3 hk_j0a) ac_8 _ rfl h.1 dX0_add_21 (fun M3 eM3 H locs hP hS => ?_)
  replace h := h.2
  replace h := h M3 eM3
  refine lv_aload_n hx hb dX0_add_22 rfl (lv_at hl 1 rfl) ?_
  refine rk_getr hx hb hts inlX0 hown hK hP hk_j0a cl_0 4 3 fq_0_4 q_2_23 rfl dX0_add_23 ?_
  refine lv_iload hx hb dX0_add_26 (lv_at hl 0 rfl) ?_
  refine lv_iload_n hx hb dX0_add_28 rfl (lv_at hl 4 rfl) ?_
  refine rk_iast hx hb hK hP hS (ky_0_4 hk_j0a) ac_8 _ rfl h.1 dX0_add_29 (fun M4 eM4 H locs hP hS => ?_)
  replace h := h.2
  replace h := h M4 eM4
  refine lv_aload_n hx hb dX0_add_30 rfl (lv_at hl 1 rfl) ?_
  refine rk_getr hx hb hts inlX0 hown hK hP hk_j0a cl_0 5 4 fq_0_5 q_3_0 rfl dX0_add_31 ?_
  refine lv_iload hx hb dX0_add_34 (lv_at hl 0 rfl) ?_
  refine lv_iload hx hb dX0_add_36 (lv_at hl 5 rfl) ?_
  refine rk_iast hx hb hK hP hS (ky_0_5 hk_j0a) ac_8 _ rfl h.1 dX0_add_38 (fun M5 eM5 H locs hP hS => ?_)
  replace h := h.2
  replace h := h M5 eM5
  refine lv_aload_n hx hb dX0_add_39 rfl (lv_at hl 1 rfl) ?_
  refine lv_dup hx hb dX0_add_40 rfl ?_
  refine rk_geti hx hb hts inlX0 hown hK hP hk_j0a cl_0 0 fq_0_0 q_2_20 rfl dX0_add_41 ?_
  refine lv_iconst (v := (1 : Int32)) hx hb dX0_add_44 k_iconst_1 ?_
  refine lv_iadd hx hb dX0_add_45 ?_
  refine rk_puti hx hb hts inlX0 tyX0 tyX0_ok nmX0 hown hK hP hS hk_j0a cl_0 0 fq_0_0 q_2_20 rfl rfl rfl dX0_add_46 (fun M6 eM6 H locs hP hS => ?_)
  replace h := h M6 eM6
  refine lv_iload hx hb dX0_add_49 (lv_at hl 0 rfl) ?_
  exact re_i hx hb hr hlocks hP hS h dX0_add_51
set_option maxHeartbeats 4000000 in
set_option maxRecDepth 100000 in
theorem mX0_isOpen (l : Launch) (G : Gp) (j0a : Nat) (x1a : Int32) (M : Mm) (Post : Mm → Int32 → Prop) (hk_j0a : kd j0a = 0) (h : wX0_isOpen Post M j0a x1a) : CtI l yX0_isOpen wsX0_isOpen rX0_isOpen G [.ref (G.2.1 + j0a), .int x1a] M Post := by
  refine Met.ofW (cc := cX0_isOpen) (maxL := 2) (ret := (some .boolean)) (by decide) rfl ?_
  intro p e s m args below meth c s₁ B hml hv
  obtain ⟨rfl, hK, hP⟩ := hv
  have hx := B.exec
  have hb := B.bytes
  have hr := B.returns
  have hlocks := B.notSynchronized
  have hts0 := atoms_spec (ws := wsX0_isOpen) B.pre
  have hts : ∀ w ∈ wsL_law, w.before _ s = true := fun w hw => hts0 w (List.mem_cons_of_mem _ hw)
  have hown : s.vm.findClass RX0 = some m.cls := findClass_of_methodNamed B.named
  have hS : va_S (Fr G) s.heap s.heap [] := va_S.rf
  have hl := lv_entry ([.ref (G.2.1 + j0a), .int x1a]) (n := 2) (Nat.le_of_ble_eq_true rfl)
  rw [lg_entry_eq]
  generalize (lg_sl ([.ref (G.2.1 + j0a), .int x1a]) ++ List.replicate (2 - (lg_sl ([.ref (G.2.1 + j0a), .int x1a])).length) Slot.unset).toArray = ls at hl ⊢
  have hl : lv_has ls 2 [(0, .ref (G.2.1 + j0a)), (1, .int x1a)] := hl
  unfold wX0_isOpen at h
  refine lv_aload_n hx hb dX0_isOpen_0 rfl (lv_at hl 0 rfl) ?_
  refine rk_geti hx hb hts inlX0 hown hK hP hk_j0a cl_0 1 fq_0_1 q_8_6 rfl dX0_isOpen_1 ?_
  refine lv_iconst (v := (1 : Int32)) hx hb dX0_isOpen_4 k_iconst_1 ?_
  refine lv_iload_n hx hb dX0_isOpen_5 rfl (lv_at hl 1 rfl) ?_
  refine lv_ishl hx hb dX0_isOpen_6 ?_
  refine lv_iand hx hb dX0_isOpen_7 ?_
  refine lv_if_eq (tgt := 15) hx hb dX0_isOpen_8 (by decide) (fun c1 => ?_) (fun c1 => ?_)
  · replace h := h.1 c1
    refine lv_iconst (v := (0 : Int32)) hx hb dX0_isOpen_15 k_iconst_0 ?_
    exact re_z hx hb hr hlocks (Or.inl rfl) hP hS h dX0_isOpen_16
  · replace h := h.2 c1
    refine lv_iconst (v := (1 : Int32)) hx hb dX0_isOpen_11 k_iconst_1 ?_
    refine lv_goto (tgt := 16) hx hb dX0_isOpen_12 (by decide) ?_
    exact re_z hx hb hr hlocks (Or.inr rfl) hP hS h dX0_isOpen_16
set_option maxHeartbeats 4000000 in
set_option maxRecDepth 100000 in
theorem mX0_isTended (l : Launch) (G : Gp) (j0a : Nat) (x1a : Int32) (M : Mm) (Post : Mm → Int32 → Prop) (hk_j0a : kd j0a = 0) (h : wX0_isTended Post M j0a x1a) : CtI l yX0_isTended wsX0_isTended rX0_isTended G [.ref (G.2.1 + j0a), .int x1a] M Post := by
  refine Met.ofW (cc := cX0_isTended) (maxL := 2) (ret := (some .boolean)) (by decide) rfl ?_
  intro p e s m args below meth c s₁ B hml hv
  obtain ⟨rfl, hK, hP⟩ := hv
  have hx := B.exec
  have hb := B.bytes
  have hr := B.returns
  have hlocks := B.notSynchronized
  have hts0 := atoms_spec (ws := wsX0_isTended) B.pre
  have hts : ∀ w ∈ wsL_law, w.before _ s = true := fun w hw => hts0 w (List.mem_cons_of_mem _ hw)
  have hown : s.vm.findClass RX0 = some m.cls := findClass_of_methodNamed B.named
  have hS : va_S (Fr G) s.heap s.heap [] := va_S.rf
  have hl := lv_entry ([.ref (G.2.1 + j0a), .int x1a]) (n := 2) (Nat.le_of_ble_eq_true rfl)
  rw [lg_entry_eq]
  generalize (lg_sl ([.ref (G.2.1 + j0a), .int x1a]) ++ List.replicate (2 - (lg_sl ([.ref (G.2.1 + j0a), .int x1a])).length) Slot.unset).toArray = ls at hl ⊢
  have hl : lv_has ls 2 [(0, .ref (G.2.1 + j0a)), (1, .int x1a)] := hl
  unfold wX0_isTended at h
  refine lv_aload_n hx hb dX0_isTended_0 rfl (lv_at hl 0 rfl) ?_
  refine rk_getr hx hb hts inlX0 hown hK hP hk_j0a cl_0 6 5 fq_0_6 q_3_1 rfl dX0_isTended_1 ?_
  refine lv_iload_n hx hb dX0_isTended_4 rfl (lv_at hl 1 rfl) ?_
  refine rk_iald hx hb hK hP (ky_0_6 hk_j0a) ac_8 _ rfl h.1 dX0_isTended_5 ?_
  replace h := h.2
  refine lv_iconst (v := (-1 : Int32)) hx hb dX0_isTended_6 k_iconst_m1 ?_
  refine lv_icmp_eq (tgt := 14) hx hb dX0_isTended_7 (by decide) (fun c1 => ?_) (fun c1 => ?_)
  · replace h := h.1 c1
    refine lv_iconst (v := (0 : Int32)) hx hb dX0_isTended_14 k_iconst_0 ?_
    exact re_z hx hb hr hlocks (Or.inl rfl) hP hS h dX0_isTended_15
  · replace h := h.2 c1
    refine lv_iconst (v := (1 : Int32)) hx hb dX0_isTended_10 k_iconst_1 ?_
    refine lv_goto (tgt := 15) hx hb dX0_isTended_11 (by decide) ?_
    exact re_z hx hb hr hlocks (Or.inr rfl) hP hS h dX0_isTended_15
set_option maxHeartbeats 4000000 in
set_option maxRecDepth 100000 in
theorem mX0_canBeOpened (l : Launch) (G : Gp) (j0a : Nat) (x1a : Int32) (M : Mm) (Post : Mm → Int32 → Prop) (hk_j0a : kd j0a = 0) (h : wX0_canBeOpened Post M j0a x1a) : CtI l yX0_canBeOpened wsX0_canBeOpened rX0_canBeOpened G [.ref (G.2.1 + j0a), .int x1a] M Post := by
  refine Met.ofW (cc := cX0_canBeOpened) (maxL := 2) (ret := (some .boolean)) (by decide) rfl ?_
  intro p e s m args below meth c s₁ B hml hv
  obtain ⟨rfl, hK, hP⟩ := hv
  have hx := B.exec
  have hb := B.bytes
  have hr := B.returns
  have hlocks := B.notSynchronized
  have hts0 := atoms_spec (ws := wsX0_canBeOpened) B.pre
  have hts : ∀ w ∈ wsL_law, w.before _ s = true := fun w hw => hts0 w (List.mem_cons_of_mem _ hw)
  have hown : s.vm.findClass RX0 = some m.cls := findClass_of_methodNamed B.named
  have hS : va_S (Fr G) s.heap s.heap [] := va_S.rf
  have hl := lv_entry ([.ref (G.2.1 + j0a), .int x1a]) (n := 2) (Nat.le_of_ble_eq_true rfl)
  rw [lg_entry_eq]
  generalize (lg_sl ([.ref (G.2.1 + j0a), .int x1a]) ++ List.replicate (2 - (lg_sl ([.ref (G.2.1 + j0a), .int x1a])).length) Slot.unset).toArray = ls at hl ⊢
  have hl : lv_has ls 2 [(0, .ref (G.2.1 + j0a)), (1, .int x1a)] := hl
  unfold wX0_canBeOpened at h
  refine lv_aload_n hx hb dX0_canBeOpened_0 rfl (lv_at hl 0 rfl) ?_
  refine lv_iload_n hx hb dX0_canBeOpened_1 rfl (lv_at hl 1 rfl) ?_
  refine rc_Vi (As := [.int x1a]) (rest := []) ⟨hx, hb, hml, hown, hts⟩ (mX0_isTended l G j0a x1a M _ hk_j0a h) (cwV 1 hts (gV_X0_isTended q_6_6) rfl rfl rfl hdV_X0_isTended ⟨Nat.le_of_ble_eq_true rfl, Nat.le_of_ble_eq_true rfl⟩) hK hP hS hk_j0a (by decide) cl_0 rfl hl.1 rfl (Nat.le_of_ble_eq_true rfl) dX0_canBeOpened_2 ⟨Nat.zero_le _, Nat.zero_le _⟩ (fun r2 M1 H locs h hP hS => ?_)
  refine lv_if_eq (tgt := 20) hx hb dX0_canBeOpened_5 (by decide) (fun c3 => ?_) (fun c3 => ?_)
  · replace h := h.1 c3
    refine lv_iconst (v := (0 : Int32)) hx hb dX0_canBeOpened_20 k_iconst_0 ?_
    exact re_z hx hb hr hlocks (Or.inl rfl) hP hS h dX0_canBeOpened_21
  · replace h := h.2 c3
    refine lv_aload_n hx hb dX0_canBeOpened_8 rfl (lv_at hl 0 rfl) ?_
    refine lv_iload_n hx hb dX0_canBeOpened_9 rfl (lv_at hl 1 rfl) ?_
    refine rc_Vi (As := [.int x1a]) (rest := []) ⟨hx, hb, hml, hown, hts⟩ (mX0_isOpen l G j0a x1a M1 _ hk_j0a h) (cwV 1 hts (gV_X0_isOpen q_18_10) rfl rfl rfl hdV_X0_isOpen ⟨Nat.le_of_ble_eq_true rfl, Nat.le_of_ble_eq_true rfl⟩) hK hP hS hk_j0a (by decide) cl_0 rfl hl.1 rfl (Nat.le_of_ble_eq_true rfl) dX0_canBeOpened_10 ⟨Nat.zero_le _, Nat.zero_le _⟩ (fun r5 M4 H locs h hP hS => ?_)
    refine lv_if_ne (tgt := 20) hx hb dX0_canBeOpened_13 (by decide) (fun c6 => ?_) (fun c6 => ?_)
    · replace h := h.1 c6
      refine lv_iconst (v := (0 : Int32)) hx hb dX0_canBeOpened_20 k_iconst_0 ?_
      exact re_z hx hb hr hlocks (Or.inl rfl) hP hS h dX0_canBeOpened_21
    · replace h := h.2 c6
      refine lv_iconst (v := (1 : Int32)) hx hb dX0_canBeOpened_16 k_iconst_1 ?_
      refine lv_goto (tgt := 21) hx hb dX0_canBeOpened_17 (by decide) ?_
      exact re_z hx hb hr hlocks (Or.inr rfl) hP hS h dX0_canBeOpened_21
set_option maxHeartbeats 4000000 in
set_option maxRecDepth 100000 in
theorem mX0_flipGate (l : Launch) (G : Gp) (j0a : Nat) (x1a : Int32) (M : Mm) (Post : Mm → Int32 → Prop) (hk_j0a : kd j0a = 0) (h : wX0_flipGate Post M j0a x1a) : CtI l yX0_flipGate wsX0_flipGate rX0_flipGate G [.ref (G.2.1 + j0a), .int x1a] M Post := by
  refine Met.ofW (cc := cX0_flipGate) (maxL := 2) (ret := (some .int)) (by decide) rfl ?_
  intro p e s m args below meth c s₁ B hml hv
  obtain ⟨rfl, hK, hP⟩ := hv
  have hx := B.exec
  have hb := B.bytes
  have hr := B.returns
  have hlocks := B.notSynchronized
  have hts0 := atoms_spec (ws := wsX0_flipGate) B.pre
  have hts : ∀ w ∈ wsL_law, w.before _ s = true := fun w hw => hts0 w (List.mem_cons_of_mem _ hw)
  have hown : s.vm.findClass RX0 = some m.cls := findClass_of_methodNamed B.named
  have hS : va_S (Fr G) s.heap s.heap [] := va_S.rf
  have hl := lv_entry ([.ref (G.2.1 + j0a), .int x1a]) (n := 2) (Nat.le_of_ble_eq_true rfl)
  rw [lg_entry_eq]
  generalize (lg_sl ([.ref (G.2.1 + j0a), .int x1a]) ++ List.replicate (2 - (lg_sl ([.ref (G.2.1 + j0a), .int x1a])).length) Slot.unset).toArray = ls at hl ⊢
  have hl : lv_has ls 2 [(0, .ref (G.2.1 + j0a)), (1, .int x1a)] := hl
  unfold wX0_flipGate at h
  refine lv_aload_n hx hb dX0_flipGate_0 rfl (lv_at hl 0 rfl) ?_
  refine lv_dup hx hb dX0_flipGate_1 rfl ?_
  refine rk_geti hx hb hts inlX0 hown hK hP hk_j0a cl_0 1 fq_0_1 q_8_6 rfl dX0_flipGate_2 ?_
  refine lv_iconst (v := (1 : Int32)) hx hb dX0_flipGate_5 k_iconst_1 ?_
  refine lv_iload_n hx hb dX0_flipGate_6 rfl (lv_at hl 1 rfl) ?_
  refine lv_ishl hx hb dX0_flipGate_7 ?_
  refine lv_ixor hx hb dX0_flipGate_8 ?_
  refine rk_puti hx hb hts inlX0 tyX0 tyX0_ok nmX0 hown hK hP hS hk_j0a cl_0 1 fq_0_1 q_8_6 rfl rfl rfl dX0_flipGate_9 (fun M1 eM1 H locs hP hS => ?_)
  replace h := h M1 eM1
  refine lv_aload_n hx hb dX0_flipGate_12 rfl (lv_at hl 0 rfl) ?_
  refine rk_geti hx hb hts inlX0 hown hK hP hk_j0a cl_0 1 fq_0_1 q_8_6 rfl dX0_flipGate_13 ?_
  exact re_i hx hb hr hlocks hP hS h dX0_flipGate_16
set_option maxHeartbeats 4000000 in
set_option maxRecDepth 100000 in
theorem mX0_tended (l : Launch) (G : Gp) (j0a : Nat) (M : Mm) (Post : Mm → Int32 → Prop) (hk_j0a : kd j0a = 0) (h : wX0_tended Post M j0a) : CtI l yX0_tended wsX0_tended rX0_tended G [.ref (G.2.1 + j0a)] M Post := by
  refine Met.ofW (cc := cX0_tended) (maxL := 3) (ret := (some .int)) (by decide) rfl ?_
  intro p e s m args below meth c s₁ B hml hv
  obtain ⟨rfl, hK, hP⟩ := hv
  have hx := B.exec
  have hb := B.bytes
  have hr := B.returns
  have hlocks := B.notSynchronized
  have hts0 := atoms_spec (ws := wsX0_tended) B.pre
  have hts : ∀ w ∈ wsL_law, w.before _ s = true := fun w hw => hts0 w (List.mem_cons_of_mem _ hw)
  have hown : s.vm.findClass RX0 = some m.cls := findClass_of_methodNamed B.named
  have hS : va_S (Fr G) s.heap s.heap [] := va_S.rf
  have hl := lv_entry ([.ref (G.2.1 + j0a)]) (n := 3) (Nat.le_of_ble_eq_true rfl)
  rw [lg_entry_eq]
  generalize (lg_sl ([.ref (G.2.1 + j0a)]) ++ List.replicate (3 - (lg_sl ([.ref (G.2.1 + j0a)])).length) Slot.unset).toArray = ls at hl ⊢
  have hl : lv_has ls 3 [(0, .ref (G.2.1 + j0a))] := hl
  have B4 : ∀ n : Nat, ∀ (M : Mm) (j0 : Nat) (x1 : Int32) (x2 : Int32) (H : Heap) (locs : List Loc) (ls : Array Slot), Rp G M H → va_S (Fr G) s.heap H locs → lv_has ls 3 [(0, .ref (G.2.1 + j0)), (1, .int x1), (2, .int x2)] → kd j0 = 0 → lX0_tended_4 Post n M j0 x1 x2 → Wi p l e (headSpec wsX0_tended rX0_tended).room s m [.ref (G.2.1 + j0a)].toArray below meth c G Post H locs (F0 m 4 ls []) := by
    intro n
    induction n with
    | zero => intro M j0 x1 x2 H locs ls hP hS hl hk_j0 h; exact h.elim
    | succ n ih =>
      intro M j0 x1 x2 H locs ls hP hS hl hk_j0 h
      have hA4 := ih
      replace h : bX0_tended_4 Post (lX0_tended_4 Post n) M j0 x1 x2 := h
      unfold bX0_tended_4 at h
      refine lv_iload_n hx hb dX0_tended_4 rfl (lv_at hl 2 rfl) ?_
      refine lv_aload_n hx hb dX0_tended_5 rfl (lv_at hl 0 rfl) ?_
      refine rk_geti hx hb hts inlX0 hown hK hP hk_j0 cl_0 0 fq_0_0 q_2_20 rfl dX0_tended_6 ?_
      refine lv_icmp_ge (tgt := 32) hx hb dX0_tended_9 (by decide) (fun c2 => ?_) (fun c2 => ?_)
      · replace h := h.1 c2
        refine lv_iload_n hx hb dX0_tended_32 rfl (lv_at hl 1 rfl) ?_
        exact re_i hx hb hr hlocks hP hS h dX0_tended_33
      · replace h := h.2 c2
        refine lv_aload_n hx hb dX0_tended_12 rfl (lv_at hl 0 rfl) ?_
        refine lv_iload_n hx hb dX0_tended_13 rfl (lv_at hl 2 rfl) ?_
        refine rc_Vi (As := [.int x2]) (rest := []) ⟨hx, hb, hml, hown, hts⟩ (mX0_isTended l G j0 x2 M _ hk_j0 h) (cwV 1 hts (gV_X0_isTended q_6_6) rfl rfl rfl hdV_X0_isTended ⟨Nat.le_of_ble_eq_true rfl, Nat.le_of_ble_eq_true rfl⟩) hK hP hS hk_j0 (by decide) cl_0 rfl hl.1 rfl (Nat.le_of_ble_eq_true rfl) dX0_tended_14 ⟨Nat.zero_le _, Nat.zero_le _⟩ (fun r4 M3 H locs h hP hS => ?_)
        refine lv_if_eq (tgt := 26) hx hb dX0_tended_17 (by decide) (fun c5 => ?_) (fun c5 => ?_)
        · replace h := h.1 c5
          obtain ⟨x2_6, ex2_6⟩ : ∃ y : Int32, y = x2 + (1 : Int32) := ⟨_, rfl⟩
          replace h := h x2_6 ex2_6
          refine lv_iinc (v := x2_6) (lv' := [(2, .int x2_6), (0, .ref (G.2.1 + j0)), (1, .int x1)]) hx hb dX0_tended_26 hl (k := 2) rfl (by rw [ex2_6]; rfl) (by decide) rfl (fun ls hl => ?_)
          refine lv_goto (tgt := 4) hx hb dX0_tended_29 (by decide) ?_
          exact hA4 _ _ _ _ _ _ _ hP hS (lv_sub hl [1, 2, 0] rfl) hk_j0 h
        · replace h := h.2 c5
          refine lv_iload_n hx hb dX0_tended_20 rfl (lv_at hl 1 rfl) ?_
          refine lv_iconst (v := (1 : Int32)) hx hb dX0_tended_21 k_iconst_1 ?_
          refine lv_iload_n hx hb dX0_tended_22 rfl (lv_at hl 2 rfl) ?_
          refine lv_ishl hx hb dX0_tended_23 ?_
          refine lv_ior hx hb dX0_tended_24 ?_
          refine lv_topi (fun x1_7 ex1_7 => ?_)
          replace h := h x1_7 ex1_7
          refine lv_istore_n (lv' := [(1, .int x1_7), (0, .ref (G.2.1 + j0)), (2, .int x2)]) hx hb dX0_tended_25 rfl hl (by decide) rfl (fun ls hl => ?_)
          obtain ⟨x2_8, ex2_8⟩ : ∃ y : Int32, y = x2 + (1 : Int32) := ⟨_, rfl⟩
          replace h := h x2_8 ex2_8
          refine lv_iinc (v := x2_8) (lv' := [(2, .int x2_8), (1, .int x1_7), (0, .ref (G.2.1 + j0))]) hx hb dX0_tended_26 hl (k := 2) rfl (by rw [ex2_8]; rfl) (by decide) rfl (fun ls hl => ?_)
          refine lv_goto (tgt := 4) hx hb dX0_tended_29 (by decide) ?_
          exact hA4 _ _ _ _ _ _ _ hP hS (lv_sub hl [2, 1, 0] rfl) hk_j0 h
  unfold wX0_tended at h
  refine lv_iconst (v := (0 : Int32)) hx hb dX0_tended_0 k_iconst_0 ?_
  refine lv_istore_n (lv' := [(1, .int (0 : Int32)), (0, .ref (G.2.1 + j0a))]) hx hb dX0_tended_1 rfl hl (by decide) rfl (fun ls hl => ?_)
  refine lv_iconst (v := (1 : Int32)) hx hb dX0_tended_2 k_iconst_1 ?_
  refine lv_istore_n (lv' := [(2, .int (1 : Int32)), (1, .int (0 : Int32)), (0, .ref (G.2.1 + j0a))]) hx hb dX0_tended_3 rfl hl (by decide) rfl (fun ls hl => ?_)
  obtain ⟨n1, h⟩ := h
  exact B4 _ _ _ _ _ _ _ _ hP hS (lv_sub hl [2, 1, 0] rfl) hk_j0a h
set_option maxHeartbeats 4000000 in
set_option maxRecDepth 100000 in
theorem mX0_gatesOf (l : Launch) (G : Gp) (j0a : Nat) (x1a : Int32) (M : Mm) (Post : Mm → Int32 → Prop) (hk_j0a : kd j0a = 0) (h : wX0_gatesOf Post M j0a x1a) : CtI l yX0_gatesOf wsX0_gatesOf rX0_gatesOf G [.ref (G.2.1 + j0a), .int x1a] M Post := by
  refine Met.ofW (cc := cX0_gatesOf) (maxL := 4) (ret := (some .int)) (by decide) rfl ?_
  intro p e s m args below meth c s₁ B hml hv
  obtain ⟨rfl, hK, hP⟩ := hv
  have hx := B.exec
  have hb := B.bytes
  have hr := B.returns
  have hlocks := B.notSynchronized
  have hts0 := atoms_spec (ws := wsX0_gatesOf) B.pre
  have hts : ∀ w ∈ wsL_law, w.before _ s = true := fun w hw => hts0 w (List.mem_cons_of_mem _ hw)
  have hown : s.vm.findClass RX0 = some m.cls := findClass_of_methodNamed B.named
  have hS : va_S (Fr G) s.heap s.heap [] := va_S.rf
  have hl := lv_entry ([.ref (G.2.1 + j0a), .int x1a]) (n := 4) (Nat.le_of_ble_eq_true rfl)
  rw [lg_entry_eq]
  generalize (lg_sl ([.ref (G.2.1 + j0a), .int x1a]) ++ List.replicate (4 - (lg_sl ([.ref (G.2.1 + j0a), .int x1a])).length) Slot.unset).toArray = ls at hl ⊢
  have hl : lv_has ls 4 [(0, .ref (G.2.1 + j0a)), (1, .int x1a)] := hl
  have B4 : ∀ n : Nat, ∀ (M : Mm) (j0 : Nat) (x1 : Int32) (x2 : Int32) (x3 : Int32) (H : Heap) (locs : List Loc) (ls : Array Slot), Rp G M H → va_S (Fr G) s.heap H locs → lv_has ls 4 [(0, .ref (G.2.1 + j0)), (1, .int x1), (2, .int x2), (3, .int x3)] → kd j0 = 0 → lX0_gatesOf_4 Post n M j0 x1 x2 x3 → Wi p l e (headSpec wsX0_gatesOf rX0_gatesOf).room s m [.ref (G.2.1 + j0a), .int x1a].toArray below meth c G Post H locs (F0 m 4 ls []) := by
    intro n
    induction n with
    | zero => intro M j0 x1 x2 x3 H locs ls hP hS hl hk_j0 h; exact h.elim
    | succ n ih =>
      intro M j0 x1 x2 x3 H locs ls hP hS hl hk_j0 h
      have hA4 := ih
      replace h : bX0_gatesOf_4 Post (lX0_gatesOf_4 Post n) M j0 x1 x2 x3 := h
      unfold bX0_gatesOf_4 at h
      refine lv_iload_n hx hb dX0_gatesOf_4 rfl (lv_at hl 3 rfl) ?_
      refine lv_aload_n hx hb dX0_gatesOf_5 rfl (lv_at hl 0 rfl) ?_
      refine rk_geti hx hb hts inlX0 hown hK hP hk_j0 cl_0 0 fq_0_0 q_2_20 rfl dX0_gatesOf_6 ?_
      refine lv_icmp_ge (tgt := 31) hx hb dX0_gatesOf_9 (by decide) (fun c2 => ?_) (fun c2 => ?_)
      · replace h := h.1 c2
        refine lv_iload_n hx hb dX0_gatesOf_31 rfl (lv_at hl 2 rfl) ?_
        exact re_i hx hb hr hlocks hP hS h dX0_gatesOf_32
      · replace h := h.2 c2
        refine lv_aload_n hx hb dX0_gatesOf_12 rfl (lv_at hl 0 rfl) ?_
        refine rk_getr hx hb hts inlX0 hown hK hP hk_j0 cl_0 6 5 fq_0_6 q_3_1 rfl dX0_gatesOf_13 ?_
        refine lv_iload_n hx hb dX0_gatesOf_16 rfl (lv_at hl 3 rfl) ?_
        refine rk_iald hx hb hK hP (ky_0_6 hk_j0) ac_8 _ rfl h.1 dX0_gatesOf_17 ?_
        replace h := h.2
        refine lv_iload_n hx hb dX0_gatesOf_18 rfl (lv_at hl 1 rfl) ?_
        refine lv_icmp_ne (tgt := 25) hx hb dX0_gatesOf_19 (by decide) (fun c3 => ?_) (fun c3 => ?_)
        · replace h := h.1 c3
          obtain ⟨x3_4, ex3_4⟩ : ∃ y : Int32, y = x3 + (1 : Int32) := ⟨_, rfl⟩
          replace h := h x3_4 ex3_4
          refine lv_iinc (v := x3_4) (lv' := [(3, .int x3_4), (0, .ref (G.2.1 + j0)), (1, .int x1), (2, .int x2)]) hx hb dX0_gatesOf_25 hl (k := 3) rfl (by rw [ex3_4]; rfl) (by decide) rfl (fun ls hl => ?_)
          refine lv_goto (tgt := 4) hx hb dX0_gatesOf_28 (by decide) ?_
          exact hA4 _ _ _ _ _ _ _ _ hP hS (lv_sub hl [1, 2, 3, 0] rfl) hk_j0 h
        · replace h := h.2 c3
          obtain ⟨x2_5, ex2_5⟩ : ∃ y : Int32, y = x2 + (1 : Int32) := ⟨_, rfl⟩
          replace h := h x2_5 ex2_5
          refine lv_iinc (v := x2_5) (lv' := [(2, .int x2_5), (0, .ref (G.2.1 + j0)), (1, .int x1), (3, .int x3)]) hx hb dX0_gatesOf_22 hl (k := 2) rfl (by rw [ex2_5]; rfl) (by decide) rfl (fun ls hl => ?_)
          obtain ⟨x3_6, ex3_6⟩ : ∃ y : Int32, y = x3 + (1 : Int32) := ⟨_, rfl⟩
          replace h := h x3_6 ex3_6
          refine lv_iinc (v := x3_6) (lv' := [(3, .int x3_6), (2, .int x2_5), (0, .ref (G.2.1 + j0)), (1, .int x1)]) hx hb dX0_gatesOf_25 hl (k := 3) rfl (by rw [ex3_6]; rfl) (by decide) rfl (fun ls hl => ?_)
          refine lv_goto (tgt := 4) hx hb dX0_gatesOf_28 (by decide) ?_
          exact hA4 _ _ _ _ _ _ _ _ hP hS (lv_sub hl [2, 3, 1, 0] rfl) hk_j0 h
  unfold wX0_gatesOf at h
  refine lv_iconst (v := (0 : Int32)) hx hb dX0_gatesOf_0 k_iconst_0 ?_
  refine lv_istore_n (lv' := [(2, .int (0 : Int32)), (0, .ref (G.2.1 + j0a)), (1, .int x1a)]) hx hb dX0_gatesOf_1 rfl hl (by decide) rfl (fun ls hl => ?_)
  refine lv_iconst (v := (1 : Int32)) hx hb dX0_gatesOf_2 k_iconst_1 ?_
  refine lv_istore_n (lv' := [(3, .int (1 : Int32)), (2, .int (0 : Int32)), (0, .ref (G.2.1 + j0a)), (1, .int x1a)]) hx hb dX0_gatesOf_3 rfl hl (by decide) rfl (fun ls hl => ?_)
  obtain ⟨n1, h⟩ := h
  exact B4 _ _ _ _ _ _ _ _ _ hP hS (lv_sub hl [2, 3, 1, 0] rfl) hk_j0a h
set_option maxHeartbeats 4000000 in
set_option maxRecDepth 100000 in
theorem mX0_below (l : Launch) (G : Gp) (j0a : Nat) (x1a : Int32) (M : Mm) (Post : Mm → Int32 → Prop) (hk_j0a : kd j0a = 0) (h : wX0_below Post M j0a x1a) : CtI l yX0_below wsX0_below rX0_below G [.ref (G.2.1 + j0a), .int x1a] M Post := by
  refine Met.ofW (cc := cX0_below) (maxL := 4) (ret := (some .int)) (by decide) rfl ?_
  intro p e s m args below meth c s₁ B hml hv
  obtain ⟨rfl, hK, hP⟩ := hv
  have hx := B.exec
  have hb := B.bytes
  have hr := B.returns
  have hlocks := B.notSynchronized
  have hts0 := atoms_spec (ws := wsX0_below) B.pre
  have hts : ∀ w ∈ wsL_law, w.before _ s = true := fun w hw => hts0 w (List.mem_cons_of_mem _ hw)
  have hown : s.vm.findClass RX0 = some m.cls := findClass_of_methodNamed B.named
  have hS : va_S (Fr G) s.heap s.heap [] := va_S.rf
  have hl := lv_entry ([.ref (G.2.1 + j0a), .int x1a]) (n := 4) (Nat.le_of_ble_eq_true rfl)
  rw [lg_entry_eq]
  generalize (lg_sl ([.ref (G.2.1 + j0a), .int x1a]) ++ List.replicate (4 - (lg_sl ([.ref (G.2.1 + j0a), .int x1a])).length) Slot.unset).toArray = ls at hl ⊢
  have hl : lv_has ls 4 [(0, .ref (G.2.1 + j0a)), (1, .int x1a)] := hl
  have B8 : ∀ n : Nat, ∀ (M : Mm) (j0 : Nat) (x1 : Int32) (x2 : Int32) (x3 : Int32) (H : Heap) (locs : List Loc) (ls : Array Slot), Rp G M H → va_S (Fr G) s.heap H locs → lv_has ls 4 [(0, .ref (G.2.1 + j0)), (1, .int x1), (2, .int x2), (3, .int x3)] → kd j0 = 0 → lX0_below_8 Post n M j0 x1 x2 x3 → Wi p l e (headSpec wsX0_below rX0_below).room s m [.ref (G.2.1 + j0a), .int x1a].toArray below meth c G Post H locs (F0 m 8 ls []) := by
    intro n
    induction n with
    | zero => intro M j0 x1 x2 x3 H locs ls hP hS hl hk_j0 h; exact h.elim
    | succ n ih =>
      intro M j0 x1 x2 x3 H locs ls hP hS hl hk_j0 h
      have hA8 := ih
      replace h : bX0_below_8 Post (lX0_below_8 Post n) M j0 x1 x2 x3 := h
      unfold bX0_below_8 at h
      refine lv_iload_n hx hb dX0_below_8 rfl (lv_at hl 3 rfl) ?_
      refine lv_aload_n hx hb dX0_below_9 rfl (lv_at hl 0 rfl) ?_
      refine rk_geti hx hb hts inlX0 hown hK hP hk_j0 cl_0 0 fq_0_0 q_2_20 rfl dX0_below_10 ?_
      refine lv_icmp_ge (tgt := 41) hx hb dX0_below_13 (by decide) (fun c4 => ?_) (fun c4 => ?_)
      · replace h := h.1 c4
        refine lv_iload_n hx hb dX0_below_41 rfl (lv_at hl 2 rfl) ?_
        refine lv_iconst (v := (1 : Int32)) hx hb dX0_below_42 k_iconst_1 ?_
        refine lv_iload_n hx hb dX0_below_43 rfl (lv_at hl 1 rfl) ?_
        refine lv_ishl hx hb dX0_below_44 ?_
        refine lv_iconst (v := (-1 : Int32)) hx hb dX0_below_45 k_iconst_m1 ?_
        refine lv_ixor hx hb dX0_below_46 ?_
        refine lv_iand hx hb dX0_below_47 ?_
        exact re_i hx hb hr hlocks hP hS h dX0_below_48
      · replace h := h.2 c4
        refine lv_iload_n hx hb dX0_below_16 rfl (lv_at hl 2 rfl) ?_
        refine lv_iconst (v := (1 : Int32)) hx hb dX0_below_17 k_iconst_1 ?_
        refine lv_aload_n hx hb dX0_below_18 rfl (lv_at hl 0 rfl) ?_
        refine rk_getr hx hb hts inlX0 hown hK hP hk_j0 cl_0 2 1 fq_0_2 q_2_21 rfl dX0_below_19 ?_
        refine lv_iload_n hx hb dX0_below_22 rfl (lv_at hl 3 rfl) ?_
        refine rk_iald hx hb hK hP (ky_0_2 hk_j0) ac_8 _ rfl h.1 dX0_below_23 ?_
        replace h := h.2
        refine lv_ishl hx hb dX0_below_24 ?_
        refine lv_iand hx hb dX0_below_25 ?_
        refine lv_if_eq (tgt := 35) hx hb dX0_below_26 (by decide) (fun c5 => ?_) (fun c5 => ?_)
        · replace h := h.1 c5
          obtain ⟨x3_6, ex3_6⟩ : ∃ y : Int32, y = x3 + (1 : Int32) := ⟨_, rfl⟩
          replace h := h x3_6 ex3_6
          refine lv_iinc (v := x3_6) (lv' := [(3, .int x3_6), (0, .ref (G.2.1 + j0)), (1, .int x1), (2, .int x2)]) hx hb dX0_below_35 hl (k := 3) rfl (by rw [ex3_6]; rfl) (by decide) rfl (fun ls hl => ?_)
          refine lv_goto (tgt := 8) hx hb dX0_below_38 (by decide) ?_
          exact hA8 _ _ _ _ _ _ _ _ hP hS (lv_sub hl [1, 2, 3, 0] rfl) hk_j0 h
        · replace h := h.2 c5
          refine lv_iload_n hx hb dX0_below_29 rfl (lv_at hl 2 rfl) ?_
          refine lv_iconst (v := (1 : Int32)) hx hb dX0_below_30 k_iconst_1 ?_
          refine lv_iload_n hx hb dX0_below_31 rfl (lv_at hl 3 rfl) ?_
          refine lv_ishl hx hb dX0_below_32 ?_
          refine lv_ior hx hb dX0_below_33 ?_
          refine lv_topi (fun x2_7 ex2_7 => ?_)
          replace h := h x2_7 ex2_7
          refine lv_istore_n (lv' := [(2, .int x2_7), (0, .ref (G.2.1 + j0)), (1, .int x1), (3, .int x3)]) hx hb dX0_below_34 rfl hl (by decide) rfl (fun ls hl => ?_)
          obtain ⟨x3_8, ex3_8⟩ : ∃ y : Int32, y = x3 + (1 : Int32) := ⟨_, rfl⟩
          replace h := h x3_8 ex3_8
          refine lv_iinc (v := x3_8) (lv' := [(3, .int x3_8), (2, .int x2_7), (0, .ref (G.2.1 + j0)), (1, .int x1)]) hx hb dX0_below_35 hl (k := 3) rfl (by rw [ex3_8]; rfl) (by decide) rfl (fun ls hl => ?_)
          refine lv_goto (tgt := 8) hx hb dX0_below_38 (by decide) ?_
          exact hA8 _ _ _ _ _ _ _ _ hP hS (lv_sub hl [2, 3, 1, 0] rfl) hk_j0 h
  unfold wX0_below at h
  refine lv_iconst (v := (1 : Int32)) hx hb dX0_below_0 k_iconst_1 ?_
  refine lv_iload_n hx hb dX0_below_1 rfl (lv_at hl 1 rfl) ?_
  refine lv_ishl hx hb dX0_below_2 ?_
  refine lv_topi (fun x2_1 ex2_1 => ?_)
  replace h := h x2_1 ex2_1
  refine lv_istore_n (lv' := [(2, .int x2_1), (0, .ref (G.2.1 + j0a)), (1, .int x1a)]) hx hb dX0_below_3 rfl hl (by decide) rfl (fun ls hl => ?_)
  refine lv_iload_n hx hb dX0_below_4 rfl (lv_at hl 2 rfl) ?_
  refine lv_iconst (v := (1 : Int32)) hx hb dX0_below_5 k_iconst_1 ?_
  refine lv_iadd hx hb dX0_below_6 ?_
  refine lv_topi (fun x3_2 ex3_2 => ?_)
  replace h := h x3_2 ex3_2
  refine lv_istore_n (lv' := [(3, .int x3_2), (2, .int x2_1), (0, .ref (G.2.1 + j0a)), (1, .int x1a)]) hx hb dX0_below_7 rfl hl (by decide) rfl (fun ls hl => ?_)
  obtain ⟨n3, h⟩ := h
  exact B8 _ _ _ _ _ _ _ _ _ hP hS (lv_sub hl [2, 3, 1, 0] rfl) hk_j0a h
set_option maxHeartbeats 4000000 in
set_option maxRecDepth 100000 in
theorem mX1_become (l : Launch) (G : Gp) (j0a : Nat) (j1a : Nat) (M : Mm) (Post : Mm → Prop) (hk_j0a : kd j0a = 1) (hk_j1a : kd j1a = 1) (h : wX1_become Post M j0a j1a) : CtV l yX1_become wsX1_become rX1_become G [.ref (G.2.1 + j0a), .ref (G.2.1 + j1a)] M Post := by
  refine Met.ofW (cc := cX1_become) (maxL := 2) (ret := none) (by decide) rfl ?_
  intro p e s m args below meth c s₁ B hml hv
  obtain ⟨rfl, hK, hP⟩ := hv
  have hx := B.exec
  have hb := B.bytes
  have hr := B.returns
  have hlocks := B.notSynchronized
  have hts0 := atoms_spec (ws := wsX1_become) B.pre
  have hts : ∀ w ∈ wsL_law, w.before _ s = true := fun w hw => hts0 w (List.mem_cons_of_mem _ hw)
  have hown : s.vm.findClass RX1 = some m.cls := findClass_of_methodNamed B.named
  have hS : va_S (Fr G) s.heap s.heap [] := va_S.rf
  have hl := lv_entry ([.ref (G.2.1 + j0a), .ref (G.2.1 + j1a)]) (n := 2) (Nat.le_of_ble_eq_true rfl)
  rw [lg_entry_eq]
  generalize (lg_sl ([.ref (G.2.1 + j0a), .ref (G.2.1 + j1a)]) ++ List.replicate (2 - (lg_sl ([.ref (G.2.1 + j0a), .ref (G.2.1 + j1a)])).length) Slot.unset).toArray = ls at hl ⊢
  have hl : lv_has ls 2 [(0, .ref (G.2.1 + j0a)), (1, .ref (G.2.1 + j1a))] := hl
  unfold wX1_become at h
  refine lv_aload_n hx hb dX1_become_0 rfl (lv_at hl 0 rfl) ?_
  refine lv_aload_n hx hb dX1_become_1 rfl (lv_at hl 1 rfl) ?_
  refine rk_geti hx hb hts inlX1 hown hK hP hk_j1a cl_1 0 fq_1_0 q_5_14 rfl dX1_become_2 ?_
  refine rk_puti hx hb hts inlX1 tyX1 tyX1_ok nmX1 hown hK hP hS hk_j0a cl_1 0 fq_1_0 q_5_14 rfl rfl rfl dX1_become_5 (fun M1 eM1 H locs hP hS => ?_)
  replace h := h M1 eM1
  refine lv_aload_n hx hb dX1_become_8 rfl (lv_at hl 0 rfl) ?_
  refine lv_aload_n hx hb dX1_become_9 rfl (lv_at hl 1 rfl) ?_
  refine rk_geti hx hb hts inlX1 hown hK hP hk_j1a cl_1 1 fq_1_1 q_7_4 rfl dX1_become_10 ?_
  refine rk_puti hx hb hts inlX1 tyX1 tyX1_ok nmX1 hown hK hP hS hk_j0a cl_1 1 fq_1_1 q_7_4 rfl rfl rfl dX1_become_13 (fun M2 eM2 H locs hP hS => ?_)
  replace h := h M2 eM2
  refine lv_aload_n hx hb dX1_become_16 rfl (lv_at hl 1 rfl) ?_
  refine rk_getr hx hb hts inlX1 hown hK hP hk_j1a cl_1 2 1 fq_1_2 q_3_8 rfl dX1_become_17 ?_
  refine lv_iconst (v := (0 : Int32)) hx hb dX1_become_20 k_iconst_0 ?_
  refine lv_aload_n hx hb dX1_become_21 rfl (lv_at hl 0 rfl) ?_
  refine rk_getr hx hb hts inlX1 hown hK hP hk_j0a cl_1 2 1 fq_1_2 q_3_8 rfl dX1_become_22 ?_
  refine lv_iconst (v := (0 : Int32)) hx hb dX1_become_25 k_iconst_0 ?_
  refine lv_bipush (v := (10 : Int32)) hx hb dX1_become_26 k_bipush_10 ?_
  refine rk_copy hx hb (hml.trans hl.1.symm) hts hown q_11_9 q_11_2 q_11_3 q_11_4 hK hP hS (ky_1_2 hk_j1a) (ky_1_2 hk_j0a) ac_9 ⟨ix_10, by decide⟩ (Nat.le_of_ble_eq_true rfl) (by decide) dX1_become_28 (fun M3 eM3 H locs hP hS => ?_)
  replace h := h M3 eM3
  refine lv_aload_n hx hb dX1_become_31 rfl (lv_at hl 1 rfl) ?_
  refine rk_getr hx hb hts inlX1 hown hK hP hk_j1a cl_1 3 2 fq_1_3 q_3_9 rfl dX1_become_32 ?_
  refine lv_iconst (v := (0 : Int32)) hx hb dX1_become_35 k_iconst_0 ?_
  refine lv_aload_n hx hb dX1_become_36 rfl (lv_at hl 0 rfl) ?_
  refine rk_getr hx hb hts inlX1 hown hK hP hk_j0a cl_1 3 2 fq_1_3 q_3_9 rfl dX1_become_37 ?_
  refine lv_iconst (v := (0 : Int32)) hx hb dX1_become_40 k_iconst_0 ?_
  refine lv_bipush (v := (10 : Int32)) hx hb dX1_become_41 k_bipush_10 ?_
  refine rk_copy hx hb (hml.trans hl.1.symm) hts hown q_11_9 q_11_2 q_11_3 q_11_4 hK hP hS (ky_1_3 hk_j1a) (ky_1_3 hk_j0a) ac_9 ⟨ix_10, by decide⟩ (Nat.le_of_ble_eq_true rfl) (by decide) dX1_become_43 (fun M4 eM4 H locs hP hS => ?_)
  replace h := h M4 eM4
  refine lv_aload_n hx hb dX1_become_46 rfl (lv_at hl 1 rfl) ?_
  refine rk_getr hx hb hts inlX1 hown hK hP hk_j1a cl_1 4 3 fq_1_4 q_3_10 rfl dX1_become_47 ?_
  refine lv_iconst (v := (0 : Int32)) hx hb dX1_become_50 k_iconst_0 ?_
  refine lv_aload_n hx hb dX1_become_51 rfl (lv_at hl 0 rfl) ?_
  refine rk_getr hx hb hts inlX1 hown hK hP hk_j0a cl_1 4 3 fq_1_4 q_3_10 rfl dX1_become_52 ?_
  refine lv_iconst (v := (0 : Int32)) hx hb dX1_become_55 k_iconst_0 ?_
  refine lv_bipush (v := (10 : Int32)) hx hb dX1_become_56 k_bipush_10 ?_
  refine rk_copy hx hb (hml.trans hl.1.symm) hts hown q_11_9 q_11_2 q_11_3 q_11_4 hK hP hS (ky_1_4 hk_j1a) (ky_1_4 hk_j0a) ac_9 ⟨ix_10, by decide⟩ (Nat.le_of_ble_eq_true rfl) (by decide) dX1_become_58 (fun M5 eM5 H locs hP hS => ?_)
  replace h := h M5 eM5
  refine lv_aload_n hx hb dX1_become_61 rfl (lv_at hl 1 rfl) ?_
  refine rk_getr hx hb hts inlX1 hown hK hP hk_j1a cl_1 5 4 fq_1_5 q_3_11 rfl dX1_become_62 ?_
  refine lv_iconst (v := (0 : Int32)) hx hb dX1_become_65 k_iconst_0 ?_
  refine lv_aload_n hx hb dX1_become_66 rfl (lv_at hl 0 rfl) ?_
  refine rk_getr hx hb hts inlX1 hown hK hP hk_j0a cl_1 5 4 fq_1_5 q_3_11 rfl dX1_become_67 ?_
  refine lv_iconst (v := (0 : Int32)) hx hb dX1_become_70 k_iconst_0 ?_
  refine lv_bipush (v := (10 : Int32)) hx hb dX1_become_71 k_bipush_10 ?_
  refine rk_copy hx hb (hml.trans hl.1.symm) hts hown q_11_9 q_11_2 q_11_3 q_11_4 hK hP hS (ky_1_5 hk_j1a) (ky_1_5 hk_j0a) ac_9 ⟨ix_10, by decide⟩ (Nat.le_of_ble_eq_true rfl) (by decide) dX1_become_73 (fun M6 eM6 H locs hP hS => ?_)
  replace h := h M6 eM6
  refine lv_aload_n hx hb dX1_become_76 rfl (lv_at hl 1 rfl) ?_
  refine rk_getr hx hb hts inlX1 hown hK hP hk_j1a cl_1 6 5 fq_1_6 q_3_12 rfl dX1_become_77 ?_
  refine lv_iconst (v := (0 : Int32)) hx hb dX1_become_80 k_iconst_0 ?_
  refine lv_aload_n hx hb dX1_become_81 rfl (lv_at hl 0 rfl) ?_
  refine rk_getr hx hb hts inlX1 hown hK hP hk_j0a cl_1 6 5 fq_1_6 q_3_12 rfl dX1_become_82 ?_
  refine lv_iconst (v := (0 : Int32)) hx hb dX1_become_85 k_iconst_0 ?_
  refine lv_bipush (v := (10 : Int32)) hx hb dX1_become_86 k_bipush_10 ?_
  refine rk_copy hx hb (hml.trans hl.1.symm) hts hown q_11_9 q_11_2 q_11_3 q_11_4 hK hP hS (ky_1_6 hk_j1a) (ky_1_6 hk_j0a) ac_9 ⟨ix_10, by decide⟩ (Nat.le_of_ble_eq_true rfl) (by decide) dX1_become_88 (fun M7 eM7 H locs hP hS => ?_)
  replace h := h M7 eM7
  refine lv_aload_n hx hb dX1_become_91 rfl (lv_at hl 1 rfl) ?_
  refine rk_getr hx hb hts inlX1 hown hK hP hk_j1a cl_1 7 6 fq_1_7 q_3_13 rfl dX1_become_92 ?_
  refine lv_iconst (v := (0 : Int32)) hx hb dX1_become_95 k_iconst_0 ?_
  refine lv_aload_n hx hb dX1_become_96 rfl (lv_at hl 0 rfl) ?_
  refine rk_getr hx hb hts inlX1 hown hK hP hk_j0a cl_1 7 6 fq_1_7 q_3_13 rfl dX1_become_97 ?_
  refine lv_iconst (v := (0 : Int32)) hx hb dX1_become_100 k_iconst_0 ?_
  refine lv_bipush (v := (10 : Int32)) hx hb dX1_become_101 k_bipush_10 ?_
  refine rk_copy hx hb (hml.trans hl.1.symm) hts hown q_11_9 q_11_2 q_11_3 q_11_4 hK hP hS (ky_1_7 hk_j1a) (ky_1_7 hk_j0a) ac_9 ⟨ix_10, by decide⟩ (Nat.le_of_ble_eq_true rfl) (by decide) dX1_become_103 (fun M8 eM8 H locs hP hS => ?_)
  replace h := h M8 eM8
  refine lv_aload_n hx hb dX1_become_106 rfl (lv_at hl 1 rfl) ?_
  refine rk_getr hx hb hts inlX1 hown hK hP hk_j1a cl_1 8 7 fq_1_8 q_3_14 rfl dX1_become_107 ?_
  refine lv_iconst (v := (0 : Int32)) hx hb dX1_become_110 k_iconst_0 ?_
  refine lv_aload_n hx hb dX1_become_111 rfl (lv_at hl 0 rfl) ?_
  refine rk_getr hx hb hts inlX1 hown hK hP hk_j0a cl_1 8 7 fq_1_8 q_3_14 rfl dX1_become_112 ?_
  refine lv_iconst (v := (0 : Int32)) hx hb dX1_become_115 k_iconst_0 ?_
  refine lv_bipush (v := (10 : Int32)) hx hb dX1_become_116 k_bipush_10 ?_
  refine rk_copy hx hb (hml.trans hl.1.symm) hts hown q_11_9 q_11_2 q_11_3 q_11_4 hK hP hS (ky_1_8 hk_j1a) (ky_1_8 hk_j0a) ac_9 ⟨ix_10, by decide⟩ (Nat.le_of_ble_eq_true rfl) (by decide) dX1_become_118 (fun M9 eM9 H locs hP hS => ?_)
  replace h := h M9 eM9
  exact re_v hx hb hr hlocks hP hS h dX1_become_121
set_option maxHeartbeats 4000000 in
set_option maxRecDepth 100000 in
theorem mX1_has (l : Launch) (G : Gp) (j0a : Nat) (x1a : Int32) (M : Mm) (Post : Mm → Int32 → Prop) (hk_j0a : kd j0a = 1) (h : wX1_has Post M j0a x1a) : CtI l yX1_has wsX1_has rX1_has G [.ref (G.2.1 + j0a), .int x1a] M Post := by
  refine Met.ofW (cc := cX1_has) (maxL := 2) (ret := (some .boolean)) (by decide) rfl ?_
  intro p e s m args below meth c s₁ B hml hv
  obtain ⟨rfl, hK, hP⟩ := hv
  have hx := B.exec
  have hb := B.bytes
  have hr := B.returns
  have hlocks := B.notSynchronized
  have hts0 := atoms_spec (ws := wsX1_has) B.pre
  have hts : ∀ w ∈ wsL_law, w.before _ s = true := fun w hw => hts0 w (List.mem_cons_of_mem _ hw)
  have hown : s.vm.findClass RX1 = some m.cls := findClass_of_methodNamed B.named
  have hS : va_S (Fr G) s.heap s.heap [] := va_S.rf
  have hl := lv_entry ([.ref (G.2.1 + j0a), .int x1a]) (n := 2) (Nat.le_of_ble_eq_true rfl)
  rw [lg_entry_eq]
  generalize (lg_sl ([.ref (G.2.1 + j0a), .int x1a]) ++ List.replicate (2 - (lg_sl ([.ref (G.2.1 + j0a), .int x1a])).length) Slot.unset).toArray = ls at hl ⊢
  have hl : lv_has ls 2 [(0, .ref (G.2.1 + j0a)), (1, .int x1a)] := hl
  unfold wX1_has at h
  refine lv_iload_n hx hb dX1_has_0 rfl (lv_at hl 1 rfl) ?_
  refine lv_if_lt (tgt := 16) hx hb dX1_has_1 (by decide) (fun c1 => ?_) (fun c1 => ?_)
  · replace h := h.1 c1
    refine lv_iconst (v := (0 : Int32)) hx hb dX1_has_16 k_iconst_0 ?_
    exact re_z hx hb hr hlocks (Or.inl rfl) hP hS h dX1_has_17
  · replace h := h.2 c1
    refine lv_iload_n hx hb dX1_has_4 rfl (lv_at hl 1 rfl) ?_
    refine lv_aload_n hx hb dX1_has_5 rfl (lv_at hl 0 rfl) ?_
    refine rk_geti hx hb hts inlX1 hown hK hP hk_j0a cl_1 0 fq_1_0 q_5_14 rfl dX1_has_6 ?_
    refine lv_icmp_ge (tgt := 16) hx hb dX1_has_9 (by decide) (fun c2 => ?_) (fun c2 => ?_)
    · replace h := h.1 c2
      refine lv_iconst (v := (0 : Int32)) hx hb dX1_has_16 k_iconst_0 ?_
      exact re_z hx hb hr hlocks (Or.inl rfl) hP hS h dX1_has_17
    · replace h := h.2 c2
      refine lv_iconst (v := (1 : Int32)) hx hb dX1_has_12 k_iconst_1 ?_
      refine lv_goto (tgt := 17) hx hb dX1_has_13 (by decide) ?_
      exact re_z hx hb hr hlocks (Or.inr rfl) hP hS h dX1_has_17
set_option maxHeartbeats 4000000 in
set_option maxRecDepth 100000 in
theorem mX1_add (l : Launch) (G : Gp) (j0a : Nat) (x1a : Int32) (x2a : Int32) (x3a : Int32) (x4a : Int32) (M : Mm) (Post : Mm → Int32 → Prop) (hk_j0a : kd j0a = 1) (h : wX1_add Post M j0a x1a x2a x3a x4a) : CtI l yX1_add wsX1_add rX1_add G [.ref (G.2.1 + j0a), .int x1a, .int x2a, .int x3a, .int x4a] M Post := by
  refine Met.ofW (cc := cX1_add) (maxL := 7) (ret := (some .int)) (by decide) rfl ?_
  intro p e s m args below meth c s₁ B hml hv
  obtain ⟨rfl, hK, hP⟩ := hv
  have hx := B.exec
  have hb := B.bytes
  have hr := B.returns
  have hlocks := B.notSynchronized
  have hts0 := atoms_spec (ws := wsX1_add) B.pre
  have hts : ∀ w ∈ wsL_law, w.before _ s = true := fun w hw => hts0 w (List.mem_cons_of_mem _ hw)
  have hown : s.vm.findClass RX1 = some m.cls := findClass_of_methodNamed B.named
  have hS : va_S (Fr G) s.heap s.heap [] := va_S.rf
  have hl := lv_entry ([.ref (G.2.1 + j0a), .int x1a, .int x2a, .int x3a, .int x4a]) (n := 7) (Nat.le_of_ble_eq_true rfl)
  rw [lg_entry_eq]
  generalize (lg_sl ([.ref (G.2.1 + j0a), .int x1a, .int x2a, .int x3a, .int x4a]) ++ List.replicate (7 - (lg_sl ([.ref (G.2.1 + j0a), .int x1a, .int x2a, .int x3a, .int x4a])).length) Slot.unset).toArray = ls at hl ⊢
  have hl : lv_has ls 7 [(0, .ref (G.2.1 + j0a)), (1, .int x1a), (2, .int x2a), (3, .int x3a), (4, .int x4a)] := hl
  have B91 : ∀ (M : Mm) (j0 : Nat) (x5 : Int32) (x6 : Int32) (H : Heap) (locs : List Loc) (ls : Array Slot), Rp G M H → va_S (Fr G) s.heap H locs → lv_has ls 7 [(0, .ref (G.2.1 + j0)), (5, .int x5), (6, .int x6)] → kd j0 = 1 → bX1_add_91 Post M j0 x5 x6 → Wi p l e (headSpec wsX1_add rX1_add).room s m [.ref (G.2.1 + j0a), .int x1a, .int x2a, .int x3a, .int x4a].toArray below meth c G Post H locs (F0 m 91 ls []) := by
    intro M j0 x5 x6 H locs ls hP hS hl hk_j0 h
    unfold bX1_add_91 at h
    refine lv_aload_n hx hb dX1_add_91 rfl (lv_at hl 0 rfl) ?_
    refine rk_getr hx hb hts inlX1 hown hK hP hk_j0 cl_1 8 7 fq_1_8 q_3_14 rfl dX1_add_92 ?_
    refine lv_iload hx hb dX1_add_95 (lv_at hl 2 rfl) ?_
    refine lv_iload hx hb dX1_add_97 (lv_at hl 1 rfl) ?_
    refine rk_iast hx hb hK hP hS (ky_1_8 hk_j0) ac_9 _ rfl h.1 dX1_add_99 (fun M12 eM12 H locs hP hS => ?_)
    replace h := h.2
    replace h := h M12 eM12
    refine lv_aload_n hx hb dX1_add_100 rfl (lv_at hl 0 rfl) ?_
    refine lv_dup hx hb dX1_add_101 rfl ?_
    refine rk_geti hx hb hts inlX1 hown hK hP hk_j0 cl_1 0 fq_1_0 q_5_14 rfl dX1_add_102 ?_
    refine lv_iconst (v := (1 : Int32)) hx hb dX1_add_105 k_iconst_1 ?_
    refine lv_iadd hx hb dX1_add_106 ?_
    refine rk_puti hx hb hts inlX1 tyX1 tyX1_ok nmX1 hown hK hP hS hk_j0 cl_1 0 fq_1_0 q_5_14 rfl rfl rfl dX1_add_107 (fun M13 eM13 H locs hP hS => ?_)
    replace h := h M13 eM13
    refine lv_iload hx hb dX1_add_110 (lv_at hl 1 rfl) ?_
    exact re_i hx hb hr hlocks hP hS h dX1_add_112
  have B45 : ∀ n : Nat, ∀ (M : Mm) (j0 : Nat) (x4 : Int32) (x5 : Int32) (x6 : Int32) (H : Heap) (locs : List Loc) (ls : Array Slot), Rp G M H → va_S (Fr G) s.heap H locs → lv_has ls 7 [(0, .ref (G.2.1 + j0)), (4, .int x4), (5, .int x5), (6, .int x6)] → kd j0 = 1 → lX1_add_45 Post n M j0 x4 x5 x6 → Wi p l e (headSpec wsX1_add rX1_add).room s m [.ref (G.2.1 + j0a), .int x1a, .int x2a, .int x3a, .int x4a].toArray below meth c G Post H locs (F0 m 45 ls []) := by
    intro n
    induction n with
    | zero => intro M j0 x4 x5 x6 H locs ls hP hS hl hk_j0 h; exact h.elim
    | succ n ih =>
      intro M j0 x4 x5 x6 H locs ls hP hS hl hk_j0 h
      have hA45 := ih
      replace h : bX1_add_45 Post (lX1_add_45 Post n) M j0 x4 x5 x6 := h
      unfold bX1_add_45 at h
      refine lv_iload hx hb dX1_add_45 (lv_at hl 3 rfl) ?_
      refine lv_if_le (tgt := 91) hx hb dX1_add_47 (by decide) (fun c8 => ?_) (fun c8 => ?_)
      · replace h := h.1 c8
        exact B91 _ _ _ _ _ _ _ hP hS (lv_sub hl [0, 2, 3] rfl) hk_j0 h
      · replace h := h.2 c8
        refine lv_aload_n hx hb dX1_add_50 rfl (lv_at hl 0 rfl) ?_
        refine rk_getr hx hb hts inlX1 hown hK hP hk_j0 cl_1 5 4 fq_1_5 q_3_11 rfl dX1_add_51 ?_
        refine lv_aload_n hx hb dX1_add_54 rfl (lv_at hl 0 rfl) ?_
        refine rk_getr hx hb hts inlX1 hown hK hP hk_j0 cl_1 8 7 fq_1_8 q_3_14 rfl dX1_add_55 ?_
        refine lv_iload hx hb dX1_add_58 (lv_at hl 3 rfl) ?_
        refine lv_iconst (v := (1 : Int32)) hx hb dX1_add_60 k_iconst_1 ?_
        refine lv_isub hx hb dX1_add_61 ?_
        refine rk_iald hx hb hK hP (ky_1_8 hk_j0) ac_9 _ rfl h.1 dX1_add_62 ?_
        replace h := h.2
        refine rk_iald hx hb hK hP (ky_1_5 hk_j0) ac_9 _ rfl h.1 dX1_add_63 ?_
        replace h := h.2
        refine lv_iload hx hb dX1_add_64 (lv_at hl 1 rfl) ?_
        refine lv_icmp_le (tgt := 91) hx hb dX1_add_66 (by decide) (fun c9 => ?_) (fun c9 => ?_)
        · replace h := h.1 c9
          exact B91 _ _ _ _ _ _ _ hP hS (lv_sub hl [0, 2, 3] rfl) hk_j0 h
        · replace h := h.2 c9
          refine lv_aload_n hx hb dX1_add_69 rfl (lv_at hl 0 rfl) ?_
          refine rk_getr hx hb hts inlX1 hown hK hP hk_j0 cl_1 8 7 fq_1_8 q_3_14 rfl dX1_add_70 ?_
          refine lv_iload hx hb dX1_add_73 (lv_at hl 3 rfl) ?_
          refine lv_aload_n hx hb dX1_add_75 rfl (lv_at hl 0 rfl) ?_
          refine rk_getr hx hb hts inlX1 hown hK hP hk_j0 cl_1 8 7 fq_1_8 q_3_14 rfl dX1_add_76 ?_
          refine lv_iload hx hb dX1_add_79 (lv_at hl 3 rfl) ?_
          refine lv_iconst (v := (1 : Int32)) hx hb dX1_add_81 k_iconst_1 ?_
          refine lv_isub hx hb dX1_add_82 ?_
          refine rk_iald hx hb hK hP (ky_1_8 hk_j0) ac_9 _ rfl h.1 dX1_add_83 ?_
          replace h := h.2
          refine rk_iast hx hb hK hP hS (ky_1_8 hk_j0) ac_9 _ rfl h.1 dX1_add_84 (fun M10 eM10 H locs hP hS => ?_)
          replace h := h.2
          replace h := h M10 eM10
          obtain ⟨x6_11, ex6_11⟩ : ∃ y : Int32, y = x6 + (-1 : Int32) := ⟨_, rfl⟩
          replace h := h x6_11 ex6_11
          refine lv_iinc (v := x6_11) (lv' := [(6, .int x6_11), (0, .ref (G.2.1 + j0)), (4, .int x4), (5, .int x5)]) hx hb dX1_add_85 hl (k := 3) rfl (by rw [ex6_11]; rfl) (by decide) rfl (fun ls hl => ?_)
          refine lv_goto (tgt := 45) hx hb dX1_add_88 (by decide) ?_
          exact hA45 _ _ _ _ _ _ _ _ hP hS (lv_sub hl [1, 2, 3, 0] rfl) hk_j0 h
  unfold wX1_add at h
  refine lv_aload_n hx hb dX1_add_0 rfl (lv_at hl 0 rfl) ?_
  refine rk_geti hx hb hts inlX1 hown hK hP hk_j0a cl_1 0 fq_1_0 q_5_14 rfl dX1_add_1 ?_
  refine lv_topi (fun x5_1 ex5_1 => ?_)
  replace h := h x5_1 ex5_1
  refine lv_istore (lv' := [(5, .int x5_1), (0, .ref (G.2.1 + j0a)), (1, .int x1a), (2, .int x2a), (3, .int x3a), (4, .int x4a)]) hx hb dX1_add_4 hl (by decide) rfl (fun ls hl => ?_)
  refine lv_aload_n hx hb dX1_add_6 rfl (lv_at hl 1 rfl) ?_
  refine rk_getr hx hb hts inlX1 hown hK hP hk_j0a cl_1 2 1 fq_1_2 q_3_8 rfl dX1_add_7 ?_
  refine lv_iload hx hb dX1_add_10 (lv_at hl 0 rfl) ?_
  refine lv_iload_n hx hb dX1_add_12 rfl (lv_at hl 2 rfl) ?_
  refine rk_iast hx hb hK hP hS (ky_1_2 hk_j0a) ac_9 _ rfl h.1 dX1_add_13 (fun M2 eM2 H locs hP hS => ?_)
  replace h := h.2
  replace h := h M2 eM2
  refine lv_aload_n hx hb dX1_add_14 rfl (lv_at hl 1 rfl) ?_
  refine rk_getr hx hb hts inlX1 hown hK hP hk_j0a cl_1 3 2 fq_1_3 q_3_9 rfl dX1_add_15 ?_
  refine lv_iload hx hb dX1_add_18 (lv_at hl 0 rfl) ?_
  refine lv_iload_n hx hb dX1_add_20 rfl (lv_at hl 3 rfl) ?_
  refine rk_iast hx hb hK hP hS (ky_1_3 hk_j0a) ac_9 _ rfl h.1 dX1_add_21 (fun M3 eM3 H locs hP hS => ?_)
  replace h := h.2
  replace h := h M3 eM3
  refine lv_aload_n hx hb dX1_add_22 rfl (lv_at hl 1 rfl) ?_
  refine rk_getr hx hb hts inlX1 hown hK hP hk_j0a cl_1 4 3 fq_1_4 q_3_10 rfl dX1_add_23 ?_
  refine lv_iload hx hb dX1_add_26 (lv_at hl 0 rfl) ?_
  refine lv_iload_n hx hb dX1_add_28 rfl (lv_at hl 4 rfl) ?_
  refine rk_iast hx hb hK hP hS (ky_1_4 hk_j0a) ac_9 _ rfl h.1 dX1_add_29 (fun M4 eM4 H locs hP hS => ?_)
  replace h := h.2
  replace h := h M4 eM4
  refine lv_aload_n hx hb dX1_add_30 rfl (lv_at hl 1 rfl) ?_
  refine rk_getr hx hb hts inlX1 hown hK hP hk_j0a cl_1 5 4 fq_1_5 q_3_11 rfl dX1_add_31 ?_
  refine lv_iload hx hb dX1_add_34 (lv_at hl 0 rfl) ?_
  refine lv_iload hx hb dX1_add_36 (lv_at hl 5 rfl) ?_
  refine rk_iast hx hb hK hP hS (ky_1_5 hk_j0a) ac_9 _ rfl h.1 dX1_add_38 (fun M5 eM5 H locs hP hS => ?_)
  replace h := h.2
  replace h := h M5 eM5
  refine lv_aload_n hx hb dX1_add_39 rfl (lv_at hl 1 rfl) ?_
  refine rk_geti hx hb hts inlX1 hown hK hP hk_j0a cl_1 0 fq_1_0 q_5_14 rfl dX1_add_40 ?_
  refine lv_topi (fun x6_6 ex6_6 => ?_)
  replace h := h x6_6 ex6_6
  refine lv_istore (lv' := [(6, .int x6_6), (5, .int x5_1), (0, .ref (G.2.1 + j0a)), (1, .int x1a), (2, .int x2a), (3, .int x3a), (4, .int x4a)]) hx hb dX1_add_43 hl (by decide) rfl (fun ls hl => ?_)
  obtain ⟨n7, h⟩ := h
  exact B45 _ _ _ _ _ _ _ _ _ hP hS (lv_sub hl [2, 6, 1, 0] rfl) hk_j0a h
set_option maxHeartbeats 4000000 in
set_option maxRecDepth 100000 in
theorem mX1_wants (l : Launch) (G : Gp) (j0a : Nat) (x1a : Int32) (M : Mm) (Post : Mm → Int32 → Prop) (hk_j0a : kd j0a = 1) (h : wX1_wants Post M j0a x1a) : CtI l yX1_wants wsX1_wants rX1_wants G [.ref (G.2.1 + j0a), .int x1a] M Post := by
  refine Met.ofW (cc := cX1_wants) (maxL := 2) (ret := (some .boolean)) (by decide) rfl ?_
  intro p e s m args below meth c s₁ B hml hv
  obtain ⟨rfl, hK, hP⟩ := hv
  have hx := B.exec
  have hb := B.bytes
  have hr := B.returns
  have hlocks := B.notSynchronized
  have hts0 := atoms_spec (ws := wsX1_wants) B.pre
  have hts : ∀ w ∈ wsL_law, w.before _ s = true := fun w hw => hts0 w (List.mem_cons_of_mem _ hw)
  have hown : s.vm.findClass RX1 = some m.cls := findClass_of_methodNamed B.named
  have hS : va_S (Fr G) s.heap s.heap [] := va_S.rf
  have hl := lv_entry ([.ref (G.2.1 + j0a), .int x1a]) (n := 2) (Nat.le_of_ble_eq_true rfl)
  rw [lg_entry_eq]
  generalize (lg_sl ([.ref (G.2.1 + j0a), .int x1a]) ++ List.replicate (2 - (lg_sl ([.ref (G.2.1 + j0a), .int x1a])).length) Slot.unset).toArray = ls at hl ⊢
  have hl : lv_has ls 2 [(0, .ref (G.2.1 + j0a)), (1, .int x1a)] := hl
  unfold wX1_wants at h
  refine lv_aload_n hx hb dX1_wants_0 rfl (lv_at hl 0 rfl) ?_
  refine rk_getr hx hb hts inlX1 hown hK hP hk_j0a cl_1 6 5 fq_1_6 q_3_12 rfl dX1_wants_1 ?_
  refine lv_iload_n hx hb dX1_wants_4 rfl (lv_at hl 1 rfl) ?_
  refine rk_iald hx hb hK hP (ky_1_6 hk_j0a) ac_9 _ rfl h.1 dX1_wants_5 ?_
  replace h := h.2
  refine lv_aload_n hx hb dX1_wants_6 rfl (lv_at hl 0 rfl) ?_
  refine rk_getr hx hb hts inlX1 hown hK hP hk_j0a cl_1 3 2 fq_1_3 q_3_9 rfl dX1_wants_7 ?_
  refine lv_iload_n hx hb dX1_wants_10 rfl (lv_at hl 1 rfl) ?_
  refine rk_iald hx hb hK hP (ky_1_3 hk_j0a) ac_9 _ rfl h.1 dX1_wants_11 ?_
  replace h := h.2
  refine lv_icmp_ge (tgt := 19) hx hb dX1_wants_12 (by decide) (fun c1 => ?_) (fun c1 => ?_)
  · replace h := h.1 c1
    refine lv_iconst (v := (0 : Int32)) hx hb dX1_wants_19 k_iconst_0 ?_
    exact re_z hx hb hr hlocks (Or.inl rfl) hP hS h dX1_wants_20
  · replace h := h.2 c1
    refine lv_iconst (v := (1 : Int32)) hx hb dX1_wants_15 k_iconst_1 ?_
    refine lv_goto (tgt := 20) hx hb dX1_wants_16 (by decide) ?_
    exact re_z hx hb hr hlocks (Or.inr rfl) hP hS h dX1_wants_20
set_option maxHeartbeats 4000000 in
set_option maxRecDepth 100000 in
theorem mX1_wanting (l : Launch) (G : Gp) (j0a : Nat) (M : Mm) (Post : Mm → Int32 → Prop) (hk_j0a : kd j0a = 1) (h : wX1_wanting Post M j0a) : CtI l yX1_wanting wsX1_wanting rX1_wanting G [.ref (G.2.1 + j0a)] M Post := by
  refine Met.ofW (cc := cX1_wanting) (maxL := 3) (ret := (some .int)) (by decide) rfl ?_
  intro p e s m args below meth c s₁ B hml hv
  obtain ⟨rfl, hK, hP⟩ := hv
  have hx := B.exec
  have hb := B.bytes
  have hr := B.returns
  have hlocks := B.notSynchronized
  have hts0 := atoms_spec (ws := wsX1_wanting) B.pre
  have hts : ∀ w ∈ wsL_law, w.before _ s = true := fun w hw => hts0 w (List.mem_cons_of_mem _ hw)
  have hown : s.vm.findClass RX1 = some m.cls := findClass_of_methodNamed B.named
  have hS : va_S (Fr G) s.heap s.heap [] := va_S.rf
  have hl := lv_entry ([.ref (G.2.1 + j0a)]) (n := 3) (Nat.le_of_ble_eq_true rfl)
  rw [lg_entry_eq]
  generalize (lg_sl ([.ref (G.2.1 + j0a)]) ++ List.replicate (3 - (lg_sl ([.ref (G.2.1 + j0a)])).length) Slot.unset).toArray = ls at hl ⊢
  have hl : lv_has ls 3 [(0, .ref (G.2.1 + j0a))] := hl
  have B4 : ∀ n : Nat, ∀ (M : Mm) (j0 : Nat) (x1 : Int32) (x2 : Int32) (H : Heap) (locs : List Loc) (ls : Array Slot), Rp G M H → va_S (Fr G) s.heap H locs → lv_has ls 3 [(0, .ref (G.2.1 + j0)), (1, .int x1), (2, .int x2)] → kd j0 = 1 → lX1_wanting_4 Post n M j0 x1 x2 → Wi p l e (headSpec wsX1_wanting rX1_wanting).room s m [.ref (G.2.1 + j0a)].toArray below meth c G Post H locs (F0 m 4 ls []) := by
    intro n
    induction n with
    | zero => intro M j0 x1 x2 H locs ls hP hS hl hk_j0 h; exact h.elim
    | succ n ih =>
      intro M j0 x1 x2 H locs ls hP hS hl hk_j0 h
      have hA4 := ih
      replace h : bX1_wanting_4 Post (lX1_wanting_4 Post n) M j0 x1 x2 := h
      unfold bX1_wanting_4 at h
      refine lv_iload_n hx hb dX1_wanting_4 rfl (lv_at hl 2 rfl) ?_
      refine lv_aload_n hx hb dX1_wanting_5 rfl (lv_at hl 0 rfl) ?_
      refine rk_geti hx hb hts inlX1 hown hK hP hk_j0 cl_1 0 fq_1_0 q_5_14 rfl dX1_wanting_6 ?_
      refine lv_icmp_ge (tgt := 32) hx hb dX1_wanting_9 (by decide) (fun c2 => ?_) (fun c2 => ?_)
      · replace h := h.1 c2
        refine lv_iload_n hx hb dX1_wanting_32 rfl (lv_at hl 1 rfl) ?_
        exact re_i hx hb hr hlocks hP hS h dX1_wanting_33
      · replace h := h.2 c2
        refine lv_aload_n hx hb dX1_wanting_12 rfl (lv_at hl 0 rfl) ?_
        refine lv_iload_n hx hb dX1_wanting_13 rfl (lv_at hl 2 rfl) ?_
        refine rc_Vi (As := [.int x2]) (rest := []) ⟨hx, hb, hml, hown, hts⟩ (mX1_wants l G j0 x2 M _ hk_j0 h) (cwV 1 hts (gV_X1_wants q_5_15) rfl rfl rfl hdV_X1_wants ⟨Nat.le_of_ble_eq_true rfl, Nat.le_of_ble_eq_true rfl⟩) hK hP hS hk_j0 (by decide) cl_1 rfl hl.1 rfl (Nat.le_of_ble_eq_true rfl) dX1_wanting_14 ⟨Nat.zero_le _, Nat.zero_le _⟩ (fun r4 M3 H locs h hP hS => ?_)
        refine lv_if_eq (tgt := 26) hx hb dX1_wanting_17 (by decide) (fun c5 => ?_) (fun c5 => ?_)
        · replace h := h.1 c5
          obtain ⟨x2_6, ex2_6⟩ : ∃ y : Int32, y = x2 + (1 : Int32) := ⟨_, rfl⟩
          replace h := h x2_6 ex2_6
          refine lv_iinc (v := x2_6) (lv' := [(2, .int x2_6), (0, .ref (G.2.1 + j0)), (1, .int x1)]) hx hb dX1_wanting_26 hl (k := 2) rfl (by rw [ex2_6]; rfl) (by decide) rfl (fun ls hl => ?_)
          refine lv_goto (tgt := 4) hx hb dX1_wanting_29 (by decide) ?_
          exact hA4 _ _ _ _ _ _ _ hP hS (lv_sub hl [1, 2, 0] rfl) hk_j0 h
        · replace h := h.2 c5
          refine lv_iload_n hx hb dX1_wanting_20 rfl (lv_at hl 1 rfl) ?_
          refine lv_iconst (v := (1 : Int32)) hx hb dX1_wanting_21 k_iconst_1 ?_
          refine lv_iload_n hx hb dX1_wanting_22 rfl (lv_at hl 2 rfl) ?_
          refine lv_ishl hx hb dX1_wanting_23 ?_
          refine lv_ior hx hb dX1_wanting_24 ?_
          refine lv_topi (fun x1_7 ex1_7 => ?_)
          replace h := h x1_7 ex1_7
          refine lv_istore_n (lv' := [(1, .int x1_7), (0, .ref (G.2.1 + j0)), (2, .int x2)]) hx hb dX1_wanting_25 rfl hl (by decide) rfl (fun ls hl => ?_)
          obtain ⟨x2_8, ex2_8⟩ : ∃ y : Int32, y = x2 + (1 : Int32) := ⟨_, rfl⟩
          replace h := h x2_8 ex2_8
          refine lv_iinc (v := x2_8) (lv' := [(2, .int x2_8), (1, .int x1_7), (0, .ref (G.2.1 + j0))]) hx hb dX1_wanting_26 hl (k := 2) rfl (by rw [ex2_8]; rfl) (by decide) rfl (fun ls hl => ?_)
          refine lv_goto (tgt := 4) hx hb dX1_wanting_29 (by decide) ?_
          exact hA4 _ _ _ _ _ _ _ hP hS (lv_sub hl [2, 1, 0] rfl) hk_j0 h
  unfold wX1_wanting at h
  refine lv_iconst (v := (0 : Int32)) hx hb dX1_wanting_0 k_iconst_0 ?_
  refine lv_istore_n (lv' := [(1, .int (0 : Int32)), (0, .ref (G.2.1 + j0a))]) hx hb dX1_wanting_1 rfl hl (by decide) rfl (fun ls hl => ?_)
  refine lv_iconst (v := (0 : Int32)) hx hb dX1_wanting_2 k_iconst_0 ?_
  refine lv_istore_n (lv' := [(2, .int (0 : Int32)), (1, .int (0 : Int32)), (0, .ref (G.2.1 + j0a))]) hx hb dX1_wanting_3 rfl hl (by decide) rfl (fun ls hl => ?_)
  obtain ⟨n1, h⟩ := h
  exact B4 _ _ _ _ _ _ _ _ hP hS (lv_sub hl [2, 1, 0] rfl) hk_j0a h
set_option maxHeartbeats 4000000 in
set_option maxRecDepth 100000 in
theorem mX1_calls (l : Launch) (G : Gp) (j0a : Nat) (x1a : Int32) (M : Mm) (Post : Mm → Int32 → Prop) (hk_j0a : kd j0a = 1) (h : wX1_calls Post M j0a x1a) : CtI l yX1_calls wsX1_calls rX1_calls G [.ref (G.2.1 + j0a), .int x1a] M Post := by
  refine Met.ofW (cc := cX1_calls) (maxL := 2) (ret := (some .boolean)) (by decide) rfl ?_
  intro p e s m args below meth c s₁ B hml hv
  obtain ⟨rfl, hK, hP⟩ := hv
  have hx := B.exec
  have hb := B.bytes
  have hr := B.returns
  have hlocks := B.notSynchronized
  have hts0 := atoms_spec (ws := wsX1_calls) B.pre
  have hts : ∀ w ∈ wsL_law, w.before _ s = true := fun w hw => hts0 w (List.mem_cons_of_mem _ hw)
  have hown : s.vm.findClass RX1 = some m.cls := findClass_of_methodNamed B.named
  have hS : va_S (Fr G) s.heap s.heap [] := va_S.rf
  have hl := lv_entry ([.ref (G.2.1 + j0a), .int x1a]) (n := 2) (Nat.le_of_ble_eq_true rfl)
  rw [lg_entry_eq]
  generalize (lg_sl ([.ref (G.2.1 + j0a), .int x1a]) ++ List.replicate (2 - (lg_sl ([.ref (G.2.1 + j0a), .int x1a])).length) Slot.unset).toArray = ls at hl ⊢
  have hl : lv_has ls 2 [(0, .ref (G.2.1 + j0a)), (1, .int x1a)] := hl
  unfold wX1_calls at h
  refine lv_aload_n hx hb dX1_calls_0 rfl (lv_at hl 0 rfl) ?_
  refine rk_geti hx hb hts inlX1 hown hK hP hk_j0a cl_1 1 fq_1_1 q_7_4 rfl dX1_calls_1 ?_
  refine lv_iconst (v := (1 : Int32)) hx hb dX1_calls_4 k_iconst_1 ?_
  refine lv_iload_n hx hb dX1_calls_5 rfl (lv_at hl 1 rfl) ?_
  refine lv_ishl hx hb dX1_calls_6 ?_
  refine lv_iand hx hb dX1_calls_7 ?_
  refine lv_if_eq (tgt := 15) hx hb dX1_calls_8 (by decide) (fun c1 => ?_) (fun c1 => ?_)
  · replace h := h.1 c1
    refine lv_iconst (v := (0 : Int32)) hx hb dX1_calls_15 k_iconst_0 ?_
    exact re_z hx hb hr hlocks (Or.inl rfl) hP hS h dX1_calls_16
  · replace h := h.2 c1
    refine lv_iconst (v := (1 : Int32)) hx hb dX1_calls_11 k_iconst_1 ?_
    refine lv_goto (tgt := 16) hx hb dX1_calls_12 (by decide) ?_
    exact re_z hx hb hr hlocks (Or.inr rfl) hP hS h dX1_calls_16
set_option maxHeartbeats 4000000 in
set_option maxRecDepth 100000 in
theorem mX1_canCall (l : Launch) (G : Gp) (j0a : Nat) (x1a : Int32) (M : Mm) (Post : Mm → Int32 → Prop) (hk_j0a : kd j0a = 1) (h : wX1_canCall Post M j0a x1a) : CtI l yX1_canCall wsX1_canCall rX1_canCall G [.ref (G.2.1 + j0a), .int x1a] M Post := by
  refine Met.ofW (cc := cX1_canCall) (maxL := 2) (ret := (some .boolean)) (by decide) rfl ?_
  intro p e s m args below meth c s₁ B hml hv
  obtain ⟨rfl, hK, hP⟩ := hv
  have hx := B.exec
  have hb := B.bytes
  have hr := B.returns
  have hlocks := B.notSynchronized
  have hts0 := atoms_spec (ws := wsX1_canCall) B.pre
  have hts : ∀ w ∈ wsL_law, w.before _ s = true := fun w hw => hts0 w (List.mem_cons_of_mem _ hw)
  have hown : s.vm.findClass RX1 = some m.cls := findClass_of_methodNamed B.named
  have hS : va_S (Fr G) s.heap s.heap [] := va_S.rf
  have hl := lv_entry ([.ref (G.2.1 + j0a), .int x1a]) (n := 2) (Nat.le_of_ble_eq_true rfl)
  rw [lg_entry_eq]
  generalize (lg_sl ([.ref (G.2.1 + j0a), .int x1a]) ++ List.replicate (2 - (lg_sl ([.ref (G.2.1 + j0a), .int x1a])).length) Slot.unset).toArray = ls at hl ⊢
  have hl : lv_has ls 2 [(0, .ref (G.2.1 + j0a)), (1, .int x1a)] := hl
  unfold wX1_canCall at h
  refine lv_aload_n hx hb dX1_canCall_0 rfl (lv_at hl 0 rfl) ?_
  refine lv_iload_n hx hb dX1_canCall_1 rfl (lv_at hl 1 rfl) ?_
  refine rc_Vi (As := [.int x1a]) (rest := []) ⟨hx, hb, hml, hown, hts⟩ (mX1_wants l G j0a x1a M _ hk_j0a h) (cwV 1 hts (gV_X1_wants q_5_15) rfl rfl rfl hdV_X1_wants ⟨Nat.le_of_ble_eq_true rfl, Nat.le_of_ble_eq_true rfl⟩) hK hP hS hk_j0a (by decide) cl_1 rfl hl.1 rfl (Nat.le_of_ble_eq_true rfl) dX1_canCall_2 ⟨Nat.zero_le _, Nat.zero_le _⟩ (fun r2 M1 H locs h hP hS => ?_)
  refine lv_if_eq (tgt := 20) hx hb dX1_canCall_5 (by decide) (fun c3 => ?_) (fun c3 => ?_)
  · replace h := h.1 c3
    refine lv_iconst (v := (0 : Int32)) hx hb dX1_canCall_20 k_iconst_0 ?_
    exact re_z hx hb hr hlocks (Or.inl rfl) hP hS h dX1_canCall_21
  · replace h := h.2 c3
    refine lv_aload_n hx hb dX1_canCall_8 rfl (lv_at hl 0 rfl) ?_
    refine lv_iload_n hx hb dX1_canCall_9 rfl (lv_at hl 1 rfl) ?_
    refine rc_Vi (As := [.int x1a]) (rest := []) ⟨hx, hb, hml, hown, hts⟩ (mX1_calls l G j0a x1a M1 _ hk_j0a h) (cwV 1 hts (gV_X1_calls q_13_3) rfl rfl rfl hdV_X1_calls ⟨Nat.le_of_ble_eq_true rfl, Nat.le_of_ble_eq_true rfl⟩) hK hP hS hk_j0a (by decide) cl_1 rfl hl.1 rfl (Nat.le_of_ble_eq_true rfl) dX1_canCall_10 ⟨Nat.zero_le _, Nat.zero_le _⟩ (fun r5 M4 H locs h hP hS => ?_)
    refine lv_if_ne (tgt := 20) hx hb dX1_canCall_13 (by decide) (fun c6 => ?_) (fun c6 => ?_)
    · replace h := h.1 c6
      refine lv_iconst (v := (0 : Int32)) hx hb dX1_canCall_20 k_iconst_0 ?_
      exact re_z hx hb hr hlocks (Or.inl rfl) hP hS h dX1_canCall_21
    · replace h := h.2 c6
      refine lv_iconst (v := (1 : Int32)) hx hb dX1_canCall_16 k_iconst_1 ?_
      refine lv_goto (tgt := 21) hx hb dX1_canCall_17 (by decide) ?_
      exact re_z hx hb hr hlocks (Or.inr rfl) hP hS h dX1_canCall_21
set_option maxHeartbeats 4000000 in
set_option maxRecDepth 100000 in
theorem mJ6_bitCount_0f7a4 (l : Launch) (G : Gp) (x0a : Int32) (M : Mm) (Post : Mm → Int32 → Prop) (h : wJ6_bitCount_0f7a4 Post M x0a) : CtI l yJ6_bitCount_0f7a4 wsJ6_bitCount_0f7a4 rJ6_bitCount_0f7a4 G [.int x0a] M Post := by
  refine Met.ofW (cc := cJ6_bitCount_0f7a4) (maxL := 1) (ret := (some .int)) (by decide) rfl ?_
  intro p e s m args below meth c s₁ B hml hv
  obtain ⟨rfl, hK, hP⟩ := hv
  have hx := B.exec
  have hb := B.bytes
  have hr := B.returns
  have hlocks := B.notSynchronized
  have hts0 := atoms_spec (ws := wsJ6_bitCount_0f7a4) B.pre
  have hts : ∀ w ∈ wsL_law, w.before _ s = true := fun w hw => hts0 w (List.mem_cons_of_mem _ hw)
  have hown : s.vm.findClass RJ6 = some m.cls := findClass_of_methodNamed B.named
  have hS : va_S (Fr G) s.heap s.heap [] := va_S.rf
  have hl := lv_entry ([.int x0a]) (n := 1) (Nat.le_of_ble_eq_true rfl)
  rw [lg_entry_eq]
  generalize (lg_sl ([.int x0a]) ++ List.replicate (1 - (lg_sl ([.int x0a])).length) Slot.unset).toArray = ls at hl ⊢
  have hl : lv_has ls 1 [(0, .int x0a)] := hl
  unfold wJ6_bitCount_0f7a4 at h
  refine lv_iload_n hx hb dJ6_bitCount_0f7a4_0 rfl (lv_at hl 0 rfl) ?_
  refine lv_iload_n hx hb dJ6_bitCount_0f7a4_1 rfl (lv_at hl 0 rfl) ?_
  refine lv_iconst (v := (1 : Int32)) hx hb dJ6_bitCount_0f7a4_2 k_iconst_1 ?_
  refine lv_iushr (v := (x0a.toUInt32 >>> ((1 : Int32).toUInt32 &&& Int32.toUInt32 31)).toInt32) hx hb dJ6_bitCount_0f7a4_3 rfl ?_
  refine lv_ldcw hx hb hown (hts _ q_5_23) dJ6_bitCount_0f7a4_4 ?_
  refine lv_iand hx hb dJ6_bitCount_0f7a4_7 ?_
  refine lv_isub hx hb dJ6_bitCount_0f7a4_8 ?_
  refine lv_topi (fun x0_1 ex0_1 => ?_)
  replace h := h x0_1 ex0_1
  refine lv_istore_n (lv' := [(0, .int x0_1)]) hx hb dJ6_bitCount_0f7a4_9 rfl hl (by decide) rfl (fun ls hl => ?_)
  refine lv_iload_n hx hb dJ6_bitCount_0f7a4_10 rfl (lv_at hl 0 rfl) ?_
  refine lv_ldcw hx hb hown (hts _ q_6_0) dJ6_bitCount_0f7a4_11 ?_
  refine lv_iand hx hb dJ6_bitCount_0f7a4_14 ?_
  refine lv_iload_n hx hb dJ6_bitCount_0f7a4_15 rfl (lv_at hl 0 rfl) ?_
  refine lv_iconst (v := (2 : Int32)) hx hb dJ6_bitCount_0f7a4_16 k_iconst_2 ?_
  refine lv_iushr (v := (x0_1.toUInt32 >>> ((2 : Int32).toUInt32 &&& Int32.toUInt32 31)).toInt32) hx hb dJ6_bitCount_0f7a4_17 rfl ?_
  refine lv_ldcw hx hb hown (hts _ q_6_0) dJ6_bitCount_0f7a4_18 ?_
  refine lv_iand hx hb dJ6_bitCount_0f7a4_21 ?_
  refine lv_iadd hx hb dJ6_bitCount_0f7a4_22 ?_
  refine lv_topi (fun x0_2 ex0_2 => ?_)
  replace h := h x0_2 ex0_2
  refine lv_istore_n (lv' := [(0, .int x0_2)]) hx hb dJ6_bitCount_0f7a4_23 rfl hl (by decide) rfl (fun ls hl => ?_)
  refine lv_iload_n hx hb dJ6_bitCount_0f7a4_24 rfl (lv_at hl 0 rfl) ?_
  refine lv_iload_n hx hb dJ6_bitCount_0f7a4_25 rfl (lv_at hl 0 rfl) ?_
  refine lv_iconst (v := (4 : Int32)) hx hb dJ6_bitCount_0f7a4_26 k_iconst_4 ?_
  refine lv_iushr (v := (x0_2.toUInt32 >>> ((4 : Int32).toUInt32 &&& Int32.toUInt32 31)).toInt32) hx hb dJ6_bitCount_0f7a4_27 rfl ?_
  refine lv_iadd hx hb dJ6_bitCount_0f7a4_28 ?_
  refine lv_ldcw hx hb hown (hts _ q_6_1) dJ6_bitCount_0f7a4_29 ?_
  refine lv_iand hx hb dJ6_bitCount_0f7a4_32 ?_
  refine lv_topi (fun x0_3 ex0_3 => ?_)
  replace h := h x0_3 ex0_3
  refine lv_istore_n (lv' := [(0, .int x0_3)]) hx hb dJ6_bitCount_0f7a4_33 rfl hl (by decide) rfl (fun ls hl => ?_)
  refine lv_iload_n hx hb dJ6_bitCount_0f7a4_34 rfl (lv_at hl 0 rfl) ?_
  refine lv_iload_n hx hb dJ6_bitCount_0f7a4_35 rfl (lv_at hl 0 rfl) ?_
  refine lv_bipush (v := (8 : Int32)) hx hb dJ6_bitCount_0f7a4_36 k_bipush_8 ?_
  refine lv_iushr (v := (x0_3.toUInt32 >>> ((8 : Int32).toUInt32 &&& Int32.toUInt32 31)).toInt32) hx hb dJ6_bitCount_0f7a4_38 rfl ?_
  refine lv_iadd hx hb dJ6_bitCount_0f7a4_39 ?_
  refine lv_topi (fun x0_4 ex0_4 => ?_)
  replace h := h x0_4 ex0_4
  refine lv_istore_n (lv' := [(0, .int x0_4)]) hx hb dJ6_bitCount_0f7a4_40 rfl hl (by decide) rfl (fun ls hl => ?_)
  refine lv_iload_n hx hb dJ6_bitCount_0f7a4_41 rfl (lv_at hl 0 rfl) ?_
  refine lv_iload_n hx hb dJ6_bitCount_0f7a4_42 rfl (lv_at hl 0 rfl) ?_
  refine lv_bipush (v := (16 : Int32)) hx hb dJ6_bitCount_0f7a4_43 k_bipush_16 ?_
  refine lv_iushr (v := (x0_4.toUInt32 >>> ((16 : Int32).toUInt32 &&& Int32.toUInt32 31)).toInt32) hx hb dJ6_bitCount_0f7a4_45 rfl ?_
  refine lv_iadd hx hb dJ6_bitCount_0f7a4_46 ?_
  refine lv_topi (fun x0_5 ex0_5 => ?_)
  replace h := h x0_5 ex0_5
  refine lv_istore_n (lv' := [(0, .int x0_5)]) hx hb dJ6_bitCount_0f7a4_47 rfl hl (by decide) rfl (fun ls hl => ?_)
  refine lv_iload_n hx hb dJ6_bitCount_0f7a4_48 rfl (lv_at hl 0 rfl) ?_
  refine lv_bipush (v := (63 : Int32)) hx hb dJ6_bitCount_0f7a4_49 k_bipush_63 ?_
  refine lv_iand hx hb dJ6_bitCount_0f7a4_51 ?_
  exact re_i hx hb hr hlocks hP hS h dJ6_bitCount_0f7a4_52
