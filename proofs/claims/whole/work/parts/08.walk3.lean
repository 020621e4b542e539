/-! the walks: each method keeps its predicate; printed by gen.py -/
set_option maxHeartbeats 4000000 in
set_option maxRecDepth 100000 in
theorem mX3_carryOutAll (l : Launch) (G : Gp) (j0a : Nat) (j1a : Nat) (M : Mm) (Post : Mm → Int32 → Prop) (hk_j0a : kd j0a = 3) (hk_j1a : kd j1a = 4) (h : wX3_carryOutAll Post M j0a j1a) : CtI l yX3_carryOutAll wsX3_carryOutAll rX3_carryOutAll G [.ref (G.2.1 + j0a), .ref (G.2.1 + j1a)] M Post := by
  refine Met.ofW (cc := cX3_carryOutAll) (maxL := 4) (ret := (some .int)) (by decide) rfl ?_
  intro p e s m args below meth c s₁ B hml hv
  obtain ⟨rfl, hK, hP⟩ := hv
  have hx := B.exec
  have hb := B.bytes
  have hr := B.returns
  have hlocks := B.notSynchronized
  have hts0 := atoms_spec (ws := wsX3_carryOutAll) B.pre
  have hts : ∀ w ∈ wsL_law, w.before _ s = true := fun w hw => hts0 w (List.mem_cons_of_mem _ hw)
  have hown : s.vm.findClass RX3 = some m.cls := findClass_of_methodNamed B.named
  have hS : va_S (Fr G) s.heap s.heap [] := va_S.rf
  have hl := lv_entry ([.ref (G.2.1 + j0a), .ref (G.2.1 + j1a)]) (n := 4) (Nat.le_of_ble_eq_true rfl)
  rw [lg_entry_eq]
  generalize (lg_sl ([.ref (G.2.1 + j0a), .ref (G.2.1 + j1a)]) ++ List.replicate (4 - (lg_sl ([.ref (G.2.1 + j0a), .ref (G.2.1 + j1a)])).length) Slot.unset).toArray = ls at hl ⊢
  have hl : lv_has ls 4 [(0, .ref (G.2.1 + j0a)), (1, .ref (G.2.1 + j1a))] := hl
  have B14 : ∀ n : Nat, ∀ (M : Mm) (j0 : Nat) (j1 : Nat) (x2 : Int32) (x3 : Int32) (H : Heap) (locs : List Loc) (ls : Array Slot), Rp G M H → va_S (Fr G) s.heap H locs → lv_has ls 4 [(0, .ref (G.2.1 + j0)), (1, .ref (G.2.1 + j1)), (2, .int x2), (3, .int x3)] → kd j0 = 3 → kd j1 = 4 → lX3_carryOutAll_14 Post n M j0 j1 x2 x3 → Wi p l e (headSpec wsX3_carryOutAll rX3_carryOutAll).room s m [.ref (G.2.1 + j0a), .ref (G.2.1 + j1a)].toArray below meth c G Post H locs (F0 m 14 ls []) := by
    intro n
    induction n with
    | zero => intro M j0 j1 x2 x3 H locs ls hP hS hl hk_j0 hk_j1 h; exact h.elim
    | succ n ih =>
      intro M j0 j1 x2 x3 H locs ls hP hS hl hk_j0 hk_j1 h
      have hA14 := ih
      replace h : bX3_carryOutAll_14 Post (lX3_carryOutAll_14 Post n) M j0 j1 x2 x3 := h
      unfold bX3_carryOutAll_14 at h
      refine lv_iload_n hx hb dX3_carryOutAll_14 rfl (lv_at hl 3 rfl) ?_
      refine lv_bipush (v := (60 : Int32)) hx hb dX3_carryOutAll_15 k_bipush_60 ?_
      refine lv_icmp_ge (tgt := 71) hx hb dX3_carryOutAll_17 (by decide) (fun c4 => ?_) (fun c4 => ?_)
      · replace h := h.1 c4
        refine lv_iload_n hx hb dX3_carryOutAll_71 rfl (lv_at hl 2 rfl) ?_
        exact re_i hx hb hr hlocks hP hS h dX3_carryOutAll_72
      · replace h := h.2 c4
        refine lv_aload_n hx hb dX3_carryOutAll_20 rfl (lv_at hl 0 rfl) ?_
        refine rk_geti hx hb hts inlX3 hown hK hP hk_j0 cl_3 3 fq_3_3 q_32_19 rfl dX3_carryOutAll_21 ?_
        refine lv_aload_n hx hb dX3_carryOutAll_24 rfl (lv_at hl 0 rfl) ?_
        refine rk_geti hx hb hts inlX3 hown hK hP hk_j0 cl_3 0 fq_3_0 q_31_19 rfl dX3_carryOutAll_25 ?_
        refine lv_icmp_ge (tgt := 71) hx hb dX3_carryOutAll_28 (by decide) (fun c5 => ?_) (fun c5 => ?_)
        · replace h := h.1 c5
          refine lv_iload_n hx hb dX3_carryOutAll_71 rfl (lv_at hl 2 rfl) ?_
          exact re_i hx hb hr hlocks hP hS h dX3_carryOutAll_72
        · replace h := h.2 c5
          refine lv_aload_n hx hb dX3_carryOutAll_31 rfl (lv_at hl 0 rfl) ?_
          refine lv_aload_n hx hb dX3_carryOutAll_32 rfl (lv_at hl 0 rfl) ?_
          refine rk_geti hx hb hts inlX3 hown hK hP hk_j0 cl_3 3 fq_3_3 q_32_19 rfl dX3_carryOutAll_33 ?_
          refine rk_puti hx hb hts inlX3 tyX3 tyX3_ok nmX3 hown hK hP hS hk_j0 cl_3 2 fq_3_2 q_32_21 rfl rfl rfl dX3_carryOutAll_36 (fun M6 eM6 H locs hP hS => ?_)
          replace h := h M6 eM6
          refine lv_aload_n hx hb dX3_carryOutAll_39 rfl (lv_at hl 0 rfl) ?_
          refine lv_aload_n hx hb dX3_carryOutAll_40 rfl (lv_at hl 0 rfl) ?_
          refine lv_aload_n hx hb dX3_carryOutAll_41 rfl (lv_at hl 1 rfl) ?_
          refine rc_Vi (As := [.ref (G.2.1 + j1)]) (rest := [.ref (G.2.1 + j0)]) ⟨hx, hb, hml, hown, hts⟩ (mX3_reasonAgainst l G j0 j1 M6 _ hk_j0 hk_j1 h) (cwV 1 hts (gV_X3_reasonAgainst q_32_22) rfl rfl rfl hdV_X3_reasonAgainst ⟨Nat.le_of_ble_eq_true rfl, Nat.le_of_ble_eq_true rfl⟩) hK hP hS hk_j0 (by decide) cl_3 rfl hl.1 rfl (Nat.le_of_ble_eq_true rfl) dX3_carryOutAll_42 ⟨Nat.zero_le _, Nat.zero_le _⟩ (fun r8 M7 H locs h hP hS => ?_)
          refine rk_puti hx hb hts inlX3 tyX3 tyX3_ok nmX3 hown hK hP hS hk_j0 cl_3 7 fq_3_7 q_32_20 rfl rfl rfl dX3_carryOutAll_45 (fun M9 eM9 H locs hP hS => ?_)
          replace h := h M9 eM9
          refine lv_aload_n hx hb dX3_carryOutAll_48 rfl (lv_at hl 0 rfl) ?_
          refine rk_geti hx hb hts inlX3 hown hK hP hk_j0 cl_3 7 fq_3_7 q_32_20 rfl dX3_carryOutAll_49 ?_
          refine lv_if_eq (tgt := 57) hx hb dX3_carryOutAll_52 (by decide) (fun c10 => ?_) (fun c10 => ?_)
          · replace h := h.1 c10
            refine lv_iload_n hx hb dX3_carryOutAll_57 rfl (lv_at hl 2 rfl) ?_
            refine lv_aload_n hx hb dX3_carryOutAll_58 rfl (lv_at hl 0 rfl) ?_
            refine lv_aload_n hx hb dX3_carryOutAll_59 rfl (lv_at hl 1 rfl) ?_
            refine rc_Vi (As := [.ref (G.2.1 + j1)]) (rest := [.int x2]) ⟨hx, hb, hml, hown, hts⟩ (mX3_carryOut l G j0 j1 M9 _ hk_j0 hk_j1 h) (cwV 1 hts (gV_X3_carryOut q_34_17) rfl rfl rfl hdV_X3_carryOut ⟨Nat.le_of_ble_eq_true rfl, Nat.le_of_ble_eq_true rfl⟩) hK hP hS hk_j0 (by decide) cl_3 rfl hl.1 rfl (Nat.le_of_ble_eq_true rfl) dX3_carryOutAll_60 ⟨Nat.zero_le _, Nat.zero_le _⟩ (fun r12 M11 H locs h hP hS => ?_)
            refine lv_iadd hx hb dX3_carryOutAll_63 ?_
            refine lv_topi (fun x2_13 ex2_13 => ?_)
            replace h := h x2_13 ex2_13
            refine lv_istore_n (lv' := [(2, .int x2_13), (0, .ref (G.2.1 + j0)), (1, .ref (G.2.1 + j1)), (3, .int x3)]) hx hb dX3_carryOutAll_64 rfl hl (by decide) rfl (fun ls hl => ?_)
            obtain ⟨x3_14, ex3_14⟩ : ∃ y : Int32, y = x3 + (1 : Int32) := ⟨_, rfl⟩
            replace h := h x3_14 ex3_14
            refine lv_iinc (v := x3_14) (lv' := [(3, .int x3_14), (2, .int x2_13), (0, .ref (G.2.1 + j0)), (1, .ref (G.2.1 + j1))]) hx hb dX3_carryOutAll_65 hl (k := 3) rfl (by rw [ex3_14]; rfl) (by decide) rfl (fun ls hl => ?_)
            refine lv_goto (tgt := 14) hx hb dX3_carryOutAll_68 (by decide) ?_
            exact hA14 _ _ _ _ _ _ _ _ hP hS (lv_sub hl [2, 3, 1, 0] rfl) hk_j0 hk_j1 h
          · replace h := h.2 c10
            refine lv_iload_n hx hb dX3_carryOutAll_55 rfl (lv_at hl 2 rfl) ?_
            exact re_i hx hb hr hlocks hP hS h dX3_carryOutAll_56
  unfold wX3_carryOutAll at h
  refine lv_iconst (v := (0 : Int32)) hx hb dX3_carryOutAll_0 k_iconst_0 ?_
  refine lv_istore_n (lv' := [(2, .int (0 : Int32)), (0, .ref (G.2.1 + j0a)), (1, .ref (G.2.1 + j1a))]) hx hb dX3_carryOutAll_1 rfl hl (by decide) rfl (fun ls hl => ?_)
  refine lv_aload_n hx hb dX3_carryOutAll_2 rfl (lv_at hl 1 rfl) ?_
  refine lv_iconst (v := (0 : Int32)) hx hb dX3_carryOutAll_3 k_iconst_0 ?_
  refine rk_puti hx hb hts inlX3 tyX3 tyX3_ok nmX3 hown hK hP hS hk_j0a cl_3 3 fq_3_3 q_32_19 rfl rfl rfl dX3_carryOutAll_4 (fun M1 eM1 H locs hP hS => ?_)
  replace h := h M1 eM1
  refine lv_aload_n hx hb dX3_carryOutAll_7 rfl (lv_at hl 1 rfl) ?_
  refine lv_iconst (v := (0 : Int32)) hx hb dX3_carryOutAll_8 k_iconst_0 ?_
  refine rk_puti hx hb hts inlX3 tyX3 tyX3_ok nmX3 hown hK hP hS hk_j0a cl_3 7 fq_3_7 q_32_20 rfl rfl rfl dX3_carryOutAll_9 (fun M2 eM2 H locs hP hS => ?_)
  replace h := h M2 eM2
  refine lv_iconst (v := (0 : Int32)) hx hb dX3_carryOutAll_12 k_iconst_0 ?_
  refine lv_istore_n (lv' := [(3, .int (0 : Int32)), (2, .int (0 : Int32)), (0, .ref (G.2.1 + j0a)), (1, .ref (G.2.1 + j1a))]) hx hb dX3_carryOutAll_13 rfl hl (by decide) rfl (fun ls hl => ?_)
  obtain ⟨n3, h⟩ := h
  exact B14 _ _ _ _ _ _ _ _ _ hP hS (lv_sub hl [2, 3, 1, 0] rfl) hk_j0a hk_j1a h
set_option maxHeartbeats 4000000 in
set_option maxRecDepth 100000 in
theorem mX5_has (l : Launch) (G : Gp) (j0a : Nat) (x1a : Int32) (M : Mm) (Post : Mm → Int32 → Prop) (hk_j0a : kd j0a = 5) (h : wX5_has Post M j0a x1a) : CtI l yX5_has wsX5_has rX5_has G [.ref (G.2.1 + j0a), .int x1a] M Post := by
  refine Met.ofW (cc := cX5_has) (maxL := 2) (ret := (some .boolean)) (by decide) rfl ?_
  intro p e s m args below meth c s₁ B hml hv
  obtain ⟨rfl, hK, hP⟩ := hv
  have hx := B.exec
  have hb := B.bytes
  have hr := B.returns
  have hlocks := B.notSynchronized
  have hts0 := atoms_spec (ws := wsX5_has) B.pre
  have hts : ∀ w ∈ wsL_law, w.before _ s = true := fun w hw => hts0 w (List.mem_cons_of_mem _ hw)
  have hown : s.vm.findClass RX5 = some m.cls := findClass_of_methodNamed B.named
  have hS : va_S (Fr G) s.heap s.heap [] := va_S.rf
  have hl := lv_entry ([.ref (G.2.1 + j0a), .int x1a]) (n := 2) (Nat.le_of_ble_eq_true rfl)
  rw [lg_entry_eq]
  generalize (lg_sl ([.ref (G.2.1 + j0a), .int x1a]) ++ List.replicate (2 - (lg_sl ([.ref (G.2.1 + j0a), .int x1a])).length) Slot.unset).toArray = ls at hl ⊢
  have hl : lv_has ls 2 [(0, .ref (G.2.1 + j0a)), (1, .int x1a)] := hl
  unfold wX5_has at h
  refine lv_iload_n hx hb dX5_has_0 rfl (lv_at hl 1 rfl) ?_
  refine lv_if_lt (tgt := 16) hx hb dX5_has_1 (by decide) (fun c1 => ?_) (fun c1 => ?_)
  · replace h := h.1 c1
    refine lv_iconst (v := (0 : Int32)) hx hb dX5_has_16 k_iconst_0 ?_
    exact re_z hx hb hr hlocks (Or.inl rfl) hP hS h dX5_has_17
  · replace h := h.2 c1
    refine lv_iload_n hx hb dX5_has_4 rfl (lv_at hl 1 rfl) ?_
    refine lv_aload_n hx hb dX5_has_5 rfl (lv_at hl 0 rfl) ?_
    refine rk_geti hx hb hts inlX5 hown hK hP hk_j0a cl_5 0 fq_5_0 q_7_1 rfl dX5_has_6 ?_
    refine lv_icmp_ge (tgt := 16) hx hb dX5_has_9 (by decide) (fun c2 => ?_) (fun c2 => ?_)
    · replace h := h.1 c2
      refine lv_iconst (v := (0 : Int32)) hx hb dX5_has_16 k_iconst_0 ?_
      exact re_z hx hb hr hlocks (Or.inl rfl) hP hS h dX5_has_17
    · replace h := h.2 c2
      refine lv_iconst (v := (1 : Int32)) hx hb dX5_has_12 k_iconst_1 ?_
      refine lv_goto (tgt := 17) hx hb dX5_has_13 (by decide) ?_
      exact re_z hx hb hr hlocks (Or.inr rfl) hP hS h dX5_has_17
set_option maxHeartbeats 4000000 in
set_option maxRecDepth 100000 in
theorem mX5_beginAgain (l : Launch) (G : Gp) (j0a : Nat) (M : Mm) (Post : Mm → Prop) (hk_j0a : kd j0a = 5) (h : wX5_beginAgain Post M j0a) : CtV l yX5_beginAgain wsX5_beginAgain rX5_beginAgain G [.ref (G.2.1 + j0a)] M Post := by
  refine Met.ofW (cc := cX5_beginAgain) (maxL := 1) (ret := none) (by decide) rfl ?_
  intro p e s m args below meth c s₁ B hml hv
  obtain ⟨rfl, hK, hP⟩ := hv
  have hx := B.exec
  have hb := B.bytes
  have hr := B.returns
  have hlocks := B.notSynchronized
  have hts0 := atoms_spec (ws := wsX5_beginAgain) B.pre
  have hts : ∀ w ∈ wsL_law, w.before _ s = true := fun w hw => hts0 w (List.mem_cons_of_mem _ hw)
  have hown : s.vm.findClass RX5 = some m.cls := findClass_of_methodNamed B.named
  have hS : va_S (Fr G) s.heap s.heap [] := va_S.rf
  have hl := lv_entry ([.ref (G.2.1 + j0a)]) (n := 1) (Nat.le_of_ble_eq_true rfl)
  rw [lg_entry_eq]
  generalize (lg_sl ([.ref (G.2.1 + j0a)]) ++ List.replicate (1 - (lg_sl ([.ref (G.2.1 + j0a)])).length) Slot.unset).toArray = ls at hl ⊢
  have hl : lv_has ls 1 [(0, .ref (G.2.1 + j0a))] := hl
  unfold wX5_beginAgain at h
  refine lv_aload_n hx hb dX5_beginAgain_0 rfl (lv_at hl 0 rfl) ?_
  refine lv_iconst (v := (0 : Int32)) hx hb dX5_beginAgain_1 k_iconst_0 ?_
  refine rk_puti hx hb hts inlX5 tyX5 tyX5_ok nmX5 hown hK hP hS hk_j0a cl_5 1 fq_5_1 q_7_2 rfl rfl rfl dX5_beginAgain_2 (fun M1 eM1 H locs hP hS => ?_)
  replace h := h M1 eM1
  refine lv_aload_n hx hb dX5_beginAgain_5 rfl (lv_at hl 0 rfl) ?_
  refine lv_iconst (v := (0 : Int32)) hx hb dX5_beginAgain_6 k_iconst_0 ?_
  refine rk_puti hx hb hts inlX5 tyX5 tyX5_ok nmX5 hown hK hP hS hk_j0a cl_5 2 fq_5_2 q_7_3 rfl rfl rfl dX5_beginAgain_7 (fun M2 eM2 H locs hP hS => ?_)
  replace h := h M2 eM2
  exact re_v hx hb hr hlocks hP hS h dX5_beginAgain_10
set_option maxHeartbeats 4000000 in
set_option maxRecDepth 100000 in
theorem mX5_add (l : Launch) (G : Gp) (j0a : Nat) (x1a : Int32) (x2a : Int32) (M : Mm) (Post : Mm → Int32 → Prop) (hk_j0a : kd j0a = 5) (h : wX5_add Post M j0a x1a x2a) : CtI l yX5_add wsX5_add rX5_add G [.ref (G.2.1 + j0a), .int x1a, .int x2a] M Post := by
  refine Met.ofW (cc := cX5_add) (maxL := 3) (ret := (some .int)) (by decide) rfl ?_
  intro p e s m args below meth c s₁ B hml hv
  obtain ⟨rfl, hK, hP⟩ := hv
  have hx := B.exec
  have hb := B.bytes
  have hr := B.returns
  have hlocks := B.notSynchronized
  have hts0 := atoms_spec (ws := wsX5_add) B.pre
  have hts : ∀ w ∈ wsL_law, w.before _ s = true := fun w hw => hts0 w (List.mem_cons_of_mem _ hw)
  have hown : s.vm.findClass RX5 = some m.cls := findClass_of_methodNamed B.named
  have hS : va_S (Fr G) s.heap s.heap [] := va_S.rf
  have hl := lv_entry ([.ref (G.2.1 + j0a), .int x1a, .int x2a]) (n := 3) (Nat.le_of_ble_eq_true rfl)
  rw [lg_entry_eq]
  generalize (lg_sl ([.ref (G.2.1 + j0a), .int x1a, .int x2a]) ++ List.replicate (3 - (lg_sl ([.ref (G.2.1 + j0a), .int x1a, .int x2a])).length) Slot.unset).toArray = ls at hl ⊢
  have hl : lv_has ls 3 [(0, .ref (G.2.1 + j0a)), (1, .int x1a), (2, .int x2a)] := hl
  unfold wX5_add at h
  refine lv_aload_n hx hb dX5_add_0 rfl (lv_at hl 0 rfl) ?_
  refine rk_getr hx hb hts inlX5 hown hK hP hk_j0a cl_5 3 1 fq_5_3 q_3_21 rfl dX5_add_1 ?_
  refine lv_aload_n hx hb dX5_add_4 rfl (lv_at hl 0 rfl) ?_
  refine rk_geti hx hb hts inlX5 hown hK hP hk_j0a cl_5 0 fq_5_0 q_7_1 rfl dX5_add_5 ?_
  refine lv_iload_n hx hb dX5_add_8 rfl (lv_at hl 1 rfl) ?_
  refine rk_iast hx hb hK hP hS (ky_5_3 hk_j0a) ac_8 _ rfl h.1 dX5_add_9 (fun M1 eM1 H locs hP hS => ?_)
  replace h := h.2
  replace h := h M1 eM1
  refine lv_aload_n hx hb dX5_add_10 rfl (lv_at hl 0 rfl) ?_
  refine rk_getr hx hb hts inlX5 hown hK hP hk_j0a cl_5 4 2 fq_5_4 q_3_22 rfl dX5_add_11 ?_
  refine lv_aload_n hx hb dX5_add_14 rfl (lv_at hl 0 rfl) ?_
  refine rk_geti hx hb hts inlX5 hown hK hP hk_j0a cl_5 0 fq_5_0 q_7_1 rfl dX5_add_15 ?_
  refine lv_iload_n hx hb dX5_add_18 rfl (lv_at hl 2 rfl) ?_
  refine rk_iast hx hb hK hP hS (ky_5_4 hk_j0a) ac_8 _ rfl h.1 dX5_add_19 (fun M2 eM2 H locs hP hS => ?_)
  replace h := h.2
  replace h := h M2 eM2
  refine lv_aload_n hx hb dX5_add_20 rfl (lv_at hl 0 rfl) ?_
  refine lv_dup hx hb dX5_add_21 rfl ?_
  refine rk_geti hx hb hts inlX5 hown hK hP hk_j0a cl_5 0 fq_5_0 q_7_1 rfl dX5_add_22 ?_
  refine lv_iconst (v := (1 : Int32)) hx hb dX5_add_25 k_iconst_1 ?_
  refine lv_iadd hx hb dX5_add_26 ?_
  refine rk_puti hx hb hts inlX5 tyX5 tyX5_ok nmX5 hown hK hP hS hk_j0a cl_5 0 fq_5_0 q_7_1 rfl rfl rfl dX5_add_27 (fun M3 eM3 H locs hP hS => ?_)
  replace h := h M3 eM3
  refine lv_aload_n hx hb dX5_add_30 rfl (lv_at hl 0 rfl) ?_
  refine rc_Vv (As := []) (rest := []) ⟨hx, hb, hml, hown, hts⟩ (mX5_beginAgain l G j0a M3 _ hk_j0a h) (cwV 0 hts (gV_X5_beginAgain q_15_17) rfl rfl rfl hdV_X5_beginAgain ⟨Nat.le_of_ble_eq_true rfl, Nat.le_of_ble_eq_true rfl⟩) hK hP hS hk_j0a (by decide) cl_5 rfl hl.1 rfl (Nat.le_of_ble_eq_true rfl) dX5_add_31 ⟨Nat.zero_le _, Nat.zero_le _⟩ (fun M4 H locs h hP hS => ?_)
  refine lv_aload_n hx hb dX5_add_34 rfl (lv_at hl 0 rfl) ?_
  refine rk_geti hx hb hts inlX5 hown hK hP hk_j0a cl_5 0 fq_5_0 q_7_1 rfl dX5_add_35 ?_
  exact re_i hx hb hr hlocks hP hS h dX5_add_38
set_option maxHeartbeats 4000000 in
set_option maxRecDepth 100000 in
theorem mX5_removeAll (l : Launch) (G : Gp) (j0a : Nat) (M : Mm) (Post : Mm → Int32 → Prop) (hk_j0a : kd j0a = 5) (h : wX5_removeAll Post M j0a) : CtI l yX5_removeAll wsX5_removeAll rX5_removeAll G [.ref (G.2.1 + j0a)] M Post := by
  refine Met.ofW (cc := cX5_removeAll) (maxL := 2) (ret := (some .int)) (by decide) rfl ?_
  intro p e s m args below meth c s₁ B hml hv
  obtain ⟨rfl, hK, hP⟩ := hv
  have hx := B.exec
  have hb := B.bytes
  have hr := B.returns
  have hlocks := B.notSynchronized
  have hts0 := atoms_spec (ws := wsX5_removeAll) B.pre
  have hts : ∀ w ∈ wsL_law, w.before _ s = true := fun w hw => hts0 w (List.mem_cons_of_mem _ hw)
  have hown : s.vm.findClass RX5 = some m.cls := findClass_of_methodNamed B.named
  have hS : va_S (Fr G) s.heap s.heap [] := va_S.rf
  have hl := lv_entry ([.ref (G.2.1 + j0a)]) (n := 2) (Nat.le_of_ble_eq_true rfl)
  rw [lg_entry_eq]
  generalize (lg_sl ([.ref (G.2.1 + j0a)]) ++ List.replicate (2 - (lg_sl ([.ref (G.2.1 + j0a)])).length) Slot.unset).toArray = ls at hl ⊢
  have hl : lv_has ls 2 [(0, .ref (G.2.1 + j0a))] := hl
  unfold wX5_removeAll at h
  refine lv_aload_n hx hb dX5_removeAll_0 rfl (lv_at hl 0 rfl) ?_
  refine rk_geti hx hb hts inlX5 hown hK hP hk_j0a cl_5 0 fq_5_0 q_7_1 rfl dX5_removeAll_1 ?_
  refine lv_topi (fun x1_1 ex1_1 => ?_)
  replace h := h x1_1 ex1_1
  refine lv_istore_n (lv' := [(1, .int x1_1), (0, .ref (G.2.1 + j0a))]) hx hb dX5_removeAll_4 rfl hl (by decide) rfl (fun ls hl => ?_)
  refine lv_aload_n hx hb dX5_removeAll_5 rfl (lv_at hl 1 rfl) ?_
  refine lv_iconst (v := (0 : Int32)) hx hb dX5_removeAll_6 k_iconst_0 ?_
  refine rk_puti hx hb hts inlX5 tyX5 tyX5_ok nmX5 hown hK hP hS hk_j0a cl_5 0 fq_5_0 q_7_1 rfl rfl rfl dX5_removeAll_7 (fun M2 eM2 H locs hP hS => ?_)
  replace h := h M2 eM2
  refine lv_aload_n hx hb dX5_removeAll_10 rfl (lv_at hl 1 rfl) ?_
  refine rc_Vv (As := []) (rest := []) ⟨hx, hb, hml, hown, hts⟩ (mX5_beginAgain l G j0a M2 _ hk_j0a h) (cwV 0 hts (gV_X5_beginAgain q_15_17) rfl rfl rfl hdV_X5_beginAgain ⟨Nat.le_of_ble_eq_true rfl, Nat.le_of_ble_eq_true rfl⟩) hK hP hS hk_j0a (by decide) cl_5 rfl hl.1 rfl (Nat.le_of_ble_eq_true rfl) dX5_removeAll_11 ⟨Nat.zero_le _, Nat.zero_le _⟩ (fun M3 H locs h hP hS => ?_)
  refine lv_iload_n hx hb dX5_removeAll_14 rfl (lv_at hl 0 rfl) ?_
  exact re_i hx hb hr hlocks hP hS h dX5_removeAll_15
set_option maxHeartbeats 4000000 in
set_option maxRecDepth 100000 in
theorem mX6_canal (l : Launch) (G : Gp) (j0a : Nat) (x1a : Int32) (x2a : Int32) (x3a : Int32) (x4a : Int32) (M : Mm) (Post : Mm → Int32 → Prop) (hk_j0a : kd j0a = 6) (h : wX6_canal Post M j0a x1a x2a x3a x4a) : CtI l yX6_canal wsX6_canal rX6_canal G [.ref (G.2.1 + j0a), .int x1a, .int x2a, .int x3a, .int x4a] M Post := by
  refine Met.ofW (cc := cX6_canal) (maxL := 5) (ret := (some .int)) (by decide) rfl ?_
  intro p e s m args below meth c s₁ B hml hv
  obtain ⟨rfl, hK, hP⟩ := hv
  have hx := B.exec
  have hb := B.bytes
  have hr := B.returns
  have hlocks := B.notSynchronized
  have hts0 := atoms_spec (ws := wsX6_canal) B.pre
  have hts : ∀ w ∈ wsL_law, w.before _ s = true := fun w hw => hts0 w (List.mem_cons_of_mem _ hw)
  have hown : s.vm.findClass RX6 = some m.cls := findClass_of_methodNamed B.named
  have hS : va_S (Fr G) s.heap s.heap [] := va_S.rf
  have hl := lv_entry ([.ref (G.2.1 + j0a), .int x1a, .int x2a, .int x3a, .int x4a]) (n := 5) (Nat.le_of_ble_eq_true rfl)
  rw [lg_entry_eq]
  generalize (lg_sl ([.ref (G.2.1 + j0a), .int x1a, .int x2a, .int x3a, .int x4a]) ++ List.replicate (5 - (lg_sl ([.ref (G.2.1 + j0a), .int x1a, .int x2a, .int x3a, .int x4a])).length) Slot.unset).toArray = ls at hl ⊢
  have hl : lv_has ls 5 [(0, .ref (G.2.1 + j0a)), (1, .int x1a), (2, .int x2a), (3, .int x3a), (4, .int x4a)] := hl
  unfold wX6_canal at h
  refine lv_aload_n hx hb dX6_canal_0 rfl (lv_at hl 0 rfl) ?_
  refine rk_getr hx hb hts inlX6 hown hK hP hk_j0a cl_6 0 1 fq_6_0 q_1_15 rfl dX6_canal_1 ?_
  refine rk_getr hx hb hts inlX4 hown hK hP (ky_6_0 hk_j0a) cl_4 0 1 fq_4_0 q_5_0 rfl dX6_canal_4 ?_
  refine lv_iload_n hx hb dX6_canal_7 rfl (lv_at hl 1 rfl) ?_
  refine rc_Vi (As := [.int x1a]) (rest := []) ⟨hx, hb, hml, hown, hts⟩ (mX0_has l G ((j0a + 1) + 1) x1a M _ (ky_4_0 (ky_6_0 hk_j0a)) h) (cwV 1 hts (gV_X0_has q_5_4) rfl rfl rfl hdV_X0_has ⟨Nat.le_of_ble_eq_true rfl, Nat.le_of_ble_eq_true rfl⟩) hK hP hS (ky_4_0 (ky_6_0 hk_j0a)) (by decide) cl_0 rfl hl.1 rfl (Nat.le_of_ble_eq_true rfl) dX6_canal_8 ⟨Nat.zero_le _, Nat.zero_le _⟩ (fun r2 M1 H locs h hP hS => ?_)
  refine lv_if_eq (tgt := 46) hx hb dX6_canal_11 (by decide) (fun c3 => ?_) (fun c3 => ?_)
  · replace h := h.1 c3
    refine lv_ldc hx hb hown (hts _ q_5_1) dX6_canal_46 ?_
    exact re_i hx hb hr hlocks hP hS h dX6_canal_48
  · replace h := h.2 c3
    refine lv_iload_n hx hb dX6_canal_14 rfl (lv_at hl 2 rfl) ?_
    refine lv_iconst (v := (0 : Int32)) hx hb dX6_canal_15 k_iconst_0 ?_
    refine lv_iconst (v := (2 : Int32)) hx hb dX6_canal_16 k_iconst_2 ?_
    refine rc_Si (As := [.int x2a, .int (0 : Int32), .int (2 : Int32)]) (rest := []) ⟨hx, hb, hml, hown, hts⟩ (mX6_isOutside l G x2a (0 : Int32) (2 : Int32) M1 _ h) (va_cwS 3 hts (gS_X6_isOutside q_5_8) rfl rfl rfl hdS_X6_isOutside ⟨Nat.le_of_ble_eq_true rfl, Nat.le_of_ble_eq_true rfl⟩) hK hP hS rfl hl.1 rfl (Nat.le_of_ble_eq_true rfl) dX6_canal_17 ⟨Nat.zero_le _, Nat.zero_le _⟩ (fun r5 M4 H locs h hP hS => ?_)
    refine lv_if_ne (tgt := 46) hx hb dX6_canal_20 (by decide) (fun c6 => ?_) (fun c6 => ?_)
    · replace h := h.1 c6
      refine lv_ldc hx hb hown (hts _ q_5_1) dX6_canal_46 ?_
      exact re_i hx hb hr hlocks hP hS h dX6_canal_48
    · replace h := h.2 c6
      refine lv_iload_n hx hb dX6_canal_23 rfl (lv_at hl 3 rfl) ?_
      refine lv_iconst (v := (1 : Int32)) hx hb dX6_canal_24 k_iconst_1 ?_
      refine lv_sipush (v := (500 : Int32)) hx hb dX6_canal_25 k_sipush_500 ?_
      refine rc_Si (As := [.int x3a, .int (1 : Int32), .int (500 : Int32)]) (rest := []) ⟨hx, hb, hml, hown, hts⟩ (mX6_isOutside l G x3a (1 : Int32) (500 : Int32) M4 _ h) (va_cwS 3 hts (gS_X6_isOutside q_5_8) rfl rfl rfl hdS_X6_isOutside ⟨Nat.le_of_ble_eq_true rfl, Nat.le_of_ble_eq_true rfl⟩) hK hP hS rfl hl.1 rfl (Nat.le_of_ble_eq_true rfl) dX6_canal_28 ⟨Nat.zero_le _, Nat.zero_le _⟩ (fun r8 M7 H locs h hP hS => ?_)
      refine lv_if_ne (tgt := 46) hx hb dX6_canal_31 (by decide) (fun c9 => ?_) (fun c9 => ?_)
      · replace h := h.1 c9
        refine lv_ldc hx hb hown (hts _ q_5_1) dX6_canal_46 ?_
        exact re_i hx hb hr hlocks hP hS h dX6_canal_48
      · replace h := h.2 c9
        refine lv_iload hx hb dX6_canal_34 (lv_at hl 4 rfl) ?_
        refine lv_iconst (v := (0 : Int32)) hx hb dX6_canal_36 k_iconst_0 ?_
        refine lv_sipush (v := (500 : Int32)) hx hb dX6_canal_37 k_sipush_500 ?_
        refine rc_Si (As := [.int x4a, .int (0 : Int32), .int (500 : Int32)]) (rest := []) ⟨hx, hb, hml, hown, hts⟩ (mX6_isOutside l G x4a (0 : Int32) (500 : Int32) M7 _ h) (va_cwS 3 hts (gS_X6_isOutside q_5_8) rfl rfl rfl hdS_X6_isOutside ⟨Nat.le_of_ble_eq_true rfl, Nat.le_of_ble_eq_true rfl⟩) hK hP hS rfl hl.1 rfl (Nat.le_of_ble_eq_true rfl) dX6_canal_40 ⟨Nat.zero_le _, Nat.zero_le _⟩ (fun r11 M10 H locs h hP hS => ?_)
        refine lv_if_eq (tgt := 49) hx hb dX6_canal_43 (by decide) (fun c12 => ?_) (fun c12 => ?_)
        · replace h := h.1 c12
          refine lv_aload_n hx hb dX6_canal_49 rfl (lv_at hl 0 rfl) ?_
          refine rk_getr hx hb hts inlX6 hown hK hP hk_j0a cl_6 0 1 fq_6_0 q_1_15 rfl dX6_canal_50 ?_
          refine rk_getr hx hb hts inlX4 hown hK hP (ky_6_0 hk_j0a) cl_4 0 1 fq_4_0 q_5_0 rfl dX6_canal_53 ?_
          refine rk_geti hx hb hts inlX0 hown hK hP (ky_4_0 (ky_6_0 hk_j0a)) cl_0 0 fq_0_0 q_5_2 rfl dX6_canal_56 ?_
          refine lv_bipush (v := (8 : Int32)) hx hb dX6_canal_59 k_bipush_8 ?_
          refine lv_icmp_lt (tgt := 67) hx hb dX6_canal_61 (by decide) (fun c13 => ?_) (fun c13 => ?_)
          · replace h := h.1 c13
            refine lv_aload_n hx hb dX6_canal_67 rfl (lv_at hl 0 rfl) ?_
            refine rk_getr hx hb hts inlX6 hown hK hP hk_j0a cl_6 2 47 fq_6_2 q_1_20 rfl dX6_canal_68 ?_
            refine lv_aload_n hx hb dX6_canal_71 rfl (lv_at hl 0 rfl) ?_
            refine rk_getr hx hb hts inlX6 hown hK hP hk_j0a cl_6 0 1 fq_6_0 q_1_15 rfl dX6_canal_72 ?_
            refine rc_Vv (As := [.ref (G.2.1 + (j0a + 1))]) (rest := []) ⟨hx, hb, hml, hown, hts⟩ (mX2_record l G (j0a + 47) (j0a + 1) M10 _ (ky_6_2 hk_j0a) (ky_6_0 hk_j0a) h) (cwV 1 hts (gV_X2_record q_5_11) rfl rfl rfl hdV_X2_record ⟨Nat.le_of_ble_eq_true rfl, Nat.le_of_ble_eq_true rfl⟩) hK hP hS (ky_6_2 hk_j0a) (by decide) cl_2 rfl hl.1 rfl (Nat.le_of_ble_eq_true rfl) dX6_canal_75 ⟨Nat.zero_le _, Nat.zero_le _⟩ (fun M14 H locs h hP hS => ?_)
            refine lv_aload_n hx hb dX6_canal_78 rfl (lv_at hl 0 rfl) ?_
            refine rk_getr hx hb hts inlX6 hown hK hP hk_j0a cl_6 0 1 fq_6_0 q_1_15 rfl dX6_canal_79 ?_
            refine rk_getr hx hb hts inlX4 hown hK hP (ky_6_0 hk_j0a) cl_4 0 1 fq_4_0 q_5_0 rfl dX6_canal_82 ?_
            refine lv_iload_n hx hb dX6_canal_85 rfl (lv_at hl 1 rfl) ?_
            refine lv_iload_n hx hb dX6_canal_86 rfl (lv_at hl 2 rfl) ?_
            refine lv_iload_n hx hb dX6_canal_87 rfl (lv_at hl 3 rfl) ?_
            refine lv_iload hx hb dX6_canal_88 (lv_at hl 4 rfl) ?_
            refine rc_Vi (As := [.int x1a, .int x2a, .int x3a, .int x4a]) (rest := []) ⟨hx, hb, hml, hown, hts⟩ (mX0_add l G ((j0a + 1) + 1) x1a x2a x3a x4a M14 _ (ky_4_0 (ky_6_0 hk_j0a)) h) (cwV 4 hts (gV_X0_add q_7_5) rfl rfl rfl hdV_X0_add ⟨Nat.le_of_ble_eq_true rfl, Nat.le_of_ble_eq_true rfl⟩) hK hP hS (ky_4_0 (ky_6_0 hk_j0a)) (by decide) cl_0 rfl hl.1 rfl (Nat.le_of_ble_eq_true rfl) dX6_canal_90 ⟨Nat.zero_le _, Nat.zero_le _⟩ (fun r17 M16 H locs h hP hS => ?_)
            exact re_i hx hb hr hlocks hP hS h dX6_canal_93
          · replace h := h.2 c13
            refine lv_ldc hx hb hown (hts _ q_5_3) dX6_canal_64 ?_
            exact re_i hx hb hr hlocks hP hS h dX6_canal_66
        · replace h := h.2 c12
          refine lv_ldc hx hb hown (hts _ q_5_1) dX6_canal_46 ?_
          exact re_i hx hb hr hlocks hP hS h dX6_canal_48
set_option maxHeartbeats 4000000 in
set_option maxRecDepth 100000 in
theorem mX6_field (l : Launch) (G : Gp) (j0a : Nat) (x1a : Int32) (x2a : Int32) (x3a : Int32) (x4a : Int32) (M : Mm) (Post : Mm → Int32 → Prop) (hk_j0a : kd j0a = 6) (h : wX6_field Post M j0a x1a x2a x3a x4a) : CtI l yX6_field wsX6_field rX6_field G [.ref (G.2.1 + j0a), .int x1a, .int x2a, .int x3a, .int x4a] M Post := by
  refine Met.ofW (cc := cX6_field) (maxL := 5) (ret := (some .int)) (by decide) rfl ?_
  intro p e s m args below meth c s₁ B hml hv
  obtain ⟨rfl, hK, hP⟩ := hv
  have hx := B.exec
  have hb := B.bytes
  have hr := B.returns
  have hlocks := B.notSynchronized
  have hts0 := atoms_spec (ws := wsX6_field) B.pre
  have hts : ∀ w ∈ wsL_law, w.before _ s = true := fun w hw => hts0 w (List.mem_cons_of_mem _ hw)
  have hown : s.vm.findClass RX6 = some m.cls := findClass_of_methodNamed B.named
  have hS : va_S (Fr G) s.heap s.heap [] := va_S.rf
  have hl := lv_entry ([.ref (G.2.1 + j0a), .int x1a, .int x2a, .int x3a, .int x4a]) (n := 5) (Nat.le_of_ble_eq_true rfl)
  rw [lg_entry_eq]
  generalize (lg_sl ([.ref (G.2.1 + j0a), .int x1a, .int x2a, .int x3a, .int x4a]) ++ List.replicate (5 - (lg_sl ([.ref (G.2.1 + j0a), .int x1a, .int x2a, .int x3a, .int x4a])).length) Slot.unset).toArray = ls at hl ⊢
  have hl : lv_has ls 5 [(0, .ref (G.2.1 + j0a)), (1, .int x1a), (2, .int x2a), (3, .int x3a), (4, .int x4a)] := hl
  unfold wX6_field at h
  refine lv_aload_n hx hb dX6_field_0 rfl (lv_at hl 0 rfl) ?_
  refine rk_getr hx hb hts inlX6 hown hK hP hk_j0a cl_6 0 1 fq_6_0 q_1_15 rfl dX6_field_1 ?_
  refine rk_getr hx hb hts inlX4 hown hK hP (ky_6_0 hk_j0a) cl_4 0 1 fq_4_0 q_5_0 rfl dX6_field_4 ?_
  refine lv_iload_n hx hb dX6_field_7 rfl (lv_at hl 1 rfl) ?_
  refine rc_Vi (As := [.int x1a]) (rest := []) ⟨hx, hb, hml, hown, hts⟩ (mX0_has l G ((j0a + 1) + 1) x1a M _ (ky_4_0 (ky_6_0 hk_j0a)) h) (cwV 1 hts (gV_X0_has q_5_4) rfl rfl rfl hdV_X0_has ⟨Nat.le_of_ble_eq_true rfl, Nat.le_of_ble_eq_true rfl⟩) hK hP hS (ky_4_0 (ky_6_0 hk_j0a)) (by decide) cl_0 rfl hl.1 rfl (Nat.le_of_ble_eq_true rfl) dX6_field_8 ⟨Nat.zero_le _, Nat.zero_le _⟩ (fun r2 M1 H locs h hP hS => ?_)
  refine lv_if_eq (tgt := 47) hx hb dX6_field_11 (by decide) (fun c3 => ?_) (fun c3 => ?_)
  · replace h := h.1 c3
    refine lv_ldc hx hb hown (hts _ q_5_1) dX6_field_47 ?_
    exact re_i hx hb hr hlocks hP hS h dX6_field_49
  · replace h := h.2 c3
    refine lv_iload_n hx hb dX6_field_14 rfl (lv_at hl 2 rfl) ?_
    refine lv_iconst (v := (1 : Int32)) hx hb dX6_field_15 k_iconst_1 ?_
    refine lv_sipush (v := (999 : Int32)) hx hb dX6_field_16 k_sipush_999 ?_
    refine rc_Si (As := [.int x2a, .int (1 : Int32), .int (999 : Int32)]) (rest := []) ⟨hx, hb, hml, hown, hts⟩ (mX6_isOutside l G x2a (1 : Int32) (999 : Int32) M1 _ h) (va_cwS 3 hts (gS_X6_isOutside q_5_8) rfl rfl rfl hdS_X6_isOutside ⟨Nat.le_of_ble_eq_true rfl, Nat.le_of_ble_eq_true rfl⟩) hK hP hS rfl hl.1 rfl (Nat.le_of_ble_eq_true rfl) dX6_field_19 ⟨Nat.zero_le _, Nat.zero_le _⟩ (fun r5 M4 H locs h hP hS => ?_)
    refine lv_if_ne (tgt := 47) hx hb dX6_field_22 (by decide) (fun c6 => ?_) (fun c6 => ?_)
    · replace h := h.1 c6
      refine lv_ldc hx hb hown (hts _ q_5_1) dX6_field_47 ?_
      exact re_i hx hb hr hlocks hP hS h dX6_field_49
    · replace h := h.2 c6
      refine lv_iload_n hx hb dX6_field_25 rfl (lv_at hl 3 rfl) ?_
      refine lv_iconst (v := (1 : Int32)) hx hb dX6_field_26 k_iconst_1 ?_
      refine lv_sipush (v := (200 : Int32)) hx hb dX6_field_27 k_sipush_200 ?_
      refine rc_Si (As := [.int x3a, .int (1 : Int32), .int (200 : Int32)]) (rest := []) ⟨hx, hb, hml, hown, hts⟩ (mX6_isOutside l G x3a (1 : Int32) (200 : Int32) M4 _ h) (va_cwS 3 hts (gS_X6_isOutside q_5_8) rfl rfl rfl hdS_X6_isOutside ⟨Nat.le_of_ble_eq_true rfl, Nat.le_of_ble_eq_true rfl⟩) hK hP hS rfl hl.1 rfl (Nat.le_of_ble_eq_true rfl) dX6_field_30 ⟨Nat.zero_le _, Nat.zero_le _⟩ (fun r8 M7 H locs h hP hS => ?_)
      refine lv_if_ne (tgt := 47) hx hb dX6_field_33 (by decide) (fun c9 => ?_) (fun c9 => ?_)
      · replace h := h.1 c9
        refine lv_ldc hx hb hown (hts _ q_5_1) dX6_field_47 ?_
        exact re_i hx hb hr hlocks hP hS h dX6_field_49
      · replace h := h.2 c9
        refine lv_iload hx hb dX6_field_36 (lv_at hl 4 rfl) ?_
        refine lv_iconst (v := (0 : Int32)) hx hb dX6_field_38 k_iconst_0 ?_
        refine lv_bipush (v := (99 : Int32)) hx hb dX6_field_39 k_bipush_99 ?_
        refine rc_Si (As := [.int x4a, .int (0 : Int32), .int (99 : Int32)]) (rest := []) ⟨hx, hb, hml, hown, hts⟩ (mX6_isOutside l G x4a (0 : Int32) (99 : Int32) M7 _ h) (va_cwS 3 hts (gS_X6_isOutside q_5_8) rfl rfl rfl hdS_X6_isOutside ⟨Nat.le_of_ble_eq_true rfl, Nat.le_of_ble_eq_true rfl⟩) hK hP hS rfl hl.1 rfl (Nat.le_of_ble_eq_true rfl) dX6_field_41 ⟨Nat.zero_le _, Nat.zero_le _⟩ (fun r11 M10 H locs h hP hS => ?_)
        refine lv_if_eq (tgt := 50) hx hb dX6_field_44 (by decide) (fun c12 => ?_) (fun c12 => ?_)
        · replace h := h.1 c12
          refine lv_aload_n hx hb dX6_field_50 rfl (lv_at hl 0 rfl) ?_
          refine rk_getr hx hb hts inlX6 hown hK hP hk_j0a cl_6 0 1 fq_6_0 q_1_15 rfl dX6_field_51 ?_
          refine rk_getr hx hb hts inlX4 hown hK hP (ky_6_0 hk_j0a) cl_4 1 10 fq_4_1 q_8_11 rfl dX6_field_54 ?_
          refine rk_geti hx hb hts inlX1 hown hK hP (ky_4_1 (ky_6_0 hk_j0a)) cl_1 0 fq_1_0 q_8_12 rfl dX6_field_57 ?_
          refine lv_bipush (v := (10 : Int32)) hx hb dX6_field_60 k_bipush_10 ?_
          refine lv_icmp_lt (tgt := 68) hx hb dX6_field_62 (by decide) (fun c13 => ?_) (fun c13 => ?_)
          · replace h := h.1 c13
            refine lv_aload_n hx hb dX6_field_68 rfl (lv_at hl 0 rfl) ?_
            refine rk_getr hx hb hts inlX6 hown hK hP hk_j0a cl_6 2 47 fq_6_2 q_1_20 rfl dX6_field_69 ?_
            refine lv_aload_n hx hb dX6_field_72 rfl (lv_at hl 0 rfl) ?_
            refine rk_getr hx hb hts inlX6 hown hK hP hk_j0a cl_6 0 1 fq_6_0 q_1_15 rfl dX6_field_73 ?_
            refine rc_Vv (As := [.ref (G.2.1 + (j0a + 1))]) (rest := []) ⟨hx, hb, hml, hown, hts⟩ (mX2_record l G (j0a + 47) (j0a + 1) M10 _ (ky_6_2 hk_j0a) (ky_6_0 hk_j0a) h) (cwV 1 hts (gV_X2_record q_5_11) rfl rfl rfl hdV_X2_record ⟨Nat.le_of_ble_eq_true rfl, Nat.le_of_ble_eq_true rfl⟩) hK hP hS (ky_6_2 hk_j0a) (by decide) cl_2 rfl hl.1 rfl (Nat.le_of_ble_eq_true rfl) dX6_field_76 ⟨Nat.zero_le _, Nat.zero_le _⟩ (fun M14 H locs h hP hS => ?_)
            refine lv_aload_n hx hb dX6_field_79 rfl (lv_at hl 0 rfl) ?_
            refine rk_getr hx hb hts inlX6 hown hK hP hk_j0a cl_6 0 1 fq_6_0 q_1_15 rfl dX6_field_80 ?_
            refine rk_getr hx hb hts inlX4 hown hK hP (ky_6_0 hk_j0a) cl_4 1 10 fq_4_1 q_8_11 rfl dX6_field_83 ?_
            refine lv_iload_n hx hb dX6_field_86 rfl (lv_at hl 1 rfl) ?_
            refine lv_iload_n hx hb dX6_field_87 rfl (lv_at hl 2 rfl) ?_
            refine lv_iload_n hx hb dX6_field_88 rfl (lv_at hl 3 rfl) ?_
            refine lv_iload hx hb dX6_field_89 (lv_at hl 4 rfl) ?_
            refine rc_Vi (As := [.int x1a, .int x2a, .int x3a, .int x4a]) (rest := []) ⟨hx, hb, hml, hown, hts⟩ (mX1_add l G ((j0a + 1) + 10) x1a x2a x3a x4a M14 _ (ky_4_1 (ky_6_0 hk_j0a)) h) (cwV 4 hts (gV_X1_add q_8_13) rfl rfl rfl hdV_X1_add ⟨Nat.le_of_ble_eq_true rfl, Nat.le_of_ble_eq_true rfl⟩) hK hP hS (ky_4_1 (ky_6_0 hk_j0a)) (by decide) cl_1 rfl hl.1 rfl (Nat.le_of_ble_eq_true rfl) dX6_field_91 ⟨Nat.zero_le _, Nat.zero_le _⟩ (fun r17 M16 H locs h hP hS => ?_)
            exact re_i hx hb hr hlocks hP hS h dX6_field_94
          · replace h := h.2 c13
            refine lv_ldc hx hb hown (hts _ q_5_3) dX6_field_65 ?_
            exact re_i hx hb hr hlocks hP hS h dX6_field_67
        · replace h := h.2 c12
          refine lv_ldc hx hb hown (hts _ q_5_1) dX6_field_47 ?_
          exact re_i hx hb hr hlocks hP hS h dX6_field_49
set_option maxHeartbeats 4000000 in
set_option maxRecDepth 100000 in
theorem mX6_tendsKind (l : Launch) (G : Gp) (x0a : Int32) (x1a : Int32) (M : Mm) (Post : Mm → Int32 → Prop) (h : wX6_tendsKind Post M x0a x1a) : CtI l yX6_tendsKind wsX6_tendsKind rX6_tendsKind G [.int x0a, .int x1a] M Post := by
  refine Met.ofW (cc := cX6_tendsKind) (maxL := 2) (ret := (some .boolean)) (by decide) rfl ?_
  intro p e s m args below meth c s₁ B hml hv
  obtain ⟨rfl, hK, hP⟩ := hv
  have hx := B.exec
  have hb := B.bytes
  have hr := B.returns
  have hlocks := B.notSynchronized
  have hts0 := atoms_spec (ws := wsX6_tendsKind) B.pre
  have hts : ∀ w ∈ wsL_law, w.before _ s = true := fun w hw => hts0 w (List.mem_cons_of_mem _ hw)
  have hown : s.vm.findClass RX6 = some m.cls := findClass_of_methodNamed B.named
  have hS : va_S (Fr G) s.heap s.heap [] := va_S.rf
  have hl := lv_entry ([.int x0a, .int x1a]) (n := 2) (Nat.le_of_ble_eq_true rfl)
  rw [lg_entry_eq]
  generalize (lg_sl ([.int x0a, .int x1a]) ++ List.replicate (2 - (lg_sl ([.int x0a, .int x1a])).length) Slot.unset).toArray = ls at hl ⊢
  have hl : lv_has ls 2 [(0, .int x0a), (1, .int x1a)] := hl
  unfold wX6_tendsKind at h
  refine lv_iload_n hx hb dX6_tendsKind_0 rfl (lv_at hl 0 rfl) ?_
  refine lv_iconst (v := (2 : Int32)) hx hb dX6_tendsKind_1 k_iconst_2 ?_
  refine lv_icmp_eq (tgt := 10) hx hb dX6_tendsKind_2 (by decide) (fun c1 => ?_) (fun c1 => ?_)
  · replace h := h.1 c1
    refine lv_iconst (v := (1 : Int32)) hx hb dX6_tendsKind_10 k_iconst_1 ?_
    refine lv_goto (tgt := 15) hx hb dX6_tendsKind_11 (by decide) ?_
    exact re_z hx hb hr hlocks (Or.inr rfl) hP hS h dX6_tendsKind_15
  · replace h := h.2 c1
    refine lv_iload_n hx hb dX6_tendsKind_5 rfl (lv_at hl 0 rfl) ?_
    refine lv_iload_n hx hb dX6_tendsKind_6 rfl (lv_at hl 1 rfl) ?_
    refine lv_icmp_ne (tgt := 14) hx hb dX6_tendsKind_7 (by decide) (fun c2 => ?_) (fun c2 => ?_)
    · replace h := h.1 c2
      refine lv_iconst (v := (0 : Int32)) hx hb dX6_tendsKind_14 k_iconst_0 ?_
      exact re_z hx hb hr hlocks (Or.inl rfl) hP hS h dX6_tendsKind_15
    · replace h := h.2 c2
      refine lv_iconst (v := (1 : Int32)) hx hb dX6_tendsKind_10 k_iconst_1 ?_
      refine lv_goto (tgt := 15) hx hb dX6_tendsKind_11 (by decide) ?_
      exact re_z hx hb hr hlocks (Or.inr rfl) hP hS h dX6_tendsKind_15
set_option maxHeartbeats 4000000 in
set_option maxRecDepth 100000 in
theorem mX6_tend (l : Launch) (G : Gp) (j0a : Nat) (x1a : Int32) (x2a : Int32) (M : Mm) (Post : Mm → Int32 → Prop) (hk_j0a : kd j0a = 6) (h : wX6_tend Post M j0a x1a x2a) : CtI l yX6_tend wsX6_tend rX6_tend G [.ref (G.2.1 + j0a), .int x1a, .int x2a] M Post := by
  refine Met.ofW (cc := cX6_tend) (maxL := 3) (ret := (some .int)) (by decide) rfl ?_
  intro p e s m args below meth c s₁ B hml hv
  obtain ⟨rfl, hK, hP⟩ := hv
  have hx := B.exec
  have hb := B.bytes
  have hr := B.returns
  have hlocks := B.notSynchronized
  have hts0 := atoms_spec (ws := wsX6_tend) B.pre
  have hts : ∀ w ∈ wsL_law, w.before _ s = true := fun w hw => hts0 w (List.mem_cons_of_mem _ hw)
  have hown : s.vm.findClass RX6 = some m.cls := findClass_of_methodNamed B.named
  have hS : va_S (Fr G) s.heap s.heap [] := va_S.rf
  have hl := lv_entry ([.ref (G.2.1 + j0a), .int x1a, .int x2a]) (n := 3) (Nat.le_of_ble_eq_true rfl)
  rw [lg_entry_eq]
  generalize (lg_sl ([.ref (G.2.1 + j0a), .int x1a, .int x2a]) ++ List.replicate (3 - (lg_sl ([.ref (G.2.1 + j0a), .int x1a, .int x2a])).length) Slot.unset).toArray = ls at hl ⊢
  have hl : lv_has ls 3 [(0, .ref (G.2.1 + j0a)), (1, .int x1a), (2, .int x2a)] := hl
  unfold wX6_tend at h
  refine lv_iload_n hx hb dX6_tend_0 rfl (lv_at hl 1 rfl) ?_
  refine lv_iconst (v := (0 : Int32)) hx hb dX6_tend_1 k_iconst_0 ?_
  refine lv_iconst (v := (2 : Int32)) hx hb dX6_tend_2 k_iconst_2 ?_
  refine rc_Si (As := [.int x1a, .int (0 : Int32), .int (2 : Int32)]) (rest := []) ⟨hx, hb, hml, hown, hts⟩ (mX6_isOutside l G x1a (0 : Int32) (2 : Int32) M _ h) (va_cwS 3 hts (gS_X6_isOutside q_5_8) rfl rfl rfl hdS_X6_isOutside ⟨Nat.le_of_ble_eq_true rfl, Nat.le_of_ble_eq_true rfl⟩) hK hP hS rfl hl.1 rfl (Nat.le_of_ble_eq_true rfl) dX6_tend_3 ⟨Nat.zero_le _, Nat.zero_le _⟩ (fun r2 M1 H locs h hP hS => ?_)
  refine lv_if_ne (tgt := 23) hx hb dX6_tend_6 (by decide) (fun c3 => ?_) (fun c3 => ?_)
  · replace h := h.1 c3
    refine lv_ldc hx hb hown (hts _ q_5_1) dX6_tend_23 ?_
    exact re_i hx hb hr hlocks hP hS h dX6_tend_25
  · replace h := h.2 c3
    refine lv_aload_n hx hb dX6_tend_9 rfl (lv_at hl 0 rfl) ?_
    refine rk_getr hx hb hts inlX6 hown hK hP hk_j0a cl_6 0 1 fq_6_0 q_1_15 rfl dX6_tend_10 ?_
    refine rk_getr hx hb hts inlX4 hown hK hP (ky_6_0 hk_j0a) cl_4 0 1 fq_4_0 q_5_0 rfl dX6_tend_13 ?_
    refine lv_iload_n hx hb dX6_tend_16 rfl (lv_at hl 2 rfl) ?_
    refine rc_Vi (As := [.int x2a]) (rest := []) ⟨hx, hb, hml, hown, hts⟩ (mX0_hasGate l G ((j0a + 1) + 1) x2a M1 _ (ky_4_0 (ky_6_0 hk_j0a)) h) (cwV 1 hts (gV_X0_hasGate q_9_4) rfl rfl rfl hdV_X0_hasGate ⟨Nat.le_of_ble_eq_true rfl, Nat.le_of_ble_eq_true rfl⟩) hK hP hS (ky_4_0 (ky_6_0 hk_j0a)) (by decide) cl_0 rfl hl.1 rfl (Nat.le_of_ble_eq_true rfl) dX6_tend_17 ⟨Nat.zero_le _, Nat.zero_le _⟩ (fun r5 M4 H locs h hP hS => ?_)
    refine lv_if_ne (tgt := 26) hx hb dX6_tend_20 (by decide) (fun c6 => ?_) (fun c6 => ?_)
    · replace h := h.1 c6
      refine lv_aload_n hx hb dX6_tend_26 rfl (lv_at hl 0 rfl) ?_
      refine rk_getr hx hb hts inlX6 hown hK hP hk_j0a cl_6 0 1 fq_6_0 q_1_15 rfl dX6_tend_27 ?_
      refine rk_getr hx hb hts inlX4 hown hK hP (ky_6_0 hk_j0a) cl_4 0 1 fq_4_0 q_5_0 rfl dX6_tend_30 ?_
      refine lv_iload_n hx hb dX6_tend_33 rfl (lv_at hl 2 rfl) ?_
      refine rc_Vi (As := [.int x2a]) (rest := []) ⟨hx, hb, hml, hown, hts⟩ (mX0_isTended l G ((j0a + 1) + 1) x2a M4 _ (ky_4_0 (ky_6_0 hk_j0a)) h) (cwV 1 hts (gV_X0_isTended q_9_8) rfl rfl rfl hdV_X0_isTended ⟨Nat.le_of_ble_eq_true rfl, Nat.le_of_ble_eq_true rfl⟩) hK hP hS (ky_4_0 (ky_6_0 hk_j0a)) (by decide) cl_0 rfl hl.1 rfl (Nat.le_of_ble_eq_true rfl) dX6_tend_34 ⟨Nat.zero_le _, Nat.zero_le _⟩ (fun r8 M7 H locs h hP hS => ?_)
      refine lv_if_ne (tgt := 59) hx hb dX6_tend_37 (by decide) (fun c9 => ?_) (fun c9 => ?_)
      · replace h := h.1 c9
        refine lv_ldc hx hb hown (hts _ q_9_2) dX6_tend_59 ?_
        exact re_i hx hb hr hlocks hP hS h dX6_tend_61
      · replace h := h.2 c9
        refine lv_iload_n hx hb dX6_tend_40 rfl (lv_at hl 1 rfl) ?_
        refine lv_aload_n hx hb dX6_tend_41 rfl (lv_at hl 0 rfl) ?_
        refine rk_getr hx hb hts inlX6 hown hK hP hk_j0a cl_6 0 1 fq_6_0 q_1_15 rfl dX6_tend_42 ?_
        refine rk_getr hx hb hts inlX4 hown hK hP (ky_6_0 hk_j0a) cl_4 0 1 fq_4_0 q_5_0 rfl dX6_tend_45 ?_
        refine rk_getr hx hb hts inlX0 hown hK hP (ky_4_0 (ky_6_0 hk_j0a)) cl_0 3 2 fq_0_3 q_9_1 rfl dX6_tend_48 ?_
        refine lv_iload_n hx hb dX6_tend_51 rfl (lv_at hl 2 rfl) ?_
        refine rk_iald hx hb hK hP (ky_0_3 (ky_4_0 (ky_6_0 hk_j0a))) ac_8 _ rfl h.1 dX6_tend_52 ?_
        replace h := h.2
        refine rc_Si (As := [.int x1a, .int (M7 (((j0a + 1) + 1) + 2) (ix x2a))]) (rest := []) ⟨hx, hb, hml, hown, hts⟩ (mX6_tendsKind l G x1a (M7 (((j0a + 1) + 1) + 2) (ix x2a)) M7 _ h) (va_cwS 2 hts (gS_X6_tendsKind q_9_12) rfl rfl rfl hdS_X6_tendsKind ⟨Nat.le_of_ble_eq_true rfl, Nat.le_of_ble_eq_true rfl⟩) hK hP hS rfl hl.1 rfl (Nat.le_of_ble_eq_true rfl) dX6_tend_53 ⟨Nat.zero_le _, Nat.zero_le _⟩ (fun r11 M10 H locs h hP hS => ?_)
        refine lv_if_ne (tgt := 62) hx hb dX6_tend_56 (by decide) (fun c12 => ?_) (fun c12 => ?_)
        · replace h := h.1 c12
          refine lv_aload_n hx hb dX6_tend_62 rfl (lv_at hl 0 rfl) ?_
          refine rk_getr hx hb hts inlX6 hown hK hP hk_j0a cl_6 0 1 fq_6_0 q_1_15 rfl dX6_tend_63 ?_
          refine rk_getr hx hb hts inlX4 hown hK hP (ky_6_0 hk_j0a) cl_4 0 1 fq_4_0 q_5_0 rfl dX6_tend_66 ?_
          refine lv_iload_n hx hb dX6_tend_69 rfl (lv_at hl 1 rfl) ?_
          refine rc_Vi (As := [.int x1a]) (rest := []) ⟨hx, hb, hml, hown, hts⟩ (mX0_gatesOf l G ((j0a + 1) + 1) x1a M10 _ (ky_4_0 (ky_6_0 hk_j0a)) h) (cwV 1 hts (gV_X0_gatesOf q_9_15) rfl rfl rfl hdV_X0_gatesOf ⟨Nat.le_of_ble_eq_true rfl, Nat.le_of_ble_eq_true rfl⟩) hK hP hS (ky_4_0 (ky_6_0 hk_j0a)) (by decide) cl_0 rfl hl.1 rfl (Nat.le_of_ble_eq_true rfl) dX6_tend_70 ⟨Nat.zero_le _, Nat.zero_le _⟩ (fun r14 M13 H locs h hP hS => ?_)
          refine lv_iconst (v := (2 : Int32)) hx hb dX6_tend_73 k_iconst_2 ?_
          refine lv_icmp_lt (tgt := 80) hx hb dX6_tend_74 (by decide) (fun c15 => ?_) (fun c15 => ?_)
          · replace h := h.1 c15
            refine lv_aload_n hx hb dX6_tend_80 rfl (lv_at hl 0 rfl) ?_
            refine rk_getr hx hb hts inlX6 hown hK hP hk_j0a cl_6 2 47 fq_6_2 q_1_20 rfl dX6_tend_81 ?_
            refine lv_aload_n hx hb dX6_tend_84 rfl (lv_at hl 0 rfl) ?_
            refine rk_getr hx hb hts inlX6 hown hK hP hk_j0a cl_6 0 1 fq_6_0 q_1_15 rfl dX6_tend_85 ?_
            refine rc_Vv (As := [.ref (G.2.1 + (j0a + 1))]) (rest := []) ⟨hx, hb, hml, hown, hts⟩ (mX2_record l G (j0a + 47) (j0a + 1) M13 _ (ky_6_2 hk_j0a) (ky_6_0 hk_j0a) h) (cwV 1 hts (gV_X2_record q_5_11) rfl rfl rfl hdV_X2_record ⟨Nat.le_of_ble_eq_true rfl, Nat.le_of_ble_eq_true rfl⟩) hK hP hS (ky_6_2 hk_j0a) (by decide) cl_2 rfl hl.1 rfl (Nat.le_of_ble_eq_true rfl) dX6_tend_88 ⟨Nat.zero_le _, Nat.zero_le _⟩ (fun M16 H locs h hP hS => ?_)
            refine lv_aload_n hx hb dX6_tend_91 rfl (lv_at hl 0 rfl) ?_
            refine rk_getr hx hb hts inlX6 hown hK hP hk_j0a cl_6 0 1 fq_6_0 q_1_15 rfl dX6_tend_92 ?_
            refine rk_getr hx hb hts inlX4 hown hK hP (ky_6_0 hk_j0a) cl_4 0 1 fq_4_0 q_5_0 rfl dX6_tend_95 ?_
            refine rk_getr hx hb hts inlX0 hown hK hP (ky_4_0 (ky_6_0 hk_j0a)) cl_0 6 5 fq_0_6 q_9_3 rfl dX6_tend_98 ?_
            refine lv_iload_n hx hb dX6_tend_101 rfl (lv_at hl 2 rfl) ?_
            refine lv_iload_n hx hb dX6_tend_102 rfl (lv_at hl 1 rfl) ?_
            refine rk_iast hx hb hK hP hS (ky_0_6 (ky_4_0 (ky_6_0 hk_j0a))) ac_8 _ rfl h.1 dX6_tend_103 (fun M18 eM18 H locs hP hS => ?_)
            replace h := h.2
            replace h := h M18 eM18
            refine lv_aload_n hx hb dX6_tend_104 rfl (lv_at hl 0 rfl) ?_
            refine rk_getr hx hb hts inlX6 hown hK hP hk_j0a cl_6 0 1 fq_6_0 q_1_15 rfl dX6_tend_105 ?_
            refine rk_getr hx hb hts inlX4 hown hK hP (ky_6_0 hk_j0a) cl_4 0 1 fq_4_0 q_5_0 rfl dX6_tend_108 ?_
            refine lv_iload_n hx hb dX6_tend_111 rfl (lv_at hl 1 rfl) ?_
            refine rc_Vi (As := [.int x1a]) (rest := []) ⟨hx, hb, hml, hown, hts⟩ (mX0_gatesOf l G ((j0a + 1) + 1) x1a M18 _ (ky_4_0 (ky_6_0 hk_j0a)) h) (cwV 1 hts (gV_X0_gatesOf q_9_15) rfl rfl rfl hdV_X0_gatesOf ⟨Nat.le_of_ble_eq_true rfl, Nat.le_of_ble_eq_true rfl⟩) hK hP hS (ky_4_0 (ky_6_0 hk_j0a)) (by decide) cl_0 rfl hl.1 rfl (Nat.le_of_ble_eq_true rfl) dX6_tend_112 ⟨Nat.zero_le _, Nat.zero_le _⟩ (fun r20 M19 H locs h hP hS => ?_)
            exact re_i hx hb hr hlocks hP hS h dX6_tend_115
          · replace h := h.2 c15
            refine lv_ldc hx hb hown (hts _ q_5_3) dX6_tend_77 ?_
            exact re_i hx hb hr hlocks hP hS h dX6_tend_79
        · replace h := h.2 c12
          refine lv_ldc hx hb hown (hts _ q_9_2) dX6_tend_59 ?_
          exact re_i hx hb hr hlocks hP hS h dX6_tend_61
    · replace h := h.2 c6
      refine lv_ldc hx hb hown (hts _ q_5_1) dX6_tend_23 ?_
      exact re_i hx hb hr hlocks hP hS h dX6_tend_25
set_option maxHeartbeats 4000000 in
set_option maxRecDepth 100000 in
theorem mX6_leave (l : Launch) (G : Gp) (j0a : Nat) (x1a : Int32) (M : Mm) (Post : Mm → Int32 → Prop) (hk_j0a : kd j0a = 6) (h : wX6_leave Post M j0a x1a) : CtI l yX6_leave wsX6_leave rX6_leave G [.ref (G.2.1 + j0a), .int x1a] M Post := by
  refine Met.ofW (cc := cX6_leave) (maxL := 3) (ret := (some .int)) (by decide) rfl ?_
  intro p e s m args below meth c s₁ B hml hv
  obtain ⟨rfl, hK, hP⟩ := hv
  have hx := B.exec
  have hb := B.bytes
  have hr := B.returns
  have hlocks := B.notSynchronized
  have hts0 := atoms_spec (ws := wsX6_leave) B.pre
  have hts : ∀ w ∈ wsL_law, w.before _ s = true := fun w hw => hts0 w (List.mem_cons_of_mem _ hw)
  have hown : s.vm.findClass RX6 = some m.cls := findClass_of_methodNamed B.named
  have hS : va_S (Fr G) s.heap s.heap [] := va_S.rf
  have hl := lv_entry ([.ref (G.2.1 + j0a), .int x1a]) (n := 3) (Nat.le_of_ble_eq_true rfl)
  rw [lg_entry_eq]
  generalize (lg_sl ([.ref (G.2.1 + j0a), .int x1a]) ++ List.replicate (3 - (lg_sl ([.ref (G.2.1 + j0a), .int x1a])).length) Slot.unset).toArray = ls at hl ⊢
  have hl : lv_has ls 3 [(0, .ref (G.2.1 + j0a)), (1, .int x1a)] := hl
  unfold wX6_leave at h
  refine lv_aload_n hx hb dX6_leave_0 rfl (lv_at hl 0 rfl) ?_
  refine rk_getr hx hb hts inlX6 hown hK hP hk_j0a cl_6 0 1 fq_6_0 q_1_15 rfl dX6_leave_1 ?_
  refine rk_getr hx hb hts inlX4 hown hK hP (ky_6_0 hk_j0a) cl_4 0 1 fq_4_0 q_5_0 rfl dX6_leave_4 ?_
  refine lv_iload_n hx hb dX6_leave_7 rfl (lv_at hl 1 rfl) ?_
  refine rc_Vi (As := [.int x1a]) (rest := []) ⟨hx, hb, hml, hown, hts⟩ (mX0_hasGate l G ((j0a + 1) + 1) x1a M _ (ky_4_0 (ky_6_0 hk_j0a)) h) (cwV 1 hts (gV_X0_hasGate q_9_4) rfl rfl rfl hdV_X0_hasGate ⟨Nat.le_of_ble_eq_true rfl, Nat.le_of_ble_eq_true rfl⟩) hK hP hS (ky_4_0 (ky_6_0 hk_j0a)) (by decide) cl_0 rfl hl.1 rfl (Nat.le_of_ble_eq_true rfl) dX6_leave_8 ⟨Nat.zero_le _, Nat.zero_le _⟩ (fun r2 M1 H locs h hP hS => ?_)
  refine lv_if_ne (tgt := 17) hx hb dX6_leave_11 (by decide) (fun c3 => ?_) (fun c3 => ?_)
  · replace h := h.1 c3
    refine lv_aload_n hx hb dX6_leave_17 rfl (lv_at hl 0 rfl) ?_
    refine rk_getr hx hb hts inlX6 hown hK hP hk_j0a cl_6 0 1 fq_6_0 q_1_15 rfl dX6_leave_18 ?_
    refine rk_getr hx hb hts inlX4 hown hK hP (ky_6_0 hk_j0a) cl_4 0 1 fq_4_0 q_5_0 rfl dX6_leave_21 ?_
    refine lv_iload_n hx hb dX6_leave_24 rfl (lv_at hl 1 rfl) ?_
    refine rc_Vi (As := [.int x1a]) (rest := []) ⟨hx, hb, hml, hown, hts⟩ (mX0_isTended l G ((j0a + 1) + 1) x1a M1 _ (ky_4_0 (ky_6_0 hk_j0a)) h) (cwV 1 hts (gV_X0_isTended q_9_8) rfl rfl rfl hdV_X0_isTended ⟨Nat.le_of_ble_eq_true rfl, Nat.le_of_ble_eq_true rfl⟩) hK hP hS (ky_4_0 (ky_6_0 hk_j0a)) (by decide) cl_0 rfl hl.1 rfl (Nat.le_of_ble_eq_true rfl) dX6_leave_25 ⟨Nat.zero_le _, Nat.zero_le _⟩ (fun r5 M4 H locs h hP hS => ?_)
    refine lv_if_ne (tgt := 34) hx hb dX6_leave_28 (by decide) (fun c6 => ?_) (fun c6 => ?_)
    · replace h := h.1 c6
      refine lv_aload_n hx hb dX6_leave_34 rfl (lv_at hl 0 rfl) ?_
      refine rk_getr hx hb hts inlX6 hown hK hP hk_j0a cl_6 2 47 fq_6_2 q_1_20 rfl dX6_leave_35 ?_
      refine lv_aload_n hx hb dX6_leave_38 rfl (lv_at hl 0 rfl) ?_
      refine rk_getr hx hb hts inlX6 hown hK hP hk_j0a cl_6 0 1 fq_6_0 q_1_15 rfl dX6_leave_39 ?_
      refine rc_Vv (As := [.ref (G.2.1 + (j0a + 1))]) (rest := []) ⟨hx, hb, hml, hown, hts⟩ (mX2_record l G (j0a + 47) (j0a + 1) M4 _ (ky_6_2 hk_j0a) (ky_6_0 hk_j0a) h) (cwV 1 hts (gV_X2_record q_5_11) rfl rfl rfl hdV_X2_record ⟨Nat.le_of_ble_eq_true rfl, Nat.le_of_ble_eq_true rfl⟩) hK hP hS (ky_6_2 hk_j0a) (by decide) cl_2 rfl hl.1 rfl (Nat.le_of_ble_eq_true rfl) dX6_leave_42 ⟨Nat.zero_le _, Nat.zero_le _⟩ (fun M7 H locs h hP hS => ?_)
      refine lv_aload_n hx hb dX6_leave_45 rfl (lv_at hl 0 rfl) ?_
      refine rk_getr hx hb hts inlX6 hown hK hP hk_j0a cl_6 0 1 fq_6_0 q_1_15 rfl dX6_leave_46 ?_
      refine rk_getr hx hb hts inlX4 hown hK hP (ky_6_0 hk_j0a) cl_4 0 1 fq_4_0 q_5_0 rfl dX6_leave_49 ?_
      refine rk_getr hx hb hts inlX0 hown hK hP (ky_4_0 (ky_6_0 hk_j0a)) cl_0 6 5 fq_0_6 q_9_3 rfl dX6_leave_52 ?_
      refine lv_iload_n hx hb dX6_leave_55 rfl (lv_at hl 1 rfl) ?_
      refine rk_iald hx hb hK hP (ky_0_6 (ky_4_0 (ky_6_0 hk_j0a))) ac_8 _ rfl h.1 dX6_leave_56 ?_
      replace h := h.2
      refine lv_topi (fun x2_9 ex2_9 => ?_)
      replace h := h x2_9 ex2_9
      refine lv_istore_n (lv' := [(2, .int x2_9), (0, .ref (G.2.1 + j0a)), (1, .int x1a)]) hx hb dX6_leave_57 rfl hl (by decide) rfl (fun ls hl => ?_)
      refine lv_aload_n hx hb dX6_leave_58 rfl (lv_at hl 1 rfl) ?_
      refine rk_getr hx hb hts inlX6 hown hK hP hk_j0a cl_6 0 1 fq_6_0 q_1_15 rfl dX6_leave_59 ?_
      refine rk_getr hx hb hts inlX4 hown hK hP (ky_6_0 hk_j0a) cl_4 0 1 fq_4_0 q_5_0 rfl dX6_leave_62 ?_
      refine rk_getr hx hb hts inlX0 hown hK hP (ky_4_0 (ky_6_0 hk_j0a)) cl_0 6 5 fq_0_6 q_9_3 rfl dX6_leave_65 ?_
      refine lv_iload_n hx hb dX6_leave_68 rfl (lv_at hl 2 rfl) ?_
      refine lv_iconst (v := (-1 : Int32)) hx hb dX6_leave_69 k_iconst_m1 ?_
      refine rk_iast hx hb hK hP hS (ky_0_6 (ky_4_0 (ky_6_0 hk_j0a))) ac_8 _ rfl h.1 dX6_leave_70 (fun M10 eM10 H locs hP hS => ?_)
      replace h := h.2
      replace h := h M10 eM10
      refine lv_iload_n hx hb dX6_leave_71 rfl (lv_at hl 0 rfl) ?_
      exact re_i hx hb hr hlocks hP hS h dX6_leave_72
    · replace h := h.2 c6
      refine lv_ldc hx hb hown (hts _ q_9_2) dX6_leave_31 ?_
      exact re_i hx hb hr hlocks hP hS h dX6_leave_33
  · replace h := h.2 c3
    refine lv_ldc hx hb hown (hts _ q_5_1) dX6_leave_14 ?_
    exact re_i hx hb hr hlocks hP hS h dX6_leave_16
set_option maxHeartbeats 4000000 in
set_option maxRecDepth 100000 in
theorem mX6_open (l : Launch) (G : Gp) (j0a : Nat) (x1a : Int32) (M : Mm) (Post : Mm → Int32 → Prop) (hk_j0a : kd j0a = 6) (h : wX6_open Post M j0a x1a) : CtI l yX6_open wsX6_open rX6_open G [.ref (G.2.1 + j0a), .int x1a] M Post := by
  refine Met.ofW (cc := cX6_open) (maxL := 2) (ret := (some .int)) (by decide) rfl ?_
  intro p e s m args below meth c s₁ B hml hv
  obtain ⟨rfl, hK, hP⟩ := hv
  have hx := B.exec
  have hb := B.bytes
  have hr := B.returns
  have hlocks := B.notSynchronized
  have hts0 := atoms_spec (ws := wsX6_open) B.pre
  have hts : ∀ w ∈ wsL_law, w.before _ s = true := fun w hw => hts0 w (List.mem_cons_of_mem _ hw)
  have hown : s.vm.findClass RX6 = some m.cls := findClass_of_methodNamed B.named
  have hS : va_S (Fr G) s.heap s.heap [] := va_S.rf
  have hl := lv_entry ([.ref (G.2.1 + j0a), .int x1a]) (n := 2) (Nat.le_of_ble_eq_true rfl)
  rw [lg_entry_eq]
  generalize (lg_sl ([.ref (G.2.1 + j0a), .int x1a]) ++ List.replicate (2 - (lg_sl ([.ref (G.2.1 + j0a), .int x1a])).length) Slot.unset).toArray = ls at hl ⊢
  have hl : lv_has ls 2 [(0, .ref (G.2.1 + j0a)), (1, .int x1a)] := hl
  unfold wX6_open at h
  refine lv_aload_n hx hb dX6_open_0 rfl (lv_at hl 0 rfl) ?_
  refine rk_getr hx hb hts inlX6 hown hK hP hk_j0a cl_6 0 1 fq_6_0 q_1_15 rfl dX6_open_1 ?_
  refine rk_getr hx hb hts inlX4 hown hK hP (ky_6_0 hk_j0a) cl_4 0 1 fq_4_0 q_5_0 rfl dX6_open_4 ?_
  refine lv_iload_n hx hb dX6_open_7 rfl (lv_at hl 1 rfl) ?_
  refine rc_Vi (As := [.int x1a]) (rest := []) ⟨hx, hb, hml, hown, hts⟩ (mX0_hasGate l G ((j0a + 1) + 1) x1a M _ (ky_4_0 (ky_6_0 hk_j0a)) h) (cwV 1 hts (gV_X0_hasGate q_9_4) rfl rfl rfl hdV_X0_hasGate ⟨Nat.le_of_ble_eq_true rfl, Nat.le_of_ble_eq_true rfl⟩) hK hP hS (ky_4_0 (ky_6_0 hk_j0a)) (by decide) cl_0 rfl hl.1 rfl (Nat.le_of_ble_eq_true rfl) dX6_open_8 ⟨Nat.zero_le _, Nat.zero_le _⟩ (fun r2 M1 H locs h hP hS => ?_)
  refine lv_if_ne (tgt := 17) hx hb dX6_open_11 (by decide) (fun c3 => ?_) (fun c3 => ?_)
  · replace h := h.1 c3
    refine lv_aload_n hx hb dX6_open_17 rfl (lv_at hl 0 rfl) ?_
    refine rk_getr hx hb hts inlX6 hown hK hP hk_j0a cl_6 0 1 fq_6_0 q_1_15 rfl dX6_open_18 ?_
    refine rk_getr hx hb hts inlX4 hown hK hP (ky_6_0 hk_j0a) cl_4 0 1 fq_4_0 q_5_0 rfl dX6_open_21 ?_
    refine lv_iload_n hx hb dX6_open_24 rfl (lv_at hl 1 rfl) ?_
    refine rc_Vi (As := [.int x1a]) (rest := []) ⟨hx, hb, hml, hown, hts⟩ (mX0_canBeOpened l G ((j0a + 1) + 1) x1a M1 _ (ky_4_0 (ky_6_0 hk_j0a)) h) (cwV 1 hts (gV_X0_canBeOpened q_11_0) rfl rfl rfl hdV_X0_canBeOpened ⟨Nat.le_of_ble_eq_true rfl, Nat.le_of_ble_eq_true rfl⟩) hK hP hS (ky_4_0 (ky_6_0 hk_j0a)) (by decide) cl_0 rfl hl.1 rfl (Nat.le_of_ble_eq_true rfl) dX6_open_25 ⟨Nat.zero_le _, Nat.zero_le _⟩ (fun r5 M4 H locs h hP hS => ?_)
    refine lv_if_ne (tgt := 34) hx hb dX6_open_28 (by decide) (fun c6 => ?_) (fun c6 => ?_)
    · replace h := h.1 c6
      refine lv_aload_n hx hb dX6_open_34 rfl (lv_at hl 0 rfl) ?_
      refine rk_getr hx hb hts inlX6 hown hK hP hk_j0a cl_6 2 47 fq_6_2 q_1_20 rfl dX6_open_35 ?_
      refine lv_aload_n hx hb dX6_open_38 rfl (lv_at hl 0 rfl) ?_
      refine rk_getr hx hb hts inlX6 hown hK hP hk_j0a cl_6 0 1 fq_6_0 q_1_15 rfl dX6_open_39 ?_
      refine rc_Vv (As := [.ref (G.2.1 + (j0a + 1))]) (rest := []) ⟨hx, hb, hml, hown, hts⟩ (mX2_record l G (j0a + 47) (j0a + 1) M4 _ (ky_6_2 hk_j0a) (ky_6_0 hk_j0a) h) (cwV 1 hts (gV_X2_record q_5_11) rfl rfl rfl hdV_X2_record ⟨Nat.le_of_ble_eq_true rfl, Nat.le_of_ble_eq_true rfl⟩) hK hP hS (ky_6_2 hk_j0a) (by decide) cl_2 rfl hl.1 rfl (Nat.le_of_ble_eq_true rfl) dX6_open_42 ⟨Nat.zero_le _, Nat.zero_le _⟩ (fun M7 H locs h hP hS => ?_)
      refine lv_aload_n hx hb dX6_open_45 rfl (lv_at hl 0 rfl) ?_
      refine rk_getr hx hb hts inlX6 hown hK hP hk_j0a cl_6 0 1 fq_6_0 q_1_15 rfl dX6_open_46 ?_
      refine rk_getr hx hb hts inlX4 hown hK hP (ky_6_0 hk_j0a) cl_4 0 1 fq_4_0 q_5_0 rfl dX6_open_49 ?_
      refine lv_iload_n hx hb dX6_open_52 rfl (lv_at hl 1 rfl) ?_
      refine rc_Vi (As := [.int x1a]) (rest := []) ⟨hx, hb, hml, hown, hts⟩ (mX0_moveGate l G ((j0a + 1) + 1) x1a M7 _ (ky_4_0 (ky_6_0 hk_j0a)) h) (cwV 1 hts (gV_X0_moveGate q_11_9) rfl rfl rfl hdV_X0_moveGate ⟨Nat.le_of_ble_eq_true rfl, Nat.le_of_ble_eq_true rfl⟩) hK hP hS (ky_4_0 (ky_6_0 hk_j0a)) (by decide) cl_0 rfl hl.1 rfl (Nat.le_of_ble_eq_true rfl) dX6_open_53 ⟨Nat.zero_le _, Nat.zero_le _⟩ (fun r10 M9 H locs h hP hS => ?_)
      exact re_i hx hb hr hlocks hP hS h dX6_open_56
    · replace h := h.2 c6
      refine lv_ldc hx hb hown (hts _ q_9_2) dX6_open_31 ?_
      exact re_i hx hb hr hlocks hP hS h dX6_open_33
  · replace h := h.2 c3
    refine lv_ldc hx hb hown (hts _ q_5_1) dX6_open_14 ?_
    exact re_i hx hb hr hlocks hP hS h dX6_open_16
set_option maxHeartbeats 4000000 in
set_option maxRecDepth 100000 in
theorem mX6_close (l : Launch) (G : Gp) (j0a : Nat) (x1a : Int32) (M : Mm) (Post : Mm → Int32 → Prop) (hk_j0a : kd j0a = 6) (h : wX6_close Post M j0a x1a) : CtI l yX6_close wsX6_close rX6_close G [.ref (G.2.1 + j0a), .int x1a] M Post := by
  refine Met.ofW (cc := cX6_close) (maxL := 2) (ret := (some .int)) (by decide) rfl ?_
  intro p e s m args below meth c s₁ B hml hv
  obtain ⟨rfl, hK, hP⟩ := hv
  have hx := B.exec
  have hb := B.bytes
  have hr := B.returns
  have hlocks := B.notSynchronized
  have hts0 := atoms_spec (ws := wsX6_close) B.pre
  have hts : ∀ w ∈ wsL_law, w.before _ s = true := fun w hw => hts0 w (List.mem_cons_of_mem _ hw)
  have hown : s.vm.findClass RX6 = some m.cls := findClass_of_methodNamed B.named
  have hS : va_S (Fr G) s.heap s.heap [] := va_S.rf
  have hl := lv_entry ([.ref (G.2.1 + j0a), .int x1a]) (n := 2) (Nat.le_of_ble_eq_true rfl)
  rw [lg_entry_eq]
  generalize (lg_sl ([.ref (G.2.1 + j0a), .int x1a]) ++ List.replicate (2 - (lg_sl ([.ref (G.2.1 + j0a), .int x1a])).length) Slot.unset).toArray = ls at hl ⊢
  have hl : lv_has ls 2 [(0, .ref (G.2.1 + j0a)), (1, .int x1a)] := hl
  unfold wX6_close at h
  refine lv_aload_n hx hb dX6_close_0 rfl (lv_at hl 0 rfl) ?_
  refine rk_getr hx hb hts inlX6 hown hK hP hk_j0a cl_6 0 1 fq_6_0 q_1_15 rfl dX6_close_1 ?_
  refine rk_getr hx hb hts inlX4 hown hK hP (ky_6_0 hk_j0a) cl_4 0 1 fq_4_0 q_5_0 rfl dX6_close_4 ?_
  refine lv_iload_n hx hb dX6_close_7 rfl (lv_at hl 1 rfl) ?_
  refine rc_Vi (As := [.int x1a]) (rest := []) ⟨hx, hb, hml, hown, hts⟩ (mX0_hasGate l G ((j0a + 1) + 1) x1a M _ (ky_4_0 (ky_6_0 hk_j0a)) h) (cwV 1 hts (gV_X0_hasGate q_9_4) rfl rfl rfl hdV_X0_hasGate ⟨Nat.le_of_ble_eq_true rfl, Nat.le_of_ble_eq_true rfl⟩) hK hP hS (ky_4_0 (ky_6_0 hk_j0a)) (by decide) cl_0 rfl hl.1 rfl (Nat.le_of_ble_eq_true rfl) dX6_close_8 ⟨Nat.zero_le _, Nat.zero_le _⟩ (fun r2 M1 H locs h hP hS => ?_)
  refine lv_if_ne (tgt := 17) hx hb dX6_close_11 (by decide) (fun c3 => ?_) (fun c3 => ?_)
  · replace h := h.1 c3
    refine lv_aload_n hx hb dX6_close_17 rfl (lv_at hl 0 rfl) ?_
    refine rk_getr hx hb hts inlX6 hown hK hP hk_j0a cl_6 0 1 fq_6_0 q_1_15 rfl dX6_close_18 ?_
    refine rk_getr hx hb hts inlX4 hown hK hP (ky_6_0 hk_j0a) cl_4 0 1 fq_4_0 q_5_0 rfl dX6_close_21 ?_
    refine lv_iload_n hx hb dX6_close_24 rfl (lv_at hl 1 rfl) ?_
    refine rc_Vi (As := [.int x1a]) (rest := []) ⟨hx, hb, hml, hown, hts⟩ (mX0_canBeClosed l G ((j0a + 1) + 1) x1a M1 _ (ky_4_0 (ky_6_0 hk_j0a)) h) (cwV 1 hts (gV_X0_canBeClosed q_12_5) rfl rfl rfl hdV_X0_canBeClosed ⟨Nat.le_of_ble_eq_true rfl, Nat.le_of_ble_eq_true rfl⟩) hK hP hS (ky_4_0 (ky_6_0 hk_j0a)) (by decide) cl_0 rfl hl.1 rfl (Nat.le_of_ble_eq_true rfl) dX6_close_25 ⟨Nat.zero_le _, Nat.zero_le _⟩ (fun r5 M4 H locs h hP hS => ?_)
    refine lv_if_ne (tgt := 34) hx hb dX6_close_28 (by decide) (fun c6 => ?_) (fun c6 => ?_)
    · replace h := h.1 c6
      refine lv_aload_n hx hb dX6_close_34 rfl (lv_at hl 0 rfl) ?_
      refine rk_getr hx hb hts inlX6 hown hK hP hk_j0a cl_6 2 47 fq_6_2 q_1_20 rfl dX6_close_35 ?_
      refine lv_aload_n hx hb dX6_close_38 rfl (lv_at hl 0 rfl) ?_
      refine rk_getr hx hb hts inlX6 hown hK hP hk_j0a cl_6 0 1 fq_6_0 q_1_15 rfl dX6_close_39 ?_
      refine rc_Vv (As := [.ref (G.2.1 + (j0a + 1))]) (rest := []) ⟨hx, hb, hml, hown, hts⟩ (mX2_record l G (j0a + 47) (j0a + 1) M4 _ (ky_6_2 hk_j0a) (ky_6_0 hk_j0a) h) (cwV 1 hts (gV_X2_record q_5_11) rfl rfl rfl hdV_X2_record ⟨Nat.le_of_ble_eq_true rfl, Nat.le_of_ble_eq_true rfl⟩) hK hP hS (ky_6_2 hk_j0a) (by decide) cl_2 rfl hl.1 rfl (Nat.le_of_ble_eq_true rfl) dX6_close_42 ⟨Nat.zero_le _, Nat.zero_le _⟩ (fun M7 H locs h hP hS => ?_)
      refine lv_aload_n hx hb dX6_close_45 rfl (lv_at hl 0 rfl) ?_
      refine rk_getr hx hb hts inlX6 hown hK hP hk_j0a cl_6 0 1 fq_6_0 q_1_15 rfl dX6_close_46 ?_
      refine rk_getr hx hb hts inlX4 hown hK hP (ky_6_0 hk_j0a) cl_4 0 1 fq_4_0 q_5_0 rfl dX6_close_49 ?_
      refine lv_iload_n hx hb dX6_close_52 rfl (lv_at hl 1 rfl) ?_
      refine rc_Vi (As := [.int x1a]) (rest := []) ⟨hx, hb, hml, hown, hts⟩ (mX0_moveGate l G ((j0a + 1) + 1) x1a M7 _ (ky_4_0 (ky_6_0 hk_j0a)) h) (cwV 1 hts (gV_X0_moveGate q_11_9) rfl rfl rfl hdV_X0_moveGate ⟨Nat.le_of_ble_eq_true rfl, Nat.le_of_ble_eq_true rfl⟩) hK hP hS (ky_4_0 (ky_6_0 hk_j0a)) (by decide) cl_0 rfl hl.1 rfl (Nat.le_of_ble_eq_true rfl) dX6_close_53 ⟨Nat.zero_le _, Nat.zero_le _⟩ (fun r10 M9 H locs h hP hS => ?_)
      exact re_i hx hb hr hlocks hP hS h dX6_close_56
    · replace h := h.2 c6
      refine lv_ldc hx hb hown (hts _ q_9_2) dX6_close_31 ?_
      exact re_i hx hb hr hlocks hP hS h dX6_close_33
  · replace h := h.2 c3
    refine lv_ldc hx hb hown (hts _ q_5_1) dX6_close_14 ?_
    exact re_i hx hb hr hlocks hP hS h dX6_close_16
set_option maxHeartbeats 4000000 in
set_option maxRecDepth 100000 in
theorem mX6_call (l : Launch) (G : Gp) (j0a : Nat) (x1a : Int32) (M : Mm) (Post : Mm → Int32 → Prop) (hk_j0a : kd j0a = 6) (h : wX6_call Post M j0a x1a) : CtI l yX6_call wsX6_call rX6_call G [.ref (G.2.1 + j0a), .int x1a] M Post := by
  refine Met.ofW (cc := cX6_call) (maxL := 2) (ret := (some .int)) (by decide) rfl ?_
  intro p e s m args below meth c s₁ B hml hv
  obtain ⟨rfl, hK, hP⟩ := hv
  have hx := B.exec
  have hb := B.bytes
  have hr := B.returns
  have hlocks := B.notSynchronized
  have hts0 := atoms_spec (ws := wsX6_call) B.pre
  have hts : ∀ w ∈ wsL_law, w.before _ s = true := fun w hw => hts0 w (List.mem_cons_of_mem _ hw)
  have hown : s.vm.findClass RX6 = some m.cls := findClass_of_methodNamed B.named
  have hS : va_S (Fr G) s.heap s.heap [] := va_S.rf
  have hl := lv_entry ([.ref (G.2.1 + j0a), .int x1a]) (n := 2) (Nat.le_of_ble_eq_true rfl)
  rw [lg_entry_eq]
  generalize (lg_sl ([.ref (G.2.1 + j0a), .int x1a]) ++ List.replicate (2 - (lg_sl ([.ref (G.2.1 + j0a), .int x1a])).length) Slot.unset).toArray = ls at hl ⊢
  have hl : lv_has ls 2 [(0, .ref (G.2.1 + j0a)), (1, .int x1a)] := hl
  unfold wX6_call at h
  refine lv_aload_n hx hb dX6_call_0 rfl (lv_at hl 0 rfl) ?_
  refine rk_getr hx hb hts inlX6 hown hK hP hk_j0a cl_6 0 1 fq_6_0 q_1_15 rfl dX6_call_1 ?_
  refine rk_getr hx hb hts inlX4 hown hK hP (ky_6_0 hk_j0a) cl_4 1 10 fq_4_1 q_8_11 rfl dX6_call_4 ?_
  refine lv_iload_n hx hb dX6_call_7 rfl (lv_at hl 1 rfl) ?_
  refine rc_Vi (As := [.int x1a]) (rest := []) ⟨hx, hb, hml, hown, hts⟩ (mX1_has l G ((j0a + 1) + 10) x1a M _ (ky_4_1 (ky_6_0 hk_j0a)) h) (cwV 1 hts (gV_X1_has q_12_17) rfl rfl rfl hdV_X1_has ⟨Nat.le_of_ble_eq_true rfl, Nat.le_of_ble_eq_true rfl⟩) hK hP hS (ky_4_1 (ky_6_0 hk_j0a)) (by decide) cl_1 rfl hl.1 rfl (Nat.le_of_ble_eq_true rfl) dX6_call_8 ⟨Nat.zero_le _, Nat.zero_le _⟩ (fun r2 M1 H locs h hP hS => ?_)
  refine lv_if_ne (tgt := 17) hx hb dX6_call_11 (by decide) (fun c3 => ?_) (fun c3 => ?_)
  · replace h := h.1 c3
    refine lv_aload_n hx hb dX6_call_17 rfl (lv_at hl 0 rfl) ?_
    refine rk_getr hx hb hts inlX6 hown hK hP hk_j0a cl_6 0 1 fq_6_0 q_1_15 rfl dX6_call_18 ?_
    refine rk_getr hx hb hts inlX4 hown hK hP (ky_6_0 hk_j0a) cl_4 1 10 fq_4_1 q_8_11 rfl dX6_call_21 ?_
    refine lv_iload_n hx hb dX6_call_24 rfl (lv_at hl 1 rfl) ?_
    refine rc_Vi (As := [.int x1a]) (rest := []) ⟨hx, hb, hml, hown, hts⟩ (mX1_canCall l G ((j0a + 1) + 10) x1a M1 _ (ky_4_1 (ky_6_0 hk_j0a)) h) (cwV 1 hts (gV_X1_canCall q_12_21) rfl rfl rfl hdV_X1_canCall ⟨Nat.le_of_ble_eq_true rfl, Nat.le_of_ble_eq_true rfl⟩) hK hP hS (ky_4_1 (ky_6_0 hk_j0a)) (by decide) cl_1 rfl hl.1 rfl (Nat.le_of_ble_eq_true rfl) dX6_call_25 ⟨Nat.zero_le _, Nat.zero_le _⟩ (fun r5 M4 H locs h hP hS => ?_)
    refine lv_if_ne (tgt := 34) hx hb dX6_call_28 (by decide) (fun c6 => ?_) (fun c6 => ?_)
    · replace h := h.1 c6
      refine lv_aload_n hx hb dX6_call_34 rfl (lv_at hl 0 rfl) ?_
      refine rk_getr hx hb hts inlX6 hown hK hP hk_j0a cl_6 2 47 fq_6_2 q_1_20 rfl dX6_call_35 ?_
      refine lv_aload_n hx hb dX6_call_38 rfl (lv_at hl 0 rfl) ?_
      refine rk_getr hx hb hts inlX6 hown hK hP hk_j0a cl_6 0 1 fq_6_0 q_1_15 rfl dX6_call_39 ?_
      refine rc_Vv (As := [.ref (G.2.1 + (j0a + 1))]) (rest := []) ⟨hx, hb, hml, hown, hts⟩ (mX2_record l G (j0a + 47) (j0a + 1) M4 _ (ky_6_2 hk_j0a) (ky_6_0 hk_j0a) h) (cwV 1 hts (gV_X2_record q_5_11) rfl rfl rfl hdV_X2_record ⟨Nat.le_of_ble_eq_true rfl, Nat.le_of_ble_eq_true rfl⟩) hK hP hS (ky_6_2 hk_j0a) (by decide) cl_2 rfl hl.1 rfl (Nat.le_of_ble_eq_true rfl) dX6_call_42 ⟨Nat.zero_le _, Nat.zero_le _⟩ (fun M7 H locs h hP hS => ?_)
      refine lv_aload_n hx hb dX6_call_45 rfl (lv_at hl 0 rfl) ?_
      refine rk_getr hx hb hts inlX6 hown hK hP hk_j0a cl_6 0 1 fq_6_0 q_1_15 rfl dX6_call_46 ?_
      refine rk_getr hx hb hts inlX4 hown hK hP (ky_6_0 hk_j0a) cl_4 1 10 fq_4_1 q_8_11 rfl dX6_call_49 ?_
      refine lv_iload_n hx hb dX6_call_52 rfl (lv_at hl 1 rfl) ?_
      refine rc_Vi (As := [.int x1a]) (rest := []) ⟨hx, hb, hml, hown, hts⟩ (mX1_beginCall l G ((j0a + 1) + 10) x1a M7 _ (ky_4_1 (ky_6_0 hk_j0a)) h) (cwV 1 hts (gV_X1_beginCall q_13_9) rfl rfl rfl hdV_X1_beginCall ⟨Nat.le_of_ble_eq_true rfl, Nat.le_of_ble_eq_true rfl⟩) hK hP hS (ky_4_1 (ky_6_0 hk_j0a)) (by decide) cl_1 rfl hl.1 rfl (Nat.le_of_ble_eq_true rfl) dX6_call_53 ⟨Nat.zero_le _, Nat.zero_le _⟩ (fun r10 M9 H locs h hP hS => ?_)
      exact re_i hx hb hr hlocks hP hS h dX6_call_56
    · replace h := h.2 c6
      refine lv_ldc hx hb hown (hts _ q_9_2) dX6_call_31 ?_
      exact re_i hx hb hr hlocks hP hS h dX6_call_33
  · replace h := h.2 c3
    refine lv_ldc hx hb hown (hts _ q_5_1) dX6_call_14 ?_
    exact re_i hx hb hr hlocks hP hS h dX6_call_16
set_option maxHeartbeats 4000000 in
set_option maxRecDepth 100000 in
theorem mX6_turn (l : Launch) (G : Gp) (j0a : Nat) (x1a : Int32) (x2a : Int32) (M : Mm) (Post : Mm → Int32 → Prop) (hk_j0a : kd j0a = 6) (h : wX6_turn Post M j0a x1a x2a) : CtI l yX6_turn wsX6_turn rX6_turn G [.ref (G.2.1 + j0a), .int x1a, .int x2a] M Post := by
  refine Met.ofW (cc := cX6_turn) (maxL := 3) (ret := (some .int)) (by decide) rfl ?_
  intro p e s m args below meth c s₁ B hml hv
  obtain ⟨rfl, hK, hP⟩ := hv
  have hx := B.exec
  have hb := B.bytes
  have hr := B.returns
  have hlocks := B.notSynchronized
  have hts0 := atoms_spec (ws := wsX6_turn) B.pre
  have hts : ∀ w ∈ wsL_law, w.before _ s = true := fun w hw => hts0 w (List.mem_cons_of_mem _ hw)
  have hown : s.vm.findClass RX6 = some m.cls := findClass_of_methodNamed B.named
  have hS : va_S (Fr G) s.heap s.heap [] := va_S.rf
  have hl := lv_entry ([.ref (G.2.1 + j0a), .int x1a, .int x2a]) (n := 3) (Nat.le_of_ble_eq_true rfl)
  rw [lg_entry_eq]
  generalize (lg_sl ([.ref (G.2.1 + j0a), .int x1a, .int x2a]) ++ List.replicate (3 - (lg_sl ([.ref (G.2.1 + j0a), .int x1a, .int x2a])).length) Slot.unset).toArray = ls at hl ⊢
  have hl : lv_has ls 3 [(0, .ref (G.2.1 + j0a)), (1, .int x1a), (2, .int x2a)] := hl
  unfold wX6_turn at h
  refine lv_aload_n hx hb dX6_turn_0 rfl (lv_at hl 0 rfl) ?_
  refine rk_getr hx hb hts inlX6 hown hK hP hk_j0a cl_6 0 1 fq_6_0 q_1_15 rfl dX6_turn_1 ?_
  refine rk_getr hx hb hts inlX4 hown hK hP (ky_6_0 hk_j0a) cl_4 0 1 fq_4_0 q_5_0 rfl dX6_turn_4 ?_
  refine lv_iload_n hx hb dX6_turn_7 rfl (lv_at hl 1 rfl) ?_
  refine rc_Vi (As := [.int x1a]) (rest := []) ⟨hx, hb, hml, hown, hts⟩ (mX0_areGates l G ((j0a + 1) + 1) x1a M _ (ky_4_0 (ky_6_0 hk_j0a)) h) (cwV 1 hts (gV_X0_areGates q_15_5) rfl rfl rfl hdV_X0_areGates ⟨Nat.le_of_ble_eq_true rfl, Nat.le_of_ble_eq_true rfl⟩) hK hP hS (ky_4_0 (ky_6_0 hk_j0a)) (by decide) cl_0 rfl hl.1 rfl (Nat.le_of_ble_eq_true rfl) dX6_turn_8 ⟨Nat.zero_le _, Nat.zero_le _⟩ (fun r2 M1 H locs h hP hS => ?_)
  refine lv_if_eq (tgt := 24) hx hb dX6_turn_11 (by decide) (fun c3 => ?_) (fun c3 => ?_)
  · replace h := h.1 c3
    refine lv_ldc hx hb hown (hts _ q_5_1) dX6_turn_24 ?_
    exact re_i hx hb hr hlocks hP hS h dX6_turn_26
  · replace h := h.2 c3
    refine lv_iload_n hx hb dX6_turn_14 rfl (lv_at hl 2 rfl) ?_
    refine lv_iconst (v := (1 : Int32)) hx hb dX6_turn_15 k_iconst_1 ?_
    refine lv_bipush (v := (20 : Int32)) hx hb dX6_turn_16 k_bipush_20 ?_
    refine rc_Si (As := [.int x2a, .int (1 : Int32), .int (20 : Int32)]) (rest := []) ⟨hx, hb, hml, hown, hts⟩ (mX6_isOutside l G x2a (1 : Int32) (20 : Int32) M1 _ h) (va_cwS 3 hts (gS_X6_isOutside q_5_8) rfl rfl rfl hdS_X6_isOutside ⟨Nat.le_of_ble_eq_true rfl, Nat.le_of_ble_eq_true rfl⟩) hK hP hS rfl hl.1 rfl (Nat.le_of_ble_eq_true rfl) dX6_turn_18 ⟨Nat.zero_le _, Nat.zero_le _⟩ (fun r5 M4 H locs h hP hS => ?_)
    refine lv_if_eq (tgt := 27) hx hb dX6_turn_21 (by decide) (fun c6 => ?_) (fun c6 => ?_)
    · replace h := h.1 c6
      refine lv_aload_n hx hb dX6_turn_27 rfl (lv_at hl 0 rfl) ?_
      refine rk_getr hx hb hts inlX6 hown hK hP hk_j0a cl_6 0 1 fq_6_0 q_1_15 rfl dX6_turn_28 ?_
      refine rk_getr hx hb hts inlX4 hown hK hP (ky_6_0 hk_j0a) cl_4 2 18 fq_4_2 q_15_3 rfl dX6_turn_31 ?_
      refine rk_geti hx hb hts inlX5 hown hK hP (ky_4_2 (ky_6_0 hk_j0a)) cl_5 0 fq_5_0 q_15_4 rfl dX6_turn_34 ?_
      refine lv_bipush (v := (8 : Int32)) hx hb dX6_turn_37 k_bipush_8 ?_
      refine lv_icmp_lt (tgt := 45) hx hb dX6_turn_39 (by decide) (fun c7 => ?_) (fun c7 => ?_)
      · replace h := h.1 c7
        refine lv_aload_n hx hb dX6_turn_45 rfl (lv_at hl 0 rfl) ?_
        refine rk_getr hx hb hts inlX6 hown hK hP hk_j0a cl_6 2 47 fq_6_2 q_1_20 rfl dX6_turn_46 ?_
        refine lv_aload_n hx hb dX6_turn_49 rfl (lv_at hl 0 rfl) ?_
        refine rk_getr hx hb hts inlX6 hown hK hP hk_j0a cl_6 0 1 fq_6_0 q_1_15 rfl dX6_turn_50 ?_
        refine rc_Vv (As := [.ref (G.2.1 + (j0a + 1))]) (rest := []) ⟨hx, hb, hml, hown, hts⟩ (mX2_record l G (j0a + 47) (j0a + 1) M4 _ (ky_6_2 hk_j0a) (ky_6_0 hk_j0a) h) (cwV 1 hts (gV_X2_record q_5_11) rfl rfl rfl hdV_X2_record ⟨Nat.le_of_ble_eq_true rfl, Nat.le_of_ble_eq_true rfl⟩) hK hP hS (ky_6_2 hk_j0a) (by decide) cl_2 rfl hl.1 rfl (Nat.le_of_ble_eq_true rfl) dX6_turn_53 ⟨Nat.zero_le _, Nat.zero_le _⟩ (fun M8 H locs h hP hS => ?_)
        refine lv_aload_n hx hb dX6_turn_56 rfl (lv_at hl 0 rfl) ?_
        refine rk_getr hx hb hts inlX6 hown hK hP hk_j0a cl_6 0 1 fq_6_0 q_1_15 rfl dX6_turn_57 ?_
        refine rk_getr hx hb hts inlX4 hown hK hP (ky_6_0 hk_j0a) cl_4 2 18 fq_4_2 q_15_3 rfl dX6_turn_60 ?_
        refine lv_iload_n hx hb dX6_turn_63 rfl (lv_at hl 1 rfl) ?_
        refine lv_iload_n hx hb dX6_turn_64 rfl (lv_at hl 2 rfl) ?_
        refine rc_Vi (As := [.int x1a, .int x2a]) (rest := []) ⟨hx, hb, hml, hown, hts⟩ (mX5_add l G ((j0a + 1) + 18) x1a x2a M8 _ (ky_4_2 (ky_6_0 hk_j0a)) h) (cwV 2 hts (gV_X5_add q_15_13) rfl rfl rfl hdV_X5_add ⟨Nat.le_of_ble_eq_true rfl, Nat.le_of_ble_eq_true rfl⟩) hK hP hS (ky_4_2 (ky_6_0 hk_j0a)) (by decide) cl_5 rfl hl.1 rfl (Nat.le_of_ble_eq_true rfl) dX6_turn_65 ⟨Nat.zero_le _, Nat.zero_le _⟩ (fun r11 M10 H locs h hP hS => ?_)
        exact re_i hx hb hr hlocks hP hS h dX6_turn_68
      · replace h := h.2 c7
        refine lv_ldc hx hb hown (hts _ q_5_3) dX6_turn_42 ?_
        exact re_i hx hb hr hlocks hP hS h dX6_turn_44
    · replace h := h.2 c6
      refine lv_ldc hx hb hown (hts _ q_5_1) dX6_turn_24 ?_
      exact re_i hx hb hr hlocks hP hS h dX6_turn_26
set_option maxHeartbeats 4000000 in
set_option maxRecDepth 100000 in
theorem mX6_noTurns (l : Launch) (G : Gp) (j0a : Nat) (M : Mm) (Post : Mm → Int32 → Prop) (hk_j0a : kd j0a = 6) (h : wX6_noTurns Post M j0a) : CtI l yX6_noTurns wsX6_noTurns rX6_noTurns G [.ref (G.2.1 + j0a)] M Post := by
  refine Met.ofW (cc := cX6_noTurns) (maxL := 1) (ret := (some .int)) (by decide) rfl ?_
  intro p e s m args below meth c s₁ B hml hv
  obtain ⟨rfl, hK, hP⟩ := hv
  have hx := B.exec
  have hb := B.bytes
  have hr := B.returns
  have hlocks := B.notSynchronized
  have hts0 := atoms_spec (ws := wsX6_noTurns) B.pre
  have hts : ∀ w ∈ wsL_law, w.before _ s = true := fun w hw => hts0 w (List.mem_cons_of_mem _ hw)
  have hown : s.vm.findClass RX6 = some m.cls := findClass_of_methodNamed B.named
  have hS : va_S (Fr G) s.heap s.heap [] := va_S.rf
  have hl := lv_entry ([.ref (G.2.1 + j0a)]) (n := 1) (Nat.le_of_ble_eq_true rfl)
  rw [lg_entry_eq]
  generalize (lg_sl ([.ref (G.2.1 + j0a)]) ++ List.replicate (1 - (lg_sl ([.ref (G.2.1 + j0a)])).length) Slot.unset).toArray = ls at hl ⊢
  have hl : lv_has ls 1 [(0, .ref (G.2.1 + j0a))] := hl
  unfold wX6_noTurns at h
  refine lv_aload_n hx hb dX6_noTurns_0 rfl (lv_at hl 0 rfl) ?_
  refine rk_getr hx hb hts inlX6 hown hK hP hk_j0a cl_6 2 47 fq_6_2 q_1_20 rfl dX6_noTurns_1 ?_
  refine lv_aload_n hx hb dX6_noTurns_4 rfl (lv_at hl 0 rfl) ?_
  refine rk_getr hx hb hts inlX6 hown hK hP hk_j0a cl_6 0 1 fq_6_0 q_1_15 rfl dX6_noTurns_5 ?_
  refine rc_Vv (As := [.ref (G.2.1 + (j0a + 1))]) (rest := []) ⟨hx, hb, hml, hown, hts⟩ (mX2_record l G (j0a + 47) (j0a + 1) M _ (ky_6_2 hk_j0a) (ky_6_0 hk_j0a) h) (cwV 1 hts (gV_X2_record q_5_11) rfl rfl rfl hdV_X2_record ⟨Nat.le_of_ble_eq_true rfl, Nat.le_of_ble_eq_true rfl⟩) hK hP hS (ky_6_2 hk_j0a) (by decide) cl_2 rfl hl.1 rfl (Nat.le_of_ble_eq_true rfl) dX6_noTurns_8 ⟨Nat.zero_le _, Nat.zero_le _⟩ (fun M1 H locs h hP hS => ?_)
  refine lv_aload_n hx hb dX6_noTurns_11 rfl (lv_at hl 0 rfl) ?_
  refine rk_getr hx hb hts inlX6 hown hK hP hk_j0a cl_6 0 1 fq_6_0 q_1_15 rfl dX6_noTurns_12 ?_
  refine rk_getr hx hb hts inlX4 hown hK hP (ky_6_0 hk_j0a) cl_4 2 18 fq_4_2 q_15_3 rfl dX6_noTurns_15 ?_
  refine rc_Vi (As := []) (rest := []) ⟨hx, hb, hml, hown, hts⟩ (mX5_removeAll l G ((j0a + 1) + 18) M1 _ (ky_4_2 (ky_6_0 hk_j0a)) h) (cwV 0 hts (gV_X5_removeAll q_16_9) rfl rfl rfl hdV_X5_removeAll ⟨Nat.le_of_ble_eq_true rfl, Nat.le_of_ble_eq_true rfl⟩) hK hP hS (ky_4_2 (ky_6_0 hk_j0a)) (by decide) cl_5 rfl hl.1 rfl (Nat.le_of_ble_eq_true rfl) dX6_noTurns_18 ⟨Nat.zero_le _, Nat.zero_le _⟩ (fun r4 M3 H locs h hP hS => ?_)
  exact re_i hx hb hr hlocks hP hS h dX6_noTurns_21
set_option maxHeartbeats 4000000 in
set_option maxRecDepth 100000 in
theorem mX6_hour (l : Launch) (G : Gp) (j0a : Nat) (x1a : Int32) (M : Mm) (Post : Mm → Int32 → Prop) (hk_j0a : kd j0a = 6) (h : wX6_hour Post M j0a x1a) : CtI l yX6_hour wsX6_hour rX6_hour G [.ref (G.2.1 + j0a), .int x1a] M Post := by
  refine Met.ofW (cc := cX6_hour) (maxL := 2) (ret := (some .int)) (by decide) rfl ?_
  intro p e s m args below meth c s₁ B hml hv
  obtain ⟨rfl, hK, hP⟩ := hv
  have hx := B.exec
  have hb := B.bytes
  have hr := B.returns
  have hlocks := B.notSynchronized
  have hts0 := atoms_spec (ws := wsX6_hour) B.pre
  have hts : ∀ w ∈ wsL_law, w.before _ s = true := fun w hw => hts0 w (List.mem_cons_of_mem _ hw)
  have hown : s.vm.findClass RX6 = some m.cls := findClass_of_methodNamed B.named
  have hS : va_S (Fr G) s.heap s.heap [] := va_S.rf
  have hl := lv_entry ([.ref (G.2.1 + j0a), .int x1a]) (n := 2) (Nat.le_of_ble_eq_true rfl)
  rw [lg_entry_eq]
  generalize (lg_sl ([.ref (G.2.1 + j0a), .int x1a]) ++ List.replicate (2 - (lg_sl ([.ref (G.2.1 + j0a), .int x1a])).length) Slot.unset).toArray = ls at hl ⊢
  have hl : lv_has ls 2 [(0, .ref (G.2.1 + j0a)), (1, .int x1a)] := hl
  unfold wX6_hour at h
  refine lv_iload_n hx hb dX6_hour_0 rfl (lv_at hl 1 rfl) ?_
  refine lv_iconst (v := (0 : Int32)) hx hb dX6_hour_1 k_iconst_0 ?_
  refine lv_sipush (v := (999 : Int32)) hx hb dX6_hour_2 k_sipush_999 ?_
  refine rc_Si (As := [.int x1a, .int (0 : Int32), .int (999 : Int32)]) (rest := []) ⟨hx, hb, hml, hown, hts⟩ (mX6_isOutside l G x1a (0 : Int32) (999 : Int32) M _ h) (va_cwS 3 hts (gS_X6_isOutside q_5_8) rfl rfl rfl hdS_X6_isOutside ⟨Nat.le_of_ble_eq_true rfl, Nat.le_of_ble_eq_true rfl⟩) hK hP hS rfl hl.1 rfl (Nat.le_of_ble_eq_true rfl) dX6_hour_5 ⟨Nat.zero_le _, Nat.zero_le _⟩ (fun r2 M1 H locs h hP hS => ?_)
  refine lv_if_eq (tgt := 14) hx hb dX6_hour_8 (by decide) (fun c3 => ?_) (fun c3 => ?_)
  · replace h := h.1 c3
    refine lv_aload_n hx hb dX6_hour_14 rfl (lv_at hl 0 rfl) ?_
    refine rk_getr hx hb hts inlX6 hown hK hP hk_j0a cl_6 0 1 fq_6_0 q_1_15 rfl dX6_hour_15 ?_
    refine lv_iconst (v := (1 : Int32)) hx hb dX6_hour_18 k_iconst_1 ?_
    refine rc_Vi (As := [.int (1 : Int32)]) (rest := []) ⟨hx, hb, hml, hown, hts⟩ (mX4_hasHoursLeft l G (j0a + 1) (1 : Int32) M1 _ (ky_6_0 hk_j0a) h) (cwV 1 hts (gV_X4_hasHoursLeft q_16_21) rfl rfl rfl hdV_X4_hasHoursLeft ⟨Nat.le_of_ble_eq_true rfl, Nat.le_of_ble_eq_true rfl⟩) hK hP hS (ky_6_0 hk_j0a) (by decide) cl_4 rfl hl.1 rfl (Nat.le_of_ble_eq_true rfl) dX6_hour_19 ⟨Nat.zero_le _, Nat.zero_le _⟩ (fun r5 M4 H locs h hP hS => ?_)
    refine lv_if_ne (tgt := 28) hx hb dX6_hour_22 (by decide) (fun c6 => ?_) (fun c6 => ?_)
    · replace h := h.1 c6
      refine lv_aload_n hx hb dX6_hour_28 rfl (lv_at hl 0 rfl) ?_
      refine rk_getr hx hb hts inlX6 hown hK hP hk_j0a cl_6 2 47 fq_6_2 q_1_20 rfl dX6_hour_29 ?_
      refine lv_aload_n hx hb dX6_hour_32 rfl (lv_at hl 0 rfl) ?_
      refine rk_getr hx hb hts inlX6 hown hK hP hk_j0a cl_6 0 1 fq_6_0 q_1_15 rfl dX6_hour_33 ?_
      refine rc_Vv (As := [.ref (G.2.1 + (j0a + 1))]) (rest := []) ⟨hx, hb, hml, hown, hts⟩ (mX2_record l G (j0a + 47) (j0a + 1) M4 _ (ky_6_2 hk_j0a) (ky_6_0 hk_j0a) h) (cwV 1 hts (gV_X2_record q_5_11) rfl rfl rfl hdV_X2_record ⟨Nat.le_of_ble_eq_true rfl, Nat.le_of_ble_eq_true rfl⟩) hK hP hS (ky_6_2 hk_j0a) (by decide) cl_2 rfl hl.1 rfl (Nat.le_of_ble_eq_true rfl) dX6_hour_36 ⟨Nat.zero_le _, Nat.zero_le _⟩ (fun M7 H locs h hP hS => ?_)
      refine lv_aload_n hx hb dX6_hour_39 rfl (lv_at hl 0 rfl) ?_
      refine rk_getr hx hb hts inlX6 hown hK hP hk_j0a cl_6 0 1 fq_6_0 q_1_15 rfl dX6_hour_40 ?_
      refine lv_iload_n hx hb dX6_hour_43 rfl (lv_at hl 1 rfl) ?_
      refine rc_Vi (As := [.int x1a]) (rest := []) ⟨hx, hb, hml, hown, hts⟩ (mX4_passHour l G (j0a + 1) x1a M7 _ (ky_6_0 hk_j0a) h) (cwV 1 hts (gV_X4_passHour q_17_1) rfl rfl rfl hdV_X4_passHour ⟨Nat.le_of_ble_eq_true rfl, Nat.le_of_ble_eq_true rfl⟩) hK hP hS (ky_6_0 hk_j0a) (by decide) cl_4 rfl hl.1 rfl (Nat.le_of_ble_eq_true rfl) dX6_hour_44 ⟨Nat.zero_le _, Nat.zero_le _⟩ (fun r10 M9 H locs h hP hS => ?_)
      exact re_i hx hb hr hlocks hP hS h dX6_hour_47
    · replace h := h.2 c6
      refine lv_ldc hx hb hown (hts _ q_5_3) dX6_hour_25 ?_
      exact re_i hx hb hr hlocks hP hS h dX6_hour_27
  · replace h := h.2 c3
    refine lv_ldc hx hb hown (hts _ q_5_1) dX6_hour_11 ?_
    exact re_i hx hb hr hlocks hP hS h dX6_hour_13
set_option maxHeartbeats 4000000 in
set_option maxRecDepth 100000 in
theorem mX6_run (l : Launch) (G : Gp) (j0a : Nat) (x1a : Int32) (x2a : Int32) (M : Mm) (Post : Mm → Int32 → Prop) (hk_j0a : kd j0a = 6) (h : wX6_run Post M j0a x1a x2a) : CtI l yX6_run wsX6_run rX6_run G [.ref (G.2.1 + j0a), .int x1a, .int x2a] M Post := by
  refine Met.ofW (cc := cX6_run) (maxL := 3) (ret := (some .int)) (by decide) rfl ?_
  intro p e s m args below meth c s₁ B hml hv
  obtain ⟨rfl, hK, hP⟩ := hv
  have hx := B.exec
  have hb := B.bytes
  have hr := B.returns
  have hlocks := B.notSynchronized
  have hts0 := atoms_spec (ws := wsX6_run) B.pre
  have hts : ∀ w ∈ wsL_law, w.before _ s = true := fun w hw => hts0 w (List.mem_cons_of_mem _ hw)
  have hown : s.vm.findClass RX6 = some m.cls := findClass_of_methodNamed B.named
  have hS : va_S (Fr G) s.heap s.heap [] := va_S.rf
  have hl := lv_entry ([.ref (G.2.1 + j0a), .int x1a, .int x2a]) (n := 3) (Nat.le_of_ble_eq_true rfl)
  rw [lg_entry_eq]
  generalize (lg_sl ([.ref (G.2.1 + j0a), .int x1a, .int x2a]) ++ List.replicate (3 - (lg_sl ([.ref (G.2.1 + j0a), .int x1a, .int x2a])).length) Slot.unset).toArray = ls at hl ⊢
  have hl : lv_has ls 3 [(0, .ref (G.2.1 + j0a)), (1, .int x1a), (2, .int x2a)] := hl
  unfold wX6_run at h
  refine lv_iload_n hx hb dX6_run_0 rfl (lv_at hl 1 rfl) ?_
  refine lv_iconst (v := (1 : Int32)) hx hb dX6_run_1 k_iconst_1 ?_
  refine lv_bipush (v := (100 : Int32)) hx hb dX6_run_2 k_bipush_100 ?_
  refine rc_Si (As := [.int x1a, .int (1 : Int32), .int (100 : Int32)]) (rest := []) ⟨hx, hb, hml, hown, hts⟩ (mX6_isOutside l G x1a (1 : Int32) (100 : Int32) M _ h) (va_cwS 3 hts (gS_X6_isOutside q_5_8) rfl rfl rfl hdS_X6_isOutside ⟨Nat.le_of_ble_eq_true rfl, Nat.le_of_ble_eq_true rfl⟩) hK hP hS rfl hl.1 rfl (Nat.le_of_ble_eq_true rfl) dX6_run_4 ⟨Nat.zero_le _, Nat.zero_le _⟩ (fun r2 M1 H locs h hP hS => ?_)
  refine lv_if_ne (tgt := 21) hx hb dX6_run_7 (by decide) (fun c3 => ?_) (fun c3 => ?_)
  · replace h := h.1 c3
    refine lv_ldc hx hb hown (hts _ q_5_1) dX6_run_21 ?_
    exact re_i hx hb hr hlocks hP hS h dX6_run_23
  · replace h := h.2 c3
    refine lv_iload_n hx hb dX6_run_10 rfl (lv_at hl 2 rfl) ?_
    refine lv_iconst (v := (0 : Int32)) hx hb dX6_run_11 k_iconst_0 ?_
    refine lv_sipush (v := (999 : Int32)) hx hb dX6_run_12 k_sipush_999 ?_
    refine rc_Si (As := [.int x2a, .int (0 : Int32), .int (999 : Int32)]) (rest := []) ⟨hx, hb, hml, hown, hts⟩ (mX6_isOutside l G x2a (0 : Int32) (999 : Int32) M1 _ h) (va_cwS 3 hts (gS_X6_isOutside q_5_8) rfl rfl rfl hdS_X6_isOutside ⟨Nat.le_of_ble_eq_true rfl, Nat.le_of_ble_eq_true rfl⟩) hK hP hS rfl hl.1 rfl (Nat.le_of_ble_eq_true rfl) dX6_run_15 ⟨Nat.zero_le _, Nat.zero_le _⟩ (fun r5 M4 H locs h hP hS => ?_)
    refine lv_if_eq (tgt := 24) hx hb dX6_run_18 (by decide) (fun c6 => ?_) (fun c6 => ?_)
    · replace h := h.1 c6
      refine lv_aload_n hx hb dX6_run_24 rfl (lv_at hl 0 rfl) ?_
      refine rk_getr hx hb hts inlX6 hown hK hP hk_j0a cl_6 0 1 fq_6_0 q_1_15 rfl dX6_run_25 ?_
      refine lv_iload_n hx hb dX6_run_28 rfl (lv_at hl 1 rfl) ?_
      refine rc_Vi (As := [.int x1a]) (rest := []) ⟨hx, hb, hml, hown, hts⟩ (mX4_hasHoursLeft l G (j0a + 1) x1a M4 _ (ky_6_0 hk_j0a) h) (cwV 1 hts (gV_X4_hasHoursLeft q_16_21) rfl rfl rfl hdV_X4_hasHoursLeft ⟨Nat.le_of_ble_eq_true rfl, Nat.le_of_ble_eq_true rfl⟩) hK hP hS (ky_6_0 hk_j0a) (by decide) cl_4 rfl hl.1 rfl (Nat.le_of_ble_eq_true rfl) dX6_run_29 ⟨Nat.zero_le _, Nat.zero_le _⟩ (fun r8 M7 H locs h hP hS => ?_)
      refine lv_if_ne (tgt := 38) hx hb dX6_run_32 (by decide) (fun c9 => ?_) (fun c9 => ?_)
      · replace h := h.1 c9
        refine lv_aload_n hx hb dX6_run_38 rfl (lv_at hl 0 rfl) ?_
        refine rk_getr hx hb hts inlX6 hown hK hP hk_j0a cl_6 2 47 fq_6_2 q_1_20 rfl dX6_run_39 ?_
        refine lv_aload_n hx hb dX6_run_42 rfl (lv_at hl 0 rfl) ?_
        refine rk_getr hx hb hts inlX6 hown hK hP hk_j0a cl_6 0 1 fq_6_0 q_1_15 rfl dX6_run_43 ?_
        refine rc_Vv (As := [.ref (G.2.1 + (j0a + 1))]) (rest := []) ⟨hx, hb, hml, hown, hts⟩ (mX2_record l G (j0a + 47) (j0a + 1) M7 _ (ky_6_2 hk_j0a) (ky_6_0 hk_j0a) h) (cwV 1 hts (gV_X2_record q_5_11) rfl rfl rfl hdV_X2_record ⟨Nat.le_of_ble_eq_true rfl, Nat.le_of_ble_eq_true rfl⟩) hK hP hS (ky_6_2 hk_j0a) (by decide) cl_2 rfl hl.1 rfl (Nat.le_of_ble_eq_true rfl) dX6_run_46 ⟨Nat.zero_le _, Nat.zero_le _⟩ (fun M10 H locs h hP hS => ?_)
        refine lv_aload_n hx hb dX6_run_49 rfl (lv_at hl 0 rfl) ?_
        refine rk_getr hx hb hts inlX6 hown hK hP hk_j0a cl_6 0 1 fq_6_0 q_1_15 rfl dX6_run_50 ?_
        refine lv_iload_n hx hb dX6_run_53 rfl (lv_at hl 1 rfl) ?_
        refine lv_iload_n hx hb dX6_run_54 rfl (lv_at hl 2 rfl) ?_
        refine rc_Vi (As := [.int x1a, .int x2a]) (rest := []) ⟨hx, hb, hml, hown, hts⟩ (mX4_runHours l G (j0a + 1) x1a x2a M10 _ (ky_6_0 hk_j0a) h) (cwV 2 hts (gV_X4_runHours q_21_23) rfl rfl rfl hdV_X4_runHours ⟨Nat.le_of_ble_eq_true rfl, Nat.le_of_ble_eq_true rfl⟩) hK hP hS (ky_6_0 hk_j0a) (by decide) cl_4 rfl hl.1 rfl (Nat.le_of_ble_eq_true rfl) dX6_run_55 ⟨Nat.zero_le _, Nat.zero_le _⟩ (fun r13 M12 H locs h hP hS => ?_)
        exact re_i hx hb hr hlocks hP hS h dX6_run_58
      · replace h := h.2 c9
        refine lv_ldc hx hb hown (hts _ q_5_3) dX6_run_35 ?_
        exact re_i hx hb hr hlocks hP hS h dX6_run_37
    · replace h := h.2 c6
      refine lv_ldc hx hb hown (hts _ q_5_1) dX6_run_21 ?_
      exact re_i hx hb hr hlocks hP hS h dX6_run_23
set_option maxHeartbeats 4000000 in
set_option maxRecDepth 100000 in
theorem mX6_asNumber (l : Launch) (G : Gp) (x0a : Int32) (M : Mm) (Post : Mm → Int32 → Prop) (h : wX6_asNumber Post M x0a) : CtI l yX6_asNumber wsX6_asNumber rX6_asNumber G [.int x0a] M Post := by
  refine Met.ofW (cc := cX6_asNumber) (maxL := 1) (ret := (some .int)) (by decide) rfl ?_
  intro p e s m args below meth c s₁ B hml hv
  obtain ⟨rfl, hK, hP⟩ := hv
  have hx := B.exec
  have hb := B.bytes
  have hr := B.returns
  have hlocks := B.notSynchronized
  have hts0 := atoms_spec (ws := wsX6_asNumber) B.pre
  have hts : ∀ w ∈ wsL_law, w.before _ s = true := fun w hw => hts0 w (List.mem_cons_of_mem _ hw)
  have hown : s.vm.findClass RX6 = some m.cls := findClass_of_methodNamed B.named
  have hS : va_S (Fr G) s.heap s.heap [] := va_S.rf
  have hl := lv_entry ([.int x0a]) (n := 1) (Nat.le_of_ble_eq_true rfl)
  rw [lg_entry_eq]
  generalize (lg_sl ([.int x0a]) ++ List.replicate (1 - (lg_sl ([.int x0a])).length) Slot.unset).toArray = ls at hl ⊢
  have hl : lv_has ls 1 [(0, .int x0a)] := hl
  unfold wX6_asNumber at h
  refine lv_iload_n hx hb dX6_asNumber_0 rfl (lv_at hl 0 rfl) ?_
  refine lv_if_eq (tgt := 8) hx hb dX6_asNumber_1 (by decide) (fun c1 => ?_) (fun c1 => ?_)
  · replace h := h.1 c1
    refine lv_iconst (v := (0 : Int32)) hx hb dX6_asNumber_8 k_iconst_0 ?_
    exact re_i hx hb hr hlocks hP hS h dX6_asNumber_9
  · replace h := h.2 c1
    refine lv_iconst (v := (1 : Int32)) hx hb dX6_asNumber_4 k_iconst_1 ?_
    refine lv_goto (tgt := 9) hx hb dX6_asNumber_5 (by decide) ?_
    exact re_i hx hb hr hlocks hP hS h dX6_asNumber_9
set_option maxHeartbeats 4000000 in
set_option maxRecDepth 100000 in
theorem mX6_canalOf (l : Launch) (G : Gp) (j0a : Nat) (x1a : Int32) (x2a : Int32) (M : Mm) (Post : Mm → Int32 → Prop) (hk_j0a : kd j0a = 6) (h : wX6_canalOf Post M j0a x1a x2a) : CtI l yX6_canalOf wsX6_canalOf rX6_canalOf G [.ref (G.2.1 + j0a), .int x1a, .int x2a] M Post := by
  refine Met.ofW (cc := cX6_canalOf) (maxL := 4) (ret := (some .int)) (by decide) rfl ?_
  intro p e s m args below meth c s₁ B hml hv
  obtain ⟨rfl, hK, hP⟩ := hv
  have hx := B.exec
  have hb := B.bytes
  have hr := B.returns
  have hlocks := B.notSynchronized
  have hts0 := atoms_spec (ws := wsX6_canalOf) B.pre
  have hts : ∀ w ∈ wsL_law, w.before _ s = true := fun w hw => hts0 w (List.mem_cons_of_mem _ hw)
  have hown : s.vm.findClass RX6 = some m.cls := findClass_of_methodNamed B.named
  have hS : va_S (Fr G) s.heap s.heap [] := va_S.rf
  have hl := lv_entry ([.ref (G.2.1 + j0a), .int x1a, .int x2a]) (n := 4) (Nat.le_of_ble_eq_true rfl)
  rw [lg_entry_eq]
  generalize (lg_sl ([.ref (G.2.1 + j0a), .int x1a, .int x2a]) ++ List.replicate (4 - (lg_sl ([.ref (G.2.1 + j0a), .int x1a, .int x2a])).length) Slot.unset).toArray = ls at hl ⊢
  have hl : lv_has ls 4 [(0, .ref (G.2.1 + j0a)), (1, .int x1a), (2, .int x2a)] := hl
  unfold wX6_canalOf at h
  refine lv_aload_n hx hb dX6_canalOf_0 rfl (lv_at hl 0 rfl) ?_
  refine rk_getr hx hb hts inlX6 hown hK hP hk_j0a cl_6 0 1 fq_6_0 q_1_15 rfl dX6_canalOf_1 ?_
  refine rk_getr hx hb hts inlX4 hown hK hP (ky_6_0 hk_j0a) cl_4 0 1 fq_4_0 q_5_0 rfl dX6_canalOf_4 ?_
  refine lv_astore_n (lv' := [(3, .ref (G.2.1 + ((j0a + 1) + 1))), (0, .ref (G.2.1 + j0a)), (1, .int x1a), (2, .int x2a)]) hx hb dX6_canalOf_7 rfl hl (by decide) rfl (fun ls hl => ?_)
  refine lv_aload_n hx hb dX6_canalOf_8 rfl (lv_at hl 0 rfl) ?_
  refine lv_iload_n hx hb dX6_canalOf_9 rfl (lv_at hl 2 rfl) ?_
  refine rc_Vi (As := [.int x1a]) (rest := []) ⟨hx, hb, hml, hown, hts⟩ (mX0_has l G ((j0a + 1) + 1) x1a M _ (ky_4_0 (ky_6_0 hk_j0a)) h) (cwV 1 hts (gV_X0_has q_5_4) rfl rfl rfl hdV_X0_has ⟨Nat.le_of_ble_eq_true rfl, Nat.le_of_ble_eq_true rfl⟩) hK hP hS (ky_4_0 (ky_6_0 hk_j0a)) (by decide) cl_0 rfl hl.1 rfl (Nat.le_of_ble_eq_true rfl) dX6_canalOf_10 ⟨Nat.zero_le _, Nat.zero_le _⟩ (fun r2 M1 H locs h hP hS => ?_)
  refine lv_if_ne (tgt := 19) hx hb dX6_canalOf_13 (by decide) (fun c3 => ?_) (fun c3 => ?_)
  · replace h := h.1 c3
    refine lv_iload_n hx hb dX6_canalOf_19 rfl (lv_at hl 3 rfl) ?_
    by_cases c4 : x2a = (0 : Int32)
    · replace h := h.1 c4
      refine lv_tableIn (off := 56) (tgt := 76) hx hb dX6_canalOf_20 (by rw [c4]; decide) (by rw [c4]; decide) (by rw [c4]; rfl) (by decide) ?_
      refine lv_iload_n hx hb dX6_canalOf_76 rfl (lv_at hl 2 rfl) ?_
      refine lv_if_ne (tgt := 85) hx hb dX6_canalOf_77 (by decide) (fun c5 => ?_) (fun c5 => ?_)
      · replace h := h.1 c5
        refine lv_aload_n hx hb dX6_canalOf_85 rfl (lv_at hl 0 rfl) ?_
        refine rk_getr hx hb hts inlX0 hown hK hP (ky_4_0 (ky_6_0 hk_j0a)) cl_0 2 1 fq_0_2 q_23_10 rfl dX6_canalOf_86 ?_
        refine lv_iload_n hx hb dX6_canalOf_89 rfl (lv_at hl 2 rfl) ?_
        refine rk_iald hx hb hK hP (ky_0_2 (ky_4_0 (ky_6_0 hk_j0a))) ac_8 _ rfl h.1 dX6_canalOf_90 ?_
        replace h := h.2
        exact re_i hx hb hr hlocks hP hS h dX6_canalOf_91
      · replace h := h.2 c5
        refine lv_ldc hx hb hown (hts _ q_23_9) dX6_canalOf_80 ?_
        refine lv_goto (tgt := 91) hx hb dX6_canalOf_82 (by decide) ?_
        exact re_i hx hb hr hlocks hP hS h dX6_canalOf_91
    replace h := h.2 c4
    by_cases c6 : x2a = (1 : Int32)
    · replace h := h.1 c6
      refine lv_tableIn (off := 72) (tgt := 92) hx hb dX6_canalOf_20 (by rw [c6]; decide) (by rw [c6]; decide) (by rw [c6]; rfl) (by decide) ?_
      refine lv_iload_n hx hb dX6_canalOf_92 rfl (lv_at hl 2 rfl) ?_
      refine lv_if_ne (tgt := 101) hx hb dX6_canalOf_93 (by decide) (fun c7 => ?_) (fun c7 => ?_)
      · replace h := h.1 c7
        refine lv_aload_n hx hb dX6_canalOf_101 rfl (lv_at hl 0 rfl) ?_
        refine rk_getr hx hb hts inlX0 hown hK hP (ky_4_0 (ky_6_0 hk_j0a)) cl_0 3 2 fq_0_3 q_9_1 rfl dX6_canalOf_102 ?_
        refine lv_iload_n hx hb dX6_canalOf_105 rfl (lv_at hl 2 rfl) ?_
        refine rk_iald hx hb hK hP (ky_0_3 (ky_4_0 (ky_6_0 hk_j0a))) ac_8 _ rfl h.1 dX6_canalOf_106 ?_
        replace h := h.2
        exact re_i hx hb hr hlocks hP hS h dX6_canalOf_107
      · replace h := h.2 c7
        refine lv_ldc hx hb hown (hts _ q_23_9) dX6_canalOf_96 ?_
        refine lv_goto (tgt := 107) hx hb dX6_canalOf_98 (by decide) ?_
        exact re_i hx hb hr hlocks hP hS h dX6_canalOf_107
    replace h := h.2 c6
    by_cases c8 : x2a = (2 : Int32)
    · replace h := h.1 c8
      refine lv_tableIn (off := 88) (tgt := 108) hx hb dX6_canalOf_20 (by rw [c8]; decide) (by rw [c8]; decide) (by rw [c8]; rfl) (by decide) ?_
      refine lv_aload_n hx hb dX6_canalOf_108 rfl (lv_at hl 0 rfl) ?_
      refine rk_getr hx hb hts inlX0 hown hK hP (ky_4_0 (ky_6_0 hk_j0a)) cl_0 4 3 fq_0_4 q_23_11 rfl dX6_canalOf_109 ?_
      refine lv_iload_n hx hb dX6_canalOf_112 rfl (lv_at hl 2 rfl) ?_
      refine rk_iald hx hb hK hP (ky_0_4 (ky_4_0 (ky_6_0 hk_j0a))) ac_8 _ rfl h.1 dX6_canalOf_113 ?_
      replace h := h.2
      exact re_i hx hb hr hlocks hP hS h dX6_canalOf_114
    replace h := h.2 c8
    by_cases c9 : x2a = (3 : Int32)
    · replace h := h.1 c9
      refine lv_tableIn (off := 95) (tgt := 115) hx hb dX6_canalOf_20 (by rw [c9]; decide) (by rw [c9]; decide) (by rw [c9]; rfl) (by decide) ?_
      refine lv_aload_n hx hb dX6_canalOf_115 rfl (lv_at hl 0 rfl) ?_
      refine rk_getr hx hb hts inlX0 hown hK hP (ky_4_0 (ky_6_0 hk_j0a)) cl_0 5 4 fq_0_5 q_23_12 rfl dX6_canalOf_116 ?_
      refine lv_iload_n hx hb dX6_canalOf_119 rfl (lv_at hl 2 rfl) ?_
      refine rk_iald hx hb hK hP (ky_0_5 (ky_4_0 (ky_6_0 hk_j0a))) ac_8 _ rfl h.1 dX6_canalOf_120 ?_
      replace h := h.2
      exact re_i hx hb hr hlocks hP hS h dX6_canalOf_121
    replace h := h.2 c9
    by_cases c10 : x2a = (4 : Int32)
    · replace h := h.1 c10
      refine lv_tableIn (off := 102) (tgt := 122) hx hb dX6_canalOf_20 (by rw [c10]; decide) (by rw [c10]; decide) (by rw [c10]; rfl) (by decide) ?_
      refine lv_iload_n hx hb dX6_canalOf_122 rfl (lv_at hl 2 rfl) ?_
      refine lv_if_ne (tgt := 131) hx hb dX6_canalOf_123 (by decide) (fun c11 => ?_) (fun c11 => ?_)
      · replace h := h.1 c11
        refine lv_aload_n hx hb dX6_canalOf_131 rfl (lv_at hl 0 rfl) ?_
        refine lv_iload_n hx hb dX6_canalOf_132 rfl (lv_at hl 2 rfl) ?_
        refine rc_Vi (As := [.int x1a]) (rest := []) ⟨hx, hb, hml, hown, hts⟩ (mX0_isOpen l G ((j0a + 1) + 1) x1a M1 _ (ky_4_0 (ky_6_0 hk_j0a)) h) (cwV 1 hts (gV_X0_isOpen q_23_16) rfl rfl rfl hdV_X0_isOpen ⟨Nat.le_of_ble_eq_true rfl, Nat.le_of_ble_eq_true rfl⟩) hK hP hS (ky_4_0 (ky_6_0 hk_j0a)) (by decide) cl_0 rfl hl.1 rfl (Nat.le_of_ble_eq_true rfl) dX6_canalOf_133 ⟨Nat.zero_le _, Nat.zero_le _⟩ (fun r13 M12 H locs h hP hS => ?_)
        refine rc_Si (As := [.int r13]) (rest := []) ⟨hx, hb, hml, hown, hts⟩ (mX6_asNumber l G r13 M12 _ h) (va_cwS 1 hts (gS_X6_asNumber q_23_17) rfl rfl rfl hdS_X6_asNumber ⟨Nat.le_of_ble_eq_true rfl, Nat.le_of_ble_eq_true rfl⟩) hK hP hS rfl hl.1 rfl (Nat.le_of_ble_eq_true rfl) dX6_canalOf_136 ⟨Nat.zero_le _, Nat.zero_le _⟩ (fun r15 M14 H locs h hP hS => ?_)
        exact re_i hx hb hr hlocks hP hS h dX6_canalOf_139
      · replace h := h.2 c11
        refine lv_ldc hx hb hown (hts _ q_23_9) dX6_canalOf_126 ?_
        refine lv_goto (tgt := 139) hx hb dX6_canalOf_128 (by decide) ?_
        exact re_i hx hb hr hlocks hP hS h dX6_canalOf_139
    replace h := h.2 c10
    by_cases c16 : x2a = (5 : Int32)
    · replace h := h.1 c16
      refine lv_tableIn (off := 120) (tgt := 140) hx hb dX6_canalOf_20 (by rw [c16]; decide) (by rw [c16]; decide) (by rw [c16]; rfl) (by decide) ?_
      refine lv_aload_n hx hb dX6_canalOf_140 rfl (lv_at hl 0 rfl) ?_
      refine lv_iload_n hx hb dX6_canalOf_141 rfl (lv_at hl 2 rfl) ?_
      refine rc_Vi (As := [.int x1a]) (rest := []) ⟨hx, hb, hml, hown, hts⟩ (mX0_isTended l G ((j0a + 1) + 1) x1a M1 _ (ky_4_0 (ky_6_0 hk_j0a)) h) (cwV 1 hts (gV_X0_isTended q_9_8) rfl rfl rfl hdV_X0_isTended ⟨Nat.le_of_ble_eq_true rfl, Nat.le_of_ble_eq_true rfl⟩) hK hP hS (ky_4_0 (ky_6_0 hk_j0a)) (by decide) cl_0 rfl hl.1 rfl (Nat.le_of_ble_eq_true rfl) dX6_canalOf_142 ⟨Nat.zero_le _, Nat.zero_le _⟩ (fun r18 M17 H locs h hP hS => ?_)
      refine lv_if_eq (tgt := 157) hx hb dX6_canalOf_145 (by decide) (fun c19 => ?_) (fun c19 => ?_)
      · replace h := h.1 c19
        refine lv_ldc hx hb hown (hts _ q_23_9) dX6_canalOf_157 ?_
        exact re_i hx hb hr hlocks hP hS h dX6_canalOf_159
      · replace h := h.2 c19
        refine lv_aload_n hx hb dX6_canalOf_148 rfl (lv_at hl 0 rfl) ?_
        refine rk_getr hx hb hts inlX0 hown hK hP (ky_4_0 (ky_6_0 hk_j0a)) cl_0 6 5 fq_0_6 q_9_3 rfl dX6_canalOf_149 ?_
        refine lv_iload_n hx hb dX6_canalOf_152 rfl (lv_at hl 2 rfl) ?_
        refine rk_iald hx hb hK hP (ky_0_6 (ky_4_0 (ky_6_0 hk_j0a))) ac_8 _ rfl h.1 dX6_canalOf_153 ?_
        replace h := h.2
        refine lv_goto (tgt := 159) hx hb dX6_canalOf_154 (by decide) ?_
        exact re_i hx hb hr hlocks hP hS h dX6_canalOf_159
    replace h := h.2 c16
    by_cases c20 : x2a = (6 : Int32)
    · replace h := h.1 c20
      refine lv_tableIn (off := 140) (tgt := 160) hx hb dX6_canalOf_20 (by rw [c20]; decide) (by rw [c20]; decide) (by rw [c20]; rfl) (by decide) ?_
      refine lv_aload_n hx hb dX6_canalOf_160 rfl (lv_at hl 0 rfl) ?_
      refine lv_iload_n hx hb dX6_canalOf_161 rfl (lv_at hl 2 rfl) ?_
      refine rc_Vi (As := [.int x1a]) (rest := []) ⟨hx, hb, hml, hown, hts⟩ (mX0_below l G ((j0a + 1) + 1) x1a M1 _ (ky_4_0 (ky_6_0 hk_j0a)) h) (cwV 1 hts (gV_X0_below q_23_20) rfl rfl rfl hdV_X0_below ⟨Nat.le_of_ble_eq_true rfl, Nat.le_of_ble_eq_true rfl⟩) hK hP hS (ky_4_0 (ky_6_0 hk_j0a)) (by decide) cl_0 rfl hl.1 rfl (Nat.le_of_ble_eq_true rfl) dX6_canalOf_162 ⟨Nat.zero_le _, Nat.zero_le _⟩ (fun r22 M21 H locs h hP hS => ?_)
      exact re_i hx hb hr hlocks hP hS h dX6_canalOf_165
    replace h := h.2 c20
    by_cases c23 : x2a = (7 : Int32)
    · replace h := h.1 c23
      refine lv_tableIn (off := 146) (tgt := 166) hx hb dX6_canalOf_20 (by rw [c23]; decide) (by rw [c23]; decide) (by rw [c23]; rfl) (by decide) ?_
      refine lv_aload_n hx hb dX6_canalOf_166 rfl (lv_at hl 0 rfl) ?_
      refine rk_getr hx hb hts inlX0 hown hK hP (ky_4_0 (ky_6_0 hk_j0a)) cl_0 7 6 fq_0_7 q_23_13 rfl dX6_canalOf_167 ?_
      refine lv_iload_n hx hb dX6_canalOf_170 rfl (lv_at hl 2 rfl) ?_
      refine rk_iald hx hb hK hP (ky_0_7 (ky_4_0 (ky_6_0 hk_j0a))) ac_8 _ rfl h.1 dX6_canalOf_171 ?_
      replace h := h.2
      exact re_i hx hb hr hlocks hP hS h dX6_canalOf_172
    replace h := h.2 c23
    by_cases c24 : x2a = (8 : Int32)
    · replace h := h.1 c24
      refine lv_tableIn (off := 153) (tgt := 173) hx hb dX6_canalOf_20 (by rw [c24]; decide) (by rw [c24]; decide) (by rw [c24]; rfl) (by decide) ?_
      refine lv_aload_n hx hb dX6_canalOf_173 rfl (lv_at hl 0 rfl) ?_
      refine rk_getr hx hb hts inlX0 hown hK hP (ky_4_0 (ky_6_0 hk_j0a)) cl_0 8 7 fq_0_8 q_23_14 rfl dX6_canalOf_174 ?_
      refine lv_iload_n hx hb dX6_canalOf_177 rfl (lv_at hl 2 rfl) ?_
      refine rk_iald hx hb hK hP (ky_0_8 (ky_4_0 (ky_6_0 hk_j0a))) ac_8 _ rfl h.1 dX6_canalOf_178 ?_
      replace h := h.2
      exact re_i hx hb hr hlocks hP hS h dX6_canalOf_179
    replace h := h.2 c24
    by_cases c25 : x2a = (9 : Int32)
    · replace h := h.1 c25
      refine lv_tableIn (off := 160) (tgt := 180) hx hb dX6_canalOf_20 (by rw [c25]; decide) (by rw [c25]; decide) (by rw [c25]; rfl) (by decide) ?_
      refine lv_aload_n hx hb dX6_canalOf_180 rfl (lv_at hl 0 rfl) ?_
      refine rk_getr hx hb hts inlX0 hown hK hP (ky_4_0 (ky_6_0 hk_j0a)) cl_0 9 8 fq_0_9 q_23_15 rfl dX6_canalOf_181 ?_
      refine lv_iload_n hx hb dX6_canalOf_184 rfl (lv_at hl 2 rfl) ?_
      refine rk_iald hx hb hK hP (ky_0_9 (ky_4_0 (ky_6_0 hk_j0a))) ac_8 _ rfl h.1 dX6_canalOf_185 ?_
      replace h := h.2
      exact re_i hx hb hr hlocks hP hS h dX6_canalOf_186
    replace h := h.2 c25
    refine lv_tableOut (tgt := 187) hx hb dX6_canalOf_20 (by have gc4 := lv_neT c4 (show (0 : Int32).toInt = 0 from rfl); have gc6 := lv_neT c6 (show (1 : Int32).toInt = 1 from rfl); have gc8 := lv_neT c8 (show (2 : Int32).toInt = 2 from rfl); have gc9 := lv_neT c9 (show (3 : Int32).toInt = 3 from rfl); have gc10 := lv_neT c10 (show (4 : Int32).toInt = 4 from rfl); have gc16 := lv_neT c16 (show (5 : Int32).toInt = 5 from rfl); have gc20 := lv_neT c20 (show (6 : Int32).toInt = 6 from rfl); have gc23 := lv_neT c23 (show (7 : Int32).toInt = 7 from rfl); have gc24 := lv_neT c24 (show (8 : Int32).toInt = 8 from rfl); have gc25 := lv_neT c25 (show (9 : Int32).toInt = 9 from rfl); omega) (by decide) ?_
    refine lv_ldc hx hb hown (hts _ q_5_1) dX6_canalOf_187 ?_
    exact re_i hx hb hr hlocks hP hS h dX6_canalOf_189
  · replace h := h.2 c3
    refine lv_ldc hx hb hown (hts _ q_5_1) dX6_canalOf_16 ?_
    exact re_i hx hb hr hlocks hP hS h dX6_canalOf_18
