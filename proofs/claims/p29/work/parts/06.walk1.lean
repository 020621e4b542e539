/-! the walks: each method keeps its predicate; printed by gen.py -/
set_option maxHeartbeats 4000000 in
set_option maxRecDepth 100000 in
theorem mX1_beginCall (l : Launch) (G : Gp) (j0a : Nat) (x1a : Int32) (M : Mm) (Post : Mm → Int32 → Prop) (hk_j0a : kd j0a = 1) (h : wX1_beginCall Post M j0a x1a) : CtI l yX1_beginCall wsX1_beginCall rX1_beginCall G [.ref (G.2.1 + j0a), .int x1a] M Post := by
  refine Met.ofW (cc := cX1_beginCall) (maxL := 2) (ret := (some .int)) (by decide) rfl ?_
  intro p e s m args below meth c s₁ B hml hv
  obtain ⟨rfl, hK, hP⟩ := hv
  have hx := B.exec
  have hb := B.bytes
  have hr := B.returns
  have hlocks := B.notSynchronized
  have hts0 := atoms_spec (ws := wsX1_beginCall) B.pre
  have hts : ∀ w ∈ wsL_law, w.before _ s = true := fun w hw => hts0 w (List.mem_cons_of_mem _ hw)
  have hown : s.vm.findClass RX1 = some m.cls := findClass_of_methodNamed B.named
  have hS : va_S (Fr G) s.heap s.heap [] := va_S.rf
  have hl := lv_entry ([.ref (G.2.1 + j0a), .int x1a]) (n := 2) (Nat.le_of_ble_eq_true rfl)
  rw [lg_entry_eq]
  generalize (lg_sl ([.ref (G.2.1 + j0a), .int x1a]) ++ List.replicate (2 - (lg_sl ([.ref (G.2.1 + j0a), .int x1a])).length) Slot.unset).toArray = ls at hl ⊢
  have hl : lv_has ls 2 [(0, .ref (G.2.1 + j0a)), (1, .int x1a)] := hl
  unfold wX1_beginCall at h
  refine lv_aload_n hx hb dX1_beginCall_0 rfl (lv_at hl 0 rfl) ?_
  refine lv_dup hx hb dX1_beginCall_1 rfl ?_
  refine rk_geti hx hb hts inlX1 hown hK hP hk_j0a cl_1 1 fq_1_1 q_7_4 rfl dX1_beginCall_2 ?_
  refine lv_iconst (v := (1 : Int32)) hx hb dX1_beginCall_5 k_iconst_1 ?_
  refine lv_iload_n hx hb dX1_beginCall_6 rfl (lv_at hl 1 rfl) ?_
  refine lv_ishl hx hb dX1_beginCall_7 ?_
  refine lv_ior hx hb dX1_beginCall_8 ?_
  refine rk_puti hx hb hts inlX1 tyX1 tyX1_ok nmX1 hown hK hP hS hk_j0a cl_1 1 fq_1_1 q_7_4 rfl rfl rfl dX1_beginCall_9 (fun M1 eM1 H locs hP hS => ?_)
  replace h := h M1 eM1
  refine lv_aload_n hx hb dX1_beginCall_12 rfl (lv_at hl 0 rfl) ?_
  refine rk_geti hx hb hts inlX1 hown hK hP hk_j0a cl_1 1 fq_1_1 q_7_4 rfl dX1_beginCall_13 ?_
  refine rc_Si (As := [.int (M1 j0a 1)]) (rest := []) ⟨hx, hb, hml, hown, hts⟩ (mJ6_bitCount_0f7a4 l G (M1 j0a 1) M1 _ h) (va_cwS 1 hts (gS_J6_bitCount_0f7a4 q_13_8) rfl rfl rfl hdS_J6_bitCount_0f7a4 ⟨Nat.le_of_ble_eq_true rfl, Nat.le_of_ble_eq_true rfl⟩) hK hP hS rfl hl.1 rfl (Nat.le_of_ble_eq_true rfl) dX1_beginCall_16 ⟨Nat.zero_le _, Nat.zero_le _⟩ (fun r3 M2 H locs h hP hS => ?_)
  exact re_i hx hb hr hlocks hP hS h dX1_beginCall_19
set_option maxHeartbeats 4000000 in
set_option maxRecDepth 100000 in
theorem mX1_give (l : Launch) (G : Gp) (j0a : Nat) (x1a : Int32) (x2a : Int32) (x3a : Int32) (M : Mm) (Post : Mm → Int32 → Prop) (hk_j0a : kd j0a = 1) (h : wX1_give Post M j0a x1a x2a x3a) : CtI l yX1_give wsX1_give rX1_give G [.ref (G.2.1 + j0a), .int x1a, .int x2a, .int x3a] M Post := by
  refine Met.ofW (cc := cX1_give) (maxL := 5) (ret := (some .int)) (by decide) rfl ?_
  intro p e s m args below meth c s₁ B hml hv
  obtain ⟨rfl, hK, hP⟩ := hv
  have hx := B.exec
  have hb := B.bytes
  have hr := B.returns
  have hlocks := B.notSynchronized
  have hts0 := atoms_spec (ws := wsX1_give) B.pre
  have hts : ∀ w ∈ wsL_law, w.before _ s = true := fun w hw => hts0 w (List.mem_cons_of_mem _ hw)
  have hown : s.vm.findClass RX1 = some m.cls := findClass_of_methodNamed B.named
  have hS : va_S (Fr G) s.heap s.heap [] := va_S.rf
  have hl := lv_entry ([.ref (G.2.1 + j0a), .int x1a, .int x2a, .int x3a]) (n := 5) (Nat.le_of_ble_eq_true rfl)
  rw [lg_entry_eq]
  generalize (lg_sl ([.ref (G.2.1 + j0a), .int x1a, .int x2a, .int x3a]) ++ List.replicate (5 - (lg_sl ([.ref (G.2.1 + j0a), .int x1a, .int x2a, .int x3a])).length) Slot.unset).toArray = ls at hl ⊢
  have hl : lv_has ls 5 [(0, .ref (G.2.1 + j0a)), (1, .int x1a), (2, .int x2a), (3, .int x3a)] := hl
  unfold wX1_give at h
  refine lv_iload_n hx hb dX1_give_0 rfl (lv_at hl 2 rfl) ?_
  refine lv_aload_n hx hb dX1_give_1 rfl (lv_at hl 0 rfl) ?_
  refine rk_getr hx hb hts inlX1 hown hK hP hk_j0a cl_1 4 3 fq_1_4 q_3_10 rfl dX1_give_2 ?_
  refine lv_iload_n hx hb dX1_give_5 rfl (lv_at hl 1 rfl) ?_
  refine rk_iald hx hb hK hP (ky_1_4 hk_j0a) ac_9 _ rfl h.1 dX1_give_6 ?_
  replace h := h.2
  refine lv_aload_n hx hb dX1_give_7 rfl (lv_at hl 0 rfl) ?_
  refine rk_getr hx hb hts inlX1 hown hK hP hk_j0a cl_1 3 2 fq_1_3 q_3_9 rfl dX1_give_8 ?_
  refine lv_iload_n hx hb dX1_give_11 rfl (lv_at hl 1 rfl) ?_
  refine rk_iald hx hb hK hP (ky_1_3 hk_j0a) ac_9 _ rfl h.1 dX1_give_12 ?_
  replace h := h.2
  refine lv_aload_n hx hb dX1_give_13 rfl (lv_at hl 0 rfl) ?_
  refine rk_getr hx hb hts inlX1 hown hK hP hk_j0a cl_1 6 5 fq_1_6 q_3_12 rfl dX1_give_14 ?_
  refine lv_iload_n hx hb dX1_give_17 rfl (lv_at hl 1 rfl) ?_
  refine rk_iald hx hb hK hP (ky_1_6 hk_j0a) ac_9 _ rfl h.1 dX1_give_18 ?_
  replace h := h.2
  refine lv_isub hx hb dX1_give_19 ?_
  refine rk_min hx hb (hml.trans hl.1.symm) hts hown q_16_13 q_7_16 q_7_17 q_7_18 (Nat.le_of_ble_eq_true rfl) (Nat.le_of_ble_eq_true rfl) ⟨Nat.zero_le _, Nat.zero_le _⟩ dX1_give_20 ?_
  refine rk_min hx hb (hml.trans hl.1.symm) hts hown q_16_13 q_7_16 q_7_17 q_7_18 (Nat.le_of_ble_eq_true rfl) (Nat.le_of_ble_eq_true rfl) ⟨Nat.zero_le _, Nat.zero_le _⟩ dX1_give_23 ?_
  refine lv_topi (fun x4_1 ex4_1 => ?_)
  replace h := h x4_1 ex4_1
  refine lv_istore (lv' := [(4, .int x4_1), (0, .ref (G.2.1 + j0a)), (1, .int x1a), (2, .int x2a), (3, .int x3a)]) hx hb dX1_give_26 hl (by decide) rfl (fun ls hl => ?_)
  refine lv_aload_n hx hb dX1_give_28 rfl (lv_at hl 1 rfl) ?_
  refine rk_getr hx hb hts inlX1 hown hK hP hk_j0a cl_1 6 5 fq_1_6 q_3_12 rfl dX1_give_29 ?_
  refine lv_iload_n hx hb dX1_give_32 rfl (lv_at hl 2 rfl) ?_
  refine lv_dup2_11 hx hb dX1_give_33 rfl rfl ?_
  refine rk_iald hx hb hK hP (ky_1_6 hk_j0a) ac_9 _ rfl h.1 dX1_give_34 ?_
  replace h := h.2
  refine lv_iload hx hb dX1_give_35 (lv_at hl 0 rfl) ?_
  refine lv_iadd hx hb dX1_give_37 ?_
  refine rk_iast hx hb hK hP hS (ky_1_6 hk_j0a) ac_9 _ rfl h.1 dX1_give_38 (fun M2 eM2 H locs hP hS => ?_)
  replace h := h.2
  replace h := h M2 eM2
  refine lv_aload_n hx hb dX1_give_39 rfl (lv_at hl 1 rfl) ?_
  refine rk_getr hx hb hts inlX1 hown hK hP hk_j0a cl_1 6 5 fq_1_6 q_3_12 rfl dX1_give_40 ?_
  refine lv_iload_n hx hb dX1_give_43 rfl (lv_at hl 2 rfl) ?_
  refine rk_iald hx hb hK hP (ky_1_6 hk_j0a) ac_9 _ rfl h.1 dX1_give_44 ?_
  replace h := h.2
  refine lv_aload_n hx hb dX1_give_45 rfl (lv_at hl 1 rfl) ?_
  refine rk_getr hx hb hts inlX1 hown hK hP hk_j0a cl_1 3 2 fq_1_3 q_3_9 rfl dX1_give_46 ?_
  refine lv_iload_n hx hb dX1_give_49 rfl (lv_at hl 2 rfl) ?_
  refine rk_iald hx hb hK hP (ky_1_3 hk_j0a) ac_9 _ rfl h.1 dX1_give_50 ?_
  replace h := h.2
  refine lv_icmp_lt (tgt := 61) hx hb dX1_give_51 (by decide) (fun c3 => ?_) (fun c3 => ?_)
  · replace h := h.1 c3
    refine lv_iload hx hb dX1_give_61 (lv_at hl 0 rfl) ?_
    exact re_i hx hb hr hlocks hP hS h dX1_give_63
  · replace h := h.2 c3
    refine lv_aload_n hx hb dX1_give_54 rfl (lv_at hl 1 rfl) ?_
    refine rk_getr hx hb hts inlX1 hown hK hP hk_j0a cl_1 7 6 fq_1_7 q_3_13 rfl dX1_give_55 ?_
    refine lv_iload_n hx hb dX1_give_58 rfl (lv_at hl 2 rfl) ?_
    refine lv_iload_n hx hb dX1_give_59 rfl (lv_at hl 4 rfl) ?_
    refine rk_iast hx hb hK hP hS (ky_1_7 hk_j0a) ac_9 _ rfl h.1 dX1_give_60 (fun M4 eM4 H locs hP hS => ?_)
    replace h := h.2
    replace h := h M4 eM4
    refine lv_iload hx hb dX1_give_61 (lv_at hl 0 rfl) ?_
    exact re_i hx hb hr hlocks hP hS h dX1_give_63
set_option maxHeartbeats 4000000 in
set_option maxRecDepth 100000 in
theorem mX2_dropOldest (l : Launch) (G : Gp) (j0a : Nat) (M : Mm) (Post : Mm → Prop) (hk_j0a : kd j0a = 2) (h : wX2_dropOldest Post M j0a) : CtV l yX2_dropOldest wsX2_dropOldest rX2_dropOldest G [.ref (G.2.1 + j0a)] M Post := by
  refine Met.ofW (cc := cX2_dropOldest) (maxL := 3) (ret := none) (by decide) rfl ?_
  intro p e s m args below meth c s₁ B hml hv
  obtain ⟨rfl, hK, hP⟩ := hv
  have hx := B.exec
  have hb := B.bytes
  have hr := B.returns
  have hlocks := B.notSynchronized
  have hts0 := atoms_spec (ws := wsX2_dropOldest) B.pre
  have hts : ∀ w ∈ wsL_law, w.before _ s = true := fun w hw => hts0 w (List.mem_cons_of_mem _ hw)
  have hown : s.vm.findClass RX2 = some m.cls := findClass_of_methodNamed B.named
  have hS : va_S (Fr G) s.heap s.heap [] := va_S.rf
  have hl := lv_entry ([.ref (G.2.1 + j0a)]) (n := 3) (Nat.le_of_ble_eq_true rfl)
  rw [lg_entry_eq]
  generalize (lg_sl ([.ref (G.2.1 + j0a)]) ++ List.replicate (3 - (lg_sl ([.ref (G.2.1 + j0a)])).length) Slot.unset).toArray = ls at hl ⊢
  have hl : lv_has ls 3 [(0, .ref (G.2.1 + j0a))] := hl
  have B9 : ∀ n : Nat, ∀ (M : Mm) (j0 : Nat) (j1 : Nat) (x2 : Int32) (H : Heap) (locs : List Loc) (ls : Array Slot), Rp G M H → va_S (Fr G) s.heap H locs → lv_has ls 3 [(0, .ref (G.2.1 + j0)), (1, .ref (G.2.1 + j1)), (2, .int x2)] → kd j0 = 2 → kd j1 = 4 → lX2_dropOldest_9 Post n M j0 j1 x2 → Wv p l e (headSpec wsX2_dropOldest rX2_dropOldest).room s m [.ref (G.2.1 + j0a)].toArray below meth c G Post H locs (F0 m 9 ls []) := by
    intro n
    induction n with
    | zero => intro M j0 j1 x2 H locs ls hP hS hl hk_j0 hk_j1 h; exact h.elim
    | succ n ih =>
      intro M j0 j1 x2 H locs ls hP hS hl hk_j0 hk_j1 h
      have hA9 := ih
      replace h : bX2_dropOldest_9 Post (lX2_dropOldest_9 Post n) M j0 j1 x2 := h
      unfold bX2_dropOldest_9 at h
      refine lv_iload_n hx hb dX2_dropOldest_9 rfl (lv_at hl 2 rfl) ?_
      refine lv_iconst (v := (4 : Int32)) hx hb dX2_dropOldest_10 k_iconst_4 ?_
      refine lv_icmp_ge (tgt := 34) hx hb dX2_dropOldest_11 (by decide) (fun c3 => ?_) (fun c3 => ?_)
      · replace h := h.1 c3
        refine lv_aload_n hx hb dX2_dropOldest_34 rfl (lv_at hl 0 rfl) ?_
        refine rk_getr hx hb hts inlX2 hown hK hP hk_j0 cl_2 1 1 fq_2_1 q_4_1 rfl dX2_dropOldest_35 ?_
        refine lv_iconst (v := (3 : Int32)) hx hb dX2_dropOldest_38 k_iconst_3 ?_
        refine lv_aload_n hx hb dX2_dropOldest_39 rfl (lv_at hl 1 rfl) ?_
        refine rk_aast hx hb hK hP hS (ky_2_1 hk_j0) hk_j1 3 ix_3 vi_3_4 dX2_dropOldest_40 (fun M4 eM4 H locs hP hS => ?_)
        replace h := h M4 eM4
        refine lv_aload_n hx hb dX2_dropOldest_41 rfl (lv_at hl 0 rfl) ?_
        refine lv_iconst (v := (3 : Int32)) hx hb dX2_dropOldest_42 k_iconst_3 ?_
        refine rk_puti hx hb hts inlX2 tyX2 tyX2_ok nmX2 hown hK hP hS hk_j0 cl_2 0 fq_2_0 q_10_7 rfl rfl rfl dX2_dropOldest_43 (fun M5 eM5 H locs hP hS => ?_)
        replace h := h M5 eM5
        exact re_v hx hb hr hlocks hP hS h dX2_dropOldest_46
      · replace h := h.2 c3
        refine lv_aload_n hx hb dX2_dropOldest_14 rfl (lv_at hl 0 rfl) ?_
        refine rk_getr hx hb hts inlX2 hown hK hP hk_j0 cl_2 1 1 fq_2_1 q_4_1 rfl dX2_dropOldest_15 ?_
        refine lv_iload_n hx hb dX2_dropOldest_18 rfl (lv_at hl 2 rfl) ?_
        refine lv_iconst (v := (1 : Int32)) hx hb dX2_dropOldest_19 k_iconst_1 ?_
        refine lv_isub hx hb dX2_dropOldest_20 ?_
        refine lv_aload_n hx hb dX2_dropOldest_21 rfl (lv_at hl 0 rfl) ?_
        refine rk_getr hx hb hts inlX2 hown hK hP hk_j0 cl_2 1 1 fq_2_1 q_4_1 rfl dX2_dropOldest_22 ?_
        refine lv_iload_n hx hb dX2_dropOldest_25 rfl (lv_at hl 2 rfl) ?_
        refine rk_aald hx hb hK hP (ky_2_1 hk_j0) _ rfl h.1 dX2_dropOldest_26 ?_
        replace h := h.2
        have hq6 := h.1
        replace h := h.2
        refine rk_aast hx hb hK hP hS (ky_2_1 hk_j0) hq6 _ rfl h.1 dX2_dropOldest_27 (fun M7 eM7 H locs hP hS => ?_)
        replace h := h.2
        replace h := h M7 eM7
        obtain ⟨x2_8, ex2_8⟩ : ∃ y : Int32, y = x2 + (1 : Int32) := ⟨_, rfl⟩
        replace h := h x2_8 ex2_8
        refine lv_iinc (v := x2_8) (lv' := [(2, .int x2_8), (0, .ref (G.2.1 + j0)), (1, .ref (G.2.1 + j1))]) hx hb dX2_dropOldest_28 hl (k := 2) rfl (by rw [ex2_8]; rfl) (by decide) rfl (fun ls hl => ?_)
        refine lv_goto (tgt := 9) hx hb dX2_dropOldest_31 (by decide) ?_
        exact hA9 _ _ _ _ _ _ _ hP hS (lv_sub hl [1, 2, 0] rfl) hk_j0 hk_j1 h
  unfold wX2_dropOldest at h
  refine lv_aload_n hx hb dX2_dropOldest_0 rfl (lv_at hl 0 rfl) ?_
  refine rk_getr hx hb hts inlX2 hown hK hP hk_j0a cl_2 1 1 fq_2_1 q_4_1 rfl dX2_dropOldest_1 ?_
  refine lv_iconst (v := (0 : Int32)) hx hb dX2_dropOldest_4 k_iconst_0 ?_
  refine rk_aald hx hb hK hP (ky_2_1 hk_j0a) 0 ix_0 vi_0_4 dX2_dropOldest_5 ?_
  have hq1 := h.1
  replace h := h.2
  refine lv_astore_n (lv' := [(1, .ref (G.2.1 + (ix (M (j0a + 1) 0)))), (0, .ref (G.2.1 + j0a))]) hx hb dX2_dropOldest_6 rfl hl (by decide) rfl (fun ls hl => ?_)
  refine lv_iconst (v := (1 : Int32)) hx hb dX2_dropOldest_7 k_iconst_1 ?_
  refine lv_istore_n (lv' := [(2, .int (1 : Int32)), (1, .ref (G.2.1 + (ix (M (j0a + 1) 0)))), (0, .ref (G.2.1 + j0a))]) hx hb dX2_dropOldest_8 rfl hl (by decide) rfl (fun ls hl => ?_)
  obtain ⟨n2, h⟩ := h
  exact B9 _ _ _ _ _ _ _ _ hP hS (lv_sub hl [2, 1, 0] rfl) hk_j0a hq1 h
set_option maxHeartbeats 4000000 in
set_option maxRecDepth 100000 in
theorem mX5_become (l : Launch) (G : Gp) (j0a : Nat) (j1a : Nat) (M : Mm) (Post : Mm → Prop) (hk_j0a : kd j0a = 5) (hk_j1a : kd j1a = 5) (h : wX5_become Post M j0a j1a) : CtV l yX5_become wsX5_become rX5_become G [.ref (G.2.1 + j0a), .ref (G.2.1 + j1a)] M Post := by
  refine Met.ofW (cc := cX5_become) (maxL := 2) (ret := none) (by decide) rfl ?_
  intro p e s m args below meth c s₁ B hml hv
  obtain ⟨rfl, hK, hP⟩ := hv
  have hx := B.exec
  have hb := B.bytes
  have hr := B.returns
  have hlocks := B.notSynchronized
  have hts0 := atoms_spec (ws := wsX5_become) B.pre
  have hts : ∀ w ∈ wsL_law, w.before _ s = true := fun w hw => hts0 w (List.mem_cons_of_mem _ hw)
  have hown : s.vm.findClass RX5 = some m.cls := findClass_of_methodNamed B.named
  have hS : va_S (Fr G) s.heap s.heap [] := va_S.rf
  have hl := lv_entry ([.ref (G.2.1 + j0a), .ref (G.2.1 + j1a)]) (n := 2) (Nat.le_of_ble_eq_true rfl)
  rw [lg_entry_eq]
  generalize (lg_sl ([.ref (G.2.1 + j0a), .ref (G.2.1 + j1a)]) ++ List.replicate (2 - (lg_sl ([.ref (G.2.1 + j0a), .ref (G.2.1 + j1a)])).length) Slot.unset).toArray = ls at hl ⊢
  have hl : lv_has ls 2 [(0, .ref (G.2.1 + j0a)), (1, .ref (G.2.1 + j1a))] := hl
  unfold wX5_become at h
  refine lv_aload_n hx hb dX5_become_0 rfl (lv_at hl 0 rfl) ?_
  refine lv_aload_n hx hb dX5_become_1 rfl (lv_at hl 1 rfl) ?_
  refine rk_geti hx hb hts inlX5 hown hK hP hk_j1a cl_5 0 fq_5_0 q_11_14 rfl dX5_become_2 ?_
  refine rk_puti hx hb hts inlX5 tyX5 tyX5_ok nmX5 hown hK hP hS hk_j0a cl_5 0 fq_5_0 q_11_14 rfl rfl rfl dX5_become_5 (fun M1 eM1 H locs hP hS => ?_)
  replace h := h M1 eM1
  refine lv_aload_n hx hb dX5_become_8 rfl (lv_at hl 0 rfl) ?_
  refine lv_aload_n hx hb dX5_become_9 rfl (lv_at hl 1 rfl) ?_
  refine rk_geti hx hb hts inlX5 hown hK hP hk_j1a cl_5 1 fq_5_1 q_11_15 rfl dX5_become_10 ?_
  refine rk_puti hx hb hts inlX5 tyX5 tyX5_ok nmX5 hown hK hP hS hk_j0a cl_5 1 fq_5_1 q_11_15 rfl rfl rfl dX5_become_13 (fun M2 eM2 H locs hP hS => ?_)
  replace h := h M2 eM2
  refine lv_aload_n hx hb dX5_become_16 rfl (lv_at hl 0 rfl) ?_
  refine lv_aload_n hx hb dX5_become_17 rfl (lv_at hl 1 rfl) ?_
  refine rk_geti hx hb hts inlX5 hown hK hP hk_j1a cl_5 2 fq_5_2 q_11_16 rfl dX5_become_18 ?_
  refine rk_puti hx hb hts inlX5 tyX5 tyX5_ok nmX5 hown hK hP hS hk_j0a cl_5 2 fq_5_2 q_11_16 rfl rfl rfl dX5_become_21 (fun M3 eM3 H locs hP hS => ?_)
  replace h := h M3 eM3
  refine lv_aload_n hx hb dX5_become_24 rfl (lv_at hl 1 rfl) ?_
  refine rk_getr hx hb hts inlX5 hown hK hP hk_j1a cl_5 3 1 fq_5_3 q_3_18 rfl dX5_become_25 ?_
  refine lv_iconst (v := (0 : Int32)) hx hb dX5_become_28 k_iconst_0 ?_
  refine lv_aload_n hx hb dX5_become_29 rfl (lv_at hl 0 rfl) ?_
  refine rk_getr hx hb hts inlX5 hown hK hP hk_j0a cl_5 3 1 fq_5_3 q_3_18 rfl dX5_become_30 ?_
  refine lv_iconst (v := (0 : Int32)) hx hb dX5_become_33 k_iconst_0 ?_
  refine lv_bipush (v := (8 : Int32)) hx hb dX5_become_34 k_bipush_8 ?_
  refine rk_copy hx hb (hml.trans hl.1.symm) hts hown q_11_17 q_11_2 q_11_3 q_11_4 hK hP hS (ky_5_3 hk_j1a) (ky_5_3 hk_j0a) ac_8 ⟨ix_8, by decide⟩ (Nat.le_of_ble_eq_true rfl) (by decide) dX5_become_36 (fun M4 eM4 H locs hP hS => ?_)
  replace h := h M4 eM4
  refine lv_aload_n hx hb dX5_become_39 rfl (lv_at hl 1 rfl) ?_
  refine rk_getr hx hb hts inlX5 hown hK hP hk_j1a cl_5 4 2 fq_5_4 q_3_19 rfl dX5_become_40 ?_
  refine lv_iconst (v := (0 : Int32)) hx hb dX5_become_43 k_iconst_0 ?_
  refine lv_aload_n hx hb dX5_become_44 rfl (lv_at hl 0 rfl) ?_
  refine rk_getr hx hb hts inlX5 hown hK hP hk_j0a cl_5 4 2 fq_5_4 q_3_19 rfl dX5_become_45 ?_
  refine lv_iconst (v := (0 : Int32)) hx hb dX5_become_48 k_iconst_0 ?_
  refine lv_bipush (v := (8 : Int32)) hx hb dX5_become_49 k_bipush_8 ?_
  refine rk_copy hx hb (hml.trans hl.1.symm) hts hown q_11_17 q_11_2 q_11_3 q_11_4 hK hP hS (ky_5_4 hk_j1a) (ky_5_4 hk_j0a) ac_8 ⟨ix_8, by decide⟩ (Nat.le_of_ble_eq_true rfl) (by decide) dX5_become_51 (fun M5 eM5 H locs hP hS => ?_)
  replace h := h M5 eM5
  exact re_v hx hb hr hlocks hP hS h dX5_become_54
set_option maxHeartbeats 4000000 in
set_option maxRecDepth 100000 in
theorem mX4_become (l : Launch) (G : Gp) (j0a : Nat) (j1a : Nat) (M : Mm) (Post : Mm → Prop) (hk_j0a : kd j0a = 4) (hk_j1a : kd j1a = 4) (h : wX4_become Post M j0a j1a) : CtV l yX4_become wsX4_become rX4_become G [.ref (G.2.1 + j0a), .ref (G.2.1 + j1a)] M Post := by
  refine Met.ofW (cc := cX4_become) (maxL := 2) (ret := none) (by decide) rfl ?_
  intro p e s m args below meth c s₁ B hml hv
  obtain ⟨rfl, hK, hP⟩ := hv
  have hx := B.exec
  have hb := B.bytes
  have hr := B.returns
  have hlocks := B.notSynchronized
  have hts0 := atoms_spec (ws := wsX4_become) B.pre
  have hts : ∀ w ∈ wsL_law, w.before _ s = true := fun w hw => hts0 w (List.mem_cons_of_mem _ hw)
  have hown : s.vm.findClass RX4 = some m.cls := findClass_of_methodNamed B.named
  have hS : va_S (Fr G) s.heap s.heap [] := va_S.rf
  have hl := lv_entry ([.ref (G.2.1 + j0a), .ref (G.2.1 + j1a)]) (n := 2) (Nat.le_of_ble_eq_true rfl)
  rw [lg_entry_eq]
  generalize (lg_sl ([.ref (G.2.1 + j0a), .ref (G.2.1 + j1a)]) ++ List.replicate (2 - (lg_sl ([.ref (G.2.1 + j0a), .ref (G.2.1 + j1a)])).length) Slot.unset).toArray = ls at hl ⊢
  have hl : lv_has ls 2 [(0, .ref (G.2.1 + j0a)), (1, .ref (G.2.1 + j1a))] := hl
  unfold wX4_become at h
  refine lv_aload_n hx hb dX4_become_0 rfl (lv_at hl 0 rfl) ?_
  refine rk_getr hx hb hts inlX4 hown hK hP hk_j0a cl_4 0 1 fq_4_0 q_2_4 rfl dX4_become_1 ?_
  refine lv_aload_n hx hb dX4_become_4 rfl (lv_at hl 1 rfl) ?_
  refine rk_getr hx hb hts inlX4 hown hK hP hk_j1a cl_4 0 1 fq_4_0 q_2_4 rfl dX4_become_5 ?_
  refine rc_Vv (As := [.ref (G.2.1 + (j1a + 1))]) (rest := []) ⟨hx, hb, hml, hown, hts⟩ (mX0_become l G (j0a + 1) (j1a + 1) M _ (ky_4_0 hk_j0a) (ky_4_0 hk_j1a) h) (cwV 1 hts (gV_X0_become q_10_21) rfl rfl rfl hdV_X0_become ⟨Nat.le_of_ble_eq_true rfl, Nat.le_of_ble_eq_true rfl⟩) hK hP hS (ky_4_0 hk_j0a) (by decide) cl_0 rfl hl.1 rfl (Nat.le_of_ble_eq_true rfl) dX4_become_8 ⟨Nat.zero_le _, Nat.zero_le _⟩ (fun M1 H locs h hP hS => ?_)
  refine lv_aload_n hx hb dX4_become_11 rfl (lv_at hl 0 rfl) ?_
  refine rk_getr hx hb hts inlX4 hown hK hP hk_j0a cl_4 1 10 fq_4_1 q_2_8 rfl dX4_become_12 ?_
  refine lv_aload_n hx hb dX4_become_15 rfl (lv_at hl 1 rfl) ?_
  refine rk_getr hx hb hts inlX4 hown hK hP hk_j1a cl_4 1 10 fq_4_1 q_2_8 rfl dX4_become_16 ?_
  refine rc_Vv (As := [.ref (G.2.1 + (j1a + 10))]) (rest := []) ⟨hx, hb, hml, hown, hts⟩ (mX1_become l G (j0a + 10) (j1a + 10) M1 _ (ky_4_1 hk_j0a) (ky_4_1 hk_j1a) h) (cwV 1 hts (gV_X1_become q_11_5) rfl rfl rfl hdV_X1_become ⟨Nat.le_of_ble_eq_true rfl, Nat.le_of_ble_eq_true rfl⟩) hK hP hS (ky_4_1 hk_j0a) (by decide) cl_1 rfl hl.1 rfl (Nat.le_of_ble_eq_true rfl) dX4_become_19 ⟨Nat.zero_le _, Nat.zero_le _⟩ (fun M3 H locs h hP hS => ?_)
  refine lv_aload_n hx hb dX4_become_22 rfl (lv_at hl 0 rfl) ?_
  refine rk_getr hx hb hts inlX4 hown hK hP hk_j0a cl_4 2 18 fq_4_2 q_2_12 rfl dX4_become_23 ?_
  refine lv_aload_n hx hb dX4_become_26 rfl (lv_at hl 1 rfl) ?_
  refine rk_getr hx hb hts inlX4 hown hK hP hk_j1a cl_4 2 18 fq_4_2 q_2_12 rfl dX4_become_27 ?_
  refine rc_Vv (As := [.ref (G.2.1 + (j1a + 18))]) (rest := []) ⟨hx, hb, hml, hown, hts⟩ (mX5_become l G (j0a + 18) (j1a + 18) M3 _ (ky_4_2 hk_j0a) (ky_4_2 hk_j1a) h) (cwV 1 hts (gV_X5_become q_11_10) rfl rfl rfl hdV_X5_become ⟨Nat.le_of_ble_eq_true rfl, Nat.le_of_ble_eq_true rfl⟩) hK hP hS (ky_4_2 hk_j0a) (by decide) cl_5 rfl hl.1 rfl (Nat.le_of_ble_eq_true rfl) dX4_become_30 ⟨Nat.zero_le _, Nat.zero_le _⟩ (fun M5 H locs h hP hS => ?_)
  refine lv_aload_n hx hb dX4_become_33 rfl (lv_at hl 0 rfl) ?_
  refine lv_aload_n hx hb dX4_become_34 rfl (lv_at hl 1 rfl) ?_
  refine rk_geti hx hb hts inlX4 hown hK hP hk_j1a cl_4 3 fq_4_3 q_10_16 rfl dX4_become_35 ?_
  refine rk_puti hx hb hts inlX4 tyX4 tyX4_ok nmX4 hown hK hP hS hk_j0a cl_4 3 fq_4_3 q_10_16 rfl rfl rfl dX4_become_38 (fun M7 eM7 H locs hP hS => ?_)
  replace h := h M7 eM7
  refine lv_aload_n hx hb dX4_become_41 rfl (lv_at hl 0 rfl) ?_
  refine lv_aload_n hx hb dX4_become_42 rfl (lv_at hl 1 rfl) ?_
  refine rk_geti hx hb hts inlX4 hown hK hP hk_j1a cl_4 4 fq_4_4 q_10_17 rfl dX4_become_43 ?_
  refine rk_puti hx hb hts inlX4 tyX4 tyX4_ok nmX4 hown hK hP hS hk_j0a cl_4 4 fq_4_4 q_10_17 rfl rfl rfl dX4_become_46 (fun M8 eM8 H locs hP hS => ?_)
  replace h := h M8 eM8
  refine lv_aload_n hx hb dX4_become_49 rfl (lv_at hl 0 rfl) ?_
  refine lv_aload_n hx hb dX4_become_50 rfl (lv_at hl 1 rfl) ?_
  refine rk_geti hx hb hts inlX4 hown hK hP hk_j1a cl_4 5 fq_4_5 q_10_18 rfl dX4_become_51 ?_
  refine rk_puti hx hb hts inlX4 tyX4 tyX4_ok nmX4 hown hK hP hS hk_j0a cl_4 5 fq_4_5 q_10_18 rfl rfl rfl dX4_become_54 (fun M9 eM9 H locs hP hS => ?_)
  replace h := h M9 eM9
  refine lv_aload_n hx hb dX4_become_57 rfl (lv_at hl 0 rfl) ?_
  refine lv_aload_n hx hb dX4_become_58 rfl (lv_at hl 1 rfl) ?_
  refine rk_geti hx hb hts inlX4 hown hK hP hk_j1a cl_4 6 fq_4_6 q_10_19 rfl dX4_become_59 ?_
  refine rk_puti hx hb hts inlX4 tyX4 tyX4_ok nmX4 hown hK hP hS hk_j0a cl_4 6 fq_4_6 q_10_19 rfl rfl rfl dX4_become_62 (fun M10 eM10 H locs hP hS => ?_)
  replace h := h M10 eM10
  refine lv_aload_n hx hb dX4_become_65 rfl (lv_at hl 0 rfl) ?_
  refine lv_aload_n hx hb dX4_become_66 rfl (lv_at hl 1 rfl) ?_
  refine rk_geti hx hb hts inlX4 hown hK hP hk_j1a cl_4 7 fq_4_7 q_10_20 rfl dX4_become_67 ?_
  refine rk_puti hx hb hts inlX4 tyX4 tyX4_ok nmX4 hown hK hP hS hk_j0a cl_4 7 fq_4_7 q_10_20 rfl rfl rfl dX4_become_70 (fun M11 eM11 H locs hP hS => ?_)
  replace h := h M11 eM11
  exact re_v hx hb hr hlocks hP hS h dX4_become_73
set_option maxHeartbeats 4000000 in
set_option maxRecDepth 100000 in
theorem mX2_record (l : Launch) (G : Gp) (j0a : Nat) (j1a : Nat) (M : Mm) (Post : Mm → Prop) (hk_j0a : kd j0a = 2) (hk_j1a : kd j1a = 4) (h : wX2_record Post M j0a j1a) : CtV l yX2_record wsX2_record rX2_record G [.ref (G.2.1 + j0a), .ref (G.2.1 + j1a)] M Post := by
  refine Met.ofW (cc := cX2_record) (maxL := 2) (ret := none) (by decide) rfl ?_
  intro p e s m args below meth c s₁ B hml hv
  obtain ⟨rfl, hK, hP⟩ := hv
  have hx := B.exec
  have hb := B.bytes
  have hr := B.returns
  have hlocks := B.notSynchronized
  have hts0 := atoms_spec (ws := wsX2_record) B.pre
  have hts : ∀ w ∈ wsL_law, w.before _ s = true := fun w hw => hts0 w (List.mem_cons_of_mem _ hw)
  have hown : s.vm.findClass RX2 = some m.cls := findClass_of_methodNamed B.named
  have hS : va_S (Fr G) s.heap s.heap [] := va_S.rf
  have hl := lv_entry ([.ref (G.2.1 + j0a), .ref (G.2.1 + j1a)]) (n := 2) (Nat.le_of_ble_eq_true rfl)
  rw [lg_entry_eq]
  generalize (lg_sl ([.ref (G.2.1 + j0a), .ref (G.2.1 + j1a)]) ++ List.replicate (2 - (lg_sl ([.ref (G.2.1 + j0a), .ref (G.2.1 + j1a)])).length) Slot.unset).toArray = ls at hl ⊢
  have hl : lv_has ls 2 [(0, .ref (G.2.1 + j0a)), (1, .ref (G.2.1 + j1a))] := hl
  have B12 : ∀ (M : Mm) (j0 : Nat) (j1 : Nat) (H : Heap) (locs : List Loc) (ls : Array Slot), Rp G M H → va_S (Fr G) s.heap H locs → lv_has ls 2 [(0, .ref (G.2.1 + j0)), (1, .ref (G.2.1 + j1))] → kd j0 = 2 → kd j1 = 4 → bX2_record_12 Post M j0 j1 → Wv p l e (headSpec wsX2_record rX2_record).room s m [.ref (G.2.1 + j0a), .ref (G.2.1 + j1a)].toArray below meth c G Post H locs (F0 m 12 ls []) := by
    intro M j0 j1 H locs ls hP hS hl hk_j0 hk_j1 h
    unfold bX2_record_12 at h
    refine lv_aload_n hx hb dX2_record_12 rfl (lv_at hl 0 rfl) ?_
    refine rk_getr hx hb hts inlX2 hown hK hP hk_j0 cl_2 1 1 fq_2_1 q_4_1 rfl dX2_record_13 ?_
    refine lv_aload_n hx hb dX2_record_16 rfl (lv_at hl 0 rfl) ?_
    refine rk_geti hx hb hts inlX2 hown hK hP hk_j0 cl_2 0 fq_2_0 q_10_7 rfl dX2_record_17 ?_
    refine rk_aald hx hb hK hP (ky_2_1 hk_j0) _ rfl h.1 dX2_record_20 ?_
    replace h := h.2
    have hq4 := h.1
    replace h := h.2
    refine lv_aload_n hx hb dX2_record_21 rfl (lv_at hl 1 rfl) ?_
    refine rc_Vv (As := [.ref (G.2.1 + j1)]) (rest := []) ⟨hx, hb, hml, hown, hts⟩ (mX4_become l G (ix (M (j0 + 1) (ix (M j0 0)))) j1 M _ hq4 hk_j1 h) (cwV 1 hts (gV_X4_become q_10_12) rfl rfl rfl hdV_X4_become ⟨Nat.le_of_ble_eq_true rfl, Nat.le_of_ble_eq_true rfl⟩) hK hP hS hq4 (by decide) cl_4 rfl hl.1 rfl (Nat.le_of_ble_eq_true rfl) dX2_record_22 ⟨Nat.zero_le _, Nat.zero_le _⟩ (fun M5 H locs h hP hS => ?_)
    refine lv_aload_n hx hb dX2_record_25 rfl (lv_at hl 0 rfl) ?_
    refine lv_dup hx hb dX2_record_26 rfl ?_
    refine rk_geti hx hb hts inlX2 hown hK hP hk_j0 cl_2 0 fq_2_0 q_10_7 rfl dX2_record_27 ?_
    refine lv_iconst (v := (1 : Int32)) hx hb dX2_record_30 k_iconst_1 ?_
    refine lv_iadd hx hb dX2_record_31 ?_
    refine rk_puti hx hb hts inlX2 tyX2 tyX2_ok nmX2 hown hK hP hS hk_j0 cl_2 0 fq_2_0 q_10_7 rfl rfl rfl dX2_record_32 (fun M7 eM7 H locs hP hS => ?_)
    replace h := h M7 eM7
    exact re_v hx hb hr hlocks hP hS h dX2_record_35
  unfold wX2_record at h
  refine lv_aload_n hx hb dX2_record_0 rfl (lv_at hl 0 rfl) ?_
  refine rk_geti hx hb hts inlX2 hown hK hP hk_j0a cl_2 0 fq_2_0 q_10_7 rfl dX2_record_1 ?_
  refine lv_iconst (v := (4 : Int32)) hx hb dX2_record_4 k_iconst_4 ?_
  refine lv_icmp_lt (tgt := 12) hx hb dX2_record_5 (by decide) (fun c1 => ?_) (fun c1 => ?_)
  · replace h := h.1 c1
    exact B12 _ _ _ _ _ _ hP hS (lv_sub hl [0, 1] rfl) hk_j0a hk_j1a h
  · replace h := h.2 c1
    refine lv_aload_n hx hb dX2_record_8 rfl (lv_at hl 0 rfl) ?_
    refine rc_Vv (As := []) (rest := []) ⟨hx, hb, hml, hown, hts⟩ (mX2_dropOldest l G j0a M _ hk_j0a h) (cwV 0 hts (gV_X2_dropOldest q_10_8) rfl rfl rfl hdV_X2_dropOldest ⟨Nat.le_of_ble_eq_true rfl, Nat.le_of_ble_eq_true rfl⟩) hK hP hS hk_j0a (by decide) cl_2 rfl hl.1 rfl (Nat.le_of_ble_eq_true rfl) dX2_record_9 ⟨Nat.zero_le _, Nat.zero_le _⟩ (fun M2 H locs h hP hS => ?_)
    exact B12 _ _ _ _ _ _ hP hS (lv_sub hl [0, 1] rfl) hk_j0a hk_j1a h
set_option maxHeartbeats 4000000 in
set_option maxRecDepth 100000 in
theorem mX2_restoreLatest (l : Launch) (G : Gp) (j0a : Nat) (j1a : Nat) (M : Mm) (Post : Mm → Int32 → Prop) (hk_j0a : kd j0a = 2) (hk_j1a : kd j1a = 4) (h : wX2_restoreLatest Post M j0a j1a) : CtI l yX2_restoreLatest wsX2_restoreLatest rX2_restoreLatest G [.ref (G.2.1 + j0a), .ref (G.2.1 + j1a)] M Post := by
  refine Met.ofW (cc := cX2_restoreLatest) (maxL := 2) (ret := (some .int)) (by decide) rfl ?_
  intro p e s m args below meth c s₁ B hml hv
  obtain ⟨rfl, hK, hP⟩ := hv
  have hx := B.exec
  have hb := B.bytes
  have hr := B.returns
  have hlocks := B.notSynchronized
  have hts0 := atoms_spec (ws := wsX2_restoreLatest) B.pre
  have hts : ∀ w ∈ wsL_law, w.before _ s = true := fun w hw => hts0 w (List.mem_cons_of_mem _ hw)
  have hown : s.vm.findClass RX2 = some m.cls := findClass_of_methodNamed B.named
  have hS : va_S (Fr G) s.heap s.heap [] := va_S.rf
  have hl := lv_entry ([.ref (G.2.1 + j0a), .ref (G.2.1 + j1a)]) (n := 2) (Nat.le_of_ble_eq_true rfl)
  rw [lg_entry_eq]
  generalize (lg_sl ([.ref (G.2.1 + j0a), .ref (G.2.1 + j1a)]) ++ List.replicate (2 - (lg_sl ([.ref (G.2.1 + j0a), .ref (G.2.1 + j1a)])).length) Slot.unset).toArray = ls at hl ⊢
  have hl : lv_has ls 2 [(0, .ref (G.2.1 + j0a)), (1, .ref (G.2.1 + j1a))] := hl
  unfold wX2_restoreLatest at h
  refine lv_aload_n hx hb dX2_restoreLatest_0 rfl (lv_at hl 0 rfl) ?_
  refine rk_geti hx hb hts inlX2 hown hK hP hk_j0a cl_2 0 fq_2_0 q_10_7 rfl dX2_restoreLatest_1 ?_
  refine lv_if_le (tgt := 30) hx hb dX2_restoreLatest_4 (by decide) (fun c1 => ?_) (fun c1 => ?_)
  · replace h := h.1 c1
    refine lv_aload_n hx hb dX2_restoreLatest_30 rfl (lv_at hl 0 rfl) ?_
    refine rk_geti hx hb hts inlX2 hown hK hP hk_j0a cl_2 0 fq_2_0 q_10_7 rfl dX2_restoreLatest_31 ?_
    exact re_i hx hb hr hlocks hP hS h dX2_restoreLatest_34
  · replace h := h.2 c1
    refine lv_aload_n hx hb dX2_restoreLatest_7 rfl (lv_at hl 0 rfl) ?_
    refine lv_dup hx hb dX2_restoreLatest_8 rfl ?_
    refine rk_geti hx hb hts inlX2 hown hK hP hk_j0a cl_2 0 fq_2_0 q_10_7 rfl dX2_restoreLatest_9 ?_
    refine lv_iconst (v := (1 : Int32)) hx hb dX2_restoreLatest_12 k_iconst_1 ?_
    refine lv_isub hx hb dX2_restoreLatest_13 ?_
    refine rk_puti hx hb hts inlX2 tyX2 tyX2_ok nmX2 hown hK hP hS hk_j0a cl_2 0 fq_2_0 q_10_7 rfl rfl rfl dX2_restoreLatest_14 (fun M2 eM2 H locs hP hS => ?_)
    replace h := h M2 eM2
    refine lv_aload_n hx hb dX2_restoreLatest_17 rfl (lv_at hl 1 rfl) ?_
    refine lv_aload_n hx hb dX2_restoreLatest_18 rfl (lv_at hl 0 rfl) ?_
    refine rk_getr hx hb hts inlX2 hown hK hP hk_j0a cl_2 1 1 fq_2_1 q_4_1 rfl dX2_restoreLatest_19 ?_
    refine lv_aload_n hx hb dX2_restoreLatest_22 rfl (lv_at hl 0 rfl) ?_
    refine rk_geti hx hb hts inlX2 hown hK hP hk_j0a cl_2 0 fq_2_0 q_10_7 rfl dX2_restoreLatest_23 ?_
    refine rk_aald hx hb hK hP (ky_2_1 hk_j0a) _ rfl h.1 dX2_restoreLatest_26 ?_
    replace h := h.2
    have hq3 := h.1
    replace h := h.2
    refine rc_Vv (As := [.ref (G.2.1 + (ix (M2 (j0a + 1) (ix (M2 j0a 0)))))]) (rest := []) ⟨hx, hb, hml, hown, hts⟩ (mX4_become l G j1a (ix (M2 (j0a + 1) (ix (M2 j0a 0)))) M2 _ hk_j1a hq3 h) (cwV 1 hts (gV_X4_become q_10_12) rfl rfl rfl hdV_X4_become ⟨Nat.le_of_ble_eq_true rfl, Nat.le_of_ble_eq_true rfl⟩) hK hP hS hk_j1a (by decide) cl_4 rfl hl.1 rfl (Nat.le_of_ble_eq_true rfl) dX2_restoreLatest_27 ⟨Nat.zero_le _, Nat.zero_le _⟩ (fun M4 H locs h hP hS => ?_)
    refine lv_aload_n hx hb dX2_restoreLatest_30 rfl (lv_at hl 0 rfl) ?_
    refine rk_geti hx hb hts inlX2 hown hK hP hk_j0a cl_2 0 fq_2_0 q_10_7 rfl dX2_restoreLatest_31 ?_
    exact re_i hx hb hr hlocks hP hS h dX2_restoreLatest_34
set_option maxHeartbeats 4000000 in
set_option maxRecDepth 100000 in
theorem mX4_hasHoursLeft (l : Launch) (G : Gp) (j0a : Nat) (x1a : Int32) (M : Mm) (Post : Mm → Int32 → Prop) (hk_j0a : kd j0a = 4) (h : wX4_hasHoursLeft Post M j0a x1a) : CtI l yX4_hasHoursLeft wsX4_hasHoursLeft rX4_hasHoursLeft G [.ref (G.2.1 + j0a), .int x1a] M Post := by
  refine Met.ofW (cc := cX4_hasHoursLeft) (maxL := 2) (ret := (some .boolean)) (by decide) rfl ?_
  intro p e s m args below meth c s₁ B hml hv
  obtain ⟨rfl, hK, hP⟩ := hv
  have hx := B.exec
  have hb := B.bytes
  have hr := B.returns
  have hlocks := B.notSynchronized
  have hts0 := atoms_spec (ws := wsX4_hasHoursLeft) B.pre
  have hts : ∀ w ∈ wsL_law, w.before _ s = true := fun w hw => hts0 w (List.mem_cons_of_mem _ hw)
  have hown : s.vm.findClass RX4 = some m.cls := findClass_of_methodNamed B.named
  have hS : va_S (Fr G) s.heap s.heap [] := va_S.rf
  have hl := lv_entry ([.ref (G.2.1 + j0a), .int x1a]) (n := 2) (Nat.le_of_ble_eq_true rfl)
  rw [lg_entry_eq]
  generalize (lg_sl ([.ref (G.2.1 + j0a), .int x1a]) ++ List.replicate (2 - (lg_sl ([.ref (G.2.1 + j0a), .int x1a])).length) Slot.unset).toArray = ls at hl ⊢
  have hl : lv_has ls 2 [(0, .ref (G.2.1 + j0a)), (1, .int x1a)] := hl
  unfold wX4_hasHoursLeft at h
  refine lv_iload_n hx hb dX4_hasHoursLeft_0 rfl (lv_at hl 1 rfl) ?_
  refine lv_sipush (v := (20000 : Int32)) hx hb dX4_hasHoursLeft_1 k_sipush_20000 ?_
  refine lv_aload_n hx hb dX4_hasHoursLeft_4 rfl (lv_at hl 0 rfl) ?_
  refine rk_geti hx hb hts inlX4 hown hK hP hk_j0a cl_4 3 fq_4_3 q_10_16 rfl dX4_hasHoursLeft_5 ?_
  refine lv_isub hx hb dX4_hasHoursLeft_8 ?_
  refine lv_icmp_gt (tgt := 16) hx hb dX4_hasHoursLeft_9 (by decide) (fun c1 => ?_) (fun c1 => ?_)
  · replace h := h.1 c1
    refine lv_iconst (v := (0 : Int32)) hx hb dX4_hasHoursLeft_16 k_iconst_0 ?_
    exact re_z hx hb hr hlocks (Or.inl rfl) hP hS h dX4_hasHoursLeft_17
  · replace h := h.2 c1
    refine lv_iconst (v := (1 : Int32)) hx hb dX4_hasHoursLeft_12 k_iconst_1 ?_
    refine lv_goto (tgt := 17) hx hb dX4_hasHoursLeft_13 (by decide) ?_
    exact re_z hx hb hr hlocks (Or.inr rfl) hP hS h dX4_hasHoursLeft_17
set_option maxHeartbeats 4000000 in
set_option maxRecDepth 100000 in
theorem mX5_gatesInNextHour (l : Launch) (G : Gp) (j0a : Nat) (x1a : Int32) (M : Mm) (Post : Mm → Int32 → Prop) (hk_j0a : kd j0a = 5) (h : wX5_gatesInNextHour Post M j0a x1a) : CtI l yX5_gatesInNextHour wsX5_gatesInNextHour rX5_gatesInNextHour G [.ref (G.2.1 + j0a), .int x1a] M Post := by
  refine Met.ofW (cc := cX5_gatesInNextHour) (maxL := 2) (ret := (some .int)) (by decide) rfl ?_
  intro p e s m args below meth c s₁ B hml hv
  obtain ⟨rfl, hK, hP⟩ := hv
  have hx := B.exec
  have hb := B.bytes
  have hr := B.returns
  have hlocks := B.notSynchronized
  have hts0 := atoms_spec (ws := wsX5_gatesInNextHour) B.pre
  have hts : ∀ w ∈ wsL_law, w.before _ s = true := fun w hw => hts0 w (List.mem_cons_of_mem _ hw)
  have hown : s.vm.findClass RX5 = some m.cls := findClass_of_methodNamed B.named
  have hS : va_S (Fr G) s.heap s.heap [] := va_S.rf
  have hl := lv_entry ([.ref (G.2.1 + j0a), .int x1a]) (n := 2) (Nat.le_of_ble_eq_true rfl)
  rw [lg_entry_eq]
  generalize (lg_sl ([.ref (G.2.1 + j0a), .int x1a]) ++ List.replicate (2 - (lg_sl ([.ref (G.2.1 + j0a), .int x1a])).length) Slot.unset).toArray = ls at hl ⊢
  have hl : lv_has ls 2 [(0, .ref (G.2.1 + j0a)), (1, .int x1a)] := hl
  unfold wX5_gatesInNextHour at h
  refine lv_aload_n hx hb dX5_gatesInNextHour_0 rfl (lv_at hl 0 rfl) ?_
  refine rk_geti hx hb hts inlX5 hown hK hP hk_j0a cl_5 0 fq_5_0 q_11_14 rfl dX5_gatesInNextHour_1 ?_
  refine lv_if_le (tgt := 26) hx hb dX5_gatesInNextHour_4 (by decide) (fun c1 => ?_) (fun c1 => ?_)
  · replace h := h.1 c1
    refine lv_iload_n hx hb dX5_gatesInNextHour_26 rfl (lv_at hl 1 rfl) ?_
    exact re_i hx hb hr hlocks hP hS h dX5_gatesInNextHour_27
  · replace h := h.2 c1
    refine lv_aload_n hx hb dX5_gatesInNextHour_7 rfl (lv_at hl 0 rfl) ?_
    refine rk_geti hx hb hts inlX5 hown hK hP hk_j0a cl_5 2 fq_5_2 q_11_16 rfl dX5_gatesInNextHour_8 ?_
    refine lv_if_ne (tgt := 26) hx hb dX5_gatesInNextHour_11 (by decide) (fun c2 => ?_) (fun c2 => ?_)
    · replace h := h.1 c2
      refine lv_iload_n hx hb dX5_gatesInNextHour_26 rfl (lv_at hl 1 rfl) ?_
      exact re_i hx hb hr hlocks hP hS h dX5_gatesInNextHour_27
    · replace h := h.2 c2
      refine lv_aload_n hx hb dX5_gatesInNextHour_14 rfl (lv_at hl 0 rfl) ?_
      refine rk_getr hx hb hts inlX5 hown hK hP hk_j0a cl_5 3 1 fq_5_3 q_3_18 rfl dX5_gatesInNextHour_15 ?_
      refine lv_aload_n hx hb dX5_gatesInNextHour_18 rfl (lv_at hl 0 rfl) ?_
      refine rk_geti hx hb hts inlX5 hown hK hP hk_j0a cl_5 1 fq_5_1 q_11_15 rfl dX5_gatesInNextHour_19 ?_
      refine rk_iald hx hb hK hP (ky_5_3 hk_j0a) ac_8 _ rfl h.1 dX5_gatesInNextHour_22 ?_
      replace h := h.2
      refine lv_goto (tgt := 27) hx hb dX5_gatesInNextHour_23 (by decide) ?_
      exact re_i hx hb hr hlocks hP hS h dX5_gatesInNextHour_27
set_option maxHeartbeats 4000000 in
set_option maxRecDepth 100000 in
theorem mJ7_fill_53178 (l : Launch) (G : Gp) (j0a : Nat) (x1a : Int32) (M : Mm) (Post : Mm → Prop) (hk_j0a : kd j0a = 8) (h : wJ7_fill_53178 Post M j0a x1a) : CtV l yJ7_fill_53178 wsJ7_fill_53178 rJ7_fill_53178 G [.ref (G.2.1 + j0a), .int x1a] M Post := by
  refine Met.ofW (cc := cJ7_fill_53178) (maxL := 4) (ret := none) (by decide) rfl ?_
  intro p e s m args below meth c s₁ B hml hv
  obtain ⟨rfl, hK, hP⟩ := hv
  have hx := B.exec
  have hb := B.bytes
  have hr := B.returns
  have hlocks := B.notSynchronized
  have hts0 := atoms_spec (ws := wsJ7_fill_53178) B.pre
  have hts : ∀ w ∈ wsL_law, w.before _ s = true := fun w hw => hts0 w (List.mem_cons_of_mem _ hw)
  have hown : s.vm.findClass RJ7 = some m.cls := findClass_of_methodNamed B.named
  have hS : va_S (Fr G) s.heap s.heap [] := va_S.rf
  have hl := lv_entry ([.ref (G.2.1 + j0a), .int x1a]) (n := 4) (Nat.le_of_ble_eq_true rfl)
  rw [lg_entry_eq]
  generalize (lg_sl ([.ref (G.2.1 + j0a), .int x1a]) ++ List.replicate (4 - (lg_sl ([.ref (G.2.1 + j0a), .int x1a])).length) Slot.unset).toArray = ls at hl ⊢
  have hl : lv_has ls 4 [(0, .ref (G.2.1 + j0a)), (1, .int x1a)] := hl
  have B5 : ∀ n : Nat, ∀ (M : Mm) (j0 : Nat) (x1 : Int32) (x2 : Int32) (x3 : Int32) (H : Heap) (locs : List Loc) (ls : Array Slot), Rp G M H → va_S (Fr G) s.heap H locs → lv_has ls 4 [(0, .ref (G.2.1 + j0)), (1, .int x1), (2, .int x2), (3, .int x3)] → kd j0 = 8 → lJ7_fill_53178_5 Post n M j0 x1 x2 x3 → Wv p l e (headSpec wsJ7_fill_53178 rJ7_fill_53178).room s m [.ref (G.2.1 + j0a), .int x1a].toArray below meth c G Post H locs (F0 m 5 ls []) := by
    intro n
    induction n with
    | zero => intro M j0 x1 x2 x3 H locs ls hP hS hl hk_j0 h; exact h.elim
    | succ n ih =>
      intro M j0 x1 x2 x3 H locs ls hP hS hl hk_j0 h
      have hA5 := ih
      replace h : bJ7_fill_53178_5 Post (lJ7_fill_53178_5 Post n) M j0 x1 x2 x3 := h
      unfold bJ7_fill_53178_5 at h
      refine lv_iload_n hx hb dJ7_fill_53178_5 rfl (lv_at hl 2 rfl) ?_
      refine lv_iload_n hx hb dJ7_fill_53178_6 rfl (lv_at hl 3 rfl) ?_
      refine lv_icmp_ge (tgt := 20) hx hb dJ7_fill_53178_7 (by decide) (fun c2 => ?_) (fun c2 => ?_)
      · replace h := h.1 c2
        exact re_v hx hb hr hlocks hP hS h dJ7_fill_53178_20
      · replace h := h.2 c2
        refine lv_aload_n hx hb dJ7_fill_53178_10 rfl (lv_at hl 0 rfl) ?_
        refine lv_iload_n hx hb dJ7_fill_53178_11 rfl (lv_at hl 2 rfl) ?_
        refine lv_iload_n hx hb dJ7_fill_53178_12 rfl (lv_at hl 1 rfl) ?_
        refine rk_iast hx hb hK hP hS hk_j0 ac_8 _ rfl h.1 dJ7_fill_53178_13 (fun M3 eM3 H locs hP hS => ?_)
        replace h := h.2
        replace h := h M3 eM3
        obtain ⟨x2_4, ex2_4⟩ : ∃ y : Int32, y = x2 + (1 : Int32) := ⟨_, rfl⟩
        replace h := h x2_4 ex2_4
        refine lv_iinc (v := x2_4) (lv' := [(2, .int x2_4), (0, .ref (G.2.1 + j0)), (1, .int x1), (3, .int x3)]) hx hb dJ7_fill_53178_14 hl (k := 2) rfl (by rw [ex2_4]; rfl) (by decide) rfl (fun ls hl => ?_)
        refine lv_goto (tgt := 5) hx hb dJ7_fill_53178_17 (by decide) ?_
        exact hA5 _ _ _ _ _ _ _ _ hP hS (lv_sub hl [1, 2, 0, 3] rfl) hk_j0 h
  unfold wJ7_fill_53178 at h
  refine lv_iconst (v := (0 : Int32)) hx hb dJ7_fill_53178_0 k_iconst_0 ?_
  refine lv_istore_n (lv' := [(2, .int (0 : Int32)), (0, .ref (G.2.1 + j0a)), (1, .int x1a)]) hx hb dJ7_fill_53178_1 rfl hl (by decide) rfl (fun ls hl => ?_)
  refine lv_aload_n hx hb dJ7_fill_53178_2 rfl (lv_at hl 1 rfl) ?_
  refine rk_alen (v := (8 : Int32)) hx hb hK hP hk_j0a ac_8 rfl dJ7_fill_53178_3 ?_
  refine lv_istore_n (lv' := [(3, .int (8 : Int32)), (2, .int (0 : Int32)), (0, .ref (G.2.1 + j0a)), (1, .int x1a)]) hx hb dJ7_fill_53178_4 rfl hl (by decide) rfl (fun ls hl => ?_)
  obtain ⟨n1, h⟩ := h
  exact B5 _ _ _ _ _ _ _ _ _ hP hS (lv_sub hl [2, 3, 1, 0] rfl) hk_j0a h
set_option maxHeartbeats 4000000 in
set_option maxRecDepth 100000 in
theorem mX4_findCallsBelow (l : Launch) (G : Gp) (j0a : Nat) (M : Mm) (Post : Mm → Prop) (hk_j0a : kd j0a = 4) (h : wX4_findCallsBelow Post M j0a) : CtV l yX4_findCallsBelow wsX4_findCallsBelow rX4_findCallsBelow G [.ref (G.2.1 + j0a)] M Post := by
  refine Met.ofW (cc := cX4_findCallsBelow) (maxL := 3) (ret := none) (by decide) rfl ?_
  intro p e s m args below meth c s₁ B hml hv
  obtain ⟨rfl, hK, hP⟩ := hv
  have hx := B.exec
  have hb := B.bytes
  have hr := B.returns
  have hlocks := B.notSynchronized
  have hts0 := atoms_spec (ws := wsX4_findCallsBelow) B.pre
  have hts : ∀ w ∈ wsL_law, w.before _ s = true := fun w hw => hts0 w (List.mem_cons_of_mem _ hw)
  have hown : s.vm.findClass RX4 = some m.cls := findClass_of_methodNamed B.named
  have hS : va_S (Fr G) s.heap s.heap [] := va_S.rf
  have hl := lv_entry ([.ref (G.2.1 + j0a)]) (n := 3) (Nat.le_of_ble_eq_true rfl)
  rw [lg_entry_eq]
  generalize (lg_sl ([.ref (G.2.1 + j0a)]) ++ List.replicate (3 - (lg_sl ([.ref (G.2.1 + j0a)])).length) Slot.unset).toArray = ls at hl ⊢
  have hl : lv_has ls 3 [(0, .ref (G.2.1 + j0a))] := hl
  have B92 : ∀ n : Nat, ∀ (M : Mm) (j0 : Nat) (x1 : Int32) (H : Heap) (locs : List Loc) (ls : Array Slot), Rp G M H → va_S (Fr G) s.heap H locs → lv_has ls 3 [(0, .ref (G.2.1 + j0)), (1, .int x1)] → kd j0 = 4 → lX4_findCallsBelow_92 Post n M j0 x1 → Wv p l e (headSpec wsX4_findCallsBelow rX4_findCallsBelow).room s m [.ref (G.2.1 + j0a)].toArray below meth c G Post H locs (F0 m 92 ls []) := by
    intro n
    induction n with
    | zero => intro M j0 x1 H locs ls hP hS hl hk_j0 h; exact h.elim
    | succ n ih =>
      intro M j0 x1 H locs ls hP hS hl hk_j0 h
      have hA92 := ih
      replace h : bX4_findCallsBelow_92 Post (lX4_findCallsBelow_92 Post n) M j0 x1 := h
      unfold bX4_findCallsBelow_92 at h
      refine lv_iload_n hx hb dX4_findCallsBelow_92 rfl (lv_at hl 1 rfl) ?_
      refine lv_if_le (tgt := 153) hx hb dX4_findCallsBelow_93 (by decide) (fun c16 => ?_) (fun c16 => ?_)
      · replace h := h.1 c16
        exact re_v hx hb hr hlocks hP hS h dX4_findCallsBelow_153
      · replace h := h.2 c16
        refine lv_aload_n hx hb dX4_findCallsBelow_96 rfl (lv_at hl 0 rfl) ?_
        refine rk_getr hx hb hts inlX4 hown hK hP hk_j0 cl_4 0 1 fq_4_0 q_2_4 rfl dX4_findCallsBelow_97 ?_
        refine lv_iload_n hx hb dX4_findCallsBelow_100 rfl (lv_at hl 1 rfl) ?_
        refine rc_Vi (As := [.int x1]) (rest := []) ⟨hx, hb, hml, hown, hts⟩ (mX0_isOpen l G (j0 + 1) x1 M _ (ky_4_0 hk_j0) h) (cwV 1 hts (gV_X0_isOpen q_8_2) rfl rfl rfl hdV_X0_isOpen ⟨Nat.le_of_ble_eq_true rfl, Nat.le_of_ble_eq_true rfl⟩) hK hP hS (ky_4_0 hk_j0) (by decide) cl_0 rfl hl.1 rfl (Nat.le_of_ble_eq_true rfl) dX4_findCallsBelow_101 ⟨Nat.zero_le _, Nat.zero_le _⟩ (fun r18 M17 H locs h hP hS => ?_)
        refine lv_if_eq (tgt := 147) hx hb dX4_findCallsBelow_104 (by decide) (fun c19 => ?_) (fun c19 => ?_)
        · replace h := h.1 c19
          obtain ⟨x1_20, ex1_20⟩ : ∃ y : Int32, y = x1 + (-1 : Int32) := ⟨_, rfl⟩
          replace h := h x1_20 ex1_20
          refine lv_iinc (v := x1_20) (lv' := [(1, .int x1_20), (0, .ref (G.2.1 + j0))]) hx hb dX4_findCallsBelow_147 hl (k := 1) rfl (by rw [ex1_20]; rfl) (by decide) rfl (fun ls hl => ?_)
          refine lv_goto (tgt := 92) hx hb dX4_findCallsBelow_150 (by decide) ?_
          exact hA92 _ _ _ _ _ _ hP hS (lv_sub hl [1, 0] rfl) hk_j0 h
        · replace h := h.2 c19
          refine lv_aload_n hx hb dX4_findCallsBelow_107 rfl (lv_at hl 0 rfl) ?_
          refine rk_getr hx hb hts inlX4 hown hK hP hk_j0 cl_4 0 1 fq_4_0 q_2_4 rfl dX4_findCallsBelow_108 ?_
          refine rk_getr hx hb hts inlX0 hown hK hP (ky_4_0 hk_j0) cl_0 2 1 fq_0_2 q_7_20 rfl dX4_findCallsBelow_111 ?_
          refine lv_iload_n hx hb dX4_findCallsBelow_114 rfl (lv_at hl 1 rfl) ?_
          refine rk_iald hx hb hK hP (ky_0_2 (ky_4_0 hk_j0)) ac_8 _ rfl h.1 dX4_findCallsBelow_115 ?_
          replace h := h.2
          refine lv_topi (fun x2_21 ex2_21 => ?_)
          replace h := h x2_21 ex2_21
          refine lv_istore_n (lv' := [(2, .int x2_21), (0, .ref (G.2.1 + j0)), (1, .int x1)]) hx hb dX4_findCallsBelow_116 rfl hl (by decide) rfl (fun ls hl => ?_)
          refine lv_aload_n hx hb dX4_findCallsBelow_117 rfl (lv_at hl 1 rfl) ?_
          refine rk_getr hx hb hts inlX4 hown hK hP hk_j0 cl_4 9 22 fq_4_9 q_2_15 rfl dX4_findCallsBelow_118 ?_
          refine lv_iload_n hx hb dX4_findCallsBelow_121 rfl (lv_at hl 0 rfl) ?_
          refine lv_aload_n hx hb dX4_findCallsBelow_122 rfl (lv_at hl 1 rfl) ?_
          refine rk_getr hx hb hts inlX4 hown hK hP hk_j0 cl_4 9 22 fq_4_9 q_2_15 rfl dX4_findCallsBelow_123 ?_
          refine lv_iload_n hx hb dX4_findCallsBelow_126 rfl (lv_at hl 0 rfl) ?_
          refine rk_iald hx hb hK hP (ky_4_9 hk_j0) ac_8 _ rfl h.1 dX4_findCallsBelow_127 ?_
          replace h := h.2
          refine lv_aload_n hx hb dX4_findCallsBelow_128 rfl (lv_at hl 1 rfl) ?_
          refine rk_getr hx hb hts inlX4 hown hK hP hk_j0 cl_4 8 21 fq_4_8 q_2_14 rfl dX4_findCallsBelow_129 ?_
          refine lv_iload_n hx hb dX4_findCallsBelow_132 rfl (lv_at hl 2 rfl) ?_
          refine rk_iald hx hb hK hP (ky_4_8 hk_j0) ac_8 _ rfl h.1 dX4_findCallsBelow_133 ?_
          replace h := h.2
          refine lv_aload_n hx hb dX4_findCallsBelow_134 rfl (lv_at hl 1 rfl) ?_
          refine rk_getr hx hb hts inlX4 hown hK hP hk_j0 cl_4 9 22 fq_4_9 q_2_15 rfl dX4_findCallsBelow_135 ?_
          refine lv_iload_n hx hb dX4_findCallsBelow_138 rfl (lv_at hl 2 rfl) ?_
          refine rk_iald hx hb hK hP (ky_4_9 hk_j0) ac_8 _ rfl h.1 dX4_findCallsBelow_139 ?_
          replace h := h.2
          refine rk_min hx hb (hml.trans hl.1.symm) hts hown q_7_15 q_7_16 q_7_17 q_7_18 (Nat.le_of_ble_eq_true rfl) (Nat.le_of_ble_eq_true rfl) ⟨Nat.zero_le _, Nat.zero_le _⟩ dX4_findCallsBelow_140 ?_
          refine rk_min hx hb (hml.trans hl.1.symm) hts hown q_7_15 q_7_16 q_7_17 q_7_18 (Nat.le_of_ble_eq_true rfl) (Nat.le_of_ble_eq_true rfl) ⟨Nat.zero_le _, Nat.zero_le _⟩ dX4_findCallsBelow_143 ?_
          refine rk_iast hx hb hK hP hS (ky_4_9 hk_j0) ac_8 _ rfl h.1 dX4_findCallsBelow_146 (fun M22 eM22 H locs hP hS => ?_)
          replace h := h.2
          replace h := h M22 eM22
          obtain ⟨x1_23, ex1_23⟩ : ∃ y : Int32, y = x1 + (-1 : Int32) := ⟨_, rfl⟩
          replace h := h x1_23 ex1_23
          refine lv_iinc (v := x1_23) (lv' := [(1, .int x1_23), (2, .int x2_21), (0, .ref (G.2.1 + j0))]) hx hb dX4_findCallsBelow_147 hl (k := 2) rfl (by rw [ex1_23]; rfl) (by decide) rfl (fun ls hl => ?_)
          refine lv_goto (tgt := 92) hx hb dX4_findCallsBelow_150 (by decide) ?_
          exact hA92 _ _ _ _ _ _ hP hS (lv_sub hl [2, 0] rfl) hk_j0 h
  have B20 : ∀ n : Nat, ∀ (M : Mm) (j0 : Nat) (x1 : Int32) (H : Heap) (locs : List Loc) (ls : Array Slot), Rp G M H → va_S (Fr G) s.heap H locs → lv_has ls 3 [(0, .ref (G.2.1 + j0)), (1, .int x1)] → kd j0 = 4 → lX4_findCallsBelow_20 Post n M j0 x1 → Wv p l e (headSpec wsX4_findCallsBelow rX4_findCallsBelow).room s m [.ref (G.2.1 + j0a)].toArray below meth c G Post H locs (F0 m 20 ls []) := by
    intro n
    induction n with
    | zero => intro M j0 x1 H locs ls hP hS hl hk_j0 h; exact h.elim
    | succ n ih =>
      intro M j0 x1 H locs ls hP hS hl hk_j0 h
      have hA20 := ih
      replace h : bX4_findCallsBelow_20 Post (lX4_findCallsBelow_20 Post n) M j0 x1 := h
      unfold bX4_findCallsBelow_20 at h
      refine lv_iload_n hx hb dX4_findCallsBelow_20 rfl (lv_at hl 1 rfl) ?_
      refine lv_aload_n hx hb dX4_findCallsBelow_21 rfl (lv_at hl 0 rfl) ?_
      refine rk_getr hx hb hts inlX4 hown hK hP hk_j0 cl_4 1 10 fq_4_1 q_2_8 rfl dX4_findCallsBelow_22 ?_
      refine rk_geti hx hb hts inlX1 hown hK hP (ky_4_1 hk_j0) cl_1 0 fq_1_0 q_7_12 rfl dX4_findCallsBelow_25 ?_
      refine lv_icmp_ge (tgt := 82) hx hb dX4_findCallsBelow_28 (by decide) (fun c6 => ?_) (fun c6 => ?_)
      · replace h := h.1 c6
        refine lv_aload_n hx hb dX4_findCallsBelow_82 rfl (lv_at hl 0 rfl) ?_
        refine rk_getr hx hb hts inlX4 hown hK hP hk_j0 cl_4 0 1 fq_4_0 q_2_4 rfl dX4_findCallsBelow_83 ?_
        refine rk_geti hx hb hts inlX0 hown hK hP (ky_4_0 hk_j0) cl_0 0 fq_0_0 q_7_19 rfl dX4_findCallsBelow_86 ?_
        refine lv_iconst (v := (1 : Int32)) hx hb dX4_findCallsBelow_89 k_iconst_1 ?_
        refine lv_isub hx hb dX4_findCallsBelow_90 ?_
        refine lv_topi (fun x1_7 ex1_7 => ?_)
        replace h := h x1_7 ex1_7
        refine lv_istore_n (lv' := [(1, .int x1_7), (0, .ref (G.2.1 + j0))]) hx hb dX4_findCallsBelow_91 rfl hl (by decide) rfl (fun ls hl => ?_)
        obtain ⟨n8, h⟩ := h
        exact B92 _ _ _ _ _ _ _ hP hS (lv_sub hl [1, 0] rfl) hk_j0 h
      · replace h := h.2 c6
        refine lv_aload_n hx hb dX4_findCallsBelow_31 rfl (lv_at hl 0 rfl) ?_
        refine rk_getr hx hb hts inlX4 hown hK hP hk_j0 cl_4 1 10 fq_4_1 q_2_8 rfl dX4_findCallsBelow_32 ?_
        refine lv_iload_n hx hb dX4_findCallsBelow_35 rfl (lv_at hl 1 rfl) ?_
        refine rc_Vi (As := [.int x1]) (rest := []) ⟨hx, hb, hml, hown, hts⟩ (mX1_calls l G (j0 + 10) x1 M _ (ky_4_1 hk_j0) h) (cwV 1 hts (gV_X1_calls q_8_1) rfl rfl rfl hdV_X1_calls ⟨Nat.le_of_ble_eq_true rfl, Nat.le_of_ble_eq_true rfl⟩) hK hP hS (ky_4_1 hk_j0) (by decide) cl_1 rfl hl.1 rfl (Nat.le_of_ble_eq_true rfl) dX4_findCallsBelow_36 ⟨Nat.zero_le _, Nat.zero_le _⟩ (fun r10 M9 H locs h hP hS => ?_)
        refine lv_if_eq (tgt := 76) hx hb dX4_findCallsBelow_39 (by decide) (fun c11 => ?_) (fun c11 => ?_)
        · replace h := h.1 c11
          obtain ⟨x1_12, ex1_12⟩ : ∃ y : Int32, y = x1 + (1 : Int32) := ⟨_, rfl⟩
          replace h := h x1_12 ex1_12
          refine lv_iinc (v := x1_12) (lv' := [(1, .int x1_12), (0, .ref (G.2.1 + j0))]) hx hb dX4_findCallsBelow_76 hl (k := 1) rfl (by rw [ex1_12]; rfl) (by decide) rfl (fun ls hl => ?_)
          refine lv_goto (tgt := 20) hx hb dX4_findCallsBelow_79 (by decide) ?_
          exact hA20 _ _ _ _ _ _ hP hS (lv_sub hl [1, 0] rfl) hk_j0 h
        · replace h := h.2 c11
          refine lv_aload_n hx hb dX4_findCallsBelow_42 rfl (lv_at hl 0 rfl) ?_
          refine rk_getr hx hb hts inlX4 hown hK hP hk_j0 cl_4 1 10 fq_4_1 q_2_8 rfl dX4_findCallsBelow_43 ?_
          refine rk_getr hx hb hts inlX1 hown hK hP (ky_4_1 hk_j0) cl_1 2 1 fq_1_2 q_7_13 rfl dX4_findCallsBelow_46 ?_
          refine lv_iload_n hx hb dX4_findCallsBelow_49 rfl (lv_at hl 1 rfl) ?_
          refine rk_iald hx hb hK hP (ky_1_2 (ky_4_1 hk_j0)) ac_9 _ rfl h.1 dX4_findCallsBelow_50 ?_
          replace h := h.2
          refine lv_topi (fun x2_13 ex2_13 => ?_)
          replace h := h x2_13 ex2_13
          refine lv_istore_n (lv' := [(2, .int x2_13), (0, .ref (G.2.1 + j0)), (1, .int x1)]) hx hb dX4_findCallsBelow_51 rfl hl (by decide) rfl (fun ls hl => ?_)
          refine lv_aload_n hx hb dX4_findCallsBelow_52 rfl (lv_at hl 1 rfl) ?_
          refine rk_getr hx hb hts inlX4 hown hK hP hk_j0 cl_4 8 21 fq_4_8 q_2_14 rfl dX4_findCallsBelow_53 ?_
          refine lv_iload_n hx hb dX4_findCallsBelow_56 rfl (lv_at hl 0 rfl) ?_
          refine lv_aload_n hx hb dX4_findCallsBelow_57 rfl (lv_at hl 1 rfl) ?_
          refine rk_getr hx hb hts inlX4 hown hK hP hk_j0 cl_4 8 21 fq_4_8 q_2_14 rfl dX4_findCallsBelow_58 ?_
          refine lv_iload_n hx hb dX4_findCallsBelow_61 rfl (lv_at hl 0 rfl) ?_
          refine rk_iald hx hb hK hP (ky_4_8 hk_j0) ac_8 _ rfl h.1 dX4_findCallsBelow_62 ?_
          replace h := h.2
          refine lv_aload_n hx hb dX4_findCallsBelow_63 rfl (lv_at hl 1 rfl) ?_
          refine rk_getr hx hb hts inlX4 hown hK hP hk_j0 cl_4 1 10 fq_4_1 q_2_8 rfl dX4_findCallsBelow_64 ?_
          refine rk_getr hx hb hts inlX1 hown hK hP (ky_4_1 hk_j0) cl_1 5 4 fq_1_5 q_7_14 rfl dX4_findCallsBelow_67 ?_
          refine lv_iload_n hx hb dX4_findCallsBelow_70 rfl (lv_at hl 2 rfl) ?_
          refine rk_iald hx hb hK hP (ky_1_5 (ky_4_1 hk_j0)) ac_9 _ rfl h.1 dX4_findCallsBelow_71 ?_
          replace h := h.2
          refine rk_min hx hb (hml.trans hl.1.symm) hts hown q_7_15 q_7_16 q_7_17 q_7_18 (Nat.le_of_ble_eq_true rfl) (Nat.le_of_ble_eq_true rfl) ⟨Nat.zero_le _, Nat.zero_le _⟩ dX4_findCallsBelow_72 ?_
          refine rk_iast hx hb hK hP hS (ky_4_8 hk_j0) ac_8 _ rfl h.1 dX4_findCallsBelow_75 (fun M14 eM14 H locs hP hS => ?_)
          replace h := h.2
          replace h := h M14 eM14
          obtain ⟨x1_15, ex1_15⟩ : ∃ y : Int32, y = x1 + (1 : Int32) := ⟨_, rfl⟩
          replace h := h x1_15 ex1_15
          refine lv_iinc (v := x1_15) (lv' := [(1, .int x1_15), (2, .int x2_13), (0, .ref (G.2.1 + j0))]) hx hb dX4_findCallsBelow_76 hl (k := 2) rfl (by rw [ex1_15]; rfl) (by decide) rfl (fun ls hl => ?_)
          refine lv_goto (tgt := 20) hx hb dX4_findCallsBelow_79 (by decide) ?_
          exact hA20 _ _ _ _ _ _ hP hS (lv_sub hl [2, 0] rfl) hk_j0 h
  unfold wX4_findCallsBelow at h
  refine lv_aload_n hx hb dX4_findCallsBelow_0 rfl (lv_at hl 0 rfl) ?_
  refine rk_getr hx hb hts inlX4 hown hK hP hk_j0a cl_4 8 21 fq_4_8 q_2_14 rfl dX4_findCallsBelow_1 ?_
  refine lv_bipush (v := (100 : Int32)) hx hb dX4_findCallsBelow_4 k_bipush_100 ?_
  refine rc_Sv (As := [.ref (G.2.1 + (j0a + 21)), .int (100 : Int32)]) (rest := []) ⟨hx, hb, hml, hown, hts⟩ (mJ7_fill_53178 l G (j0a + 21) (100 : Int32) M _ (ky_4_8 hk_j0a) h) (va_cwS 2 hts (gS_J7_fill_53178 q_7_21) rfl rfl rfl hdS_J7_fill_53178 ⟨Nat.le_of_ble_eq_true rfl, Nat.le_of_ble_eq_true rfl⟩) hK hP hS rfl hl.1 rfl (Nat.le_of_ble_eq_true rfl) dX4_findCallsBelow_6 ⟨Nat.zero_le _, Nat.zero_le _⟩ (fun M1 H locs h hP hS => ?_)
  refine lv_aload_n hx hb dX4_findCallsBelow_9 rfl (lv_at hl 0 rfl) ?_
  refine rk_getr hx hb hts inlX4 hown hK hP hk_j0a cl_4 9 22 fq_4_9 q_2_15 rfl dX4_findCallsBelow_10 ?_
  refine lv_bipush (v := (100 : Int32)) hx hb dX4_findCallsBelow_13 k_bipush_100 ?_
  refine rc_Sv (As := [.ref (G.2.1 + (j0a + 22)), .int (100 : Int32)]) (rest := []) ⟨hx, hb, hml, hown, hts⟩ (mJ7_fill_53178 l G (j0a + 22) (100 : Int32) M1 _ (ky_4_9 hk_j0a) h) (va_cwS 2 hts (gS_J7_fill_53178 q_7_21) rfl rfl rfl hdS_J7_fill_53178 ⟨Nat.le_of_ble_eq_true rfl, Nat.le_of_ble_eq_true rfl⟩) hK hP hS rfl hl.1 rfl (Nat.le_of_ble_eq_true rfl) dX4_findCallsBelow_15 ⟨Nat.zero_le _, Nat.zero_le _⟩ (fun M3 H locs h hP hS => ?_)
  refine lv_iconst (v := (0 : Int32)) hx hb dX4_findCallsBelow_18 k_iconst_0 ?_
  refine lv_istore_n (lv' := [(1, .int (0 : Int32)), (0, .ref (G.2.1 + j0a))]) hx hb dX4_findCallsBelow_19 rfl hl (by decide) rfl (fun ls hl => ?_)
  obtain ⟨n5, h⟩ := h
  exact B20 _ _ _ _ _ _ _ hP hS (lv_sub hl [1, 0] rfl) hk_j0a h
set_option maxHeartbeats 4000000 in
set_option maxRecDepth 100000 in
theorem mX4_findPassingGates (l : Launch) (G : Gp) (j0a : Nat) (M : Mm) (Post : Mm → Prop) (hk_j0a : kd j0a = 4) (h : wX4_findPassingGates Post M j0a) : CtV l yX4_findPassingGates wsX4_findPassingGates rX4_findPassingGates G [.ref (G.2.1 + j0a)] M Post := by
  refine Met.ofW (cc := cX4_findPassingGates) (maxL := 4) (ret := none) (by decide) rfl ?_
  intro p e s m args below meth c s₁ B hml hv
  obtain ⟨rfl, hK, hP⟩ := hv
  have hx := B.exec
  have hb := B.bytes
  have hr := B.returns
  have hlocks := B.notSynchronized
  have hts0 := atoms_spec (ws := wsX4_findPassingGates) B.pre
  have hts : ∀ w ∈ wsL_law, w.before _ s = true := fun w hw => hts0 w (List.mem_cons_of_mem _ hw)
  have hown : s.vm.findClass RX4 = some m.cls := findClass_of_methodNamed B.named
  have hS : va_S (Fr G) s.heap s.heap [] := va_S.rf
  have hl := lv_entry ([.ref (G.2.1 + j0a)]) (n := 4) (Nat.le_of_ble_eq_true rfl)
  rw [lg_entry_eq]
  generalize (lg_sl ([.ref (G.2.1 + j0a)]) ++ List.replicate (4 - (lg_sl ([.ref (G.2.1 + j0a)])).length) Slot.unset).toArray = ls at hl ⊢
  have hl : lv_has ls 4 [(0, .ref (G.2.1 + j0a))] := hl
  have B125 : ∀ (A61 : Mm → Nat → Int32 → Int32 → Prop) (_ : ∀ (M : Mm) (j0 : Nat) (x1 : Int32) (x2 : Int32) (H : Heap) (locs : List Loc) (ls : Array Slot), Rp G M H → va_S (Fr G) s.heap H locs → lv_has ls 4 [(0, .ref (G.2.1 + j0)), (1, .int x1), (2, .int x2)] → kd j0 = 4 → A61 M j0 x1 x2 → Wv p l e (headSpec wsX4_findPassingGates rX4_findPassingGates).room s m [.ref (G.2.1 + j0a)].toArray below meth c G Post H locs (F0 m 61 ls [])), ∀ (M : Mm) (j0 : Nat) (x1 : Int32) (x2 : Int32) (H : Heap) (locs : List Loc) (ls : Array Slot), Rp G M H → va_S (Fr G) s.heap H locs → lv_has ls 4 [(0, .ref (G.2.1 + j0)), (1, .int x1), (2, .int x2)] → kd j0 = 4 → bX4_findPassingGates_125 Post A61 M j0 x1 x2 → Wv p l e (headSpec wsX4_findPassingGates rX4_findPassingGates).room s m [.ref (G.2.1 + j0a)].toArray below meth c G Post H locs (F0 m 125 ls []) := by
    intro A61 hA61 M j0 x1 x2 H locs ls hP hS hl hk_j0 h
    unfold bX4_findPassingGates_125 at h
    refine lv_aload_n hx hb dX4_findPassingGates_125 rfl (lv_at hl 0 rfl) ?_
    refine lv_dup hx hb dX4_findPassingGates_126 rfl ?_
    refine rk_geti hx hb hts inlX4 hown hK hP hk_j0 cl_4 10 fq_4_10 q_15_18 rfl dX4_findPassingGates_127 ?_
    refine lv_iconst (v := (1 : Int32)) hx hb dX4_findPassingGates_130 k_iconst_1 ?_
    refine lv_iload_n hx hb dX4_findPassingGates_131 rfl (lv_at hl 2 rfl) ?_
    refine lv_ishl hx hb dX4_findPassingGates_132 ?_
    refine lv_ior hx hb dX4_findPassingGates_133 ?_
    refine rk_puti hx hb hts inlX4 tyX4 tyX4_ok nmX4 hown hK hP hS hk_j0 cl_4 10 fq_4_10 q_15_18 rfl rfl rfl dX4_findPassingGates_134 (fun M23 eM23 H locs hP hS => ?_)
    replace h := h M23 eM23
    obtain ⟨x2_24, ex2_24⟩ : ∃ y : Int32, y = x2 + (-1 : Int32) := ⟨_, rfl⟩
    replace h := h x2_24 ex2_24
    refine lv_iinc (v := x2_24) (lv' := [(2, .int x2_24), (0, .ref (G.2.1 + j0)), (1, .int x1)]) hx hb dX4_findPassingGates_137 hl (k := 2) rfl (by rw [ex2_24]; rfl) (by decide) rfl (fun ls hl => ?_)
    refine lv_goto (tgt := 61) hx hb dX4_findPassingGates_140 (by decide) ?_
    exact hA61 _ _ _ _ _ _ _ hP hS (lv_sub hl [1, 2, 0] rfl) hk_j0 h
  have B97 : ∀ (A61 : Mm → Nat → Int32 → Int32 → Prop) (_ : ∀ (M : Mm) (j0 : Nat) (x1 : Int32) (x2 : Int32) (H : Heap) (locs : List Loc) (ls : Array Slot), Rp G M H → va_S (Fr G) s.heap H locs → lv_has ls 4 [(0, .ref (G.2.1 + j0)), (1, .int x1), (2, .int x2)] → kd j0 = 4 → A61 M j0 x1 x2 → Wv p l e (headSpec wsX4_findPassingGates rX4_findPassingGates).room s m [.ref (G.2.1 + j0a)].toArray below meth c G Post H locs (F0 m 61 ls [])), ∀ (M : Mm) (j0 : Nat) (x1 : Int32) (x2 : Int32) (x3 : Int32) (H : Heap) (locs : List Loc) (ls : Array Slot), Rp G M H → va_S (Fr G) s.heap H locs → lv_has ls 4 [(0, .ref (G.2.1 + j0)), (1, .int x1), (2, .int x2), (3, .int x3)] → kd j0 = 4 → bX4_findPassingGates_97 Post A61 M j0 x1 x2 x3 → Wv p l e (headSpec wsX4_findPassingGates rX4_findPassingGates).room s m [.ref (G.2.1 + j0a)].toArray below meth c G Post H locs (F0 m 97 ls []) := by
    intro A61 hA61 M j0 x1 x2 x3 H locs ls hP hS hl hk_j0 h
    unfold bX4_findPassingGates_97 at h
    refine lv_aload_n hx hb dX4_findPassingGates_97 rfl (lv_at hl 0 rfl) ?_
    refine rk_getr hx hb hts inlX4 hown hK hP hk_j0 cl_4 0 1 fq_4_0 q_2_4 rfl dX4_findPassingGates_98 ?_
    refine lv_iload_n hx hb dX4_findPassingGates_101 rfl (lv_at hl 2 rfl) ?_
    refine rc_Vi (As := [.int x2]) (rest := []) ⟨hx, hb, hml, hown, hts⟩ (mX0_isOpen l G (j0 + 1) x2 M _ (ky_4_0 hk_j0) h) (cwV 1 hts (gV_X0_isOpen q_8_2) rfl rfl rfl hdV_X0_isOpen ⟨Nat.le_of_ble_eq_true rfl, Nat.le_of_ble_eq_true rfl⟩) hK hP hS (ky_4_0 hk_j0) (by decide) cl_0 rfl hl.1 rfl (Nat.le_of_ble_eq_true rfl) dX4_findPassingGates_102 ⟨Nat.zero_le _, Nat.zero_le _⟩ (fun r17 M16 H locs h hP hS => ?_)
    refine lv_if_eq (tgt := 137) hx hb dX4_findPassingGates_105 (by decide) (fun c18 => ?_) (fun c18 => ?_)
    · replace h := h.1 c18
      obtain ⟨x2_19, ex2_19⟩ : ∃ y : Int32, y = x2 + (-1 : Int32) := ⟨_, rfl⟩
      replace h := h x2_19 ex2_19
      refine lv_iinc (v := x2_19) (lv' := [(2, .int x2_19), (0, .ref (G.2.1 + j0)), (1, .int x1), (3, .int x3)]) hx hb dX4_findPassingGates_137 hl (k := 2) rfl (by rw [ex2_19]; rfl) (by decide) rfl (fun ls hl => ?_)
      refine lv_goto (tgt := 61) hx hb dX4_findPassingGates_140 (by decide) ?_
      exact hA61 _ _ _ _ _ _ _ hP hS (lv_sub hl [1, 2, 0] rfl) hk_j0 h
    · replace h := h.2 c18
      refine lv_aload_n hx hb dX4_findPassingGates_108 rfl (lv_at hl 0 rfl) ?_
      refine rk_getr hx hb hts inlX4 hown hK hP hk_j0 cl_4 0 1 fq_4_0 q_2_4 rfl dX4_findPassingGates_109 ?_
      refine rk_getr hx hb hts inlX0 hown hK hP (ky_4_0 hk_j0) cl_0 3 2 fq_0_3 q_15_19 rfl dX4_findPassingGates_112 ?_
      refine lv_iload_n hx hb dX4_findPassingGates_115 rfl (lv_at hl 2 rfl) ?_
      refine rk_iald hx hb hK hP (ky_0_3 (ky_4_0 hk_j0)) ac_8 _ rfl h.1 dX4_findPassingGates_116 ?_
      replace h := h.2
      refine lv_iconst (v := (2 : Int32)) hx hb dX4_findPassingGates_117 k_iconst_2 ?_
      refine lv_icmp_ne (tgt := 125) hx hb dX4_findPassingGates_118 (by decide) (fun c20 => ?_) (fun c20 => ?_)
      · replace h := h.1 c20
        exact B125 _ hA61 _ _ _ _ _ _ _ hP hS (lv_sub hl [0, 1, 2] rfl) hk_j0 h
      · replace h := h.2 c20
        refine lv_iload_n hx hb dX4_findPassingGates_121 rfl (lv_at hl 3 rfl) ?_
        refine lv_if_eq (tgt := 137) hx hb dX4_findPassingGates_122 (by decide) (fun c21 => ?_) (fun c21 => ?_)
        · replace h := h.1 c21
          obtain ⟨x2_22, ex2_22⟩ : ∃ y : Int32, y = x2 + (-1 : Int32) := ⟨_, rfl⟩
          replace h := h x2_22 ex2_22
          refine lv_iinc (v := x2_22) (lv' := [(2, .int x2_22), (0, .ref (G.2.1 + j0)), (1, .int x1), (3, .int x3)]) hx hb dX4_findPassingGates_137 hl (k := 2) rfl (by rw [ex2_22]; rfl) (by decide) rfl (fun ls hl => ?_)
          refine lv_goto (tgt := 61) hx hb dX4_findPassingGates_140 (by decide) ?_
          exact hA61 _ _ _ _ _ _ _ hP hS (lv_sub hl [1, 2, 0] rfl) hk_j0 h
        · replace h := h.2 c21
          exact B125 _ hA61 _ _ _ _ _ _ _ hP hS (lv_sub hl [0, 1, 2] rfl) hk_j0 h
  have B78 : ∀ (A61 : Mm → Nat → Int32 → Int32 → Prop) (_ : ∀ (M : Mm) (j0 : Nat) (x1 : Int32) (x2 : Int32) (H : Heap) (locs : List Loc) (ls : Array Slot), Rp G M H → va_S (Fr G) s.heap H locs → lv_has ls 4 [(0, .ref (G.2.1 + j0)), (1, .int x1), (2, .int x2)] → kd j0 = 4 → A61 M j0 x1 x2 → Wv p l e (headSpec wsX4_findPassingGates rX4_findPassingGates).room s m [.ref (G.2.1 + j0a)].toArray below meth c G Post H locs (F0 m 61 ls [])), ∀ (M : Mm) (j0 : Nat) (x1 : Int32) (x2 : Int32) (t0 : Int32) (H : Heap) (locs : List Loc) (ls : Array Slot), Rp G M H → va_S (Fr G) s.heap H locs → lv_has ls 4 [(0, .ref (G.2.1 + j0)), (1, .int x1), (2, .int x2)] → kd j0 = 4 → bX4_findPassingGates_78 Post A61 M j0 x1 x2 t0 → Wv p l e (headSpec wsX4_findPassingGates rX4_findPassingGates).room s m [.ref (G.2.1 + j0a)].toArray below meth c G Post H locs (F0 m 78 ls [.int t0]) := by
    intro A61 hA61 M j0 x1 x2 t0 H locs ls hP hS hl hk_j0 h
    unfold bX4_findPassingGates_78 at h
    refine lv_istore_n (lv' := [(3, .int t0), (0, .ref (G.2.1 + j0)), (1, .int x1), (2, .int x2)]) hx hb dX4_findPassingGates_78 rfl hl (by decide) rfl (fun ls hl => ?_)
    refine lv_iload_n hx hb dX4_findPassingGates_79 rfl (lv_at hl 0 rfl) ?_
    refine lv_if_eq (tgt := 97) hx hb dX4_findPassingGates_80 (by decide) (fun c14 => ?_) (fun c14 => ?_)
    · replace h := h.1 c14
      exact B97 _ hA61 _ _ _ _ _ _ _ _ hP hS (lv_sub hl [1, 2, 3, 0] rfl) hk_j0 h
    · replace h := h.2 c14
      refine lv_iload_n hx hb dX4_findPassingGates_83 rfl (lv_at hl 2 rfl) ?_
      refine lv_iconst (v := (1 : Int32)) hx hb dX4_findPassingGates_84 k_iconst_1 ?_
      refine lv_aload_n hx hb dX4_findPassingGates_85 rfl (lv_at hl 1 rfl) ?_
      refine rk_getr hx hb hts inlX4 hown hK hP hk_j0 cl_4 0 1 fq_4_0 q_2_4 rfl dX4_findPassingGates_86 ?_
      refine rk_getr hx hb hts inlX0 hown hK hP (ky_4_0 hk_j0) cl_0 2 1 fq_0_2 q_7_20 rfl dX4_findPassingGates_89 ?_
      refine lv_iload_n hx hb dX4_findPassingGates_92 rfl (lv_at hl 3 rfl) ?_
      refine rk_iald hx hb hK hP (ky_0_2 (ky_4_0 hk_j0)) ac_8 _ rfl h.1 dX4_findPassingGates_93 ?_
      replace h := h.2
      refine lv_ishl hx hb dX4_findPassingGates_94 ?_
      refine lv_ior hx hb dX4_findPassingGates_95 ?_
      refine lv_topi (fun x1_15 ex1_15 => ?_)
      replace h := h x1_15 ex1_15
      refine lv_istore_n (lv' := [(1, .int x1_15), (3, .int t0), (0, .ref (G.2.1 + j0)), (2, .int x2)]) hx hb dX4_findPassingGates_96 rfl hl (by decide) rfl (fun ls hl => ?_)
      exact B97 _ hA61 _ _ _ _ _ _ _ _ hP hS (lv_sub hl [2, 0, 3, 1] rfl) hk_j0 h
  have B61 : ∀ n : Nat, ∀ (M : Mm) (j0 : Nat) (x1 : Int32) (x2 : Int32) (H : Heap) (locs : List Loc) (ls : Array Slot), Rp G M H → va_S (Fr G) s.heap H locs → lv_has ls 4 [(0, .ref (G.2.1 + j0)), (1, .int x1), (2, .int x2)] → kd j0 = 4 → lX4_findPassingGates_61 Post n M j0 x1 x2 → Wv p l e (headSpec wsX4_findPassingGates rX4_findPassingGates).room s m [.ref (G.2.1 + j0a)].toArray below meth c G Post H locs (F0 m 61 ls []) := by
    intro n
    induction n with
    | zero => intro M j0 x1 x2 H locs ls hP hS hl hk_j0 h; exact h.elim
    | succ n ih =>
      intro M j0 x1 x2 H locs ls hP hS hl hk_j0 h
      have hA61 := ih
      replace h : bX4_findPassingGates_61 Post (lX4_findPassingGates_61 Post n) M j0 x1 x2 := h
      unfold bX4_findPassingGates_61 at h
      refine lv_iload_n hx hb dX4_findPassingGates_61 rfl (lv_at hl 2 rfl) ?_
      refine lv_if_le (tgt := 143) hx hb dX4_findPassingGates_62 (by decide) (fun c12 => ?_) (fun c12 => ?_)
      · replace h := h.1 c12
        exact re_v hx hb hr hlocks hP hS h dX4_findPassingGates_143
      · replace h := h.2 c12
        refine lv_iload_n hx hb dX4_findPassingGates_65 rfl (lv_at hl 1 rfl) ?_
        refine lv_iconst (v := (1 : Int32)) hx hb dX4_findPassingGates_66 k_iconst_1 ?_
        refine lv_iload_n hx hb dX4_findPassingGates_67 rfl (lv_at hl 2 rfl) ?_
        refine lv_ishl hx hb dX4_findPassingGates_68 ?_
        refine lv_iand hx hb dX4_findPassingGates_69 ?_
        refine lv_if_eq (tgt := 77) hx hb dX4_findPassingGates_70 (by decide) (fun c13 => ?_) (fun c13 => ?_)
        · replace h := h.1 c13
          refine lv_iconst (v := (0 : Int32)) hx hb dX4_findPassingGates_77 k_iconst_0 ?_
          exact B78 _ hA61 _ _ _ _ _ _ _ _ hP hS (lv_sub hl [0, 1, 2] rfl) hk_j0 h
        · replace h := h.2 c13
          refine lv_iconst (v := (1 : Int32)) hx hb dX4_findPassingGates_73 k_iconst_1 ?_
          refine lv_goto (tgt := 78) hx hb dX4_findPassingGates_74 (by decide) ?_
          exact B78 _ hA61 _ _ _ _ _ _ _ _ hP hS (lv_sub hl [0, 1, 2] rfl) hk_j0 h
  have B4 : ∀ n : Nat, ∀ (M : Mm) (j0 : Nat) (x1 : Int32) (x2 : Int32) (H : Heap) (locs : List Loc) (ls : Array Slot), Rp G M H → va_S (Fr G) s.heap H locs → lv_has ls 4 [(0, .ref (G.2.1 + j0)), (1, .int x1), (2, .int x2)] → kd j0 = 4 → lX4_findPassingGates_4 Post n M j0 x1 x2 → Wv p l e (headSpec wsX4_findPassingGates rX4_findPassingGates).room s m [.ref (G.2.1 + j0a)].toArray below meth c G Post H locs (F0 m 4 ls []) := by
    intro n
    induction n with
    | zero => intro M j0 x1 x2 H locs ls hP hS hl hk_j0 h; exact h.elim
    | succ n ih =>
      intro M j0 x1 x2 H locs ls hP hS hl hk_j0 h
      have hA4 := ih
      replace h : bX4_findPassingGates_4 Post (lX4_findPassingGates_4 Post n) M j0 x1 x2 := h
      unfold bX4_findPassingGates_4 at h
      refine lv_iload_n hx hb dX4_findPassingGates_4 rfl (lv_at hl 2 rfl) ?_
      refine lv_aload_n hx hb dX4_findPassingGates_5 rfl (lv_at hl 0 rfl) ?_
      refine rk_getr hx hb hts inlX4 hown hK hP hk_j0 cl_4 1 10 fq_4_1 q_2_8 rfl dX4_findPassingGates_6 ?_
      refine rk_geti hx hb hts inlX1 hown hK hP (ky_4_1 hk_j0) cl_1 0 fq_1_0 q_7_12 rfl dX4_findPassingGates_9 ?_
      refine lv_icmp_ge (tgt := 46) hx hb dX4_findPassingGates_12 (by decide) (fun c2 => ?_) (fun c2 => ?_)
      · replace h := h.1 c2
        refine lv_aload_n hx hb dX4_findPassingGates_46 rfl (lv_at hl 0 rfl) ?_
        refine lv_iconst (v := (0 : Int32)) hx hb dX4_findPassingGates_47 k_iconst_0 ?_
        refine rk_puti hx hb hts inlX4 tyX4 tyX4_ok nmX4 hown hK hP hS hk_j0 cl_4 10 fq_4_10 q_15_18 rfl rfl rfl dX4_findPassingGates_48 (fun M3 eM3 H locs hP hS => ?_)
        replace h := h M3 eM3
        refine lv_aload_n hx hb dX4_findPassingGates_51 rfl (lv_at hl 0 rfl) ?_
        refine rk_getr hx hb hts inlX4 hown hK hP hk_j0 cl_4 0 1 fq_4_0 q_2_4 rfl dX4_findPassingGates_52 ?_
        refine rk_geti hx hb hts inlX0 hown hK hP (ky_4_0 hk_j0) cl_0 0 fq_0_0 q_7_19 rfl dX4_findPassingGates_55 ?_
        refine lv_iconst (v := (1 : Int32)) hx hb dX4_findPassingGates_58 k_iconst_1 ?_
        refine lv_isub hx hb dX4_findPassingGates_59 ?_
        refine lv_topi (fun x2_4 ex2_4 => ?_)
        replace h := h x2_4 ex2_4
        refine lv_istore_n (lv' := [(2, .int x2_4), (0, .ref (G.2.1 + j0)), (1, .int x1)]) hx hb dX4_findPassingGates_60 rfl hl (by decide) rfl (fun ls hl => ?_)
        obtain ⟨n5, h⟩ := h
        exact B61 _ _ _ _ _ _ _ _ hP hS (lv_sub hl [1, 2, 0] rfl) hk_j0 h
      · replace h := h.2 c2
        refine lv_aload_n hx hb dX4_findPassingGates_15 rfl (lv_at hl 0 rfl) ?_
        refine rk_getr hx hb hts inlX4 hown hK hP hk_j0 cl_4 1 10 fq_4_1 q_2_8 rfl dX4_findPassingGates_16 ?_
        refine lv_iload_n hx hb dX4_findPassingGates_19 rfl (lv_at hl 2 rfl) ?_
        refine rc_Vi (As := [.int x2]) (rest := []) ⟨hx, hb, hml, hown, hts⟩ (mX1_wants l G (j0 + 10) x2 M _ (ky_4_1 hk_j0) h) (cwV 1 hts (gV_X1_wants q_15_20) rfl rfl rfl hdV_X1_wants ⟨Nat.le_of_ble_eq_true rfl, Nat.le_of_ble_eq_true rfl⟩) hK hP hS (ky_4_1 hk_j0) (by decide) cl_1 rfl hl.1 rfl (Nat.le_of_ble_eq_true rfl) dX4_findPassingGates_20 ⟨Nat.zero_le _, Nat.zero_le _⟩ (fun r7 M6 H locs h hP hS => ?_)
        refine lv_if_eq (tgt := 40) hx hb dX4_findPassingGates_23 (by decide) (fun c8 => ?_) (fun c8 => ?_)
        · replace h := h.1 c8
          obtain ⟨x2_9, ex2_9⟩ : ∃ y : Int32, y = x2 + (1 : Int32) := ⟨_, rfl⟩
          replace h := h x2_9 ex2_9
          refine lv_iinc (v := x2_9) (lv' := [(2, .int x2_9), (0, .ref (G.2.1 + j0)), (1, .int x1)]) hx hb dX4_findPassingGates_40 hl (k := 2) rfl (by rw [ex2_9]; rfl) (by decide) rfl (fun ls hl => ?_)
          refine lv_goto (tgt := 4) hx hb dX4_findPassingGates_43 (by decide) ?_
          exact hA4 _ _ _ _ _ _ _ hP hS (lv_sub hl [1, 2, 0] rfl) hk_j0 h
        · replace h := h.2 c8
          refine lv_iload_n hx hb dX4_findPassingGates_26 rfl (lv_at hl 1 rfl) ?_
          refine lv_iconst (v := (1 : Int32)) hx hb dX4_findPassingGates_27 k_iconst_1 ?_
          refine lv_aload_n hx hb dX4_findPassingGates_28 rfl (lv_at hl 0 rfl) ?_
          refine rk_getr hx hb hts inlX4 hown hK hP hk_j0 cl_4 1 10 fq_4_1 q_2_8 rfl dX4_findPassingGates_29 ?_
          refine rk_getr hx hb hts inlX1 hown hK hP (ky_4_1 hk_j0) cl_1 2 1 fq_1_2 q_7_13 rfl dX4_findPassingGates_32 ?_
          refine lv_iload_n hx hb dX4_findPassingGates_35 rfl (lv_at hl 2 rfl) ?_
          refine rk_iald hx hb hK hP (ky_1_2 (ky_4_1 hk_j0)) ac_9 _ rfl h.1 dX4_findPassingGates_36 ?_
          replace h := h.2
          refine lv_ishl hx hb dX4_findPassingGates_37 ?_
          refine lv_ior hx hb dX4_findPassingGates_38 ?_
          refine lv_topi (fun x1_10 ex1_10 => ?_)
          replace h := h x1_10 ex1_10
          refine lv_istore_n (lv' := [(1, .int x1_10), (0, .ref (G.2.1 + j0)), (2, .int x2)]) hx hb dX4_findPassingGates_39 rfl hl (by decide) rfl (fun ls hl => ?_)
          obtain ⟨x2_11, ex2_11⟩ : ∃ y : Int32, y = x2 + (1 : Int32) := ⟨_, rfl⟩
          replace h := h x2_11 ex2_11
          refine lv_iinc (v := x2_11) (lv' := [(2, .int x2_11), (1, .int x1_10), (0, .ref (G.2.1 + j0))]) hx hb dX4_findPassingGates_40 hl (k := 2) rfl (by rw [ex2_11]; rfl) (by decide) rfl (fun ls hl => ?_)
          refine lv_goto (tgt := 4) hx hb dX4_findPassingGates_43 (by decide) ?_
          exact hA4 _ _ _ _ _ _ _ hP hS (lv_sub hl [2, 1, 0] rfl) hk_j0 h
  unfold wX4_findPassingGates at h
  refine lv_iconst (v := (0 : Int32)) hx hb dX4_findPassingGates_0 k_iconst_0 ?_
  refine lv_istore_n (lv' := [(1, .int (0 : Int32)), (0, .ref (G.2.1 + j0a))]) hx hb dX4_findPassingGates_1 rfl hl (by decide) rfl (fun ls hl => ?_)
  refine lv_iconst (v := (0 : Int32)) hx hb dX4_findPassingGates_2 k_iconst_0 ?_
  refine lv_istore_n (lv' := [(2, .int (0 : Int32)), (1, .int (0 : Int32)), (0, .ref (G.2.1 + j0a))]) hx hb dX4_findPassingGates_3 rfl hl (by decide) rfl (fun ls hl => ?_)
  obtain ⟨n1, h⟩ := h
  exact B4 _ _ _ _ _ _ _ _ hP hS (lv_sub hl [2, 1, 0] rfl) hk_j0a h
set_option maxHeartbeats 4000000 in
set_option maxRecDepth 100000 in
theorem mX4_seepAway (l : Launch) (G : Gp) (j0a : Nat) (x1a : Int32) (x2a : Int32) (M : Mm) (Post : Mm → Int32 → Prop) (hk_j0a : kd j0a = 4) (h : wX4_seepAway Post M j0a x1a x2a) : CtI l yX4_seepAway wsX4_seepAway rX4_seepAway G [.ref (G.2.1 + j0a), .int x1a, .int x2a] M Post := by
  refine Met.ofW (cc := cX4_seepAway) (maxL := 4) (ret := (some .int)) (by decide) rfl ?_
  intro p e s m args below meth c s₁ B hml hv
  obtain ⟨rfl, hK, hP⟩ := hv
  have hx := B.exec
  have hb := B.bytes
  have hr := B.returns
  have hlocks := B.notSynchronized
  have hts0 := atoms_spec (ws := wsX4_seepAway) B.pre
  have hts : ∀ w ∈ wsL_law, w.before _ s = true := fun w hw => hts0 w (List.mem_cons_of_mem _ hw)
  have hown : s.vm.findClass RX4 = some m.cls := findClass_of_methodNamed B.named
  have hS : va_S (Fr G) s.heap s.heap [] := va_S.rf
  have hl := lv_entry ([.ref (G.2.1 + j0a), .int x1a, .int x2a]) (n := 4) (Nat.le_of_ble_eq_true rfl)
  rw [lg_entry_eq]
  generalize (lg_sl ([.ref (G.2.1 + j0a), .int x1a, .int x2a]) ++ List.replicate (4 - (lg_sl ([.ref (G.2.1 + j0a), .int x1a, .int x2a])).length) Slot.unset).toArray = ls at hl ⊢
  have hl : lv_has ls 4 [(0, .ref (G.2.1 + j0a)), (1, .int x1a), (2, .int x2a)] := hl
  unfold wX4_seepAway at h
  refine lv_iload_n hx hb dX4_seepAway_0 rfl (lv_at hl 2 rfl) ?_
  refine lv_aload_n hx hb dX4_seepAway_1 rfl (lv_at hl 0 rfl) ?_
  refine rk_getr hx hb hts inlX4 hown hK hP hk_j0a cl_4 0 1 fq_4_0 q_2_4 rfl dX4_seepAway_2 ?_
  refine rk_getr hx hb hts inlX0 hown hK hP (ky_4_0 hk_j0a) cl_0 5 4 fq_0_5 q_16_1 rfl dX4_seepAway_5 ?_
  refine lv_iload_n hx hb dX4_seepAway_8 rfl (lv_at hl 1 rfl) ?_
  refine rk_iald hx hb hK hP (ky_0_5 (ky_4_0 hk_j0a)) ac_8 _ rfl h.1 dX4_seepAway_9 ?_
  replace h := h.2
  refine lv_imul hx hb dX4_seepAway_10 ?_
  refine lv_sipush (v := (999 : Int32)) hx hb dX4_seepAway_11 k_sipush_999 ?_
  refine lv_iadd hx hb dX4_seepAway_14 ?_
  refine lv_sipush (v := (1000 : Int32)) hx hb dX4_seepAway_15 k_sipush_1000 ?_
  refine lv_idiv hx hb dX4_seepAway_18 (by decide) ?_
  refine lv_topi (fun x3_1 ex3_1 => ?_)
  replace h := h x3_1 ex3_1
  refine lv_istore_n (lv' := [(3, .int x3_1), (0, .ref (G.2.1 + j0a)), (1, .int x1a), (2, .int x2a)]) hx hb dX4_seepAway_19 rfl hl (by decide) rfl (fun ls hl => ?_)
  refine lv_aload_n hx hb dX4_seepAway_20 rfl (lv_at hl 1 rfl) ?_
  refine rk_getr hx hb hts inlX4 hown hK hP hk_j0a cl_4 0 1 fq_4_0 q_2_4 rfl dX4_seepAway_21 ?_
  refine rk_getr hx hb hts inlX0 hown hK hP (ky_4_0 hk_j0a) cl_0 8 7 fq_0_8 q_16_2 rfl dX4_seepAway_24 ?_
  refine lv_iload_n hx hb dX4_seepAway_27 rfl (lv_at hl 2 rfl) ?_
  refine lv_dup2_11 hx hb dX4_seepAway_28 rfl rfl ?_
  refine rk_iald hx hb hK hP (ky_0_8 (ky_4_0 hk_j0a)) ac_8 _ rfl h.1 dX4_seepAway_29 ?_
  replace h := h.2
  refine lv_iload_n hx hb dX4_seepAway_30 rfl (lv_at hl 0 rfl) ?_
  refine lv_iadd hx hb dX4_seepAway_31 ?_
  refine rk_iast hx hb hK hP hS (ky_0_8 (ky_4_0 hk_j0a)) ac_8 _ rfl h.1 dX4_seepAway_32 (fun M2 eM2 H locs hP hS => ?_)
  replace h := h.2
  replace h := h M2 eM2
  refine lv_aload_n hx hb dX4_seepAway_33 rfl (lv_at hl 1 rfl) ?_
  refine lv_dup hx hb dX4_seepAway_34 rfl ?_
  refine rk_geti hx hb hts inlX4 hown hK hP hk_j0a cl_4 6 fq_4_6 q_10_19 rfl dX4_seepAway_35 ?_
  refine lv_iload_n hx hb dX4_seepAway_38 rfl (lv_at hl 0 rfl) ?_
  refine lv_iadd hx hb dX4_seepAway_39 ?_
  refine rk_puti hx hb hts inlX4 tyX4 tyX4_ok nmX4 hown hK hP hS hk_j0a cl_4 6 fq_4_6 q_10_19 rfl rfl rfl dX4_seepAway_40 (fun M3 eM3 H locs hP hS => ?_)
  replace h := h M3 eM3
  refine lv_iload_n hx hb dX4_seepAway_43 rfl (lv_at hl 0 rfl) ?_
  exact re_i hx hb hr hlocks hP hS h dX4_seepAway_44
set_option maxHeartbeats 4000000 in
set_option maxRecDepth 100000 in
theorem mX4_mayTake (l : Launch) (G : Gp) (j0a : Nat) (x1a : Int32) (M : Mm) (Post : Mm → Int32 → Prop) (hk_j0a : kd j0a = 4) (h : wX4_mayTake Post M j0a x1a) : CtI l yX4_mayTake wsX4_mayTake rX4_mayTake G [.ref (G.2.1 + j0a), .int x1a] M Post := by
  refine Met.ofW (cc := cX4_mayTake) (maxL := 2) (ret := (some .boolean)) (by decide) rfl ?_
  intro p e s m args below meth c s₁ B hml hv
  obtain ⟨rfl, hK, hP⟩ := hv
  have hx := B.exec
  have hb := B.bytes
  have hr := B.returns
  have hlocks := B.notSynchronized
  have hts0 := atoms_spec (ws := wsX4_mayTake) B.pre
  have hts : ∀ w ∈ wsL_law, w.before _ s = true := fun w hw => hts0 w (List.mem_cons_of_mem _ hw)
  have hown : s.vm.findClass RX4 = some m.cls := findClass_of_methodNamed B.named
  have hS : va_S (Fr G) s.heap s.heap [] := va_S.rf
  have hl := lv_entry ([.ref (G.2.1 + j0a), .int x1a]) (n := 2) (Nat.le_of_ble_eq_true rfl)
  rw [lg_entry_eq]
  generalize (lg_sl ([.ref (G.2.1 + j0a), .int x1a]) ++ List.replicate (2 - (lg_sl ([.ref (G.2.1 + j0a), .int x1a])).length) Slot.unset).toArray = ls at hl ⊢
  have hl : lv_has ls 2 [(0, .ref (G.2.1 + j0a)), (1, .int x1a)] := hl
  unfold wX4_mayTake at h
  refine lv_aload_n hx hb dX4_mayTake_0 rfl (lv_at hl 0 rfl) ?_
  refine rk_getr hx hb hts inlX4 hown hK hP hk_j0a cl_4 9 22 fq_4_9 q_2_15 rfl dX4_mayTake_1 ?_
  refine lv_aload_n hx hb dX4_mayTake_4 rfl (lv_at hl 0 rfl) ?_
  refine rk_getr hx hb hts inlX4 hown hK hP hk_j0a cl_4 1 10 fq_4_1 q_2_8 rfl dX4_mayTake_5 ?_
  refine rk_getr hx hb hts inlX1 hown hK hP (ky_4_1 hk_j0a) cl_1 2 1 fq_1_2 q_7_13 rfl dX4_mayTake_8 ?_
  refine lv_iload_n hx hb dX4_mayTake_11 rfl (lv_at hl 1 rfl) ?_
  refine rk_iald hx hb hK hP (ky_1_2 (ky_4_1 hk_j0a)) ac_9 _ rfl h.1 dX4_mayTake_12 ?_
  replace h := h.2
  refine rk_iald hx hb hK hP (ky_4_9 hk_j0a) ac_8 _ rfl h.1 dX4_mayTake_13 ?_
  replace h := h.2
  refine lv_aload_n hx hb dX4_mayTake_14 rfl (lv_at hl 0 rfl) ?_
  refine rk_getr hx hb hts inlX4 hown hK hP hk_j0a cl_4 1 10 fq_4_1 q_2_8 rfl dX4_mayTake_15 ?_
  refine rk_getr hx hb hts inlX1 hown hK hP (ky_4_1 hk_j0a) cl_1 5 4 fq_1_5 q_7_14 rfl dX4_mayTake_18 ?_
  refine lv_iload_n hx hb dX4_mayTake_21 rfl (lv_at hl 1 rfl) ?_
  refine rk_iald hx hb hK hP (ky_1_5 (ky_4_1 hk_j0a)) ac_9 _ rfl h.1 dX4_mayTake_22 ?_
  replace h := h.2
  refine lv_icmp_lt (tgt := 30) hx hb dX4_mayTake_23 (by decide) (fun c1 => ?_) (fun c1 => ?_)
  · replace h := h.1 c1
    refine lv_iconst (v := (0 : Int32)) hx hb dX4_mayTake_30 k_iconst_0 ?_
    exact re_z hx hb hr hlocks (Or.inl rfl) hP hS h dX4_mayTake_31
  · replace h := h.2 c1
    refine lv_iconst (v := (1 : Int32)) hx hb dX4_mayTake_26 k_iconst_1 ?_
    refine lv_goto (tgt := 31) hx hb dX4_mayTake_27 (by decide) ?_
    exact re_z hx hb hr hlocks (Or.inr rfl) hP hS h dX4_mayTake_31
set_option maxHeartbeats 4000000 in
set_option maxRecDepth 100000 in
theorem mX4_giveToFields (l : Launch) (G : Gp) (j0a : Nat) (x1a : Int32) (x2a : Int32) (M : Mm) (Post : Mm → Int32 → Prop) (hk_j0a : kd j0a = 4) (h : wX4_giveToFields Post M j0a x1a x2a) : CtI l yX4_giveToFields wsX4_giveToFields rX4_giveToFields G [.ref (G.2.1 + j0a), .int x1a, .int x2a] M Post := by
  refine Met.ofW (cc := cX4_giveToFields) (maxL := 6) (ret := (some .int)) (by decide) rfl ?_
  intro p e s m args below meth c s₁ B hml hv
  obtain ⟨rfl, hK, hP⟩ := hv
  have hx := B.exec
  have hb := B.bytes
  have hr := B.returns
  have hlocks := B.notSynchronized
  have hts0 := atoms_spec (ws := wsX4_giveToFields) B.pre
  have hts : ∀ w ∈ wsL_law, w.before _ s = true := fun w hw => hts0 w (List.mem_cons_of_mem _ hw)
  have hown : s.vm.findClass RX4 = some m.cls := findClass_of_methodNamed B.named
  have hS : va_S (Fr G) s.heap s.heap [] := va_S.rf
  have hl := lv_entry ([.ref (G.2.1 + j0a), .int x1a, .int x2a]) (n := 6) (Nat.le_of_ble_eq_true rfl)
  rw [lg_entry_eq]
  generalize (lg_sl ([.ref (G.2.1 + j0a), .int x1a, .int x2a]) ++ List.replicate (6 - (lg_sl ([.ref (G.2.1 + j0a), .int x1a, .int x2a])).length) Slot.unset).toArray = ls at hl ⊢
  have hl : lv_has ls 6 [(0, .ref (G.2.1 + j0a)), (1, .int x1a), (2, .int x2a)] := hl
  have B5 : ∀ n : Nat, ∀ (M : Mm) (j0 : Nat) (x1 : Int32) (x2 : Int32) (x3 : Int32) (x4 : Int32) (H : Heap) (locs : List Loc) (ls : Array Slot), Rp G M H → va_S (Fr G) s.heap H locs → lv_has ls 6 [(0, .ref (G.2.1 + j0)), (1, .int x1), (2, .int x2), (3, .int x3), (4, .int x4)] → kd j0 = 4 → lX4_giveToFields_5 Post n M j0 x1 x2 x3 x4 → Wi p l e (headSpec wsX4_giveToFields rX4_giveToFields).room s m [.ref (G.2.1 + j0a), .int x1a, .int x2a].toArray below meth c G Post H locs (F0 m 5 ls []) := by
    intro n
    induction n with
    | zero => intro M j0 x1 x2 x3 x4 H locs ls hP hS hl hk_j0 h; exact h.elim
    | succ n ih =>
      intro M j0 x1 x2 x3 x4 H locs ls hP hS hl hk_j0 h
      have hA5 := ih
      replace h : bX4_giveToFields_5 Post (lX4_giveToFields_5 Post n) M j0 x1 x2 x3 x4 := h
      unfold bX4_giveToFields_5 at h
      refine lv_iload hx hb dX4_giveToFields_5 (lv_at hl 4 rfl) ?_
      refine lv_aload_n hx hb dX4_giveToFields_7 rfl (lv_at hl 0 rfl) ?_
      refine rk_getr hx hb hts inlX4 hown hK hP hk_j0 cl_4 1 10 fq_4_1 q_2_8 rfl dX4_giveToFields_8 ?_
      refine rk_geti hx hb hts inlX1 hown hK hP (ky_4_1 hk_j0) cl_1 0 fq_1_0 q_7_12 rfl dX4_giveToFields_11 ?_
      refine lv_icmp_ge (tgt := 87) hx hb dX4_giveToFields_14 (by decide) (fun c2 => ?_) (fun c2 => ?_)
      · replace h := h.1 c2
        refine lv_aload_n hx hb dX4_giveToFields_87 rfl (lv_at hl 0 rfl) ?_
        refine lv_dup hx hb dX4_giveToFields_88 rfl ?_
        refine rk_geti hx hb hts inlX4 hown hK hP hk_j0 cl_4 5 fq_4_5 q_10_18 rfl dX4_giveToFields_89 ?_
        refine lv_iload_n hx hb dX4_giveToFields_92 rfl (lv_at hl 2 rfl) ?_
        refine lv_iload_n hx hb dX4_giveToFields_93 rfl (lv_at hl 3 rfl) ?_
        refine lv_isub hx hb dX4_giveToFields_94 ?_
        refine lv_iadd hx hb dX4_giveToFields_95 ?_
        refine rk_puti hx hb hts inlX4 tyX4 tyX4_ok nmX4 hown hK hP hS hk_j0 cl_4 5 fq_4_5 q_10_18 rfl rfl rfl dX4_giveToFields_96 (fun M3 eM3 H locs hP hS => ?_)
        replace h := h M3 eM3
        refine lv_iload_n hx hb dX4_giveToFields_99 rfl (lv_at hl 2 rfl) ?_
        refine lv_iload_n hx hb dX4_giveToFields_100 rfl (lv_at hl 3 rfl) ?_
        refine lv_isub hx hb dX4_giveToFields_101 ?_
        exact re_i hx hb hr hlocks hP hS h dX4_giveToFields_102
      · replace h := h.2 c2
        refine lv_aload_n hx hb dX4_giveToFields_17 rfl (lv_at hl 0 rfl) ?_
        refine rk_getr hx hb hts inlX4 hown hK hP hk_j0 cl_4 1 10 fq_4_1 q_2_8 rfl dX4_giveToFields_18 ?_
        refine rk_getr hx hb hts inlX1 hown hK hP (ky_4_1 hk_j0) cl_1 8 7 fq_1_8 q_16_7 rfl dX4_giveToFields_21 ?_
        refine lv_iload hx hb dX4_giveToFields_24 (lv_at hl 4 rfl) ?_
        refine rk_iald hx hb hK hP (ky_1_8 (ky_4_1 hk_j0)) ac_9 _ rfl h.1 dX4_giveToFields_26 ?_
        replace h := h.2
        refine lv_topi (fun x5_4 ex5_4 => ?_)
        replace h := h x5_4 ex5_4
        refine lv_istore (lv' := [(5, .int x5_4), (0, .ref (G.2.1 + j0)), (1, .int x1), (2, .int x2), (3, .int x3), (4, .int x4)]) hx hb dX4_giveToFields_27 hl (by decide) rfl (fun ls hl => ?_)
        refine lv_aload_n hx hb dX4_giveToFields_29 rfl (lv_at hl 1 rfl) ?_
        refine rk_getr hx hb hts inlX4 hown hK hP hk_j0 cl_4 1 10 fq_4_1 q_2_8 rfl dX4_giveToFields_30 ?_
        refine rk_getr hx hb hts inlX1 hown hK hP (ky_4_1 hk_j0) cl_1 2 1 fq_1_2 q_7_13 rfl dX4_giveToFields_33 ?_
        refine lv_iload hx hb dX4_giveToFields_36 (lv_at hl 0 rfl) ?_
        refine rk_iald hx hb hK hP (ky_1_2 (ky_4_1 hk_j0)) ac_9 _ rfl h.1 dX4_giveToFields_38 ?_
        replace h := h.2
        refine lv_iload_n hx hb dX4_giveToFields_39 rfl (lv_at hl 2 rfl) ?_
        refine lv_icmp_ne (tgt := 81) hx hb dX4_giveToFields_40 (by decide) (fun c5 => ?_) (fun c5 => ?_)
        · replace h := h.1 c5
          obtain ⟨x4_6, ex4_6⟩ : ∃ y : Int32, y = x4 + (1 : Int32) := ⟨_, rfl⟩
          replace h := h x4_6 ex4_6
          refine lv_iinc (v := x4_6) (lv' := [(4, .int x4_6), (5, .int x5_4), (0, .ref (G.2.1 + j0)), (1, .int x1), (2, .int x2), (3, .int x3)]) hx hb dX4_giveToFields_81 hl (k := 5) rfl (by rw [ex4_6]; rfl) (by decide) rfl (fun ls hl => ?_)
          refine lv_goto (tgt := 5) hx hb dX4_giveToFields_84 (by decide) ?_
          exact hA5 _ _ _ _ _ _ _ _ _ hP hS (lv_sub hl [2, 3, 4, 5, 0] rfl) hk_j0 h
        · replace h := h.2 c5
          refine lv_aload_n hx hb dX4_giveToFields_43 rfl (lv_at hl 1 rfl) ?_
          refine rk_getr hx hb hts inlX4 hown hK hP hk_j0 cl_4 1 10 fq_4_1 q_2_8 rfl dX4_giveToFields_44 ?_
          refine lv_iload hx hb dX4_giveToFields_47 (lv_at hl 0 rfl) ?_
          refine rc_Vi (As := [.int x5_4]) (rest := []) ⟨hx, hb, hml, hown, hts⟩ (mX1_wants l G (j0 + 10) x5_4 M _ (ky_4_1 hk_j0) h) (cwV 1 hts (gV_X1_wants q_15_20) rfl rfl rfl hdV_X1_wants ⟨Nat.le_of_ble_eq_true rfl, Nat.le_of_ble_eq_true rfl⟩) hK hP hS (ky_4_1 hk_j0) (by decide) cl_1 rfl hl.1 rfl (Nat.le_of_ble_eq_true rfl) dX4_giveToFields_49 ⟨Nat.zero_le _, Nat.zero_le _⟩ (fun r8 M7 H locs h hP hS => ?_)
          refine lv_if_eq (tgt := 81) hx hb dX4_giveToFields_52 (by decide) (fun c9 => ?_) (fun c9 => ?_)
          · replace h := h.1 c9
            obtain ⟨x4_10, ex4_10⟩ : ∃ y : Int32, y = x4 + (1 : Int32) := ⟨_, rfl⟩
            replace h := h x4_10 ex4_10
            refine lv_iinc (v := x4_10) (lv' := [(4, .int x4_10), (5, .int x5_4), (0, .ref (G.2.1 + j0)), (1, .int x1), (2, .int x2), (3, .int x3)]) hx hb dX4_giveToFields_81 hl (k := 5) rfl (by rw [ex4_10]; rfl) (by decide) rfl (fun ls hl => ?_)
            refine lv_goto (tgt := 5) hx hb dX4_giveToFields_84 (by decide) ?_
            exact hA5 _ _ _ _ _ _ _ _ _ hP hS (lv_sub hl [2, 3, 4, 5, 0] rfl) hk_j0 h
          · replace h := h.2 c9
            refine lv_aload_n hx hb dX4_giveToFields_55 rfl (lv_at hl 1 rfl) ?_
            refine lv_iload hx hb dX4_giveToFields_56 (lv_at hl 0 rfl) ?_
            refine rc_Vi (As := [.int x5_4]) (rest := []) ⟨hx, hb, hml, hown, hts⟩ (mX4_mayTake l G j0 x5_4 M7 _ hk_j0 h) (cwV 1 hts (gV_X4_mayTake q_16_8) rfl rfl rfl hdV_X4_mayTake ⟨Nat.le_of_ble_eq_true rfl, Nat.le_of_ble_eq_true rfl⟩) hK hP hS hk_j0 (by decide) cl_4 rfl hl.1 rfl (Nat.le_of_ble_eq_true rfl) dX4_giveToFields_58 ⟨Nat.zero_le _, Nat.zero_le _⟩ (fun r12 M11 H locs h hP hS => ?_)
            refine lv_if_eq (tgt := 81) hx hb dX4_giveToFields_61 (by decide) (fun c13 => ?_) (fun c13 => ?_)
            · replace h := h.1 c13
              obtain ⟨x4_14, ex4_14⟩ : ∃ y : Int32, y = x4 + (1 : Int32) := ⟨_, rfl⟩
              replace h := h x4_14 ex4_14
              refine lv_iinc (v := x4_14) (lv' := [(4, .int x4_14), (5, .int x5_4), (0, .ref (G.2.1 + j0)), (1, .int x1), (2, .int x2), (3, .int x3)]) hx hb dX4_giveToFields_81 hl (k := 5) rfl (by rw [ex4_14]; rfl) (by decide) rfl (fun ls hl => ?_)
              refine lv_goto (tgt := 5) hx hb dX4_giveToFields_84 (by decide) ?_
              exact hA5 _ _ _ _ _ _ _ _ _ hP hS (lv_sub hl [2, 3, 4, 5, 0] rfl) hk_j0 h
            · replace h := h.2 c13
              refine lv_iload_n hx hb dX4_giveToFields_64 rfl (lv_at hl 4 rfl) ?_
              refine lv_aload_n hx hb dX4_giveToFields_65 rfl (lv_at hl 1 rfl) ?_
              refine rk_getr hx hb hts inlX4 hown hK hP hk_j0 cl_4 1 10 fq_4_1 q_2_8 rfl dX4_giveToFields_66 ?_
              refine lv_iload hx hb dX4_giveToFields_69 (lv_at hl 0 rfl) ?_
              refine lv_iload_n hx hb dX4_giveToFields_71 rfl (lv_at hl 4 rfl) ?_
              refine lv_aload_n hx hb dX4_giveToFields_72 rfl (lv_at hl 1 rfl) ?_
              refine rk_geti hx hb hts inlX4 hown hK hP hk_j0 cl_4 3 fq_4_3 q_10_16 rfl dX4_giveToFields_73 ?_
              refine rc_Vi (As := [.int x5_4, .int x3, .int (M11 j0 3)]) (rest := [.int x3]) ⟨hx, hb, hml, hown, hts⟩ (mX1_give l G (j0 + 10) x5_4 x3 (M11 j0 3) M11 _ (ky_4_1 hk_j0) h) (cwV 3 hts (gV_X1_give q_16_9) rfl rfl rfl hdV_X1_give ⟨Nat.le_of_ble_eq_true rfl, Nat.le_of_ble_eq_true rfl⟩) hK hP hS (ky_4_1 hk_j0) (by decide) cl_1 rfl hl.1 rfl (Nat.le_of_ble_eq_true rfl) dX4_giveToFields_76 ⟨Nat.zero_le _, Nat.zero_le _⟩ (fun r16 M15 H locs h hP hS => ?_)
              refine lv_isub hx hb dX4_giveToFields_79 ?_
              refine lv_topi (fun x3_17 ex3_17 => ?_)
              replace h := h x3_17 ex3_17
              refine lv_istore_n (lv' := [(3, .int x3_17), (5, .int x5_4), (0, .ref (G.2.1 + j0)), (1, .int x1), (2, .int x2), (4, .int x4)]) hx hb dX4_giveToFields_80 rfl hl (by decide) rfl (fun ls hl => ?_)
              obtain ⟨x4_18, ex4_18⟩ : ∃ y : Int32, y = x4 + (1 : Int32) := ⟨_, rfl⟩
              replace h := h x4_18 ex4_18
              refine lv_iinc (v := x4_18) (lv' := [(4, .int x4_18), (3, .int x3_17), (5, .int x5_4), (0, .ref (G.2.1 + j0)), (1, .int x1), (2, .int x2)]) hx hb dX4_giveToFields_81 hl (k := 5) rfl (by rw [ex4_18]; rfl) (by decide) rfl (fun ls hl => ?_)
              refine lv_goto (tgt := 5) hx hb dX4_giveToFields_84 (by decide) ?_
              exact hA5 _ _ _ _ _ _ _ _ _ hP hS (lv_sub hl [3, 4, 5, 1, 0] rfl) hk_j0 h
  unfold wX4_giveToFields at h
  refine lv_iload_n hx hb dX4_giveToFields_0 rfl (lv_at hl 2 rfl) ?_
  refine lv_istore_n (lv' := [(3, .int x2a), (0, .ref (G.2.1 + j0a)), (1, .int x1a), (2, .int x2a)]) hx hb dX4_giveToFields_1 rfl hl (by decide) rfl (fun ls hl => ?_)
  refine lv_iconst (v := (0 : Int32)) hx hb dX4_giveToFields_2 k_iconst_0 ?_
  refine lv_istore (lv' := [(4, .int (0 : Int32)), (3, .int x2a), (0, .ref (G.2.1 + j0a)), (1, .int x1a), (2, .int x2a)]) hx hb dX4_giveToFields_3 hl (by decide) rfl (fun ls hl => ?_)
  obtain ⟨n1, h⟩ := h
  exact B5 _ _ _ _ _ _ _ _ _ _ hP hS (lv_sub hl [2, 3, 4, 1, 0] rfl) hk_j0a h
set_option maxHeartbeats 4000000 in
set_option maxRecDepth 100000 in
theorem mX4_isPassingFrom (l : Launch) (G : Gp) (j0a : Nat) (x1a : Int32) (x2a : Int32) (M : Mm) (Post : Mm → Int32 → Prop) (hk_j0a : kd j0a = 4) (h : wX4_isPassingFrom Post M j0a x1a x2a) : CtI l yX4_isPassingFrom wsX4_isPassingFrom rX4_isPassingFrom G [.ref (G.2.1 + j0a), .int x1a, .int x2a] M Post := by
  refine Met.ofW (cc := cX4_isPassingFrom) (maxL := 3) (ret := (some .boolean)) (by decide) rfl ?_
  intro p e s m args below meth c s₁ B hml hv
  obtain ⟨rfl, hK, hP⟩ := hv
  have hx := B.exec
  have hb := B.bytes
  have hr := B.returns
  have hlocks := B.notSynchronized
  have hts0 := atoms_spec (ws := wsX4_isPassingFrom) B.pre
  have hts : ∀ w ∈ wsL_law, w.before _ s = true := fun w hw => hts0 w (List.mem_cons_of_mem _ hw)
  have hown : s.vm.findClass RX4 = some m.cls := findClass_of_methodNamed B.named
  have hS : va_S (Fr G) s.heap s.heap [] := va_S.rf
  have hl := lv_entry ([.ref (G.2.1 + j0a), .int x1a, .int x2a]) (n := 3) (Nat.le_of_ble_eq_true rfl)
  rw [lg_entry_eq]
  generalize (lg_sl ([.ref (G.2.1 + j0a), .int x1a, .int x2a]) ++ List.replicate (3 - (lg_sl ([.ref (G.2.1 + j0a), .int x1a, .int x2a])).length) Slot.unset).toArray = ls at hl ⊢
  have hl : lv_has ls 3 [(0, .ref (G.2.1 + j0a)), (1, .int x1a), (2, .int x2a)] := hl
  unfold wX4_isPassingFrom at h
  refine lv_aload_n hx hb dX4_isPassingFrom_0 rfl (lv_at hl 0 rfl) ?_
  refine rk_getr hx hb hts inlX4 hown hK hP hk_j0a cl_4 0 1 fq_4_0 q_2_4 rfl dX4_isPassingFrom_1 ?_
  refine rk_getr hx hb hts inlX0 hown hK hP (ky_4_0 hk_j0a) cl_0 2 1 fq_0_2 q_7_20 rfl dX4_isPassingFrom_4 ?_
  refine lv_iload_n hx hb dX4_isPassingFrom_7 rfl (lv_at hl 2 rfl) ?_
  refine rk_iald hx hb hK hP (ky_0_2 (ky_4_0 hk_j0a)) ac_8 _ rfl h.1 dX4_isPassingFrom_8 ?_
  replace h := h.2
  refine lv_iload_n hx hb dX4_isPassingFrom_9 rfl (lv_at hl 1 rfl) ?_
  refine lv_icmp_ne (tgt := 28) hx hb dX4_isPassingFrom_10 (by decide) (fun c1 => ?_) (fun c1 => ?_)
  · replace h := h.1 c1
    refine lv_iconst (v := (0 : Int32)) hx hb dX4_isPassingFrom_28 k_iconst_0 ?_
    exact re_z hx hb hr hlocks (Or.inl rfl) hP hS h dX4_isPassingFrom_29
  · replace h := h.2 c1
    refine lv_aload_n hx hb dX4_isPassingFrom_13 rfl (lv_at hl 0 rfl) ?_
    refine rk_geti hx hb hts inlX4 hown hK hP hk_j0a cl_4 10 fq_4_10 q_15_18 rfl dX4_isPassingFrom_14 ?_
    refine lv_iconst (v := (1 : Int32)) hx hb dX4_isPassingFrom_17 k_iconst_1 ?_
    refine lv_iload_n hx hb dX4_isPassingFrom_18 rfl (lv_at hl 2 rfl) ?_
    refine lv_ishl hx hb dX4_isPassingFrom_19 ?_
    refine lv_iand hx hb dX4_isPassingFrom_20 ?_
    refine lv_if_eq (tgt := 28) hx hb dX4_isPassingFrom_21 (by decide) (fun c2 => ?_) (fun c2 => ?_)
    · replace h := h.1 c2
      refine lv_iconst (v := (0 : Int32)) hx hb dX4_isPassingFrom_28 k_iconst_0 ?_
      exact re_z hx hb hr hlocks (Or.inl rfl) hP hS h dX4_isPassingFrom_29
    · replace h := h.2 c2
      refine lv_iconst (v := (1 : Int32)) hx hb dX4_isPassingFrom_24 k_iconst_1 ?_
      refine lv_goto (tgt := 29) hx hb dX4_isPassingFrom_25 (by decide) ?_
      exact re_z hx hb hr hlocks (Or.inr rfl) hP hS h dX4_isPassingFrom_29
