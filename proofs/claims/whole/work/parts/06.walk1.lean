/-! the walks: each method keeps its predicate; printed by gen.py -/
set_option maxHeartbeats 4000000 in
set_option maxRecDepth 100000 in
theorem mX1_beginCall (l : Launch) (G : Gp) (j0a : Nat) (x1a : Int32) (M : Mm) (Post : Mm → Int32 → Prop) (hk_j0a : kd j0a = 1) (h : wX1_beginCall Post M j0a x1a) : CtI l yX1_beginCall wsX1_beginCall rX1_beginCall G [.ref (G.2.1 + j0a), .int x1a] M Post := by
  refine Met.ofW (cc := cX1_beginCall) (maxL := 2) (ret := (some .int)) (by decide) rfl ?_
  intro p e s m args below meth c s₁ B hml hv
  obtain ⟨rfl, hK, hP⟩ := hv
  have hx := B.exec
  have hb := B.bytes
  have hr := B.returns
  have hlocks := B.notSynchronized
  have hts0 := atoms_spec (ws := wsX1_beginCall) B.pre
  have hts : ∀ w ∈ wsL_law, w.before _ s = true := fun w hw => hts0 w (List.mem_cons_of_mem _ hw)
  have hown : s.vm.findClass RX1 = some m.cls := findClass_of_methodNamed B.named
  have hS : va_S (Fr G) s.heap s.heap [] := va_S.rf
  have hl := lv_entry ([.ref (G.2.1 + j0a), .int x1a]) (n := 2) (Nat.le_of_ble_eq_true rfl)
  rw [lg_entry_eq]
  generalize (lg_sl ([.ref (G.2.1 + j0a), .int x1a]) ++ List.replicate (2 - (lg_sl ([.ref (G.2.1 + j0a), .int x1a])).length) Slot.unset).toArray = ls at hl ⊢
  have hl : lv_has ls 2 [(0, .ref (G.2.1 + j0a)), (1, .int x1a)] := hl
  unfold wX1_beginCall at h
  refine lv_aload_n hx hb dX1_beginCall_0 rfl (lv_at hl 0 rfl) ?_
  refine lv_dup hx hb dX1_beginCall_1 rfl ?_
  refine rk_geti hx hb hts inlX1 hown hK hP hk_j0a cl_1 1 fq_1_1 q_6_19 rfl dX1_beginCall_2 ?_
  refine lv_iconst (v := (1 : Int32)) hx hb dX1_beginCall_5 k_iconst_1 ?_
  refine lv_iload_n hx hb dX1_beginCall_6 rfl (lv_at hl 1 rfl) ?_
  refine lv_ishl hx hb dX1_beginCall_7 ?_
  refine lv_ior hx hb dX1_beginCall_8 ?_
  refine rk_puti hx hb hts inlX1 tyX1 tyX1_ok nmX1 hown hK hP hS hk_j0a cl_1 1 fq_1_1 q_6_19 rfl rfl rfl dX1_beginCall_9 (fun M1 eM1 H locs hP hS => ?_)
  replace h := h M1 eM1
  refine lv_aload_n hx hb dX1_beginCall_12 rfl (lv_at hl 0 rfl) ?_
  refine rk_geti hx hb hts inlX1 hown hK hP hk_j0a cl_1 1 fq_1_1 q_6_19 rfl dX1_beginCall_13 ?_
  refine rc_Si (As := [.int (M1 j0a 1)]) (rest := []) ⟨hx, hb, hml, hown, hts⟩ (mJ6_bitCount_0f7a4 l G (M1 j0a 1) M1 _ h) (va_cwS 1 hts (gS_J6_bitCount_0f7a4 q_13_13) rfl rfl rfl hdS_J6_bitCount_0f7a4 ⟨Nat.le_of_ble_eq_true rfl, Nat.le_of_ble_eq_true rfl⟩) hK hP hS rfl hl.1 rfl (Nat.le_of_ble_eq_true rfl) dX1_beginCall_16 ⟨Nat.zero_le _, Nat.zero_le _⟩ (fun r3 M2 H locs h hP hS => ?_)
  exact re_i hx hb hr hlocks hP hS h dX1_beginCall_19
set_option maxHeartbeats 4000000 in
set_option maxRecDepth 100000 in
theorem mX1_give (l : Launch) (G : Gp) (j0a : Nat) (x1a : Int32) (x2a : Int32) (x3a : Int32) (M : Mm) (Post : Mm → Int32 → Prop) (hk_j0a : kd j0a = 1) (h : wX1_give Post M j0a x1a x2a x3a) : CtI l yX1_give wsX1_give rX1_give G [.ref (G.2.1 + j0a), .int x1a, .int x2a, .int x3a] M Post := by
  refine Met.ofW (cc := cX1_give) (maxL := 5) (ret := (some .int)) (by decide) rfl ?_
  intro p e s m args below meth c s₁ B hml hv
  obtain ⟨rfl, hK, hP⟩ := hv
  have hx := B.exec
  have hb := B.bytes
  have hr := B.returns
  have hlocks := B.notSynchronized
  have hts0 := atoms_spec (ws := wsX1_give) B.pre
  have hts : ∀ w ∈ wsL_law, w.before _ s = true := fun w hw => hts0 w (List.mem_cons_of_mem _ hw)
  have hown : s.vm.findClass RX1 = some m.cls := findClass_of_methodNamed B.named
  have hS : va_S (Fr G) s.heap s.heap [] := va_S.rf
  have hl := lv_entry ([.ref (G.2.1 + j0a), .int x1a, .int x2a, .int x3a]) (n := 5) (Nat.le_of_ble_eq_true rfl)
  rw [lg_entry_eq]
  generalize (lg_sl ([.ref (G.2.1 + j0a), .int x1a, .int x2a, .int x3a]) ++ List.replicate (5 - (lg_sl ([.ref (G.2.1 + j0a), .int x1a, .int x2a, .int x3a])).length) Slot.unset).toArray = ls at hl ⊢
  have hl : lv_has ls 5 [(0, .ref (G.2.1 + j0a)), (1, .int x1a), (2, .int x2a), (3, .int x3a)] := hl
  unfold wX1_give at h
  refine lv_iload_n hx hb dX1_give_0 rfl (lv_at hl 2 rfl) ?_
  refine lv_aload_n hx hb dX1_give_1 rfl (lv_at hl 0 rfl) ?_
  refine rk_getr hx hb hts inlX1 hown hK hP hk_j0a cl_1 4 3 fq_1_4 q_3_13 rfl dX1_give_2 ?_
  refine lv_iload_n hx hb dX1_give_5 rfl (lv_at hl 1 rfl) ?_
  refine rk_iald hx hb hK hP (ky_1_4 hk_j0a) ac_9 _ rfl h.1 dX1_give_6 ?_
  replace h := h.2
  refine lv_aload_n hx hb dX1_give_7 rfl (lv_at hl 0 rfl) ?_
  refine rk_getr hx hb hts inlX1 hown hK hP hk_j0a cl_1 3 2 fq_1_3 q_3_12 rfl dX1_give_8 ?_
  refine lv_iload_n hx hb dX1_give_11 rfl (lv_at hl 1 rfl) ?_
  refine rk_iald hx hb hK hP (ky_1_3 hk_j0a) ac_9 _ rfl h.1 dX1_give_12 ?_
  replace h := h.2
  refine lv_aload_n hx hb dX1_give_13 rfl (lv_at hl 0 rfl) ?_
  refine rk_getr hx hb hts inlX1 hown hK hP hk_j0a cl_1 6 5 fq_1_6 q_3_15 rfl dX1_give_14 ?_
  refine lv_iload_n hx hb dX1_give_17 rfl (lv_at hl 1 rfl) ?_
  refine rk_iald hx hb hK hP (ky_1_6 hk_j0a) ac_9 _ rfl h.1 dX1_give_18 ?_
  replace h := h.2
  refine lv_isub hx hb dX1_give_19 ?_
  refine rk_min hx hb (hml.trans hl.1.symm) hts hown q_19_5 q_17_8 q_17_9 q_17_10 (Nat.le_of_ble_eq_true rfl) (Nat.le_of_ble_eq_true rfl) ⟨Nat.zero_le _, Nat.zero_le _⟩ dX1_give_20 ?_
  refine rk_min hx hb (hml.trans hl.1.symm) hts hown q_19_5 q_17_8 q_17_9 q_17_10 (Nat.le_of_ble_eq_true rfl) (Nat.le_of_ble_eq_true rfl) ⟨Nat.zero_le _, Nat.zero_le _⟩ dX1_give_23 ?_
  refine lv_topi (fun x4_1 ex4_1 => ?_)
  replace h := h x4_1 ex4_1
  refine lv_istore (lv' := [(4, .int x4_1), (0, .ref (G.2.1 + j0a)), (1, .int x1a), (2, .int x2a), (3, .int x3a)]) hx hb dX1_give_26 hl (by decide) rfl (fun ls hl => ?_)
  refine lv_aload_n hx hb dX1_give_28 rfl (lv_at hl 1 rfl) ?_
  refine rk_getr hx hb hts inlX1 hown hK hP hk_j0a cl_1 6 5 fq_1_6 q_3_15 rfl dX1_give_29 ?_
  refine lv_iload_n hx hb dX1_give_32 rfl (lv_at hl 2 rfl) ?_
  refine lv_dup2_11 hx hb dX1_give_33 rfl rfl ?_
  refine rk_iald hx hb hK hP (ky_1_6 hk_j0a) ac_9 _ rfl h.1 dX1_give_34 ?_
  replace h := h.2
  refine lv_iload hx hb dX1_give_35 (lv_at hl 0 rfl) ?_
  refine lv_iadd hx hb dX1_give_37 ?_
  refine rk_iast hx hb hK hP hS (ky_1_6 hk_j0a) ac_9 _ rfl h.1 dX1_give_38 (fun M2 eM2 H locs hP hS => ?_)
  replace h := h.2
  replace h := h M2 eM2
  refine lv_aload_n hx hb dX1_give_39 rfl (lv_at hl 1 rfl) ?_
  refine rk_getr hx hb hts inlX1 hown hK hP hk_j0a cl_1 6 5 fq_1_6 q_3_15 rfl dX1_give_40 ?_
  refine lv_iload_n hx hb dX1_give_43 rfl (lv_at hl 2 rfl) ?_
  refine rk_iald hx hb hK hP (ky_1_6 hk_j0a) ac_9 _ rfl h.1 dX1_give_44 ?_
  replace h := h.2
  refine lv_aload_n hx hb dX1_give_45 rfl (lv_at hl 1 rfl) ?_
  refine rk_getr hx hb hts inlX1 hown hK hP hk_j0a cl_1 3 2 fq_1_3 q_3_12 rfl dX1_give_46 ?_
  refine lv_iload_n hx hb dX1_give_49 rfl (lv_at hl 2 rfl) ?_
  refine rk_iald hx hb hK hP (ky_1_3 hk_j0a) ac_9 _ rfl h.1 dX1_give_50 ?_
  replace h := h.2
  refine lv_icmp_lt (tgt := 61) hx hb dX1_give_51 (by decide) (fun c3 => ?_) (fun c3 => ?_)
  · replace h := h.1 c3
    refine lv_iload hx hb dX1_give_61 (lv_at hl 0 rfl) ?_
    exact re_i hx hb hr hlocks hP hS h dX1_give_63
  · replace h := h.2 c3
    refine lv_aload_n hx hb dX1_give_54 rfl (lv_at hl 1 rfl) ?_
    refine rk_getr hx hb hts inlX1 hown hK hP hk_j0a cl_1 7 6 fq_1_7 q_3_16 rfl dX1_give_55 ?_
    refine lv_iload_n hx hb dX1_give_58 rfl (lv_at hl 2 rfl) ?_
    refine lv_iload_n hx hb dX1_give_59 rfl (lv_at hl 4 rfl) ?_
    refine rk_iast hx hb hK hP hS (ky_1_7 hk_j0a) ac_9 _ rfl h.1 dX1_give_60 (fun M4 eM4 H locs hP hS => ?_)
    replace h := h.2
    replace h := h M4 eM4
    refine lv_iload hx hb dX1_give_61 (lv_at hl 0 rfl) ?_
    exact re_i hx hb hr hlocks hP hS h dX1_give_63
set_option maxHeartbeats 4000000 in
set_option maxRecDepth 100000 in
theorem mX2_dropOldest (l : Launch) (G : Gp) (j0a : Nat) (M : Mm) (Post : Mm → Prop) (hk_j0a : kd j0a = 2) (h : wX2_dropOldest Post M j0a) : CtV l yX2_dropOldest wsX2_dropOldest rX2_dropOldest G [.ref (G.2.1 + j0a)] M Post := by
  refine Met.ofW (cc := cX2_dropOldest) (maxL := 3) (ret := none) (by decide) rfl ?_
  intro p e s m args below meth c s₁ B hml hv
  obtain ⟨rfl, hK, hP⟩ := hv
  have hx := B.exec
  have hb := B.bytes
  have hr := B.returns
  have hlocks := B.notSynchronized
  have hts0 := atoms_spec (ws := wsX2_dropOldest) B.pre
  have hts : ∀ w ∈ wsL_law, w.before _ s = true := fun w hw => hts0 w (List.mem_cons_of_mem _ hw)
  have hown : s.vm.findClass RX2 = some m.cls := findClass_of_methodNamed B.named
  have hS : va_S (Fr G) s.heap s.heap [] := va_S.rf
  have hl := lv_entry ([.ref (G.2.1 + j0a)]) (n := 3) (Nat.le_of_ble_eq_true rfl)
  rw [lg_entry_eq]
  generalize (lg_sl ([.ref (G.2.1 + j0a)]) ++ List.replicate (3 - (lg_sl ([.ref (G.2.1 + j0a)])).length) Slot.unset).toArray = ls at hl ⊢
  have hl : lv_has ls 3 [(0, .ref (G.2.1 + j0a))] := hl
  have B9 : ∀ n : Nat, ∀ (M : Mm) (j0 : Nat) (j1 : Nat) (x2 : Int32) (H : Heap) (locs : List Loc) (ls : Array Slot), Rp G M H → va_S (Fr G) s.heap H locs → lv_has ls 3 [(0, .ref (G.2.1 + j0)), (1, .ref (G.2.1 + j1)), (2, .int x2)] → kd j0 = 2 → kd j1 = 4 → lX2_dropOldest_9 Post n M j0 j1 x2 → Wv p l e (headSpec wsX2_dropOldest rX2_dropOldest).room s m [.ref (G.2.1 + j0a)].toArray below meth c G Post H locs (F0 m 9 ls []) := by
    intro n
    induction n with
    | zero => intro M j0 j1 x2 H locs ls hP hS hl hk_j0 hk_j1 h; exact h.elim
    | succ n ih =>
      intro M j0 j1 x2 H locs ls hP hS hl hk_j0 hk_j1 h
      have hA9 := ih
      replace h : bX2_dropOldest_9 Post (lX2_dropOldest_9 Post n) M j0 j1 x2 := h
      unfold bX2_dropOldest_9 at h
      refine lv_iload_n hx hb dX2_dropOldest_9 rfl (lv_at hl 2 rfl) ?_
      refine lv_iconst (v := (4 : Int32)) hx hb dX2_dropOldest_10 k_iconst_4 ?_
      refine lv_icmp_ge (tgt := 34) hx hb dX2_dropOldest_11 (by decide) (fun c3 => ?_) (fun c3 => ?_)
      · replace h := h.1 c3
        refine lv_aload_n hx hb dX2_dropOldest_34 rfl (lv_at hl 0 rfl) ?_
        refine rk_getr hx hb hts inlX2 hown hK hP hk_j0 cl_2 1 1 fq_2_1 q_4_4 rfl dX2_dropOldest_35 ?_
        refine lv_iconst (v := (3 : Int32)) hx hb dX2_dropOldest_38 k_iconst_3 ?_
        refine lv_aload_n hx hb dX2_dropOldest_39 rfl (lv_at hl 1 rfl) ?_
        refine rk_aast hx hb hK hP hS (ky_2_1 hk_j0) hk_j1 3 ix_3 vi_3_4 dX2_dropOldest_40 (fun M4 eM4 H locs hP hS => ?_)
        replace h := h M4 eM4
        refine lv_aload_n hx hb dX2_dropOldest_41 rfl (lv_at hl 0 rfl) ?_
        refine lv_iconst (v := (3 : Int32)) hx hb dX2_dropOldest_42 k_iconst_3 ?_
        refine rk_puti hx hb hts inlX2 tyX2 tyX2_ok nmX2 hown hK hP hS hk_j0 cl_2 0 fq_2_0 q_5_15 rfl rfl rfl dX2_dropOldest_43 (fun M5 eM5 H locs hP hS => ?_)
        replace h := h M5 eM5
        exact re_v hx hb hr hlocks hP hS h dX2_dropOldest_46
      · replace h := h.2 c3
        refine lv_aload_n hx hb dX2_dropOldest_14 rfl (lv_at hl 0 rfl) ?_
        refine rk_getr hx hb hts inlX2 hown hK hP hk_j0 cl_2 1 1 fq_2_1 q_4_4 rfl dX2_dropOldest_15 ?_
        refine lv_iload_n hx hb dX2_dropOldest_18 rfl (lv_at hl 2 rfl) ?_
        refine lv_iconst (v := (1 : Int32)) hx hb dX2_dropOldest_19 k_iconst_1 ?_
        refine lv_isub hx hb dX2_dropOldest_20 ?_
        refine lv_aload_n hx hb dX2_dropOldest_21 rfl (lv_at hl 0 rfl) ?_
        refine rk_getr hx hb hts inlX2 hown hK hP hk_j0 cl_2 1 1 fq_2_1 q_4_4 rfl dX2_dropOldest_22 ?_
        refine lv_iload_n hx hb dX2_dropOldest_25 rfl (lv_at hl 2 rfl) ?_
        refine rk_aald hx hb hK hP (ky_2_1 hk_j0) _ rfl h.1 dX2_dropOldest_26 ?_
        replace h := h.2
        have hq6 := h.1
        replace h := h.2
        refine rk_aast hx hb hK hP hS (ky_2_1 hk_j0) hq6 _ rfl h.1 dX2_dropOldest_27 (fun M7 eM7 H locs hP hS => ?_)
        replace h := h.2
        replace h := h M7 eM7
        obtain ⟨x2_8, ex2_8⟩ : ∃ y : Int32, y = x2 + (1 : Int32) := ⟨_, rfl⟩
        replace h := h x2_8 ex2_8
        refine lv_iinc (v := x2_8) (lv' := [(2, .int x2_8), (0, .ref (G.2.1 + j0)), (1, .ref (G.2.1 + j1))]) hx hb dX2_dropOldest_28 hl (k := 2) rfl (by rw [ex2_8]; rfl) (by decide) rfl (fun ls hl => ?_)
        refine lv_goto (tgt := 9) hx hb dX2_dropOldest_31 (by decide) ?_
        exact hA9 _ _ _ _ _ _ _ hP hS (lv_sub hl [1, 2, 0] rfl) hk_j0 hk_j1 h
  unfold wX2_dropOldest at h
  refine lv_aload_n hx hb dX2_dropOldest_0 rfl (lv_at hl 0 rfl) ?_
  refine rk_getr hx hb hts inlX2 hown hK hP hk_j0a cl_2 1 1 fq_2_1 q_4_4 rfl dX2_dropOldest_1 ?_
  refine lv_iconst (v := (0 : Int32)) hx hb dX2_dropOldest_4 k_iconst_0 ?_
  refine rk_aald hx hb hK hP (ky_2_1 hk_j0a) 0 ix_0 vi_0_4 dX2_dropOldest_5 ?_
  have hq1 := h.1
  replace h := h.2
  refine lv_astore_n (lv' := [(1, .ref (G.2.1 + (ix (M (j0a + 1) 0)))), (0, .ref (G.2.1 + j0a))]) hx hb dX2_dropOldest_6 rfl hl (by decide) rfl (fun ls hl => ?_)
  refine lv_iconst (v := (1 : Int32)) hx hb dX2_dropOldest_7 k_iconst_1 ?_
  refine lv_istore_n (lv' := [(2, .int (1 : Int32)), (1, .ref (G.2.1 + (ix (M (j0a + 1) 0)))), (0, .ref (G.2.1 + j0a))]) hx hb dX2_dropOldest_8 rfl hl (by decide) rfl (fun ls hl => ?_)
  obtain ⟨n2, h⟩ := h
  exact B9 _ _ _ _ _ _ _ _ hP hS (lv_sub hl [2, 1, 0] rfl) hk_j0a hq1 h
set_option maxHeartbeats 4000000 in
set_option maxRecDepth 100000 in
theorem mX5_become (l : Launch) (G : Gp) (j0a : Nat) (j1a : Nat) (M : Mm) (Post : Mm → Prop) (hk_j0a : kd j0a = 5) (hk_j1a : kd j1a = 5) (h : wX5_become Post M j0a j1a) : CtV l yX5_become wsX5_become rX5_become G [.ref (G.2.1 + j0a), .ref (G.2.1 + j1a)] M Post := by
  refine Met.ofW (cc := cX5_become) (maxL := 2) (ret := none) (by decide) rfl ?_
  intro p e s m args below meth c s₁ B hml hv
  obtain ⟨rfl, hK, hP⟩ := hv
  have hx := B.exec
  have hb := B.bytes
  have hr := B.returns
  have hlocks := B.notSynchronized
  have hts0 := atoms_spec (ws := wsX5_become) B.pre
  have hts : ∀ w ∈ wsL_law, w.before _ s = true := fun w hw => hts0 w (List.mem_cons_of_mem _ hw)
  have hown : s.vm.findClass RX5 = some m.cls := findClass_of_methodNamed B.named
  have hS : va_S (Fr G) s.heap s.heap [] := va_S.rf
  have hl := lv_entry ([.ref (G.2.1 + j0a), .ref (G.2.1 + j1a)]) (n := 2) (Nat.le_of_ble_eq_true rfl)
  rw [lg_entry_eq]
  generalize (lg_sl ([.ref (G.2.1 + j0a), .ref (G.2.1 + j1a)]) ++ List.replicate (2 - (lg_sl ([.ref (G.2.1 + j0a), .ref (G.2.1 + j1a)])).length) Slot.unset).toArray = ls at hl ⊢
  have hl : lv_has ls 2 [(0, .ref (G.2.1 + j0a)), (1, .ref (G.2.1 + j1a))] := hl
  unfold wX5_become at h
  refine lv_aload_n hx hb dX5_become_0 rfl (lv_at hl 0 rfl) ?_
  refine lv_aload_n hx hb dX5_become_1 rfl (lv_at hl 1 rfl) ?_
  refine rk_geti hx hb hts inlX5 hown hK hP hk_j1a cl_5 0 fq_5_0 q_7_1 rfl dX5_become_2 ?_
  refine rk_puti hx hb hts inlX5 tyX5 tyX5_ok nmX5 hown hK hP hS hk_j0a cl_5 0 fq_5_0 q_7_1 rfl rfl rfl dX5_become_5 (fun M1 eM1 H locs hP hS => ?_)
  replace h := h M1 eM1
  refine lv_aload_n hx hb dX5_become_8 rfl (lv_at hl 0 rfl) ?_
  refine lv_aload_n hx hb dX5_become_9 rfl (lv_at hl 1 rfl) ?_
  refine rk_geti hx hb hts inlX5 hown hK hP hk_j1a cl_5 1 fq_5_1 q_7_2 rfl dX5_become_10 ?_
  refine rk_puti hx hb hts inlX5 tyX5 tyX5_ok nmX5 hown hK hP hS hk_j0a cl_5 1 fq_5_1 q_7_2 rfl rfl rfl dX5_become_13 (fun M2 eM2 H locs hP hS => ?_)
  replace h := h M2 eM2
  refine lv_aload_n hx hb dX5_become_16 rfl (lv_at hl 0 rfl) ?_
  refine lv_aload_n hx hb dX5_become_17 rfl (lv_at hl 1 rfl) ?_
  refine rk_geti hx hb hts inlX5 hown hK hP hk_j1a cl_5 2 fq_5_2 q_7_3 rfl dX5_become_18 ?_
  refine rk_puti hx hb hts inlX5 tyX5 tyX5_ok nmX5 hown hK hP hS hk_j0a cl_5 2 fq_5_2 q_7_3 rfl rfl rfl dX5_become_21 (fun M3 eM3 H locs hP hS => ?_)
  replace h := h M3 eM3
  refine lv_aload_n hx hb dX5_become_24 rfl (lv_at hl 1 rfl) ?_
  refine rk_getr hx hb hts inlX5 hown hK hP hk_j1a cl_5 3 1 fq_5_3 q_3_21 rfl dX5_become_25 ?_
  refine lv_iconst (v := (0 : Int32)) hx hb dX5_become_28 k_iconst_0 ?_
  refine lv_aload_n hx hb dX5_become_29 rfl (lv_at hl 0 rfl) ?_
  refine rk_getr hx hb hts inlX5 hown hK hP hk_j0a cl_5 3 1 fq_5_3 q_3_21 rfl dX5_become_30 ?_
  refine lv_iconst (v := (0 : Int32)) hx hb dX5_become_33 k_iconst_0 ?_
  refine lv_bipush (v := (8 : Int32)) hx hb dX5_become_34 k_bipush_8 ?_
  refine rk_copy hx hb (hml.trans hl.1.symm) hts hown q_7_4 q_6_11 q_6_12 q_6_13 hK hP hS (ky_5_3 hk_j1a) (ky_5_3 hk_j0a) ac_8 ⟨ix_8, by decide⟩ (Nat.le_of_ble_eq_true rfl) (by decide) dX5_become_36 (fun M4 eM4 H locs hP hS => ?_)
  replace h := h M4 eM4
  refine lv_aload_n hx hb dX5_become_39 rfl (lv_at hl 1 rfl) ?_
  refine rk_getr hx hb hts inlX5 hown hK hP hk_j1a cl_5 4 2 fq_5_4 q_3_22 rfl dX5_become_40 ?_
  refine lv_iconst (v := (0 : Int32)) hx hb dX5_become_43 k_iconst_0 ?_
  refine lv_aload_n hx hb dX5_become_44 rfl (lv_at hl 0 rfl) ?_
  refine rk_getr hx hb hts inlX5 hown hK hP hk_j0a cl_5 4 2 fq_5_4 q_3_22 rfl dX5_become_45 ?_
  refine lv_iconst (v := (0 : Int32)) hx hb dX5_become_48 k_iconst_0 ?_
  refine lv_bipush (v := (8 : Int32)) hx hb dX5_become_49 k_bipush_8 ?_
  refine rk_copy hx hb (hml.trans hl.1.symm) hts hown q_7_4 q_6_11 q_6_12 q_6_13 hK hP hS (ky_5_4 hk_j1a) (ky_5_4 hk_j0a) ac_8 ⟨ix_8, by decide⟩ (Nat.le_of_ble_eq_true rfl) (by decide) dX5_become_51 (fun M5 eM5 H locs hP hS => ?_)
  replace h := h M5 eM5
  exact re_v hx hb hr hlocks hP hS h dX5_become_54
set_option maxHeartbeats 4000000 in
set_option maxRecDepth 100000 in
theorem mX4_become (l : Launch) (G : Gp) (j0a : Nat) (j1a : Nat) (M : Mm) (Post : Mm → Prop) (hk_j0a : kd j0a = 4) (hk_j1a : kd j1a = 4) (h : wX4_become Post M j0a j1a) : CtV l yX4_become wsX4_become rX4_become G [.ref (G.2.1 + j0a), .ref (G.2.1 + j1a)] M Post := by
  refine Met.ofW (cc := cX4_become) (maxL := 2) (ret := none) (by decide) rfl ?_
  intro p e s m args below meth c s₁ B hml hv
  obtain ⟨rfl, hK, hP⟩ := hv
  have hx := B.exec
  have hb := B.bytes
  have hr := B.returns
  have hlocks := B.notSynchronized
  have hts0 := atoms_spec (ws := wsX4_become) B.pre
  have hts : ∀ w ∈ wsL_law, w.before _ s = true := fun w hw => hts0 w (List.mem_cons_of_mem _ hw)
  have hown : s.vm.findClass RX4 = some m.cls := findClass_of_methodNamed B.named
  have hS : va_S (Fr G) s.heap s.heap [] := va_S.rf
  have hl := lv_entry ([.ref (G.2.1 + j0a), .ref (G.2.1 + j1a)]) (n := 2) (Nat.le_of_ble_eq_true rfl)
  rw [lg_entry_eq]
  generalize (lg_sl ([.ref (G.2.1 + j0a), .ref (G.2.1 + j1a)]) ++ List.replicate (2 - (lg_sl ([.ref (G.2.1 + j0a), .ref (G.2.1 + j1a)])).length) Slot.unset).toArray = ls at hl ⊢
  have hl : lv_has ls 2 [(0, .ref (G.2.1 + j0a)), (1, .ref (G.2.1 + j1a))] := hl
  unfold wX4_become at h
  refine lv_aload_n hx hb dX4_become_0 rfl (lv_at hl 0 rfl) ?_
  refine rk_getr hx hb hts inlX4 hown hK hP hk_j0a cl_4 0 1 fq_4_0 q_2_7 rfl dX4_become_1 ?_
  refine lv_aload_n hx hb dX4_become_4 rfl (lv_at hl 1 rfl) ?_
  refine rk_getr hx hb hts inlX4 hown hK hP hk_j1a cl_4 0 1 fq_4_0 q_2_7 rfl dX4_become_5 ?_
  refine rc_Vv (As := [.ref (G.2.1 + (j1a + 1))]) (rest := []) ⟨hx, hb, hml, hown, hts⟩ (mX0_become l G (j0a + 1) (j1a + 1) M _ (ky_4_0 hk_j0a) (ky_4_0 hk_j1a) h) (cwV 1 hts (gV_X0_become q_6_5) rfl rfl rfl hdV_X0_become ⟨Nat.le_of_ble_eq_true rfl, Nat.le_of_ble_eq_true rfl⟩) hK hP hS (ky_4_0 hk_j0a) (by decide) cl_0 rfl hl.1 rfl (Nat.le_of_ble_eq_true rfl) dX4_become_8 ⟨Nat.zero_le _, Nat.zero_le _⟩ (fun M1 H locs h hP hS => ?_)
  refine lv_aload_n hx hb dX4_become_11 rfl (lv_at hl 0 rfl) ?_
  refine rk_getr hx hb hts inlX4 hown hK hP hk_j0a cl_4 1 10 fq_4_1 q_2_11 rfl dX4_become_12 ?_
  refine lv_aload_n hx hb dX4_become_15 rfl (lv_at hl 1 rfl) ?_
  refine rk_getr hx hb hts inlX4 hown hK hP hk_j1a cl_4 1 10 fq_4_1 q_2_11 rfl dX4_become_16 ?_
  refine rc_Vv (As := [.ref (G.2.1 + (j1a + 10))]) (rest := []) ⟨hx, hb, hml, hown, hts⟩ (mX1_become l G (j0a + 10) (j1a + 10) M1 _ (ky_4_1 hk_j0a) (ky_4_1 hk_j1a) h) (cwV 1 hts (gV_X1_become q_6_14) rfl rfl rfl hdV_X1_become ⟨Nat.le_of_ble_eq_true rfl, Nat.le_of_ble_eq_true rfl⟩) hK hP hS (ky_4_1 hk_j0a) (by decide) cl_1 rfl hl.1 rfl (Nat.le_of_ble_eq_true rfl) dX4_become_19 ⟨Nat.zero_le _, Nat.zero_le _⟩ (fun M3 H locs h hP hS => ?_)
  refine lv_aload_n hx hb dX4_become_22 rfl (lv_at hl 0 rfl) ?_
  refine rk_getr hx hb hts inlX4 hown hK hP hk_j0a cl_4 2 18 fq_4_2 q_2_15 rfl dX4_become_23 ?_
  refine lv_aload_n hx hb dX4_become_26 rfl (lv_at hl 1 rfl) ?_
  refine rk_getr hx hb hts inlX4 hown hK hP hk_j1a cl_4 2 18 fq_4_2 q_2_15 rfl dX4_become_27 ?_
  refine rc_Vv (As := [.ref (G.2.1 + (j1a + 18))]) (rest := []) ⟨hx, hb, hml, hown, hts⟩ (mX5_become l G (j0a + 18) (j1a + 18) M3 _ (ky_4_2 hk_j0a) (ky_4_2 hk_j1a) h) (cwV 1 hts (gV_X5_become q_6_21) rfl rfl rfl hdV_X5_become ⟨Nat.le_of_ble_eq_true rfl, Nat.le_of_ble_eq_true rfl⟩) hK hP hS (ky_4_2 hk_j0a) (by decide) cl_5 rfl hl.1 rfl (Nat.le_of_ble_eq_true rfl) dX4_become_30 ⟨Nat.zero_le _, Nat.zero_le _⟩ (fun M5 H locs h hP hS => ?_)
  refine lv_aload_n hx hb dX4_become_33 rfl (lv_at hl 0 rfl) ?_
  refine lv_aload_n hx hb dX4_become_34 rfl (lv_at hl 1 rfl) ?_
  refine rk_geti hx hb hts inlX4 hown hK hP hk_j1a cl_4 3 fq_4_3 q_6_0 rfl dX4_become_35 ?_
  refine rk_puti hx hb hts inlX4 tyX4 tyX4_ok nmX4 hown hK hP hS hk_j0a cl_4 3 fq_4_3 q_6_0 rfl rfl rfl dX4_become_38 (fun M7 eM7 H locs hP hS => ?_)
  replace h := h M7 eM7
  refine lv_aload_n hx hb dX4_become_41 rfl (lv_at hl 0 rfl) ?_
  refine lv_aload_n hx hb dX4_become_42 rfl (lv_at hl 1 rfl) ?_
  refine rk_geti hx hb hts inlX4 hown hK hP hk_j1a cl_4 4 fq_4_4 q_6_1 rfl dX4_become_43 ?_
  refine rk_puti hx hb hts inlX4 tyX4 tyX4_ok nmX4 hown hK hP hS hk_j0a cl_4 4 fq_4_4 q_6_1 rfl rfl rfl dX4_become_46 (fun M8 eM8 H locs hP hS => ?_)
  replace h := h M8 eM8
  refine lv_aload_n hx hb dX4_become_49 rfl (lv_at hl 0 rfl) ?_
  refine lv_aload_n hx hb dX4_become_50 rfl (lv_at hl 1 rfl) ?_
  refine rk_geti hx hb hts inlX4 hown hK hP hk_j1a cl_4 5 fq_4_5 q_6_2 rfl dX4_become_51 ?_
  refine rk_puti hx hb hts inlX4 tyX4 tyX4_ok nmX4 hown hK hP hS hk_j0a cl_4 5 fq_4_5 q_6_2 rfl rfl rfl dX4_become_54 (fun M9 eM9 H locs hP hS => ?_)
  replace h := h M9 eM9
  refine lv_aload_n hx hb dX4_become_57 rfl (lv_at hl 0 rfl) ?_
  refine lv_aload_n hx hb dX4_become_58 rfl (lv_at hl 1 rfl) ?_
  refine rk_geti hx hb hts inlX4 hown hK hP hk_j1a cl_4 6 fq_4_6 q_6_3 rfl dX4_become_59 ?_
  refine rk_puti hx hb hts inlX4 tyX4 tyX4_ok nmX4 hown hK hP hS hk_j0a cl_4 6 fq_4_6 q_6_3 rfl rfl rfl dX4_become_62 (fun M10 eM10 H locs hP hS => ?_)
  replace h := h M10 eM10
  refine lv_aload_n hx hb dX4_become_65 rfl (lv_at hl 0 rfl) ?_
  refine lv_aload_n hx hb dX4_become_66 rfl (lv_at hl 1 rfl) ?_
  refine rk_geti hx hb hts inlX4 hown hK hP hk_j1a cl_4 7 fq_4_7 q_6_4 rfl dX4_become_67 ?_
  refine rk_puti hx hb hts inlX4 tyX4 tyX4_ok nmX4 hown hK hP hS hk_j0a cl_4 7 fq_4_7 q_6_4 rfl rfl rfl dX4_become_70 (fun M11 eM11 H locs hP hS => ?_)
  replace h := h M11 eM11
  exact re_v hx hb hr hlocks hP hS h dX4_become_73
set_option maxHeartbeats 4000000 in
set_option maxRecDepth 100000 in
theorem mX2_record (l : Launch) (G : Gp) (j0a : Nat) (j1a : Nat) (M : Mm) (Post : Mm → Prop) (hk_j0a : kd j0a = 2) (hk_j1a : kd j1a = 4) (h : wX2_record Post M j0a j1a) : CtV l yX2_record wsX2_record rX2_record G [.ref (G.2.1 + j0a), .ref (G.2.1 + j1a)] M Post := by
  refine Met.ofW (cc := cX2_record) (maxL := 2) (ret := none) (by decide) rfl ?_
  intro p e s m args below meth c s₁ B hml hv
  obtain ⟨rfl, hK, hP⟩ := hv
  have hx := B.exec
  have hb := B.bytes
  have hr := B.returns
  have hlocks := B.notSynchronized
  have hts0 := atoms_spec (ws := wsX2_record) B.pre
  have hts : ∀ w ∈ wsL_law, w.before _ s = true := fun w hw => hts0 w (List.mem_cons_of_mem _ hw)
  have hown : s.vm.findClass RX2 = some m.cls := findClass_of_methodNamed B.named
  have hS : va_S (Fr G) s.heap s.heap [] := va_S.rf
  have hl := lv_entry ([.ref (G.2.1 + j0a), .ref (G.2.1 + j1a)]) (n := 2) (Nat.le_of_ble_eq_true rfl)
  rw [lg_entry_eq]
  generalize (lg_sl ([.ref (G.2.1 + j0a), .ref (G.2.1 + j1a)]) ++ List.replicate (2 - (lg_sl ([.ref (G.2.1 + j0a), .ref (G.2.1 + j1a)])).length) Slot.unset).toArray = ls at hl ⊢
  have hl : lv_has ls 2 [(0, .ref (G.2.1 + j0a)), (1, .ref (G.2.1 + j1a))] := hl
  have B12 : ∀ (M : Mm) (j0 : Nat) (j1 : Nat) (H : Heap) (locs : List Loc) (ls : Array Slot), Rp G M H → va_S (Fr G) s.heap H locs → lv_has ls 2 [(0, .ref (G.2.1 + j0)), (1, .ref (G.2.1 + j1))] → kd j0 = 2 → kd j1 = 4 → bX2_record_12 Post M j0 j1 → Wv p l e (headSpec wsX2_record rX2_record).room s m [.ref (G.2.1 + j0a), .ref (G.2.1 + j1a)].toArray below meth c G Post H locs (F0 m 12 ls []) := by
    intro M j0 j1 H locs ls hP hS hl hk_j0 hk_j1 h
    unfold bX2_record_12 at h
    refine lv_aload_n hx hb dX2_record_12 rfl (lv_at hl 0 rfl) ?_
    refine rk_getr hx hb hts inlX2 hown hK hP hk_j0 cl_2 1 1 fq_2_1 q_4_4 rfl dX2_record_13 ?_
    refine lv_aload_n hx hb dX2_record_16 rfl (lv_at hl 0 rfl) ?_
    refine rk_geti hx hb hts inlX2 hown hK hP hk_j0 cl_2 0 fq_2_0 q_5_15 rfl dX2_record_17 ?_
    refine rk_aald hx hb hK hP (ky_2_1 hk_j0) _ rfl h.1 dX2_record_20 ?_
    replace h := h.2
    have hq4 := h.1
    replace h := h.2
    refine lv_aload_n hx hb dX2_record_21 rfl (lv_at hl 1 rfl) ?_
    refine rc_Vv (As := [.ref (G.2.1 + j1)]) (rest := []) ⟨hx, hb, hml, hown, hts⟩ (mX4_become l G (ix (M (j0 + 1) (ix (M j0 0)))) j1 M _ hq4 hk_j1 h) (cwV 1 hts (gV_X4_become q_5_20) rfl rfl rfl hdV_X4_become ⟨Nat.le_of_ble_eq_true rfl, Nat.le_of_ble_eq_true rfl⟩) hK hP hS hq4 (by decide) cl_4 rfl hl.1 rfl (Nat.le_of_ble_eq_true rfl) dX2_record_22 ⟨Nat.zero_le _, Nat.zero_le _⟩ (fun M5 H locs h hP hS => ?_)
    refine lv_aload_n hx hb dX2_record_25 rfl (lv_at hl 0 rfl) ?_
    refine lv_dup hx hb dX2_record_26 rfl ?_
    refine rk_geti hx hb hts inlX2 hown hK hP hk_j0 cl_2 0 fq_2_0 q_5_15 rfl dX2_record_27 ?_
    refine lv_iconst (v := (1 : Int32)) hx hb dX2_record_30 k_iconst_1 ?_
    refine lv_iadd hx hb dX2_record_31 ?_
    refine rk_puti hx hb hts inlX2 tyX2 tyX2_ok nmX2 hown hK hP hS hk_j0 cl_2 0 fq_2_0 q_5_15 rfl rfl rfl dX2_record_32 (fun M7 eM7 H locs hP hS => ?_)
    replace h := h M7 eM7
    exact re_v hx hb hr hlocks hP hS h dX2_record_35
  unfold wX2_record at h
  refine lv_aload_n hx hb dX2_record_0 rfl (lv_at hl 0 rfl) ?_
  refine rk_geti hx hb hts inlX2 hown hK hP hk_j0a cl_2 0 fq_2_0 q_5_15 rfl dX2_record_1 ?_
  refine lv_iconst (v := (4 : Int32)) hx hb dX2_record_4 k_iconst_4 ?_
  refine lv_icmp_lt (tgt := 12) hx hb dX2_record_5 (by decide) (fun c1 => ?_) (fun c1 => ?_)
  · replace h := h.1 c1
    exact B12 _ _ _ _ _ _ hP hS (lv_sub hl [0, 1] rfl) hk_j0a hk_j1a h
  · replace h := h.2 c1
    refine lv_aload_n hx hb dX2_record_8 rfl (lv_at hl 0 rfl) ?_
    refine rc_Vv (As := []) (rest := []) ⟨hx, hb, hml, hown, hts⟩ (mX2_dropOldest l G j0a M _ hk_j0a h) (cwV 0 hts (gV_X2_dropOldest q_5_16) rfl rfl rfl hdV_X2_dropOldest ⟨Nat.le_of_ble_eq_true rfl, Nat.le_of_ble_eq_true rfl⟩) hK hP hS hk_j0a (by decide) cl_2 rfl hl.1 rfl (Nat.le_of_ble_eq_true rfl) dX2_record_9 ⟨Nat.zero_le _, Nat.zero_le _⟩ (fun M2 H locs h hP hS => ?_)
    exact B12 _ _ _ _ _ _ hP hS (lv_sub hl [0, 1] rfl) hk_j0a hk_j1a h
set_option maxHeartbeats 4000000 in
set_option maxRecDepth 100000 in
theorem mX2_restoreLatest (l : Launch) (G : Gp) (j0a : Nat) (j1a : Nat) (M : Mm) (Post : Mm → Int32 → Prop) (hk_j0a : kd j0a = 2) (hk_j1a : kd j1a = 4) (h : wX2_restoreLatest Post M j0a j1a) : CtI l yX2_restoreLatest wsX2_restoreLatest rX2_restoreLatest G [.ref (G.2.1 + j0a), .ref (G.2.1 + j1a)] M Post := by
  refine Met.ofW (cc := cX2_restoreLatest) (maxL := 2) (ret := (some .int)) (by decide) rfl ?_
  intro p e s m args below meth c s₁ B hml hv
  obtain ⟨rfl, hK, hP⟩ := hv
  have hx := B.exec
  have hb := B.bytes
  have hr := B.returns
  have hlocks := B.notSynchronized
  have hts0 := atoms_spec (ws := wsX2_restoreLatest) B.pre
  have hts : ∀ w ∈ wsL_law, w.before _ s = true := fun w hw => hts0 w (List.mem_cons_of_mem _ hw)
  have hown : s.vm.findClass RX2 = some m.cls := findClass_of_methodNamed B.named
  have hS : va_S (Fr G) s.heap s.heap [] := va_S.rf
  have hl := lv_entry ([.ref (G.2.1 + j0a), .ref (G.2.1 + j1a)]) (n := 2) (Nat.le_of_ble_eq_true rfl)
  rw [lg_entry_eq]
  generalize (lg_sl ([.ref (G.2.1 + j0a), .ref (G.2.1 + j1a)]) ++ List.replicate (2 - (lg_sl ([.ref (G.2.1 + j0a), .ref (G.2.1 + j1a)])).length) Slot.unset).toArray = ls at hl ⊢
  have hl : lv_has ls 2 [(0, .ref (G.2.1 + j0a)), (1, .ref (G.2.1 + j1a))] := hl
  unfold wX2_restoreLatest at h
  refine lv_aload_n hx hb dX2_restoreLatest_0 rfl (lv_at hl 0 rfl) ?_
  refine rk_geti hx hb hts inlX2 hown hK hP hk_j0a cl_2 0 fq_2_0 q_5_15 rfl dX2_restoreLatest_1 ?_
  refine lv_if_le (tgt := 30) hx hb dX2_restoreLatest_4 (by decide) (fun c1 => ?_) (fun c1 => ?_)
  · replace h := h.1 c1
    refine lv_aload_n hx hb dX2_restoreLatest_30 rfl (lv_at hl 0 rfl) ?_
    refine rk_geti hx hb hts inlX2 hown hK hP hk_j0a cl_2 0 fq_2_0 q_5_15 rfl dX2_restoreLatest_31 ?_
    exact re_i hx hb hr hlocks hP hS h dX2_restoreLatest_34
  · replace h := h.2 c1
    refine lv_aload_n hx hb dX2_restoreLatest_7 rfl (lv_at hl 0 rfl) ?_
    refine lv_dup hx hb dX2_restoreLatest_8 rfl ?_
    refine rk_geti hx hb hts inlX2 hown hK hP hk_j0a cl_2 0 fq_2_0 q_5_15 rfl dX2_restoreLatest_9 ?_
    refine lv_iconst (v := (1 : Int32)) hx hb dX2_restoreLatest_12 k_iconst_1 ?_
    refine lv_isub hx hb dX2_restoreLatest_13 ?_
    refine rk_puti hx hb hts inlX2 tyX2 tyX2_ok nmX2 hown hK hP hS hk_j0a cl_2 0 fq_2_0 q_5_15 rfl rfl rfl dX2_restoreLatest_14 (fun M2 eM2 H locs hP hS => ?_)
    replace h := h M2 eM2
    refine lv_aload_n hx hb dX2_restoreLatest_17 rfl (lv_at hl 1 rfl) ?_
    refine lv_aload_n hx hb dX2_restoreLatest_18 rfl (lv_at hl 0 rfl) ?_
    refine rk_getr hx hb hts inlX2 hown hK hP hk_j0a cl_2 1 1 fq_2_1 q_4_4 rfl dX2_restoreLatest_19 ?_
    refine lv_aload_n hx hb dX2_restoreLatest_22 rfl (lv_at hl 0 rfl) ?_
    refine rk_geti hx hb hts inlX2 hown hK hP hk_j0a cl_2 0 fq_2_0 q_5_15 rfl dX2_restoreLatest_23 ?_
    refine rk_aald hx hb hK hP (ky_2_1 hk_j0a) _ rfl h.1 dX2_restoreLatest_26 ?_
    replace h := h.2
    have hq3 := h.1
    replace h := h.2
    refine rc_Vv (As := [.ref (G.2.1 + (ix (M2 (j0a + 1) (ix (M2 j0a 0)))))]) (rest := []) ⟨hx, hb, hml, hown, hts⟩ (mX4_become l G j1a (ix (M2 (j0a + 1) (ix (M2 j0a 0)))) M2 _ hk_j1a hq3 h) (cwV 1 hts (gV_X4_become q_5_20) rfl rfl rfl hdV_X4_become ⟨Nat.le_of_ble_eq_true rfl, Nat.le_of_ble_eq_true rfl⟩) hK hP hS hk_j1a (by decide) cl_4 rfl hl.1 rfl (Nat.le_of_ble_eq_true rfl) dX2_restoreLatest_27 ⟨Nat.zero_le _, Nat.zero_le _⟩ (fun M4 H locs h hP hS => ?_)
    refine lv_aload_n hx hb dX2_restoreLatest_30 rfl (lv_at hl 0 rfl) ?_
    refine rk_geti hx hb hts inlX2 hown hK hP hk_j0a cl_2 0 fq_2_0 q_5_15 rfl dX2_restoreLatest_31 ?_
    exact re_i hx hb hr hlocks hP hS h dX2_restoreLatest_34
set_option maxHeartbeats 4000000 in
set_option maxRecDepth 100000 in
theorem mX3_append (l : Launch) (G : Gp) (j0a : Nat) (x1a : Int32) (M : Mm) (Post : Mm → Int32 → Prop) (hk_j0a : kd j0a = 3) (h : wX3_append Post M j0a x1a) : CtI l yX3_append wsX3_append rX3_append G [.ref (G.2.1 + j0a), .int x1a] M Post := by
  refine Met.ofW (cc := cX3_append) (maxL := 2) (ret := (some .int)) (by decide) rfl ?_
  intro p e s m args below meth c s₁ B hml hv
  obtain ⟨rfl, hK, hP⟩ := hv
  have hx := B.exec
  have hb := B.bytes
  have hr := B.returns
  have hlocks := B.notSynchronized
  have hts0 := atoms_spec (ws := wsX3_append) B.pre
  have hts : ∀ w ∈ wsL_law, w.before _ s = true := fun w hw => hts0 w (List.mem_cons_of_mem _ hw)
  have hown : s.vm.findClass RX3 = some m.cls := findClass_of_methodNamed B.named
  have hS : va_S (Fr G) s.heap s.heap [] := va_S.rf
  have hl := lv_entry ([.ref (G.2.1 + j0a), .int x1a]) (n := 2) (Nat.le_of_ble_eq_true rfl)
  rw [lg_entry_eq]
  generalize (lg_sl ([.ref (G.2.1 + j0a), .int x1a]) ++ List.replicate (2 - (lg_sl ([.ref (G.2.1 + j0a), .int x1a])).length) Slot.unset).toArray = ls at hl ⊢
  have hl : lv_has ls 2 [(0, .ref (G.2.1 + j0a)), (1, .int x1a)] := hl
  unfold wX3_append at h
  refine lv_aload_n hx hb dX3_append_0 rfl (lv_at hl 0 rfl) ?_
  refine rk_getr hx hb hts inlX3 hown hK hP hk_j0a cl_3 1 1 fq_3_1 q_4_8 rfl dX3_append_1 ?_
  refine lv_aload_n hx hb dX3_append_4 rfl (lv_at hl 0 rfl) ?_
  refine rk_geti hx hb hts inlX3 hown hK hP hk_j0a cl_3 0 fq_3_0 q_31_19 rfl dX3_append_5 ?_
  refine lv_iload_n hx hb dX3_append_8 rfl (lv_at hl 1 rfl) ?_
  refine rk_iast hx hb hK hP hS (ky_3_1 hk_j0a) ac_10 _ rfl h.1 dX3_append_9 (fun M1 eM1 H locs hP hS => ?_)
  replace h := h.2
  replace h := h M1 eM1
  refine lv_aload_n hx hb dX3_append_10 rfl (lv_at hl 0 rfl) ?_
  refine lv_dup hx hb dX3_append_11 rfl ?_
  refine rk_geti hx hb hts inlX3 hown hK hP hk_j0a cl_3 0 fq_3_0 q_31_19 rfl dX3_append_12 ?_
  refine lv_iconst (v := (1 : Int32)) hx hb dX3_append_15 k_iconst_1 ?_
  refine lv_iadd hx hb dX3_append_16 ?_
  refine rk_puti hx hb hts inlX3 tyX3 tyX3_ok nmX3 hown hK hP hS hk_j0a cl_3 0 fq_3_0 q_31_19 rfl rfl rfl dX3_append_17 (fun M2 eM2 H locs hP hS => ?_)
  replace h := h M2 eM2
  refine lv_aload_n hx hb dX3_append_20 rfl (lv_at hl 0 rfl) ?_
  refine rk_geti hx hb hts inlX3 hown hK hP hk_j0a cl_3 0 fq_3_0 q_31_19 rfl dX3_append_21 ?_
  exact re_i hx hb hr hlocks hP hS h dX3_append_24
set_option maxHeartbeats 4000000 in
set_option maxRecDepth 100000 in
theorem mX3_characterAt (l : Launch) (G : Gp) (j0a : Nat) (x1a : Int32) (M : Mm) (Post : Mm → Int32 → Prop) (hk_j0a : kd j0a = 3) (h : wX3_characterAt Post M j0a x1a) : CtI l yX3_characterAt wsX3_characterAt rX3_characterAt G [.ref (G.2.1 + j0a), .int x1a] M Post := by
  refine Met.ofW (cc := cX3_characterAt) (maxL := 2) (ret := (some .int)) (by decide) rfl ?_
  intro p e s m args below meth c s₁ B hml hv
  obtain ⟨rfl, hK, hP⟩ := hv
  have hx := B.exec
  have hb := B.bytes
  have hr := B.returns
  have hlocks := B.notSynchronized
  have hts0 := atoms_spec (ws := wsX3_characterAt) B.pre
  have hts : ∀ w ∈ wsL_law, w.before _ s = true := fun w hw => hts0 w (List.mem_cons_of_mem _ hw)
  have hown : s.vm.findClass RX3 = some m.cls := findClass_of_methodNamed B.named
  have hS : va_S (Fr G) s.heap s.heap [] := va_S.rf
  have hl := lv_entry ([.ref (G.2.1 + j0a), .int x1a]) (n := 2) (Nat.le_of_ble_eq_true rfl)
  rw [lg_entry_eq]
  generalize (lg_sl ([.ref (G.2.1 + j0a), .int x1a]) ++ List.replicate (2 - (lg_sl ([.ref (G.2.1 + j0a), .int x1a])).length) Slot.unset).toArray = ls at hl ⊢
  have hl : lv_has ls 2 [(0, .ref (G.2.1 + j0a)), (1, .int x1a)] := hl
  unfold wX3_characterAt at h
  refine lv_iload_n hx hb dX3_characterAt_0 rfl (lv_at hl 1 rfl) ?_
  refine lv_if_lt (tgt := 21) hx hb dX3_characterAt_1 (by decide) (fun c1 => ?_) (fun c1 => ?_)
  · replace h := h.1 c1
    refine lv_iconst (v := (0 : Int32)) hx hb dX3_characterAt_21 k_iconst_0 ?_
    exact re_i hx hb hr hlocks hP hS h dX3_characterAt_22
  · replace h := h.2 c1
    refine lv_iload_n hx hb dX3_characterAt_4 rfl (lv_at hl 1 rfl) ?_
    refine lv_aload_n hx hb dX3_characterAt_5 rfl (lv_at hl 0 rfl) ?_
    refine rk_geti hx hb hts inlX3 hown hK hP hk_j0a cl_3 0 fq_3_0 q_31_19 rfl dX3_characterAt_6 ?_
    refine lv_icmp_ge (tgt := 21) hx hb dX3_characterAt_9 (by decide) (fun c2 => ?_) (fun c2 => ?_)
    · replace h := h.1 c2
      refine lv_iconst (v := (0 : Int32)) hx hb dX3_characterAt_21 k_iconst_0 ?_
      exact re_i hx hb hr hlocks hP hS h dX3_characterAt_22
    · replace h := h.2 c2
      refine lv_aload_n hx hb dX3_characterAt_12 rfl (lv_at hl 0 rfl) ?_
      refine rk_getr hx hb hts inlX3 hown hK hP hk_j0a cl_3 1 1 fq_3_1 q_4_8 rfl dX3_characterAt_13 ?_
      refine lv_iload_n hx hb dX3_characterAt_16 rfl (lv_at hl 1 rfl) ?_
      refine rk_iald hx hb hK hP (ky_3_1 hk_j0a) ac_10 _ rfl h.1 dX3_characterAt_17 ?_
      replace h := h.2
      refine lv_goto (tgt := 22) hx hb dX3_characterAt_18 (by decide) ?_
      exact re_i hx hb hr hlocks hP hS h dX3_characterAt_22
set_option maxHeartbeats 4000000 in
set_option maxRecDepth 100000 in
theorem mX3_readNumber (l : Launch) (G : Gp) (j0a : Nat) (M : Mm) (Post : Mm → Int32 → Prop) (hk_j0a : kd j0a = 3) (h : wX3_readNumber Post M j0a) : CtI l yX3_readNumber wsX3_readNumber rX3_readNumber G [.ref (G.2.1 + j0a)] M Post := by
  refine Met.ofW (cc := cX3_readNumber) (maxL := 4) (ret := (some .int)) (by decide) rfl ?_
  intro p e s m args below meth c s₁ B hml hv
  obtain ⟨rfl, hK, hP⟩ := hv
  have hx := B.exec
  have hb := B.bytes
  have hr := B.returns
  have hlocks := B.notSynchronized
  have hts0 := atoms_spec (ws := wsX3_readNumber) B.pre
  have hts : ∀ w ∈ wsL_law, w.before _ s = true := fun w hw => hts0 w (List.mem_cons_of_mem _ hw)
  have hown : s.vm.findClass RX3 = some m.cls := findClass_of_methodNamed B.named
  have hS : va_S (Fr G) s.heap s.heap [] := va_S.rf
  have hl := lv_entry ([.ref (G.2.1 + j0a)]) (n := 4) (Nat.le_of_ble_eq_true rfl)
  rw [lg_entry_eq]
  generalize (lg_sl ([.ref (G.2.1 + j0a)]) ++ List.replicate (4 - (lg_sl ([.ref (G.2.1 + j0a)])).length) Slot.unset).toArray = ls at hl ⊢
  have hl : lv_has ls 4 [(0, .ref (G.2.1 + j0a))] := hl
  have B4 : ∀ n : Nat, ∀ (M : Mm) (j0 : Nat) (x1 : Int32) (x2 : Int32) (H : Heap) (locs : List Loc) (ls : Array Slot), Rp G M H → va_S (Fr G) s.heap H locs → lv_has ls 4 [(0, .ref (G.2.1 + j0)), (1, .int x1), (2, .int x2)] → kd j0 = 3 → lX3_readNumber_4 Post n M j0 x1 x2 → Wi p l e (headSpec wsX3_readNumber rX3_readNumber).room s m [.ref (G.2.1 + j0a)].toArray below meth c G Post H locs (F0 m 4 ls []) := by
    intro n
    induction n with
    | zero => intro M j0 x1 x2 H locs ls hP hS hl hk_j0 h; exact h.elim
    | succ n ih =>
      intro M j0 x1 x2 H locs ls hP hS hl hk_j0 h
      have hA4 := ih
      replace h : bX3_readNumber_4 Post (lX3_readNumber_4 Post n) M j0 x1 x2 := h
      unfold bX3_readNumber_4 at h
      refine lv_iload_n hx hb dX3_readNumber_4 rfl (lv_at hl 2 rfl) ?_
      refine lv_iconst (v := (3 : Int32)) hx hb dX3_readNumber_5 k_iconst_3 ?_
      refine lv_icmp_ge (tgt := 62) hx hb dX3_readNumber_6 (by decide) (fun c2 => ?_) (fun c2 => ?_)
      · replace h := h.1 c2
        refine lv_iload_n hx hb dX3_readNumber_62 rfl (lv_at hl 1 rfl) ?_
        exact re_i hx hb hr hlocks hP hS h dX3_readNumber_63
      · replace h := h.2 c2
        refine lv_aload_n hx hb dX3_readNumber_9 rfl (lv_at hl 0 rfl) ?_
        refine lv_aload_n hx hb dX3_readNumber_10 rfl (lv_at hl 0 rfl) ?_
        refine rk_geti hx hb hts inlX3 hown hK hP hk_j0 cl_3 3 fq_3_3 q_32_19 rfl dX3_readNumber_11 ?_
        refine rc_Vi (As := [.int (M j0 3)]) (rest := []) ⟨hx, hb, hml, hown, hts⟩ (mX3_characterAt l G j0 (M j0 3) M _ hk_j0 h) (cwV 1 hts (gV_X3_characterAt q_33_10) rfl rfl rfl hdV_X3_characterAt ⟨Nat.le_of_ble_eq_true rfl, Nat.le_of_ble_eq_true rfl⟩) hK hP hS hk_j0 (by decide) cl_3 rfl hl.1 rfl (Nat.le_of_ble_eq_true rfl) dX3_readNumber_14 ⟨Nat.zero_le _, Nat.zero_le _⟩ (fun r4 M3 H locs h hP hS => ?_)
        refine lv_istore_n (lv' := [(3, .int r4), (0, .ref (G.2.1 + j0)), (1, .int x1), (2, .int x2)]) hx hb dX3_readNumber_17 rfl hl (by decide) rfl (fun ls hl => ?_)
        refine lv_iload_n hx hb dX3_readNumber_18 rfl (lv_at hl 0 rfl) ?_
        refine lv_bipush (v := (48 : Int32)) hx hb dX3_readNumber_19 k_bipush_48 ?_
        refine lv_icmp_lt (tgt := 30) hx hb dX3_readNumber_21 (by decide) (fun c5 => ?_) (fun c5 => ?_)
        · replace h := h.1 c5
          refine lv_iload_n hx hb dX3_readNumber_30 rfl (lv_at hl 2 rfl) ?_
          exact re_i hx hb hr hlocks hP hS h dX3_readNumber_31
        · replace h := h.2 c5
          refine lv_iload_n hx hb dX3_readNumber_24 rfl (lv_at hl 0 rfl) ?_
          refine lv_bipush (v := (57 : Int32)) hx hb dX3_readNumber_25 k_bipush_57 ?_
          refine lv_icmp_le (tgt := 32) hx hb dX3_readNumber_27 (by decide) (fun c6 => ?_) (fun c6 => ?_)
          · replace h := h.1 c6
            refine lv_iload_n hx hb dX3_readNumber_32 rfl (lv_at hl 2 rfl) ?_
            refine lv_iconst (v := (0 : Int32)) hx hb dX3_readNumber_33 k_iconst_0 ?_
            refine rk_max hx hb (hml.trans hl.1.symm) hts hown q_33_18 q_33_19 q_17_9 q_33_20 (Nat.le_of_ble_eq_true rfl) (Nat.le_of_ble_eq_true rfl) ⟨Nat.zero_le _, Nat.zero_le _⟩ dX3_readNumber_34 ?_
            refine lv_bipush (v := (10 : Int32)) hx hb dX3_readNumber_37 k_bipush_10 ?_
            refine lv_imul hx hb dX3_readNumber_39 ?_
            refine lv_iload_n hx hb dX3_readNumber_40 rfl (lv_at hl 0 rfl) ?_
            refine lv_iadd hx hb dX3_readNumber_41 ?_
            refine lv_bipush (v := (48 : Int32)) hx hb dX3_readNumber_42 k_bipush_48 ?_
            refine lv_isub hx hb dX3_readNumber_44 ?_
            refine lv_topi (fun x1_7 ex1_7 => ?_)
            replace h := h x1_7 ex1_7
            refine lv_istore_n (lv' := [(1, .int x1_7), (3, .int r4), (0, .ref (G.2.1 + j0)), (2, .int x2)]) hx hb dX3_readNumber_45 rfl hl (by decide) rfl (fun ls hl => ?_)
            refine lv_aload_n hx hb dX3_readNumber_46 rfl (lv_at hl 2 rfl) ?_
            refine lv_dup hx hb dX3_readNumber_47 rfl ?_
            refine rk_geti hx hb hts inlX3 hown hK hP hk_j0 cl_3 3 fq_3_3 q_32_19 rfl dX3_readNumber_48 ?_
            refine lv_iconst (v := (1 : Int32)) hx hb dX3_readNumber_51 k_iconst_1 ?_
            refine lv_iadd hx hb dX3_readNumber_52 ?_
            refine rk_puti hx hb hts inlX3 tyX3 tyX3_ok nmX3 hown hK hP hS hk_j0 cl_3 3 fq_3_3 q_32_19 rfl rfl rfl dX3_readNumber_53 (fun M8 eM8 H locs hP hS => ?_)
            replace h := h M8 eM8
            obtain ⟨x2_9, ex2_9⟩ : ∃ y : Int32, y = x2 + (1 : Int32) := ⟨_, rfl⟩
            replace h := h x2_9 ex2_9
            refine lv_iinc (v := x2_9) (lv' := [(2, .int x2_9), (1, .int x1_7), (3, .int r4), (0, .ref (G.2.1 + j0))]) hx hb dX3_readNumber_56 hl (k := 3) rfl (by rw [ex2_9]; rfl) (by decide) rfl (fun ls hl => ?_)
            refine lv_goto (tgt := 4) hx hb dX3_readNumber_59 (by decide) ?_
            exact hA4 _ _ _ _ _ _ _ hP hS (lv_sub hl [3, 1, 0] rfl) hk_j0 h
          · replace h := h.2 c6
            refine lv_iload_n hx hb dX3_readNumber_30 rfl (lv_at hl 2 rfl) ?_
            exact re_i hx hb hr hlocks hP hS h dX3_readNumber_31
  unfold wX3_readNumber at h
  refine lv_iconst (v := (-1 : Int32)) hx hb dX3_readNumber_0 k_iconst_m1 ?_
  refine lv_istore_n (lv' := [(1, .int (-1 : Int32)), (0, .ref (G.2.1 + j0a))]) hx hb dX3_readNumber_1 rfl hl (by decide) rfl (fun ls hl => ?_)
  refine lv_iconst (v := (0 : Int32)) hx hb dX3_readNumber_2 k_iconst_0 ?_
  refine lv_istore_n (lv' := [(2, .int (0 : Int32)), (1, .int (-1 : Int32)), (0, .ref (G.2.1 + j0a))]) hx hb dX3_readNumber_3 rfl hl (by decide) rfl (fun ls hl => ?_)
  obtain ⟨n1, h⟩ := h
  exact B4 _ _ _ _ _ _ _ _ hP hS (lv_sub hl [2, 1, 0] rfl) hk_j0a h
set_option maxHeartbeats 4000000 in
set_option maxRecDepth 100000 in
theorem mX3_skip (l : Launch) (G : Gp) (j0a : Nat) (x1a : Int32) (M : Mm) (Post : Mm → Int32 → Prop) (hk_j0a : kd j0a = 3) (h : wX3_skip Post M j0a x1a) : CtI l yX3_skip wsX3_skip rX3_skip G [.ref (G.2.1 + j0a), .int x1a] M Post := by
  refine Met.ofW (cc := cX3_skip) (maxL := 2) (ret := (some .boolean)) (by decide) rfl ?_
  intro p e s m args below meth c s₁ B hml hv
  obtain ⟨rfl, hK, hP⟩ := hv
  have hx := B.exec
  have hb := B.bytes
  have hr := B.returns
  have hlocks := B.notSynchronized
  have hts0 := atoms_spec (ws := wsX3_skip) B.pre
  have hts : ∀ w ∈ wsL_law, w.before _ s = true := fun w hw => hts0 w (List.mem_cons_of_mem _ hw)
  have hown : s.vm.findClass RX3 = some m.cls := findClass_of_methodNamed B.named
  have hS : va_S (Fr G) s.heap s.heap [] := va_S.rf
  have hl := lv_entry ([.ref (G.2.1 + j0a), .int x1a]) (n := 2) (Nat.le_of_ble_eq_true rfl)
  rw [lg_entry_eq]
  generalize (lg_sl ([.ref (G.2.1 + j0a), .int x1a]) ++ List.replicate (2 - (lg_sl ([.ref (G.2.1 + j0a), .int x1a])).length) Slot.unset).toArray = ls at hl ⊢
  have hl : lv_has ls 2 [(0, .ref (G.2.1 + j0a)), (1, .int x1a)] := hl
  unfold wX3_skip at h
  refine lv_aload_n hx hb dX3_skip_0 rfl (lv_at hl 0 rfl) ?_
  refine lv_aload_n hx hb dX3_skip_1 rfl (lv_at hl 0 rfl) ?_
  refine rk_geti hx hb hts inlX3 hown hK hP hk_j0a cl_3 3 fq_3_3 q_32_19 rfl dX3_skip_2 ?_
  refine rc_Vi (As := [.int (M j0a 3)]) (rest := []) ⟨hx, hb, hml, hown, hts⟩ (mX3_characterAt l G j0a (M j0a 3) M _ hk_j0a h) (cwV 1 hts (gV_X3_characterAt q_33_10) rfl rfl rfl hdV_X3_characterAt ⟨Nat.le_of_ble_eq_true rfl, Nat.le_of_ble_eq_true rfl⟩) hK hP hS hk_j0a (by decide) cl_3 rfl hl.1 rfl (Nat.le_of_ble_eq_true rfl) dX3_skip_5 ⟨Nat.zero_le _, Nat.zero_le _⟩ (fun r2 M1 H locs h hP hS => ?_)
  refine lv_iload_n hx hb dX3_skip_8 rfl (lv_at hl 1 rfl) ?_
  refine lv_icmp_eq (tgt := 14) hx hb dX3_skip_9 (by decide) (fun c3 => ?_) (fun c3 => ?_)
  · replace h := h.1 c3
    refine lv_aload_n hx hb dX3_skip_14 rfl (lv_at hl 0 rfl) ?_
    refine lv_dup hx hb dX3_skip_15 rfl ?_
    refine rk_geti hx hb hts inlX3 hown hK hP hk_j0a cl_3 3 fq_3_3 q_32_19 rfl dX3_skip_16 ?_
    refine lv_iconst (v := (1 : Int32)) hx hb dX3_skip_19 k_iconst_1 ?_
    refine lv_iadd hx hb dX3_skip_20 ?_
    refine rk_puti hx hb hts inlX3 tyX3 tyX3_ok nmX3 hown hK hP hS hk_j0a cl_3 3 fq_3_3 q_32_19 rfl rfl rfl dX3_skip_21 (fun M4 eM4 H locs hP hS => ?_)
    replace h := h M4 eM4
    refine lv_iconst (v := (1 : Int32)) hx hb dX3_skip_24 k_iconst_1 ?_
    exact re_z hx hb hr hlocks (Or.inr rfl) hP hS h dX3_skip_25
  · replace h := h.2 c3
    refine lv_iconst (v := (0 : Int32)) hx hb dX3_skip_12 k_iconst_0 ?_
    exact re_z hx hb hr hlocks (Or.inl rfl) hP hS h dX3_skip_13
set_option maxHeartbeats 4000000 in
set_option maxRecDepth 100000 in
theorem mX3_readOrder (l : Launch) (G : Gp) (j0a : Nat) (M : Mm) (Post : Mm → Int32 → Prop) (hk_j0a : kd j0a = 3) (h : wX3_readOrder Post M j0a) : CtI l yX3_readOrder wsX3_readOrder rX3_readOrder G [.ref (G.2.1 + j0a)] M Post := by
  refine Met.ofW (cc := cX3_readOrder) (maxL := 1) (ret := (some .boolean)) (by decide) rfl ?_
  intro p e s m args below meth c s₁ B hml hv
  obtain ⟨rfl, hK, hP⟩ := hv
  have hx := B.exec
  have hb := B.bytes
  have hr := B.returns
  have hlocks := B.notSynchronized
  have hts0 := atoms_spec (ws := wsX3_readOrder) B.pre
  have hts : ∀ w ∈ wsL_law, w.before _ s = true := fun w hw => hts0 w (List.mem_cons_of_mem _ hw)
  have hown : s.vm.findClass RX3 = some m.cls := findClass_of_methodNamed B.named
  have hS : va_S (Fr G) s.heap s.heap [] := va_S.rf
  have hl := lv_entry ([.ref (G.2.1 + j0a)]) (n := 1) (Nat.le_of_ble_eq_true rfl)
  rw [lg_entry_eq]
  generalize (lg_sl ([.ref (G.2.1 + j0a)]) ++ List.replicate (1 - (lg_sl ([.ref (G.2.1 + j0a)])).length) Slot.unset).toArray = ls at hl ⊢
  have hl : lv_has ls 1 [(0, .ref (G.2.1 + j0a))] := hl
  have B123 : ∀ (M : Mm) (j0 : Nat) (H : Heap) (locs : List Loc) (ls : Array Slot), Rp G M H → va_S (Fr G) s.heap H locs → lv_has ls 1 [(0, .ref (G.2.1 + j0))] → kd j0 = 3 → bX3_readOrder_123 Post M j0 → Wi p l e (headSpec wsX3_readOrder rX3_readOrder).room s m [.ref (G.2.1 + j0a)].toArray below meth c G Post H locs (F0 m 123 ls []) := by
    intro M j0 H locs ls hP hS hl hk_j0 h
    unfold bX3_readOrder_123 at h
    refine lv_aload_n hx hb dX3_readOrder_123 rfl (lv_at hl 0 rfl) ?_
    refine lv_bipush (v := (59 : Int32)) hx hb dX3_readOrder_124 k_bipush_59 ?_
    refine rc_Vi (As := [.int (59 : Int32)]) (rest := []) ⟨hx, hb, hml, hown, hts⟩ (mX3_skip l G j0 (59 : Int32) M _ hk_j0 h) (cwV 1 hts (gV_X3_skip q_33_21) rfl rfl rfl hdV_X3_skip ⟨Nat.le_of_ble_eq_true rfl, Nat.le_of_ble_eq_true rfl⟩) hK hP hS hk_j0 (by decide) cl_3 rfl hl.1 rfl (Nat.le_of_ble_eq_true rfl) dX3_readOrder_126 ⟨Nat.zero_le _, Nat.zero_le _⟩ (fun r23 M22 H locs h hP hS => ?_)
    exact re_z hx hb hr hlocks h.1 hP hS h.2 dX3_readOrder_129
  have B59 : ∀ (M : Mm) (j0 : Nat) (H : Heap) (locs : List Loc) (ls : Array Slot), Rp G M H → va_S (Fr G) s.heap H locs → lv_has ls 1 [(0, .ref (G.2.1 + j0))] → kd j0 = 3 → bX3_readOrder_59 Post M j0 → Wi p l e (headSpec wsX3_readOrder rX3_readOrder).room s m [.ref (G.2.1 + j0a)].toArray below meth c G Post H locs (F0 m 59 ls []) := by
    intro M j0 H locs ls hP hS hl hk_j0 h
    unfold bX3_readOrder_59 at h
    refine lv_aload_n hx hb dX3_readOrder_59 rfl (lv_at hl 0 rfl) ?_
    refine lv_dup hx hb dX3_readOrder_60 rfl ?_
    refine rk_geti hx hb hts inlX3 hown hK hP hk_j0 cl_3 3 fq_3_3 q_32_19 rfl dX3_readOrder_61 ?_
    refine lv_iconst (v := (1 : Int32)) hx hb dX3_readOrder_64 k_iconst_1 ?_
    refine lv_iadd hx hb dX3_readOrder_65 ?_
    refine rk_puti hx hb hts inlX3 tyX3 tyX3_ok nmX3 hown hK hP hS hk_j0 cl_3 3 fq_3_3 q_32_19 rfl rfl rfl dX3_readOrder_66 (fun M9 eM9 H locs hP hS => ?_)
    replace h := h M9 eM9
    refine lv_aload_n hx hb dX3_readOrder_69 rfl (lv_at hl 0 rfl) ?_
    refine lv_aload_n hx hb dX3_readOrder_70 rfl (lv_at hl 0 rfl) ?_
    refine rc_Vi (As := []) (rest := [.ref (G.2.1 + j0)]) ⟨hx, hb, hml, hown, hts⟩ (mX3_readNumber l G j0 M9 _ hk_j0 h) (cwV 0 hts (gV_X3_readNumber q_33_14) rfl rfl rfl hdV_X3_readNumber ⟨Nat.le_of_ble_eq_true rfl, Nat.le_of_ble_eq_true rfl⟩) hK hP hS hk_j0 (by decide) cl_3 rfl hl.1 rfl (Nat.le_of_ble_eq_true rfl) dX3_readOrder_71 ⟨Nat.zero_le _, Nat.zero_le _⟩ (fun r11 M10 H locs h hP hS => ?_)
    refine rk_puti hx hb hts inlX3 tyX3 tyX3_ok nmX3 hown hK hP hS hk_j0 cl_3 5 fq_3_5 q_33_8 rfl rfl rfl dX3_readOrder_74 (fun M12 eM12 H locs hP hS => ?_)
    replace h := h M12 eM12
    refine lv_aload_n hx hb dX3_readOrder_77 rfl (lv_at hl 0 rfl) ?_
    refine rk_geti hx hb hts inlX3 hown hK hP hk_j0 cl_3 5 fq_3_5 q_33_8 rfl dX3_readOrder_78 ?_
    refine lv_if_ge (tgt := 86) hx hb dX3_readOrder_81 (by decide) (fun c13 => ?_) (fun c13 => ?_)
    · replace h := h.1 c13
      refine lv_aload_n hx hb dX3_readOrder_86 rfl (lv_at hl 0 rfl) ?_
      refine rk_geti hx hb hts inlX3 hown hK hP hk_j0 cl_3 4 fq_3_4 q_33_7 rfl dX3_readOrder_87 ?_
      refine lv_bipush (v := (114 : Int32)) hx hb dX3_readOrder_90 k_bipush_114 ?_
      refine lv_icmp_ne (tgt := 123) hx hb dX3_readOrder_92 (by decide) (fun c14 => ?_) (fun c14 => ?_)
      · replace h := h.1 c14
        exact B123 _ _ _ _ _ hP hS (lv_sub hl [0] rfl) hk_j0 h
      · replace h := h.2 c14
        refine lv_aload_n hx hb dX3_readOrder_95 rfl (lv_at hl 0 rfl) ?_
        refine lv_bipush (v := (44 : Int32)) hx hb dX3_readOrder_96 k_bipush_44 ?_
        refine rc_Vi (As := [.int (44 : Int32)]) (rest := []) ⟨hx, hb, hml, hown, hts⟩ (mX3_skip l G j0 (44 : Int32) M12 _ hk_j0 h) (cwV 1 hts (gV_X3_skip q_33_21) rfl rfl rfl hdV_X3_skip ⟨Nat.le_of_ble_eq_true rfl, Nat.le_of_ble_eq_true rfl⟩) hK hP hS hk_j0 (by decide) cl_3 rfl hl.1 rfl (Nat.le_of_ble_eq_true rfl) dX3_readOrder_98 ⟨Nat.zero_le _, Nat.zero_le _⟩ (fun r16 M15 H locs h hP hS => ?_)
        refine lv_if_ne (tgt := 106) hx hb dX3_readOrder_101 (by decide) (fun c17 => ?_) (fun c17 => ?_)
        · replace h := h.1 c17
          refine lv_aload_n hx hb dX3_readOrder_106 rfl (lv_at hl 0 rfl) ?_
          refine lv_aload_n hx hb dX3_readOrder_107 rfl (lv_at hl 0 rfl) ?_
          refine rc_Vi (As := []) (rest := [.ref (G.2.1 + j0)]) ⟨hx, hb, hml, hown, hts⟩ (mX3_readNumber l G j0 M15 _ hk_j0 h) (cwV 0 hts (gV_X3_readNumber q_33_14) rfl rfl rfl hdV_X3_readNumber ⟨Nat.le_of_ble_eq_true rfl, Nat.le_of_ble_eq_true rfl⟩) hK hP hS hk_j0 (by decide) cl_3 rfl hl.1 rfl (Nat.le_of_ble_eq_true rfl) dX3_readOrder_108 ⟨Nat.zero_le _, Nat.zero_le _⟩ (fun r19 M18 H locs h hP hS => ?_)
          refine rk_puti hx hb hts inlX3 tyX3 tyX3_ok nmX3 hown hK hP hS hk_j0 cl_3 6 fq_3_6 q_33_9 rfl rfl rfl dX3_readOrder_111 (fun M20 eM20 H locs hP hS => ?_)
          replace h := h M20 eM20
          refine lv_aload_n hx hb dX3_readOrder_114 rfl (lv_at hl 0 rfl) ?_
          refine rk_geti hx hb hts inlX3 hown hK hP hk_j0 cl_3 6 fq_3_6 q_33_9 rfl dX3_readOrder_115 ?_
          refine lv_if_ge (tgt := 123) hx hb dX3_readOrder_118 (by decide) (fun c21 => ?_) (fun c21 => ?_)
          · replace h := h.1 c21
            exact B123 _ _ _ _ _ hP hS (lv_sub hl [0] rfl) hk_j0 h
          · replace h := h.2 c21
            refine lv_iconst (v := (0 : Int32)) hx hb dX3_readOrder_121 k_iconst_0 ?_
            exact re_z hx hb hr hlocks (Or.inl rfl) hP hS h dX3_readOrder_122
        · replace h := h.2 c17
          refine lv_iconst (v := (0 : Int32)) hx hb dX3_readOrder_104 k_iconst_0 ?_
          exact re_z hx hb hr hlocks (Or.inl rfl) hP hS h dX3_readOrder_105
    · replace h := h.2 c13
      refine lv_iconst (v := (0 : Int32)) hx hb dX3_readOrder_84 k_iconst_0 ?_
      exact re_z hx hb hr hlocks (Or.inl rfl) hP hS h dX3_readOrder_85
  unfold wX3_readOrder at h
  refine lv_aload_n hx hb dX3_readOrder_0 rfl (lv_at hl 0 rfl) ?_
  refine lv_aload_n hx hb dX3_readOrder_1 rfl (lv_at hl 0 rfl) ?_
  refine lv_aload_n hx hb dX3_readOrder_2 rfl (lv_at hl 0 rfl) ?_
  refine rk_geti hx hb hts inlX3 hown hK hP hk_j0a cl_3 3 fq_3_3 q_32_19 rfl dX3_readOrder_3 ?_
  refine rc_Vi (As := [.int (M j0a 3)]) (rest := [.ref (G.2.1 + j0a)]) ⟨hx, hb, hml, hown, hts⟩ (mX3_characterAt l G j0a (M j0a 3) M _ hk_j0a h) (cwV 1 hts (gV_X3_characterAt q_33_10) rfl rfl rfl hdV_X3_characterAt ⟨Nat.le_of_ble_eq_true rfl, Nat.le_of_ble_eq_true rfl⟩) hK hP hS hk_j0a (by decide) cl_3 rfl hl.1 rfl (Nat.le_of_ble_eq_true rfl) dX3_readOrder_6 ⟨Nat.zero_le _, Nat.zero_le _⟩ (fun r2 M1 H locs h hP hS => ?_)
  refine rk_puti hx hb hts inlX3 tyX3 tyX3_ok nmX3 hown hK hP hS hk_j0a cl_3 4 fq_3_4 q_33_7 rfl rfl rfl dX3_readOrder_9 (fun M3 eM3 H locs hP hS => ?_)
  replace h := h M3 eM3
  refine lv_aload_n hx hb dX3_readOrder_12 rfl (lv_at hl 0 rfl) ?_
  refine rk_geti hx hb hts inlX3 hown hK hP hk_j0a cl_3 4 fq_3_4 q_33_7 rfl dX3_readOrder_13 ?_
  refine lv_bipush (v := (111 : Int32)) hx hb dX3_readOrder_16 k_bipush_111 ?_
  refine lv_icmp_eq (tgt := 59) hx hb dX3_readOrder_18 (by decide) (fun c4 => ?_) (fun c4 => ?_)
  · replace h := h.1 c4
    exact B59 _ _ _ _ _ hP hS (lv_sub hl [0] rfl) hk_j0a h
  · replace h := h.2 c4
    refine lv_aload_n hx hb dX3_readOrder_21 rfl (lv_at hl 0 rfl) ?_
    refine rk_geti hx hb hts inlX3 hown hK hP hk_j0a cl_3 4 fq_3_4 q_33_7 rfl dX3_readOrder_22 ?_
    refine lv_bipush (v := (99 : Int32)) hx hb dX3_readOrder_25 k_bipush_99 ?_
    refine lv_icmp_eq (tgt := 59) hx hb dX3_readOrder_27 (by decide) (fun c5 => ?_) (fun c5 => ?_)
    · replace h := h.1 c5
      exact B59 _ _ _ _ _ hP hS (lv_sub hl [0] rfl) hk_j0a h
    · replace h := h.2 c5
      refine lv_aload_n hx hb dX3_readOrder_30 rfl (lv_at hl 0 rfl) ?_
      refine rk_geti hx hb hts inlX3 hown hK hP hk_j0a cl_3 4 fq_3_4 q_33_7 rfl dX3_readOrder_31 ?_
      refine lv_bipush (v := (121 : Int32)) hx hb dX3_readOrder_34 k_bipush_121 ?_
      refine lv_icmp_eq (tgt := 59) hx hb dX3_readOrder_36 (by decide) (fun c6 => ?_) (fun c6 => ?_)
      · replace h := h.1 c6
        exact B59 _ _ _ _ _ hP hS (lv_sub hl [0] rfl) hk_j0a h
      · replace h := h.2 c6
        refine lv_aload_n hx hb dX3_readOrder_39 rfl (lv_at hl 0 rfl) ?_
        refine rk_geti hx hb hts inlX3 hown hK hP hk_j0a cl_3 4 fq_3_4 q_33_7 rfl dX3_readOrder_40 ?_
        refine lv_bipush (v := (104 : Int32)) hx hb dX3_readOrder_43 k_bipush_104 ?_
        refine lv_icmp_eq (tgt := 59) hx hb dX3_readOrder_45 (by decide) (fun c7 => ?_) (fun c7 => ?_)
        · replace h := h.1 c7
          exact B59 _ _ _ _ _ hP hS (lv_sub hl [0] rfl) hk_j0a h
        · replace h := h.2 c7
          refine lv_aload_n hx hb dX3_readOrder_48 rfl (lv_at hl 0 rfl) ?_
          refine rk_geti hx hb hts inlX3 hown hK hP hk_j0a cl_3 4 fq_3_4 q_33_7 rfl dX3_readOrder_49 ?_
          refine lv_bipush (v := (114 : Int32)) hx hb dX3_readOrder_52 k_bipush_114 ?_
          refine lv_icmp_eq (tgt := 59) hx hb dX3_readOrder_54 (by decide) (fun c8 => ?_) (fun c8 => ?_)
          · replace h := h.1 c8
            exact B59 _ _ _ _ _ hP hS (lv_sub hl [0] rfl) hk_j0a h
          · replace h := h.2 c8
            refine lv_iconst (v := (0 : Int32)) hx hb dX3_readOrder_57 k_iconst_0 ?_
            exact re_z hx hb hr hlocks (Or.inl rfl) hP hS h dX3_readOrder_58
set_option maxHeartbeats 4000000 in
set_option maxRecDepth 100000 in
theorem mX6_isOutside (l : Launch) (G : Gp) (x0a : Int32) (x1a : Int32) (x2a : Int32) (M : Mm) (Post : Mm → Int32 → Prop) (h : wX6_isOutside Post M x0a x1a x2a) : CtI l yX6_isOutside wsX6_isOutside rX6_isOutside G [.int x0a, .int x1a, .int x2a] M Post := by
  refine Met.ofW (cc := cX6_isOutside) (maxL := 3) (ret := (some .boolean)) (by decide) rfl ?_
  intro p e s m args below meth c s₁ B hml hv
  obtain ⟨rfl, hK, hP⟩ := hv
  have hx := B.exec
  have hb := B.bytes
  have hr := B.returns
  have hlocks := B.notSynchronized
  have hts0 := atoms_spec (ws := wsX6_isOutside) B.pre
  have hts : ∀ w ∈ wsL_law, w.before _ s = true := fun w hw => hts0 w (List.mem_cons_of_mem _ hw)
  have hown : s.vm.findClass RX6 = some m.cls := findClass_of_methodNamed B.named
  have hS : va_S (Fr G) s.heap s.heap [] := va_S.rf
  have hl := lv_entry ([.int x0a, .int x1a, .int x2a]) (n := 3) (Nat.le_of_ble_eq_true rfl)
  rw [lg_entry_eq]
  generalize (lg_sl ([.int x0a, .int x1a, .int x2a]) ++ List.replicate (3 - (lg_sl ([.int x0a, .int x1a, .int x2a])).length) Slot.unset).toArray = ls at hl ⊢
  have hl : lv_has ls 3 [(0, .int x0a), (1, .int x1a), (2, .int x2a)] := hl
  unfold wX6_isOutside at h
  refine lv_iload_n hx hb dX6_isOutside_0 rfl (lv_at hl 0 rfl) ?_
  refine lv_iload_n hx hb dX6_isOutside_1 rfl (lv_at hl 1 rfl) ?_
  refine lv_icmp_lt (tgt := 10) hx hb dX6_isOutside_2 (by decide) (fun c1 => ?_) (fun c1 => ?_)
  · replace h := h.1 c1
    refine lv_iconst (v := (1 : Int32)) hx hb dX6_isOutside_10 k_iconst_1 ?_
    refine lv_goto (tgt := 15) hx hb dX6_isOutside_11 (by decide) ?_
    exact re_z hx hb hr hlocks (Or.inr rfl) hP hS h dX6_isOutside_15
  · replace h := h.2 c1
    refine lv_iload_n hx hb dX6_isOutside_5 rfl (lv_at hl 0 rfl) ?_
    refine lv_iload_n hx hb dX6_isOutside_6 rfl (lv_at hl 2 rfl) ?_
    refine lv_icmp_le (tgt := 14) hx hb dX6_isOutside_7 (by decide) (fun c2 => ?_) (fun c2 => ?_)
    · replace h := h.1 c2
      refine lv_iconst (v := (0 : Int32)) hx hb dX6_isOutside_14 k_iconst_0 ?_
      exact re_z hx hb hr hlocks (Or.inl rfl) hP hS h dX6_isOutside_15
    · replace h := h.2 c2
      refine lv_iconst (v := (1 : Int32)) hx hb dX6_isOutside_10 k_iconst_1 ?_
      refine lv_goto (tgt := 15) hx hb dX6_isOutside_11 (by decide) ?_
      exact re_z hx hb hr hlocks (Or.inr rfl) hP hS h dX6_isOutside_15
set_option maxHeartbeats 4000000 in
set_option maxRecDepth 100000 in
theorem mX3_isInRange (l : Launch) (G : Gp) (j0a : Nat) (j1a : Nat) (M : Mm) (Post : Mm → Int32 → Prop) (hk_j0a : kd j0a = 3) (hk_j1a : kd j1a = 4) (h : wX3_isInRange Post M j0a j1a) : CtI l yX3_isInRange wsX3_isInRange rX3_isInRange G [.ref (G.2.1 + j0a), .ref (G.2.1 + j1a)] M Post := by
  refine Met.ofW (cc := cX3_isInRange) (maxL := 2) (ret := (some .boolean)) (by decide) rfl ?_
  intro p e s m args below meth c s₁ B hml hv
  obtain ⟨rfl, hK, hP⟩ := hv
  have hx := B.exec
  have hb := B.bytes
  have hr := B.returns
  have hlocks := B.notSynchronized
  have hts0 := atoms_spec (ws := wsX3_isInRange) B.pre
  have hts : ∀ w ∈ wsL_law, w.before _ s = true := fun w hw => hts0 w (List.mem_cons_of_mem _ hw)
  have hown : s.vm.findClass RX3 = some m.cls := findClass_of_methodNamed B.named
  have hS : va_S (Fr G) s.heap s.heap [] := va_S.rf
  have hl := lv_entry ([.ref (G.2.1 + j0a), .ref (G.2.1 + j1a)]) (n := 2) (Nat.le_of_ble_eq_true rfl)
  rw [lg_entry_eq]
  generalize (lg_sl ([.ref (G.2.1 + j0a), .ref (G.2.1 + j1a)]) ++ List.replicate (2 - (lg_sl ([.ref (G.2.1 + j0a), .ref (G.2.1 + j1a)])).length) Slot.unset).toArray = ls at hl ⊢
  have hl : lv_has ls 2 [(0, .ref (G.2.1 + j0a)), (1, .ref (G.2.1 + j1a))] := hl
  have B48 : ∀ (M : Mm) (j0 : Nat) (j1 : Nat) (H : Heap) (locs : List Loc) (ls : Array Slot), Rp G M H → va_S (Fr G) s.heap H locs → lv_has ls 2 [(0, .ref (G.2.1 + j0)), (1, .ref (G.2.1 + j1))] → kd j0 = 3 → kd j1 = 4 → bX3_isInRange_48 Post M j0 j1 → Wi p l e (headSpec wsX3_isInRange rX3_isInRange).room s m [.ref (G.2.1 + j0a), .ref (G.2.1 + j1a)].toArray below meth c G Post H locs (F0 m 48 ls []) := by
    intro M j0 j1 H locs ls hP hS hl hk_j0 hk_j1 h
    unfold bX3_isInRange_48 at h
    refine lv_aload_n hx hb dX3_isInRange_48 rfl (lv_at hl 1 rfl) ?_
    refine rk_getr hx hb hts inlX4 hown hK hP hk_j1 cl_4 0 1 fq_4_0 q_34_5 rfl dX3_isInRange_49 ?_
    refine lv_aload_n hx hb dX3_isInRange_52 rfl (lv_at hl 0 rfl) ?_
    refine rk_geti hx hb hts inlX3 hown hK hP hk_j0 cl_3 5 fq_3_5 q_33_8 rfl dX3_isInRange_53 ?_
    refine rc_Vi (As := [.int (M j0 5)]) (rest := []) ⟨hx, hb, hml, hown, hts⟩ (mX0_hasGate l G (j1 + 1) (M j0 5) M _ (ky_4_0 hk_j1) h) (cwV 1 hts (gV_X0_hasGate q_34_7) rfl rfl rfl hdV_X0_hasGate ⟨Nat.le_of_ble_eq_true rfl, Nat.le_of_ble_eq_true rfl⟩) hK hP hS (ky_4_0 hk_j1) (by decide) cl_0 rfl hl.1 rfl (Nat.le_of_ble_eq_true rfl) dX3_isInRange_56 ⟨Nat.zero_le _, Nat.zero_le _⟩ (fun r12 M11 H locs h hP hS => ?_)
    exact re_z hx hb hr hlocks h.1 hP hS h.2 dX3_isInRange_59
  unfold wX3_isInRange at h
  refine lv_aload_n hx hb dX3_isInRange_0 rfl (lv_at hl 0 rfl) ?_
  refine rk_geti hx hb hts inlX3 hown hK hP hk_j0a cl_3 4 fq_3_4 q_33_7 rfl dX3_isInRange_1 ?_
  refine lv_topi (fun sw1 esw1 => ?_)
  replace h := h sw1 esw1
  by_cases c2 : sw1 = (99 : Int32)
  · replace h := h.1 c2
    refine lv_lookup (off := 44) (tgt := 48) hx hb dX3_isInRange_4 (by decide) (by rw [c2]; rfl) (by decide) ?_
    exact B48 _ _ _ _ _ _ hP hS (lv_sub hl [0, 1] rfl) hk_j0a hk_j1a h
  replace h := h.2 c2
  by_cases c3 : sw1 = (111 : Int32)
  · replace h := h.1 c3
    refine lv_lookup (off := 44) (tgt := 48) hx hb dX3_isInRange_4 (by decide) (by rw [c3]; rfl) (by decide) ?_
    exact B48 _ _ _ _ _ _ hP hS (lv_sub hl [0, 1] rfl) hk_j0a hk_j1a h
  replace h := h.2 c3
  by_cases c4 : sw1 = (114 : Int32)
  · replace h := h.1 c4
    refine lv_lookup (off := 68) (tgt := 72) hx hb dX3_isInRange_4 (by decide) (by rw [c4]; rfl) (by decide) ?_
    refine lv_aload_n hx hb dX3_isInRange_72 rfl (lv_at hl 0 rfl) ?_
    refine rk_geti hx hb hts inlX3 hown hK hP hk_j0a cl_3 5 fq_3_5 q_33_8 rfl dX3_isInRange_73 ?_
    refine lv_iconst (v := (1 : Int32)) hx hb dX3_isInRange_76 k_iconst_1 ?_
    refine lv_bipush (v := (10 : Int32)) hx hb dX3_isInRange_77 k_bipush_10 ?_
    refine rc_Ni (As := [.int (M j0a 5), .int (1 : Int32), .int (10 : Int32)]) (rest := []) ⟨hx, hb, hml, hown, hts⟩ (mX6_isOutside l G (M j0a 5) (1 : Int32) (10 : Int32) M _ h) ⟨va_cnB 3 hts gN_X6_isOutside rfl rfl rfl hK.2 (hts _ q_1_2) hdS_X6_isOutside ⟨Nat.le_of_ble_eq_true rfl, Nat.le_of_ble_eq_true rfl⟩, hts _ q_5_9, trivial⟩ hK hP hS rfl hl.1 rfl (Nat.le_of_ble_eq_true rfl) dX3_isInRange_79 ⟨Nat.zero_le _, Nat.zero_le _⟩ (fun r6 M5 H locs h hP hS => ?_)
    refine lv_if_ne (tgt := 89) hx hb dX3_isInRange_82 (by decide) (fun c7 => ?_) (fun c7 => ?_)
    · replace h := h.1 c7
      refine lv_iconst (v := (0 : Int32)) hx hb dX3_isInRange_89 k_iconst_0 ?_
      exact re_z hx hb hr hlocks (Or.inl rfl) hP hS h dX3_isInRange_90
    · replace h := h.2 c7
      refine lv_iconst (v := (1 : Int32)) hx hb dX3_isInRange_85 k_iconst_1 ?_
      refine lv_goto (tgt := 90) hx hb dX3_isInRange_86 (by decide) ?_
      exact re_z hx hb hr hlocks (Or.inr rfl) hP hS h dX3_isInRange_90
  replace h := h.2 c4
  by_cases c8 : sw1 = (121 : Int32)
  · replace h := h.1 c8
    refine lv_lookup (off := 56) (tgt := 60) hx hb dX3_isInRange_4 (by decide) (by rw [c8]; rfl) (by decide) ?_
    refine lv_aload_n hx hb dX3_isInRange_60 rfl (lv_at hl 1 rfl) ?_
    refine rk_getr hx hb hts inlX4 hown hK hP hk_j1a cl_4 1 10 fq_4_1 q_34_6 rfl dX3_isInRange_61 ?_
    refine lv_aload_n hx hb dX3_isInRange_64 rfl (lv_at hl 0 rfl) ?_
    refine rk_geti hx hb hts inlX3 hown hK hP hk_j0a cl_3 5 fq_3_5 q_33_8 rfl dX3_isInRange_65 ?_
    refine rc_Vi (As := [.int (M j0a 5)]) (rest := []) ⟨hx, hb, hml, hown, hts⟩ (mX1_has l G (j1a + 10) (M j0a 5) M _ (ky_4_1 hk_j1a) h) (cwV 1 hts (gV_X1_has q_34_8) rfl rfl rfl hdV_X1_has ⟨Nat.le_of_ble_eq_true rfl, Nat.le_of_ble_eq_true rfl⟩) hK hP hS (ky_4_1 hk_j1a) (by decide) cl_1 rfl hl.1 rfl (Nat.le_of_ble_eq_true rfl) dX3_isInRange_68 ⟨Nat.zero_le _, Nat.zero_le _⟩ (fun r10 M9 H locs h hP hS => ?_)
    exact re_z hx hb hr hlocks h.1 hP hS h.2 dX3_isInRange_71
  replace h := h.2 c8
  refine lv_lookup (off := 87) (tgt := 91) hx hb dX3_isInRange_4 (by decide) (by show Op.lookupswitch.offset [(99, 44), (111, 44), (114, 68), (121, 56)] 87 _ = _; rw [lv_osw (a := 99) c2 rfl, lv_osw (a := 111) c3 rfl, lv_osw (a := 114) c4 rfl, lv_osw (a := 121) c8 rfl]; rfl) (by decide) ?_
  refine lv_iconst (v := (1 : Int32)) hx hb dX3_isInRange_91 k_iconst_1 ?_
  exact re_z hx hb hr hlocks (Or.inr rfl) hP hS h dX3_isInRange_92
set_option maxHeartbeats 4000000 in
set_option maxRecDepth 100000 in
theorem mX4_hasHoursLeft (l : Launch) (G : Gp) (j0a : Nat) (x1a : Int32) (M : Mm) (Post : Mm → Int32 → Prop) (hk_j0a : kd j0a = 4) (h : wX4_hasHoursLeft Post M j0a x1a) : CtI l yX4_hasHoursLeft wsX4_hasHoursLeft rX4_hasHoursLeft G [.ref (G.2.1 + j0a), .int x1a] M Post := by
  refine Met.ofW (cc := cX4_hasHoursLeft) (maxL := 2) (ret := (some .boolean)) (by decide) rfl ?_
  intro p e s m args below meth c s₁ B hml hv
  obtain ⟨rfl, hK, hP⟩ := hv
  have hx := B.exec
  have hb := B.bytes
  have hr := B.returns
  have hlocks := B.notSynchronized
  have hts0 := atoms_spec (ws := wsX4_hasHoursLeft) B.pre
  have hts : ∀ w ∈ wsL_law, w.before _ s = true := fun w hw => hts0 w (List.mem_cons_of_mem _ hw)
  have hown : s.vm.findClass RX4 = some m.cls := findClass_of_methodNamed B.named
  have hS : va_S (Fr G) s.heap s.heap [] := va_S.rf
  have hl := lv_entry ([.ref (G.2.1 + j0a), .int x1a]) (n := 2) (Nat.le_of_ble_eq_true rfl)
  rw [lg_entry_eq]
  generalize (lg_sl ([.ref (G.2.1 + j0a), .int x1a]) ++ List.replicate (2 - (lg_sl ([.ref (G.2.1 + j0a), .int x1a])).length) Slot.unset).toArray = ls at hl ⊢
  have hl : lv_has ls 2 [(0, .ref (G.2.1 + j0a)), (1, .int x1a)] := hl
  unfold wX4_hasHoursLeft at h
  refine lv_iload_n hx hb dX4_hasHoursLeft_0 rfl (lv_at hl 1 rfl) ?_
  refine lv_sipush (v := (20000 : Int32)) hx hb dX4_hasHoursLeft_1 k_sipush_20000 ?_
  refine lv_aload_n hx hb dX4_hasHoursLeft_4 rfl (lv_at hl 0 rfl) ?_
  refine rk_geti hx hb hts inlX4 hown hK hP hk_j0a cl_4 3 fq_4_3 q_6_0 rfl dX4_hasHoursLeft_5 ?_
  refine lv_isub hx hb dX4_hasHoursLeft_8 ?_
  refine lv_icmp_gt (tgt := 16) hx hb dX4_hasHoursLeft_9 (by decide) (fun c1 => ?_) (fun c1 => ?_)
  · replace h := h.1 c1
    refine lv_iconst (v := (0 : Int32)) hx hb dX4_hasHoursLeft_16 k_iconst_0 ?_
    exact re_z hx hb hr hlocks (Or.inl rfl) hP hS h dX4_hasHoursLeft_17
  · replace h := h.2 c1
    refine lv_iconst (v := (1 : Int32)) hx hb dX4_hasHoursLeft_12 k_iconst_1 ?_
    refine lv_goto (tgt := 17) hx hb dX4_hasHoursLeft_13 (by decide) ?_
    exact re_z hx hb hr hlocks (Or.inr rfl) hP hS h dX4_hasHoursLeft_17
set_option maxHeartbeats 4000000 in
set_option maxRecDepth 100000 in
theorem mX3_isPossible (l : Launch) (G : Gp) (j0a : Nat) (j1a : Nat) (M : Mm) (Post : Mm → Int32 → Prop) (hk_j0a : kd j0a = 3) (hk_j1a : kd j1a = 4) (h : wX3_isPossible Post M j0a j1a) : CtI l yX3_isPossible wsX3_isPossible rX3_isPossible G [.ref (G.2.1 + j0a), .ref (G.2.1 + j1a)] M Post := by
  refine Met.ofW (cc := cX3_isPossible) (maxL := 2) (ret := (some .boolean)) (by decide) rfl ?_
  intro p e s m args below meth c s₁ B hml hv
  obtain ⟨rfl, hK, hP⟩ := hv
  have hx := B.exec
  have hb := B.bytes
  have hr := B.returns
  have hlocks := B.notSynchronized
  have hts0 := atoms_spec (ws := wsX3_isPossible) B.pre
  have hts : ∀ w ∈ wsL_law, w.before _ s = true := fun w hw => hts0 w (List.mem_cons_of_mem _ hw)
  have hown : s.vm.findClass RX3 = some m.cls := findClass_of_methodNamed B.named
  have hS : va_S (Fr G) s.heap s.heap [] := va_S.rf
  have hl := lv_entry ([.ref (G.2.1 + j0a), .ref (G.2.1 + j1a)]) (n := 2) (Nat.le_of_ble_eq_true rfl)
  rw [lg_entry_eq]
  generalize (lg_sl ([.ref (G.2.1 + j0a), .ref (G.2.1 + j1a)]) ++ List.replicate (2 - (lg_sl ([.ref (G.2.1 + j0a), .ref (G.2.1 + j1a)])).length) Slot.unset).toArray = ls at hl ⊢
  have hl : lv_has ls 2 [(0, .ref (G.2.1 + j0a)), (1, .ref (G.2.1 + j1a))] := hl
  unfold wX3_isPossible at h
  refine lv_aload_n hx hb dX3_isPossible_0 rfl (lv_at hl 0 rfl) ?_
  refine rk_geti hx hb hts inlX3 hown hK hP hk_j0a cl_3 4 fq_3_4 q_33_7 rfl dX3_isPossible_1 ?_
  refine lv_topi (fun sw1 esw1 => ?_)
  replace h := h sw1 esw1
  by_cases c2 : sw1 = (99 : Int32)
  · replace h := h.1 c2
    refine lv_lookup (off := 56) (tgt := 60) hx hb dX3_isPossible_4 (by decide) (by rw [c2]; rfl) (by decide) ?_
    refine lv_aload_n hx hb dX3_isPossible_60 rfl (lv_at hl 1 rfl) ?_
    refine rk_getr hx hb hts inlX4 hown hK hP hk_j1a cl_4 0 1 fq_4_0 q_34_5 rfl dX3_isPossible_61 ?_
    refine lv_aload_n hx hb dX3_isPossible_64 rfl (lv_at hl 0 rfl) ?_
    refine rk_geti hx hb hts inlX3 hown hK hP hk_j0a cl_3 5 fq_3_5 q_33_8 rfl dX3_isPossible_65 ?_
    refine rc_Vi (As := [.int (M j0a 5)]) (rest := []) ⟨hx, hb, hml, hown, hts⟩ (mX0_canBeClosed l G (j1a + 1) (M j0a 5) M _ (ky_4_0 hk_j1a) h) (cwV 1 hts (gV_X0_canBeClosed q_34_14) rfl rfl rfl hdV_X0_canBeClosed ⟨Nat.le_of_ble_eq_true rfl, Nat.le_of_ble_eq_true rfl⟩) hK hP hS (ky_4_0 hk_j1a) (by decide) cl_0 rfl hl.1 rfl (Nat.le_of_ble_eq_true rfl) dX3_isPossible_68 ⟨Nat.zero_le _, Nat.zero_le _⟩ (fun r4 M3 H locs h hP hS => ?_)
    exact re_z hx hb hr hlocks h.1 hP hS h.2 dX3_isPossible_71
  replace h := h.2 c2
  by_cases c5 : sw1 = (104 : Int32)
  · replace h := h.1 c5
    refine lv_lookup (off := 80) (tgt := 84) hx hb dX3_isPossible_4 (by decide) (by rw [c5]; rfl) (by decide) ?_
    refine lv_aload_n hx hb dX3_isPossible_84 rfl (lv_at hl 1 rfl) ?_
    refine lv_iconst (v := (1 : Int32)) hx hb dX3_isPossible_85 k_iconst_1 ?_
    refine rc_Vi (As := [.int (1 : Int32)]) (rest := []) ⟨hx, hb, hml, hown, hts⟩ (mX4_hasHoursLeft l G j1a (1 : Int32) M _ hk_j1a h) (cwV 1 hts (gV_X4_hasHoursLeft q_34_16) rfl rfl rfl hdV_X4_hasHoursLeft ⟨Nat.le_of_ble_eq_true rfl, Nat.le_of_ble_eq_true rfl⟩) hK hP hS hk_j1a (by decide) cl_4 rfl hl.1 rfl (Nat.le_of_ble_eq_true rfl) dX3_isPossible_86 ⟨Nat.zero_le _, Nat.zero_le _⟩ (fun r7 M6 H locs h hP hS => ?_)
    exact re_z hx hb hr hlocks h.1 hP hS h.2 dX3_isPossible_89
  replace h := h.2 c5
  by_cases c8 : sw1 = (111 : Int32)
  · replace h := h.1 c8
    refine lv_lookup (off := 44) (tgt := 48) hx hb dX3_isPossible_4 (by decide) (by rw [c8]; rfl) (by decide) ?_
    refine lv_aload_n hx hb dX3_isPossible_48 rfl (lv_at hl 1 rfl) ?_
    refine rk_getr hx hb hts inlX4 hown hK hP hk_j1a cl_4 0 1 fq_4_0 q_34_5 rfl dX3_isPossible_49 ?_
    refine lv_aload_n hx hb dX3_isPossible_52 rfl (lv_at hl 0 rfl) ?_
    refine rk_geti hx hb hts inlX3 hown hK hP hk_j0a cl_3 5 fq_3_5 q_33_8 rfl dX3_isPossible_53 ?_
    refine rc_Vi (As := [.int (M j0a 5)]) (rest := []) ⟨hx, hb, hml, hown, hts⟩ (mX0_canBeOpened l G (j1a + 1) (M j0a 5) M _ (ky_4_0 hk_j1a) h) (cwV 1 hts (gV_X0_canBeOpened q_34_13) rfl rfl rfl hdV_X0_canBeOpened ⟨Nat.le_of_ble_eq_true rfl, Nat.le_of_ble_eq_true rfl⟩) hK hP hS (ky_4_0 hk_j1a) (by decide) cl_0 rfl hl.1 rfl (Nat.le_of_ble_eq_true rfl) dX3_isPossible_56 ⟨Nat.zero_le _, Nat.zero_le _⟩ (fun r10 M9 H locs h hP hS => ?_)
    exact re_z hx hb hr hlocks h.1 hP hS h.2 dX3_isPossible_59
  replace h := h.2 c8
  by_cases c11 : sw1 = (121 : Int32)
  · replace h := h.1 c11
    refine lv_lookup (off := 68) (tgt := 72) hx hb dX3_isPossible_4 (by decide) (by rw [c11]; rfl) (by decide) ?_
    refine lv_aload_n hx hb dX3_isPossible_72 rfl (lv_at hl 1 rfl) ?_
    refine rk_getr hx hb hts inlX4 hown hK hP hk_j1a cl_4 1 10 fq_4_1 q_34_6 rfl dX3_isPossible_73 ?_
    refine lv_aload_n hx hb dX3_isPossible_76 rfl (lv_at hl 0 rfl) ?_
    refine rk_geti hx hb hts inlX3 hown hK hP hk_j0a cl_3 5 fq_3_5 q_33_8 rfl dX3_isPossible_77 ?_
    refine rc_Vi (As := [.int (M j0a 5)]) (rest := []) ⟨hx, hb, hml, hown, hts⟩ (mX1_canCall l G (j1a + 10) (M j0a 5) M _ (ky_4_1 hk_j1a) h) (cwV 1 hts (gV_X1_canCall q_34_15) rfl rfl rfl hdV_X1_canCall ⟨Nat.le_of_ble_eq_true rfl, Nat.le_of_ble_eq_true rfl⟩) hK hP hS (ky_4_1 hk_j1a) (by decide) cl_1 rfl hl.1 rfl (Nat.le_of_ble_eq_true rfl) dX3_isPossible_80 ⟨Nat.zero_le _, Nat.zero_le _⟩ (fun r13 M12 H locs h hP hS => ?_)
    exact re_z hx hb hr hlocks h.1 hP hS h.2 dX3_isPossible_83
  replace h := h.2 c11
  refine lv_lookup (off := 86) (tgt := 90) hx hb dX3_isPossible_4 (by decide) (by show Op.lookupswitch.offset [(99, 56), (104, 80), (111, 44), (121, 68)] 86 _ = _; rw [lv_osw (a := 99) c2 rfl, lv_osw (a := 104) c5 rfl, lv_osw (a := 111) c8 rfl, lv_osw (a := 121) c11 rfl]; rfl) (by decide) ?_
  refine lv_aload_n hx hb dX3_isPossible_90 rfl (lv_at hl 1 rfl) ?_
  refine lv_aload_n hx hb dX3_isPossible_91 rfl (lv_at hl 0 rfl) ?_
  refine rk_geti hx hb hts inlX3 hown hK hP hk_j0a cl_3 5 fq_3_5 q_33_8 rfl dX3_isPossible_92 ?_
  refine rc_Vi (As := [.int (M j0a 5)]) (rest := []) ⟨hx, hb, hml, hown, hts⟩ (mX4_hasHoursLeft l G j1a (M j0a 5) M _ hk_j1a h) (cwV 1 hts (gV_X4_hasHoursLeft q_34_16) rfl rfl rfl hdV_X4_hasHoursLeft ⟨Nat.le_of_ble_eq_true rfl, Nat.le_of_ble_eq_true rfl⟩) hK hP hS hk_j1a (by decide) cl_4 rfl hl.1 rfl (Nat.le_of_ble_eq_true rfl) dX3_isPossible_95 ⟨Nat.zero_le _, Nat.zero_le _⟩ (fun r15 M14 H locs h hP hS => ?_)
  exact re_z hx hb hr hlocks h.1 hP hS h.2 dX3_isPossible_98
set_option maxHeartbeats 4000000 in
set_option maxRecDepth 100000 in
theorem mX3_reasonAgainst (l : Launch) (G : Gp) (j0a : Nat) (j1a : Nat) (M : Mm) (Post : Mm → Int32 → Prop) (hk_j0a : kd j0a = 3) (hk_j1a : kd j1a = 4) (h : wX3_reasonAgainst Post M j0a j1a) : CtI l yX3_reasonAgainst wsX3_reasonAgainst rX3_reasonAgainst G [.ref (G.2.1 + j0a), .ref (G.2.1 + j1a)] M Post := by
  refine Met.ofW (cc := cX3_reasonAgainst) (maxL := 2) (ret := (some .int)) (by decide) rfl ?_
  intro p e s m args below meth c s₁ B hml hv
  obtain ⟨rfl, hK, hP⟩ := hv
  have hx := B.exec
  have hb := B.bytes
  have hr := B.returns
  have hlocks := B.notSynchronized
  have hts0 := atoms_spec (ws := wsX3_reasonAgainst) B.pre
  have hts : ∀ w ∈ wsL_law, w.before _ s = true := fun w hw => hts0 w (List.mem_cons_of_mem _ hw)
  have hown : s.vm.findClass RX3 = some m.cls := findClass_of_methodNamed B.named
  have hS : va_S (Fr G) s.heap s.heap [] := va_S.rf
  have hl := lv_entry ([.ref (G.2.1 + j0a), .ref (G.2.1 + j1a)]) (n := 2) (Nat.le_of_ble_eq_true rfl)
  rw [lg_entry_eq]
  generalize (lg_sl ([.ref (G.2.1 + j0a), .ref (G.2.1 + j1a)]) ++ List.replicate (2 - (lg_sl ([.ref (G.2.1 + j0a), .ref (G.2.1 + j1a)])).length) Slot.unset).toArray = ls at hl ⊢
  have hl : lv_has ls 2 [(0, .ref (G.2.1 + j0a)), (1, .ref (G.2.1 + j1a))] := hl
  unfold wX3_reasonAgainst at h
  refine lv_aload_n hx hb dX3_reasonAgainst_0 rfl (lv_at hl 0 rfl) ?_
  refine rc_Vi (As := []) (rest := []) ⟨hx, hb, hml, hown, hts⟩ (mX3_readOrder l G j0a M _ hk_j0a h) (cwV 0 hts (gV_X3_readOrder q_33_3) rfl rfl rfl hdV_X3_readOrder ⟨Nat.le_of_ble_eq_true rfl, Nat.le_of_ble_eq_true rfl⟩) hK hP hS hk_j0a (by decide) cl_3 rfl hl.1 rfl (Nat.le_of_ble_eq_true rfl) dX3_reasonAgainst_1 ⟨Nat.zero_le _, Nat.zero_le _⟩ (fun r2 M1 H locs h hP hS => ?_)
  refine lv_if_ne (tgt := 22) hx hb dX3_reasonAgainst_4 (by decide) (fun c3 => ?_) (fun c3 => ?_)
  · replace h := h.1 c3
    refine lv_aload_n hx hb dX3_reasonAgainst_22 rfl (lv_at hl 0 rfl) ?_
    refine lv_aload_n hx hb dX3_reasonAgainst_23 rfl (lv_at hl 1 rfl) ?_
    refine rc_Vi (As := [.ref (G.2.1 + j1a)]) (rest := []) ⟨hx, hb, hml, hown, hts⟩ (mX3_isInRange l G j0a j1a M1 _ hk_j0a hk_j1a h) (cwV 1 hts (gV_X3_isInRange q_34_1) rfl rfl rfl hdV_X3_isInRange ⟨Nat.le_of_ble_eq_true rfl, Nat.le_of_ble_eq_true rfl⟩) hK hP hS hk_j0a (by decide) cl_3 rfl hl.1 rfl (Nat.le_of_ble_eq_true rfl) dX3_reasonAgainst_24 ⟨Nat.zero_le _, Nat.zero_le _⟩ (fun r5 M4 H locs h hP hS => ?_)
    refine lv_if_ne (tgt := 37) hx hb dX3_reasonAgainst_27 (by decide) (fun c6 => ?_) (fun c6 => ?_)
    · replace h := h.1 c6
      refine lv_aload_n hx hb dX3_reasonAgainst_37 rfl (lv_at hl 0 rfl) ?_
      refine lv_aload_n hx hb dX3_reasonAgainst_38 rfl (lv_at hl 1 rfl) ?_
      refine rc_Vi (As := [.ref (G.2.1 + j1a)]) (rest := []) ⟨hx, hb, hml, hown, hts⟩ (mX3_isPossible l G j0a j1a M4 _ hk_j0a hk_j1a h) (cwV 1 hts (gV_X3_isPossible q_34_9) rfl rfl rfl hdV_X3_isPossible ⟨Nat.le_of_ble_eq_true rfl, Nat.le_of_ble_eq_true rfl⟩) hK hP hS hk_j0a (by decide) cl_3 rfl hl.1 rfl (Nat.le_of_ble_eq_true rfl) dX3_reasonAgainst_39 ⟨Nat.zero_le _, Nat.zero_le _⟩ (fun r8 M7 H locs h hP hS => ?_)
      refine lv_if_eq (tgt := 49) hx hb dX3_reasonAgainst_42 (by decide) (fun c9 => ?_) (fun c9 => ?_)
      · replace h := h.1 c9
        refine lv_iconst (v := (3 : Int32)) hx hb dX3_reasonAgainst_49 k_iconst_3 ?_
        exact re_i hx hb hr hlocks hP hS h dX3_reasonAgainst_50
      · replace h := h.2 c9
        refine lv_iconst (v := (0 : Int32)) hx hb dX3_reasonAgainst_45 k_iconst_0 ?_
        refine lv_goto (tgt := 50) hx hb dX3_reasonAgainst_46 (by decide) ?_
        exact re_i hx hb hr hlocks hP hS h dX3_reasonAgainst_50
    · replace h := h.2 c6
      refine lv_aload_n hx hb dX3_reasonAgainst_30 rfl (lv_at hl 0 rfl) ?_
      refine lv_iconst (v := (0 : Int32)) hx hb dX3_reasonAgainst_31 k_iconst_0 ?_
      refine rk_puti hx hb hts inlX3 tyX3 tyX3_ok nmX3 hown hK hP hS hk_j0a cl_3 8 fq_3_8 q_33_2 rfl rfl rfl dX3_reasonAgainst_32 (fun M10 eM10 H locs hP hS => ?_)
      replace h := h M10 eM10
      refine lv_iconst (v := (2 : Int32)) hx hb dX3_reasonAgainst_35 k_iconst_2 ?_
      exact re_i hx hb hr hlocks hP hS h dX3_reasonAgainst_36
  · replace h := h.2 c3
    refine lv_aload_n hx hb dX3_reasonAgainst_7 rfl (lv_at hl 0 rfl) ?_
    refine lv_aload_n hx hb dX3_reasonAgainst_8 rfl (lv_at hl 0 rfl) ?_
    refine rk_geti hx hb hts inlX3 hown hK hP hk_j0a cl_3 3 fq_3_3 q_32_19 rfl dX3_reasonAgainst_9 ?_
    refine lv_aload_n hx hb dX3_reasonAgainst_12 rfl (lv_at hl 0 rfl) ?_
    refine rk_geti hx hb hts inlX3 hown hK hP hk_j0a cl_3 2 fq_3_2 q_32_21 rfl dX3_reasonAgainst_13 ?_
    refine lv_isub hx hb dX3_reasonAgainst_16 ?_
    refine rk_puti hx hb hts inlX3 tyX3 tyX3_ok nmX3 hown hK hP hS hk_j0a cl_3 8 fq_3_8 q_33_2 rfl rfl rfl dX3_reasonAgainst_17 (fun M11 eM11 H locs hP hS => ?_)
    replace h := h M11 eM11
    refine lv_iconst (v := (1 : Int32)) hx hb dX3_reasonAgainst_20 k_iconst_1 ?_
    exact re_i hx hb hr hlocks hP hS h dX3_reasonAgainst_21
set_option maxHeartbeats 4000000 in
set_option maxRecDepth 100000 in
theorem mJ7_fill_53178 (l : Launch) (G : Gp) (j0a : Nat) (x1a : Int32) (M : Mm) (Post : Mm → Prop) (hk_j0a : kd j0a = 8) (h : wJ7_fill_53178 Post M j0a x1a) : CtV l yJ7_fill_53178 wsJ7_fill_53178 rJ7_fill_53178 G [.ref (G.2.1 + j0a), .int x1a] M Post := by
  refine Met.ofW (cc := cJ7_fill_53178) (maxL := 4) (ret := none) (by decide) rfl ?_
  intro p e s m args below meth c s₁ B hml hv
  obtain ⟨rfl, hK, hP⟩ := hv
  have hx := B.exec
  have hb := B.bytes
  have hr := B.returns
  have hlocks := B.notSynchronized
  have hts0 := atoms_spec (ws := wsJ7_fill_53178) B.pre
  have hts : ∀ w ∈ wsL_law, w.before _ s = true := fun w hw => hts0 w (List.mem_cons_of_mem _ hw)
  have hown : s.vm.findClass RJ7 = some m.cls := findClass_of_methodNamed B.named
  have hS : va_S (Fr G) s.heap s.heap [] := va_S.rf
  have hl := lv_entry ([.ref (G.2.1 + j0a), .int x1a]) (n := 4) (Nat.le_of_ble_eq_true rfl)
  rw [lg_entry_eq]
  generalize (lg_sl ([.ref (G.2.1 + j0a), .int x1a]) ++ List.replicate (4 - (lg_sl ([.ref (G.2.1 + j0a), .int x1a])).length) Slot.unset).toArray = ls at hl ⊢
  have hl : lv_has ls 4 [(0, .ref (G.2.1 + j0a)), (1, .int x1a)] := hl
  have B5 : ∀ n : Nat, ∀ (M : Mm) (j0 : Nat) (x1 : Int32) (x2 : Int32) (x3 : Int32) (H : Heap) (locs : List Loc) (ls : Array Slot), Rp G M H → va_S (Fr G) s.heap H locs → lv_has ls 4 [(0, .ref (G.2.1 + j0)), (1, .int x1), (2, .int x2), (3, .int x3)] → kd j0 = 8 → lJ7_fill_53178_5 Post n M j0 x1 x2 x3 → Wv p l e (headSpec wsJ7_fill_53178 rJ7_fill_53178).room s m [.ref (G.2.1 + j0a), .int x1a].toArray below meth c G Post H locs (F0 m 5 ls []) := by
    intro n
    induction n with
    | zero => intro M j0 x1 x2 x3 H locs ls hP hS hl hk_j0 h; exact h.elim
    | succ n ih =>
      intro M j0 x1 x2 x3 H locs ls hP hS hl hk_j0 h
      have hA5 := ih
      replace h : bJ7_fill_53178_5 Post (lJ7_fill_53178_5 Post n) M j0 x1 x2 x3 := h
      unfold bJ7_fill_53178_5 at h
      refine lv_iload_n hx hb dJ7_fill_53178_5 rfl (lv_at hl 2 rfl) ?_
      refine lv_iload_n hx hb dJ7_fill_53178_6 rfl (lv_at hl 3 rfl) ?_
      refine lv_icmp_ge (tgt := 20) hx hb dJ7_fill_53178_7 (by decide) (fun c2 => ?_) (fun c2 => ?_)
      · replace h := h.1 c2
        exact re_v hx hb hr hlocks hP hS h dJ7_fill_53178_20
      · replace h := h.2 c2
        refine lv_aload_n hx hb dJ7_fill_53178_10 rfl (lv_at hl 0 rfl) ?_
        refine lv_iload_n hx hb dJ7_fill_53178_11 rfl (lv_at hl 2 rfl) ?_
        refine lv_iload_n hx hb dJ7_fill_53178_12 rfl (lv_at hl 1 rfl) ?_
        refine rk_iast hx hb hK hP hS hk_j0 ac_8 _ rfl h.1 dJ7_fill_53178_13 (fun M3 eM3 H locs hP hS => ?_)
        replace h := h.2
        replace h := h M3 eM3
        obtain ⟨x2_4, ex2_4⟩ : ∃ y : Int32, y = x2 + (1 : Int32) := ⟨_, rfl⟩
        replace h := h x2_4 ex2_4
        refine lv_iinc (v := x2_4) (lv' := [(2, .int x2_4), (0, .ref (G.2.1 + j0)), (1, .int x1), (3, .int x3)]) hx hb dJ7_fill_53178_14 hl (k := 2) rfl (by rw [ex2_4]; rfl) (by decide) rfl (fun ls hl => ?_)
        refine lv_goto (tgt := 5) hx hb dJ7_fill_53178_17 (by decide) ?_
        exact hA5 _ _ _ _ _ _ _ _ hP hS (lv_sub hl [1, 2, 0, 3] rfl) hk_j0 h
  unfold wJ7_fill_53178 at h
  refine lv_iconst (v := (0 : Int32)) hx hb dJ7_fill_53178_0 k_iconst_0 ?_
  refine lv_istore_n (lv' := [(2, .int (0 : Int32)), (0, .ref (G.2.1 + j0a)), (1, .int x1a)]) hx hb dJ7_fill_53178_1 rfl hl (by decide) rfl (fun ls hl => ?_)
  refine lv_aload_n hx hb dJ7_fill_53178_2 rfl (lv_at hl 1 rfl) ?_
  refine rk_alen (v := (8 : Int32)) hx hb hK hP hk_j0a ac_8 rfl dJ7_fill_53178_3 ?_
  refine lv_istore_n (lv' := [(3, .int (8 : Int32)), (2, .int (0 : Int32)), (0, .ref (G.2.1 + j0a)), (1, .int x1a)]) hx hb dJ7_fill_53178_4 rfl hl (by decide) rfl (fun ls hl => ?_)
  obtain ⟨n1, h⟩ := h
  exact B5 _ _ _ _ _ _ _ _ _ hP hS (lv_sub hl [2, 3, 1, 0] rfl) hk_j0a h
set_option maxHeartbeats 4000000 in
set_option maxRecDepth 100000 in
theorem mX4_findCallsBelow (l : Launch) (G : Gp) (j0a : Nat) (M : Mm) (Post : Mm → Prop) (hk_j0a : kd j0a = 4) (h : wX4_findCallsBelow Post M j0a) : CtV l yX4_findCallsBelow wsX4_findCallsBelow rX4_findCallsBelow G [.ref (G.2.1 + j0a)] M Post := by
  refine Met.ofW (cc := cX4_findCallsBelow) (maxL := 3) (ret := none) (by decide) rfl ?_
  intro p e s m args below meth c s₁ B hml hv
  obtain ⟨rfl, hK, hP⟩ := hv
  have hx := B.exec
  have hb := B.bytes
  have hr := B.returns
  have hlocks := B.notSynchronized
  have hts0 := atoms_spec (ws := wsX4_findCallsBelow) B.pre
  have hts : ∀ w ∈ wsL_law, w.before _ s = true := fun w hw => hts0 w (List.mem_cons_of_mem _ hw)
  have hown : s.vm.findClass RX4 = some m.cls := findClass_of_methodNamed B.named
  have hS : va_S (Fr G) s.heap s.heap [] := va_S.rf
  have hl := lv_entry ([.ref (G.2.1 + j0a)]) (n := 3) (Nat.le_of_ble_eq_true rfl)
  rw [lg_entry_eq]
  generalize (lg_sl ([.ref (G.2.1 + j0a)]) ++ List.replicate (3 - (lg_sl ([.ref (G.2.1 + j0a)])).length) Slot.unset).toArray = ls at hl ⊢
  have hl : lv_has ls 3 [(0, .ref (G.2.1 + j0a))] := hl
  have B92 : ∀ n : Nat, ∀ (M : Mm) (j0 : Nat) (x1 : Int32) (H : Heap) (locs : List Loc) (ls : Array Slot), Rp G M H → va_S (Fr G) s.heap H locs → lv_has ls 3 [(0, .ref (G.2.1 + j0)), (1, .int x1)] → kd j0 = 4 → lX4_findCallsBelow_92 Post n M j0 x1 → Wv p l e (headSpec wsX4_findCallsBelow rX4_findCallsBelow).room s m [.ref (G.2.1 + j0a)].toArray below meth c G Post H locs (F0 m 92 ls []) := by
    intro n
    induction n with
    | zero => intro M j0 x1 H locs ls hP hS hl hk_j0 h; exact h.elim
    | succ n ih =>
      intro M j0 x1 H locs ls hP hS hl hk_j0 h
      have hA92 := ih
      replace h : bX4_findCallsBelow_92 Post (lX4_findCallsBelow_92 Post n) M j0 x1 := h
      unfold bX4_findCallsBelow_92 at h
      refine lv_iload_n hx hb dX4_findCallsBelow_92 rfl (lv_at hl 1 rfl) ?_
      refine lv_if_le (tgt := 153) hx hb dX4_findCallsBelow_93 (by decide) (fun c16 => ?_) (fun c16 => ?_)
      · replace h := h.1 c16
        exact re_v hx hb hr hlocks hP hS h dX4_findCallsBelow_153
      · replace h := h.2 c16
        refine lv_aload_n hx hb dX4_findCallsBelow_96 rfl (lv_at hl 0 rfl) ?_
        refine rk_getr hx hb hts inlX4 hown hK hP hk_j0 cl_4 0 1 fq_4_0 q_2_7 rfl dX4_findCallsBelow_97 ?_
        refine lv_iload_n hx hb dX4_findCallsBelow_100 rfl (lv_at hl 1 rfl) ?_
        refine rc_Vi (As := [.int x1]) (rest := []) ⟨hx, hb, hml, hown, hts⟩ (mX0_isOpen l G (j0 + 1) x1 M _ (ky_4_0 hk_j0) h) (cwV 1 hts (gV_X0_isOpen q_18_2) rfl rfl rfl hdV_X0_isOpen ⟨Nat.le_of_ble_eq_true rfl, Nat.le_of_ble_eq_true rfl⟩) hK hP hS (ky_4_0 hk_j0) (by decide) cl_0 rfl hl.1 rfl (Nat.le_of_ble_eq_true rfl) dX4_findCallsBelow_101 ⟨Nat.zero_le _, Nat.zero_le _⟩ (fun r18 M17 H locs h hP hS => ?_)
        refine lv_if_eq (tgt := 147) hx hb dX4_findCallsBelow_104 (by decide) (fun c19 => ?_) (fun c19 => ?_)
        · replace h := h.1 c19
          obtain ⟨x1_20, ex1_20⟩ : ∃ y : Int32, y = x1 + (-1 : Int32) := ⟨_, rfl⟩
          replace h := h x1_20 ex1_20
          refine lv_iinc (v := x1_20) (lv' := [(1, .int x1_20), (0, .ref (G.2.1 + j0))]) hx hb dX4_findCallsBelow_147 hl (k := 1) rfl (by rw [ex1_20]; rfl) (by decide) rfl (fun ls hl => ?_)
          refine lv_goto (tgt := 92) hx hb dX4_findCallsBelow_150 (by decide) ?_
          exact hA92 _ _ _ _ _ _ hP hS (lv_sub hl [1, 0] rfl) hk_j0 h
        · replace h := h.2 c19
          refine lv_aload_n hx hb dX4_findCallsBelow_107 rfl (lv_at hl 0 rfl) ?_
          refine rk_getr hx hb hts inlX4 hown hK hP hk_j0 cl_4 0 1 fq_4_0 q_2_7 rfl dX4_findCallsBelow_108 ?_
          refine rk_getr hx hb hts inlX0 hown hK hP (ky_4_0 hk_j0) cl_0 2 1 fq_0_2 q_17_20 rfl dX4_findCallsBelow_111 ?_
          refine lv_iload_n hx hb dX4_findCallsBelow_114 rfl (lv_at hl 1 rfl) ?_
          refine rk_iald hx hb hK hP (ky_0_2 (ky_4_0 hk_j0)) ac_8 _ rfl h.1 dX4_findCallsBelow_115 ?_
          replace h := h.2
          refine lv_topi (fun x2_21 ex2_21 => ?_)
          replace h := h x2_21 ex2_21
          refine lv_istore_n (lv' := [(2, .int x2_21), (0, .ref (G.2.1 + j0)), (1, .int x1)]) hx hb dX4_findCallsBelow_116 rfl hl (by decide) rfl (fun ls hl => ?_)
          refine lv_aload_n hx hb dX4_findCallsBelow_117 rfl (lv_at hl 1 rfl) ?_
          refine rk_getr hx hb hts inlX4 hown hK hP hk_j0 cl_4 9 22 fq_4_9 q_2_18 rfl dX4_findCallsBelow_118 ?_
          refine lv_iload_n hx hb dX4_findCallsBelow_121 rfl (lv_at hl 0 rfl) ?_
          refine lv_aload_n hx hb dX4_findCallsBelow_122 rfl (lv_at hl 1 rfl) ?_
          refine rk_getr hx hb hts inlX4 hown hK hP hk_j0 cl_4 9 22 fq_4_9 q_2_18 rfl dX4_findCallsBelow_123 ?_
          refine lv_iload_n hx hb dX4_findCallsBelow_126 rfl (lv_at hl 0 rfl) ?_
          refine rk_iald hx hb hK hP (ky_4_9 hk_j0) ac_8 _ rfl h.1 dX4_findCallsBelow_127 ?_
          replace h := h.2
          refine lv_aload_n hx hb dX4_findCallsBelow_128 rfl (lv_at hl 1 rfl) ?_
          refine rk_getr hx hb hts inlX4 hown hK hP hk_j0 cl_4 8 21 fq_4_8 q_2_17 rfl dX4_findCallsBelow_129 ?_
          refine lv_iload_n hx hb dX4_findCallsBelow_132 rfl (lv_at hl 2 rfl) ?_
          refine rk_iald hx hb hK hP (ky_4_8 hk_j0) ac_8 _ rfl h.1 dX4_findCallsBelow_133 ?_
          replace h := h.2
          refine lv_aload_n hx hb dX4_findCallsBelow_134 rfl (lv_at hl 1 rfl) ?_
          refine rk_getr hx hb hts inlX4 hown hK hP hk_j0 cl_4 9 22 fq_4_9 q_2_18 rfl dX4_findCallsBelow_135 ?_
          refine lv_iload_n hx hb dX4_findCallsBelow_138 rfl (lv_at hl 2 rfl) ?_
          refine rk_iald hx hb hK hP (ky_4_9 hk_j0) ac_8 _ rfl h.1 dX4_findCallsBelow_139 ?_
          replace h := h.2
          refine rk_min hx hb (hml.trans hl.1.symm) hts hown q_17_7 q_17_8 q_17_9 q_17_10 (Nat.le_of_ble_eq_true rfl) (Nat.le_of_ble_eq_true rfl) ⟨Nat.zero_le _, Nat.zero_le _⟩ dX4_findCallsBelow_140 ?_
          refine rk_min hx hb (hml.trans hl.1.symm) hts hown q_17_7 q_17_8 q_17_9 q_17_10 (Nat.le_of_ble_eq_true rfl) (Nat.le_of_ble_eq_true rfl) ⟨Nat.zero_le _, Nat.zero_le _⟩ dX4_findCallsBelow_143 ?_
          refine rk_iast hx hb hK hP hS (ky_4_9 hk_j0) ac_8 _ rfl h.1 dX4_findCallsBelow_146 (fun M22 eM22 H locs hP hS => ?_)
          replace h := h.2
          replace h := h M22 eM22
          obtain ⟨x1_23, ex1_23⟩ : ∃ y : Int32, y = x1 + (-1 : Int32) := ⟨_, rfl⟩
          replace h := h x1_23 ex1_23
          refine lv_iinc (v := x1_23) (lv' := [(1, .int x1_23), (2, .int x2_21), (0, .ref (G.2.1 + j0))]) hx hb dX4_findCallsBelow_147 hl (k := 2) rfl (by rw [ex1_23]; rfl) (by decide) rfl (fun ls hl => ?_)
          refine lv_goto (tgt := 92) hx hb dX4_findCallsBelow_150 (by decide) ?_
          exact hA92 _ _ _ _ _ _ hP hS (lv_sub hl [2, 0] rfl) hk_j0 h
  have B20 : ∀ n : Nat, ∀ (M : Mm) (j0 : Nat) (x1 : Int32) (H : Heap) (locs : List Loc) (ls : Array Slot), Rp G M H → va_S (Fr G) s.heap H locs → lv_has ls 3 [(0, .ref (G.2.1 + j0)), (1, .int x1)] → kd j0 = 4 → lX4_findCallsBelow_20 Post n M j0 x1 → Wv p l e (headSpec wsX4_findCallsBelow rX4_findCallsBelow).room s m [.ref (G.2.1 + j0a)].toArray below meth c G Post H locs (F0 m 20 ls []) := by
    intro n
    induction n with
    | zero => intro M j0 x1 H locs ls hP hS hl hk_j0 h; exact h.elim
    | succ n ih =>
      intro M j0 x1 H locs ls hP hS hl hk_j0 h
      have hA20 := ih
      replace h : bX4_findCallsBelow_20 Post (lX4_findCallsBelow_20 Post n) M j0 x1 := h
      unfold bX4_findCallsBelow_20 at h
      refine lv_iload_n hx hb dX4_findCallsBelow_20 rfl (lv_at hl 1 rfl) ?_
      refine lv_aload_n hx hb dX4_findCallsBelow_21 rfl (lv_at hl 0 rfl) ?_
      refine rk_getr hx hb hts inlX4 hown hK hP hk_j0 cl_4 1 10 fq_4_1 q_2_11 rfl dX4_findCallsBelow_22 ?_
      refine rk_geti hx hb hts inlX1 hown hK hP (ky_4_1 hk_j0) cl_1 0 fq_1_0 q_17_17 rfl dX4_findCallsBelow_25 ?_
      refine lv_icmp_ge (tgt := 82) hx hb dX4_findCallsBelow_28 (by decide) (fun c6 => ?_) (fun c6 => ?_)
      · replace h := h.1 c6
        refine lv_aload_n hx hb dX4_findCallsBelow_82 rfl (lv_at hl 0 rfl) ?_
        refine rk_getr hx hb hts inlX4 hown hK hP hk_j0 cl_4 0 1 fq_4_0 q_2_7 rfl dX4_findCallsBelow_83 ?_
        refine rk_geti hx hb hts inlX0 hown hK hP (ky_4_0 hk_j0) cl_0 0 fq_0_0 q_17_11 rfl dX4_findCallsBelow_86 ?_
        refine lv_iconst (v := (1 : Int32)) hx hb dX4_findCallsBelow_89 k_iconst_1 ?_
        refine lv_isub hx hb dX4_findCallsBelow_90 ?_
        refine lv_topi (fun x1_7 ex1_7 => ?_)
        replace h := h x1_7 ex1_7
        refine lv_istore_n (lv' := [(1, .int x1_7), (0, .ref (G.2.1 + j0))]) hx hb dX4_findCallsBelow_91 rfl hl (by decide) rfl (fun ls hl => ?_)
        obtain ⟨n8, h⟩ := h
        exact B92 _ _ _ _ _ _ _ hP hS (lv_sub hl [1, 0] rfl) hk_j0 h
      · replace h := h.2 c6
        refine lv_aload_n hx hb dX4_findCallsBelow_31 rfl (lv_at hl 0 rfl) ?_
        refine rk_getr hx hb hts inlX4 hown hK hP hk_j0 cl_4 1 10 fq_4_1 q_2_11 rfl dX4_findCallsBelow_32 ?_
        refine lv_iload_n hx hb dX4_findCallsBelow_35 rfl (lv_at hl 1 rfl) ?_
        refine rc_Vi (As := [.int x1]) (rest := []) ⟨hx, hb, hml, hown, hts⟩ (mX1_calls l G (j0 + 10) x1 M _ (ky_4_1 hk_j0) h) (cwV 1 hts (gV_X1_calls q_18_1) rfl rfl rfl hdV_X1_calls ⟨Nat.le_of_ble_eq_true rfl, Nat.le_of_ble_eq_true rfl⟩) hK hP hS (ky_4_1 hk_j0) (by decide) cl_1 rfl hl.1 rfl (Nat.le_of_ble_eq_true rfl) dX4_findCallsBelow_36 ⟨Nat.zero_le _, Nat.zero_le _⟩ (fun r10 M9 H locs h hP hS => ?_)
        refine lv_if_eq (tgt := 76) hx hb dX4_findCallsBelow_39 (by decide) (fun c11 => ?_) (fun c11 => ?_)
        · replace h := h.1 c11
          obtain ⟨x1_12, ex1_12⟩ : ∃ y : Int32, y = x1 + (1 : Int32) := ⟨_, rfl⟩
          replace h := h x1_12 ex1_12
          refine lv_iinc (v := x1_12) (lv' := [(1, .int x1_12), (0, .ref (G.2.1 + j0))]) hx hb dX4_findCallsBelow_76 hl (k := 1) rfl (by rw [ex1_12]; rfl) (by decide) rfl (fun ls hl => ?_)
          refine lv_goto (tgt := 20) hx hb dX4_findCallsBelow_79 (by decide) ?_
          exact hA20 _ _ _ _ _ _ hP hS (lv_sub hl [1, 0] rfl) hk_j0 h
        · replace h := h.2 c11
          refine lv_aload_n hx hb dX4_findCallsBelow_42 rfl (lv_at hl 0 rfl) ?_
          refine rk_getr hx hb hts inlX4 hown hK hP hk_j0 cl_4 1 10 fq_4_1 q_2_11 rfl dX4_findCallsBelow_43 ?_
          refine rk_getr hx hb hts inlX1 hown hK hP (ky_4_1 hk_j0) cl_1 2 1 fq_1_2 q_17_18 rfl dX4_findCallsBelow_46 ?_
          refine lv_iload_n hx hb dX4_findCallsBelow_49 rfl (lv_at hl 1 rfl) ?_
          refine rk_iald hx hb hK hP (ky_1_2 (ky_4_1 hk_j0)) ac_9 _ rfl h.1 dX4_findCallsBelow_50 ?_
          replace h := h.2
          refine lv_topi (fun x2_13 ex2_13 => ?_)
          replace h := h x2_13 ex2_13
          refine lv_istore_n (lv' := [(2, .int x2_13), (0, .ref (G.2.1 + j0)), (1, .int x1)]) hx hb dX4_findCallsBelow_51 rfl hl (by decide) rfl (fun ls hl => ?_)
          refine lv_aload_n hx hb dX4_findCallsBelow_52 rfl (lv_at hl 1 rfl) ?_
          refine rk_getr hx hb hts inlX4 hown hK hP hk_j0 cl_4 8 21 fq_4_8 q_2_17 rfl dX4_findCallsBelow_53 ?_
          refine lv_iload_n hx hb dX4_findCallsBelow_56 rfl (lv_at hl 0 rfl) ?_
          refine lv_aload_n hx hb dX4_findCallsBelow_57 rfl (lv_at hl 1 rfl) ?_
          refine rk_getr hx hb hts inlX4 hown hK hP hk_j0 cl_4 8 21 fq_4_8 q_2_17 rfl dX4_findCallsBelow_58 ?_
          refine lv_iload_n hx hb dX4_findCallsBelow_61 rfl (lv_at hl 0 rfl) ?_
          refine rk_iald hx hb hK hP (ky_4_8 hk_j0) ac_8 _ rfl h.1 dX4_findCallsBelow_62 ?_
          replace h := h.2
          refine lv_aload_n hx hb dX4_findCallsBelow_63 rfl (lv_at hl 1 rfl) ?_
          refine rk_getr hx hb hts inlX4 hown hK hP hk_j0 cl_4 1 10 fq_4_1 q_2_11 rfl dX4_findCallsBelow_64 ?_
          refine rk_getr hx hb hts inlX1 hown hK hP (ky_4_1 hk_j0) cl_1 5 4 fq_1_5 q_17_19 rfl dX4_findCallsBelow_67 ?_
          refine lv_iload_n hx hb dX4_findCallsBelow_70 rfl (lv_at hl 2 rfl) ?_
          refine rk_iald hx hb hK hP (ky_1_5 (ky_4_1 hk_j0)) ac_9 _ rfl h.1 dX4_findCallsBelow_71 ?_
          replace h := h.2
          refine rk_min hx hb (hml.trans hl.1.symm) hts hown q_17_7 q_17_8 q_17_9 q_17_10 (Nat.le_of_ble_eq_true rfl) (Nat.le_of_ble_eq_true rfl) ⟨Nat.zero_le _, Nat.zero_le _⟩ dX4_findCallsBelow_72 ?_
          refine rk_iast hx hb hK hP hS (ky_4_8 hk_j0) ac_8 _ rfl h.1 dX4_findCallsBelow_75 (fun M14 eM14 H locs hP hS => ?_)
          replace h := h.2
          replace h := h M14 eM14
          obtain ⟨x1_15, ex1_15⟩ : ∃ y : Int32, y = x1 + (1 : Int32) := ⟨_, rfl⟩
          replace h := h x1_15 ex1_15
          refine lv_iinc (v := x1_15) (lv' := [(1, .int x1_15), (2, .int x2_13), (0, .ref (G.2.1 + j0))]) hx hb dX4_findCallsBelow_76 hl (k := 2) rfl (by rw [ex1_15]; rfl) (by decide) rfl (fun ls hl => ?_)
          refine lv_goto (tgt := 20) hx hb dX4_findCallsBelow_79 (by decide) ?_
          exact hA20 _ _ _ _ _ _ hP hS (lv_sub hl [2, 0] rfl) hk_j0 h
  unfold wX4_findCallsBelow at h
  refine lv_aload_n hx hb dX4_findCallsBelow_0 rfl (lv_at hl 0 rfl) ?_
  refine rk_getr hx hb hts inlX4 hown hK hP hk_j0a cl_4 8 21 fq_4_8 q_2_17 rfl dX4_findCallsBelow_1 ?_
  refine lv_bipush (v := (100 : Int32)) hx hb dX4_findCallsBelow_4 k_bipush_100 ?_
  refine rc_Sv (As := [.ref (G.2.1 + (j0a + 21)), .int (100 : Int32)]) (rest := []) ⟨hx, hb, hml, hown, hts⟩ (mJ7_fill_53178 l G (j0a + 21) (100 : Int32) M _ (ky_4_8 hk_j0a) h) (va_cwS 2 hts (gS_J7_fill_53178 q_17_21) rfl rfl rfl hdS_J7_fill_53178 ⟨Nat.le_of_ble_eq_true rfl, Nat.le_of_ble_eq_true rfl⟩) hK hP hS rfl hl.1 rfl (Nat.le_of_ble_eq_true rfl) dX4_findCallsBelow_6 ⟨Nat.zero_le _, Nat.zero_le _⟩ (fun M1 H locs h hP hS => ?_)
  refine lv_aload_n hx hb dX4_findCallsBelow_9 rfl (lv_at hl 0 rfl) ?_
  refine rk_getr hx hb hts inlX4 hown hK hP hk_j0a cl_4 9 22 fq_4_9 q_2_18 rfl dX4_findCallsBelow_10 ?_
  refine lv_bipush (v := (100 : Int32)) hx hb dX4_findCallsBelow_13 k_bipush_100 ?_
  refine rc_Sv (As := [.ref (G.2.1 + (j0a + 22)), .int (100 : Int32)]) (rest := []) ⟨hx, hb, hml, hown, hts⟩ (mJ7_fill_53178 l G (j0a + 22) (100 : Int32) M1 _ (ky_4_9 hk_j0a) h) (va_cwS 2 hts (gS_J7_fill_53178 q_17_21) rfl rfl rfl hdS_J7_fill_53178 ⟨Nat.le_of_ble_eq_true rfl, Nat.le_of_ble_eq_true rfl⟩) hK hP hS rfl hl.1 rfl (Nat.le_of_ble_eq_true rfl) dX4_findCallsBelow_15 ⟨Nat.zero_le _, Nat.zero_le _⟩ (fun M3 H locs h hP hS => ?_)
  refine lv_iconst (v := (0 : Int32)) hx hb dX4_findCallsBelow_18 k_iconst_0 ?_
  refine lv_istore_n (lv' := [(1, .int (0 : Int32)), (0, .ref (G.2.1 + j0a))]) hx hb dX4_findCallsBelow_19 rfl hl (by decide) rfl (fun ls hl => ?_)
  obtain ⟨n5, h⟩ := h
  exact B20 _ _ _ _ _ _ _ hP hS (lv_sub hl [1, 0] rfl) hk_j0a h
