/-! the law's method: printed by gen29.py -/
set_option maxHeartbeats 4000000 in
set_option maxRecDepth 100000 in
theorem mL_holds (l : Launch) (G : Gp) (j0a : Nat) (M : Mm) (Post : Mm → Int32 → Prop) (hk_j0a : kd j0a = 6) (h : wL_holds Post M j0a) : CtI l yL_holds wsL_holds rL_holds G [.ref (G.2.1 + j0a)] M Post := by
  refine Met.ofW (cc := cL_holds) (maxL := 12) (ret := (some .boolean)) (by decide) rfl ?_
  intro p e s m args below meth c s₁ B hml hv
  obtain ⟨rfl, hK, hP⟩ := hv
  have hx := B.exec
  have hb := B.bytes
  have hr := B.returns
  have hlocks := B.notSynchronized
  have hts0 := atoms_spec (ws := wsL_holds) B.pre
  have hts : ∀ w ∈ wsL_law, w.before _ s = true := fun w hw => hts0 w (List.mem_cons_of_mem _ hw)
  have hown : s.vm.findClass RL = some m.cls := findClass_of_methodNamed B.named
  have hS : va_S (Fr G) s.heap s.heap [] := va_S.rf
  have hl := lv_entry ([.ref (G.2.1 + j0a)]) (n := 12) (Nat.le_of_ble_eq_true rfl)
  rw [lg_entry_eq]
  generalize (lg_sl ([.ref (G.2.1 + j0a)]) ++ List.replicate (12 - (lg_sl ([.ref (G.2.1 + j0a)])).length) Slot.unset).toArray = ls at hl ⊢
  have hl : lv_has ls 12 [(0, .ref (G.2.1 + j0a))] := hl
  have B210 : ∀ (A57 : Mm → Nat → Int32 → Int32 → Int32 → Int32 → Int32 → Int32 → Int32 → Int32 → Int32 → Prop) (_ : ∀ (M : Mm) (j0 : Nat) (x1 : Int32) (x2 : Int32) (x3 : Int32) (x4 : Int32) (x5 : Int32) (x6 : Int32) (x7 : Int32) (x8 : Int32) (x9 : Int32) (H : Heap) (locs : List Loc) (ls : Array Slot), Rp G M H → va_S (Fr G) s.heap H locs → lv_has ls 12 [(0, .ref (G.2.1 + j0)), (1, .int x1), (2, .int x2), (3, .int x3), (4, .int x4), (5, .int x5), (6, .int x6), (7, .int x7), (8, .int x8), (9, .int x9)] → kd j0 = 6 → A57 M j0 x1 x2 x3 x4 x5 x6 x7 x8 x9 → Wi p l e (headSpec wsL_holds rL_holds).room s m [.ref (G.2.1 + j0a)].toArray below meth c G Post H locs (F0 m 57 ls [])), ∀ (M : Mm) (j0 : Nat) (x1 : Int32) (x2 : Int32) (x3 : Int32) (x4 : Int32) (x5 : Int32) (x6 : Int32) (x7 : Int32) (x9 : Int32) (H : Heap) (locs : List Loc) (ls : Array Slot), Rp G M H → va_S (Fr G) s.heap H locs → lv_has ls 12 [(0, .ref (G.2.1 + j0)), (1, .int x1), (2, .int x2), (3, .int x3), (4, .int x4), (5, .int x5), (6, .int x6), (7, .int x7), (9, .int x9)] → kd j0 = 6 → bL_holds_210 Post A57 M j0 x1 x2 x3 x4 x5 x6 x7 x9 → Wi p l e (headSpec wsL_holds rL_holds).room s m [.ref (G.2.1 + j0a)].toArray below meth c G Post H locs (F0 m 210 ls []) := by
    intro A57 hA57 M j0 x1 x2 x3 x4 x5 x6 x7 x9 H locs ls hP hS hl hk_j0 h
    unfold bL_holds_210 at h
    refine lv_aload_n hx hb dL_holds_210 rfl (lv_at hl 0 rfl) ?_
    refine lv_iconst (v := (3 : Int32)) hx hb dL_holds_211 k_iconst_3 ?_
    refine rc_Vi (As := [.int (3 : Int32)]) (rest := []) ⟨hx, hb, hml, hown, hts⟩ (mX6_count l G j0 (3 : Int32) M _ hk_j0 h) (cwV 1 hts (gV_X6_count q_4_11) rfl rfl rfl hdV_X6_count ⟨Nat.le_of_ble_eq_true rfl, Nat.le_of_ble_eq_true rfl⟩) hK hP hS hk_j0 (by decide) cl_6 rfl hl.1 rfl (Nat.le_of_ble_eq_true rfl) dL_holds_212 ⟨Nat.zero_le _, Nat.zero_le _⟩ (fun r56 M55 H locs h hP hS => ?_)
    refine lv_if_ne (tgt := 230) hx hb dL_holds_215 (by decide) (fun c57 => ?_) (fun c57 => ?_)
    · replace h := h.1 c57
      refine lv_iconst (v := (1 : Int32)) hx hb dL_holds_230 k_iconst_1 ?_
      refine lv_goto (tgt := 235) hx hb dL_holds_231 (by decide) ?_
      refine lv_istore (lv' := [(8, .int (1 : Int32)), (0, .ref (G.2.1 + j0)), (1, .int x1), (2, .int x2), (3, .int x3), (4, .int x4), (5, .int x5), (6, .int x6), (7, .int x7), (9, .int x9)]) hx hb dL_holds_235 hl (by decide) rfl (fun ls hl => ?_)
      obtain ⟨x9_58, ex9_58⟩ : ∃ y : Int32, y = x9 + (1 : Int32) := ⟨_, rfl⟩
      replace h := h x9_58 ex9_58
      refine lv_iinc (v := x9_58) (lv' := [(9, .int x9_58), (8, .int (1 : Int32)), (0, .ref (G.2.1 + j0)), (1, .int x1), (2, .int x2), (3, .int x3), (4, .int x4), (5, .int x5), (6, .int x6), (7, .int x7)]) hx hb dL_holds_237 hl (k := 9) rfl (by rw [ex9_58]; rfl) (by decide) rfl (fun ls hl => ?_)
      refine lv_goto (tgt := 57) hx hb dL_holds_240 (by decide) ?_
      exact hA57 _ _ _ _ _ _ _ _ _ _ _ _ _ _ hP hS (lv_sub hl [2, 3, 4, 5, 6, 7, 8, 9, 1, 0] rfl) hk_j0 h
    · replace h := h.2 c57
      refine lv_aload_n hx hb dL_holds_218 rfl (lv_at hl 0 rfl) ?_
      refine lv_iload hx hb dL_holds_219 (lv_at hl 8 rfl) ?_
      refine lv_bipush (v := (6 : Int32)) hx hb dL_holds_221 k_bipush_6 ?_
      refine rc_Vi (As := [.int x9, .int (6 : Int32)]) (rest := []) ⟨hx, hb, hml, hown, hts⟩ (mX6_fieldOf l G j0 x9 (6 : Int32) M55 _ hk_j0 h) (cwV 2 hts (gV_X6_fieldOf q_6_10) rfl rfl rfl hdV_X6_fieldOf ⟨Nat.le_of_ble_eq_true rfl, Nat.le_of_ble_eq_true rfl⟩) hK hP hS hk_j0 (by decide) cl_6 rfl hl.1 rfl (Nat.le_of_ble_eq_true rfl) dL_holds_223 ⟨Nat.zero_le _, Nat.zero_le _⟩ (fun r60 M59 H locs h hP hS => ?_)
      refine lv_iconst (v := (1 : Int32)) hx hb dL_holds_226 k_iconst_1 ?_
      refine lv_icmp_ne (tgt := 234) hx hb dL_holds_227 (by decide) (fun c61 => ?_) (fun c61 => ?_)
      · replace h := h.1 c61
        refine lv_iconst (v := (0 : Int32)) hx hb dL_holds_234 k_iconst_0 ?_
        refine lv_istore (lv' := [(8, .int (0 : Int32)), (0, .ref (G.2.1 + j0)), (1, .int x1), (2, .int x2), (3, .int x3), (4, .int x4), (5, .int x5), (6, .int x6), (7, .int x7), (9, .int x9)]) hx hb dL_holds_235 hl (by decide) rfl (fun ls hl => ?_)
        obtain ⟨x9_62, ex9_62⟩ : ∃ y : Int32, y = x9 + (1 : Int32) := ⟨_, rfl⟩
        replace h := h x9_62 ex9_62
        refine lv_iinc (v := x9_62) (lv' := [(9, .int x9_62), (8, .int (0 : Int32)), (0, .ref (G.2.1 + j0)), (1, .int x1), (2, .int x2), (3, .int x3), (4, .int x4), (5, .int x5), (6, .int x6), (7, .int x7)]) hx hb dL_holds_237 hl (k := 9) rfl (by rw [ex9_62]; rfl) (by decide) rfl (fun ls hl => ?_)
        refine lv_goto (tgt := 57) hx hb dL_holds_240 (by decide) ?_
        exact hA57 _ _ _ _ _ _ _ _ _ _ _ _ _ _ hP hS (lv_sub hl [2, 3, 4, 5, 6, 7, 8, 9, 1, 0] rfl) hk_j0 h
      · replace h := h.2 c61
        refine lv_iconst (v := (1 : Int32)) hx hb dL_holds_230 k_iconst_1 ?_
        refine lv_goto (tgt := 235) hx hb dL_holds_231 (by decide) ?_
        refine lv_istore (lv' := [(8, .int (1 : Int32)), (0, .ref (G.2.1 + j0)), (1, .int x1), (2, .int x2), (3, .int x3), (4, .int x4), (5, .int x5), (6, .int x6), (7, .int x7), (9, .int x9)]) hx hb dL_holds_235 hl (by decide) rfl (fun ls hl => ?_)
        obtain ⟨x9_63, ex9_63⟩ : ∃ y : Int32, y = x9 + (1 : Int32) := ⟨_, rfl⟩
        replace h := h x9_63 ex9_63
        refine lv_iinc (v := x9_63) (lv' := [(9, .int x9_63), (8, .int (1 : Int32)), (0, .ref (G.2.1 + j0)), (1, .int x1), (2, .int x2), (3, .int x3), (4, .int x4), (5, .int x5), (6, .int x6), (7, .int x7)]) hx hb dL_holds_237 hl (k := 9) rfl (by rw [ex9_63]; rfl) (by decide) rfl (fun ls hl => ?_)
        refine lv_goto (tgt := 57) hx hb dL_holds_240 (by decide) ?_
        exact hA57 _ _ _ _ _ _ _ _ _ _ _ _ _ _ hP hS (lv_sub hl [2, 3, 4, 5, 6, 7, 8, 9, 1, 0] rfl) hk_j0 h
  have B192 : ∀ (A57 : Mm → Nat → Int32 → Int32 → Int32 → Int32 → Int32 → Int32 → Int32 → Int32 → Int32 → Prop) (_ : ∀ (M : Mm) (j0 : Nat) (x1 : Int32) (x2 : Int32) (x3 : Int32) (x4 : Int32) (x5 : Int32) (x6 : Int32) (x7 : Int32) (x8 : Int32) (x9 : Int32) (H : Heap) (locs : List Loc) (ls : Array Slot), Rp G M H → va_S (Fr G) s.heap H locs → lv_has ls 12 [(0, .ref (G.2.1 + j0)), (1, .int x1), (2, .int x2), (3, .int x3), (4, .int x4), (5, .int x5), (6, .int x6), (7, .int x7), (8, .int x8), (9, .int x9)] → kd j0 = 6 → A57 M j0 x1 x2 x3 x4 x5 x6 x7 x8 x9 → Wi p l e (headSpec wsL_holds rL_holds).room s m [.ref (G.2.1 + j0a)].toArray below meth c G Post H locs (F0 m 57 ls [])), ∀ (M : Mm) (j0 : Nat) (x1 : Int32) (x2 : Int32) (x3 : Int32) (x4 : Int32) (x5 : Int32) (x6 : Int32) (x7 : Int32) (x9 : Int32) (x11 : Int32) (H : Heap) (locs : List Loc) (ls : Array Slot), Rp G M H → va_S (Fr G) s.heap H locs → lv_has ls 12 [(0, .ref (G.2.1 + j0)), (1, .int x1), (2, .int x2), (3, .int x3), (4, .int x4), (5, .int x5), (6, .int x6), (7, .int x7), (9, .int x9), (11, .int x11)] → kd j0 = 6 → bL_holds_192 Post A57 M j0 x1 x2 x3 x4 x5 x6 x7 x9 x11 → Wi p l e (headSpec wsL_holds rL_holds).room s m [.ref (G.2.1 + j0a)].toArray below meth c G Post H locs (F0 m 192 ls []) := by
    intro A57 hA57 M j0 x1 x2 x3 x4 x5 x6 x7 x9 x11 H locs ls hP hS hl hk_j0 h
    unfold bL_holds_192 at h
    refine lv_iload hx hb dL_holds_192 (lv_at hl 9 rfl) ?_
    refine lv_if_eq (tgt := 210) hx hb dL_holds_194 (by decide) (fun c50 => ?_) (fun c50 => ?_)
    · replace h := h.1 c50
      exact B210 _ hA57 _ _ _ _ _ _ _ _ _ _ _ _ _ hP hS (lv_sub hl [0, 1, 2, 3, 4, 5, 6, 7, 8] rfl) hk_j0 h
    · replace h := h.2 c50
      refine lv_aload_n hx hb dL_holds_197 rfl (lv_at hl 0 rfl) ?_
      refine lv_iload hx hb dL_holds_198 (lv_at hl 8 rfl) ?_
      refine lv_bipush (v := (7 : Int32)) hx hb dL_holds_200 k_bipush_7 ?_
      refine rc_Vi (As := [.int x9, .int (7 : Int32)]) (rest := []) ⟨hx, hb, hml, hown, hts⟩ (mX6_fieldOf l G j0 x9 (7 : Int32) M _ hk_j0 h) (cwV 2 hts (gV_X6_fieldOf q_6_10) rfl rfl rfl hdV_X6_fieldOf ⟨Nat.le_of_ble_eq_true rfl, Nat.le_of_ble_eq_true rfl⟩) hK hP hS hk_j0 (by decide) cl_6 rfl hl.1 rfl (Nat.le_of_ble_eq_true rfl) dL_holds_202 ⟨Nat.zero_le _, Nat.zero_le _⟩ (fun r52 M51 H locs h hP hS => ?_)
      refine lv_ldc hx hb hown (hts _ q_4_10) dL_holds_205 ?_
      refine lv_icmp_ne (tgt := 234) hx hb dL_holds_207 (by decide) (fun c53 => ?_) (fun c53 => ?_)
      · replace h := h.1 c53
        refine lv_iconst (v := (0 : Int32)) hx hb dL_holds_234 k_iconst_0 ?_
        refine lv_istore (lv' := [(8, .int (0 : Int32)), (0, .ref (G.2.1 + j0)), (1, .int x1), (2, .int x2), (3, .int x3), (4, .int x4), (5, .int x5), (6, .int x6), (7, .int x7), (9, .int x9), (11, .int x11)]) hx hb dL_holds_235 hl (by decide) rfl (fun ls hl => ?_)
        obtain ⟨x9_54, ex9_54⟩ : ∃ y : Int32, y = x9 + (1 : Int32) := ⟨_, rfl⟩
        replace h := h x9_54 ex9_54
        refine lv_iinc (v := x9_54) (lv' := [(9, .int x9_54), (8, .int (0 : Int32)), (0, .ref (G.2.1 + j0)), (1, .int x1), (2, .int x2), (3, .int x3), (4, .int x4), (5, .int x5), (6, .int x6), (7, .int x7), (11, .int x11)]) hx hb dL_holds_237 hl (k := 9) rfl (by rw [ex9_54]; rfl) (by decide) rfl (fun ls hl => ?_)
        refine lv_goto (tgt := 57) hx hb dL_holds_240 (by decide) ?_
        exact hA57 _ _ _ _ _ _ _ _ _ _ _ _ _ _ hP hS (lv_sub hl [2, 3, 4, 5, 6, 7, 8, 9, 1, 0] rfl) hk_j0 h
      · replace h := h.2 c53
        exact B210 _ hA57 _ _ _ _ _ _ _ _ _ _ _ _ _ hP hS (lv_sub hl [0, 1, 2, 3, 4, 5, 6, 7, 8] rfl) hk_j0 h
  have B116 : ∀ (A57 : Mm → Nat → Int32 → Int32 → Int32 → Int32 → Int32 → Int32 → Int32 → Int32 → Int32 → Prop) (_ : ∀ (M : Mm) (j0 : Nat) (x1 : Int32) (x2 : Int32) (x3 : Int32) (x4 : Int32) (x5 : Int32) (x6 : Int32) (x7 : Int32) (x8 : Int32) (x9 : Int32) (H : Heap) (locs : List Loc) (ls : Array Slot), Rp G M H → va_S (Fr G) s.heap H locs → lv_has ls 12 [(0, .ref (G.2.1 + j0)), (1, .int x1), (2, .int x2), (3, .int x3), (4, .int x4), (5, .int x5), (6, .int x6), (7, .int x7), (8, .int x8), (9, .int x9)] → kd j0 = 6 → A57 M j0 x1 x2 x3 x4 x5 x6 x7 x8 x9 → Wi p l e (headSpec wsL_holds rL_holds).room s m [.ref (G.2.1 + j0a)].toArray below meth c G Post H locs (F0 m 57 ls [])), ∀ (M : Mm) (j0 : Nat) (x1 : Int32) (x3 : Int32) (x4 : Int32) (x5 : Int32) (x6 : Int32) (x7 : Int32) (x9 : Int32) (x10 : Int32) (x11 : Int32) (t0 : Int32) (t1 : Int32) (H : Heap) (locs : List Loc) (ls : Array Slot), Rp G M H → va_S (Fr G) s.heap H locs → lv_has ls 12 [(0, .ref (G.2.1 + j0)), (1, .int x1), (3, .int x3), (4, .int x4), (5, .int x5), (6, .int x6), (7, .int x7), (9, .int x9), (10, .int x10), (11, .int x11)] → kd j0 = 6 → bL_holds_116 Post A57 M j0 x1 x3 x4 x5 x6 x7 x9 x10 x11 t0 t1 → Wi p l e (headSpec wsL_holds rL_holds).room s m [.ref (G.2.1 + j0a)].toArray below meth c G Post H locs (F0 m 116 ls [.int t0, .int t1]) := by
    intro A57 hA57 M j0 x1 x3 x4 x5 x6 x7 x9 x10 x11 t0 t1 H locs ls hP hS hl hk_j0 h
    unfold bL_holds_116 at h
    refine lv_iadd hx hb dL_holds_116 ?_
    refine lv_topi (fun x2_25 ex2_25 => ?_)
    replace h := h x2_25 ex2_25
    refine lv_istore_n (lv' := [(2, .int x2_25), (0, .ref (G.2.1 + j0)), (1, .int x1), (3, .int x3), (4, .int x4), (5, .int x5), (6, .int x6), (7, .int x7), (9, .int x9), (10, .int x10), (11, .int x11)]) hx hb dL_holds_117 rfl hl (by decide) rfl (fun ls hl => ?_)
    refine lv_iload_n hx hb dL_holds_118 rfl (lv_at hl 3 rfl) ?_
    refine lv_aload_n hx hb dL_holds_119 rfl (lv_at hl 1 rfl) ?_
    refine lv_iload hx hb dL_holds_120 (lv_at hl 8 rfl) ?_
    refine lv_iconst (v := (5 : Int32)) hx hb dL_holds_122 k_iconst_5 ?_
    refine rc_Vi (As := [.int x9, .int (5 : Int32)]) (rest := [.int x3]) ⟨hx, hb, hml, hown, hts⟩ (mX6_fieldOf l G j0 x9 (5 : Int32) M _ hk_j0 h) (cwV 2 hts (gV_X6_fieldOf q_6_10) rfl rfl rfl hdV_X6_fieldOf ⟨Nat.le_of_ble_eq_true rfl, Nat.le_of_ble_eq_true rfl⟩) hK hP hS hk_j0 (by decide) cl_6 rfl hl.1 rfl (Nat.le_of_ble_eq_true rfl) dL_holds_123 ⟨Nat.zero_le _, Nat.zero_le _⟩ (fun r27 M26 H locs h hP hS => ?_)
    refine lv_iload hx hb dL_holds_126 (lv_at hl 8 rfl) ?_
    refine lv_ishl hx hb dL_holds_128 ?_
    refine lv_ior hx hb dL_holds_129 ?_
    refine lv_topi (fun x3_28 ex3_28 => ?_)
    replace h := h x3_28 ex3_28
    refine lv_istore_n (lv' := [(3, .int x3_28), (2, .int x2_25), (0, .ref (G.2.1 + j0)), (1, .int x1), (4, .int x4), (5, .int x5), (6, .int x6), (7, .int x7), (9, .int x9), (10, .int x10), (11, .int x11)]) hx hb dL_holds_130 rfl hl (by decide) rfl (fun ls hl => ?_)
    refine lv_iload hx hb dL_holds_131 (lv_at hl 9 rfl) ?_
    refine lv_if_lt (tgt := 234) hx hb dL_holds_133 (by decide) (fun c29 => ?_) (fun c29 => ?_)
    · replace h := h.1 c29
      refine lv_iconst (v := (0 : Int32)) hx hb dL_holds_234 k_iconst_0 ?_
      refine lv_istore (lv' := [(8, .int (0 : Int32)), (3, .int x3_28), (2, .int x2_25), (0, .ref (G.2.1 + j0)), (1, .int x1), (4, .int x4), (5, .int x5), (6, .int x6), (7, .int x7), (9, .int x9), (10, .int x10), (11, .int x11)]) hx hb dL_holds_235 hl (by decide) rfl (fun ls hl => ?_)
      obtain ⟨x9_30, ex9_30⟩ : ∃ y : Int32, y = x9 + (1 : Int32) := ⟨_, rfl⟩
      replace h := h x9_30 ex9_30
      refine lv_iinc (v := x9_30) (lv' := [(9, .int x9_30), (8, .int (0 : Int32)), (3, .int x3_28), (2, .int x2_25), (0, .ref (G.2.1 + j0)), (1, .int x1), (4, .int x4), (5, .int x5), (6, .int x6), (7, .int x7), (10, .int x10), (11, .int x11)]) hx hb dL_holds_237 hl (k := 9) rfl (by rw [ex9_30]; rfl) (by decide) rfl (fun ls hl => ?_)
      refine lv_goto (tgt := 57) hx hb dL_holds_240 (by decide) ?_
      exact hA57 _ _ _ _ _ _ _ _ _ _ _ _ _ _ hP hS (lv_sub hl [4, 5, 3, 2, 6, 7, 8, 9, 1, 0] rfl) hk_j0 h
    · replace h := h.2 c29
      refine lv_iload hx hb dL_holds_136 (lv_at hl 9 rfl) ?_
      refine lv_aload_n hx hb dL_holds_138 rfl (lv_at hl 2 rfl) ?_
      refine lv_iload hx hb dL_holds_139 (lv_at hl 8 rfl) ?_
      refine lv_iconst (v := (1 : Int32)) hx hb dL_holds_141 k_iconst_1 ?_
      refine rc_Vi (As := [.int x9, .int (1 : Int32)]) (rest := [.int x10]) ⟨hx, hb, hml, hown, hts⟩ (mX6_fieldOf l G j0 x9 (1 : Int32) M26 _ hk_j0 h) (cwV 2 hts (gV_X6_fieldOf q_6_10) rfl rfl rfl hdV_X6_fieldOf ⟨Nat.le_of_ble_eq_true rfl, Nat.le_of_ble_eq_true rfl⟩) hK hP hS hk_j0 (by decide) cl_6 rfl hl.1 rfl (Nat.le_of_ble_eq_true rfl) dL_holds_142 ⟨Nat.zero_le _, Nat.zero_le _⟩ (fun r32 M31 H locs h hP hS => ?_)
      refine lv_icmp_gt (tgt := 234) hx hb dL_holds_145 (by decide) (fun c33 => ?_) (fun c33 => ?_)
      · replace h := h.1 c33
        refine lv_iconst (v := (0 : Int32)) hx hb dL_holds_234 k_iconst_0 ?_
        refine lv_istore (lv' := [(8, .int (0 : Int32)), (3, .int x3_28), (2, .int x2_25), (0, .ref (G.2.1 + j0)), (1, .int x1), (4, .int x4), (5, .int x5), (6, .int x6), (7, .int x7), (9, .int x9), (10, .int x10), (11, .int x11)]) hx hb dL_holds_235 hl (by decide) rfl (fun ls hl => ?_)
        obtain ⟨x9_34, ex9_34⟩ : ∃ y : Int32, y = x9 + (1 : Int32) := ⟨_, rfl⟩
        replace h := h x9_34 ex9_34
        refine lv_iinc (v := x9_34) (lv' := [(9, .int x9_34), (8, .int (0 : Int32)), (3, .int x3_28), (2, .int x2_25), (0, .ref (G.2.1 + j0)), (1, .int x1), (4, .int x4), (5, .int x5), (6, .int x6), (7, .int x7), (10, .int x10), (11, .int x11)]) hx hb dL_holds_237 hl (k := 9) rfl (by rw [ex9_34]; rfl) (by decide) rfl (fun ls hl => ?_)
        refine lv_goto (tgt := 57) hx hb dL_holds_240 (by decide) ?_
        exact hA57 _ _ _ _ _ _ _ _ _ _ _ _ _ _ hP hS (lv_sub hl [4, 5, 3, 2, 6, 7, 8, 9, 1, 0] rfl) hk_j0 h
      · replace h := h.2 c33
        refine lv_iload hx hb dL_holds_148 (lv_at hl 10 rfl) ?_
        refine lv_if_ne (tgt := 192) hx hb dL_holds_150 (by decide) (fun c35 => ?_) (fun c35 => ?_)
        · replace h := h.1 c35
          exact B192 _ hA57 _ _ _ _ _ _ _ _ _ _ _ _ _ _ hP hS (lv_sub hl [2, 3, 1, 0, 4, 5, 6, 7, 8, 10] rfl) hk_j0 h
        · replace h := h.2 c35
          refine lv_aload_n hx hb dL_holds_153 rfl (lv_at hl 2 rfl) ?_
          refine lv_iload hx hb dL_holds_154 (lv_at hl 8 rfl) ?_
          refine lv_iconst (v := (5 : Int32)) hx hb dL_holds_156 k_iconst_5 ?_
          refine rc_Vi (As := [.int x9, .int (5 : Int32)]) (rest := []) ⟨hx, hb, hml, hown, hts⟩ (mX6_fieldOf l G j0 x9 (5 : Int32) M31 _ hk_j0 h) (cwV 2 hts (gV_X6_fieldOf q_6_10) rfl rfl rfl hdV_X6_fieldOf ⟨Nat.le_of_ble_eq_true rfl, Nat.le_of_ble_eq_true rfl⟩) hK hP hS hk_j0 (by decide) cl_6 rfl hl.1 rfl (Nat.le_of_ble_eq_true rfl) dL_holds_157 ⟨Nat.zero_le _, Nat.zero_le _⟩ (fun r37 M36 H locs h hP hS => ?_)
          refine lv_if_ne (tgt := 234) hx hb dL_holds_160 (by decide) (fun c38 => ?_) (fun c38 => ?_)
          · replace h := h.1 c38
            refine lv_iconst (v := (0 : Int32)) hx hb dL_holds_234 k_iconst_0 ?_
            refine lv_istore (lv' := [(8, .int (0 : Int32)), (3, .int x3_28), (2, .int x2_25), (0, .ref (G.2.1 + j0)), (1, .int x1), (4, .int x4), (5, .int x5), (6, .int x6), (7, .int x7), (9, .int x9), (10, .int x10), (11, .int x11)]) hx hb dL_holds_235 hl (by decide) rfl (fun ls hl => ?_)
            obtain ⟨x9_39, ex9_39⟩ : ∃ y : Int32, y = x9 + (1 : Int32) := ⟨_, rfl⟩
            replace h := h x9_39 ex9_39
            refine lv_iinc (v := x9_39) (lv' := [(9, .int x9_39), (8, .int (0 : Int32)), (3, .int x3_28), (2, .int x2_25), (0, .ref (G.2.1 + j0)), (1, .int x1), (4, .int x4), (5, .int x5), (6, .int x6), (7, .int x7), (10, .int x10), (11, .int x11)]) hx hb dL_holds_237 hl (k := 9) rfl (by rw [ex9_39]; rfl) (by decide) rfl (fun ls hl => ?_)
            refine lv_goto (tgt := 57) hx hb dL_holds_240 (by decide) ?_
            exact hA57 _ _ _ _ _ _ _ _ _ _ _ _ _ _ hP hS (lv_sub hl [4, 5, 3, 2, 6, 7, 8, 9, 1, 0] rfl) hk_j0 h
          · replace h := h.2 c38
            refine lv_aload_n hx hb dL_holds_163 rfl (lv_at hl 2 rfl) ?_
            refine lv_iload hx hb dL_holds_164 (lv_at hl 8 rfl) ?_
            refine lv_bipush (v := (7 : Int32)) hx hb dL_holds_166 k_bipush_7 ?_
            refine rc_Vi (As := [.int x9, .int (7 : Int32)]) (rest := []) ⟨hx, hb, hml, hown, hts⟩ (mX6_fieldOf l G j0 x9 (7 : Int32) M36 _ hk_j0 h) (cwV 2 hts (gV_X6_fieldOf q_6_10) rfl rfl rfl hdV_X6_fieldOf ⟨Nat.le_of_ble_eq_true rfl, Nat.le_of_ble_eq_true rfl⟩) hK hP hS hk_j0 (by decide) cl_6 rfl hl.1 rfl (Nat.le_of_ble_eq_true rfl) dL_holds_168 ⟨Nat.zero_le _, Nat.zero_le _⟩ (fun r41 M40 H locs h hP hS => ?_)
            refine lv_iconst (v := (1 : Int32)) hx hb dL_holds_171 k_iconst_1 ?_
            refine lv_icmp_lt (tgt := 234) hx hb dL_holds_172 (by decide) (fun c42 => ?_) (fun c42 => ?_)
            · replace h := h.1 c42
              refine lv_iconst (v := (0 : Int32)) hx hb dL_holds_234 k_iconst_0 ?_
              refine lv_istore (lv' := [(8, .int (0 : Int32)), (3, .int x3_28), (2, .int x2_25), (0, .ref (G.2.1 + j0)), (1, .int x1), (4, .int x4), (5, .int x5), (6, .int x6), (7, .int x7), (9, .int x9), (10, .int x10), (11, .int x11)]) hx hb dL_holds_235 hl (by decide) rfl (fun ls hl => ?_)
              obtain ⟨x9_43, ex9_43⟩ : ∃ y : Int32, y = x9 + (1 : Int32) := ⟨_, rfl⟩
              replace h := h x9_43 ex9_43
              refine lv_iinc (v := x9_43) (lv' := [(9, .int x9_43), (8, .int (0 : Int32)), (3, .int x3_28), (2, .int x2_25), (0, .ref (G.2.1 + j0)), (1, .int x1), (4, .int x4), (5, .int x5), (6, .int x6), (7, .int x7), (10, .int x10), (11, .int x11)]) hx hb dL_holds_237 hl (k := 9) rfl (by rw [ex9_43]; rfl) (by decide) rfl (fun ls hl => ?_)
              refine lv_goto (tgt := 57) hx hb dL_holds_240 (by decide) ?_
              exact hA57 _ _ _ _ _ _ _ _ _ _ _ _ _ _ hP hS (lv_sub hl [4, 5, 3, 2, 6, 7, 8, 9, 1, 0] rfl) hk_j0 h
            · replace h := h.2 c42
              refine lv_aload_n hx hb dL_holds_175 rfl (lv_at hl 2 rfl) ?_
              refine lv_iload hx hb dL_holds_176 (lv_at hl 8 rfl) ?_
              refine lv_bipush (v := (7 : Int32)) hx hb dL_holds_178 k_bipush_7 ?_
              refine rc_Vi (As := [.int x9, .int (7 : Int32)]) (rest := []) ⟨hx, hb, hml, hown, hts⟩ (mX6_fieldOf l G j0 x9 (7 : Int32) M40 _ hk_j0 h) (cwV 2 hts (gV_X6_fieldOf q_6_10) rfl rfl rfl hdV_X6_fieldOf ⟨Nat.le_of_ble_eq_true rfl, Nat.le_of_ble_eq_true rfl⟩) hK hP hS hk_j0 (by decide) cl_6 rfl hl.1 rfl (Nat.le_of_ble_eq_true rfl) dL_holds_180 ⟨Nat.zero_le _, Nat.zero_le _⟩ (fun r45 M44 H locs h hP hS => ?_)
              refine lv_aload_n hx hb dL_holds_183 rfl (lv_at hl 2 rfl) ?_
              refine lv_bipush (v := (6 : Int32)) hx hb dL_holds_184 k_bipush_6 ?_
              refine rc_Vi (As := [.int (6 : Int32)]) (rest := [.int r45]) ⟨hx, hb, hml, hown, hts⟩ (mX6_count l G j0 (6 : Int32) M44 _ hk_j0 h) (cwV 1 hts (gV_X6_count q_4_11) rfl rfl rfl hdV_X6_count ⟨Nat.le_of_ble_eq_true rfl, Nat.le_of_ble_eq_true rfl⟩) hK hP hS hk_j0 (by decide) cl_6 rfl hl.1 rfl (Nat.le_of_ble_eq_true rfl) dL_holds_186 ⟨Nat.zero_le _, Nat.zero_le _⟩ (fun r47 M46 H locs h hP hS => ?_)
              refine lv_icmp_gt (tgt := 234) hx hb dL_holds_189 (by decide) (fun c48 => ?_) (fun c48 => ?_)
              · replace h := h.1 c48
                refine lv_iconst (v := (0 : Int32)) hx hb dL_holds_234 k_iconst_0 ?_
                refine lv_istore (lv' := [(8, .int (0 : Int32)), (3, .int x3_28), (2, .int x2_25), (0, .ref (G.2.1 + j0)), (1, .int x1), (4, .int x4), (5, .int x5), (6, .int x6), (7, .int x7), (9, .int x9), (10, .int x10), (11, .int x11)]) hx hb dL_holds_235 hl (by decide) rfl (fun ls hl => ?_)
                obtain ⟨x9_49, ex9_49⟩ : ∃ y : Int32, y = x9 + (1 : Int32) := ⟨_, rfl⟩
                replace h := h x9_49 ex9_49
                refine lv_iinc (v := x9_49) (lv' := [(9, .int x9_49), (8, .int (0 : Int32)), (3, .int x3_28), (2, .int x2_25), (0, .ref (G.2.1 + j0)), (1, .int x1), (4, .int x4), (5, .int x5), (6, .int x6), (7, .int x7), (10, .int x10), (11, .int x11)]) hx hb dL_holds_237 hl (k := 9) rfl (by rw [ex9_49]; rfl) (by decide) rfl (fun ls hl => ?_)
                refine lv_goto (tgt := 57) hx hb dL_holds_240 (by decide) ?_
                exact hA57 _ _ _ _ _ _ _ _ _ _ _ _ _ _ hP hS (lv_sub hl [4, 5, 3, 2, 6, 7, 8, 9, 1, 0] rfl) hk_j0 h
              · replace h := h.2 c48
                exact B192 _ hA57 _ _ _ _ _ _ _ _ _ _ _ _ _ _ hP hS (lv_sub hl [2, 3, 1, 0, 4, 5, 6, 7, 8, 10] rfl) hk_j0 h
  have B98 : ∀ (A57 : Mm → Nat → Int32 → Int32 → Int32 → Int32 → Int32 → Int32 → Int32 → Int32 → Int32 → Prop) (_ : ∀ (M : Mm) (j0 : Nat) (x1 : Int32) (x2 : Int32) (x3 : Int32) (x4 : Int32) (x5 : Int32) (x6 : Int32) (x7 : Int32) (x8 : Int32) (x9 : Int32) (H : Heap) (locs : List Loc) (ls : Array Slot), Rp G M H → va_S (Fr G) s.heap H locs → lv_has ls 12 [(0, .ref (G.2.1 + j0)), (1, .int x1), (2, .int x2), (3, .int x3), (4, .int x4), (5, .int x5), (6, .int x6), (7, .int x7), (8, .int x8), (9, .int x9)] → kd j0 = 6 → A57 M j0 x1 x2 x3 x4 x5 x6 x7 x8 x9 → Wi p l e (headSpec wsL_holds rL_holds).room s m [.ref (G.2.1 + j0a)].toArray below meth c G Post H locs (F0 m 57 ls [])), ∀ (M : Mm) (j0 : Nat) (x1 : Int32) (x2 : Int32) (x3 : Int32) (x4 : Int32) (x5 : Int32) (x6 : Int32) (x7 : Int32) (x9 : Int32) (x10 : Int32) (t0 : Int32) (H : Heap) (locs : List Loc) (ls : Array Slot), Rp G M H → va_S (Fr G) s.heap H locs → lv_has ls 12 [(0, .ref (G.2.1 + j0)), (1, .int x1), (2, .int x2), (3, .int x3), (4, .int x4), (5, .int x5), (6, .int x6), (7, .int x7), (9, .int x9), (10, .int x10)] → kd j0 = 6 → bL_holds_98 Post A57 M j0 x1 x2 x3 x4 x5 x6 x7 x9 x10 t0 → Wi p l e (headSpec wsL_holds rL_holds).room s m [.ref (G.2.1 + j0a)].toArray below meth c G Post H locs (F0 m 98 ls [.int t0]) := by
    intro A57 hA57 M j0 x1 x2 x3 x4 x5 x6 x7 x9 x10 t0 H locs ls hP hS hl hk_j0 h
    unfold bL_holds_98 at h
    refine lv_istore (lv' := [(11, .int t0), (0, .ref (G.2.1 + j0)), (1, .int x1), (2, .int x2), (3, .int x3), (4, .int x4), (5, .int x5), (6, .int x6), (7, .int x7), (9, .int x9), (10, .int x10)]) hx hb dL_holds_98 hl (by decide) rfl (fun ls hl => ?_)
    refine lv_iload_n hx hb dL_holds_100 rfl (lv_at hl 2 rfl) ?_
    refine lv_iload hx hb dL_holds_101 (lv_at hl 10 rfl) ?_
    refine lv_iadd hx hb dL_holds_103 ?_
    refine lv_topi (fun x1_23 ex1_23 => ?_)
    replace h := h x1_23 ex1_23
    refine lv_istore_n (lv' := [(1, .int x1_23), (11, .int t0), (0, .ref (G.2.1 + j0)), (2, .int x2), (3, .int x3), (4, .int x4), (5, .int x5), (6, .int x6), (7, .int x7), (9, .int x9), (10, .int x10)]) hx hb dL_holds_104 rfl hl (by decide) rfl (fun ls hl => ?_)
    refine lv_iload_n hx hb dL_holds_105 rfl (lv_at hl 3 rfl) ?_
    refine lv_iload hx hb dL_holds_106 (lv_at hl 1 rfl) ?_
    refine lv_if_eq (tgt := 115) hx hb dL_holds_108 (by decide) (fun c24 => ?_) (fun c24 => ?_)
    · replace h := h.1 c24
      refine lv_iconst (v := (0 : Int32)) hx hb dL_holds_115 k_iconst_0 ?_
      exact B116 _ hA57 _ _ _ _ _ _ _ _ _ _ _ _ _ _ _ _ hP hS (lv_sub hl [2, 0, 4, 5, 6, 7, 8, 9, 10, 1] rfl) hk_j0 h
    · replace h := h.2 c24
      refine lv_iconst (v := (1 : Int32)) hx hb dL_holds_111 k_iconst_1 ?_
      refine lv_goto (tgt := 116) hx hb dL_holds_112 (by decide) ?_
      exact B116 _ hA57 _ _ _ _ _ _ _ _ _ _ _ _ _ _ _ _ hP hS (lv_sub hl [2, 0, 4, 5, 6, 7, 8, 9, 10, 1] rfl) hk_j0 h
  have B331 : ∀ (A246 : Mm → Nat → Int32 → Int32 → Int32 → Int32 → Int32 → Int32 → Int32 → Int32 → Int32 → Prop) (_ : ∀ (M : Mm) (j0 : Nat) (x1 : Int32) (x2 : Int32) (x3 : Int32) (x4 : Int32) (x5 : Int32) (x6 : Int32) (x7 : Int32) (x8 : Int32) (x9 : Int32) (H : Heap) (locs : List Loc) (ls : Array Slot), Rp G M H → va_S (Fr G) s.heap H locs → lv_has ls 12 [(0, .ref (G.2.1 + j0)), (1, .int x1), (2, .int x2), (3, .int x3), (4, .int x4), (5, .int x5), (6, .int x6), (7, .int x7), (8, .int x8), (9, .int x9)] → kd j0 = 6 → A246 M j0 x1 x2 x3 x4 x5 x6 x7 x8 x9 → Wi p l e (headSpec wsL_holds rL_holds).room s m [.ref (G.2.1 + j0a)].toArray below meth c G Post H locs (F0 m 246 ls [])), ∀ (M : Mm) (j0 : Nat) (x1 : Int32) (x2 : Int32) (x3 : Int32) (x4 : Int32) (x5 : Int32) (x6 : Int32) (x9 : Int32) (t0 : Int32) (t1 : Int32) (H : Heap) (locs : List Loc) (ls : Array Slot), Rp G M H → va_S (Fr G) s.heap H locs → lv_has ls 12 [(0, .ref (G.2.1 + j0)), (1, .int x1), (2, .int x2), (3, .int x3), (4, .int x4), (5, .int x5), (6, .int x6), (9, .int x9)] → kd j0 = 6 → bL_holds_331 Post A246 M j0 x1 x2 x3 x4 x5 x6 x9 t0 t1 → Wi p l e (headSpec wsL_holds rL_holds).room s m [.ref (G.2.1 + j0a)].toArray below meth c G Post H locs (F0 m 331 ls [.int t0, .int t1]) := by
    intro A246 hA246 M j0 x1 x2 x3 x4 x5 x6 x9 t0 t1 H locs ls hP hS hl hk_j0 h
    unfold bL_holds_331 at h
    refine lv_ior hx hb dL_holds_331 ?_
    refine lv_topi (fun x7_81 ex7_81 => ?_)
    replace h := h x7_81 ex7_81
    refine lv_istore (lv' := [(7, .int x7_81), (0, .ref (G.2.1 + j0)), (1, .int x1), (2, .int x2), (3, .int x3), (4, .int x4), (5, .int x5), (6, .int x6), (9, .int x9)]) hx hb dL_holds_332 hl (by decide) rfl (fun ls hl => ?_)
    refine lv_aload_n hx hb dL_holds_334 rfl (lv_at hl 1 rfl) ?_
    refine lv_iload hx hb dL_holds_335 (lv_at hl 8 rfl) ?_
    refine lv_bipush (v := (7 : Int32)) hx hb dL_holds_337 k_bipush_7 ?_
    refine rc_Vi (As := [.int x9, .int (7 : Int32)]) (rest := []) ⟨hx, hb, hml, hown, hts⟩ (mX6_canalOf l G j0 x9 (7 : Int32) M _ hk_j0 h) (cwV 2 hts (gV_X6_canalOf q_8_12) rfl rfl rfl hdV_X6_canalOf ⟨Nat.le_of_ble_eq_true rfl, Nat.le_of_ble_eq_true rfl⟩) hK hP hS hk_j0 (by decide) cl_6 rfl hl.1 rfl (Nat.le_of_ble_eq_true rfl) dL_holds_339 ⟨Nat.zero_le _, Nat.zero_le _⟩ (fun r83 M82 H locs h hP hS => ?_)
    refine lv_if_lt (tgt := 421) hx hb dL_holds_342 (by decide) (fun c84 => ?_) (fun c84 => ?_)
    · replace h := h.1 c84
      refine lv_iconst (v := (0 : Int32)) hx hb dL_holds_421 k_iconst_0 ?_
      refine lv_istore (lv' := [(8, .int (0 : Int32)), (7, .int x7_81), (0, .ref (G.2.1 + j0)), (1, .int x1), (2, .int x2), (3, .int x3), (4, .int x4), (5, .int x5), (6, .int x6), (9, .int x9)]) hx hb dL_holds_422 hl (by decide) rfl (fun ls hl => ?_)
      obtain ⟨x9_85, ex9_85⟩ : ∃ y : Int32, y = x9 + (1 : Int32) := ⟨_, rfl⟩
      replace h := h x9_85 ex9_85
      refine lv_iinc (v := x9_85) (lv' := [(9, .int x9_85), (8, .int (0 : Int32)), (7, .int x7_81), (0, .ref (G.2.1 + j0)), (1, .int x1), (2, .int x2), (3, .int x3), (4, .int x4), (5, .int x5), (6, .int x6)]) hx hb dL_holds_424 hl (k := 9) rfl (by rw [ex9_85]; rfl) (by decide) rfl (fun ls hl => ?_)
      refine lv_goto (tgt := 246) hx hb dL_holds_427 (by decide) ?_
      exact hA246 _ _ _ _ _ _ _ _ _ _ _ _ _ _ hP hS (lv_sub hl [3, 4, 5, 6, 7, 8, 9, 2, 1, 0] rfl) hk_j0 h
    · replace h := h.2 c84
      refine lv_aload_n hx hb dL_holds_345 rfl (lv_at hl 1 rfl) ?_
      refine lv_iload hx hb dL_holds_346 (lv_at hl 8 rfl) ?_
      refine lv_bipush (v := (7 : Int32)) hx hb dL_holds_348 k_bipush_7 ?_
      refine rc_Vi (As := [.int x9, .int (7 : Int32)]) (rest := []) ⟨hx, hb, hml, hown, hts⟩ (mX6_canalOf l G j0 x9 (7 : Int32) M82 _ hk_j0 h) (cwV 2 hts (gV_X6_canalOf q_8_12) rfl rfl rfl hdV_X6_canalOf ⟨Nat.le_of_ble_eq_true rfl, Nat.le_of_ble_eq_true rfl⟩) hK hP hS hk_j0 (by decide) cl_6 rfl hl.1 rfl (Nat.le_of_ble_eq_true rfl) dL_holds_350 ⟨Nat.zero_le _, Nat.zero_le _⟩ (fun r87 M86 H locs h hP hS => ?_)
      refine lv_aload_n hx hb dL_holds_353 rfl (lv_at hl 1 rfl) ?_
      refine lv_iload hx hb dL_holds_354 (lv_at hl 8 rfl) ?_
      refine lv_iconst (v := (2 : Int32)) hx hb dL_holds_356 k_iconst_2 ?_
      refine rc_Vi (As := [.int x9, .int (2 : Int32)]) (rest := [.int r87]) ⟨hx, hb, hml, hown, hts⟩ (mX6_canalOf l G j0 x9 (2 : Int32) M86 _ hk_j0 h) (cwV 2 hts (gV_X6_canalOf q_8_12) rfl rfl rfl hdV_X6_canalOf ⟨Nat.le_of_ble_eq_true rfl, Nat.le_of_ble_eq_true rfl⟩) hK hP hS hk_j0 (by decide) cl_6 rfl hl.1 rfl (Nat.le_of_ble_eq_true rfl) dL_holds_357 ⟨Nat.zero_le _, Nat.zero_le _⟩ (fun r89 M88 H locs h hP hS => ?_)
      refine lv_icmp_gt (tgt := 421) hx hb dL_holds_360 (by decide) (fun c90 => ?_) (fun c90 => ?_)
      · replace h := h.1 c90
        refine lv_iconst (v := (0 : Int32)) hx hb dL_holds_421 k_iconst_0 ?_
        refine lv_istore (lv' := [(8, .int (0 : Int32)), (7, .int x7_81), (0, .ref (G.2.1 + j0)), (1, .int x1), (2, .int x2), (3, .int x3), (4, .int x4), (5, .int x5), (6, .int x6), (9, .int x9)]) hx hb dL_holds_422 hl (by decide) rfl (fun ls hl => ?_)
        obtain ⟨x9_91, ex9_91⟩ : ∃ y : Int32, y = x9 + (1 : Int32) := ⟨_, rfl⟩
        replace h := h x9_91 ex9_91
        refine lv_iinc (v := x9_91) (lv' := [(9, .int x9_91), (8, .int (0 : Int32)), (7, .int x7_81), (0, .ref (G.2.1 + j0)), (1, .int x1), (2, .int x2), (3, .int x3), (4, .int x4), (5, .int x5), (6, .int x6)]) hx hb dL_holds_424 hl (k := 9) rfl (by rw [ex9_91]; rfl) (by decide) rfl (fun ls hl => ?_)
        refine lv_goto (tgt := 246) hx hb dL_holds_427 (by decide) ?_
        exact hA246 _ _ _ _ _ _ _ _ _ _ _ _ _ _ hP hS (lv_sub hl [3, 4, 5, 6, 7, 8, 9, 2, 1, 0] rfl) hk_j0 h
      · replace h := h.2 c90
        refine lv_iload hx hb dL_holds_363 (lv_at hl 8 rfl) ?_
        refine lv_if_eq (tgt := 417) hx hb dL_holds_365 (by decide) (fun c92 => ?_) (fun c92 => ?_)
        · replace h := h.1 c92
          refine lv_iconst (v := (1 : Int32)) hx hb dL_holds_417 k_iconst_1 ?_
          refine lv_goto (tgt := 422) hx hb dL_holds_418 (by decide) ?_
          refine lv_istore (lv' := [(8, .int (1 : Int32)), (7, .int x7_81), (0, .ref (G.2.1 + j0)), (1, .int x1), (2, .int x2), (3, .int x3), (4, .int x4), (5, .int x5), (6, .int x6), (9, .int x9)]) hx hb dL_holds_422 hl (by decide) rfl (fun ls hl => ?_)
          obtain ⟨x9_93, ex9_93⟩ : ∃ y : Int32, y = x9 + (1 : Int32) := ⟨_, rfl⟩
          replace h := h x9_93 ex9_93
          refine lv_iinc (v := x9_93) (lv' := [(9, .int x9_93), (8, .int (1 : Int32)), (7, .int x7_81), (0, .ref (G.2.1 + j0)), (1, .int x1), (2, .int x2), (3, .int x3), (4, .int x4), (5, .int x5), (6, .int x6)]) hx hb dL_holds_424 hl (k := 9) rfl (by rw [ex9_93]; rfl) (by decide) rfl (fun ls hl => ?_)
          refine lv_goto (tgt := 246) hx hb dL_holds_427 (by decide) ?_
          exact hA246 _ _ _ _ _ _ _ _ _ _ _ _ _ _ hP hS (lv_sub hl [3, 4, 5, 6, 7, 8, 9, 2, 1, 0] rfl) hk_j0 h
        · replace h := h.2 c92
          refine lv_aload_n hx hb dL_holds_368 rfl (lv_at hl 1 rfl) ?_
          refine lv_aload_n hx hb dL_holds_369 rfl (lv_at hl 1 rfl) ?_
          refine lv_iload hx hb dL_holds_370 (lv_at hl 8 rfl) ?_
          refine lv_iconst (v := (0 : Int32)) hx hb dL_holds_372 k_iconst_0 ?_
          refine rc_Vi (As := [.int x9, .int (0 : Int32)]) (rest := [.ref (G.2.1 + j0)]) ⟨hx, hb, hml, hown, hts⟩ (mX6_canalOf l G j0 x9 (0 : Int32) M88 _ hk_j0 h) (cwV 2 hts (gV_X6_canalOf q_8_12) rfl rfl rfl hdV_X6_canalOf ⟨Nat.le_of_ble_eq_true rfl, Nat.le_of_ble_eq_true rfl⟩) hK hP hS hk_j0 (by decide) cl_6 rfl hl.1 rfl (Nat.le_of_ble_eq_true rfl) dL_holds_373 ⟨Nat.zero_le _, Nat.zero_le _⟩ (fun r95 M94 H locs h hP hS => ?_)
          refine lv_bipush (v := (6 : Int32)) hx hb dL_holds_376 k_bipush_6 ?_
          refine rc_Vi (As := [.int r95, .int (6 : Int32)]) (rest := []) ⟨hx, hb, hml, hown, hts⟩ (mX6_canalOf l G j0 r95 (6 : Int32) M94 _ hk_j0 h) (cwV 2 hts (gV_X6_canalOf q_8_12) rfl rfl rfl hdV_X6_canalOf ⟨Nat.le_of_ble_eq_true rfl, Nat.le_of_ble_eq_true rfl⟩) hK hP hS hk_j0 (by decide) cl_6 rfl hl.1 rfl (Nat.le_of_ble_eq_true rfl) dL_holds_378 ⟨Nat.zero_le _, Nat.zero_le _⟩ (fun r97 M96 H locs h hP hS => ?_)
          refine lv_iload hx hb dL_holds_381 (lv_at hl 8 rfl) ?_
          refine lv_ishr hx hb dL_holds_383 ?_
          refine lv_iconst (v := (1 : Int32)) hx hb dL_holds_384 k_iconst_1 ?_
          refine lv_iand hx hb dL_holds_385 ?_
          refine lv_iconst (v := (1 : Int32)) hx hb dL_holds_386 k_iconst_1 ?_
          refine lv_icmp_ne (tgt := 421) hx hb dL_holds_387 (by decide) (fun c98 => ?_) (fun c98 => ?_)
          · replace h := h.1 c98
            refine lv_iconst (v := (0 : Int32)) hx hb dL_holds_421 k_iconst_0 ?_
            refine lv_istore (lv' := [(8, .int (0 : Int32)), (7, .int x7_81), (0, .ref (G.2.1 + j0)), (1, .int x1), (2, .int x2), (3, .int x3), (4, .int x4), (5, .int x5), (6, .int x6), (9, .int x9)]) hx hb dL_holds_422 hl (by decide) rfl (fun ls hl => ?_)
            obtain ⟨x9_99, ex9_99⟩ : ∃ y : Int32, y = x9 + (1 : Int32) := ⟨_, rfl⟩
            replace h := h x9_99 ex9_99
            refine lv_iinc (v := x9_99) (lv' := [(9, .int x9_99), (8, .int (0 : Int32)), (7, .int x7_81), (0, .ref (G.2.1 + j0)), (1, .int x1), (2, .int x2), (3, .int x3), (4, .int x4), (5, .int x5), (6, .int x6)]) hx hb dL_holds_424 hl (k := 9) rfl (by rw [ex9_99]; rfl) (by decide) rfl (fun ls hl => ?_)
            refine lv_goto (tgt := 246) hx hb dL_holds_427 (by decide) ?_
            exact hA246 _ _ _ _ _ _ _ _ _ _ _ _ _ _ hP hS (lv_sub hl [3, 4, 5, 6, 7, 8, 9, 2, 1, 0] rfl) hk_j0 h
          · replace h := h.2 c98
            refine lv_aload_n hx hb dL_holds_390 rfl (lv_at hl 1 rfl) ?_
            refine lv_iload hx hb dL_holds_391 (lv_at hl 8 rfl) ?_
            refine lv_bipush (v := (6 : Int32)) hx hb dL_holds_393 k_bipush_6 ?_
            refine rc_Vi (As := [.int x9, .int (6 : Int32)]) (rest := []) ⟨hx, hb, hml, hown, hts⟩ (mX6_canalOf l G j0 x9 (6 : Int32) M96 _ hk_j0 h) (cwV 2 hts (gV_X6_canalOf q_8_12) rfl rfl rfl hdV_X6_canalOf ⟨Nat.le_of_ble_eq_true rfl, Nat.le_of_ble_eq_true rfl⟩) hK hP hS hk_j0 (by decide) cl_6 rfl hl.1 rfl (Nat.le_of_ble_eq_true rfl) dL_holds_395 ⟨Nat.zero_le _, Nat.zero_le _⟩ (fun r101 M100 H locs h hP hS => ?_)
            refine lv_aload_n hx hb dL_holds_398 rfl (lv_at hl 1 rfl) ?_
            refine lv_aload_n hx hb dL_holds_399 rfl (lv_at hl 1 rfl) ?_
            refine lv_iload hx hb dL_holds_400 (lv_at hl 8 rfl) ?_
            refine lv_iconst (v := (0 : Int32)) hx hb dL_holds_402 k_iconst_0 ?_
            refine rc_Vi (As := [.int x9, .int (0 : Int32)]) (rest := [.ref (G.2.1 + j0), .int r101]) ⟨hx, hb, hml, hown, hts⟩ (mX6_canalOf l G j0 x9 (0 : Int32) M100 _ hk_j0 h) (cwV 2 hts (gV_X6_canalOf q_8_12) rfl rfl rfl hdV_X6_canalOf ⟨Nat.le_of_ble_eq_true rfl, Nat.le_of_ble_eq_true rfl⟩) hK hP hS hk_j0 (by decide) cl_6 rfl hl.1 rfl (Nat.le_of_ble_eq_true rfl) dL_holds_403 ⟨Nat.zero_le _, Nat.zero_le _⟩ (fun r103 M102 H locs h hP hS => ?_)
            refine lv_bipush (v := (6 : Int32)) hx hb dL_holds_406 k_bipush_6 ?_
            refine rc_Vi (As := [.int r103, .int (6 : Int32)]) (rest := [.int r101]) ⟨hx, hb, hml, hown, hts⟩ (mX6_canalOf l G j0 r103 (6 : Int32) M102 _ hk_j0 h) (cwV 2 hts (gV_X6_canalOf q_8_12) rfl rfl rfl hdV_X6_canalOf ⟨Nat.le_of_ble_eq_true rfl, Nat.le_of_ble_eq_true rfl⟩) hK hP hS hk_j0 (by decide) cl_6 rfl hl.1 rfl (Nat.le_of_ble_eq_true rfl) dL_holds_408 ⟨Nat.zero_le _, Nat.zero_le _⟩ (fun r105 M104 H locs h hP hS => ?_)
            refine lv_iconst (v := (-1 : Int32)) hx hb dL_holds_411 k_iconst_m1 ?_
            refine lv_ixor hx hb dL_holds_412 ?_
            refine lv_iand hx hb dL_holds_413 ?_
            refine lv_if_ne (tgt := 421) hx hb dL_holds_414 (by decide) (fun c106 => ?_) (fun c106 => ?_)
            · replace h := h.1 c106
              refine lv_iconst (v := (0 : Int32)) hx hb dL_holds_421 k_iconst_0 ?_
              refine lv_istore (lv' := [(8, .int (0 : Int32)), (7, .int x7_81), (0, .ref (G.2.1 + j0)), (1, .int x1), (2, .int x2), (3, .int x3), (4, .int x4), (5, .int x5), (6, .int x6), (9, .int x9)]) hx hb dL_holds_422 hl (by decide) rfl (fun ls hl => ?_)
              obtain ⟨x9_107, ex9_107⟩ : ∃ y : Int32, y = x9 + (1 : Int32) := ⟨_, rfl⟩
              replace h := h x9_107 ex9_107
              refine lv_iinc (v := x9_107) (lv' := [(9, .int x9_107), (8, .int (0 : Int32)), (7, .int x7_81), (0, .ref (G.2.1 + j0)), (1, .int x1), (2, .int x2), (3, .int x3), (4, .int x4), (5, .int x5), (6, .int x6)]) hx hb dL_holds_424 hl (k := 9) rfl (by rw [ex9_107]; rfl) (by decide) rfl (fun ls hl => ?_)
              refine lv_goto (tgt := 246) hx hb dL_holds_427 (by decide) ?_
              exact hA246 _ _ _ _ _ _ _ _ _ _ _ _ _ _ hP hS (lv_sub hl [3, 4, 5, 6, 7, 8, 9, 2, 1, 0] rfl) hk_j0 h
            · replace h := h.2 c106
              refine lv_iconst (v := (1 : Int32)) hx hb dL_holds_417 k_iconst_1 ?_
              refine lv_goto (tgt := 422) hx hb dL_holds_418 (by decide) ?_
              refine lv_istore (lv' := [(8, .int (1 : Int32)), (7, .int x7_81), (0, .ref (G.2.1 + j0)), (1, .int x1), (2, .int x2), (3, .int x3), (4, .int x4), (5, .int x5), (6, .int x6), (9, .int x9)]) hx hb dL_holds_422 hl (by decide) rfl (fun ls hl => ?_)
              obtain ⟨x9_108, ex9_108⟩ : ∃ y : Int32, y = x9 + (1 : Int32) := ⟨_, rfl⟩
              replace h := h x9_108 ex9_108
              refine lv_iinc (v := x9_108) (lv' := [(9, .int x9_108), (8, .int (1 : Int32)), (7, .int x7_81), (0, .ref (G.2.1 + j0)), (1, .int x1), (2, .int x2), (3, .int x3), (4, .int x4), (5, .int x5), (6, .int x6)]) hx hb dL_holds_424 hl (k := 9) rfl (by rw [ex9_108]; rfl) (by decide) rfl (fun ls hl => ?_)
              refine lv_goto (tgt := 246) hx hb dL_holds_427 (by decide) ?_
              exact hA246 _ _ _ _ _ _ _ _ _ _ _ _ _ _ hP hS (lv_sub hl [3, 4, 5, 6, 7, 8, 9, 2, 1, 0] rfl) hk_j0 h
  have B308 : ∀ (A246 : Mm → Nat → Int32 → Int32 → Int32 → Int32 → Int32 → Int32 → Int32 → Int32 → Int32 → Prop) (_ : ∀ (M : Mm) (j0 : Nat) (x1 : Int32) (x2 : Int32) (x3 : Int32) (x4 : Int32) (x5 : Int32) (x6 : Int32) (x7 : Int32) (x8 : Int32) (x9 : Int32) (H : Heap) (locs : List Loc) (ls : Array Slot), Rp G M H → va_S (Fr G) s.heap H locs → lv_has ls 12 [(0, .ref (G.2.1 + j0)), (1, .int x1), (2, .int x2), (3, .int x3), (4, .int x4), (5, .int x5), (6, .int x6), (7, .int x7), (8, .int x8), (9, .int x9)] → kd j0 = 6 → A246 M j0 x1 x2 x3 x4 x5 x6 x7 x8 x9 → Wi p l e (headSpec wsL_holds rL_holds).room s m [.ref (G.2.1 + j0a)].toArray below meth c G Post H locs (F0 m 246 ls [])), ∀ (M : Mm) (j0 : Nat) (x1 : Int32) (x2 : Int32) (x3 : Int32) (x4 : Int32) (x5 : Int32) (x7 : Int32) (x9 : Int32) (t0 : Int32) (t1 : Int32) (H : Heap) (locs : List Loc) (ls : Array Slot), Rp G M H → va_S (Fr G) s.heap H locs → lv_has ls 12 [(0, .ref (G.2.1 + j0)), (1, .int x1), (2, .int x2), (3, .int x3), (4, .int x4), (5, .int x5), (7, .int x7), (9, .int x9)] → kd j0 = 6 → bL_holds_308 Post A246 M j0 x1 x2 x3 x4 x5 x7 x9 t0 t1 → Wi p l e (headSpec wsL_holds rL_holds).room s m [.ref (G.2.1 + j0a)].toArray below meth c G Post H locs (F0 m 308 ls [.int t0, .int t1]) := by
    intro A246 hA246 M j0 x1 x2 x3 x4 x5 x7 x9 t0 t1 H locs ls hP hS hl hk_j0 h
    unfold bL_holds_308 at h
    refine lv_ior hx hb dL_holds_308 ?_
    refine lv_topi (fun x6_77 ex6_77 => ?_)
    replace h := h x6_77 ex6_77
    refine lv_istore (lv' := [(6, .int x6_77), (0, .ref (G.2.1 + j0)), (1, .int x1), (2, .int x2), (3, .int x3), (4, .int x4), (5, .int x5), (7, .int x7), (9, .int x9)]) hx hb dL_holds_309 hl (by decide) rfl (fun ls hl => ?_)
    refine lv_iload hx hb dL_holds_311 (lv_at hl 7 rfl) ?_
    refine lv_aload_n hx hb dL_holds_313 rfl (lv_at hl 1 rfl) ?_
    refine lv_iload hx hb dL_holds_314 (lv_at hl 8 rfl) ?_
    refine lv_iconst (v := (5 : Int32)) hx hb dL_holds_316 k_iconst_5 ?_
    refine rc_Vi (As := [.int x9, .int (5 : Int32)]) (rest := [.int x7]) ⟨hx, hb, hml, hown, hts⟩ (mX6_canalOf l G j0 x9 (5 : Int32) M _ hk_j0 h) (cwV 2 hts (gV_X6_canalOf q_8_12) rfl rfl rfl hdV_X6_canalOf ⟨Nat.le_of_ble_eq_true rfl, Nat.le_of_ble_eq_true rfl⟩) hK hP hS hk_j0 (by decide) cl_6 rfl hl.1 rfl (Nat.le_of_ble_eq_true rfl) dL_holds_317 ⟨Nat.zero_le _, Nat.zero_le _⟩ (fun r79 M78 H locs h hP hS => ?_)
    refine lv_if_lt (tgt := 330) hx hb dL_holds_320 (by decide) (fun c80 => ?_) (fun c80 => ?_)
    · replace h := h.1 c80
      refine lv_iconst (v := (0 : Int32)) hx hb dL_holds_330 k_iconst_0 ?_
      exact B331 _ hA246 _ _ _ _ _ _ _ _ _ _ _ _ _ _ hP hS (lv_sub hl [1, 2, 3, 4, 5, 6, 0, 8] rfl) hk_j0 h
    · replace h := h.2 c80
      refine lv_iconst (v := (1 : Int32)) hx hb dL_holds_323 k_iconst_1 ?_
      refine lv_iload hx hb dL_holds_324 (lv_at hl 8 rfl) ?_
      refine lv_ishl hx hb dL_holds_326 ?_
      refine lv_goto (tgt := 331) hx hb dL_holds_327 (by decide) ?_
      exact B331 _ hA246 _ _ _ _ _ _ _ _ _ _ _ _ _ _ hP hS (lv_sub hl [1, 2, 3, 4, 5, 6, 0, 8] rfl) hk_j0 h
  have B534 : ∀ (M : Mm) (t0 : Int32) (t1 : Int32) (H : Heap) (locs : List Loc) (ls : Array Slot), Rp G M H → va_S (Fr G) s.heap H locs → lv_has ls 12 [] → bL_holds_534 Post M t0 t1 → Wi p l e (headSpec wsL_holds rL_holds).room s m [.ref (G.2.1 + j0a)].toArray below meth c G Post H locs (F0 m 534 ls [.int t0, .int t1]) := by
    intro M t0 t1 H locs ls hP hS hl h
    unfold bL_holds_534 at h
    refine lv_icmp_ne (tgt := 541) hx hb dL_holds_534 (by decide) (fun c137 => ?_) (fun c137 => ?_)
    · replace h := h.1 c137
      refine lv_iconst (v := (0 : Int32)) hx hb dL_holds_541 k_iconst_0 ?_
      exact re_z hx hb hr hlocks (Or.inl rfl) hP hS h dL_holds_542
    · replace h := h.2 c137
      refine lv_iconst (v := (1 : Int32)) hx hb dL_holds_537 k_iconst_1 ?_
      refine lv_goto (tgt := 542) hx hb dL_holds_538 (by decide) ?_
      exact re_z hx hb hr hlocks (Or.inr rfl) hP hS h dL_holds_542
  have B520 : ∀ (M : Mm) (j0 : Nat) (t0 : Int32) (H : Heap) (locs : List Loc) (ls : Array Slot), Rp G M H → va_S (Fr G) s.heap H locs → lv_has ls 12 [(0, .ref (G.2.1 + j0))] → kd j0 = 6 → bL_holds_520 Post M j0 t0 → Wi p l e (headSpec wsL_holds rL_holds).room s m [.ref (G.2.1 + j0a)].toArray below meth c G Post H locs (F0 m 520 ls [.int t0]) := by
    intro M j0 t0 H locs ls hP hS hl hk_j0 h
    unfold bL_holds_520 at h
    refine lv_aload_n hx hb dL_holds_520 rfl (lv_at hl 0 rfl) ?_
    refine lv_bipush (v := (7 : Int32)) hx hb dL_holds_521 k_bipush_7 ?_
    refine rc_Vi (As := [.int (7 : Int32)]) (rest := [.int t0]) ⟨hx, hb, hml, hown, hts⟩ (mX6_count l G j0 (7 : Int32) M _ hk_j0 h) (cwV 1 hts (gV_X6_count q_4_11) rfl rfl rfl hdV_X6_count ⟨Nat.le_of_ble_eq_true rfl, Nat.le_of_ble_eq_true rfl⟩) hK hP hS hk_j0 (by decide) cl_6 rfl hl.1 rfl (Nat.le_of_ble_eq_true rfl) dL_holds_523 ⟨Nat.zero_le _, Nat.zero_le _⟩ (fun r135 M134 H locs h hP hS => ?_)
    refine lv_if_ne (tgt := 533) hx hb dL_holds_526 (by decide) (fun c136 => ?_) (fun c136 => ?_)
    · replace h := h.1 c136
      refine lv_iconst (v := (0 : Int32)) hx hb dL_holds_533 k_iconst_0 ?_
      exact B534 _ _ _ _ _ _ hP hS (lv_sub hl [] rfl) h
    · replace h := h.2 c136
      refine lv_iconst (v := (1 : Int32)) hx hb dL_holds_529 k_iconst_1 ?_
      refine lv_goto (tgt := 534) hx hb dL_holds_530 (by decide) ?_
      exact B534 _ _ _ _ _ _ hP hS (lv_sub hl [] rfl) h
  have B430 : ∀ (M : Mm) (j0 : Nat) (x1 : Int32) (x2 : Int32) (x3 : Int32) (x4 : Int32) (x5 : Int32) (x6 : Int32) (x7 : Int32) (x8 : Int32) (H : Heap) (locs : List Loc) (ls : Array Slot), Rp G M H → va_S (Fr G) s.heap H locs → lv_has ls 12 [(0, .ref (G.2.1 + j0)), (1, .int x1), (2, .int x2), (3, .int x3), (4, .int x4), (5, .int x5), (6, .int x6), (7, .int x7), (8, .int x8)] → kd j0 = 6 → bL_holds_430 Post M j0 x1 x2 x3 x4 x5 x6 x7 x8 → Wi p l e (headSpec wsL_holds rL_holds).room s m [.ref (G.2.1 + j0a)].toArray below meth c G Post H locs (F0 m 430 ls []) := by
    intro M j0 x1 x2 x3 x4 x5 x6 x7 x8 H locs ls hP hS hl hk_j0 h
    unfold bL_holds_430 at h
    refine lv_iload hx hb dL_holds_430 (lv_at hl 8 rfl) ?_
    refine lv_if_eq (tgt := 541) hx hb dL_holds_432 (by decide) (fun c109 => ?_) (fun c109 => ?_)
    · replace h := h.1 c109
      refine lv_iconst (v := (0 : Int32)) hx hb dL_holds_541 k_iconst_0 ?_
      exact re_z hx hb hr hlocks (Or.inl rfl) hP hS h dL_holds_542
    · replace h := h.2 c109
      refine lv_aload_n hx hb dL_holds_435 rfl (lv_at hl 0 rfl) ?_
      refine lv_bipush (v := (8 : Int32)) hx hb dL_holds_436 k_bipush_8 ?_
      refine rc_Vi (As := [.int (8 : Int32)]) (rest := []) ⟨hx, hb, hml, hown, hts⟩ (mX6_count l G j0 (8 : Int32) M _ hk_j0 h) (cwV 1 hts (gV_X6_count q_4_11) rfl rfl rfl hdV_X6_count ⟨Nat.le_of_ble_eq_true rfl, Nat.le_of_ble_eq_true rfl⟩) hK hP hS hk_j0 (by decide) cl_6 rfl hl.1 rfl (Nat.le_of_ble_eq_true rfl) dL_holds_438 ⟨Nat.zero_le _, Nat.zero_le _⟩ (fun r111 M110 H locs h hP hS => ?_)
      refine lv_iload_n hx hb dL_holds_441 rfl (lv_at hl 1 rfl) ?_
      refine lv_icmp_ne (tgt := 541) hx hb dL_holds_442 (by decide) (fun c112 => ?_) (fun c112 => ?_)
      · replace h := h.1 c112
        refine lv_iconst (v := (0 : Int32)) hx hb dL_holds_541 k_iconst_0 ?_
        exact re_z hx hb hr hlocks (Or.inl rfl) hP hS h dL_holds_542
      · replace h := h.2 c112
        refine lv_aload_n hx hb dL_holds_445 rfl (lv_at hl 0 rfl) ?_
        refine lv_iconst (v := (2 : Int32)) hx hb dL_holds_446 k_iconst_2 ?_
        refine rc_Vi (As := [.int (2 : Int32)]) (rest := []) ⟨hx, hb, hml, hown, hts⟩ (mX6_count l G j0 (2 : Int32) M110 _ hk_j0 h) (cwV 1 hts (gV_X6_count q_4_11) rfl rfl rfl hdV_X6_count ⟨Nat.le_of_ble_eq_true rfl, Nat.le_of_ble_eq_true rfl⟩) hK hP hS hk_j0 (by decide) cl_6 rfl hl.1 rfl (Nat.le_of_ble_eq_true rfl) dL_holds_447 ⟨Nat.zero_le _, Nat.zero_le _⟩ (fun r114 M113 H locs h hP hS => ?_)
        refine lv_iload_n hx hb dL_holds_450 rfl (lv_at hl 2 rfl) ?_
        refine lv_icmp_ne (tgt := 541) hx hb dL_holds_451 (by decide) (fun c115 => ?_) (fun c115 => ?_)
        · replace h := h.1 c115
          refine lv_iconst (v := (0 : Int32)) hx hb dL_holds_541 k_iconst_0 ?_
          exact re_z hx hb hr hlocks (Or.inl rfl) hP hS h dL_holds_542
        · replace h := h.2 c115
          refine lv_aload_n hx hb dL_holds_454 rfl (lv_at hl 0 rfl) ?_
          refine lv_iconst (v := (3 : Int32)) hx hb dL_holds_455 k_iconst_3 ?_
          refine rc_Vi (As := [.int (3 : Int32)]) (rest := []) ⟨hx, hb, hml, hown, hts⟩ (mX6_count l G j0 (3 : Int32) M113 _ hk_j0 h) (cwV 1 hts (gV_X6_count q_4_11) rfl rfl rfl hdV_X6_count ⟨Nat.le_of_ble_eq_true rfl, Nat.le_of_ble_eq_true rfl⟩) hK hP hS hk_j0 (by decide) cl_6 rfl hl.1 rfl (Nat.le_of_ble_eq_true rfl) dL_holds_456 ⟨Nat.zero_le _, Nat.zero_le _⟩ (fun r117 M116 H locs h hP hS => ?_)
          refine lv_iload_n hx hb dL_holds_459 rfl (lv_at hl 3 rfl) ?_
          refine lv_icmp_ne (tgt := 541) hx hb dL_holds_460 (by decide) (fun c118 => ?_) (fun c118 => ?_)
          · replace h := h.1 c118
            refine lv_iconst (v := (0 : Int32)) hx hb dL_holds_541 k_iconst_0 ?_
            exact re_z hx hb hr hlocks (Or.inl rfl) hP hS h dL_holds_542
          · replace h := h.2 c118
            refine lv_aload_n hx hb dL_holds_463 rfl (lv_at hl 0 rfl) ?_
            refine lv_bipush (v := (9 : Int32)) hx hb dL_holds_464 k_bipush_9 ?_
            refine rc_Vi (As := [.int (9 : Int32)]) (rest := []) ⟨hx, hb, hml, hown, hts⟩ (mX6_count l G j0 (9 : Int32) M116 _ hk_j0 h) (cwV 1 hts (gV_X6_count q_4_11) rfl rfl rfl hdV_X6_count ⟨Nat.le_of_ble_eq_true rfl, Nat.le_of_ble_eq_true rfl⟩) hK hP hS hk_j0 (by decide) cl_6 rfl hl.1 rfl (Nat.le_of_ble_eq_true rfl) dL_holds_466 ⟨Nat.zero_le _, Nat.zero_le _⟩ (fun r120 M119 H locs h hP hS => ?_)
            refine lv_iload hx hb dL_holds_469 (lv_at hl 4 rfl) ?_
            refine lv_icmp_ne (tgt := 541) hx hb dL_holds_471 (by decide) (fun c121 => ?_) (fun c121 => ?_)
            · replace h := h.1 c121
              refine lv_iconst (v := (0 : Int32)) hx hb dL_holds_541 k_iconst_0 ?_
              exact re_z hx hb hr hlocks (Or.inl rfl) hP hS h dL_holds_542
            · replace h := h.2 c121
              refine lv_aload_n hx hb dL_holds_474 rfl (lv_at hl 0 rfl) ?_
              refine lv_bipush (v := (10 : Int32)) hx hb dL_holds_475 k_bipush_10 ?_
              refine rc_Vi (As := [.int (10 : Int32)]) (rest := []) ⟨hx, hb, hml, hown, hts⟩ (mX6_count l G j0 (10 : Int32) M119 _ hk_j0 h) (cwV 1 hts (gV_X6_count q_4_11) rfl rfl rfl hdV_X6_count ⟨Nat.le_of_ble_eq_true rfl, Nat.le_of_ble_eq_true rfl⟩) hK hP hS hk_j0 (by decide) cl_6 rfl hl.1 rfl (Nat.le_of_ble_eq_true rfl) dL_holds_477 ⟨Nat.zero_le _, Nat.zero_le _⟩ (fun r123 M122 H locs h hP hS => ?_)
              refine lv_iload hx hb dL_holds_480 (lv_at hl 5 rfl) ?_
              refine lv_icmp_ne (tgt := 541) hx hb dL_holds_482 (by decide) (fun c124 => ?_) (fun c124 => ?_)
              · replace h := h.1 c124
                refine lv_iconst (v := (0 : Int32)) hx hb dL_holds_541 k_iconst_0 ?_
                exact re_z hx hb hr hlocks (Or.inl rfl) hP hS h dL_holds_542
              · replace h := h.2 c124
                refine lv_aload_n hx hb dL_holds_485 rfl (lv_at hl 0 rfl) ?_
                refine lv_iconst (v := (4 : Int32)) hx hb dL_holds_486 k_iconst_4 ?_
                refine rc_Vi (As := [.int (4 : Int32)]) (rest := []) ⟨hx, hb, hml, hown, hts⟩ (mX6_count l G j0 (4 : Int32) M122 _ hk_j0 h) (cwV 1 hts (gV_X6_count q_4_11) rfl rfl rfl hdV_X6_count ⟨Nat.le_of_ble_eq_true rfl, Nat.le_of_ble_eq_true rfl⟩) hK hP hS hk_j0 (by decide) cl_6 rfl hl.1 rfl (Nat.le_of_ble_eq_true rfl) dL_holds_487 ⟨Nat.zero_le _, Nat.zero_le _⟩ (fun r126 M125 H locs h hP hS => ?_)
                refine lv_iload hx hb dL_holds_490 (lv_at hl 6 rfl) ?_
                refine lv_icmp_ne (tgt := 541) hx hb dL_holds_492 (by decide) (fun c127 => ?_) (fun c127 => ?_)
                · replace h := h.1 c127
                  refine lv_iconst (v := (0 : Int32)) hx hb dL_holds_541 k_iconst_0 ?_
                  exact re_z hx hb hr hlocks (Or.inl rfl) hP hS h dL_holds_542
                · replace h := h.2 c127
                  refine lv_aload_n hx hb dL_holds_495 rfl (lv_at hl 0 rfl) ?_
                  refine lv_iconst (v := (5 : Int32)) hx hb dL_holds_496 k_iconst_5 ?_
                  refine rc_Vi (As := [.int (5 : Int32)]) (rest := []) ⟨hx, hb, hml, hown, hts⟩ (mX6_count l G j0 (5 : Int32) M125 _ hk_j0 h) (cwV 1 hts (gV_X6_count q_4_11) rfl rfl rfl hdV_X6_count ⟨Nat.le_of_ble_eq_true rfl, Nat.le_of_ble_eq_true rfl⟩) hK hP hS hk_j0 (by decide) cl_6 rfl hl.1 rfl (Nat.le_of_ble_eq_true rfl) dL_holds_497 ⟨Nat.zero_le _, Nat.zero_le _⟩ (fun r129 M128 H locs h hP hS => ?_)
                  refine lv_iload hx hb dL_holds_500 (lv_at hl 7 rfl) ?_
                  refine lv_icmp_ne (tgt := 541) hx hb dL_holds_502 (by decide) (fun c130 => ?_) (fun c130 => ?_)
                  · replace h := h.1 c130
                    refine lv_iconst (v := (0 : Int32)) hx hb dL_holds_541 k_iconst_0 ?_
                    exact re_z hx hb hr hlocks (Or.inl rfl) hP hS h dL_holds_542
                  · replace h := h.2 c130
                    refine lv_aload_n hx hb dL_holds_505 rfl (lv_at hl 0 rfl) ?_
                    refine lv_iconst (v := (0 : Int32)) hx hb dL_holds_506 k_iconst_0 ?_
                    refine rc_Vi (As := [.int (0 : Int32)]) (rest := []) ⟨hx, hb, hml, hown, hts⟩ (mX6_share l G j0 (0 : Int32) M128 _ hk_j0 h) (cwV 1 hts (gV_X6_share q_9_10) rfl rfl rfl hdV_X6_share ⟨Nat.le_of_ble_eq_true rfl, Nat.le_of_ble_eq_true rfl⟩) hK hP hS hk_j0 (by decide) cl_6 rfl hl.1 rfl (Nat.le_of_ble_eq_true rfl) dL_holds_507 ⟨Nat.zero_le _, Nat.zero_le _⟩ (fun r132 M131 H locs h hP hS => ?_)
                    refine lv_ldc hx hb hown (hts _ q_4_10) dL_holds_510 ?_
                    refine lv_icmp_ne (tgt := 519) hx hb dL_holds_512 (by decide) (fun c133 => ?_) (fun c133 => ?_)
                    · replace h := h.1 c133
                      refine lv_iconst (v := (0 : Int32)) hx hb dL_holds_519 k_iconst_0 ?_
                      exact B520 _ _ _ _ _ _ hP hS (lv_sub hl [0] rfl) hk_j0 h
                    · replace h := h.2 c133
                      refine lv_iconst (v := (1 : Int32)) hx hb dL_holds_515 k_iconst_1 ?_
                      refine lv_goto (tgt := 520) hx hb dL_holds_516 (by decide) ?_
                      exact B520 _ _ _ _ _ _ hP hS (lv_sub hl [0] rfl) hk_j0 h
  have B246 : ∀ n : Nat, ∀ (M : Mm) (j0 : Nat) (x1 : Int32) (x2 : Int32) (x3 : Int32) (x4 : Int32) (x5 : Int32) (x6 : Int32) (x7 : Int32) (x8 : Int32) (x9 : Int32) (H : Heap) (locs : List Loc) (ls : Array Slot), Rp G M H → va_S (Fr G) s.heap H locs → lv_has ls 12 [(0, .ref (G.2.1 + j0)), (1, .int x1), (2, .int x2), (3, .int x3), (4, .int x4), (5, .int x5), (6, .int x6), (7, .int x7), (8, .int x8), (9, .int x9)] → kd j0 = 6 → lL_holds_246 Post n M j0 x1 x2 x3 x4 x5 x6 x7 x8 x9 → Wi p l e (headSpec wsL_holds rL_holds).room s m [.ref (G.2.1 + j0a)].toArray below meth c G Post H locs (F0 m 246 ls []) := by
    intro n
    induction n with
    | zero => intro M j0 x1 x2 x3 x4 x5 x6 x7 x8 x9 H locs ls hP hS hl hk_j0 h; exact h.elim
    | succ n ih =>
      intro M j0 x1 x2 x3 x4 x5 x6 x7 x8 x9 H locs ls hP hS hl hk_j0 h
      have hA246 := ih
      replace h : bL_holds_246 Post (lL_holds_246 Post n) M j0 x1 x2 x3 x4 x5 x6 x7 x8 x9 := h
      unfold bL_holds_246 at h
      refine lv_iload hx hb dL_holds_246 (lv_at hl 9 rfl) ?_
      refine lv_aload_n hx hb dL_holds_248 rfl (lv_at hl 0 rfl) ?_
      refine lv_iconst (v := (0 : Int32)) hx hb dL_holds_249 k_iconst_0 ?_
      refine rc_Vi (As := [.int (0 : Int32)]) (rest := [.int x9]) ⟨hx, hb, hml, hown, hts⟩ (mX6_count l G j0 (0 : Int32) M _ hk_j0 h) (cwV 1 hts (gV_X6_count q_4_11) rfl rfl rfl hdV_X6_count ⟨Nat.le_of_ble_eq_true rfl, Nat.le_of_ble_eq_true rfl⟩) hK hP hS hk_j0 (by decide) cl_6 rfl hl.1 rfl (Nat.le_of_ble_eq_true rfl) dL_holds_250 ⟨Nat.zero_le _, Nat.zero_le _⟩ (fun r65 M64 H locs h hP hS => ?_)
      refine lv_icmp_ge (tgt := 430) hx hb dL_holds_253 (by decide) (fun c66 => ?_) (fun c66 => ?_)
      · replace h := h.1 c66
        exact B430 _ _ _ _ _ _ _ _ _ _ _ _ _ hP hS (lv_sub hl [0, 1, 2, 3, 4, 5, 6, 7, 8] rfl) hk_j0 h
      · replace h := h.2 c66
        refine lv_iload hx hb dL_holds_256 (lv_at hl 8 rfl) ?_
        refine lv_if_eq (tgt := 430) hx hb dL_holds_258 (by decide) (fun c67 => ?_) (fun c67 => ?_)
        · replace h := h.1 c67
          exact B430 _ _ _ _ _ _ _ _ _ _ _ _ _ hP hS (lv_sub hl [0, 1, 2, 3, 4, 5, 6, 7, 8] rfl) hk_j0 h
        · replace h := h.2 c67
          refine lv_iload hx hb dL_holds_261 (lv_at hl 4 rfl) ?_
          refine lv_aload_n hx hb dL_holds_263 rfl (lv_at hl 0 rfl) ?_
          refine lv_iload hx hb dL_holds_264 (lv_at hl 9 rfl) ?_
          refine lv_bipush (v := (8 : Int32)) hx hb dL_holds_266 k_bipush_8 ?_
          refine rc_Vi (As := [.int x9, .int (8 : Int32)]) (rest := [.int x4]) ⟨hx, hb, hml, hown, hts⟩ (mX6_canalOf l G j0 x9 (8 : Int32) M64 _ hk_j0 h) (cwV 2 hts (gV_X6_canalOf q_8_12) rfl rfl rfl hdV_X6_canalOf ⟨Nat.le_of_ble_eq_true rfl, Nat.le_of_ble_eq_true rfl⟩) hK hP hS hk_j0 (by decide) cl_6 rfl hl.1 rfl (Nat.le_of_ble_eq_true rfl) dL_holds_268 ⟨Nat.zero_le _, Nat.zero_le _⟩ (fun r69 M68 H locs h hP hS => ?_)
          refine lv_iadd hx hb dL_holds_271 ?_
          refine lv_topi (fun x4_70 ex4_70 => ?_)
          replace h := h x4_70 ex4_70
          refine lv_istore (lv' := [(4, .int x4_70), (0, .ref (G.2.1 + j0)), (1, .int x1), (2, .int x2), (3, .int x3), (5, .int x5), (6, .int x6), (7, .int x7), (8, .int x8), (9, .int x9)]) hx hb dL_holds_272 hl (by decide) rfl (fun ls hl => ?_)
          refine lv_iload hx hb dL_holds_274 (lv_at hl 5 rfl) ?_
          refine lv_aload_n hx hb dL_holds_276 rfl (lv_at hl 1 rfl) ?_
          refine lv_iload hx hb dL_holds_277 (lv_at hl 9 rfl) ?_
          refine lv_bipush (v := (9 : Int32)) hx hb dL_holds_279 k_bipush_9 ?_
          refine rc_Vi (As := [.int x9, .int (9 : Int32)]) (rest := [.int x5]) ⟨hx, hb, hml, hown, hts⟩ (mX6_canalOf l G j0 x9 (9 : Int32) M68 _ hk_j0 h) (cwV 2 hts (gV_X6_canalOf q_8_12) rfl rfl rfl hdV_X6_canalOf ⟨Nat.le_of_ble_eq_true rfl, Nat.le_of_ble_eq_true rfl⟩) hK hP hS hk_j0 (by decide) cl_6 rfl hl.1 rfl (Nat.le_of_ble_eq_true rfl) dL_holds_281 ⟨Nat.zero_le _, Nat.zero_le _⟩ (fun r72 M71 H locs h hP hS => ?_)
          refine lv_iadd hx hb dL_holds_284 ?_
          refine lv_topi (fun x5_73 ex5_73 => ?_)
          replace h := h x5_73 ex5_73
          refine lv_istore (lv' := [(5, .int x5_73), (4, .int x4_70), (0, .ref (G.2.1 + j0)), (1, .int x1), (2, .int x2), (3, .int x3), (6, .int x6), (7, .int x7), (8, .int x8), (9, .int x9)]) hx hb dL_holds_285 hl (by decide) rfl (fun ls hl => ?_)
          refine lv_iload hx hb dL_holds_287 (lv_at hl 6 rfl) ?_
          refine lv_iload hx hb dL_holds_289 (lv_at hl 9 rfl) ?_
          refine lv_if_le (tgt := 307) hx hb dL_holds_291 (by decide) (fun c74 => ?_) (fun c74 => ?_)
          · replace h := h.1 c74
            refine lv_iconst (v := (0 : Int32)) hx hb dL_holds_307 k_iconst_0 ?_
            exact B308 _ hA246 _ _ _ _ _ _ _ _ _ _ _ _ _ _ hP hS (lv_sub hl [2, 3, 4, 5, 1, 0, 7, 9] rfl) hk_j0 h
          · replace h := h.2 c74
            refine lv_aload_n hx hb dL_holds_294 rfl (lv_at hl 2 rfl) ?_
            refine lv_iload hx hb dL_holds_295 (lv_at hl 9 rfl) ?_
            refine lv_iconst (v := (4 : Int32)) hx hb dL_holds_297 k_iconst_4 ?_
            refine rc_Vi (As := [.int x9, .int (4 : Int32)]) (rest := [.int x6]) ⟨hx, hb, hml, hown, hts⟩ (mX6_canalOf l G j0 x9 (4 : Int32) M71 _ hk_j0 h) (cwV 2 hts (gV_X6_canalOf q_8_12) rfl rfl rfl hdV_X6_canalOf ⟨Nat.le_of_ble_eq_true rfl, Nat.le_of_ble_eq_true rfl⟩) hK hP hS hk_j0 (by decide) cl_6 rfl hl.1 rfl (Nat.le_of_ble_eq_true rfl) dL_holds_298 ⟨Nat.zero_le _, Nat.zero_le _⟩ (fun r76 M75 H locs h hP hS => ?_)
            refine lv_iload hx hb dL_holds_301 (lv_at hl 9 rfl) ?_
            refine lv_ishl hx hb dL_holds_303 ?_
            refine lv_goto (tgt := 308) hx hb dL_holds_304 (by decide) ?_
            exact B308 _ hA246 _ _ _ _ _ _ _ _ _ _ _ _ _ _ hP hS (lv_sub hl [2, 3, 4, 5, 1, 0, 7, 9] rfl) hk_j0 h
  have B57 : ∀ n : Nat, ∀ (M : Mm) (j0 : Nat) (x1 : Int32) (x2 : Int32) (x3 : Int32) (x4 : Int32) (x5 : Int32) (x6 : Int32) (x7 : Int32) (x8 : Int32) (x9 : Int32) (H : Heap) (locs : List Loc) (ls : Array Slot), Rp G M H → va_S (Fr G) s.heap H locs → lv_has ls 12 [(0, .ref (G.2.1 + j0)), (1, .int x1), (2, .int x2), (3, .int x3), (4, .int x4), (5, .int x5), (6, .int x6), (7, .int x7), (8, .int x8), (9, .int x9)] → kd j0 = 6 → lL_holds_57 Post n M j0 x1 x2 x3 x4 x5 x6 x7 x8 x9 → Wi p l e (headSpec wsL_holds rL_holds).room s m [.ref (G.2.1 + j0a)].toArray below meth c G Post H locs (F0 m 57 ls []) := by
    intro n
    induction n with
    | zero => intro M j0 x1 x2 x3 x4 x5 x6 x7 x8 x9 H locs ls hP hS hl hk_j0 h; exact h.elim
    | succ n ih =>
      intro M j0 x1 x2 x3 x4 x5 x6 x7 x8 x9 H locs ls hP hS hl hk_j0 h
      have hA57 := ih
      replace h : bL_holds_57 Post (lL_holds_57 Post n) M j0 x1 x2 x3 x4 x5 x6 x7 x8 x9 := h
      unfold bL_holds_57 at h
      refine lv_iload hx hb dL_holds_57 (lv_at hl 9 rfl) ?_
      refine lv_aload_n hx hb dL_holds_59 rfl (lv_at hl 0 rfl) ?_
      refine lv_iconst (v := (1 : Int32)) hx hb dL_holds_60 k_iconst_1 ?_
      refine rc_Vi (As := [.int (1 : Int32)]) (rest := [.int x9]) ⟨hx, hb, hml, hown, hts⟩ (mX6_count l G j0 (1 : Int32) M _ hk_j0 h) (cwV 1 hts (gV_X6_count q_4_11) rfl rfl rfl hdV_X6_count ⟨Nat.le_of_ble_eq_true rfl, Nat.le_of_ble_eq_true rfl⟩) hK hP hS hk_j0 (by decide) cl_6 rfl hl.1 rfl (Nat.le_of_ble_eq_true rfl) dL_holds_61 ⟨Nat.zero_le _, Nat.zero_le _⟩ (fun r13 M12 H locs h hP hS => ?_)
      refine lv_icmp_ge (tgt := 243) hx hb dL_holds_64 (by decide) (fun c14 => ?_) (fun c14 => ?_)
      · replace h := h.1 c14
        refine lv_iconst (v := (0 : Int32)) hx hb dL_holds_243 k_iconst_0 ?_
        refine lv_istore (lv' := [(9, .int (0 : Int32)), (0, .ref (G.2.1 + j0)), (1, .int x1), (2, .int x2), (3, .int x3), (4, .int x4), (5, .int x5), (6, .int x6), (7, .int x7), (8, .int x8)]) hx hb dL_holds_244 hl (by decide) rfl (fun ls hl => ?_)
        obtain ⟨n15, h⟩ := h
        exact B246 _ _ _ _ _ _ _ _ _ _ _ _ _ _ _ hP hS (lv_sub hl [1, 2, 3, 4, 5, 6, 7, 8, 9, 0] rfl) hk_j0 h
      · replace h := h.2 c14
        refine lv_iload hx hb dL_holds_67 (lv_at hl 8 rfl) ?_
        refine lv_if_eq (tgt := 243) hx hb dL_holds_69 (by decide) (fun c16 => ?_) (fun c16 => ?_)
        · replace h := h.1 c16
          refine lv_iconst (v := (0 : Int32)) hx hb dL_holds_243 k_iconst_0 ?_
          refine lv_istore (lv' := [(9, .int (0 : Int32)), (0, .ref (G.2.1 + j0)), (1, .int x1), (2, .int x2), (3, .int x3), (4, .int x4), (5, .int x5), (6, .int x6), (7, .int x7), (8, .int x8)]) hx hb dL_holds_244 hl (by decide) rfl (fun ls hl => ?_)
          obtain ⟨n17, h⟩ := h
          exact B246 _ _ _ _ _ _ _ _ _ _ _ _ _ _ _ hP hS (lv_sub hl [1, 2, 3, 4, 5, 6, 7, 8, 9, 0] rfl) hk_j0 h
        · replace h := h.2 c16
          refine lv_aload_n hx hb dL_holds_72 rfl (lv_at hl 0 rfl) ?_
          refine lv_iload hx hb dL_holds_73 (lv_at hl 9 rfl) ?_
          refine lv_iconst (v := (4 : Int32)) hx hb dL_holds_75 k_iconst_4 ?_
          refine rc_Vi (As := [.int x9, .int (4 : Int32)]) (rest := []) ⟨hx, hb, hml, hown, hts⟩ (mX6_fieldOf l G j0 x9 (4 : Int32) M12 _ hk_j0 h) (cwV 2 hts (gV_X6_fieldOf q_6_10) rfl rfl rfl hdV_X6_fieldOf ⟨Nat.le_of_ble_eq_true rfl, Nat.le_of_ble_eq_true rfl⟩) hK hP hS hk_j0 (by decide) cl_6 rfl hl.1 rfl (Nat.le_of_ble_eq_true rfl) dL_holds_76 ⟨Nat.zero_le _, Nat.zero_le _⟩ (fun r19 M18 H locs h hP hS => ?_)
          refine lv_istore (lv' := [(10, .int r19), (0, .ref (G.2.1 + j0)), (1, .int x1), (2, .int x2), (3, .int x3), (4, .int x4), (5, .int x5), (6, .int x6), (7, .int x7), (8, .int x8), (9, .int x9)]) hx hb dL_holds_79 hl (by decide) rfl (fun ls hl => ?_)
          refine lv_iload hx hb dL_holds_81 (lv_at hl 0 rfl) ?_
          refine lv_aload_n hx hb dL_holds_83 rfl (lv_at hl 1 rfl) ?_
          refine lv_iload hx hb dL_holds_84 (lv_at hl 10 rfl) ?_
          refine lv_iconst (v := (1 : Int32)) hx hb dL_holds_86 k_iconst_1 ?_
          refine rc_Vi (As := [.int x9, .int (1 : Int32)]) (rest := [.int r19]) ⟨hx, hb, hml, hown, hts⟩ (mX6_fieldOf l G j0 x9 (1 : Int32) M18 _ hk_j0 h) (cwV 2 hts (gV_X6_fieldOf q_6_10) rfl rfl rfl hdV_X6_fieldOf ⟨Nat.le_of_ble_eq_true rfl, Nat.le_of_ble_eq_true rfl⟩) hK hP hS hk_j0 (by decide) cl_6 rfl hl.1 rfl (Nat.le_of_ble_eq_true rfl) dL_holds_87 ⟨Nat.zero_le _, Nat.zero_le _⟩ (fun r21 M20 H locs h hP hS => ?_)
          refine lv_icmp_ge (tgt := 97) hx hb dL_holds_90 (by decide) (fun c22 => ?_) (fun c22 => ?_)
          · replace h := h.1 c22
            refine lv_iconst (v := (0 : Int32)) hx hb dL_holds_97 k_iconst_0 ?_
            exact B98 _ hA57 _ _ _ _ _ _ _ _ _ _ _ _ _ _ _ hP hS (lv_sub hl [1, 2, 3, 4, 5, 6, 7, 8, 10, 0] rfl) hk_j0 h
          · replace h := h.2 c22
            refine lv_iconst (v := (1 : Int32)) hx hb dL_holds_93 k_iconst_1 ?_
            refine lv_goto (tgt := 98) hx hb dL_holds_94 (by decide) ?_
            exact B98 _ hA57 _ _ _ _ _ _ _ _ _ _ _ _ _ _ _ hP hS (lv_sub hl [1, 2, 3, 4, 5, 6, 7, 8, 10, 0] rfl) hk_j0 h
  unfold wL_holds at h
  refine lv_iconst (v := (0 : Int32)) hx hb dL_holds_0 k_iconst_0 ?_
  refine lv_istore_n (lv' := [(1, .int (0 : Int32)), (0, .ref (G.2.1 + j0a))]) hx hb dL_holds_1 rfl hl (by decide) rfl (fun ls hl => ?_)
  refine lv_iconst (v := (0 : Int32)) hx hb dL_holds_2 k_iconst_0 ?_
  refine lv_istore_n (lv' := [(2, .int (0 : Int32)), (1, .int (0 : Int32)), (0, .ref (G.2.1 + j0a))]) hx hb dL_holds_3 rfl hl (by decide) rfl (fun ls hl => ?_)
  refine lv_iconst (v := (0 : Int32)) hx hb dL_holds_4 k_iconst_0 ?_
  refine lv_istore_n (lv' := [(3, .int (0 : Int32)), (2, .int (0 : Int32)), (1, .int (0 : Int32)), (0, .ref (G.2.1 + j0a))]) hx hb dL_holds_5 rfl hl (by decide) rfl (fun ls hl => ?_)
  refine lv_iconst (v := (0 : Int32)) hx hb dL_holds_6 k_iconst_0 ?_
  refine lv_istore (lv' := [(4, .int (0 : Int32)), (3, .int (0 : Int32)), (2, .int (0 : Int32)), (1, .int (0 : Int32)), (0, .ref (G.2.1 + j0a))]) hx hb dL_holds_7 hl (by decide) rfl (fun ls hl => ?_)
  refine lv_iconst (v := (0 : Int32)) hx hb dL_holds_9 k_iconst_0 ?_
  refine lv_istore (lv' := [(5, .int (0 : Int32)), (4, .int (0 : Int32)), (3, .int (0 : Int32)), (2, .int (0 : Int32)), (1, .int (0 : Int32)), (0, .ref (G.2.1 + j0a))]) hx hb dL_holds_10 hl (by decide) rfl (fun ls hl => ?_)
  refine lv_iconst (v := (0 : Int32)) hx hb dL_holds_12 k_iconst_0 ?_
  refine lv_istore (lv' := [(6, .int (0 : Int32)), (5, .int (0 : Int32)), (4, .int (0 : Int32)), (3, .int (0 : Int32)), (2, .int (0 : Int32)), (1, .int (0 : Int32)), (0, .ref (G.2.1 + j0a))]) hx hb dL_holds_13 hl (by decide) rfl (fun ls hl => ?_)
  refine lv_iconst (v := (0 : Int32)) hx hb dL_holds_15 k_iconst_0 ?_
  refine lv_istore (lv' := [(7, .int (0 : Int32)), (6, .int (0 : Int32)), (5, .int (0 : Int32)), (4, .int (0 : Int32)), (3, .int (0 : Int32)), (2, .int (0 : Int32)), (1, .int (0 : Int32)), (0, .ref (G.2.1 + j0a))]) hx hb dL_holds_16 hl (by decide) rfl (fun ls hl => ?_)
  refine lv_aload_n hx hb dL_holds_18 rfl (lv_at hl 7 rfl) ?_
  refine lv_bipush (v := (7 : Int32)) hx hb dL_holds_19 k_bipush_7 ?_
  refine rc_Vi (As := [.int (7 : Int32)]) (rest := []) ⟨hx, hb, hml, hown, hts⟩ (mX6_count l G j0a (7 : Int32) M _ hk_j0a h) (cwV 1 hts (gV_X6_count q_4_11) rfl rfl rfl hdV_X6_count ⟨Nat.le_of_ble_eq_true rfl, Nat.le_of_ble_eq_true rfl⟩) hK hP hS hk_j0a (by decide) cl_6 rfl hl.1 rfl (Nat.le_of_ble_eq_true rfl) dL_holds_21 ⟨Nat.zero_le _, Nat.zero_le _⟩ (fun r2 M1 H locs h hP hS => ?_)
  refine lv_aload_n hx hb dL_holds_24 rfl (lv_at hl 7 rfl) ?_
  refine lv_bipush (v := (8 : Int32)) hx hb dL_holds_25 k_bipush_8 ?_
  refine rc_Vi (As := [.int (8 : Int32)]) (rest := [.int r2]) ⟨hx, hb, hml, hown, hts⟩ (mX6_count l G j0a (8 : Int32) M1 _ hk_j0a h) (cwV 1 hts (gV_X6_count q_4_11) rfl rfl rfl hdV_X6_count ⟨Nat.le_of_ble_eq_true rfl, Nat.le_of_ble_eq_true rfl⟩) hK hP hS hk_j0a (by decide) cl_6 rfl hl.1 rfl (Nat.le_of_ble_eq_true rfl) dL_holds_27 ⟨Nat.zero_le _, Nat.zero_le _⟩ (fun r4 M3 H locs h hP hS => ?_)
  refine lv_aload_n hx hb dL_holds_30 rfl (lv_at hl 7 rfl) ?_
  refine lv_bipush (v := (9 : Int32)) hx hb dL_holds_31 k_bipush_9 ?_
  refine rc_Vi (As := [.int (9 : Int32)]) (rest := [.int r4, .int r2]) ⟨hx, hb, hml, hown, hts⟩ (mX6_count l G j0a (9 : Int32) M3 _ hk_j0a h) (cwV 1 hts (gV_X6_count q_4_11) rfl rfl rfl hdV_X6_count ⟨Nat.le_of_ble_eq_true rfl, Nat.le_of_ble_eq_true rfl⟩) hK hP hS hk_j0a (by decide) cl_6 rfl hl.1 rfl (Nat.le_of_ble_eq_true rfl) dL_holds_33 ⟨Nat.zero_le _, Nat.zero_le _⟩ (fun r6 M5 H locs h hP hS => ?_)
  refine lv_iadd hx hb dL_holds_36 ?_
  refine lv_aload_n hx hb dL_holds_37 rfl (lv_at hl 7 rfl) ?_
  refine lv_bipush (v := (10 : Int32)) hx hb dL_holds_38 k_bipush_10 ?_
  refine rc_Vi (As := [.int (10 : Int32)]) (rest := [.int (r4 + r6), .int r2]) ⟨hx, hb, hml, hown, hts⟩ (mX6_count l G j0a (10 : Int32) M5 _ hk_j0a h) (cwV 1 hts (gV_X6_count q_4_11) rfl rfl rfl hdV_X6_count ⟨Nat.le_of_ble_eq_true rfl, Nat.le_of_ble_eq_true rfl⟩) hK hP hS hk_j0a (by decide) cl_6 rfl hl.1 rfl (Nat.le_of_ble_eq_true rfl) dL_holds_40 ⟨Nat.zero_le _, Nat.zero_le _⟩ (fun r8 M7 H locs h hP hS => ?_)
  refine lv_iadd hx hb dL_holds_43 ?_
  refine lv_icmp_ne (tgt := 51) hx hb dL_holds_44 (by decide) (fun c9 => ?_) (fun c9 => ?_)
  · replace h := h.1 c9
    refine lv_iconst (v := (0 : Int32)) hx hb dL_holds_51 k_iconst_0 ?_
    refine lv_istore (lv' := [(8, .int (0 : Int32)), (7, .int (0 : Int32)), (6, .int (0 : Int32)), (5, .int (0 : Int32)), (4, .int (0 : Int32)), (3, .int (0 : Int32)), (2, .int (0 : Int32)), (1, .int (0 : Int32)), (0, .ref (G.2.1 + j0a))]) hx hb dL_holds_52 hl (by decide) rfl (fun ls hl => ?_)
    refine lv_iconst (v := (0 : Int32)) hx hb dL_holds_54 k_iconst_0 ?_
    refine lv_istore (lv' := [(9, .int (0 : Int32)), (8, .int (0 : Int32)), (7, .int (0 : Int32)), (6, .int (0 : Int32)), (5, .int (0 : Int32)), (4, .int (0 : Int32)), (3, .int (0 : Int32)), (2, .int (0 : Int32)), (1, .int (0 : Int32)), (0, .ref (G.2.1 + j0a))]) hx hb dL_holds_55 hl (by decide) rfl (fun ls hl => ?_)
    obtain ⟨n10, h⟩ := h
    exact B57 _ _ _ _ _ _ _ _ _ _ _ _ _ _ _ hP hS (lv_sub hl [9, 8, 7, 6, 5, 4, 3, 2, 1, 0] rfl) hk_j0a h
  · replace h := h.2 c9
    refine lv_iconst (v := (1 : Int32)) hx hb dL_holds_47 k_iconst_1 ?_
    refine lv_goto (tgt := 52) hx hb dL_holds_48 (by decide) ?_
    refine lv_istore (lv' := [(8, .int (1 : Int32)), (7, .int (0 : Int32)), (6, .int (0 : Int32)), (5, .int (0 : Int32)), (4, .int (0 : Int32)), (3, .int (0 : Int32)), (2, .int (0 : Int32)), (1, .int (0 : Int32)), (0, .ref (G.2.1 + j0a))]) hx hb dL_holds_52 hl (by decide) rfl (fun ls hl => ?_)
    refine lv_iconst (v := (0 : Int32)) hx hb dL_holds_54 k_iconst_0 ?_
    refine lv_istore (lv' := [(9, .int (0 : Int32)), (8, .int (1 : Int32)), (7, .int (0 : Int32)), (6, .int (0 : Int32)), (5, .int (0 : Int32)), (4, .int (0 : Int32)), (3, .int (0 : Int32)), (2, .int (0 : Int32)), (1, .int (0 : Int32)), (0, .ref (G.2.1 + j0a))]) hx hb dL_holds_55 hl (by decide) rfl (fun ls hl => ?_)
    obtain ⟨n11, h⟩ := h
    exact B57 _ _ _ _ _ _ _ _ _ _ _ _ _ _ _ hP hS (lv_sub hl [9, 8, 7, 6, 5, 4, 3, 2, 1, 0] rfl) hk_j0a h
