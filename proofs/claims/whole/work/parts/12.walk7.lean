/-! the walks: each method keeps its predicate; printed by gen.py -/
set_option maxHeartbeats 4000000 in
set_option maxRecDepth 100000 in
theorem mX7_next (l : Launch) (G : Gp) (j0a : Nat) (x1a : Int32) (M : Mm) (Post : Mm → Int32 → Prop) (hk_j0a : kd j0a = 7) (h : wX7_next Post M j0a x1a) : CtI l yX7_next wsX7_next rX7_next G [.ref (G.2.1 + j0a), .int x1a] M Post := by
  refine Met.ofW (cc := cX7_next) (maxL := 5) (ret := (some .int)) (by decide) rfl ?_
  intro p e s m args below meth c s₁ B hml hv
  obtain ⟨rfl, hK, hP⟩ := hv
  have hx := B.exec
  have hb := B.bytes
  have hr := B.returns
  have hlocks := B.notSynchronized
  have hts0 := atoms_spec (ws := wsX7_next) B.pre
  have hts : ∀ w ∈ wsL_law, w.before _ s = true := fun w hw => hts0 w (List.mem_cons_of_mem _ hw)
  have hown : s.vm.findClass RX7 = some m.cls := findClass_of_methodNamed B.named
  have hS : va_S (Fr G) s.heap s.heap [] := va_S.rf
  have hl := lv_entry ([.ref (G.2.1 + j0a), .int x1a]) (n := 5) (Nat.le_of_ble_eq_true rfl)
  rw [lg_entry_eq]
  generalize (lg_sl ([.ref (G.2.1 + j0a), .int x1a]) ++ List.replicate (5 - (lg_sl ([.ref (G.2.1 + j0a), .int x1a])).length) Slot.unset).toArray = ls at hl ⊢
  have hl : lv_has ls 5 [(0, .ref (G.2.1 + j0a)), (1, .int x1a)] := hl
  have B47 : ∀ (A4 : Mm → Nat → Int32 → Int32 → Int32 → Prop) (_ : ∀ (M : Mm) (j0 : Nat) (x1 : Int32) (x2 : Int32) (x3 : Int32) (H : Heap) (locs : List Loc) (ls : Array Slot), Rp G M H → va_S (Fr G) s.heap H locs → lv_has ls 5 [(0, .ref (G.2.1 + j0)), (1, .int x1), (2, .int x2), (3, .int x3)] → kd j0 = 7 → A4 M j0 x1 x2 x3 → Wi p l e (headSpec wsX7_next rX7_next).room s m [.ref (G.2.1 + j0a), .int x1a].toArray below meth c G Post H locs (F0 m 4 ls [])), ∀ (M : Mm) (j0 : Nat) (x1 : Int32) (x2 : Int32) (x3 : Int32) (t0 : Int32) (H : Heap) (locs : List Loc) (ls : Array Slot), Rp G M H → va_S (Fr G) s.heap H locs → lv_has ls 5 [(0, .ref (G.2.1 + j0)), (1, .int x1), (2, .int x2), (3, .int x3)] → kd j0 = 7 → bX7_next_47 Post A4 M j0 x1 x2 x3 t0 → Wi p l e (headSpec wsX7_next rX7_next).room s m [.ref (G.2.1 + j0a), .int x1a].toArray below meth c G Post H locs (F0 m 47 ls [.int t0]) := by
    intro A4 hA4 M j0 x1 x2 x3 t0 H locs ls hP hS hl hk_j0 h
    unfold bX7_next_47 at h
    refine lv_istore (lv' := [(4, .int t0), (0, .ref (G.2.1 + j0)), (1, .int x1), (2, .int x2), (3, .int x3)]) hx hb dX7_next_47 hl (by decide) rfl (fun ls hl => ?_)
    refine lv_iload hx hb dX7_next_49 (lv_at hl 0 rfl) ?_
    refine lv_if_eq (tgt := 58) hx hb dX7_next_51 (by decide) (fun c10 => ?_) (fun c10 => ?_)
    · replace h := h.1 c10
      refine lv_iload_n hx hb dX7_next_58 rfl (lv_at hl 3 rfl) ?_
      refine lv_istore_n (lv' := [(2, .int x2), (4, .int t0), (0, .ref (G.2.1 + j0)), (1, .int x1), (3, .int x3)]) hx hb dX7_next_59 rfl hl (by decide) rfl (fun ls hl => ?_)
      obtain ⟨x3_11, ex3_11⟩ : ∃ y : Int32, y = x3 + (1 : Int32) := ⟨_, rfl⟩
      replace h := h x3_11 ex3_11
      refine lv_iinc (v := x3_11) (lv' := [(3, .int x3_11), (2, .int x2), (4, .int t0), (0, .ref (G.2.1 + j0)), (1, .int x1)]) hx hb dX7_next_60 hl (k := 4) rfl (by rw [ex3_11]; rfl) (by decide) rfl (fun ls hl => ?_)
      refine lv_goto (tgt := 4) hx hb dX7_next_63 (by decide) ?_
      exact hA4 _ _ _ _ _ _ _ _ hP hS (lv_sub hl [3, 4, 1, 0] rfl) hk_j0 h
    · replace h := h.2 c10
      refine lv_iload_n hx hb dX7_next_54 rfl (lv_at hl 4 rfl) ?_
      refine lv_goto (tgt := 59) hx hb dX7_next_55 (by decide) ?_
      refine lv_istore_n (lv' := [(2, .int x3), (4, .int t0), (0, .ref (G.2.1 + j0)), (1, .int x1), (3, .int x3)]) hx hb dX7_next_59 rfl hl (by decide) rfl (fun ls hl => ?_)
      obtain ⟨x3_12, ex3_12⟩ : ∃ y : Int32, y = x3 + (1 : Int32) := ⟨_, rfl⟩
      replace h := h x3_12 ex3_12
      refine lv_iinc (v := x3_12) (lv' := [(3, .int x3_12), (2, .int x3), (4, .int t0), (0, .ref (G.2.1 + j0)), (1, .int x1)]) hx hb dX7_next_60 hl (k := 4) rfl (by rw [ex3_12]; rfl) (by decide) rfl (fun ls hl => ?_)
      refine lv_goto (tgt := 4) hx hb dX7_next_63 (by decide) ?_
      exact hA4 _ _ _ _ _ _ _ _ hP hS (lv_sub hl [3, 4, 1, 0] rfl) hk_j0 h
  have B46 : ∀ (A4 : Mm → Nat → Int32 → Int32 → Int32 → Prop) (_ : ∀ (M : Mm) (j0 : Nat) (x1 : Int32) (x2 : Int32) (x3 : Int32) (H : Heap) (locs : List Loc) (ls : Array Slot), Rp G M H → va_S (Fr G) s.heap H locs → lv_has ls 5 [(0, .ref (G.2.1 + j0)), (1, .int x1), (2, .int x2), (3, .int x3)] → kd j0 = 7 → A4 M j0 x1 x2 x3 → Wi p l e (headSpec wsX7_next rX7_next).room s m [.ref (G.2.1 + j0a), .int x1a].toArray below meth c G Post H locs (F0 m 4 ls [])), ∀ (M : Mm) (j0 : Nat) (x1 : Int32) (x2 : Int32) (x3 : Int32) (H : Heap) (locs : List Loc) (ls : Array Slot), Rp G M H → va_S (Fr G) s.heap H locs → lv_has ls 5 [(0, .ref (G.2.1 + j0)), (1, .int x1), (2, .int x2), (3, .int x3)] → kd j0 = 7 → bX7_next_46 Post A4 M j0 x1 x2 x3 → Wi p l e (headSpec wsX7_next rX7_next).room s m [.ref (G.2.1 + j0a), .int x1a].toArray below meth c G Post H locs (F0 m 46 ls []) := by
    intro A4 hA4 M j0 x1 x2 x3 H locs ls hP hS hl hk_j0 h
    unfold bX7_next_46 at h
    refine lv_iconst (v := (0 : Int32)) hx hb dX7_next_46 k_iconst_0 ?_
    exact B47 _ hA4 _ _ _ _ _ _ _ _ _ hP hS (lv_sub hl [0, 1, 2, 3] rfl) hk_j0 h
  have B4 : ∀ n : Nat, ∀ (M : Mm) (j0 : Nat) (x1 : Int32) (x2 : Int32) (x3 : Int32) (H : Heap) (locs : List Loc) (ls : Array Slot), Rp G M H → va_S (Fr G) s.heap H locs → lv_has ls 5 [(0, .ref (G.2.1 + j0)), (1, .int x1), (2, .int x2), (3, .int x3)] → kd j0 = 7 → lX7_next_4 Post n M j0 x1 x2 x3 → Wi p l e (headSpec wsX7_next rX7_next).room s m [.ref (G.2.1 + j0a), .int x1a].toArray below meth c G Post H locs (F0 m 4 ls []) := by
    intro n
    induction n with
    | zero => intro M j0 x1 x2 x3 H locs ls hP hS hl hk_j0 h; exact h.elim
    | succ n ih =>
      intro M j0 x1 x2 x3 H locs ls hP hS hl hk_j0 h
      have hA4 := ih
      replace h : bX7_next_4 Post (lX7_next_4 Post n) M j0 x1 x2 x3 := h
      unfold bX7_next_4 at h
      refine lv_iload_n hx hb dX7_next_4 rfl (lv_at hl 3 rfl) ?_
      refine lv_aload_n hx hb dX7_next_5 rfl (lv_at hl 0 rfl) ?_
      refine rk_getr hx hb hts inlX7 hown hK hP hk_j0 cl_7 0 1 fq_7_0 q_4_13 rfl dX7_next_6 ?_
      refine lv_iconst (v := (1 : Int32)) hx hb dX7_next_9 k_iconst_1 ?_
      refine rk_iald hx hb hK hP (ky_7_0 hk_j0) ac_12 1 ix_1 vi_1_168 dX7_next_10 ?_
      refine lv_icmp_ge (tgt := 66) hx hb dX7_next_11 (by decide) (fun c2 => ?_) (fun c2 => ?_)
      · replace h := h.1 c2
        refine lv_iload_n hx hb dX7_next_66 rfl (lv_at hl 2 rfl) ?_
        exact re_i hx hb hr hlocks hP hS h dX7_next_67
      · replace h := h.2 c2
        refine lv_iload_n hx hb dX7_next_14 rfl (lv_at hl 1 rfl) ?_
        refine lv_iload_n hx hb dX7_next_15 rfl (lv_at hl 3 rfl) ?_
        refine lv_ishr hx hb dX7_next_16 ?_
        refine lv_iconst (v := (1 : Int32)) hx hb dX7_next_17 k_iconst_1 ?_
        refine lv_iand hx hb dX7_next_18 ?_
        refine lv_iconst (v := (1 : Int32)) hx hb dX7_next_19 k_iconst_1 ?_
        refine lv_icmp_ne (tgt := 46) hx hb dX7_next_20 (by decide) (fun c3 => ?_) (fun c3 => ?_)
        · replace h := h.1 c3
          exact B46 _ hA4 _ _ _ _ _ _ _ _ hP hS (lv_sub hl [0, 1, 2, 3] rfl) hk_j0 h
        · replace h := h.2 c3
          refine lv_iload_n hx hb dX7_next_23 rfl (lv_at hl 2 rfl) ?_
          refine lv_if_lt (tgt := 42) hx hb dX7_next_24 (by decide) (fun c4 => ?_) (fun c4 => ?_)
          · replace h := h.1 c4
            refine lv_iconst (v := (1 : Int32)) hx hb dX7_next_42 k_iconst_1 ?_
            refine lv_goto (tgt := 47) hx hb dX7_next_43 (by decide) ?_
            exact B47 _ hA4 _ _ _ _ _ _ _ _ _ hP hS (lv_sub hl [0, 1, 2, 3] rfl) hk_j0 h
          · replace h := h.2 c4
            refine lv_aload_n hx hb dX7_next_27 rfl (lv_at hl 0 rfl) ?_
            refine lv_iload_n hx hb dX7_next_28 rfl (lv_at hl 3 rfl) ?_
            refine lv_iconst (v := (3 : Int32)) hx hb dX7_next_29 k_iconst_3 ?_
            refine rc_Vi (As := [.int x3, .int (3 : Int32)]) (rest := []) ⟨hx, hb, hml, hown, hts⟩ (mX7_fi l G j0 x3 (3 : Int32) M _ hk_j0 h) (cwV 2 hts (gV_X7_fi q_14_8) rfl rfl rfl hdV_X7_fi ⟨Nat.le_of_ble_eq_true rfl, Nat.le_of_ble_eq_true rfl⟩) hK hP hS hk_j0 (by decide) cl_7 rfl hl.1 rfl (Nat.le_of_ble_eq_true rfl) dX7_next_30 ⟨Nat.zero_le _, Nat.zero_le _⟩ (fun r6 M5 H locs h hP hS => ?_)
            refine lv_aload_n hx hb dX7_next_33 rfl (lv_at hl 0 rfl) ?_
            refine lv_iload_n hx hb dX7_next_34 rfl (lv_at hl 2 rfl) ?_
            refine lv_iconst (v := (3 : Int32)) hx hb dX7_next_35 k_iconst_3 ?_
            refine rc_Vi (As := [.int x2, .int (3 : Int32)]) (rest := [.int r6]) ⟨hx, hb, hml, hown, hts⟩ (mX7_fi l G j0 x2 (3 : Int32) M5 _ hk_j0 h) (cwV 2 hts (gV_X7_fi q_14_8) rfl rfl rfl hdV_X7_fi ⟨Nat.le_of_ble_eq_true rfl, Nat.le_of_ble_eq_true rfl⟩) hK hP hS hk_j0 (by decide) cl_7 rfl hl.1 rfl (Nat.le_of_ble_eq_true rfl) dX7_next_36 ⟨Nat.zero_le _, Nat.zero_le _⟩ (fun r8 M7 H locs h hP hS => ?_)
            refine lv_icmp_ge (tgt := 46) hx hb dX7_next_39 (by decide) (fun c9 => ?_) (fun c9 => ?_)
            · replace h := h.1 c9
              exact B46 _ hA4 _ _ _ _ _ _ _ _ hP hS (lv_sub hl [0, 1, 2, 3] rfl) hk_j0 h
            · replace h := h.2 c9
              refine lv_iconst (v := (1 : Int32)) hx hb dX7_next_42 k_iconst_1 ?_
              refine lv_goto (tgt := 47) hx hb dX7_next_43 (by decide) ?_
              exact B47 _ hA4 _ _ _ _ _ _ _ _ _ hP hS (lv_sub hl [0, 1, 2, 3] rfl) hk_j0 h
  unfold wX7_next at h
  refine lv_iconst (v := (-1 : Int32)) hx hb dX7_next_0 k_iconst_m1 ?_
  refine lv_istore_n (lv' := [(2, .int (-1 : Int32)), (0, .ref (G.2.1 + j0a)), (1, .int x1a)]) hx hb dX7_next_1 rfl hl (by decide) rfl (fun ls hl => ?_)
  refine lv_iconst (v := (0 : Int32)) hx hb dX7_next_2 k_iconst_0 ?_
  refine lv_istore_n (lv' := [(3, .int (0 : Int32)), (2, .int (-1 : Int32)), (0, .ref (G.2.1 + j0a)), (1, .int x1a)]) hx hb dX7_next_3 rfl hl (by decide) rfl (fun ls hl => ?_)
  obtain ⟨n1, h⟩ := h
  exact B4 _ _ _ _ _ _ _ _ _ hP hS (lv_sub hl [2, 3, 1, 0] rfl) hk_j0a h
set_option maxHeartbeats 4000000 in
set_option maxRecDepth 100000 in
theorem mX7_serves (l : Launch) (G : Gp) (j0a : Nat) (x1a : Int32) (x2a : Int32) (M : Mm) (Post : Mm → Int32 → Prop) (hk_j0a : kd j0a = 7) (h : wX7_serves Post M j0a x1a x2a) : CtI l yX7_serves wsX7_serves rX7_serves G [.ref (G.2.1 + j0a), .int x1a, .int x2a] M Post := by
  refine Met.ofW (cc := cX7_serves) (maxL := 7) (ret := (some .int)) (by decide) rfl ?_
  intro p e s m args below meth c s₁ B hml hv
  obtain ⟨rfl, hK, hP⟩ := hv
  have hx := B.exec
  have hb := B.bytes
  have hr := B.returns
  have hlocks := B.notSynchronized
  have hts0 := atoms_spec (ws := wsX7_serves) B.pre
  have hts : ∀ w ∈ wsL_law, w.before _ s = true := fun w hw => hts0 w (List.mem_cons_of_mem _ hw)
  have hown : s.vm.findClass RX7 = some m.cls := findClass_of_methodNamed B.named
  have hS : va_S (Fr G) s.heap s.heap [] := va_S.rf
  have hl := lv_entry ([.ref (G.2.1 + j0a), .int x1a, .int x2a]) (n := 7) (Nat.le_of_ble_eq_true rfl)
  rw [lg_entry_eq]
  generalize (lg_sl ([.ref (G.2.1 + j0a), .int x1a, .int x2a]) ++ List.replicate (7 - (lg_sl ([.ref (G.2.1 + j0a), .int x1a, .int x2a])).length) Slot.unset).toArray = ls at hl ⊢
  have hl : lv_has ls 7 [(0, .ref (G.2.1 + j0a)), (1, .int x1a), (2, .int x2a)] := hl
  have B218 : ∀ (A72 : Mm → Nat → Int32 → Int32 → Int32 → Int32 → Prop) (_ : ∀ (M : Mm) (j0 : Nat) (x2 : Int32) (x3 : Int32) (x4 : Int32) (x5 : Int32) (H : Heap) (locs : List Loc) (ls : Array Slot), Rp G M H → va_S (Fr G) s.heap H locs → lv_has ls 7 [(0, .ref (G.2.1 + j0)), (2, .int x2), (3, .int x3), (4, .int x4), (5, .int x5)] → kd j0 = 7 → A72 M j0 x2 x3 x4 x5 → Wi p l e (headSpec wsX7_serves rX7_serves).room s m [.ref (G.2.1 + j0a), .int x1a, .int x2a].toArray below meth c G Post H locs (F0 m 72 ls [])), ∀ (M : Mm) (j0 : Nat) (x2 : Int32) (x3 : Int32) (x4 : Int32) (t0 : Int32) (t1 : Int32) (js2 : Nat) (H : Heap) (locs : List Loc) (ls : Array Slot), Rp G M H → va_S (Fr G) s.heap H locs → lv_has ls 7 [(0, .ref (G.2.1 + j0)), (2, .int x2), (3, .int x3), (4, .int x4)] → kd j0 = 7 → kd js2 = 12 → bX7_serves_218 Post A72 M j0 x2 x3 x4 t0 t1 js2 → Wi p l e (headSpec wsX7_serves rX7_serves).room s m [.ref (G.2.1 + j0a), .int x1a, .int x2a].toArray below meth c G Post H locs (F0 m 218 ls [.int t0, .int t1, .ref (G.2.1 + js2)]) := by
    intro A72 hA72 M j0 x2 x3 x4 t0 t1 js2 H locs ls hP hS hl hk_j0 hk_js2 h
    unfold bX7_serves_218 at h
    refine rk_iast hx hb hK hP hS hk_js2 ac_12 _ rfl h.1 dX7_serves_218 (fun M45 eM45 H locs hP hS => ?_)
    replace h := h.2
    replace h := h M45 eM45
    refine lv_aload_n hx hb dX7_serves_219 rfl (lv_at hl 0 rfl) ?_
    refine lv_iload_n hx hb dX7_serves_220 rfl (lv_at hl 2 rfl) ?_
    refine rc_Vi (As := [.int x3]) (rest := []) ⟨hx, hb, hml, hown, hts⟩ (mX7_next l G j0 x3 M45 _ hk_j0 h) (cwV 1 hts (gV_X7_next q_21_3) rfl rfl rfl hdV_X7_next ⟨Nat.le_of_ble_eq_true rfl, Nat.le_of_ble_eq_true rfl⟩) hK hP hS hk_j0 (by decide) cl_7 rfl hl.1 rfl (Nat.le_of_ble_eq_true rfl) dX7_serves_221 ⟨Nat.zero_le _, Nat.zero_le _⟩ (fun r47 M46 H locs h hP hS => ?_)
    refine lv_istore (lv' := [(5, .int r47), (0, .ref (G.2.1 + j0)), (2, .int x2), (3, .int x3), (4, .int x4)]) hx hb dX7_serves_224 hl (by decide) rfl (fun ls hl => ?_)
    refine lv_goto (tgt := 72) hx hb dX7_serves_226 (by decide) ?_
    exact hA72 _ _ _ _ _ _ _ _ _ hP hS (lv_sub hl [1, 2, 3, 4, 0] rfl) hk_j0 h
  have B210 : ∀ (A72 : Mm → Nat → Int32 → Int32 → Int32 → Int32 → Prop) (_ : ∀ (M : Mm) (j0 : Nat) (x2 : Int32) (x3 : Int32) (x4 : Int32) (x5 : Int32) (H : Heap) (locs : List Loc) (ls : Array Slot), Rp G M H → va_S (Fr G) s.heap H locs → lv_has ls 7 [(0, .ref (G.2.1 + j0)), (2, .int x2), (3, .int x3), (4, .int x4), (5, .int x5)] → kd j0 = 7 → A72 M j0 x2 x3 x4 x5 → Wi p l e (headSpec wsX7_serves rX7_serves).room s m [.ref (G.2.1 + j0a), .int x1a, .int x2a].toArray below meth c G Post H locs (F0 m 72 ls [])), ∀ (M : Mm) (j0 : Nat) (x2 : Int32) (x3 : Int32) (x4 : Int32) (x5 : Int32) (t0 : Int32) (js1 : Nat) (H : Heap) (locs : List Loc) (ls : Array Slot), Rp G M H → va_S (Fr G) s.heap H locs → lv_has ls 7 [(0, .ref (G.2.1 + j0)), (2, .int x2), (3, .int x3), (4, .int x4), (5, .int x5)] → kd j0 = 7 → kd js1 = 12 → bX7_serves_210 Post A72 M j0 x2 x3 x4 x5 t0 js1 → Wi p l e (headSpec wsX7_serves rX7_serves).room s m [.ref (G.2.1 + j0a), .int x1a, .int x2a].toArray below meth c G Post H locs (F0 m 210 ls [.int t0, .ref (G.2.1 + js1)]) := by
    intro A72 hA72 M j0 x2 x3 x4 x5 t0 js1 H locs ls hP hS hl hk_j0 hk_js1 h
    unfold bX7_serves_210 at h
    refine lv_aload_n hx hb dX7_serves_210 rfl (lv_at hl 0 rfl) ?_
    refine lv_iload hx hb dX7_serves_211 (lv_at hl 4 rfl) ?_
    refine lv_bipush (v := (6 : Int32)) hx hb dX7_serves_213 k_bipush_6 ?_
    refine rc_Vi (As := [.int x5, .int (6 : Int32)]) (rest := [.int t0, .ref (G.2.1 + js1)]) ⟨hx, hb, hml, hown, hts⟩ (mX7_fi l G j0 x5 (6 : Int32) M _ hk_j0 h) (cwV 2 hts (gV_X7_fi q_14_8) rfl rfl rfl hdV_X7_fi ⟨Nat.le_of_ble_eq_true rfl, Nat.le_of_ble_eq_true rfl⟩) hK hP hS hk_j0 (by decide) cl_7 rfl hl.1 rfl (Nat.le_of_ble_eq_true rfl) dX7_serves_215 ⟨Nat.zero_le _, Nat.zero_le _⟩ (fun r44 M43 H locs h hP hS => ?_)
    exact B218 _ hA72 _ _ _ _ _ _ _ _ _ _ _ hP hS (lv_sub hl [0, 1, 2, 3] rfl) hk_j0 hk_js1 h
  have B143 : ∀ (A72 : Mm → Nat → Int32 → Int32 → Int32 → Int32 → Prop) (_ : ∀ (M : Mm) (j0 : Nat) (x2 : Int32) (x3 : Int32) (x4 : Int32) (x5 : Int32) (H : Heap) (locs : List Loc) (ls : Array Slot), Rp G M H → va_S (Fr G) s.heap H locs → lv_has ls 7 [(0, .ref (G.2.1 + j0)), (2, .int x2), (3, .int x3), (4, .int x4), (5, .int x5)] → kd j0 = 7 → A72 M j0 x2 x3 x4 x5 → Wi p l e (headSpec wsX7_serves rX7_serves).room s m [.ref (G.2.1 + j0a), .int x1a, .int x2a].toArray below meth c G Post H locs (F0 m 72 ls [])), ∀ (M : Mm) (j0 : Nat) (x2 : Int32) (x3 : Int32) (x4 : Int32) (x5 : Int32) (t0 : Int32) (H : Heap) (locs : List Loc) (ls : Array Slot), Rp G M H → va_S (Fr G) s.heap H locs → lv_has ls 7 [(0, .ref (G.2.1 + j0)), (2, .int x2), (3, .int x3), (4, .int x4), (5, .int x5)] → kd j0 = 7 → bX7_serves_143 Post A72 M j0 x2 x3 x4 x5 t0 → Wi p l e (headSpec wsX7_serves rX7_serves).room s m [.ref (G.2.1 + j0a), .int x1a, .int x2a].toArray below meth c G Post H locs (F0 m 143 ls [.int t0]) := by
    intro A72 hA72 M j0 x2 x3 x4 x5 t0 H locs ls hP hS hl hk_j0 h
    unfold bX7_serves_143 at h
    refine lv_istore (lv' := [(6, .int t0), (0, .ref (G.2.1 + j0)), (2, .int x2), (3, .int x3), (4, .int x4), (5, .int x5)]) hx hb dX7_serves_143 hl (by decide) rfl (fun ls hl => ?_)
    refine lv_iload hx hb dX7_serves_145 (lv_at hl 4 rfl) ?_
    refine lv_iload hx hb dX7_serves_147 (lv_at hl 0 rfl) ?_
    refine lv_isub hx hb dX7_serves_149 ?_
    refine lv_topi (fun x4_37 ex4_37 => ?_)
    replace h := h x4_37 ex4_37
    refine lv_istore (lv' := [(4, .int x4_37), (6, .int t0), (0, .ref (G.2.1 + j0)), (2, .int x2), (3, .int x3), (5, .int x5)]) hx hb dX7_serves_150 hl (by decide) rfl (fun ls hl => ?_)
    refine lv_aload_n hx hb dX7_serves_152 rfl (lv_at hl 2 rfl) ?_
    refine rk_getr hx hb hts inlX7 hown hK hP hk_j0 cl_7 0 1 fq_7_0 q_4_13 rfl dX7_serves_153 ?_
    refine lv_bipush (v := (82 : Int32)) hx hb dX7_serves_156 k_bipush_82 ?_
    refine lv_bipush (v := (7 : Int32)) hx hb dX7_serves_158 k_bipush_7 ?_
    refine lv_iload hx hb dX7_serves_160 (lv_at hl 5 rfl) ?_
    refine lv_imul hx hb dX7_serves_162 ?_
    refine lv_iadd hx hb dX7_serves_163 ?_
    refine lv_iconst (v := (4 : Int32)) hx hb dX7_serves_164 k_iconst_4 ?_
    refine lv_iadd hx hb dX7_serves_165 ?_
    refine lv_dup2_11 hx hb dX7_serves_166 rfl rfl ?_
    refine rk_iald hx hb hK hP (ky_7_0 hk_j0) ac_12 _ rfl h.1 dX7_serves_167 ?_
    replace h := h.2
    refine lv_iload hx hb dX7_serves_168 (lv_at hl 1 rfl) ?_
    refine lv_iadd hx hb dX7_serves_170 ?_
    refine rk_iast hx hb hK hP hS (ky_7_0 hk_j0) ac_12 _ rfl h.1 dX7_serves_171 (fun M38 eM38 H locs hP hS => ?_)
    replace h := h.2
    replace h := h M38 eM38
    refine lv_aload_n hx hb dX7_serves_172 rfl (lv_at hl 2 rfl) ?_
    refine rk_getr hx hb hts inlX7 hown hK hP hk_j0 cl_7 0 1 fq_7_0 q_4_13 rfl dX7_serves_173 ?_
    refine lv_bipush (v := (82 : Int32)) hx hb dX7_serves_176 k_bipush_82 ?_
    refine lv_bipush (v := (7 : Int32)) hx hb dX7_serves_178 k_bipush_7 ?_
    refine lv_iload hx hb dX7_serves_180 (lv_at hl 5 rfl) ?_
    refine lv_imul hx hb dX7_serves_182 ?_
    refine lv_iadd hx hb dX7_serves_183 ?_
    refine lv_bipush (v := (6 : Int32)) hx hb dX7_serves_184 k_bipush_6 ?_
    refine lv_iadd hx hb dX7_serves_186 ?_
    refine lv_iload hx hb dX7_serves_187 (lv_at hl 1 rfl) ?_
    refine lv_if_le (tgt := 210) hx hb dX7_serves_189 (by decide) (fun c39 => ?_) (fun c39 => ?_)
    · replace h := h.1 c39
      exact B210 _ hA72 _ _ _ _ _ _ _ _ _ _ _ hP hS (lv_sub hl [2, 3, 4, 0, 5] rfl) hk_j0 (ky_7_0 hk_j0) h
    · replace h := h.2 c39
      refine lv_aload_n hx hb dX7_serves_192 rfl (lv_at hl 2 rfl) ?_
      refine lv_iload hx hb dX7_serves_193 (lv_at hl 5 rfl) ?_
      refine rc_Vi (As := [.int x5]) (rest := [.int (((82 : Int32) + ((7 : Int32) * x5)) + (6 : Int32)), .ref (G.2.1 + (j0 + 1))]) ⟨hx, hb, hml, hown, hts⟩ (mX7_wants l G j0 x5 M38 _ hk_j0 h) (cwV 1 hts (gV_X7_wants q_14_12) rfl rfl rfl hdV_X7_wants ⟨Nat.le_of_ble_eq_true rfl, Nat.le_of_ble_eq_true rfl⟩) hK hP hS hk_j0 (by decide) cl_7 rfl hl.1 rfl (Nat.le_of_ble_eq_true rfl) dX7_serves_195 ⟨Nat.zero_le _, Nat.zero_le _⟩ (fun r41 M40 H locs h hP hS => ?_)
      refine lv_if_ne (tgt := 210) hx hb dX7_serves_198 (by decide) (fun c42 => ?_) (fun c42 => ?_)
      · replace h := h.1 c42
        exact B210 _ hA72 _ _ _ _ _ _ _ _ _ _ _ hP hS (lv_sub hl [2, 3, 4, 0, 5] rfl) hk_j0 (ky_7_0 hk_j0) h
      · replace h := h.2 c42
        refine lv_aload_n hx hb dX7_serves_201 rfl (lv_at hl 2 rfl) ?_
        refine rk_getr hx hb hts inlX7 hown hK hP hk_j0 cl_7 0 1 fq_7_0 q_4_13 rfl dX7_serves_202 ?_
        refine lv_iconst (v := (5 : Int32)) hx hb dX7_serves_205 k_iconst_5 ?_
        refine rk_iald hx hb hK hP (ky_7_0 hk_j0) ac_12 5 ix_5 vi_5_168 dX7_serves_206 ?_
        refine lv_goto (tgt := 218) hx hb dX7_serves_207 (by decide) ?_
        exact B218 _ hA72 _ _ _ _ _ _ _ _ _ _ _ hP hS (lv_sub hl [2, 3, 4, 0] rfl) hk_j0 (ky_7_0 hk_j0) h
  have B127 : ∀ (A72 : Mm → Nat → Int32 → Int32 → Int32 → Int32 → Prop) (_ : ∀ (M : Mm) (j0 : Nat) (x2 : Int32) (x3 : Int32) (x4 : Int32) (x5 : Int32) (H : Heap) (locs : List Loc) (ls : Array Slot), Rp G M H → va_S (Fr G) s.heap H locs → lv_has ls 7 [(0, .ref (G.2.1 + j0)), (2, .int x2), (3, .int x3), (4, .int x4), (5, .int x5)] → kd j0 = 7 → A72 M j0 x2 x3 x4 x5 → Wi p l e (headSpec wsX7_serves rX7_serves).room s m [.ref (G.2.1 + j0a), .int x1a, .int x2a].toArray below meth c G Post H locs (F0 m 72 ls [])), ∀ (M : Mm) (j0 : Nat) (x2 : Int32) (x3 : Int32) (x4 : Int32) (x5 : Int32) (t0 : Int32) (H : Heap) (locs : List Loc) (ls : Array Slot), Rp G M H → va_S (Fr G) s.heap H locs → lv_has ls 7 [(0, .ref (G.2.1 + j0)), (2, .int x2), (3, .int x3), (4, .int x4), (5, .int x5)] → kd j0 = 7 → bX7_serves_127 Post A72 M j0 x2 x3 x4 x5 t0 → Wi p l e (headSpec wsX7_serves rX7_serves).room s m [.ref (G.2.1 + j0a), .int x1a, .int x2a].toArray below meth c G Post H locs (F0 m 127 ls [.int t0]) := by
    intro A72 hA72 M j0 x2 x3 x4 x5 t0 H locs ls hP hS hl hk_j0 h
    unfold bX7_serves_127 at h
    refine lv_istore (lv' := [(6, .int t0), (0, .ref (G.2.1 + j0)), (2, .int x2), (3, .int x3), (4, .int x4), (5, .int x5)]) hx hb dX7_serves_127 hl (by decide) rfl (fun ls hl => ?_)
    refine lv_iload hx hb dX7_serves_129 (lv_at hl 0 rfl) ?_
    refine lv_iload hx hb dX7_serves_131 (lv_at hl 4 rfl) ?_
    refine lv_icmp_le (tgt := 141) hx hb dX7_serves_133 (by decide) (fun c36 => ?_) (fun c36 => ?_)
    · replace h := h.1 c36
      refine lv_iload hx hb dX7_serves_141 (lv_at hl 0 rfl) ?_
      exact B143 _ hA72 _ _ _ _ _ _ _ _ _ _ hP hS (lv_sub hl [1, 2, 3, 4, 5] rfl) hk_j0 h
    · replace h := h.2 c36
      refine lv_iload hx hb dX7_serves_136 (lv_at hl 4 rfl) ?_
      refine lv_goto (tgt := 143) hx hb dX7_serves_138 (by decide) ?_
      exact B143 _ hA72 _ _ _ _ _ _ _ _ _ _ hP hS (lv_sub hl [1, 2, 3, 4, 5] rfl) hk_j0 h
  have B72 : ∀ n : Nat, ∀ (M : Mm) (j0 : Nat) (x2 : Int32) (x3 : Int32) (x4 : Int32) (x5 : Int32) (H : Heap) (locs : List Loc) (ls : Array Slot), Rp G M H → va_S (Fr G) s.heap H locs → lv_has ls 7 [(0, .ref (G.2.1 + j0)), (2, .int x2), (3, .int x3), (4, .int x4), (5, .int x5)] → kd j0 = 7 → lX7_serves_72 Post n M j0 x2 x3 x4 x5 → Wi p l e (headSpec wsX7_serves rX7_serves).room s m [.ref (G.2.1 + j0a), .int x1a, .int x2a].toArray below meth c G Post H locs (F0 m 72 ls []) := by
    intro n
    induction n with
    | zero => intro M j0 x2 x3 x4 x5 H locs ls hP hS hl hk_j0 h; exact h.elim
    | succ n ih =>
      intro M j0 x2 x3 x4 x5 H locs ls hP hS hl hk_j0 h
      have hA72 := ih
      replace h : bX7_serves_72 Post (lX7_serves_72 Post n) M j0 x2 x3 x4 x5 := h
      unfold bX7_serves_72 at h
      refine lv_iload hx hb dX7_serves_72 (lv_at hl 4 rfl) ?_
      refine lv_if_lt (tgt := 229) hx hb dX7_serves_74 (by decide) (fun c23 => ?_) (fun c23 => ?_)
      · replace h := h.1 c23
        refine lv_aload_n hx hb dX7_serves_229 rfl (lv_at hl 0 rfl) ?_
        refine rk_getr hx hb hts inlX7 hown hK hP hk_j0 cl_7 0 1 fq_7_0 q_4_13 rfl dX7_serves_230 ?_
        refine lv_bipush (v := (7 : Int32)) hx hb dX7_serves_233 k_bipush_7 ?_
        refine lv_dup2_11 hx hb dX7_serves_235 rfl rfl ?_
        refine rk_iald hx hb hK hP (ky_7_0 hk_j0) ac_12 7 ix_7 vi_7_168 dX7_serves_236 ?_
        refine lv_iload_n hx hb dX7_serves_237 rfl (lv_at hl 1 rfl) ?_
        refine lv_iload hx hb dX7_serves_238 (lv_at hl 3 rfl) ?_
        refine lv_isub hx hb dX7_serves_240 ?_
        refine lv_iadd hx hb dX7_serves_241 ?_
        refine rk_iast hx hb hK hP hS (ky_7_0 hk_j0) ac_12 7 ix_7 vi_7_168 dX7_serves_242 (fun M24 eM24 H locs hP hS => ?_)
        replace h := h M24 eM24
        refine lv_iload hx hb dX7_serves_243 (lv_at hl 3 rfl) ?_
        exact re_i hx hb hr hlocks hP hS h dX7_serves_245
      · replace h := h.2 c23
        refine lv_iload_n hx hb dX7_serves_77 rfl (lv_at hl 2 rfl) ?_
        refine lv_iconst (v := (1 : Int32)) hx hb dX7_serves_78 k_iconst_1 ?_
        refine lv_iload hx hb dX7_serves_79 (lv_at hl 4 rfl) ?_
        refine lv_ishl hx hb dX7_serves_81 ?_
        refine lv_iconst (v := (-1 : Int32)) hx hb dX7_serves_82 k_iconst_m1 ?_
        refine lv_ixor hx hb dX7_serves_83 ?_
        refine lv_iand hx hb dX7_serves_84 ?_
        refine lv_topi (fun x3_25 ex3_25 => ?_)
        replace h := h x3_25 ex3_25
        refine lv_istore_n (lv' := [(3, .int x3_25), (0, .ref (G.2.1 + j0)), (2, .int x2), (4, .int x4), (5, .int x5)]) hx hb dX7_serves_85 rfl hl (by decide) rfl (fun ls hl => ?_)
        refine lv_aload_n hx hb dX7_serves_86 rfl (lv_at hl 1 rfl) ?_
        refine lv_iload hx hb dX7_serves_87 (lv_at hl 4 rfl) ?_
        refine lv_iconst (v := (1 : Int32)) hx hb dX7_serves_89 k_iconst_1 ?_
        refine rc_Vi (As := [.int x5, .int (1 : Int32)]) (rest := []) ⟨hx, hb, hml, hown, hts⟩ (mX7_fi l G j0 x5 (1 : Int32) M _ hk_j0 h) (cwV 2 hts (gV_X7_fi q_14_8) rfl rfl rfl hdV_X7_fi ⟨Nat.le_of_ble_eq_true rfl, Nat.le_of_ble_eq_true rfl⟩) hK hP hS hk_j0 (by decide) cl_7 rfl hl.1 rfl (Nat.le_of_ble_eq_true rfl) dX7_serves_90 ⟨Nat.zero_le _, Nat.zero_le _⟩ (fun r27 M26 H locs h hP hS => ?_)
        refine lv_aload_n hx hb dX7_serves_93 rfl (lv_at hl 1 rfl) ?_
        refine lv_iload hx hb dX7_serves_94 (lv_at hl 4 rfl) ?_
        refine lv_iconst (v := (4 : Int32)) hx hb dX7_serves_96 k_iconst_4 ?_
        refine rc_Vi (As := [.int x5, .int (4 : Int32)]) (rest := [.int r27]) ⟨hx, hb, hml, hown, hts⟩ (mX7_fi l G j0 x5 (4 : Int32) M26 _ hk_j0 h) (cwV 2 hts (gV_X7_fi q_14_8) rfl rfl rfl hdV_X7_fi ⟨Nat.le_of_ble_eq_true rfl, Nat.le_of_ble_eq_true rfl⟩) hK hP hS hk_j0 (by decide) cl_7 rfl hl.1 rfl (Nat.le_of_ble_eq_true rfl) dX7_serves_97 ⟨Nat.zero_le _, Nat.zero_le _⟩ (fun r29 M28 H locs h hP hS => ?_)
        refine lv_isub hx hb dX7_serves_100 ?_
        refine lv_topi (fun x6_30 ex6_30 => ?_)
        replace h := h x6_30 ex6_30
        refine lv_istore (lv' := [(6, .int x6_30), (3, .int x3_25), (0, .ref (G.2.1 + j0)), (2, .int x2), (4, .int x4), (5, .int x5)]) hx hb dX7_serves_101 hl (by decide) rfl (fun ls hl => ?_)
        refine lv_iload hx hb dX7_serves_103 (lv_at hl 0 rfl) ?_
        refine lv_aload_n hx hb dX7_serves_105 rfl (lv_at hl 2 rfl) ?_
        refine lv_iload hx hb dX7_serves_106 (lv_at hl 5 rfl) ?_
        refine lv_iconst (v := (2 : Int32)) hx hb dX7_serves_108 k_iconst_2 ?_
        refine rc_Vi (As := [.int x5, .int (2 : Int32)]) (rest := [.int x6_30]) ⟨hx, hb, hml, hown, hts⟩ (mX7_fi l G j0 x5 (2 : Int32) M28 _ hk_j0 h) (cwV 2 hts (gV_X7_fi q_14_8) rfl rfl rfl hdV_X7_fi ⟨Nat.le_of_ble_eq_true rfl, Nat.le_of_ble_eq_true rfl⟩) hK hP hS hk_j0 (by decide) cl_7 rfl hl.1 rfl (Nat.le_of_ble_eq_true rfl) dX7_serves_109 ⟨Nat.zero_le _, Nat.zero_le _⟩ (fun r32 M31 H locs h hP hS => ?_)
        refine lv_icmp_le (tgt := 125) hx hb dX7_serves_112 (by decide) (fun c33 => ?_) (fun c33 => ?_)
        · replace h := h.1 c33
          refine lv_iload hx hb dX7_serves_125 (lv_at hl 0 rfl) ?_
          exact B127 _ hA72 _ _ _ _ _ _ _ _ _ _ hP hS (lv_sub hl [2, 3, 1, 4, 5] rfl) hk_j0 h
        · replace h := h.2 c33
          refine lv_aload_n hx hb dX7_serves_115 rfl (lv_at hl 2 rfl) ?_
          refine lv_iload hx hb dX7_serves_116 (lv_at hl 5 rfl) ?_
          refine lv_iconst (v := (2 : Int32)) hx hb dX7_serves_118 k_iconst_2 ?_
          refine rc_Vi (As := [.int x5, .int (2 : Int32)]) (rest := []) ⟨hx, hb, hml, hown, hts⟩ (mX7_fi l G j0 x5 (2 : Int32) M31 _ hk_j0 h) (cwV 2 hts (gV_X7_fi q_14_8) rfl rfl rfl hdV_X7_fi ⟨Nat.le_of_ble_eq_true rfl, Nat.le_of_ble_eq_true rfl⟩) hK hP hS hk_j0 (by decide) cl_7 rfl hl.1 rfl (Nat.le_of_ble_eq_true rfl) dX7_serves_119 ⟨Nat.zero_le _, Nat.zero_le _⟩ (fun r35 M34 H locs h hP hS => ?_)
          refine lv_goto (tgt := 127) hx hb dX7_serves_122 (by decide) ?_
          exact B127 _ hA72 _ _ _ _ _ _ _ _ _ _ hP hS (lv_sub hl [2, 3, 1, 4, 5] rfl) hk_j0 h
  have B5 : ∀ n : Nat, ∀ (M : Mm) (j0 : Nat) (x1 : Int32) (x2 : Int32) (x3 : Int32) (x4 : Int32) (H : Heap) (locs : List Loc) (ls : Array Slot), Rp G M H → va_S (Fr G) s.heap H locs → lv_has ls 7 [(0, .ref (G.2.1 + j0)), (1, .int x1), (2, .int x2), (3, .int x3), (4, .int x4)] → kd j0 = 7 → lX7_serves_5 Post n M j0 x1 x2 x3 x4 → Wi p l e (headSpec wsX7_serves rX7_serves).room s m [.ref (G.2.1 + j0a), .int x1a, .int x2a].toArray below meth c G Post H locs (F0 m 5 ls []) := by
    intro n
    induction n with
    | zero => intro M j0 x1 x2 x3 x4 H locs ls hP hS hl hk_j0 h; exact h.elim
    | succ n ih =>
      intro M j0 x1 x2 x3 x4 H locs ls hP hS hl hk_j0 h
      have hA5 := ih
      replace h : bX7_serves_5 Post (lX7_serves_5 Post n) M j0 x1 x2 x3 x4 := h
      unfold bX7_serves_5 at h
      refine lv_iload hx hb dX7_serves_5 (lv_at hl 4 rfl) ?_
      refine lv_aload_n hx hb dX7_serves_7 rfl (lv_at hl 0 rfl) ?_
      refine rk_getr hx hb hts inlX7 hown hK hP hk_j0 cl_7 0 1 fq_7_0 q_4_13 rfl dX7_serves_8 ?_
      refine lv_iconst (v := (1 : Int32)) hx hb dX7_serves_11 k_iconst_1 ?_
      refine rk_iald hx hb hK hP (ky_7_0 hk_j0) ac_12 1 ix_1 vi_1_168 dX7_serves_12 ?_
      refine lv_icmp_ge (tgt := 62) hx hb dX7_serves_13 (by decide) (fun c2 => ?_) (fun c2 => ?_)
      · replace h := h.1 c2
        refine lv_iload_n hx hb dX7_serves_62 rfl (lv_at hl 2 rfl) ?_
        refine lv_istore (lv' := [(4, .int x2), (0, .ref (G.2.1 + j0)), (1, .int x1), (2, .int x2), (3, .int x3)]) hx hb dX7_serves_63 hl (by decide) rfl (fun ls hl => ?_)
        refine lv_aload_n hx hb dX7_serves_65 rfl (lv_at hl 1 rfl) ?_
        refine lv_iload_n hx hb dX7_serves_66 rfl (lv_at hl 4 rfl) ?_
        refine rc_Vi (As := [.int x3]) (rest := []) ⟨hx, hb, hml, hown, hts⟩ (mX7_next l G j0 x3 M _ hk_j0 h) (cwV 1 hts (gV_X7_next q_21_3) rfl rfl rfl hdV_X7_next ⟨Nat.le_of_ble_eq_true rfl, Nat.le_of_ble_eq_true rfl⟩) hK hP hS hk_j0 (by decide) cl_7 rfl hl.1 rfl (Nat.le_of_ble_eq_true rfl) dX7_serves_67 ⟨Nat.zero_le _, Nat.zero_le _⟩ (fun r4 M3 H locs h hP hS => ?_)
        refine lv_istore (lv' := [(5, .int r4), (4, .int x2), (0, .ref (G.2.1 + j0)), (1, .int x1), (2, .int x2), (3, .int x3)]) hx hb dX7_serves_70 hl (by decide) rfl (fun ls hl => ?_)
        obtain ⟨n5, h⟩ := h
        exact B72 _ _ _ _ _ _ _ _ _ _ hP hS (lv_sub hl [2, 4, 5, 1, 0] rfl) hk_j0 h
      · replace h := h.2 c2
        refine lv_iload_n hx hb dX7_serves_16 rfl (lv_at hl 3 rfl) ?_
        refine lv_aload_n hx hb dX7_serves_17 rfl (lv_at hl 0 rfl) ?_
        refine lv_iload hx hb dX7_serves_18 (lv_at hl 4 rfl) ?_
        refine lv_iconst (v := (0 : Int32)) hx hb dX7_serves_20 k_iconst_0 ?_
        refine rc_Vi (As := [.int x4, .int (0 : Int32)]) (rest := [.int x3]) ⟨hx, hb, hml, hown, hts⟩ (mX7_fi l G j0 x4 (0 : Int32) M _ hk_j0 h) (cwV 2 hts (gV_X7_fi q_14_8) rfl rfl rfl hdV_X7_fi ⟨Nat.le_of_ble_eq_true rfl, Nat.le_of_ble_eq_true rfl⟩) hK hP hS hk_j0 (by decide) cl_7 rfl hl.1 rfl (Nat.le_of_ble_eq_true rfl) dX7_serves_21 ⟨Nat.zero_le _, Nat.zero_le _⟩ (fun r7 M6 H locs h hP hS => ?_)
        refine lv_iload_n hx hb dX7_serves_24 rfl (lv_at hl 1 rfl) ?_
        refine lv_icmp_ne (tgt := 53) hx hb dX7_serves_25 (by decide) (fun c8 => ?_) (fun c8 => ?_)
        · replace h := h.1 c8
          refine lv_iconst (v := (0 : Int32)) hx hb dX7_serves_53 k_iconst_0 ?_
          refine lv_ior hx hb dX7_serves_54 ?_
          refine lv_topi (fun x3_9 ex3_9 => ?_)
          replace h := h x3_9 ex3_9
          refine lv_istore_n (lv' := [(3, .int x3_9), (0, .ref (G.2.1 + j0)), (1, .int x1), (2, .int x2), (4, .int x4)]) hx hb dX7_serves_55 rfl hl (by decide) rfl (fun ls hl => ?_)
          obtain ⟨x4_10, ex4_10⟩ : ∃ y : Int32, y = x4 + (1 : Int32) := ⟨_, rfl⟩
          replace h := h x4_10 ex4_10
          refine lv_iinc (v := x4_10) (lv' := [(4, .int x4_10), (3, .int x3_9), (0, .ref (G.2.1 + j0)), (1, .int x1), (2, .int x2)]) hx hb dX7_serves_56 hl (k := 4) rfl (by rw [ex4_10]; rfl) (by decide) rfl (fun ls hl => ?_)
          refine lv_goto (tgt := 5) hx hb dX7_serves_59 (by decide) ?_
          exact hA5 _ _ _ _ _ _ _ _ _ hP hS (lv_sub hl [2, 3, 4, 1, 0] rfl) hk_j0 h
        · replace h := h.2 c8
          refine lv_aload_n hx hb dX7_serves_28 rfl (lv_at hl 0 rfl) ?_
          refine lv_iload hx hb dX7_serves_29 (lv_at hl 4 rfl) ?_
          refine rc_Vi (As := [.int x4]) (rest := [.int x3]) ⟨hx, hb, hml, hown, hts⟩ (mX7_wants l G j0 x4 M6 _ hk_j0 h) (cwV 1 hts (gV_X7_wants q_14_12) rfl rfl rfl hdV_X7_wants ⟨Nat.le_of_ble_eq_true rfl, Nat.le_of_ble_eq_true rfl⟩) hK hP hS hk_j0 (by decide) cl_7 rfl hl.1 rfl (Nat.le_of_ble_eq_true rfl) dX7_serves_31 ⟨Nat.zero_le _, Nat.zero_le _⟩ (fun r12 M11 H locs h hP hS => ?_)
          refine lv_if_eq (tgt := 53) hx hb dX7_serves_34 (by decide) (fun c13 => ?_) (fun c13 => ?_)
          · replace h := h.1 c13
            refine lv_iconst (v := (0 : Int32)) hx hb dX7_serves_53 k_iconst_0 ?_
            refine lv_ior hx hb dX7_serves_54 ?_
            refine lv_topi (fun x3_14 ex3_14 => ?_)
            replace h := h x3_14 ex3_14
            refine lv_istore_n (lv' := [(3, .int x3_14), (0, .ref (G.2.1 + j0)), (1, .int x1), (2, .int x2), (4, .int x4)]) hx hb dX7_serves_55 rfl hl (by decide) rfl (fun ls hl => ?_)
            obtain ⟨x4_15, ex4_15⟩ : ∃ y : Int32, y = x4 + (1 : Int32) := ⟨_, rfl⟩
            replace h := h x4_15 ex4_15
            refine lv_iinc (v := x4_15) (lv' := [(4, .int x4_15), (3, .int x3_14), (0, .ref (G.2.1 + j0)), (1, .int x1), (2, .int x2)]) hx hb dX7_serves_56 hl (k := 4) rfl (by rw [ex4_15]; rfl) (by decide) rfl (fun ls hl => ?_)
            refine lv_goto (tgt := 5) hx hb dX7_serves_59 (by decide) ?_
            exact hA5 _ _ _ _ _ _ _ _ _ hP hS (lv_sub hl [2, 3, 4, 1, 0] rfl) hk_j0 h
          · replace h := h.2 c13
            refine lv_aload_n hx hb dX7_serves_37 rfl (lv_at hl 0 rfl) ?_
            refine lv_iload hx hb dX7_serves_38 (lv_at hl 4 rfl) ?_
            refine rc_Vi (As := [.int x4]) (rest := [.int x3]) ⟨hx, hb, hml, hown, hts⟩ (mX7_mayTake l G j0 x4 M11 _ hk_j0 h) (cwV 1 hts (gV_X7_mayTake q_20_19) rfl rfl rfl hdV_X7_mayTake ⟨Nat.le_of_ble_eq_true rfl, Nat.le_of_ble_eq_true rfl⟩) hK hP hS hk_j0 (by decide) cl_7 rfl hl.1 rfl (Nat.le_of_ble_eq_true rfl) dX7_serves_40 ⟨Nat.zero_le _, Nat.zero_le _⟩ (fun r17 M16 H locs h hP hS => ?_)
            refine lv_if_eq (tgt := 53) hx hb dX7_serves_43 (by decide) (fun c18 => ?_) (fun c18 => ?_)
            · replace h := h.1 c18
              refine lv_iconst (v := (0 : Int32)) hx hb dX7_serves_53 k_iconst_0 ?_
              refine lv_ior hx hb dX7_serves_54 ?_
              refine lv_topi (fun x3_19 ex3_19 => ?_)
              replace h := h x3_19 ex3_19
              refine lv_istore_n (lv' := [(3, .int x3_19), (0, .ref (G.2.1 + j0)), (1, .int x1), (2, .int x2), (4, .int x4)]) hx hb dX7_serves_55 rfl hl (by decide) rfl (fun ls hl => ?_)
              obtain ⟨x4_20, ex4_20⟩ : ∃ y : Int32, y = x4 + (1 : Int32) := ⟨_, rfl⟩
              replace h := h x4_20 ex4_20
              refine lv_iinc (v := x4_20) (lv' := [(4, .int x4_20), (3, .int x3_19), (0, .ref (G.2.1 + j0)), (1, .int x1), (2, .int x2)]) hx hb dX7_serves_56 hl (k := 4) rfl (by rw [ex4_20]; rfl) (by decide) rfl (fun ls hl => ?_)
              refine lv_goto (tgt := 5) hx hb dX7_serves_59 (by decide) ?_
              exact hA5 _ _ _ _ _ _ _ _ _ hP hS (lv_sub hl [2, 3, 4, 1, 0] rfl) hk_j0 h
            · replace h := h.2 c18
              refine lv_iconst (v := (1 : Int32)) hx hb dX7_serves_46 k_iconst_1 ?_
              refine lv_iload hx hb dX7_serves_47 (lv_at hl 4 rfl) ?_
              refine lv_ishl hx hb dX7_serves_49 ?_
              refine lv_goto (tgt := 54) hx hb dX7_serves_50 (by decide) ?_
              refine lv_ior hx hb dX7_serves_54 ?_
              refine lv_topi (fun x3_21 ex3_21 => ?_)
              replace h := h x3_21 ex3_21
              refine lv_istore_n (lv' := [(3, .int x3_21), (0, .ref (G.2.1 + j0)), (1, .int x1), (2, .int x2), (4, .int x4)]) hx hb dX7_serves_55 rfl hl (by decide) rfl (fun ls hl => ?_)
              obtain ⟨x4_22, ex4_22⟩ : ∃ y : Int32, y = x4 + (1 : Int32) := ⟨_, rfl⟩
              replace h := h x4_22 ex4_22
              refine lv_iinc (v := x4_22) (lv' := [(4, .int x4_22), (3, .int x3_21), (0, .ref (G.2.1 + j0)), (1, .int x1), (2, .int x2)]) hx hb dX7_serves_56 hl (k := 4) rfl (by rw [ex4_22]; rfl) (by decide) rfl (fun ls hl => ?_)
              refine lv_goto (tgt := 5) hx hb dX7_serves_59 (by decide) ?_
              exact hA5 _ _ _ _ _ _ _ _ _ hP hS (lv_sub hl [2, 3, 4, 1, 0] rfl) hk_j0 h
  unfold wX7_serves at h
  refine lv_iconst (v := (0 : Int32)) hx hb dX7_serves_0 k_iconst_0 ?_
  refine lv_istore_n (lv' := [(3, .int (0 : Int32)), (0, .ref (G.2.1 + j0a)), (1, .int x1a), (2, .int x2a)]) hx hb dX7_serves_1 rfl hl (by decide) rfl (fun ls hl => ?_)
  refine lv_iconst (v := (0 : Int32)) hx hb dX7_serves_2 k_iconst_0 ?_
  refine lv_istore (lv' := [(4, .int (0 : Int32)), (3, .int (0 : Int32)), (0, .ref (G.2.1 + j0a)), (1, .int x1a), (2, .int x2a)]) hx hb dX7_serves_3 hl (by decide) rfl (fun ls hl => ?_)
  obtain ⟨n1, h⟩ := h
  exact B5 _ _ _ _ _ _ _ _ _ _ hP hS (lv_sub hl [2, 3, 4, 1, 0] rfl) hk_j0a h
set_option maxHeartbeats 4000000 in
set_option maxRecDepth 100000 in
theorem mX7_lets (l : Launch) (G : Gp) (j0a : Nat) (x1a : Int32) (x2a : Int32) (M : Mm) (Post : Mm → Int32 → Prop) (hk_j0a : kd j0a = 7) (h : wX7_lets Post M j0a x1a x2a) : CtI l yX7_lets wsX7_lets rX7_lets G [.ref (G.2.1 + j0a), .int x1a, .int x2a] M Post := by
  refine Met.ofW (cc := cX7_lets) (maxL := 3) (ret := (some .boolean)) (by decide) rfl ?_
  intro p e s m args below meth c s₁ B hml hv
  obtain ⟨rfl, hK, hP⟩ := hv
  have hx := B.exec
  have hb := B.bytes
  have hr := B.returns
  have hlocks := B.notSynchronized
  have hts0 := atoms_spec (ws := wsX7_lets) B.pre
  have hts : ∀ w ∈ wsL_law, w.before _ s = true := fun w hw => hts0 w (List.mem_cons_of_mem _ hw)
  have hown : s.vm.findClass RX7 = some m.cls := findClass_of_methodNamed B.named
  have hS : va_S (Fr G) s.heap s.heap [] := va_S.rf
  have hl := lv_entry ([.ref (G.2.1 + j0a), .int x1a, .int x2a]) (n := 3) (Nat.le_of_ble_eq_true rfl)
  rw [lg_entry_eq]
  generalize (lg_sl ([.ref (G.2.1 + j0a), .int x1a, .int x2a]) ++ List.replicate (3 - (lg_sl ([.ref (G.2.1 + j0a), .int x1a, .int x2a])).length) Slot.unset).toArray = ls at hl ⊢
  have hl : lv_has ls 3 [(0, .ref (G.2.1 + j0a)), (1, .int x1a), (2, .int x2a)] := hl
  unfold wX7_lets at h
  refine lv_aload_n hx hb dX7_lets_0 rfl (lv_at hl 0 rfl) ?_
  refine lv_iload_n hx hb dX7_lets_1 rfl (lv_at hl 1 rfl) ?_
  refine lv_iconst (v := (0 : Int32)) hx hb dX7_lets_2 k_iconst_0 ?_
  refine rc_Vi (As := [.int x1a, .int (0 : Int32)]) (rest := []) ⟨hx, hb, hml, hown, hts⟩ (mX7_ca l G j0a x1a (0 : Int32) M _ hk_j0a h) (cwV 2 hts (gV_X7_ca q_10_4) rfl rfl rfl hdV_X7_ca ⟨Nat.le_of_ble_eq_true rfl, Nat.le_of_ble_eq_true rfl⟩) hK hP hS hk_j0a (by decide) cl_7 rfl hl.1 rfl (Nat.le_of_ble_eq_true rfl) dX7_lets_3 ⟨Nat.zero_le _, Nat.zero_le _⟩ (fun r2 M1 H locs h hP hS => ?_)
  refine lv_iload_n hx hb dX7_lets_6 rfl (lv_at hl 2 rfl) ?_
  refine lv_icmp_ne (tgt := 42) hx hb dX7_lets_7 (by decide) (fun c3 => ?_) (fun c3 => ?_)
  · replace h := h.1 c3
    refine lv_iconst (v := (0 : Int32)) hx hb dX7_lets_42 k_iconst_0 ?_
    exact re_z hx hb hr hlocks (Or.inl rfl) hP hS h dX7_lets_43
  · replace h := h.2 c3
    refine lv_aload_n hx hb dX7_lets_10 rfl (lv_at hl 0 rfl) ?_
    refine lv_iload_n hx hb dX7_lets_11 rfl (lv_at hl 1 rfl) ?_
    refine lv_iconst (v := (4 : Int32)) hx hb dX7_lets_12 k_iconst_4 ?_
    refine rc_Vi (As := [.int x1a, .int (4 : Int32)]) (rest := []) ⟨hx, hb, hml, hown, hts⟩ (mX7_ca l G j0a x1a (4 : Int32) M1 _ hk_j0a h) (cwV 2 hts (gV_X7_ca q_10_4) rfl rfl rfl hdV_X7_ca ⟨Nat.le_of_ble_eq_true rfl, Nat.le_of_ble_eq_true rfl⟩) hK hP hS hk_j0a (by decide) cl_7 rfl hl.1 rfl (Nat.le_of_ble_eq_true rfl) dX7_lets_13 ⟨Nat.zero_le _, Nat.zero_le _⟩ (fun r5 M4 H locs h hP hS => ?_)
    refine lv_iconst (v := (1 : Int32)) hx hb dX7_lets_16 k_iconst_1 ?_
    refine lv_icmp_ne (tgt := 42) hx hb dX7_lets_17 (by decide) (fun c6 => ?_) (fun c6 => ?_)
    · replace h := h.1 c6
      refine lv_iconst (v := (0 : Int32)) hx hb dX7_lets_42 k_iconst_0 ?_
      exact re_z hx hb hr hlocks (Or.inl rfl) hP hS h dX7_lets_43
    · replace h := h.2 c6
      refine lv_aload_n hx hb dX7_lets_20 rfl (lv_at hl 0 rfl) ?_
      refine lv_iload_n hx hb dX7_lets_21 rfl (lv_at hl 1 rfl) ?_
      refine lv_iconst (v := (1 : Int32)) hx hb dX7_lets_22 k_iconst_1 ?_
      refine rc_Vi (As := [.int x1a, .int (1 : Int32)]) (rest := []) ⟨hx, hb, hml, hown, hts⟩ (mX7_ca l G j0a x1a (1 : Int32) M4 _ hk_j0a h) (cwV 2 hts (gV_X7_ca q_10_4) rfl rfl rfl hdV_X7_ca ⟨Nat.le_of_ble_eq_true rfl, Nat.le_of_ble_eq_true rfl⟩) hK hP hS hk_j0a (by decide) cl_7 rfl hl.1 rfl (Nat.le_of_ble_eq_true rfl) dX7_lets_23 ⟨Nat.zero_le _, Nat.zero_le _⟩ (fun r8 M7 H locs h hP hS => ?_)
      refine lv_iconst (v := (2 : Int32)) hx hb dX7_lets_26 k_iconst_2 ?_
      refine lv_icmp_ne (tgt := 38) hx hb dX7_lets_27 (by decide) (fun c9 => ?_) (fun c9 => ?_)
      · replace h := h.1 c9
        refine lv_iconst (v := (1 : Int32)) hx hb dX7_lets_38 k_iconst_1 ?_
        refine lv_goto (tgt := 43) hx hb dX7_lets_39 (by decide) ?_
        exact re_z hx hb hr hlocks (Or.inr rfl) hP hS h dX7_lets_43
      · replace h := h.2 c9
        refine lv_aload_n hx hb dX7_lets_30 rfl (lv_at hl 0 rfl) ?_
        refine lv_iload_n hx hb dX7_lets_31 rfl (lv_at hl 1 rfl) ?_
        refine rc_Vi (As := [.int x1a]) (rest := []) ⟨hx, hb, hml, hown, hts⟩ (mX7_isWanted l G j0a x1a M7 _ hk_j0a h) (cwV 1 hts (gV_X7_isWanted q_21_15) rfl rfl rfl hdV_X7_isWanted ⟨Nat.le_of_ble_eq_true rfl, Nat.le_of_ble_eq_true rfl⟩) hK hP hS hk_j0a (by decide) cl_7 rfl hl.1 rfl (Nat.le_of_ble_eq_true rfl) dX7_lets_32 ⟨Nat.zero_le _, Nat.zero_le _⟩ (fun r11 M10 H locs h hP hS => ?_)
        refine lv_if_eq (tgt := 42) hx hb dX7_lets_35 (by decide) (fun c12 => ?_) (fun c12 => ?_)
        · replace h := h.1 c12
          refine lv_iconst (v := (0 : Int32)) hx hb dX7_lets_42 k_iconst_0 ?_
          exact re_z hx hb hr hlocks (Or.inl rfl) hP hS h dX7_lets_43
        · replace h := h.2 c12
          refine lv_iconst (v := (1 : Int32)) hx hb dX7_lets_38 k_iconst_1 ?_
          refine lv_goto (tgt := 43) hx hb dX7_lets_39 (by decide) ?_
          exact re_z hx hb hr hlocks (Or.inr rfl) hP hS h dX7_lets_43
set_option maxHeartbeats 4000000 in
set_option maxRecDepth 100000 in
theorem mX7_parts (l : Launch) (G : Gp) (j0a : Nat) (x1a : Int32) (x2a : Int32) (M : Mm) (Post : Mm → Int32 → Prop) (hk_j0a : kd j0a = 7) (h : wX7_parts Post M j0a x1a x2a) : CtI l yX7_parts wsX7_parts rX7_parts G [.ref (G.2.1 + j0a), .int x1a, .int x2a] M Post := by
  refine Met.ofW (cc := cX7_parts) (maxL := 8) (ret := (some .int)) (by decide) rfl ?_
  intro p e s m args below meth c s₁ B hml hv
  obtain ⟨rfl, hK, hP⟩ := hv
  have hx := B.exec
  have hb := B.bytes
  have hr := B.returns
  have hlocks := B.notSynchronized
  have hts0 := atoms_spec (ws := wsX7_parts) B.pre
  have hts : ∀ w ∈ wsL_law, w.before _ s = true := fun w hw => hts0 w (List.mem_cons_of_mem _ hw)
  have hown : s.vm.findClass RX7 = some m.cls := findClass_of_methodNamed B.named
  have hS : va_S (Fr G) s.heap s.heap [] := va_S.rf
  have hl := lv_entry ([.ref (G.2.1 + j0a), .int x1a, .int x2a]) (n := 8) (Nat.le_of_ble_eq_true rfl)
  rw [lg_entry_eq]
  generalize (lg_sl ([.ref (G.2.1 + j0a), .int x1a, .int x2a]) ++ List.replicate (8 - (lg_sl ([.ref (G.2.1 + j0a), .int x1a, .int x2a])).length) Slot.unset).toArray = ls at hl ⊢
  have hl : lv_has ls 8 [(0, .ref (G.2.1 + j0a)), (1, .int x1a), (2, .int x2a)] := hl
  have B163 : ∀ (A63 : Mm → Nat → Int32 → Int32 → Int32 → Int32 → Int32 → Int32 → Prop) (_ : ∀ (M : Mm) (j0 : Nat) (x1 : Int32) (x2 : Int32) (x3 : Int32) (x4 : Int32) (x5 : Int32) (x6 : Int32) (H : Heap) (locs : List Loc) (ls : Array Slot), Rp G M H → va_S (Fr G) s.heap H locs → lv_has ls 8 [(0, .ref (G.2.1 + j0)), (1, .int x1), (2, .int x2), (3, .int x3), (4, .int x4), (5, .int x5), (6, .int x6)] → kd j0 = 7 → A63 M j0 x1 x2 x3 x4 x5 x6 → Wi p l e (headSpec wsX7_parts rX7_parts).room s m [.ref (G.2.1 + j0a), .int x1a, .int x2a].toArray below meth c G Post H locs (F0 m 63 ls [])), ∀ (M : Mm) (j0 : Nat) (x1 : Int32) (x2 : Int32) (x3 : Int32) (x4 : Int32) (x5 : Int32) (x6 : Int32) (t0 : Int32) (H : Heap) (locs : List Loc) (ls : Array Slot), Rp G M H → va_S (Fr G) s.heap H locs → lv_has ls 8 [(0, .ref (G.2.1 + j0)), (1, .int x1), (2, .int x2), (3, .int x3), (4, .int x4), (5, .int x5), (6, .int x6)] → kd j0 = 7 → bX7_parts_163 Post A63 M j0 x1 x2 x3 x4 x5 x6 t0 → Wi p l e (headSpec wsX7_parts rX7_parts).room s m [.ref (G.2.1 + j0a), .int x1a, .int x2a].toArray below meth c G Post H locs (F0 m 163 ls [.int t0]) := by
    intro A63 hA63 M j0 x1 x2 x3 x4 x5 x6 t0 H locs ls hP hS hl hk_j0 h
    unfold bX7_parts_163 at h
    refine lv_istore (lv' := [(7, .int t0), (0, .ref (G.2.1 + j0)), (1, .int x1), (2, .int x2), (3, .int x3), (4, .int x4), (5, .int x5), (6, .int x6)]) hx hb dX7_parts_163 hl (by decide) rfl (fun ls hl => ?_)
    refine lv_aload_n hx hb dX7_parts_165 rfl (lv_at hl 1 rfl) ?_
    refine rk_getr hx hb hts inlX7 hown hK hP hk_j0 cl_7 0 1 fq_7_0 q_4_13 rfl dX7_parts_166 ?_
    refine lv_bipush (v := (10 : Int32)) hx hb dX7_parts_169 k_bipush_10 ?_
    refine lv_bipush (v := (9 : Int32)) hx hb dX7_parts_171 k_bipush_9 ?_
    refine lv_iload hx hb dX7_parts_173 (lv_at hl 7 rfl) ?_
    refine lv_imul hx hb dX7_parts_175 ?_
    refine lv_iadd hx hb dX7_parts_176 ?_
    refine lv_bipush (v := (6 : Int32)) hx hb dX7_parts_177 k_bipush_6 ?_
    refine lv_iadd hx hb dX7_parts_179 ?_
    refine lv_iload hx hb dX7_parts_180 (lv_at hl 0 rfl) ?_
    refine rk_iast hx hb hK hP hS (ky_7_0 hk_j0) ac_12 _ rfl h.1 dX7_parts_182 (fun M31 eM31 H locs hP hS => ?_)
    replace h := h.2
    replace h := h M31 eM31
    refine lv_iload hx hb dX7_parts_183 (lv_at hl 5 rfl) ?_
    refine lv_iload hx hb dX7_parts_185 (lv_at hl 0 rfl) ?_
    refine lv_isub hx hb dX7_parts_187 ?_
    refine lv_topi (fun x4_32 ex4_32 => ?_)
    replace h := h x4_32 ex4_32
    refine lv_istore (lv' := [(4, .int x4_32), (7, .int t0), (0, .ref (G.2.1 + j0)), (1, .int x1), (2, .int x2), (3, .int x3), (5, .int x5), (6, .int x6)]) hx hb dX7_parts_188 hl (by decide) rfl (fun ls hl => ?_)
    obtain ⟨x6_33, ex6_33⟩ : ∃ y : Int32, y = x6 + (1 : Int32) := ⟨_, rfl⟩
    replace h := h x6_33 ex6_33
    refine lv_iinc (v := x6_33) (lv' := [(6, .int x6_33), (4, .int x4_32), (7, .int t0), (0, .ref (G.2.1 + j0)), (1, .int x1), (2, .int x2), (3, .int x3), (5, .int x5)]) hx hb dX7_parts_190 hl (k := 7) rfl (by rw [ex6_33]; rfl) (by decide) rfl (fun ls hl => ?_)
    refine lv_goto (tgt := 63) hx hb dX7_parts_193 (by decide) ?_
    exact hA63 _ _ _ _ _ _ _ _ _ _ _ hP hS (lv_sub hl [3, 4, 5, 6, 1, 7, 0] rfl) hk_j0 h
  have B137 : ∀ (A63 : Mm → Nat → Int32 → Int32 → Int32 → Int32 → Int32 → Int32 → Prop) (_ : ∀ (M : Mm) (j0 : Nat) (x1 : Int32) (x2 : Int32) (x3 : Int32) (x4 : Int32) (x5 : Int32) (x6 : Int32) (H : Heap) (locs : List Loc) (ls : Array Slot), Rp G M H → va_S (Fr G) s.heap H locs → lv_has ls 8 [(0, .ref (G.2.1 + j0)), (1, .int x1), (2, .int x2), (3, .int x3), (4, .int x4), (5, .int x5), (6, .int x6)] → kd j0 = 7 → A63 M j0 x1 x2 x3 x4 x5 x6 → Wi p l e (headSpec wsX7_parts rX7_parts).room s m [.ref (G.2.1 + j0a), .int x1a, .int x2a].toArray below meth c G Post H locs (F0 m 63 ls [])), ∀ (M : Mm) (j0 : Nat) (x1 : Int32) (x2 : Int32) (x3 : Int32) (x4 : Int32) (x5 : Int32) (x6 : Int32) (t0 : Int32) (H : Heap) (locs : List Loc) (ls : Array Slot), Rp G M H → va_S (Fr G) s.heap H locs → lv_has ls 8 [(0, .ref (G.2.1 + j0)), (1, .int x1), (2, .int x2), (3, .int x3), (4, .int x4), (5, .int x5), (6, .int x6)] → kd j0 = 7 → bX7_parts_137 Post A63 M j0 x1 x2 x3 x4 x5 x6 t0 → Wi p l e (headSpec wsX7_parts rX7_parts).room s m [.ref (G.2.1 + j0a), .int x1a, .int x2a].toArray below meth c G Post H locs (F0 m 137 ls [.int t0]) := by
    intro A63 hA63 M j0 x1 x2 x3 x4 x5 x6 t0 H locs ls hP hS hl hk_j0 h
    unfold bX7_parts_137 at h
    refine lv_istore (lv' := [(7, .int t0), (0, .ref (G.2.1 + j0)), (1, .int x1), (2, .int x2), (3, .int x3), (4, .int x4), (5, .int x5), (6, .int x6)]) hx hb dX7_parts_137 hl (by decide) rfl (fun ls hl => ?_)
    refine lv_iload hx hb dX7_parts_139 (lv_at hl 0 rfl) ?_
    refine lv_aload_n hx hb dX7_parts_141 rfl (lv_at hl 1 rfl) ?_
    refine lv_iload hx hb dX7_parts_142 (lv_at hl 7 rfl) ?_
    refine lv_iconst (v := (2 : Int32)) hx hb dX7_parts_144 k_iconst_2 ?_
    refine rc_Vi (As := [.int x6, .int (2 : Int32)]) (rest := [.int t0]) ⟨hx, hb, hml, hown, hts⟩ (mX7_ca l G j0 x6 (2 : Int32) M _ hk_j0 h) (cwV 2 hts (gV_X7_ca q_10_4) rfl rfl rfl hdV_X7_ca ⟨Nat.le_of_ble_eq_true rfl, Nat.le_of_ble_eq_true rfl⟩) hK hP hS hk_j0 (by decide) cl_7 rfl hl.1 rfl (Nat.le_of_ble_eq_true rfl) dX7_parts_145 ⟨Nat.zero_le _, Nat.zero_le _⟩ (fun r27 M26 H locs h hP hS => ?_)
    refine lv_icmp_le (tgt := 161) hx hb dX7_parts_148 (by decide) (fun c28 => ?_) (fun c28 => ?_)
    · replace h := h.1 c28
      refine lv_iload hx hb dX7_parts_161 (lv_at hl 0 rfl) ?_
      exact B163 _ hA63 _ _ _ _ _ _ _ _ _ _ _ _ hP hS (lv_sub hl [1, 2, 3, 4, 5, 6, 7] rfl) hk_j0 h
    · replace h := h.2 c28
      refine lv_aload_n hx hb dX7_parts_151 rfl (lv_at hl 1 rfl) ?_
      refine lv_iload hx hb dX7_parts_152 (lv_at hl 7 rfl) ?_
      refine lv_iconst (v := (2 : Int32)) hx hb dX7_parts_154 k_iconst_2 ?_
      refine rc_Vi (As := [.int x6, .int (2 : Int32)]) (rest := []) ⟨hx, hb, hml, hown, hts⟩ (mX7_ca l G j0 x6 (2 : Int32) M26 _ hk_j0 h) (cwV 2 hts (gV_X7_ca q_10_4) rfl rfl rfl hdV_X7_ca ⟨Nat.le_of_ble_eq_true rfl, Nat.le_of_ble_eq_true rfl⟩) hK hP hS hk_j0 (by decide) cl_7 rfl hl.1 rfl (Nat.le_of_ble_eq_true rfl) dX7_parts_155 ⟨Nat.zero_le _, Nat.zero_le _⟩ (fun r30 M29 H locs h hP hS => ?_)
      refine lv_goto (tgt := 163) hx hb dX7_parts_158 (by decide) ?_
      exact B163 _ hA63 _ _ _ _ _ _ _ _ _ _ _ _ hP hS (lv_sub hl [1, 2, 3, 4, 5, 6, 7] rfl) hk_j0 h
  have B112 : ∀ (A63 : Mm → Nat → Int32 → Int32 → Int32 → Int32 → Int32 → Int32 → Prop) (_ : ∀ (M : Mm) (j0 : Nat) (x1 : Int32) (x2 : Int32) (x3 : Int32) (x4 : Int32) (x5 : Int32) (x6 : Int32) (H : Heap) (locs : List Loc) (ls : Array Slot), Rp G M H → va_S (Fr G) s.heap H locs → lv_has ls 8 [(0, .ref (G.2.1 + j0)), (1, .int x1), (2, .int x2), (3, .int x3), (4, .int x4), (5, .int x5), (6, .int x6)] → kd j0 = 7 → A63 M j0 x1 x2 x3 x4 x5 x6 → Wi p l e (headSpec wsX7_parts rX7_parts).room s m [.ref (G.2.1 + j0a), .int x1a, .int x2a].toArray below meth c G Post H locs (F0 m 63 ls [])), ∀ (M : Mm) (j0 : Nat) (x1 : Int32) (x2 : Int32) (x3 : Int32) (x4 : Int32) (x6 : Int32) (x7 : Int32) (t0 : Int32) (t1 : Int32) (H : Heap) (locs : List Loc) (ls : Array Slot), Rp G M H → va_S (Fr G) s.heap H locs → lv_has ls 8 [(0, .ref (G.2.1 + j0)), (1, .int x1), (2, .int x2), (3, .int x3), (4, .int x4), (6, .int x6), (7, .int x7)] → kd j0 = 7 → bX7_parts_112 Post A63 M j0 x1 x2 x3 x4 x6 x7 t0 t1 → Wi p l e (headSpec wsX7_parts rX7_parts).room s m [.ref (G.2.1 + j0a), .int x1a, .int x2a].toArray below meth c G Post H locs (F0 m 112 ls [.int t0, .int t1]) := by
    intro A63 hA63 M j0 x1 x2 x3 x4 x6 x7 t0 t1 H locs ls hP hS hl hk_j0 h
    unfold bX7_parts_112 at h
    refine lv_isub hx hb dX7_parts_112 ?_
    refine lv_topi (fun x5_22 ex5_22 => ?_)
    replace h := h x5_22 ex5_22
    refine lv_istore (lv' := [(5, .int x5_22), (0, .ref (G.2.1 + j0)), (1, .int x1), (2, .int x2), (3, .int x3), (4, .int x4), (6, .int x6), (7, .int x7)]) hx hb dX7_parts_113 hl (by decide) rfl (fun ls hl => ?_)
    refine lv_aload_n hx hb dX7_parts_115 rfl (lv_at hl 1 rfl) ?_
    refine lv_iload hx hb dX7_parts_116 (lv_at hl 6 rfl) ?_
    refine lv_iconst (v := (1 : Int32)) hx hb dX7_parts_118 k_iconst_1 ?_
    refine rc_Vi (As := [.int x6, .int (1 : Int32)]) (rest := []) ⟨hx, hb, hml, hown, hts⟩ (mX7_ca l G j0 x6 (1 : Int32) M _ hk_j0 h) (cwV 2 hts (gV_X7_ca q_10_4) rfl rfl rfl hdV_X7_ca ⟨Nat.le_of_ble_eq_true rfl, Nat.le_of_ble_eq_true rfl⟩) hK hP hS hk_j0 (by decide) cl_7 rfl hl.1 rfl (Nat.le_of_ble_eq_true rfl) dX7_parts_119 ⟨Nat.zero_le _, Nat.zero_le _⟩ (fun r24 M23 H locs h hP hS => ?_)
    refine lv_iconst (v := (1 : Int32)) hx hb dX7_parts_122 k_iconst_1 ?_
    refine lv_icmp_ne (tgt := 135) hx hb dX7_parts_123 (by decide) (fun c25 => ?_) (fun c25 => ?_)
    · replace h := h.1 c25
      refine lv_iload hx hb dX7_parts_135 (lv_at hl 7 rfl) ?_
      exact B137 _ hA63 _ _ _ _ _ _ _ _ _ _ _ _ hP hS (lv_sub hl [1, 2, 3, 4, 5, 0, 6] rfl) hk_j0 h
    · replace h := h.2 c25
      refine lv_iload hx hb dX7_parts_126 (lv_at hl 7 rfl) ?_
      refine lv_iconst (v := (1 : Int32)) hx hb dX7_parts_128 k_iconst_1 ?_
      refine lv_iadd hx hb dX7_parts_129 ?_
      refine lv_iconst (v := (2 : Int32)) hx hb dX7_parts_130 k_iconst_2 ?_
      refine lv_idiv hx hb dX7_parts_131 (by decide) ?_
      refine lv_goto (tgt := 137) hx hb dX7_parts_132 (by decide) ?_
      exact B137 _ hA63 _ _ _ _ _ _ _ _ _ _ _ _ hP hS (lv_sub hl [1, 2, 3, 4, 5, 0, 6] rfl) hk_j0 h
  have B97 : ∀ (A63 : Mm → Nat → Int32 → Int32 → Int32 → Int32 → Int32 → Int32 → Prop) (_ : ∀ (M : Mm) (j0 : Nat) (x1 : Int32) (x2 : Int32) (x3 : Int32) (x4 : Int32) (x5 : Int32) (x6 : Int32) (H : Heap) (locs : List Loc) (ls : Array Slot), Rp G M H → va_S (Fr G) s.heap H locs → lv_has ls 8 [(0, .ref (G.2.1 + j0)), (1, .int x1), (2, .int x2), (3, .int x3), (4, .int x4), (5, .int x5), (6, .int x6)] → kd j0 = 7 → A63 M j0 x1 x2 x3 x4 x5 x6 → Wi p l e (headSpec wsX7_parts rX7_parts).room s m [.ref (G.2.1 + j0a), .int x1a, .int x2a].toArray below meth c G Post H locs (F0 m 63 ls [])), ∀ (M : Mm) (j0 : Nat) (x1 : Int32) (x2 : Int32) (x3 : Int32) (x4 : Int32) (x5 : Int32) (x6 : Int32) (t0 : Int32) (t1 : Int32) (H : Heap) (locs : List Loc) (ls : Array Slot), Rp G M H → va_S (Fr G) s.heap H locs → lv_has ls 8 [(0, .ref (G.2.1 + j0)), (1, .int x1), (2, .int x2), (3, .int x3), (4, .int x4), (5, .int x5), (6, .int x6)] → kd j0 = 7 → bX7_parts_97 Post A63 M j0 x1 x2 x3 x4 x5 x6 t0 t1 → Wi p l e (headSpec wsX7_parts rX7_parts).room s m [.ref (G.2.1 + j0a), .int x1a, .int x2a].toArray below meth c G Post H locs (F0 m 97 ls [.int t0, .int t1]) := by
    intro A63 hA63 M j0 x1 x2 x3 x4 x5 x6 t0 t1 H locs ls hP hS hl hk_j0 h
    unfold bX7_parts_97 at h
    refine lv_iadd hx hb dX7_parts_97 ?_
    refine lv_topi (fun x7_20 ex7_20 => ?_)
    replace h := h x7_20 ex7_20
    refine lv_istore (lv' := [(7, .int x7_20), (0, .ref (G.2.1 + j0)), (1, .int x1), (2, .int x2), (3, .int x3), (4, .int x4), (5, .int x5), (6, .int x6)]) hx hb dX7_parts_98 hl (by decide) rfl (fun ls hl => ?_)
    refine lv_iload hx hb dX7_parts_100 (lv_at hl 6 rfl) ?_
    refine lv_iload hx hb dX7_parts_102 (lv_at hl 6 rfl) ?_
    refine lv_if_le (tgt := 111) hx hb dX7_parts_104 (by decide) (fun c21 => ?_) (fun c21 => ?_)
    · replace h := h.1 c21
      refine lv_iconst (v := (0 : Int32)) hx hb dX7_parts_111 k_iconst_0 ?_
      exact B112 _ hA63 _ _ _ _ _ _ _ _ _ _ _ _ _ hP hS (lv_sub hl [1, 2, 3, 4, 5, 7, 0] rfl) hk_j0 h
    · replace h := h.2 c21
      refine lv_iconst (v := (1 : Int32)) hx hb dX7_parts_107 k_iconst_1 ?_
      refine lv_goto (tgt := 112) hx hb dX7_parts_108 (by decide) ?_
      exact B112 _ hA63 _ _ _ _ _ _ _ _ _ _ _ _ _ hP hS (lv_sub hl [1, 2, 3, 4, 5, 7, 0] rfl) hk_j0 h
  have B63 : ∀ n : Nat, ∀ (M : Mm) (j0 : Nat) (x1 : Int32) (x2 : Int32) (x3 : Int32) (x4 : Int32) (x5 : Int32) (x6 : Int32) (H : Heap) (locs : List Loc) (ls : Array Slot), Rp G M H → va_S (Fr G) s.heap H locs → lv_has ls 8 [(0, .ref (G.2.1 + j0)), (1, .int x1), (2, .int x2), (3, .int x3), (4, .int x4), (5, .int x5), (6, .int x6)] → kd j0 = 7 → lX7_parts_63 Post n M j0 x1 x2 x3 x4 x5 x6 → Wi p l e (headSpec wsX7_parts rX7_parts).room s m [.ref (G.2.1 + j0a), .int x1a, .int x2a].toArray below meth c G Post H locs (F0 m 63 ls []) := by
    intro n
    induction n with
    | zero => intro M j0 x1 x2 x3 x4 x5 x6 H locs ls hP hS hl hk_j0 h; exact h.elim
    | succ n ih =>
      intro M j0 x1 x2 x3 x4 x5 x6 H locs ls hP hS hl hk_j0 h
      have hA63 := ih
      replace h : bX7_parts_63 Post (lX7_parts_63 Post n) M j0 x1 x2 x3 x4 x5 x6 := h
      unfold bX7_parts_63 at h
      refine lv_iload hx hb dX7_parts_63 (lv_at hl 6 rfl) ?_
      refine lv_aload_n hx hb dX7_parts_65 rfl (lv_at hl 0 rfl) ?_
      refine rk_getr hx hb hts inlX7 hown hK hP hk_j0 cl_7 0 1 fq_7_0 q_4_13 rfl dX7_parts_66 ?_
      refine lv_iconst (v := (0 : Int32)) hx hb dX7_parts_69 k_iconst_0 ?_
      refine rk_iald hx hb hK hP (ky_7_0 hk_j0) ac_12 0 ix_0 vi_0_168 dX7_parts_70 ?_
      refine lv_icmp_ge (tgt := 196) hx hb dX7_parts_71 (by decide) (fun c14 => ?_) (fun c14 => ?_)
      · replace h := h.1 c14
        refine lv_iload hx hb dX7_parts_196 (lv_at hl 4 rfl) ?_
        exact re_i hx hb hr hlocks hP hS h dX7_parts_198
      · replace h := h.2 c14
        refine lv_aload_n hx hb dX7_parts_74 rfl (lv_at hl 0 rfl) ?_
        refine lv_iload hx hb dX7_parts_75 (lv_at hl 6 rfl) ?_
        refine lv_iload_n hx hb dX7_parts_77 rfl (lv_at hl 1 rfl) ?_
        refine rc_Vi (As := [.int x6, .int x1]) (rest := []) ⟨hx, hb, hml, hown, hts⟩ (mX7_lets l G j0 x6 x1 M _ hk_j0 h) (cwV 2 hts (gV_X7_lets q_21_11) rfl rfl rfl hdV_X7_lets ⟨Nat.le_of_ble_eq_true rfl, Nat.le_of_ble_eq_true rfl⟩) hK hP hS hk_j0 (by decide) cl_7 rfl hl.1 rfl (Nat.le_of_ble_eq_true rfl) dX7_parts_78 ⟨Nat.zero_le _, Nat.zero_le _⟩ (fun r16 M15 H locs h hP hS => ?_)
        refine lv_if_eq (tgt := 190) hx hb dX7_parts_81 (by decide) (fun c17 => ?_) (fun c17 => ?_)
        · replace h := h.1 c17
          obtain ⟨x6_18, ex6_18⟩ : ∃ y : Int32, y = x6 + (1 : Int32) := ⟨_, rfl⟩
          replace h := h x6_18 ex6_18
          refine lv_iinc (v := x6_18) (lv' := [(6, .int x6_18), (0, .ref (G.2.1 + j0)), (1, .int x1), (2, .int x2), (3, .int x3), (4, .int x4), (5, .int x5)]) hx hb dX7_parts_190 hl (k := 6) rfl (by rw [ex6_18]; rfl) (by decide) rfl (fun ls hl => ?_)
          refine lv_goto (tgt := 63) hx hb dX7_parts_193 (by decide) ?_
          exact hA63 _ _ _ _ _ _ _ _ _ _ _ hP hS (lv_sub hl [1, 2, 3, 4, 5, 6, 0] rfl) hk_j0 h
        · replace h := h.2 c17
          refine lv_iload_n hx hb dX7_parts_84 rfl (lv_at hl 2 rfl) ?_
          refine lv_iload_n hx hb dX7_parts_85 rfl (lv_at hl 3 rfl) ?_
          refine lv_idiv hx hb dX7_parts_86 h.1 ?_
          replace h := h.2
          refine lv_iload hx hb dX7_parts_87 (lv_at hl 5 rfl) ?_
          refine lv_if_le (tgt := 96) hx hb dX7_parts_89 (by decide) (fun c19 => ?_) (fun c19 => ?_)
          · replace h := h.1 c19
            refine lv_iconst (v := (0 : Int32)) hx hb dX7_parts_96 k_iconst_0 ?_
            exact B97 _ hA63 _ _ _ _ _ _ _ _ _ _ _ _ _ hP hS (lv_sub hl [0, 1, 2, 3, 4, 5, 6] rfl) hk_j0 h
          · replace h := h.2 c19
            refine lv_iconst (v := (1 : Int32)) hx hb dX7_parts_92 k_iconst_1 ?_
            refine lv_goto (tgt := 97) hx hb dX7_parts_93 (by decide) ?_
            exact B97 _ hA63 _ _ _ _ _ _ _ _ _ _ _ _ _ hP hS (lv_sub hl [0, 1, 2, 3, 4, 5, 6] rfl) hk_j0 h
  have B56 : ∀ (M : Mm) (j0 : Nat) (x1 : Int32) (x2 : Int32) (x3 : Int32) (x4 : Int32) (t0 : Int32) (H : Heap) (locs : List Loc) (ls : Array Slot), Rp G M H → va_S (Fr G) s.heap H locs → lv_has ls 8 [(0, .ref (G.2.1 + j0)), (1, .int x1), (2, .int x2), (3, .int x3), (4, .int x4)] → kd j0 = 7 → bX7_parts_56 Post M j0 x1 x2 x3 x4 t0 → Wi p l e (headSpec wsX7_parts rX7_parts).room s m [.ref (G.2.1 + j0a), .int x1a, .int x2a].toArray below meth c G Post H locs (F0 m 56 ls [.int t0]) := by
    intro M j0 x1 x2 x3 x4 t0 H locs ls hP hS hl hk_j0 h
    unfold bX7_parts_56 at h
    refine lv_istore (lv' := [(5, .int t0), (0, .ref (G.2.1 + j0)), (1, .int x1), (2, .int x2), (3, .int x3), (4, .int x4)]) hx hb dX7_parts_56 hl (by decide) rfl (fun ls hl => ?_)
    refine lv_iload_n hx hb dX7_parts_58 rfl (lv_at hl 2 rfl) ?_
    refine lv_iconst (v := (1 : Int32)) hx hb dX7_parts_59 k_iconst_1 ?_
    refine lv_iadd hx hb dX7_parts_60 ?_
    refine lv_topi (fun x6_12 ex6_12 => ?_)
    replace h := h x6_12 ex6_12
    refine lv_istore (lv' := [(6, .int x6_12), (5, .int t0), (0, .ref (G.2.1 + j0)), (1, .int x1), (2, .int x2), (3, .int x3), (4, .int x4)]) hx hb dX7_parts_61 hl (by decide) rfl (fun ls hl => ?_)
    obtain ⟨n13, h⟩ := h
    exact B63 _ _ _ _ _ _ _ _ _ _ _ _ hP hS (lv_sub hl [2, 3, 4, 5, 6, 1, 0] rfl) hk_j0 h
  have B7 : ∀ n : Nat, ∀ (M : Mm) (j0 : Nat) (x1 : Int32) (x2 : Int32) (x3 : Int32) (x4 : Int32) (H : Heap) (locs : List Loc) (ls : Array Slot), Rp G M H → va_S (Fr G) s.heap H locs → lv_has ls 8 [(0, .ref (G.2.1 + j0)), (1, .int x1), (2, .int x2), (3, .int x3), (4, .int x4)] → kd j0 = 7 → lX7_parts_7 Post n M j0 x1 x2 x3 x4 → Wi p l e (headSpec wsX7_parts rX7_parts).room s m [.ref (G.2.1 + j0a), .int x1a, .int x2a].toArray below meth c G Post H locs (F0 m 7 ls []) := by
    intro n
    induction n with
    | zero => intro M j0 x1 x2 x3 x4 H locs ls hP hS hl hk_j0 h; exact h.elim
    | succ n ih =>
      intro M j0 x1 x2 x3 x4 H locs ls hP hS hl hk_j0 h
      have hA7 := ih
      replace h : bX7_parts_7 Post (lX7_parts_7 Post n) M j0 x1 x2 x3 x4 := h
      unfold bX7_parts_7 at h
      refine lv_iload hx hb dX7_parts_7 (lv_at hl 4 rfl) ?_
      refine lv_aload_n hx hb dX7_parts_9 rfl (lv_at hl 0 rfl) ?_
      refine rk_getr hx hb hts inlX7 hown hK hP hk_j0 cl_7 0 1 fq_7_0 q_4_13 rfl dX7_parts_10 ?_
      refine lv_iconst (v := (0 : Int32)) hx hb dX7_parts_13 k_iconst_0 ?_
      refine rk_iald hx hb hK hP (ky_7_0 hk_j0) ac_12 0 ix_0 vi_0_168 dX7_parts_14 ?_
      refine lv_icmp_ge (tgt := 42) hx hb dX7_parts_15 (by decide) (fun c3 => ?_) (fun c3 => ?_)
      · replace h := h.1 c3
        refine lv_iload_n hx hb dX7_parts_42 rfl (lv_at hl 2 rfl) ?_
        refine lv_istore (lv' := [(4, .int x2), (0, .ref (G.2.1 + j0)), (1, .int x1), (2, .int x2), (3, .int x3)]) hx hb dX7_parts_43 hl (by decide) rfl (fun ls hl => ?_)
        refine lv_iload_n hx hb dX7_parts_45 rfl (lv_at hl 4 rfl) ?_
        refine lv_if_ne (tgt := 53) hx hb dX7_parts_46 (by decide) (fun c4 => ?_) (fun c4 => ?_)
        · replace h := h.1 c4
          refine lv_iload_n hx hb dX7_parts_53 rfl (lv_at hl 3 rfl) ?_
          refine lv_iload_n hx hb dX7_parts_54 rfl (lv_at hl 4 rfl) ?_
          refine lv_irem hx hb dX7_parts_55 h.1 ?_
          replace h := h.2
          exact B56 _ _ _ _ _ _ _ _ _ _ hP hS (lv_sub hl [1, 2, 3, 4, 0] rfl) hk_j0 h
        · replace h := h.2 c4
          refine lv_iconst (v := (0 : Int32)) hx hb dX7_parts_49 k_iconst_0 ?_
          refine lv_goto (tgt := 56) hx hb dX7_parts_50 (by decide) ?_
          exact B56 _ _ _ _ _ _ _ _ _ _ hP hS (lv_sub hl [1, 2, 3, 4, 0] rfl) hk_j0 h
      · replace h := h.2 c3
        refine lv_iload_n hx hb dX7_parts_18 rfl (lv_at hl 3 rfl) ?_
        refine lv_aload_n hx hb dX7_parts_19 rfl (lv_at hl 0 rfl) ?_
        refine lv_iload hx hb dX7_parts_20 (lv_at hl 4 rfl) ?_
        refine lv_iload_n hx hb dX7_parts_22 rfl (lv_at hl 1 rfl) ?_
        refine rc_Vi (As := [.int x4, .int x1]) (rest := [.int x3]) ⟨hx, hb, hml, hown, hts⟩ (mX7_lets l G j0 x4 x1 M _ hk_j0 h) (cwV 2 hts (gV_X7_lets q_21_11) rfl rfl rfl hdV_X7_lets ⟨Nat.le_of_ble_eq_true rfl, Nat.le_of_ble_eq_true rfl⟩) hK hP hS hk_j0 (by decide) cl_7 rfl hl.1 rfl (Nat.le_of_ble_eq_true rfl) dX7_parts_23 ⟨Nat.zero_le _, Nat.zero_le _⟩ (fun r6 M5 H locs h hP hS => ?_)
        refine lv_if_eq (tgt := 33) hx hb dX7_parts_26 (by decide) (fun c7 => ?_) (fun c7 => ?_)
        · replace h := h.1 c7
          refine lv_iconst (v := (0 : Int32)) hx hb dX7_parts_33 k_iconst_0 ?_
          refine lv_iadd hx hb dX7_parts_34 ?_
          refine lv_topi (fun x3_8 ex3_8 => ?_)
          replace h := h x3_8 ex3_8
          refine lv_istore_n (lv' := [(3, .int x3_8), (0, .ref (G.2.1 + j0)), (1, .int x1), (2, .int x2), (4, .int x4)]) hx hb dX7_parts_35 rfl hl (by decide) rfl (fun ls hl => ?_)
          obtain ⟨x4_9, ex4_9⟩ : ∃ y : Int32, y = x4 + (1 : Int32) := ⟨_, rfl⟩
          replace h := h x4_9 ex4_9
          refine lv_iinc (v := x4_9) (lv' := [(4, .int x4_9), (3, .int x3_8), (0, .ref (G.2.1 + j0)), (1, .int x1), (2, .int x2)]) hx hb dX7_parts_36 hl (k := 4) rfl (by rw [ex4_9]; rfl) (by decide) rfl (fun ls hl => ?_)
          refine lv_goto (tgt := 7) hx hb dX7_parts_39 (by decide) ?_
          exact hA7 _ _ _ _ _ _ _ _ _ hP hS (lv_sub hl [2, 3, 4, 1, 0] rfl) hk_j0 h
        · replace h := h.2 c7
          refine lv_iconst (v := (1 : Int32)) hx hb dX7_parts_29 k_iconst_1 ?_
          refine lv_goto (tgt := 34) hx hb dX7_parts_30 (by decide) ?_
          refine lv_iadd hx hb dX7_parts_34 ?_
          refine lv_topi (fun x3_10 ex3_10 => ?_)
          replace h := h x3_10 ex3_10
          refine lv_istore_n (lv' := [(3, .int x3_10), (0, .ref (G.2.1 + j0)), (1, .int x1), (2, .int x2), (4, .int x4)]) hx hb dX7_parts_35 rfl hl (by decide) rfl (fun ls hl => ?_)
          obtain ⟨x4_11, ex4_11⟩ : ∃ y : Int32, y = x4 + (1 : Int32) := ⟨_, rfl⟩
          replace h := h x4_11 ex4_11
          refine lv_iinc (v := x4_11) (lv' := [(4, .int x4_11), (3, .int x3_10), (0, .ref (G.2.1 + j0)), (1, .int x1), (2, .int x2)]) hx hb dX7_parts_36 hl (k := 4) rfl (by rw [ex4_11]; rfl) (by decide) rfl (fun ls hl => ?_)
          refine lv_goto (tgt := 7) hx hb dX7_parts_39 (by decide) ?_
          exact hA7 _ _ _ _ _ _ _ _ _ hP hS (lv_sub hl [2, 3, 4, 1, 0] rfl) hk_j0 h
  unfold wX7_parts at h
  refine lv_iconst (v := (0 : Int32)) hx hb dX7_parts_0 k_iconst_0 ?_
  refine lv_istore_n (lv' := [(3, .int (0 : Int32)), (0, .ref (G.2.1 + j0a)), (1, .int x1a), (2, .int x2a)]) hx hb dX7_parts_1 rfl hl (by decide) rfl (fun ls hl => ?_)
  refine lv_iload_n hx hb dX7_parts_2 rfl (lv_at hl 2 rfl) ?_
  refine lv_iconst (v := (1 : Int32)) hx hb dX7_parts_3 k_iconst_1 ?_
  refine lv_iadd hx hb dX7_parts_4 ?_
  refine lv_topi (fun x4_1 ex4_1 => ?_)
  replace h := h x4_1 ex4_1
  refine lv_istore (lv' := [(4, .int x4_1), (3, .int (0 : Int32)), (0, .ref (G.2.1 + j0a)), (1, .int x1a), (2, .int x2a)]) hx hb dX7_parts_5 hl (by decide) rfl (fun ls hl => ?_)
  obtain ⟨n2, h⟩ := h
  exact B7 _ _ _ _ _ _ _ _ _ _ hP hS (lv_sub hl [2, 3, 4, 1, 0] rfl) hk_j0a h
set_option maxHeartbeats 4000000 in
set_option maxRecDepth 100000 in
theorem mX7_flows (l : Launch) (G : Gp) (j0a : Nat) (x1a : Int32) (M : Mm) (Post : Mm → Int32 → Prop) (hk_j0a : kd j0a = 7) (h : wX7_flows Post M j0a x1a) : CtI l yX7_flows wsX7_flows rX7_flows G [.ref (G.2.1 + j0a), .int x1a] M Post := by
  refine Met.ofW (cc := cX7_flows) (maxL := 8) (ret := (some .int)) (by decide) rfl ?_
  intro p e s m args below meth c s₁ B hml hv
  obtain ⟨rfl, hK, hP⟩ := hv
  have hx := B.exec
  have hb := B.bytes
  have hr := B.returns
  have hlocks := B.notSynchronized
  have hts0 := atoms_spec (ws := wsX7_flows) B.pre
  have hts : ∀ w ∈ wsL_law, w.before _ s = true := fun w hw => hts0 w (List.mem_cons_of_mem _ hw)
  have hown : s.vm.findClass RX7 = some m.cls := findClass_of_methodNamed B.named
  have hS : va_S (Fr G) s.heap s.heap [] := va_S.rf
  have hl := lv_entry ([.ref (G.2.1 + j0a), .int x1a]) (n := 8) (Nat.le_of_ble_eq_true rfl)
  rw [lg_entry_eq]
  generalize (lg_sl ([.ref (G.2.1 + j0a), .int x1a]) ++ List.replicate (8 - (lg_sl ([.ref (G.2.1 + j0a), .int x1a])).length) Slot.unset).toArray = ls at hl ⊢
  have hl : lv_has ls 8 [(0, .ref (G.2.1 + j0a)), (1, .int x1a)] := hl
  have B230 : ∀ n : Nat, ∀ (M : Mm) (j0 : Nat) (x2 : Int32) (x4 : Int32) (H : Heap) (locs : List Loc) (ls : Array Slot), Rp G M H → va_S (Fr G) s.heap H locs → lv_has ls 8 [(0, .ref (G.2.1 + j0)), (2, .int x2), (4, .int x4)] → kd j0 = 7 → lX7_flows_230 Post n M j0 x2 x4 → Wi p l e (headSpec wsX7_flows rX7_flows).room s m [.ref (G.2.1 + j0a), .int x1a].toArray below meth c G Post H locs (F0 m 230 ls []) := by
    intro n
    induction n with
    | zero => intro M j0 x2 x4 H locs ls hP hS hl hk_j0 h; exact h.elim
    | succ n ih =>
      intro M j0 x2 x4 H locs ls hP hS hl hk_j0 h
      have hA230 := ih
      replace h : bX7_flows_230 Post (lX7_flows_230 Post n) M j0 x2 x4 := h
      unfold bX7_flows_230 at h
      refine lv_iload hx hb dX7_flows_230 (lv_at hl 2 rfl) ?_
      refine lv_aload_n hx hb dX7_flows_232 rfl (lv_at hl 0 rfl) ?_
      refine rk_getr hx hb hts inlX7 hown hK hP hk_j0 cl_7 0 1 fq_7_0 q_4_13 rfl dX7_flows_233 ?_
      refine lv_iconst (v := (1 : Int32)) hx hb dX7_flows_236 k_iconst_1 ?_
      refine rk_iald hx hb hK hP (ky_7_0 hk_j0) ac_12 1 ix_1 vi_1_168 dX7_flows_237 ?_
      refine lv_icmp_ge (tgt := 282) hx hb dX7_flows_238 (by decide) (fun c31 => ?_) (fun c31 => ?_)
      · replace h := h.1 c31
        refine lv_aload_n hx hb dX7_flows_282 rfl (lv_at hl 0 rfl) ?_
        refine rk_getr hx hb hts inlX7 hown hK hP hk_j0 cl_7 0 1 fq_7_0 q_4_13 rfl dX7_flows_283 ?_
        refine lv_bipush (v := (7 : Int32)) hx hb dX7_flows_286 k_bipush_7 ?_
        refine rk_iald hx hb hK hP (ky_7_0 hk_j0) ac_12 7 ix_7 vi_7_168 dX7_flows_288 ?_
        refine lv_iload_n hx hb dX7_flows_289 rfl (lv_at hl 1 rfl) ?_
        refine lv_isub hx hb dX7_flows_290 ?_
        exact re_i hx hb hr hlocks hP hS h dX7_flows_291
      · replace h := h.2 c31
        refine lv_aload_n hx hb dX7_flows_241 rfl (lv_at hl 0 rfl) ?_
        refine rk_getr hx hb hts inlX7 hown hK hP hk_j0 cl_7 0 1 fq_7_0 q_4_13 rfl dX7_flows_242 ?_
        refine lv_bipush (v := (82 : Int32)) hx hb dX7_flows_245 k_bipush_82 ?_
        refine lv_bipush (v := (7 : Int32)) hx hb dX7_flows_247 k_bipush_7 ?_
        refine lv_iload hx hb dX7_flows_249 (lv_at hl 2 rfl) ?_
        refine lv_imul hx hb dX7_flows_251 ?_
        refine lv_iadd hx hb dX7_flows_252 ?_
        refine lv_iconst (v := (5 : Int32)) hx hb dX7_flows_253 k_iconst_5 ?_
        refine lv_iadd hx hb dX7_flows_254 ?_
        refine lv_aload_n hx hb dX7_flows_255 rfl (lv_at hl 0 rfl) ?_
        refine lv_iload hx hb dX7_flows_256 (lv_at hl 2 rfl) ?_
        refine rc_Vi (As := [.int x4]) (rest := [.int (((82 : Int32) + ((7 : Int32) * x4)) + (5 : Int32)), .ref (G.2.1 + (j0 + 1))]) ⟨hx, hb, hml, hown, hts⟩ (mX7_wants l G j0 x4 M _ hk_j0 h) (cwV 1 hts (gV_X7_wants q_14_12) rfl rfl rfl hdV_X7_wants ⟨Nat.le_of_ble_eq_true rfl, Nat.le_of_ble_eq_true rfl⟩) hK hP hS hk_j0 (by decide) cl_7 rfl hl.1 rfl (Nat.le_of_ble_eq_true rfl) dX7_flows_258 ⟨Nat.zero_le _, Nat.zero_le _⟩ (fun r33 M32 H locs h hP hS => ?_)
        refine lv_if_eq (tgt := 274) hx hb dX7_flows_261 (by decide) (fun c34 => ?_) (fun c34 => ?_)
        · replace h := h.1 c34
          refine lv_iconst (v := (0 : Int32)) hx hb dX7_flows_274 k_iconst_0 ?_
          refine rk_iast hx hb hK hP hS (ky_7_0 hk_j0) ac_12 _ rfl h.1 dX7_flows_275 (fun M35 eM35 H locs hP hS => ?_)
          replace h := h.2
          replace h := h M35 eM35
          obtain ⟨x4_36, ex4_36⟩ : ∃ y : Int32, y = x4 + (1 : Int32) := ⟨_, rfl⟩
          replace h := h x4_36 ex4_36
          refine lv_iinc (v := x4_36) (lv' := [(4, .int x4_36), (0, .ref (G.2.1 + j0)), (2, .int x2)]) hx hb dX7_flows_276 hl (k := 2) rfl (by rw [ex4_36]; rfl) (by decide) rfl (fun ls hl => ?_)
          refine lv_goto (tgt := 230) hx hb dX7_flows_279 (by decide) ?_
          exact hA230 _ _ _ _ _ _ _ hP hS (lv_sub hl [1, 2, 0] rfl) hk_j0 h
        · replace h := h.2 c34
          refine lv_aload_n hx hb dX7_flows_264 rfl (lv_at hl 0 rfl) ?_
          refine lv_iload hx hb dX7_flows_265 (lv_at hl 2 rfl) ?_
          refine lv_iconst (v := (5 : Int32)) hx hb dX7_flows_267 k_iconst_5 ?_
          refine rc_Vi (As := [.int x4, .int (5 : Int32)]) (rest := [.int (((82 : Int32) + ((7 : Int32) * x4)) + (5 : Int32)), .ref (G.2.1 + (j0 + 1))]) ⟨hx, hb, hml, hown, hts⟩ (mX7_fi l G j0 x4 (5 : Int32) M32 _ hk_j0 h) (cwV 2 hts (gV_X7_fi q_14_8) rfl rfl rfl hdV_X7_fi ⟨Nat.le_of_ble_eq_true rfl, Nat.le_of_ble_eq_true rfl⟩) hK hP hS hk_j0 (by decide) cl_7 rfl hl.1 rfl (Nat.le_of_ble_eq_true rfl) dX7_flows_268 ⟨Nat.zero_le _, Nat.zero_le _⟩ (fun r38 M37 H locs h hP hS => ?_)
          refine lv_goto (tgt := 275) hx hb dX7_flows_271 (by decide) ?_
          refine rk_iast hx hb hK hP hS (ky_7_0 hk_j0) ac_12 _ rfl h.1 dX7_flows_275 (fun M39 eM39 H locs hP hS => ?_)
          replace h := h.2
          replace h := h M39 eM39
          obtain ⟨x4_40, ex4_40⟩ : ∃ y : Int32, y = x4 + (1 : Int32) := ⟨_, rfl⟩
          replace h := h x4_40 ex4_40
          refine lv_iinc (v := x4_40) (lv' := [(4, .int x4_40), (0, .ref (G.2.1 + j0)), (2, .int x2)]) hx hb dX7_flows_276 hl (k := 2) rfl (by rw [ex4_40]; rfl) (by decide) rfl (fun ls hl => ?_)
          refine lv_goto (tgt := 230) hx hb dX7_flows_279 (by decide) ?_
          exact hA230 _ _ _ _ _ _ _ hP hS (lv_sub hl [1, 2, 0] rfl) hk_j0 h
  have B95 : ∀ n : Nat, ∀ (M : Mm) (j0 : Nat) (x2 : Int32) (x4 : Int32) (H : Heap) (locs : List Loc) (ls : Array Slot), Rp G M H → va_S (Fr G) s.heap H locs → lv_has ls 8 [(0, .ref (G.2.1 + j0)), (2, .int x2), (4, .int x4)] → kd j0 = 7 → lX7_flows_95 Post n M j0 x2 x4 → Wi p l e (headSpec wsX7_flows rX7_flows).room s m [.ref (G.2.1 + j0a), .int x1a].toArray below meth c G Post H locs (F0 m 95 ls []) := by
    intro n
    induction n with
    | zero => intro M j0 x2 x4 H locs ls hP hS hl hk_j0 h; exact h.elim
    | succ n ih =>
      intro M j0 x2 x4 H locs ls hP hS hl hk_j0 h
      have hA95 := ih
      replace h : bX7_flows_95 Post (lX7_flows_95 Post n) M j0 x2 x4 := h
      unfold bX7_flows_95 at h
      refine lv_iload hx hb dX7_flows_95 (lv_at hl 2 rfl) ?_
      refine lv_aload_n hx hb dX7_flows_97 rfl (lv_at hl 0 rfl) ?_
      refine rk_getr hx hb hts inlX7 hown hK hP hk_j0 cl_7 0 1 fq_7_0 q_4_13 rfl dX7_flows_98 ?_
      refine lv_iconst (v := (0 : Int32)) hx hb dX7_flows_101 k_iconst_0 ?_
      refine rk_iald hx hb hK hP (ky_7_0 hk_j0) ac_12 0 ix_0 vi_0_168 dX7_flows_102 ?_
      refine lv_icmp_ge (tgt := 227) hx hb dX7_flows_103 (by decide) (fun c15 => ?_) (fun c15 => ?_)
      · replace h := h.1 c15
        refine lv_iconst (v := (0 : Int32)) hx hb dX7_flows_227 k_iconst_0 ?_
        refine lv_istore (lv' := [(4, .int (0 : Int32)), (0, .ref (G.2.1 + j0)), (2, .int x2)]) hx hb dX7_flows_228 hl (by decide) rfl (fun ls hl => ?_)
        obtain ⟨n16, h⟩ := h
        exact B230 _ _ _ _ _ _ _ _ hP hS (lv_sub hl [1, 2, 0] rfl) hk_j0 h
      · replace h := h.2 c15
        refine lv_aload_n hx hb dX7_flows_106 rfl (lv_at hl 0 rfl) ?_
        refine lv_iload hx hb dX7_flows_107 (lv_at hl 2 rfl) ?_
        refine lv_bipush (v := (6 : Int32)) hx hb dX7_flows_109 k_bipush_6 ?_
        refine rc_Vi (As := [.int x4, .int (6 : Int32)]) (rest := []) ⟨hx, hb, hml, hown, hts⟩ (mX7_ca l G j0 x4 (6 : Int32) M _ hk_j0 h) (cwV 2 hts (gV_X7_ca q_10_4) rfl rfl rfl hdV_X7_ca ⟨Nat.le_of_ble_eq_true rfl, Nat.le_of_ble_eq_true rfl⟩) hK hP hS hk_j0 (by decide) cl_7 rfl hl.1 rfl (Nat.le_of_ble_eq_true rfl) dX7_flows_111 ⟨Nat.zero_le _, Nat.zero_le _⟩ (fun r18 M17 H locs h hP hS => ?_)
        refine lv_istore (lv' := [(5, .int r18), (0, .ref (G.2.1 + j0)), (2, .int x2), (4, .int x4)]) hx hb dX7_flows_114 hl (by decide) rfl (fun ls hl => ?_)
        refine lv_iload hx hb dX7_flows_116 (lv_at hl 0 rfl) ?_
        refine lv_aload_n hx hb dX7_flows_118 rfl (lv_at hl 1 rfl) ?_
        refine lv_iload hx hb dX7_flows_119 (lv_at hl 3 rfl) ?_
        refine lv_iconst (v := (3 : Int32)) hx hb dX7_flows_121 k_iconst_3 ?_
        refine rc_Vi (As := [.int x4, .int (3 : Int32)]) (rest := [.int r18]) ⟨hx, hb, hml, hown, hts⟩ (mX7_ca l G j0 x4 (3 : Int32) M17 _ hk_j0 h) (cwV 2 hts (gV_X7_ca q_10_4) rfl rfl rfl hdV_X7_ca ⟨Nat.le_of_ble_eq_true rfl, Nat.le_of_ble_eq_true rfl⟩) hK hP hS hk_j0 (by decide) cl_7 rfl hl.1 rfl (Nat.le_of_ble_eq_true rfl) dX7_flows_122 ⟨Nat.zero_le _, Nat.zero_le _⟩ (fun r20 M19 H locs h hP hS => ?_)
        refine lv_imul hx hb dX7_flows_125 ?_
        refine lv_sipush (v := (999 : Int32)) hx hb dX7_flows_126 k_sipush_999 ?_
        refine lv_iadd hx hb dX7_flows_129 ?_
        refine lv_sipush (v := (1000 : Int32)) hx hb dX7_flows_130 k_sipush_1000 ?_
        refine lv_idiv hx hb dX7_flows_133 (by decide) ?_
        refine lv_topi (fun x6_21 ex6_21 => ?_)
        replace h := h x6_21 ex6_21
        refine lv_istore (lv' := [(6, .int x6_21), (5, .int r18), (0, .ref (G.2.1 + j0)), (2, .int x2), (4, .int x4)]) hx hb dX7_flows_134 hl (by decide) rfl (fun ls hl => ?_)
        refine lv_aload_n hx hb dX7_flows_136 rfl (lv_at hl 2 rfl) ?_
        refine rk_getr hx hb hts inlX7 hown hK hP hk_j0 cl_7 0 1 fq_7_0 q_4_13 rfl dX7_flows_137 ?_
        refine lv_bipush (v := (10 : Int32)) hx hb dX7_flows_140 k_bipush_10 ?_
        refine lv_bipush (v := (9 : Int32)) hx hb dX7_flows_142 k_bipush_9 ?_
        refine lv_iload hx hb dX7_flows_144 (lv_at hl 4 rfl) ?_
        refine lv_imul hx hb dX7_flows_146 ?_
        refine lv_iadd hx hb dX7_flows_147 ?_
        refine lv_bipush (v := (7 : Int32)) hx hb dX7_flows_148 k_bipush_7 ?_
        refine lv_iadd hx hb dX7_flows_150 ?_
        refine lv_dup2_11 hx hb dX7_flows_151 rfl rfl ?_
        refine rk_iald hx hb hK hP (ky_7_0 hk_j0) ac_12 _ rfl h.1 dX7_flows_152 ?_
        replace h := h.2
        refine lv_iload hx hb dX7_flows_153 (lv_at hl 0 rfl) ?_
        refine lv_iadd hx hb dX7_flows_155 ?_
        refine rk_iast hx hb hK hP hS (ky_7_0 hk_j0) ac_12 _ rfl h.1 dX7_flows_156 (fun M22 eM22 H locs hP hS => ?_)
        replace h := h.2
        replace h := h M22 eM22
        refine lv_aload_n hx hb dX7_flows_157 rfl (lv_at hl 2 rfl) ?_
        refine rk_getr hx hb hts inlX7 hown hK hP hk_j0 cl_7 0 1 fq_7_0 q_4_13 rfl dX7_flows_158 ?_
        refine lv_bipush (v := (8 : Int32)) hx hb dX7_flows_161 k_bipush_8 ?_
        refine lv_dup2_11 hx hb dX7_flows_163 rfl rfl ?_
        refine rk_iald hx hb hK hP (ky_7_0 hk_j0) ac_12 8 ix_8 vi_8_168 dX7_flows_164 ?_
        refine lv_iload hx hb dX7_flows_165 (lv_at hl 0 rfl) ?_
        refine lv_iadd hx hb dX7_flows_167 ?_
        refine rk_iast hx hb hK hP hS (ky_7_0 hk_j0) ac_12 8 ix_8 vi_8_168 dX7_flows_168 (fun M23 eM23 H locs hP hS => ?_)
        replace h := h M23 eM23
        refine lv_aload_n hx hb dX7_flows_169 rfl (lv_at hl 2 rfl) ?_
        refine lv_iload hx hb dX7_flows_170 (lv_at hl 4 rfl) ?_
        refine lv_aload_n hx hb dX7_flows_172 rfl (lv_at hl 2 rfl) ?_
        refine lv_iload hx hb dX7_flows_173 (lv_at hl 4 rfl) ?_
        refine lv_iload hx hb dX7_flows_175 (lv_at hl 1 rfl) ?_
        refine lv_iload hx hb dX7_flows_177 (lv_at hl 0 rfl) ?_
        refine lv_isub hx hb dX7_flows_179 ?_
        refine rc_Vi (As := [.int x4, .int (r18 - x6_21)]) (rest := [.int x4, .ref (G.2.1 + j0)]) ⟨hx, hb, hml, hown, hts⟩ (mX7_serves l G j0 x4 (r18 - x6_21) M23 _ hk_j0 h) (cwV 2 hts (gV_X7_serves q_20_15) rfl rfl rfl hdV_X7_serves ⟨Nat.le_of_ble_eq_true rfl, Nat.le_of_ble_eq_true rfl⟩) hK hP hS hk_j0 (by decide) cl_7 rfl hl.1 rfl (Nat.le_of_ble_eq_true rfl) dX7_flows_180 ⟨Nat.zero_le _, Nat.zero_le _⟩ (fun r25 M24 H locs h hP hS => ?_)
        refine rc_Vi (As := [.int x4, .int r25]) (rest := []) ⟨hx, hb, hml, hown, hts⟩ (mX7_parts l G j0 x4 r25 M24 _ hk_j0 h) (cwV 2 hts (gV_X7_parts q_21_7) rfl rfl rfl hdV_X7_parts ⟨Nat.le_of_ble_eq_true rfl, Nat.le_of_ble_eq_true rfl⟩) hK hP hS hk_j0 (by decide) cl_7 rfl hl.1 rfl (Nat.le_of_ble_eq_true rfl) dX7_flows_183 ⟨Nat.zero_le _, Nat.zero_le _⟩ (fun r27 M26 H locs h hP hS => ?_)
        refine lv_istore (lv' := [(7, .int r27), (6, .int x6_21), (5, .int r18), (0, .ref (G.2.1 + j0)), (2, .int x2), (4, .int x4)]) hx hb dX7_flows_186 hl (by decide) rfl (fun ls hl => ?_)
        refine lv_aload_n hx hb dX7_flows_188 rfl (lv_at hl 3 rfl) ?_
        refine rk_getr hx hb hts inlX7 hown hK hP hk_j0 cl_7 0 1 fq_7_0 q_4_13 rfl dX7_flows_189 ?_
        refine lv_bipush (v := (10 : Int32)) hx hb dX7_flows_192 k_bipush_10 ?_
        refine lv_bipush (v := (9 : Int32)) hx hb dX7_flows_194 k_bipush_9 ?_
        refine lv_iload hx hb dX7_flows_196 (lv_at hl 5 rfl) ?_
        refine lv_imul hx hb dX7_flows_198 ?_
        refine lv_iadd hx hb dX7_flows_199 ?_
        refine lv_bipush (v := (8 : Int32)) hx hb dX7_flows_200 k_bipush_8 ?_
        refine lv_iadd hx hb dX7_flows_202 ?_
        refine lv_dup2_11 hx hb dX7_flows_203 rfl rfl ?_
        refine rk_iald hx hb hK hP (ky_7_0 hk_j0) ac_12 _ rfl h.1 dX7_flows_204 ?_
        replace h := h.2
        refine lv_iload hx hb dX7_flows_205 (lv_at hl 0 rfl) ?_
        refine lv_iadd hx hb dX7_flows_207 ?_
        refine rk_iast hx hb hK hP hS (ky_7_0 hk_j0) ac_12 _ rfl h.1 dX7_flows_208 (fun M28 eM28 H locs hP hS => ?_)
        replace h := h.2
        replace h := h M28 eM28
        refine lv_aload_n hx hb dX7_flows_209 rfl (lv_at hl 3 rfl) ?_
        refine rk_getr hx hb hts inlX7 hown hK hP hk_j0 cl_7 0 1 fq_7_0 q_4_13 rfl dX7_flows_210 ?_
        refine lv_bipush (v := (9 : Int32)) hx hb dX7_flows_213 k_bipush_9 ?_
        refine lv_dup2_11 hx hb dX7_flows_215 rfl rfl ?_
        refine rk_iald hx hb hK hP (ky_7_0 hk_j0) ac_12 9 ix_9 vi_9_168 dX7_flows_216 ?_
        refine lv_iload hx hb dX7_flows_217 (lv_at hl 0 rfl) ?_
        refine lv_iadd hx hb dX7_flows_219 ?_
        refine rk_iast hx hb hK hP hS (ky_7_0 hk_j0) ac_12 9 ix_9 vi_9_168 dX7_flows_220 (fun M29 eM29 H locs hP hS => ?_)
        replace h := h M29 eM29
        obtain ⟨x4_30, ex4_30⟩ : ∃ y : Int32, y = x4 + (1 : Int32) := ⟨_, rfl⟩
        replace h := h x4_30 ex4_30
        refine lv_iinc (v := x4_30) (lv' := [(4, .int x4_30), (7, .int r27), (6, .int x6_21), (5, .int r18), (0, .ref (G.2.1 + j0)), (2, .int x2)]) hx hb dX7_flows_221 hl (k := 5) rfl (by rw [ex4_30]; rfl) (by decide) rfl (fun ls hl => ?_)
        refine lv_goto (tgt := 95) hx hb dX7_flows_224 (by decide) ?_
        exact hA95 _ _ _ _ _ _ _ hP hS (lv_sub hl [4, 5, 0] rfl) hk_j0 h
  have B72 : ∀ (M : Mm) (j0 : Nat) (x2 : Int32) (t0 : Int32) (H : Heap) (locs : List Loc) (ls : Array Slot), Rp G M H → va_S (Fr G) s.heap H locs → lv_has ls 8 [(0, .ref (G.2.1 + j0)), (2, .int x2)] → kd j0 = 7 → bX7_flows_72 Post M j0 x2 t0 → Wi p l e (headSpec wsX7_flows rX7_flows).room s m [.ref (G.2.1 + j0a), .int x1a].toArray below meth c G Post H locs (F0 m 72 ls [.int t0]) := by
    intro M j0 x2 t0 H locs ls hP hS hl hk_j0 h
    unfold bX7_flows_72 at h
    refine lv_istore_n (lv' := [(3, .int t0), (0, .ref (G.2.1 + j0)), (2, .int x2)]) hx hb dX7_flows_72 rfl hl (by decide) rfl (fun ls hl => ?_)
    refine lv_aload_n hx hb dX7_flows_73 rfl (lv_at hl 1 rfl) ?_
    refine rk_getr hx hb hts inlX7 hown hK hP hk_j0 cl_7 0 1 fq_7_0 q_4_13 rfl dX7_flows_74 ?_
    refine lv_bipush (v := (16 : Int32)) hx hb dX7_flows_77 k_bipush_16 ?_
    refine lv_iload_n hx hb dX7_flows_79 rfl (lv_at hl 0 rfl) ?_
    refine rk_iast hx hb hK hP hS (ky_7_0 hk_j0) ac_12 16 ix_16 vi_16_168 dX7_flows_80 (fun M12 eM12 H locs hP hS => ?_)
    replace h := h M12 eM12
    refine lv_aload_n hx hb dX7_flows_81 rfl (lv_at hl 1 rfl) ?_
    refine rk_getr hx hb hts inlX7 hown hK hP hk_j0 cl_7 0 1 fq_7_0 q_4_13 rfl dX7_flows_82 ?_
    refine lv_bipush (v := (6 : Int32)) hx hb dX7_flows_85 k_bipush_6 ?_
    refine lv_dup2_11 hx hb dX7_flows_87 rfl rfl ?_
    refine rk_iald hx hb hK hP (ky_7_0 hk_j0) ac_12 6 ix_6 vi_6_168 dX7_flows_88 ?_
    refine lv_iload_n hx hb dX7_flows_89 rfl (lv_at hl 0 rfl) ?_
    refine lv_iadd hx hb dX7_flows_90 ?_
    refine rk_iast hx hb hK hP hS (ky_7_0 hk_j0) ac_12 6 ix_6 vi_6_168 dX7_flows_91 (fun M13 eM13 H locs hP hS => ?_)
    replace h := h M13 eM13
    refine lv_iconst (v := (0 : Int32)) hx hb dX7_flows_92 k_iconst_0 ?_
    refine lv_istore (lv' := [(4, .int (0 : Int32)), (3, .int t0), (0, .ref (G.2.1 + j0)), (2, .int x2)]) hx hb dX7_flows_93 hl (by decide) rfl (fun ls hl => ?_)
    obtain ⟨n14, h⟩ := h
    exact B95 _ _ _ _ _ _ _ _ hP hS (lv_sub hl [2, 3, 0] rfl) hk_j0 h
  have B20 : ∀ n : Nat, ∀ (M : Mm) (j0 : Nat) (x1 : Int32) (x2 : Int32) (x3 : Int32) (H : Heap) (locs : List Loc) (ls : Array Slot), Rp G M H → va_S (Fr G) s.heap H locs → lv_has ls 8 [(0, .ref (G.2.1 + j0)), (1, .int x1), (2, .int x2), (3, .int x3)] → kd j0 = 7 → lX7_flows_20 Post n M j0 x1 x2 x3 → Wi p l e (headSpec wsX7_flows rX7_flows).room s m [.ref (G.2.1 + j0a), .int x1a].toArray below meth c G Post H locs (F0 m 20 ls []) := by
    intro n
    induction n with
    | zero => intro M j0 x1 x2 x3 H locs ls hP hS hl hk_j0 h; exact h.elim
    | succ n ih =>
      intro M j0 x1 x2 x3 H locs ls hP hS hl hk_j0 h
      have hA20 := ih
      replace h : bX7_flows_20 Post (lX7_flows_20 Post n) M j0 x1 x2 x3 := h
      unfold bX7_flows_20 at h
      refine lv_iload_n hx hb dX7_flows_20 rfl (lv_at hl 3 rfl) ?_
      refine lv_aload_n hx hb dX7_flows_21 rfl (lv_at hl 0 rfl) ?_
      refine rk_getr hx hb hts inlX7 hown hK hP hk_j0 cl_7 0 1 fq_7_0 q_4_13 rfl dX7_flows_22 ?_
      refine lv_iconst (v := (0 : Int32)) hx hb dX7_flows_25 k_iconst_0 ?_
      refine rk_iald hx hb hK hP (ky_7_0 hk_j0) ac_12 0 ix_0 vi_0_168 dX7_flows_26 ?_
      refine lv_icmp_ge (tgt := 52) hx hb dX7_flows_27 (by decide) (fun c4 => ?_) (fun c4 => ?_)
      · replace h := h.1 c4
        refine lv_iload_n hx hb dX7_flows_52 rfl (lv_at hl 1 rfl) ?_
        refine lv_aload_n hx hb dX7_flows_53 rfl (lv_at hl 0 rfl) ?_
        refine lv_iconst (v := (0 : Int32)) hx hb dX7_flows_54 k_iconst_0 ?_
        refine lv_iconst (v := (2 : Int32)) hx hb dX7_flows_55 k_iconst_2 ?_
        refine rc_Vi (As := [.int (0 : Int32), .int (2 : Int32)]) (rest := [.int x1]) ⟨hx, hb, hml, hown, hts⟩ (mX7_ca l G j0 (0 : Int32) (2 : Int32) M _ hk_j0 h) (cwV 2 hts (gV_X7_ca q_10_4) rfl rfl rfl hdV_X7_ca ⟨Nat.le_of_ble_eq_true rfl, Nat.le_of_ble_eq_true rfl⟩) hK hP hS hk_j0 (by decide) cl_7 rfl hl.1 rfl (Nat.le_of_ble_eq_true rfl) dX7_flows_56 ⟨Nat.zero_le _, Nat.zero_le _⟩ (fun r6 M5 H locs h hP hS => ?_)
        refine lv_icmp_le (tgt := 71) hx hb dX7_flows_59 (by decide) (fun c7 => ?_) (fun c7 => ?_)
        · replace h := h.1 c7
          refine lv_iload_n hx hb dX7_flows_71 rfl (lv_at hl 1 rfl) ?_
          exact B72 _ _ _ _ _ _ _ hP hS (lv_sub hl [0, 2] rfl) hk_j0 h
        · replace h := h.2 c7
          refine lv_aload_n hx hb dX7_flows_62 rfl (lv_at hl 0 rfl) ?_
          refine lv_iconst (v := (0 : Int32)) hx hb dX7_flows_63 k_iconst_0 ?_
          refine lv_iconst (v := (2 : Int32)) hx hb dX7_flows_64 k_iconst_2 ?_
          refine rc_Vi (As := [.int (0 : Int32), .int (2 : Int32)]) (rest := []) ⟨hx, hb, hml, hown, hts⟩ (mX7_ca l G j0 (0 : Int32) (2 : Int32) M5 _ hk_j0 h) (cwV 2 hts (gV_X7_ca q_10_4) rfl rfl rfl hdV_X7_ca ⟨Nat.le_of_ble_eq_true rfl, Nat.le_of_ble_eq_true rfl⟩) hK hP hS hk_j0 (by decide) cl_7 rfl hl.1 rfl (Nat.le_of_ble_eq_true rfl) dX7_flows_65 ⟨Nat.zero_le _, Nat.zero_le _⟩ (fun r9 M8 H locs h hP hS => ?_)
          refine lv_goto (tgt := 72) hx hb dX7_flows_68 (by decide) ?_
          exact B72 _ _ _ _ _ _ _ hP hS (lv_sub hl [0, 2] rfl) hk_j0 h
      · replace h := h.2 c4
        refine lv_aload_n hx hb dX7_flows_30 rfl (lv_at hl 0 rfl) ?_
        refine rk_getr hx hb hts inlX7 hown hK hP hk_j0 cl_7 0 1 fq_7_0 q_4_13 rfl dX7_flows_31 ?_
        refine lv_bipush (v := (10 : Int32)) hx hb dX7_flows_34 k_bipush_10 ?_
        refine lv_bipush (v := (9 : Int32)) hx hb dX7_flows_36 k_bipush_9 ?_
        refine lv_iload_n hx hb dX7_flows_38 rfl (lv_at hl 3 rfl) ?_
        refine lv_imul hx hb dX7_flows_39 ?_
        refine lv_iadd hx hb dX7_flows_40 ?_
        refine lv_bipush (v := (6 : Int32)) hx hb dX7_flows_41 k_bipush_6 ?_
        refine lv_iadd hx hb dX7_flows_43 ?_
        refine lv_iconst (v := (0 : Int32)) hx hb dX7_flows_44 k_iconst_0 ?_
        refine rk_iast hx hb hK hP hS (ky_7_0 hk_j0) ac_12 _ rfl h.1 dX7_flows_45 (fun M10 eM10 H locs hP hS => ?_)
        replace h := h.2
        replace h := h M10 eM10
        obtain ⟨x3_11, ex3_11⟩ : ∃ y : Int32, y = x3 + (1 : Int32) := ⟨_, rfl⟩
        replace h := h x3_11 ex3_11
        refine lv_iinc (v := x3_11) (lv' := [(3, .int x3_11), (0, .ref (G.2.1 + j0)), (1, .int x1), (2, .int x2)]) hx hb dX7_flows_46 hl (k := 3) rfl (by rw [ex3_11]; rfl) (by decide) rfl (fun ls hl => ?_)
        refine lv_goto (tgt := 20) hx hb dX7_flows_49 (by decide) ?_
        exact hA20 _ _ _ _ _ _ _ _ hP hS (lv_sub hl [1, 2, 3, 0] rfl) hk_j0 h
  unfold wX7_flows at h
  refine lv_aload_n hx hb dX7_flows_0 rfl (lv_at hl 0 rfl) ?_
  refine rk_getr hx hb hts inlX7 hown hK hP hk_j0a cl_7 0 1 fq_7_0 q_4_13 rfl dX7_flows_1 ?_
  refine lv_bipush (v := (7 : Int32)) hx hb dX7_flows_4 k_bipush_7 ?_
  refine rk_iald hx hb hK hP (ky_7_0 hk_j0a) ac_12 7 ix_7 vi_7_168 dX7_flows_6 ?_
  refine lv_topi (fun x2_1 ex2_1 => ?_)
  replace h := h x2_1 ex2_1
  refine lv_istore_n (lv' := [(2, .int x2_1), (0, .ref (G.2.1 + j0a)), (1, .int x1a)]) hx hb dX7_flows_7 rfl hl (by decide) rfl (fun ls hl => ?_)
  refine lv_aload_n hx hb dX7_flows_8 rfl (lv_at hl 1 rfl) ?_
  refine rk_getr hx hb hts inlX7 hown hK hP hk_j0a cl_7 0 1 fq_7_0 q_4_13 rfl dX7_flows_9 ?_
  refine lv_iconst (v := (5 : Int32)) hx hb dX7_flows_12 k_iconst_5 ?_
  refine lv_dup2_11 hx hb dX7_flows_13 rfl rfl ?_
  refine rk_iald hx hb hK hP (ky_7_0 hk_j0a) ac_12 5 ix_5 vi_5_168 dX7_flows_14 ?_
  refine lv_iconst (v := (1 : Int32)) hx hb dX7_flows_15 k_iconst_1 ?_
  refine lv_iadd hx hb dX7_flows_16 ?_
  refine rk_iast hx hb hK hP hS (ky_7_0 hk_j0a) ac_12 5 ix_5 vi_5_168 dX7_flows_17 (fun M2 eM2 H locs hP hS => ?_)
  replace h := h M2 eM2
  refine lv_iconst (v := (0 : Int32)) hx hb dX7_flows_18 k_iconst_0 ?_
  refine lv_istore_n (lv' := [(3, .int (0 : Int32)), (2, .int x2_1), (0, .ref (G.2.1 + j0a)), (1, .int x1a)]) hx hb dX7_flows_19 rfl hl (by decide) rfl (fun ls hl => ?_)
  obtain ⟨n3, h⟩ := h
  exact B20 _ _ _ _ _ _ _ _ _ hP hS (lv_sub hl [2, 3, 1, 0] rfl) hk_j0a h
set_option maxHeartbeats 4000000 in
set_option maxRecDepth 100000 in
theorem mX7_goes (l : Launch) (G : Gp) (j0a : Nat) (x1a : Int32) (M : Mm) (Post : Mm → Int32 → Prop) (hk_j0a : kd j0a = 7) (h : wX7_goes Post M j0a x1a) : CtI l yX7_goes wsX7_goes rX7_goes G [.ref (G.2.1 + j0a), .int x1a] M Post := by
  refine Met.ofW (cc := cX7_goes) (maxL := 2) (ret := (some .int)) (by decide) rfl ?_
  intro p e s m args below meth c s₁ B hml hv
  obtain ⟨rfl, hK, hP⟩ := hv
  have hx := B.exec
  have hb := B.bytes
  have hr := B.returns
  have hlocks := B.notSynchronized
  have hts0 := atoms_spec (ws := wsX7_goes) B.pre
  have hts : ∀ w ∈ wsL_law, w.before _ s = true := fun w hw => hts0 w (List.mem_cons_of_mem _ hw)
  have hown : s.vm.findClass RX7 = some m.cls := findClass_of_methodNamed B.named
  have hS : va_S (Fr G) s.heap s.heap [] := va_S.rf
  have hl := lv_entry ([.ref (G.2.1 + j0a), .int x1a]) (n := 2) (Nat.le_of_ble_eq_true rfl)
  rw [lg_entry_eq]
  generalize (lg_sl ([.ref (G.2.1 + j0a), .int x1a]) ++ List.replicate (2 - (lg_sl ([.ref (G.2.1 + j0a), .int x1a])).length) Slot.unset).toArray = ls at hl ⊢
  have hl : lv_has ls 2 [(0, .ref (G.2.1 + j0a)), (1, .int x1a)] := hl
  unfold wX7_goes at h
  refine lv_iload_n hx hb dX7_goes_0 rfl (lv_at hl 1 rfl) ?_
  refine lv_iconst (v := (0 : Int32)) hx hb dX7_goes_1 k_iconst_0 ?_
  refine lv_sipush (v := (999 : Int32)) hx hb dX7_goes_2 k_sipush_999 ?_
  refine rc_Si (As := [.int x1a, .int (0 : Int32), .int (999 : Int32)]) (rest := []) ⟨hx, hb, hml, hown, hts⟩ (mX7_in l G x1a (0 : Int32) (999 : Int32) M _ h) (va_cwS 3 hts (gS_X7_in q_7_19) rfl rfl rfl hdS_X7_in ⟨Nat.le_of_ble_eq_true rfl, Nat.le_of_ble_eq_true rfl⟩) hK hP hS rfl hl.1 rfl (Nat.le_of_ble_eq_true rfl) dX7_goes_5 ⟨Nat.zero_le _, Nat.zero_le _⟩ (fun r2 M1 H locs h hP hS => ?_)
  refine lv_if_ne (tgt := 14) hx hb dX7_goes_8 (by decide) (fun c3 => ?_) (fun c3 => ?_)
  · replace h := h.1 c3
    refine lv_aload_n hx hb dX7_goes_14 rfl (lv_at hl 0 rfl) ?_
    refine rk_getr hx hb hts inlX7 hown hK hP hk_j0a cl_7 0 1 fq_7_0 q_4_13 rfl dX7_goes_15 ?_
    refine lv_iconst (v := (5 : Int32)) hx hb dX7_goes_18 k_iconst_5 ?_
    refine rk_iald hx hb hK hP (ky_7_0 hk_j0a) ac_12 5 ix_5 vi_5_168 dX7_goes_19 ?_
    refine lv_sipush (v := (20000 : Int32)) hx hb dX7_goes_20 k_sipush_20000 ?_
    refine lv_icmp_ne (tgt := 31) hx hb dX7_goes_23 (by decide) (fun c4 => ?_) (fun c4 => ?_)
    · replace h := h.1 c4
      refine lv_aload_n hx hb dX7_goes_31 rfl (lv_at hl 0 rfl) ?_
      refine lv_iload_n hx hb dX7_goes_32 rfl (lv_at hl 1 rfl) ?_
      refine rc_Vi (As := [.int x1a]) (rest := []) ⟨hx, hb, hml, hown, hts⟩ (mX7_flows l G j0a x1a M1 _ hk_j0a h) (cwV 1 hts (gV_X7_flows q_20_11) rfl rfl rfl hdV_X7_flows ⟨Nat.le_of_ble_eq_true rfl, Nat.le_of_ble_eq_true rfl⟩) hK hP hS hk_j0a (by decide) cl_7 rfl hl.1 rfl (Nat.le_of_ble_eq_true rfl) dX7_goes_33 ⟨Nat.zero_le _, Nat.zero_le _⟩ (fun r6 M5 H locs h hP hS => ?_)
      exact re_i hx hb hr hlocks hP hS h dX7_goes_36
    · replace h := h.2 c4
      refine lv_ldc hx hb hown (hts _ q_7_14) dX7_goes_26 ?_
      refine lv_goto (tgt := 36) hx hb dX7_goes_28 (by decide) ?_
      exact re_i hx hb hr hlocks hP hS h dX7_goes_36
  · replace h := h.2 c3
    refine lv_ldc hx hb hown (hts _ q_7_13) dX7_goes_11 ?_
    exact re_i hx hb hr hlocks hP hS h dX7_goes_13
