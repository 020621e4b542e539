/-! the walks: each method keeps its predicate; printed by gen.py -/
set_option maxHeartbeats 4000000 in
set_option maxRecDepth 100000 in
theorem mX4_throughGate (l : Launch) (G : Gp) (j0a : Nat) (x1a : Int32) (x2a : Int32) (M : Mm) (Post : Mm → Int32 → Prop) (hk_j0a : kd j0a = 4) (h : wX4_throughGate Post M j0a x1a x2a) : CtI l yX4_throughGate wsX4_throughGate rX4_throughGate G [.ref (G.2.1 + j0a), .int x1a, .int x2a] M Post := by
  refine Met.ofW (cc := cX4_throughGate) (maxL := 4) (ret := (some .int)) (by decide) rfl ?_
  intro p e s m args below meth c s₁ B hml hv
  obtain ⟨rfl, hK, hP⟩ := hv
  have hx := B.exec
  have hb := B.bytes
  have hr := B.returns
  have hlocks := B.notSynchronized
  have hts0 := atoms_spec (ws := wsX4_throughGate) B.pre
  have hts : ∀ w ∈ wsL_law, w.before _ s = true := fun w hw => hts0 w (List.mem_cons_of_mem _ hw)
  have hown : s.vm.findClass RX4 = some m.cls := findClass_of_methodNamed B.named
  have hS : va_S (Fr G) s.heap s.heap [] := va_S.rf
  have hl := lv_entry ([.ref (G.2.1 + j0a), .int x1a, .int x2a]) (n := 4) (Nat.le_of_ble_eq_true rfl)
  rw [lg_entry_eq]
  generalize (lg_sl ([.ref (G.2.1 + j0a), .int x1a, .int x2a]) ++ List.replicate (4 - (lg_sl ([.ref (G.2.1 + j0a), .int x1a, .int x2a])).length) Slot.unset).toArray = ls at hl ⊢
  have hl : lv_has ls 4 [(0, .ref (G.2.1 + j0a)), (1, .int x1a), (2, .int x2a)] := hl
  have B22 : ∀ (M : Mm) (j0 : Nat) (x1 : Int32) (t0 : Int32) (H : Heap) (locs : List Loc) (ls : Array Slot), Rp G M H → va_S (Fr G) s.heap H locs → lv_has ls 4 [(0, .ref (G.2.1 + j0)), (1, .int x1)] → kd j0 = 4 → bX4_throughGate_22 Post M j0 x1 t0 → Wi p l e (headSpec wsX4_throughGate rX4_throughGate).room s m [.ref (G.2.1 + j0a), .int x1a, .int x2a].toArray below meth c G Post H locs (F0 m 22 ls [.int t0]) := by
    intro M j0 x1 t0 H locs ls hP hS hl hk_j0 h
    unfold bX4_throughGate_22 at h
    refine lv_istore_n (lv' := [(3, .int t0), (0, .ref (G.2.1 + j0)), (1, .int x1)]) hx hb dX4_throughGate_22 rfl hl (by decide) rfl (fun ls hl => ?_)
    refine lv_iload_n hx hb dX4_throughGate_23 rfl (lv_at hl 0 rfl) ?_
    refine lv_aload_n hx hb dX4_throughGate_24 rfl (lv_at hl 1 rfl) ?_
    refine rk_getr hx hb hts inlX4 hown hK hP hk_j0 cl_4 0 1 fq_4_0 q_2_4 rfl dX4_throughGate_25 ?_
    refine rk_getr hx hb hts inlX0 hown hK hP (ky_4_0 hk_j0) cl_0 4 3 fq_0_4 q_15_11 rfl dX4_throughGate_28 ?_
    refine lv_iload_n hx hb dX4_throughGate_31 rfl (lv_at hl 2 rfl) ?_
    refine rk_iald hx hb hK hP (ky_0_4 (ky_4_0 hk_j0)) ac_8 _ rfl h.1 dX4_throughGate_32 ?_
    replace h := h.2
    refine rk_min hx hb (hml.trans hl.1.symm) hts hown q_7_15 q_7_16 q_7_17 q_7_18 (Nat.le_of_ble_eq_true rfl) (Nat.le_of_ble_eq_true rfl) ⟨Nat.zero_le _, Nat.zero_le _⟩ dX4_throughGate_33 ?_
    exact re_i hx hb hr hlocks hP hS h dX4_throughGate_36
  unfold wX4_throughGate at h
  refine lv_aload_n hx hb dX4_throughGate_0 rfl (lv_at hl 0 rfl) ?_
  refine rk_getr hx hb hts inlX4 hown hK hP hk_j0a cl_4 0 1 fq_4_0 q_2_4 rfl dX4_throughGate_1 ?_
  refine rk_getr hx hb hts inlX0 hown hK hP (ky_4_0 hk_j0a) cl_0 3 2 fq_0_3 q_15_19 rfl dX4_throughGate_4 ?_
  refine lv_iload_n hx hb dX4_throughGate_7 rfl (lv_at hl 1 rfl) ?_
  refine rk_iald hx hb hK hP (ky_0_3 (ky_4_0 hk_j0a)) ac_8 _ rfl h.1 dX4_throughGate_8 ?_
  replace h := h.2
  refine lv_iconst (v := (1 : Int32)) hx hb dX4_throughGate_9 k_iconst_1 ?_
  refine lv_icmp_ne (tgt := 21) hx hb dX4_throughGate_10 (by decide) (fun c1 => ?_) (fun c1 => ?_)
  · replace h := h.1 c1
    refine lv_iload_n hx hb dX4_throughGate_21 rfl (lv_at hl 2 rfl) ?_
    exact B22 _ _ _ _ _ _ _ hP hS (lv_sub hl [0, 1] rfl) hk_j0a h
  · replace h := h.2 c1
    refine lv_iload_n hx hb dX4_throughGate_13 rfl (lv_at hl 2 rfl) ?_
    refine lv_iconst (v := (1 : Int32)) hx hb dX4_throughGate_14 k_iconst_1 ?_
    refine lv_iadd hx hb dX4_throughGate_15 ?_
    refine lv_iconst (v := (2 : Int32)) hx hb dX4_throughGate_16 k_iconst_2 ?_
    refine lv_idiv hx hb dX4_throughGate_17 (by decide) ?_
    refine lv_goto (tgt := 22) hx hb dX4_throughGate_18 (by decide) ?_
    exact B22 _ _ _ _ _ _ _ hP hS (lv_sub hl [0, 1] rfl) hk_j0a h
set_option maxHeartbeats 4000000 in
set_option maxRecDepth 100000 in
theorem mX4_partAmongGates (l : Launch) (G : Gp) (j0a : Nat) (x1a : Int32) (x2a : Int32) (M : Mm) (Post : Mm → Int32 → Prop) (hk_j0a : kd j0a = 4) (h : wX4_partAmongGates Post M j0a x1a x2a) : CtI l yX4_partAmongGates wsX4_partAmongGates rX4_partAmongGates G [.ref (G.2.1 + j0a), .int x1a, .int x2a] M Post := by
  refine Met.ofW (cc := cX4_partAmongGates) (maxL := 8) (ret := (some .int)) (by decide) rfl ?_
  intro p e s m args below meth c s₁ B hml hv
  obtain ⟨rfl, hK, hP⟩ := hv
  have hx := B.exec
  have hb := B.bytes
  have hr := B.returns
  have hlocks := B.notSynchronized
  have hts0 := atoms_spec (ws := wsX4_partAmongGates) B.pre
  have hts : ∀ w ∈ wsL_law, w.before _ s = true := fun w hw => hts0 w (List.mem_cons_of_mem _ hw)
  have hown : s.vm.findClass RX4 = some m.cls := findClass_of_methodNamed B.named
  have hS : va_S (Fr G) s.heap s.heap [] := va_S.rf
  have hl := lv_entry ([.ref (G.2.1 + j0a), .int x1a, .int x2a]) (n := 8) (Nat.le_of_ble_eq_true rfl)
  rw [lg_entry_eq]
  generalize (lg_sl ([.ref (G.2.1 + j0a), .int x1a, .int x2a]) ++ List.replicate (8 - (lg_sl ([.ref (G.2.1 + j0a), .int x1a, .int x2a])).length) Slot.unset).toArray = ls at hl ⊢
  have hl : lv_has ls 8 [(0, .ref (G.2.1 + j0a)), (1, .int x1a), (2, .int x2a)] := hl
  have B110 : ∀ (A62 : Mm → Nat → Int32 → Int32 → Int32 → Int32 → Int32 → Prop) (_ : ∀ (M : Mm) (j0 : Nat) (x1 : Int32) (x4 : Int32) (x5 : Int32) (x6 : Int32) (x7 : Int32) (H : Heap) (locs : List Loc) (ls : Array Slot), Rp G M H → va_S (Fr G) s.heap H locs → lv_has ls 8 [(0, .ref (G.2.1 + j0)), (1, .int x1), (4, .int x4), (5, .int x5), (6, .int x6), (7, .int x7)] → kd j0 = 4 → A62 M j0 x1 x4 x5 x6 x7 → Wi p l e (headSpec wsX4_partAmongGates rX4_partAmongGates).room s m [.ref (G.2.1 + j0a), .int x1a, .int x2a].toArray below meth c G Post H locs (F0 m 62 ls [])), ∀ (M : Mm) (j0 : Nat) (x1 : Int32) (x4 : Int32) (x5 : Int32) (x6 : Int32) (x7 : Int32) (t0 : Int32) (t1 : Int32) (js2 : Nat) (t3 : Int32) (js4 : Nat) (H : Heap) (locs : List Loc) (ls : Array Slot), Rp G M H → va_S (Fr G) s.heap H locs → lv_has ls 8 [(0, .ref (G.2.1 + j0)), (1, .int x1), (4, .int x4), (5, .int x5), (6, .int x6), (7, .int x7)] → kd j0 = 4 → kd js2 = 4 → kd js4 = 8 → bX4_partAmongGates_110 Post A62 M j0 x1 x4 x5 x6 x7 t0 t1 js2 t3 js4 → Wi p l e (headSpec wsX4_partAmongGates rX4_partAmongGates).room s m [.ref (G.2.1 + j0a), .int x1a, .int x2a].toArray below meth c G Post H locs (F0 m 110 ls [.int t0, .int t1, .ref (G.2.1 + js2), .int t3, .ref (G.2.1 + js4)]) := by
    intro A62 hA62 M j0 x1 x4 x5 x6 x7 t0 t1 js2 t3 js4 H locs ls hP hS hl hk_j0 hk_js2 hk_js4 h
    unfold bX4_partAmongGates_110 at h
    refine rc_Vi (As := [.int t1, .int t0]) (rest := [.int t3, .ref (G.2.1 + js4)]) ⟨hx, hb, hml, hown, hts⟩ (mX4_throughGate l G js2 t1 t0 M _ hk_js2 h) (cwV 2 hts (gV_X4_throughGate q_16_22) rfl rfl rfl hdV_X4_throughGate ⟨Nat.le_of_ble_eq_true rfl, Nat.le_of_ble_eq_true rfl⟩) hK hP hS hk_js2 (by decide) cl_4 rfl hl.1 rfl (Nat.le_of_ble_eq_true rfl) dX4_partAmongGates_110 ⟨Nat.zero_le _, Nat.zero_le _⟩ (fun r22 M21 H locs h hP hS => ?_)
    refine rk_iast hx hb hK hP hS hk_js4 ac_8 _ rfl h.1 dX4_partAmongGates_113 (fun M23 eM23 H locs hP hS => ?_)
    replace h := h.2
    replace h := h M23 eM23
    refine lv_iload hx hb dX4_partAmongGates_114 (lv_at hl 4 rfl) ?_
    refine lv_aload_n hx hb dX4_partAmongGates_116 rfl (lv_at hl 0 rfl) ?_
    refine rk_getr hx hb hts inlX4 hown hK hP hk_j0 cl_4 0 1 fq_4_0 q_2_4 rfl dX4_partAmongGates_117 ?_
    refine rk_getr hx hb hts inlX0 hown hK hP (ky_4_0 hk_j0) cl_0 7 6 fq_0_7 q_15_10 rfl dX4_partAmongGates_120 ?_
    refine lv_iload hx hb dX4_partAmongGates_123 (lv_at hl 5 rfl) ?_
    refine rk_iald hx hb hK hP (ky_0_7 (ky_4_0 hk_j0)) ac_8 _ rfl h.1 dX4_partAmongGates_125 ?_
    replace h := h.2
    refine lv_iadd hx hb dX4_partAmongGates_126 ?_
    refine lv_topi (fun x6_24 ex6_24 => ?_)
    replace h := h x6_24 ex6_24
    refine lv_istore (lv' := [(6, .int x6_24), (0, .ref (G.2.1 + j0)), (1, .int x1), (4, .int x4), (5, .int x5), (7, .int x7)]) hx hb dX4_partAmongGates_127 hl (by decide) rfl (fun ls hl => ?_)
    obtain ⟨x5_25, ex5_25⟩ : ∃ y : Int32, y = x5 + (-1 : Int32) := ⟨_, rfl⟩
    replace h := h x5_25 ex5_25
    refine lv_iinc (v := x5_25) (lv' := [(5, .int x5_25), (6, .int x6_24), (0, .ref (G.2.1 + j0)), (1, .int x1), (4, .int x4), (7, .int x7)]) hx hb dX4_partAmongGates_129 hl (k := 4) rfl (by rw [ex5_25]; rfl) (by decide) rfl (fun ls hl => ?_)
    obtain ⟨x7_26, ex7_26⟩ : ∃ y : Int32, y = x7 + (1 : Int32) := ⟨_, rfl⟩
    replace h := h x7_26 ex7_26
    refine lv_iinc (v := x7_26) (lv' := [(7, .int x7_26), (5, .int x5_25), (6, .int x6_24), (0, .ref (G.2.1 + j0)), (1, .int x1), (4, .int x4)]) hx hb dX4_partAmongGates_132 hl (k := 5) rfl (by rw [ex7_26]; rfl) (by decide) rfl (fun ls hl => ?_)
    refine lv_goto (tgt := 62) hx hb dX4_partAmongGates_135 (by decide) ?_
    exact hA62 _ _ _ _ _ _ _ _ _ _ hP hS (lv_sub hl [3, 4, 5, 1, 2, 0] rfl) hk_j0 h
  have B62 : ∀ n : Nat, ∀ (M : Mm) (j0 : Nat) (x1 : Int32) (x4 : Int32) (x5 : Int32) (x6 : Int32) (x7 : Int32) (H : Heap) (locs : List Loc) (ls : Array Slot), Rp G M H → va_S (Fr G) s.heap H locs → lv_has ls 8 [(0, .ref (G.2.1 + j0)), (1, .int x1), (4, .int x4), (5, .int x5), (6, .int x6), (7, .int x7)] → kd j0 = 4 → lX4_partAmongGates_62 Post n M j0 x1 x4 x5 x6 x7 → Wi p l e (headSpec wsX4_partAmongGates rX4_partAmongGates).room s m [.ref (G.2.1 + j0a), .int x1a, .int x2a].toArray below meth c G Post H locs (F0 m 62 ls []) := by
    intro n
    induction n with
    | zero => intro M j0 x1 x4 x5 x6 x7 H locs ls hP hS hl hk_j0 h; exact h.elim
    | succ n ih =>
      intro M j0 x1 x4 x5 x6 x7 H locs ls hP hS hl hk_j0 h
      have hA62 := ih
      replace h : bX4_partAmongGates_62 Post (lX4_partAmongGates_62 Post n) M j0 x1 x4 x5 x6 x7 := h
      unfold bX4_partAmongGates_62 at h
      refine lv_iload hx hb dX4_partAmongGates_62 (lv_at hl 5 rfl) ?_
      refine lv_aload_n hx hb dX4_partAmongGates_64 rfl (lv_at hl 0 rfl) ?_
      refine rk_getr hx hb hts inlX4 hown hK hP hk_j0 cl_4 0 1 fq_4_0 q_2_4 rfl dX4_partAmongGates_65 ?_
      refine rk_geti hx hb hts inlX0 hown hK hP (ky_4_0 hk_j0) cl_0 0 fq_0_0 q_7_19 rfl dX4_partAmongGates_68 ?_
      refine lv_icmp_ge (tgt := 138) hx hb dX4_partAmongGates_71 (by decide) (fun c15 => ?_) (fun c15 => ?_)
      · replace h := h.1 c15
        refine lv_iload hx hb dX4_partAmongGates_138 (lv_at hl 4 rfl) ?_
        exact re_i hx hb hr hlocks hP hS h dX4_partAmongGates_140
      · replace h := h.2 c15
        refine lv_aload_n hx hb dX4_partAmongGates_74 rfl (lv_at hl 0 rfl) ?_
        refine lv_iload_n hx hb dX4_partAmongGates_75 rfl (lv_at hl 1 rfl) ?_
        refine lv_iload hx hb dX4_partAmongGates_76 (lv_at hl 5 rfl) ?_
        refine rc_Vi (As := [.int x1, .int x7]) (rest := []) ⟨hx, hb, hml, hown, hts⟩ (mX4_isPassingFrom l G j0 x1 x7 M _ hk_j0 h) (cwV 2 hts (gV_X4_isPassingFrom q_16_18) rfl rfl rfl hdV_X4_isPassingFrom ⟨Nat.le_of_ble_eq_true rfl, Nat.le_of_ble_eq_true rfl⟩) hK hP hS hk_j0 (by decide) cl_4 rfl hl.1 rfl (Nat.le_of_ble_eq_true rfl) dX4_partAmongGates_78 ⟨Nat.zero_le _, Nat.zero_le _⟩ (fun r17 M16 H locs h hP hS => ?_)
        refine lv_if_eq (tgt := 132) hx hb dX4_partAmongGates_81 (by decide) (fun c18 => ?_) (fun c18 => ?_)
        · replace h := h.1 c18
          obtain ⟨x7_19, ex7_19⟩ : ∃ y : Int32, y = x7 + (1 : Int32) := ⟨_, rfl⟩
          replace h := h x7_19 ex7_19
          refine lv_iinc (v := x7_19) (lv' := [(7, .int x7_19), (0, .ref (G.2.1 + j0)), (1, .int x1), (4, .int x4), (5, .int x5), (6, .int x6)]) hx hb dX4_partAmongGates_132 hl (k := 5) rfl (by rw [ex7_19]; rfl) (by decide) rfl (fun ls hl => ?_)
          refine lv_goto (tgt := 62) hx hb dX4_partAmongGates_135 (by decide) ?_
          exact hA62 _ _ _ _ _ _ _ _ _ _ hP hS (lv_sub hl [1, 2, 3, 4, 5, 0] rfl) hk_j0 h
        · replace h := h.2 c18
          refine lv_aload_n hx hb dX4_partAmongGates_84 rfl (lv_at hl 0 rfl) ?_
          refine rk_getr hx hb hts inlX4 hown hK hP hk_j0 cl_4 0 1 fq_4_0 q_2_4 rfl dX4_partAmongGates_85 ?_
          refine rk_getr hx hb hts inlX0 hown hK hP (ky_4_0 hk_j0) cl_0 7 6 fq_0_7 q_15_10 rfl dX4_partAmongGates_88 ?_
          refine lv_iload hx hb dX4_partAmongGates_91 (lv_at hl 5 rfl) ?_
          refine lv_aload_n hx hb dX4_partAmongGates_93 rfl (lv_at hl 0 rfl) ?_
          refine lv_iload hx hb dX4_partAmongGates_94 (lv_at hl 5 rfl) ?_
          refine lv_iload hx hb dX4_partAmongGates_96 (lv_at hl 3 rfl) ?_
          refine lv_if_le (tgt := 108) hx hb dX4_partAmongGates_98 (by decide) (fun c20 => ?_) (fun c20 => ?_)
          · replace h := h.1 c20
            refine lv_iload hx hb dX4_partAmongGates_108 (lv_at hl 2 rfl) ?_
            exact B110 _ hA62 _ _ _ _ _ _ _ _ _ _ _ _ _ _ _ hP hS (lv_sub hl [0, 1, 2, 3, 4, 5] rfl) hk_j0 hk_j0 (ky_0_7 (ky_4_0 hk_j0)) h
          · replace h := h.2 c20
            refine lv_iload hx hb dX4_partAmongGates_101 (lv_at hl 2 rfl) ?_
            refine lv_iconst (v := (1 : Int32)) hx hb dX4_partAmongGates_103 k_iconst_1 ?_
            refine lv_iadd hx hb dX4_partAmongGates_104 ?_
            refine lv_goto (tgt := 110) hx hb dX4_partAmongGates_105 (by decide) ?_
            exact B110 _ hA62 _ _ _ _ _ _ _ _ _ _ _ _ _ _ _ hP hS (lv_sub hl [0, 1, 2, 3, 4, 5] rfl) hk_j0 hk_j0 (ky_0_7 (ky_4_0 hk_j0)) h
  have B7 : ∀ n : Nat, ∀ (M : Mm) (j0 : Nat) (x1 : Int32) (x2 : Int32) (x3 : Int32) (x4 : Int32) (H : Heap) (locs : List Loc) (ls : Array Slot), Rp G M H → va_S (Fr G) s.heap H locs → lv_has ls 8 [(0, .ref (G.2.1 + j0)), (1, .int x1), (2, .int x2), (3, .int x3), (4, .int x4)] → kd j0 = 4 → lX4_partAmongGates_7 Post n M j0 x1 x2 x3 x4 → Wi p l e (headSpec wsX4_partAmongGates rX4_partAmongGates).room s m [.ref (G.2.1 + j0a), .int x1a, .int x2a].toArray below meth c G Post H locs (F0 m 7 ls []) := by
    intro n
    induction n with
    | zero => intro M j0 x1 x2 x3 x4 H locs ls hP hS hl hk_j0 h; exact h.elim
    | succ n ih =>
      intro M j0 x1 x2 x3 x4 H locs ls hP hS hl hk_j0 h
      have hA7 := ih
      replace h : bX4_partAmongGates_7 Post (lX4_partAmongGates_7 Post n) M j0 x1 x2 x3 x4 := h
      unfold bX4_partAmongGates_7 at h
      refine lv_iload hx hb dX4_partAmongGates_7 (lv_at hl 4 rfl) ?_
      refine lv_aload_n hx hb dX4_partAmongGates_9 rfl (lv_at hl 0 rfl) ?_
      refine rk_getr hx hb hts inlX4 hown hK hP hk_j0 cl_4 0 1 fq_4_0 q_2_4 rfl dX4_partAmongGates_10 ?_
      refine rk_geti hx hb hts inlX0 hown hK hP (ky_4_0 hk_j0) cl_0 0 fq_0_0 q_7_19 rfl dX4_partAmongGates_13 ?_
      refine lv_icmp_ge (tgt := 38) hx hb dX4_partAmongGates_16 (by decide) (fun c3 => ?_) (fun c3 => ?_)
      · replace h := h.1 c3
        refine lv_iload_n hx hb dX4_partAmongGates_38 rfl (lv_at hl 3 rfl) ?_
        refine lv_if_ne (tgt := 44) hx hb dX4_partAmongGates_39 (by decide) (fun c4 => ?_) (fun c4 => ?_)
        · replace h := h.1 c4
          refine lv_iload_n hx hb dX4_partAmongGates_44 rfl (lv_at hl 2 rfl) ?_
          refine lv_iload_n hx hb dX4_partAmongGates_45 rfl (lv_at hl 3 rfl) ?_
          refine lv_idiv hx hb dX4_partAmongGates_46 h.1 ?_
          replace h := h.2
          refine lv_topi (fun x4_5 ex4_5 => ?_)
          replace h := h x4_5 ex4_5
          refine lv_istore (lv' := [(4, .int x4_5), (0, .ref (G.2.1 + j0)), (1, .int x1), (2, .int x2), (3, .int x3)]) hx hb dX4_partAmongGates_47 hl (by decide) rfl (fun ls hl => ?_)
          refine lv_iload_n hx hb dX4_partAmongGates_49 rfl (lv_at hl 3 rfl) ?_
          refine lv_iload_n hx hb dX4_partAmongGates_50 rfl (lv_at hl 4 rfl) ?_
          refine lv_irem hx hb dX4_partAmongGates_51 h.1 ?_
          replace h := h.2
          refine lv_topi (fun x5_6 ex5_6 => ?_)
          replace h := h x5_6 ex5_6
          refine lv_istore (lv' := [(5, .int x5_6), (4, .int x4_5), (0, .ref (G.2.1 + j0)), (1, .int x1), (2, .int x2), (3, .int x3)]) hx hb dX4_partAmongGates_52 hl (by decide) rfl (fun ls hl => ?_)
          refine lv_iconst (v := (0 : Int32)) hx hb dX4_partAmongGates_54 k_iconst_0 ?_
          refine lv_istore (lv' := [(6, .int (0 : Int32)), (5, .int x5_6), (4, .int x4_5), (0, .ref (G.2.1 + j0)), (1, .int x1), (2, .int x2), (3, .int x3)]) hx hb dX4_partAmongGates_55 hl (by decide) rfl (fun ls hl => ?_)
          refine lv_iload_n hx hb dX4_partAmongGates_57 rfl (lv_at hl 4 rfl) ?_
          refine lv_iconst (v := (1 : Int32)) hx hb dX4_partAmongGates_58 k_iconst_1 ?_
          refine lv_iadd hx hb dX4_partAmongGates_59 ?_
          refine lv_topi (fun x7_7 ex7_7 => ?_)
          replace h := h x7_7 ex7_7
          refine lv_istore (lv' := [(7, .int x7_7), (6, .int (0 : Int32)), (5, .int x5_6), (4, .int x4_5), (0, .ref (G.2.1 + j0)), (1, .int x1), (2, .int x2), (3, .int x3)]) hx hb dX4_partAmongGates_60 hl (by decide) rfl (fun ls hl => ?_)
          obtain ⟨n8, h⟩ := h
          exact B62 _ _ _ _ _ _ _ _ _ _ _ hP hS (lv_sub hl [4, 5, 3, 2, 1, 0] rfl) hk_j0 h
        · replace h := h.2 c4
          refine lv_iconst (v := (0 : Int32)) hx hb dX4_partAmongGates_42 k_iconst_0 ?_
          exact re_i hx hb hr hlocks hP hS h dX4_partAmongGates_43
      · replace h := h.2 c3
        refine lv_aload_n hx hb dX4_partAmongGates_19 rfl (lv_at hl 0 rfl) ?_
        refine lv_iload_n hx hb dX4_partAmongGates_20 rfl (lv_at hl 1 rfl) ?_
        refine lv_iload hx hb dX4_partAmongGates_21 (lv_at hl 4 rfl) ?_
        refine rc_Vi (As := [.int x1, .int x4]) (rest := []) ⟨hx, hb, hml, hown, hts⟩ (mX4_isPassingFrom l G j0 x1 x4 M _ hk_j0 h) (cwV 2 hts (gV_X4_isPassingFrom q_16_18) rfl rfl rfl hdV_X4_isPassingFrom ⟨Nat.le_of_ble_eq_true rfl, Nat.le_of_ble_eq_true rfl⟩) hK hP hS hk_j0 (by decide) cl_4 rfl hl.1 rfl (Nat.le_of_ble_eq_true rfl) dX4_partAmongGates_23 ⟨Nat.zero_le _, Nat.zero_le _⟩ (fun r10 M9 H locs h hP hS => ?_)
        refine lv_if_eq (tgt := 32) hx hb dX4_partAmongGates_26 (by decide) (fun c11 => ?_) (fun c11 => ?_)
        · replace h := h.1 c11
          obtain ⟨x4_12, ex4_12⟩ : ∃ y : Int32, y = x4 + (1 : Int32) := ⟨_, rfl⟩
          replace h := h x4_12 ex4_12
          refine lv_iinc (v := x4_12) (lv' := [(4, .int x4_12), (0, .ref (G.2.1 + j0)), (1, .int x1), (2, .int x2), (3, .int x3)]) hx hb dX4_partAmongGates_32 hl (k := 4) rfl (by rw [ex4_12]; rfl) (by decide) rfl (fun ls hl => ?_)
          refine lv_goto (tgt := 7) hx hb dX4_partAmongGates_35 (by decide) ?_
          exact hA7 _ _ _ _ _ _ _ _ _ hP hS (lv_sub hl [1, 2, 3, 4, 0] rfl) hk_j0 h
        · replace h := h.2 c11
          obtain ⟨x3_13, ex3_13⟩ : ∃ y : Int32, y = x3 + (1 : Int32) := ⟨_, rfl⟩
          replace h := h x3_13 ex3_13
          refine lv_iinc (v := x3_13) (lv' := [(3, .int x3_13), (0, .ref (G.2.1 + j0)), (1, .int x1), (2, .int x2), (4, .int x4)]) hx hb dX4_partAmongGates_29 hl (k := 3) rfl (by rw [ex3_13]; rfl) (by decide) rfl (fun ls hl => ?_)
          obtain ⟨x4_14, ex4_14⟩ : ∃ y : Int32, y = x4 + (1 : Int32) := ⟨_, rfl⟩
          replace h := h x4_14 ex4_14
          refine lv_iinc (v := x4_14) (lv' := [(4, .int x4_14), (3, .int x3_13), (0, .ref (G.2.1 + j0)), (1, .int x1), (2, .int x2)]) hx hb dX4_partAmongGates_32 hl (k := 4) rfl (by rw [ex4_14]; rfl) (by decide) rfl (fun ls hl => ?_)
          refine lv_goto (tgt := 7) hx hb dX4_partAmongGates_35 (by decide) ?_
          exact hA7 _ _ _ _ _ _ _ _ _ hP hS (lv_sub hl [2, 3, 4, 1, 0] rfl) hk_j0 h
  unfold wX4_partAmongGates at h
  refine lv_iconst (v := (0 : Int32)) hx hb dX4_partAmongGates_0 k_iconst_0 ?_
  refine lv_istore_n (lv' := [(3, .int (0 : Int32)), (0, .ref (G.2.1 + j0a)), (1, .int x1a), (2, .int x2a)]) hx hb dX4_partAmongGates_1 rfl hl (by decide) rfl (fun ls hl => ?_)
  refine lv_iload_n hx hb dX4_partAmongGates_2 rfl (lv_at hl 2 rfl) ?_
  refine lv_iconst (v := (1 : Int32)) hx hb dX4_partAmongGates_3 k_iconst_1 ?_
  refine lv_iadd hx hb dX4_partAmongGates_4 ?_
  refine lv_topi (fun x4_1 ex4_1 => ?_)
  replace h := h x4_1 ex4_1
  refine lv_istore (lv' := [(4, .int x4_1), (3, .int (0 : Int32)), (0, .ref (G.2.1 + j0a)), (1, .int x1a), (2, .int x2a)]) hx hb dX4_partAmongGates_5 hl (by decide) rfl (fun ls hl => ?_)
  obtain ⟨n2, h⟩ := h
  exact B7 _ _ _ _ _ _ _ _ _ _ hP hS (lv_sub hl [2, 3, 4, 1, 0] rfl) hk_j0a h
set_option maxHeartbeats 4000000 in
set_option maxRecDepth 100000 in
theorem mX4_endCalls (l : Launch) (G : Gp) (j0a : Nat) (M : Mm) (Post : Mm → Prop) (hk_j0a : kd j0a = 4) (h : wX4_endCalls Post M j0a) : CtV l yX4_endCalls wsX4_endCalls rX4_endCalls G [.ref (G.2.1 + j0a)] M Post := by
  refine Met.ofW (cc := cX4_endCalls) (maxL := 1) (ret := none) (by decide) rfl ?_
  intro p e s m args below meth c s₁ B hml hv
  obtain ⟨rfl, hK, hP⟩ := hv
  have hx := B.exec
  have hb := B.bytes
  have hr := B.returns
  have hlocks := B.notSynchronized
  have hts0 := atoms_spec (ws := wsX4_endCalls) B.pre
  have hts : ∀ w ∈ wsL_law, w.before _ s = true := fun w hw => hts0 w (List.mem_cons_of_mem _ hw)
  have hown : s.vm.findClass RX4 = some m.cls := findClass_of_methodNamed B.named
  have hS : va_S (Fr G) s.heap s.heap [] := va_S.rf
  have hl := lv_entry ([.ref (G.2.1 + j0a)]) (n := 1) (Nat.le_of_ble_eq_true rfl)
  rw [lg_entry_eq]
  generalize (lg_sl ([.ref (G.2.1 + j0a)]) ++ List.replicate (1 - (lg_sl ([.ref (G.2.1 + j0a)])).length) Slot.unset).toArray = ls at hl ⊢
  have hl : lv_has ls 1 [(0, .ref (G.2.1 + j0a))] := hl
  unfold wX4_endCalls at h
  refine lv_aload_n hx hb dX4_endCalls_0 rfl (lv_at hl 0 rfl) ?_
  refine rk_getr hx hb hts inlX4 hown hK hP hk_j0a cl_4 1 10 fq_4_1 q_2_8 rfl dX4_endCalls_1 ?_
  refine lv_dup hx hb dX4_endCalls_4 rfl ?_
  refine rk_geti hx hb hts inlX1 hown hK hP (ky_4_1 hk_j0a) cl_1 1 fq_1_1 q_17_6 rfl dX4_endCalls_5 ?_
  refine lv_aload_n hx hb dX4_endCalls_8 rfl (lv_at hl 0 rfl) ?_
  refine rk_getr hx hb hts inlX4 hown hK hP hk_j0a cl_4 1 10 fq_4_1 q_2_8 rfl dX4_endCalls_9 ?_
  refine rc_Vi (As := []) (rest := [.int (M (j0a + 10) 1), .ref (G.2.1 + (j0a + 10))]) ⟨hx, hb, hml, hown, hts⟩ (mX1_wanting l G (j0a + 10) M _ (ky_4_1 hk_j0a) h) (cwV 0 hts (gV_X1_wanting q_17_7) rfl rfl rfl hdV_X1_wanting ⟨Nat.le_of_ble_eq_true rfl, Nat.le_of_ble_eq_true rfl⟩) hK hP hS (ky_4_1 hk_j0a) (by decide) cl_1 rfl hl.1 rfl (Nat.le_of_ble_eq_true rfl) dX4_endCalls_12 ⟨Nat.zero_le _, Nat.zero_le _⟩ (fun r2 M1 H locs h hP hS => ?_)
  refine lv_iand hx hb dX4_endCalls_15 ?_
  refine rk_puti hx hb hts inlX1 tyX1 tyX1_ok nmX1 hown hK hP hS (ky_4_1 hk_j0a) cl_1 1 fq_1_1 q_17_6 rfl rfl rfl dX4_endCalls_16 (fun M3 eM3 H locs hP hS => ?_)
  replace h := h M3 eM3
  exact re_v hx hb hr hlocks hP hS h dX4_endCalls_19
set_option maxHeartbeats 4000000 in
set_option maxRecDepth 100000 in
theorem mX4_passHour (l : Launch) (G : Gp) (j0a : Nat) (x1a : Int32) (M : Mm) (Post : Mm → Int32 → Prop) (hk_j0a : kd j0a = 4) (h : wX4_passHour Post M j0a x1a) : CtI l yX4_passHour wsX4_passHour rX4_passHour G [.ref (G.2.1 + j0a), .int x1a] M Post := by
  refine Met.ofW (cc := cX4_passHour) (maxL := 5) (ret := (some .int)) (by decide) rfl ?_
  intro p e s m args below meth c s₁ B hml hv
  obtain ⟨rfl, hK, hP⟩ := hv
  have hx := B.exec
  have hb := B.bytes
  have hr := B.returns
  have hlocks := B.notSynchronized
  have hts0 := atoms_spec (ws := wsX4_passHour) B.pre
  have hts : ∀ w ∈ wsL_law, w.before _ s = true := fun w hw => hts0 w (List.mem_cons_of_mem _ hw)
  have hown : s.vm.findClass RX4 = some m.cls := findClass_of_methodNamed B.named
  have hS : va_S (Fr G) s.heap s.heap [] := va_S.rf
  have hl := lv_entry ([.ref (G.2.1 + j0a), .int x1a]) (n := 5) (Nat.le_of_ble_eq_true rfl)
  rw [lg_entry_eq]
  generalize (lg_sl ([.ref (G.2.1 + j0a), .int x1a]) ++ List.replicate (5 - (lg_sl ([.ref (G.2.1 + j0a), .int x1a])).length) Slot.unset).toArray = ls at hl ⊢
  have hl : lv_has ls 5 [(0, .ref (G.2.1 + j0a)), (1, .int x1a)] := hl
  have B76 : ∀ n : Nat, ∀ (M : Mm) (j0 : Nat) (x2 : Int32) (x3 : Int32) (H : Heap) (locs : List Loc) (ls : Array Slot), Rp G M H → va_S (Fr G) s.heap H locs → lv_has ls 5 [(0, .ref (G.2.1 + j0)), (2, .int x2), (3, .int x3)] → kd j0 = 4 → lX4_passHour_76 Post n M j0 x2 x3 → Wi p l e (headSpec wsX4_passHour rX4_passHour).room s m [.ref (G.2.1 + j0a), .int x1a].toArray below meth c G Post H locs (F0 m 76 ls []) := by
    intro n
    induction n with
    | zero => intro M j0 x2 x3 H locs ls hP hS hl hk_j0 h; exact h.elim
    | succ n ih =>
      intro M j0 x2 x3 H locs ls hP hS hl hk_j0 h
      have hA76 := ih
      replace h : bX4_passHour_76 Post (lX4_passHour_76 Post n) M j0 x2 x3 := h
      unfold bX4_passHour_76 at h
      refine lv_iload_n hx hb dX4_passHour_76 rfl (lv_at hl 2 rfl) ?_
      refine lv_aload_n hx hb dX4_passHour_77 rfl (lv_at hl 0 rfl) ?_
      refine rk_getr hx hb hts inlX4 hown hK hP hk_j0 cl_4 0 1 fq_4_0 q_2_4 rfl dX4_passHour_78 ?_
      refine rk_geti hx hb hts inlX0 hown hK hP (ky_4_0 hk_j0) cl_0 0 fq_0_0 q_7_19 rfl dX4_passHour_81 ?_
      refine lv_icmp_ge (tgt := 165) hx hb dX4_passHour_84 (by decide) (fun c12 => ?_) (fun c12 => ?_)
      · replace h := h.1 c12
        refine lv_aload_n hx hb dX4_passHour_165 rfl (lv_at hl 0 rfl) ?_
        refine rc_Vv (As := []) (rest := []) ⟨hx, hb, hml, hown, hts⟩ (mX4_endCalls l G j0 M _ hk_j0 h) (cwV 0 hts (gV_X4_endCalls q_17_2) rfl rfl rfl hdV_X4_endCalls ⟨Nat.le_of_ble_eq_true rfl, Nat.le_of_ble_eq_true rfl⟩) hK hP hS hk_j0 (by decide) cl_4 rfl hl.1 rfl (Nat.le_of_ble_eq_true rfl) dX4_passHour_166 ⟨Nat.zero_le _, Nat.zero_le _⟩ (fun M13 H locs h hP hS => ?_)
        refine lv_aload_n hx hb dX4_passHour_169 rfl (lv_at hl 0 rfl) ?_
        refine rk_geti hx hb hts inlX4 hown hK hP hk_j0 cl_4 5 fq_4_5 q_10_18 rfl dX4_passHour_170 ?_
        refine lv_iload_n hx hb dX4_passHour_173 rfl (lv_at hl 1 rfl) ?_
        refine lv_isub hx hb dX4_passHour_174 ?_
        exact re_i hx hb hr hlocks hP hS h dX4_passHour_175
      · replace h := h.2 c12
        refine lv_aload_n hx hb dX4_passHour_87 rfl (lv_at hl 0 rfl) ?_
        refine rk_getr hx hb hts inlX4 hown hK hP hk_j0 cl_4 0 1 fq_4_0 q_2_4 rfl dX4_passHour_88 ?_
        refine rk_getr hx hb hts inlX0 hown hK hP (ky_4_0 hk_j0) cl_0 7 6 fq_0_7 q_15_10 rfl dX4_passHour_91 ?_
        refine lv_iload_n hx hb dX4_passHour_94 rfl (lv_at hl 2 rfl) ?_
        refine rk_iald hx hb hK hP (ky_0_7 (ky_4_0 hk_j0)) ac_8 _ rfl h.1 dX4_passHour_95 ?_
        replace h := h.2
        refine lv_topi (fun x4_15 ex4_15 => ?_)
        replace h := h x4_15 ex4_15
        refine lv_istore (lv' := [(4, .int x4_15), (0, .ref (G.2.1 + j0)), (2, .int x2), (3, .int x3)]) hx hb dX4_passHour_96 hl (by decide) rfl (fun ls hl => ?_)
        refine lv_iload hx hb dX4_passHour_98 (lv_at hl 0 rfl) ?_
        refine lv_aload_n hx hb dX4_passHour_100 rfl (lv_at hl 1 rfl) ?_
        refine lv_iload_n hx hb dX4_passHour_101 rfl (lv_at hl 3 rfl) ?_
        refine lv_iload hx hb dX4_passHour_102 (lv_at hl 0 rfl) ?_
        refine rc_Vi (As := [.int x3, .int x4_15]) (rest := [.int x4_15]) ⟨hx, hb, hml, hown, hts⟩ (mX4_seepAway l G j0 x3 x4_15 M _ hk_j0 h) (cwV 2 hts (gV_X4_seepAway q_15_21) rfl rfl rfl hdV_X4_seepAway ⟨Nat.le_of_ble_eq_true rfl, Nat.le_of_ble_eq_true rfl⟩) hK hP hS hk_j0 (by decide) cl_4 rfl hl.1 rfl (Nat.le_of_ble_eq_true rfl) dX4_passHour_104 ⟨Nat.zero_le _, Nat.zero_le _⟩ (fun r17 M16 H locs h hP hS => ?_)
        refine lv_isub hx hb dX4_passHour_107 ?_
        refine lv_topi (fun x4_18 ex4_18 => ?_)
        replace h := h x4_18 ex4_18
        refine lv_istore (lv' := [(4, .int x4_18), (0, .ref (G.2.1 + j0)), (2, .int x2), (3, .int x3)]) hx hb dX4_passHour_108 hl (by decide) rfl (fun ls hl => ?_)
        refine lv_iload hx hb dX4_passHour_110 (lv_at hl 0 rfl) ?_
        refine lv_aload_n hx hb dX4_passHour_112 rfl (lv_at hl 1 rfl) ?_
        refine lv_iload_n hx hb dX4_passHour_113 rfl (lv_at hl 3 rfl) ?_
        refine lv_iload hx hb dX4_passHour_114 (lv_at hl 0 rfl) ?_
        refine rc_Vi (As := [.int x3, .int x4_18]) (rest := [.int x4_18]) ⟨hx, hb, hml, hown, hts⟩ (mX4_giveToFields l G j0 x3 x4_18 M16 _ hk_j0 h) (cwV 2 hts (gV_X4_giveToFields q_16_3) rfl rfl rfl hdV_X4_giveToFields ⟨Nat.le_of_ble_eq_true rfl, Nat.le_of_ble_eq_true rfl⟩) hK hP hS hk_j0 (by decide) cl_4 rfl hl.1 rfl (Nat.le_of_ble_eq_true rfl) dX4_passHour_116 ⟨Nat.zero_le _, Nat.zero_le _⟩ (fun r20 M19 H locs h hP hS => ?_)
        refine lv_isub hx hb dX4_passHour_119 ?_
        refine lv_topi (fun x4_21 ex4_21 => ?_)
        replace h := h x4_21 ex4_21
        refine lv_istore (lv' := [(4, .int x4_21), (0, .ref (G.2.1 + j0)), (2, .int x2), (3, .int x3)]) hx hb dX4_passHour_120 hl (by decide) rfl (fun ls hl => ?_)
        refine lv_iload hx hb dX4_passHour_122 (lv_at hl 0 rfl) ?_
        refine lv_aload_n hx hb dX4_passHour_124 rfl (lv_at hl 1 rfl) ?_
        refine lv_iload_n hx hb dX4_passHour_125 rfl (lv_at hl 3 rfl) ?_
        refine lv_iload hx hb dX4_passHour_126 (lv_at hl 0 rfl) ?_
        refine rc_Vi (As := [.int x3, .int x4_21]) (rest := [.int x4_21]) ⟨hx, hb, hml, hown, hts⟩ (mX4_partAmongGates l G j0 x3 x4_21 M19 _ hk_j0 h) (cwV 2 hts (gV_X4_partAmongGates q_16_14) rfl rfl rfl hdV_X4_partAmongGates ⟨Nat.le_of_ble_eq_true rfl, Nat.le_of_ble_eq_true rfl⟩) hK hP hS hk_j0 (by decide) cl_4 rfl hl.1 rfl (Nat.le_of_ble_eq_true rfl) dX4_passHour_128 ⟨Nat.zero_le _, Nat.zero_le _⟩ (fun r23 M22 H locs h hP hS => ?_)
        refine lv_isub hx hb dX4_passHour_131 ?_
        refine lv_topi (fun x4_24 ex4_24 => ?_)
        replace h := h x4_24 ex4_24
        refine lv_istore (lv' := [(4, .int x4_24), (0, .ref (G.2.1 + j0)), (2, .int x2), (3, .int x3)]) hx hb dX4_passHour_132 hl (by decide) rfl (fun ls hl => ?_)
        refine lv_aload_n hx hb dX4_passHour_134 rfl (lv_at hl 1 rfl) ?_
        refine rk_getr hx hb hts inlX4 hown hK hP hk_j0 cl_4 0 1 fq_4_0 q_2_4 rfl dX4_passHour_135 ?_
        refine rk_getr hx hb hts inlX0 hown hK hP (ky_4_0 hk_j0) cl_0 9 8 fq_0_9 q_15_12 rfl dX4_passHour_138 ?_
        refine lv_iload_n hx hb dX4_passHour_141 rfl (lv_at hl 3 rfl) ?_
        refine lv_dup2_11 hx hb dX4_passHour_142 rfl rfl ?_
        refine rk_iald hx hb hK hP (ky_0_9 (ky_4_0 hk_j0)) ac_8 _ rfl h.1 dX4_passHour_143 ?_
        replace h := h.2
        refine lv_iload hx hb dX4_passHour_144 (lv_at hl 0 rfl) ?_
        refine lv_iadd hx hb dX4_passHour_146 ?_
        refine rk_iast hx hb hK hP hS (ky_0_9 (ky_4_0 hk_j0)) ac_8 _ rfl h.1 dX4_passHour_147 (fun M25 eM25 H locs hP hS => ?_)
        replace h := h.2
        replace h := h M25 eM25
        refine lv_aload_n hx hb dX4_passHour_148 rfl (lv_at hl 1 rfl) ?_
        refine lv_dup hx hb dX4_passHour_149 rfl ?_
        refine rk_geti hx hb hts inlX4 hown hK hP hk_j0 cl_4 7 fq_4_7 q_10_20 rfl dX4_passHour_150 ?_
        refine lv_iload hx hb dX4_passHour_153 (lv_at hl 0 rfl) ?_
        refine lv_iadd hx hb dX4_passHour_155 ?_
        refine rk_puti hx hb hts inlX4 tyX4 tyX4_ok nmX4 hown hK hP hS hk_j0 cl_4 7 fq_4_7 q_10_20 rfl rfl rfl dX4_passHour_156 (fun M26 eM26 H locs hP hS => ?_)
        replace h := h M26 eM26
        obtain ⟨x3_27, ex3_27⟩ : ∃ y : Int32, y = x3 + (1 : Int32) := ⟨_, rfl⟩
        replace h := h x3_27 ex3_27
        refine lv_iinc (v := x3_27) (lv' := [(3, .int x3_27), (4, .int x4_24), (0, .ref (G.2.1 + j0)), (2, .int x2)]) hx hb dX4_passHour_159 hl (k := 3) rfl (by rw [ex3_27]; rfl) (by decide) rfl (fun ls hl => ?_)
        refine lv_goto (tgt := 76) hx hb dX4_passHour_162 (by decide) ?_
        exact hA76 _ _ _ _ _ _ _ hP hS (lv_sub hl [2, 3, 0] rfl) hk_j0 h
  unfold wX4_passHour at h
  refine lv_aload_n hx hb dX4_passHour_0 rfl (lv_at hl 0 rfl) ?_
  refine rk_geti hx hb hts inlX4 hown hK hP hk_j0a cl_4 5 fq_4_5 q_10_18 rfl dX4_passHour_1 ?_
  refine lv_topi (fun x2_1 ex2_1 => ?_)
  replace h := h x2_1 ex2_1
  refine lv_istore_n (lv' := [(2, .int x2_1), (0, .ref (G.2.1 + j0a)), (1, .int x1a)]) hx hb dX4_passHour_4 rfl hl (by decide) rfl (fun ls hl => ?_)
  refine lv_aload_n hx hb dX4_passHour_5 rfl (lv_at hl 1 rfl) ?_
  refine lv_dup hx hb dX4_passHour_6 rfl ?_
  refine rk_geti hx hb hts inlX4 hown hK hP hk_j0a cl_4 3 fq_4_3 q_10_16 rfl dX4_passHour_7 ?_
  refine lv_iconst (v := (1 : Int32)) hx hb dX4_passHour_10 k_iconst_1 ?_
  refine lv_iadd hx hb dX4_passHour_11 ?_
  refine rk_puti hx hb hts inlX4 tyX4 tyX4_ok nmX4 hown hK hP hS hk_j0a cl_4 3 fq_4_3 q_10_16 rfl rfl rfl dX4_passHour_12 (fun M2 eM2 H locs hP hS => ?_)
  replace h := h M2 eM2
  refine lv_aload_n hx hb dX4_passHour_15 rfl (lv_at hl 1 rfl) ?_
  refine rc_Vv (As := []) (rest := []) ⟨hx, hb, hml, hown, hts⟩ (mX4_findCallsBelow l G j0a M2 _ hk_j0a h) (cwV 0 hts (gV_X4_findCallsBelow q_15_13) rfl rfl rfl hdV_X4_findCallsBelow ⟨Nat.le_of_ble_eq_true rfl, Nat.le_of_ble_eq_true rfl⟩) hK hP hS hk_j0a (by decide) cl_4 rfl hl.1 rfl (Nat.le_of_ble_eq_true rfl) dX4_passHour_16 ⟨Nat.zero_le _, Nat.zero_le _⟩ (fun M3 H locs h hP hS => ?_)
  refine lv_aload_n hx hb dX4_passHour_19 rfl (lv_at hl 1 rfl) ?_
  refine rc_Vv (As := []) (rest := []) ⟨hx, hb, hml, hown, hts⟩ (mX4_findPassingGates l G j0a M3 _ hk_j0a h) (cwV 0 hts (gV_X4_findPassingGates q_15_14) rfl rfl rfl hdV_X4_findPassingGates ⟨Nat.le_of_ble_eq_true rfl, Nat.le_of_ble_eq_true rfl⟩) hK hP hS hk_j0a (by decide) cl_4 rfl hl.1 rfl (Nat.le_of_ble_eq_true rfl) dX4_passHour_20 ⟨Nat.zero_le _, Nat.zero_le _⟩ (fun M5 H locs h hP hS => ?_)
  refine lv_aload_n hx hb dX4_passHour_23 rfl (lv_at hl 1 rfl) ?_
  refine rk_getr hx hb hts inlX4 hown hK hP hk_j0a cl_4 0 1 fq_4_0 q_2_4 rfl dX4_passHour_24 ?_
  refine rk_getr hx hb hts inlX0 hown hK hP (ky_4_0 hk_j0a) cl_0 7 6 fq_0_7 q_15_10 rfl dX4_passHour_27 ?_
  refine lv_iconst (v := (0 : Int32)) hx hb dX4_passHour_30 k_iconst_0 ?_
  refine rc_Sv (As := [.ref (G.2.1 + ((j0a + 1) + 6)), .int (0 : Int32)]) (rest := []) ⟨hx, hb, hml, hown, hts⟩ (mJ7_fill_53178 l G ((j0a + 1) + 6) (0 : Int32) M5 _ (ky_0_7 (ky_4_0 hk_j0a)) h) (va_cwS 2 hts (gS_J7_fill_53178 q_7_21) rfl rfl rfl hdS_J7_fill_53178 ⟨Nat.le_of_ble_eq_true rfl, Nat.le_of_ble_eq_true rfl⟩) hK hP hS rfl hl.1 rfl (Nat.le_of_ble_eq_true rfl) dX4_passHour_31 ⟨Nat.zero_le _, Nat.zero_le _⟩ (fun M7 H locs h hP hS => ?_)
  refine lv_aload_n hx hb dX4_passHour_34 rfl (lv_at hl 1 rfl) ?_
  refine rk_getr hx hb hts inlX4 hown hK hP hk_j0a cl_4 0 1 fq_4_0 q_2_4 rfl dX4_passHour_35 ?_
  refine rk_getr hx hb hts inlX0 hown hK hP (ky_4_0 hk_j0a) cl_0 7 6 fq_0_7 q_15_10 rfl dX4_passHour_38 ?_
  refine lv_iconst (v := (0 : Int32)) hx hb dX4_passHour_41 k_iconst_0 ?_
  refine lv_iload_n hx hb dX4_passHour_42 rfl (lv_at hl 2 rfl) ?_
  refine lv_aload_n hx hb dX4_passHour_43 rfl (lv_at hl 1 rfl) ?_
  refine rk_getr hx hb hts inlX4 hown hK hP hk_j0a cl_4 0 1 fq_4_0 q_2_4 rfl dX4_passHour_44 ?_
  refine rk_getr hx hb hts inlX0 hown hK hP (ky_4_0 hk_j0a) cl_0 4 3 fq_0_4 q_15_11 rfl dX4_passHour_47 ?_
  refine lv_iconst (v := (0 : Int32)) hx hb dX4_passHour_50 k_iconst_0 ?_
  refine rk_iald hx hb hK hP (ky_0_4 (ky_4_0 hk_j0a)) ac_8 0 ix_0 vi_0_8 dX4_passHour_51 ?_
  refine rk_min hx hb (hml.trans hl.1.symm) hts hown q_7_15 q_7_16 q_7_17 q_7_18 (Nat.le_of_ble_eq_true rfl) (Nat.le_of_ble_eq_true rfl) ⟨Nat.zero_le _, Nat.zero_le _⟩ dX4_passHour_52 ?_
  refine rk_iast hx hb hK hP hS (ky_0_7 (ky_4_0 hk_j0a)) ac_8 0 ix_0 vi_0_8 dX4_passHour_55 (fun M9 eM9 H locs hP hS => ?_)
  replace h := h M9 eM9
  refine lv_aload_n hx hb dX4_passHour_56 rfl (lv_at hl 1 rfl) ?_
  refine lv_dup hx hb dX4_passHour_57 rfl ?_
  refine rk_geti hx hb hts inlX4 hown hK hP hk_j0a cl_4 4 fq_4_4 q_10_17 rfl dX4_passHour_58 ?_
  refine lv_aload_n hx hb dX4_passHour_61 rfl (lv_at hl 1 rfl) ?_
  refine rk_getr hx hb hts inlX4 hown hK hP hk_j0a cl_4 0 1 fq_4_0 q_2_4 rfl dX4_passHour_62 ?_
  refine rk_getr hx hb hts inlX0 hown hK hP (ky_4_0 hk_j0a) cl_0 7 6 fq_0_7 q_15_10 rfl dX4_passHour_65 ?_
  refine lv_iconst (v := (0 : Int32)) hx hb dX4_passHour_68 k_iconst_0 ?_
  refine rk_iald hx hb hK hP (ky_0_7 (ky_4_0 hk_j0a)) ac_8 0 ix_0 vi_0_8 dX4_passHour_69 ?_
  refine lv_iadd hx hb dX4_passHour_70 ?_
  refine rk_puti hx hb hts inlX4 tyX4 tyX4_ok nmX4 hown hK hP hS hk_j0a cl_4 4 fq_4_4 q_10_17 rfl rfl rfl dX4_passHour_71 (fun M10 eM10 H locs hP hS => ?_)
  replace h := h M10 eM10
  refine lv_iconst (v := (0 : Int32)) hx hb dX4_passHour_74 k_iconst_0 ?_
  refine lv_istore_n (lv' := [(3, .int (0 : Int32)), (2, .int x2_1), (0, .ref (G.2.1 + j0a)), (1, .int x1a)]) hx hb dX4_passHour_75 rfl hl (by decide) rfl (fun ls hl => ?_)
  obtain ⟨n11, h⟩ := h
  exact B76 _ _ _ _ _ _ _ _ hP hS (lv_sub hl [2, 1, 0] rfl) hk_j0a h
set_option maxHeartbeats 4000000 in
set_option maxRecDepth 100000 in
theorem mX5_goOn (l : Launch) (G : Gp) (j0a : Nat) (M : Mm) (Post : Mm → Prop) (hk_j0a : kd j0a = 5) (h : wX5_goOn Post M j0a) : CtV l yX5_goOn wsX5_goOn rX5_goOn G [.ref (G.2.1 + j0a)] M Post := by
  refine Met.ofW (cc := cX5_goOn) (maxL := 1) (ret := none) (by decide) rfl ?_
  intro p e s m args below meth c s₁ B hml hv
  obtain ⟨rfl, hK, hP⟩ := hv
  have hx := B.exec
  have hb := B.bytes
  have hr := B.returns
  have hlocks := B.notSynchronized
  have hts0 := atoms_spec (ws := wsX5_goOn) B.pre
  have hts : ∀ w ∈ wsL_law, w.before _ s = true := fun w hw => hts0 w (List.mem_cons_of_mem _ hw)
  have hown : s.vm.findClass RX5 = some m.cls := findClass_of_methodNamed B.named
  have hS : va_S (Fr G) s.heap s.heap [] := va_S.rf
  have hl := lv_entry ([.ref (G.2.1 + j0a)]) (n := 1) (Nat.le_of_ble_eq_true rfl)
  rw [lg_entry_eq]
  generalize (lg_sl ([.ref (G.2.1 + j0a)]) ++ List.replicate (1 - (lg_sl ([.ref (G.2.1 + j0a)])).length) Slot.unset).toArray = ls at hl ⊢
  have hl : lv_has ls 1 [(0, .ref (G.2.1 + j0a))] := hl
  unfold wX5_goOn at h
  refine lv_aload_n hx hb dX5_goOn_0 rfl (lv_at hl 0 rfl) ?_
  refine rk_geti hx hb hts inlX5 hown hK hP hk_j0a cl_5 0 fq_5_0 q_11_14 rfl dX5_goOn_1 ?_
  refine lv_if_ne (tgt := 8) hx hb dX5_goOn_4 (by decide) (fun c1 => ?_) (fun c1 => ?_)
  · replace h := h.1 c1
    refine lv_aload_n hx hb dX5_goOn_8 rfl (lv_at hl 0 rfl) ?_
    refine lv_dup hx hb dX5_goOn_9 rfl ?_
    refine rk_geti hx hb hts inlX5 hown hK hP hk_j0a cl_5 2 fq_5_2 q_11_16 rfl dX5_goOn_10 ?_
    refine lv_iconst (v := (1 : Int32)) hx hb dX5_goOn_13 k_iconst_1 ?_
    refine lv_iadd hx hb dX5_goOn_14 ?_
    refine rk_puti hx hb hts inlX5 tyX5 tyX5_ok nmX5 hown hK hP hS hk_j0a cl_5 2 fq_5_2 q_11_16 rfl rfl rfl dX5_goOn_15 (fun M2 eM2 H locs hP hS => ?_)
    replace h := h M2 eM2
    refine lv_aload_n hx hb dX5_goOn_18 rfl (lv_at hl 0 rfl) ?_
    refine rk_geti hx hb hts inlX5 hown hK hP hk_j0a cl_5 2 fq_5_2 q_11_16 rfl dX5_goOn_19 ?_
    refine lv_aload_n hx hb dX5_goOn_22 rfl (lv_at hl 0 rfl) ?_
    refine rk_getr hx hb hts inlX5 hown hK hP hk_j0a cl_5 4 2 fq_5_4 q_3_19 rfl dX5_goOn_23 ?_
    refine lv_aload_n hx hb dX5_goOn_26 rfl (lv_at hl 0 rfl) ?_
    refine rk_geti hx hb hts inlX5 hown hK hP hk_j0a cl_5 1 fq_5_1 q_11_15 rfl dX5_goOn_27 ?_
    refine rk_iald hx hb hK hP (ky_5_4 hk_j0a) ac_8 _ rfl h.1 dX5_goOn_30 ?_
    replace h := h.2
    refine lv_icmp_lt (tgt := 66) hx hb dX5_goOn_31 (by decide) (fun c3 => ?_) (fun c3 => ?_)
    · replace h := h.1 c3
      exact re_v hx hb hr hlocks hP hS h dX5_goOn_66
    · replace h := h.2 c3
      refine lv_aload_n hx hb dX5_goOn_34 rfl (lv_at hl 0 rfl) ?_
      refine lv_iconst (v := (0 : Int32)) hx hb dX5_goOn_35 k_iconst_0 ?_
      refine rk_puti hx hb hts inlX5 tyX5 tyX5_ok nmX5 hown hK hP hS hk_j0a cl_5 2 fq_5_2 q_11_16 rfl rfl rfl dX5_goOn_36 (fun M4 eM4 H locs hP hS => ?_)
      replace h := h M4 eM4
      refine lv_aload_n hx hb dX5_goOn_39 rfl (lv_at hl 0 rfl) ?_
      refine lv_aload_n hx hb dX5_goOn_40 rfl (lv_at hl 0 rfl) ?_
      refine rk_geti hx hb hts inlX5 hown hK hP hk_j0a cl_5 1 fq_5_1 q_11_15 rfl dX5_goOn_41 ?_
      refine lv_iconst (v := (1 : Int32)) hx hb dX5_goOn_44 k_iconst_1 ?_
      refine lv_iadd hx hb dX5_goOn_45 ?_
      refine lv_aload_n hx hb dX5_goOn_46 rfl (lv_at hl 0 rfl) ?_
      refine rk_geti hx hb hts inlX5 hown hK hP hk_j0a cl_5 0 fq_5_0 q_11_14 rfl dX5_goOn_47 ?_
      refine lv_icmp_ge (tgt := 62) hx hb dX5_goOn_50 (by decide) (fun c5 => ?_) (fun c5 => ?_)
      · replace h := h.1 c5
        refine lv_iconst (v := (0 : Int32)) hx hb dX5_goOn_62 k_iconst_0 ?_
        refine rk_puti hx hb hts inlX5 tyX5 tyX5_ok nmX5 hown hK hP hS hk_j0a cl_5 1 fq_5_1 q_11_15 rfl rfl rfl dX5_goOn_63 (fun M6 eM6 H locs hP hS => ?_)
        replace h := h M6 eM6
        exact re_v hx hb hr hlocks hP hS h dX5_goOn_66
      · replace h := h.2 c5
        refine lv_aload_n hx hb dX5_goOn_53 rfl (lv_at hl 0 rfl) ?_
        refine rk_geti hx hb hts inlX5 hown hK hP hk_j0a cl_5 1 fq_5_1 q_11_15 rfl dX5_goOn_54 ?_
        refine lv_iconst (v := (1 : Int32)) hx hb dX5_goOn_57 k_iconst_1 ?_
        refine lv_iadd hx hb dX5_goOn_58 ?_
        refine lv_goto (tgt := 63) hx hb dX5_goOn_59 (by decide) ?_
        refine rk_puti hx hb hts inlX5 tyX5 tyX5_ok nmX5 hown hK hP hS hk_j0a cl_5 1 fq_5_1 q_11_15 rfl rfl rfl dX5_goOn_63 (fun M7 eM7 H locs hP hS => ?_)
        replace h := h M7 eM7
        exact re_v hx hb hr hlocks hP hS h dX5_goOn_66
  · replace h := h.2 c1
    exact re_v hx hb hr hlocks hP hS h dX5_goOn_7
set_option maxHeartbeats 4000000 in
set_option maxRecDepth 100000 in
theorem mX4_runHours (l : Launch) (G : Gp) (j0a : Nat) (x1a : Int32) (x2a : Int32) (M : Mm) (Post : Mm → Int32 → Prop) (hk_j0a : kd j0a = 4) (h : wX4_runHours Post M j0a x1a x2a) : CtI l yX4_runHours wsX4_runHours rX4_runHours G [.ref (G.2.1 + j0a), .int x1a, .int x2a] M Post := by
  refine Met.ofW (cc := cX4_runHours) (maxL := 5) (ret := (some .int)) (by decide) rfl ?_
  intro p e s m args below meth c s₁ B hml hv
  obtain ⟨rfl, hK, hP⟩ := hv
  have hx := B.exec
  have hb := B.bytes
  have hr := B.returns
  have hlocks := B.notSynchronized
  have hts0 := atoms_spec (ws := wsX4_runHours) B.pre
  have hts : ∀ w ∈ wsL_law, w.before _ s = true := fun w hw => hts0 w (List.mem_cons_of_mem _ hw)
  have hown : s.vm.findClass RX4 = some m.cls := findClass_of_methodNamed B.named
  have hS : va_S (Fr G) s.heap s.heap [] := va_S.rf
  have hl := lv_entry ([.ref (G.2.1 + j0a), .int x1a, .int x2a]) (n := 5) (Nat.le_of_ble_eq_true rfl)
  rw [lg_entry_eq]
  generalize (lg_sl ([.ref (G.2.1 + j0a), .int x1a, .int x2a]) ++ List.replicate (5 - (lg_sl ([.ref (G.2.1 + j0a), .int x1a, .int x2a])).length) Slot.unset).toArray = ls at hl ⊢
  have hl : lv_has ls 5 [(0, .ref (G.2.1 + j0a)), (1, .int x1a), (2, .int x2a)] := hl
  have B8 : ∀ n : Nat, ∀ (M : Mm) (j0 : Nat) (x1 : Int32) (x2 : Int32) (x3 : Int32) (x4 : Int32) (H : Heap) (locs : List Loc) (ls : Array Slot), Rp G M H → va_S (Fr G) s.heap H locs → lv_has ls 5 [(0, .ref (G.2.1 + j0)), (1, .int x1), (2, .int x2), (3, .int x3), (4, .int x4)] → kd j0 = 4 → lX4_runHours_8 Post n M j0 x1 x2 x3 x4 → Wi p l e (headSpec wsX4_runHours rX4_runHours).room s m [.ref (G.2.1 + j0a), .int x1a, .int x2a].toArray below meth c G Post H locs (F0 m 8 ls []) := by
    intro n
    induction n with
    | zero => intro M j0 x1 x2 x3 x4 H locs ls hP hS hl hk_j0 h; exact h.elim
    | succ n ih =>
      intro M j0 x1 x2 x3 x4 H locs ls hP hS hl hk_j0 h
      have hA8 := ih
      replace h : bX4_runHours_8 Post (lX4_runHours_8 Post n) M j0 x1 x2 x3 x4 := h
      unfold bX4_runHours_8 at h
      refine lv_iload hx hb dX4_runHours_8 (lv_at hl 4 rfl) ?_
      refine lv_iload_n hx hb dX4_runHours_10 rfl (lv_at hl 1 rfl) ?_
      refine lv_icmp_ge (tgt := 54) hx hb dX4_runHours_11 (by decide) (fun c3 => ?_) (fun c3 => ?_)
      · replace h := h.1 c3
        refine lv_aload_n hx hb dX4_runHours_54 rfl (lv_at hl 0 rfl) ?_
        refine rk_geti hx hb hts inlX4 hown hK hP hk_j0 cl_4 5 fq_4_5 q_10_18 rfl dX4_runHours_55 ?_
        refine lv_iload_n hx hb dX4_runHours_58 rfl (lv_at hl 3 rfl) ?_
        refine lv_isub hx hb dX4_runHours_59 ?_
        exact re_i hx hb hr hlocks hP hS h dX4_runHours_60
      · replace h := h.2 c3
        refine lv_aload_n hx hb dX4_runHours_14 rfl (lv_at hl 0 rfl) ?_
        refine rk_getr hx hb hts inlX4 hown hK hP hk_j0 cl_4 0 1 fq_4_0 q_2_4 rfl dX4_runHours_15 ?_
        refine lv_aload_n hx hb dX4_runHours_18 rfl (lv_at hl 0 rfl) ?_
        refine rk_getr hx hb hts inlX4 hown hK hP hk_j0 cl_4 2 18 fq_4_2 q_2_12 rfl dX4_runHours_19 ?_
        refine lv_aload_n hx hb dX4_runHours_22 rfl (lv_at hl 0 rfl) ?_
        refine rk_getr hx hb hts inlX4 hown hK hP hk_j0 cl_4 0 1 fq_4_0 q_2_4 rfl dX4_runHours_23 ?_
        refine rk_geti hx hb hts inlX0 hown hK hP (ky_4_0 hk_j0) cl_0 1 fq_0_1 q_15_1 rfl dX4_runHours_26 ?_
        refine rc_Vi (As := [.int (M (j0 + 1) 1)]) (rest := [.ref (G.2.1 + (j0 + 1))]) ⟨hx, hb, hml, hown, hts⟩ (mX5_gatesInNextHour l G (j0 + 18) (M (j0 + 1) 1) M _ (ky_4_2 hk_j0) h) (cwV 1 hts (gV_X5_gatesInNextHour q_15_2) rfl rfl rfl hdV_X5_gatesInNextHour ⟨Nat.le_of_ble_eq_true rfl, Nat.le_of_ble_eq_true rfl⟩) hK hP hS (ky_4_2 hk_j0) (by decide) cl_5 rfl hl.1 rfl (Nat.le_of_ble_eq_true rfl) dX4_runHours_29 ⟨Nat.zero_le _, Nat.zero_le _⟩ (fun r5 M4 H locs h hP hS => ?_)
        refine rk_puti hx hb hts inlX0 tyX0 tyX0_ok nmX0 hown hK hP hS (ky_4_0 hk_j0) cl_0 1 fq_0_1 q_15_1 rfl rfl rfl dX4_runHours_32 (fun M6 eM6 H locs hP hS => ?_)
        replace h := h M6 eM6
        refine lv_aload_n hx hb dX4_runHours_35 rfl (lv_at hl 0 rfl) ?_
        refine lv_iload_n hx hb dX4_runHours_36 rfl (lv_at hl 2 rfl) ?_
        refine rc_Vi (As := [.int x2]) (rest := []) ⟨hx, hb, hml, hown, hts⟩ (mX4_passHour l G j0 x2 M6 _ hk_j0 h) (cwV 1 hts (gV_X4_passHour q_15_6) rfl rfl rfl hdV_X4_passHour ⟨Nat.le_of_ble_eq_true rfl, Nat.le_of_ble_eq_true rfl⟩) hK hP hS hk_j0 (by decide) cl_4 rfl hl.1 rfl (Nat.le_of_ble_eq_true rfl) dX4_runHours_37 ⟨Nat.zero_le _, Nat.zero_le _⟩ (fun r8 M7 H locs h hP hS => ?_)
        refine lv_pop hx hb dX4_runHours_40 rfl ?_
        refine lv_aload_n hx hb dX4_runHours_41 rfl (lv_at hl 0 rfl) ?_
        refine rk_getr hx hb hts inlX4 hown hK hP hk_j0 cl_4 2 18 fq_4_2 q_2_12 rfl dX4_runHours_42 ?_
        refine rc_Vv (As := []) (rest := []) ⟨hx, hb, hml, hown, hts⟩ (mX5_goOn l G (j0 + 18) M7 _ (ky_4_2 hk_j0) h) (cwV 0 hts (gV_X5_goOn q_17_8) rfl rfl rfl hdV_X5_goOn ⟨Nat.le_of_ble_eq_true rfl, Nat.le_of_ble_eq_true rfl⟩) hK hP hS (ky_4_2 hk_j0) (by decide) cl_5 rfl hl.1 rfl (Nat.le_of_ble_eq_true rfl) dX4_runHours_45 ⟨Nat.zero_le _, Nat.zero_le _⟩ (fun M9 H locs h hP hS => ?_)
        obtain ⟨x4_11, ex4_11⟩ : ∃ y : Int32, y = x4 + (1 : Int32) := ⟨_, rfl⟩
        replace h := h x4_11 ex4_11
        refine lv_iinc (v := x4_11) (lv' := [(4, .int x4_11), (0, .ref (G.2.1 + j0)), (1, .int x1), (2, .int x2), (3, .int x3)]) hx hb dX4_runHours_48 hl (k := 4) rfl (by rw [ex4_11]; rfl) (by decide) rfl (fun ls hl => ?_)
        refine lv_goto (tgt := 8) hx hb dX4_runHours_51 (by decide) ?_
        exact hA8 _ _ _ _ _ _ _ _ _ hP hS (lv_sub hl [1, 2, 3, 4, 0] rfl) hk_j0 h
  unfold wX4_runHours at h
  refine lv_aload_n hx hb dX4_runHours_0 rfl (lv_at hl 0 rfl) ?_
  refine rk_geti hx hb hts inlX4 hown hK hP hk_j0a cl_4 5 fq_4_5 q_10_18 rfl dX4_runHours_1 ?_
  refine lv_topi (fun x3_1 ex3_1 => ?_)
  replace h := h x3_1 ex3_1
  refine lv_istore_n (lv' := [(3, .int x3_1), (0, .ref (G.2.1 + j0a)), (1, .int x1a), (2, .int x2a)]) hx hb dX4_runHours_4 rfl hl (by decide) rfl (fun ls hl => ?_)
  refine lv_iconst (v := (0 : Int32)) hx hb dX4_runHours_5 k_iconst_0 ?_
  refine lv_istore (lv' := [(4, .int (0 : Int32)), (3, .int x3_1), (0, .ref (G.2.1 + j0a)), (1, .int x1a), (2, .int x2a)]) hx hb dX4_runHours_6 hl (by decide) rfl (fun ls hl => ?_)
  obtain ⟨n2, h⟩ := h
  exact B8 _ _ _ _ _ _ _ _ _ _ hP hS (lv_sub hl [2, 3, 4, 1, 0] rfl) hk_j0a h
set_option maxHeartbeats 4000000 in
set_option maxRecDepth 100000 in
theorem mX5_has (l : Launch) (G : Gp) (j0a : Nat) (x1a : Int32) (M : Mm) (Post : Mm → Int32 → Prop) (hk_j0a : kd j0a = 5) (h : wX5_has Post M j0a x1a) : CtI l yX5_has wsX5_has rX5_has G [.ref (G.2.1 + j0a), .int x1a] M Post := by
  refine Met.ofW (cc := cX5_has) (maxL := 2) (ret := (some .boolean)) (by decide) rfl ?_
  intro p e s m args below meth c s₁ B hml hv
  obtain ⟨rfl, hK, hP⟩ := hv
  have hx := B.exec
  have hb := B.bytes
  have hr := B.returns
  have hlocks := B.notSynchronized
  have hts0 := atoms_spec (ws := wsX5_has) B.pre
  have hts : ∀ w ∈ wsL_law, w.before _ s = true := fun w hw => hts0 w (List.mem_cons_of_mem _ hw)
  have hown : s.vm.findClass RX5 = some m.cls := findClass_of_methodNamed B.named
  have hS : va_S (Fr G) s.heap s.heap [] := va_S.rf
  have hl := lv_entry ([.ref (G.2.1 + j0a), .int x1a]) (n := 2) (Nat.le_of_ble_eq_true rfl)
  rw [lg_entry_eq]
  generalize (lg_sl ([.ref (G.2.1 + j0a), .int x1a]) ++ List.replicate (2 - (lg_sl ([.ref (G.2.1 + j0a), .int x1a])).length) Slot.unset).toArray = ls at hl ⊢
  have hl : lv_has ls 2 [(0, .ref (G.2.1 + j0a)), (1, .int x1a)] := hl
  unfold wX5_has at h
  refine lv_iload_n hx hb dX5_has_0 rfl (lv_at hl 1 rfl) ?_
  refine lv_if_lt (tgt := 16) hx hb dX5_has_1 (by decide) (fun c1 => ?_) (fun c1 => ?_)
  · replace h := h.1 c1
    refine lv_iconst (v := (0 : Int32)) hx hb dX5_has_16 k_iconst_0 ?_
    exact re_z hx hb hr hlocks (Or.inl rfl) hP hS h dX5_has_17
  · replace h := h.2 c1
    refine lv_iload_n hx hb dX5_has_4 rfl (lv_at hl 1 rfl) ?_
    refine lv_aload_n hx hb dX5_has_5 rfl (lv_at hl 0 rfl) ?_
    refine rk_geti hx hb hts inlX5 hown hK hP hk_j0a cl_5 0 fq_5_0 q_11_14 rfl dX5_has_6 ?_
    refine lv_icmp_ge (tgt := 16) hx hb dX5_has_9 (by decide) (fun c2 => ?_) (fun c2 => ?_)
    · replace h := h.1 c2
      refine lv_iconst (v := (0 : Int32)) hx hb dX5_has_16 k_iconst_0 ?_
      exact re_z hx hb hr hlocks (Or.inl rfl) hP hS h dX5_has_17
    · replace h := h.2 c2
      refine lv_iconst (v := (1 : Int32)) hx hb dX5_has_12 k_iconst_1 ?_
      refine lv_goto (tgt := 17) hx hb dX5_has_13 (by decide) ?_
      exact re_z hx hb hr hlocks (Or.inr rfl) hP hS h dX5_has_17
set_option maxHeartbeats 4000000 in
set_option maxRecDepth 100000 in
theorem mX5_beginAgain (l : Launch) (G : Gp) (j0a : Nat) (M : Mm) (Post : Mm → Prop) (hk_j0a : kd j0a = 5) (h : wX5_beginAgain Post M j0a) : CtV l yX5_beginAgain wsX5_beginAgain rX5_beginAgain G [.ref (G.2.1 + j0a)] M Post := by
  refine Met.ofW (cc := cX5_beginAgain) (maxL := 1) (ret := none) (by decide) rfl ?_
  intro p e s m args below meth c s₁ B hml hv
  obtain ⟨rfl, hK, hP⟩ := hv
  have hx := B.exec
  have hb := B.bytes
  have hr := B.returns
  have hlocks := B.notSynchronized
  have hts0 := atoms_spec (ws := wsX5_beginAgain) B.pre
  have hts : ∀ w ∈ wsL_law, w.before _ s = true := fun w hw => hts0 w (List.mem_cons_of_mem _ hw)
  have hown : s.vm.findClass RX5 = some m.cls := findClass_of_methodNamed B.named
  have hS : va_S (Fr G) s.heap s.heap [] := va_S.rf
  have hl := lv_entry ([.ref (G.2.1 + j0a)]) (n := 1) (Nat.le_of_ble_eq_true rfl)
  rw [lg_entry_eq]
  generalize (lg_sl ([.ref (G.2.1 + j0a)]) ++ List.replicate (1 - (lg_sl ([.ref (G.2.1 + j0a)])).length) Slot.unset).toArray = ls at hl ⊢
  have hl : lv_has ls 1 [(0, .ref (G.2.1 + j0a))] := hl
  unfold wX5_beginAgain at h
  refine lv_aload_n hx hb dX5_beginAgain_0 rfl (lv_at hl 0 rfl) ?_
  refine lv_iconst (v := (0 : Int32)) hx hb dX5_beginAgain_1 k_iconst_0 ?_
  refine rk_puti hx hb hts inlX5 tyX5 tyX5_ok nmX5 hown hK hP hS hk_j0a cl_5 1 fq_5_1 q_11_15 rfl rfl rfl dX5_beginAgain_2 (fun M1 eM1 H locs hP hS => ?_)
  replace h := h M1 eM1
  refine lv_aload_n hx hb dX5_beginAgain_5 rfl (lv_at hl 0 rfl) ?_
  refine lv_iconst (v := (0 : Int32)) hx hb dX5_beginAgain_6 k_iconst_0 ?_
  refine rk_puti hx hb hts inlX5 tyX5 tyX5_ok nmX5 hown hK hP hS hk_j0a cl_5 2 fq_5_2 q_11_16 rfl rfl rfl dX5_beginAgain_7 (fun M2 eM2 H locs hP hS => ?_)
  replace h := h M2 eM2
  exact re_v hx hb hr hlocks hP hS h dX5_beginAgain_10
set_option maxHeartbeats 4000000 in
set_option maxRecDepth 100000 in
theorem mX5_add (l : Launch) (G : Gp) (j0a : Nat) (x1a : Int32) (x2a : Int32) (M : Mm) (Post : Mm → Int32 → Prop) (hk_j0a : kd j0a = 5) (h : wX5_add Post M j0a x1a x2a) : CtI l yX5_add wsX5_add rX5_add G [.ref (G.2.1 + j0a), .int x1a, .int x2a] M Post := by
  refine Met.ofW (cc := cX5_add) (maxL := 3) (ret := (some .int)) (by decide) rfl ?_
  intro p e s m args below meth c s₁ B hml hv
  obtain ⟨rfl, hK, hP⟩ := hv
  have hx := B.exec
  have hb := B.bytes
  have hr := B.returns
  have hlocks := B.notSynchronized
  have hts0 := atoms_spec (ws := wsX5_add) B.pre
  have hts : ∀ w ∈ wsL_law, w.before _ s = true := fun w hw => hts0 w (List.mem_cons_of_mem _ hw)
  have hown : s.vm.findClass RX5 = some m.cls := findClass_of_methodNamed B.named
  have hS : va_S (Fr G) s.heap s.heap [] := va_S.rf
  have hl := lv_entry ([.ref (G.2.1 + j0a), .int x1a, .int x2a]) (n := 3) (Nat.le_of_ble_eq_true rfl)
  rw [lg_entry_eq]
  generalize (lg_sl ([.ref (G.2.1 + j0a), .int x1a, .int x2a]) ++ List.replicate (3 - (lg_sl ([.ref (G.2.1 + j0a), .int x1a, .int x2a])).length) Slot.unset).toArray = ls at hl ⊢
  have hl : lv_has ls 3 [(0, .ref (G.2.1 + j0a)), (1, .int x1a), (2, .int x2a)] := hl
  unfold wX5_add at h
  refine lv_aload_n hx hb dX5_add_0 rfl (lv_at hl 0 rfl) ?_
  refine rk_getr hx hb hts inlX5 hown hK hP hk_j0a cl_5 3 1 fq_5_3 q_3_18 rfl dX5_add_1 ?_
  refine lv_aload_n hx hb dX5_add_4 rfl (lv_at hl 0 rfl) ?_
  refine rk_geti hx hb hts inlX5 hown hK hP hk_j0a cl_5 0 fq_5_0 q_11_14 rfl dX5_add_5 ?_
  refine lv_iload_n hx hb dX5_add_8 rfl (lv_at hl 1 rfl) ?_
  refine rk_iast hx hb hK hP hS (ky_5_3 hk_j0a) ac_8 _ rfl h.1 dX5_add_9 (fun M1 eM1 H locs hP hS => ?_)
  replace h := h.2
  replace h := h M1 eM1
  refine lv_aload_n hx hb dX5_add_10 rfl (lv_at hl 0 rfl) ?_
  refine rk_getr hx hb hts inlX5 hown hK hP hk_j0a cl_5 4 2 fq_5_4 q_3_19 rfl dX5_add_11 ?_
  refine lv_aload_n hx hb dX5_add_14 rfl (lv_at hl 0 rfl) ?_
  refine rk_geti hx hb hts inlX5 hown hK hP hk_j0a cl_5 0 fq_5_0 q_11_14 rfl dX5_add_15 ?_
  refine lv_iload_n hx hb dX5_add_18 rfl (lv_at hl 2 rfl) ?_
  refine rk_iast hx hb hK hP hS (ky_5_4 hk_j0a) ac_8 _ rfl h.1 dX5_add_19 (fun M2 eM2 H locs hP hS => ?_)
  replace h := h.2
  replace h := h M2 eM2
  refine lv_aload_n hx hb dX5_add_20 rfl (lv_at hl 0 rfl) ?_
  refine lv_dup hx hb dX5_add_21 rfl ?_
  refine rk_geti hx hb hts inlX5 hown hK hP hk_j0a cl_5 0 fq_5_0 q_11_14 rfl dX5_add_22 ?_
  refine lv_iconst (v := (1 : Int32)) hx hb dX5_add_25 k_iconst_1 ?_
  refine lv_iadd hx hb dX5_add_26 ?_
  refine rk_puti hx hb hts inlX5 tyX5 tyX5_ok nmX5 hown hK hP hS hk_j0a cl_5 0 fq_5_0 q_11_14 rfl rfl rfl dX5_add_27 (fun M3 eM3 H locs hP hS => ?_)
  replace h := h M3 eM3
  refine lv_aload_n hx hb dX5_add_30 rfl (lv_at hl 0 rfl) ?_
  refine rc_Vv (As := []) (rest := []) ⟨hx, hb, hml, hown, hts⟩ (mX5_beginAgain l G j0a M3 _ hk_j0a h) (cwV 0 hts (gV_X5_beginAgain q_13_17) rfl rfl rfl hdV_X5_beginAgain ⟨Nat.le_of_ble_eq_true rfl, Nat.le_of_ble_eq_true rfl⟩) hK hP hS hk_j0a (by decide) cl_5 rfl hl.1 rfl (Nat.le_of_ble_eq_true rfl) dX5_add_31 ⟨Nat.zero_le _, Nat.zero_le _⟩ (fun M4 H locs h hP hS => ?_)
  refine lv_aload_n hx hb dX5_add_34 rfl (lv_at hl 0 rfl) ?_
  refine rk_geti hx hb hts inlX5 hown hK hP hk_j0a cl_5 0 fq_5_0 q_11_14 rfl dX5_add_35 ?_
  exact re_i hx hb hr hlocks hP hS h dX5_add_38
set_option maxHeartbeats 4000000 in
set_option maxRecDepth 100000 in
theorem mX5_removeAll (l : Launch) (G : Gp) (j0a : Nat) (M : Mm) (Post : Mm → Int32 → Prop) (hk_j0a : kd j0a = 5) (h : wX5_removeAll Post M j0a) : CtI l yX5_removeAll wsX5_removeAll rX5_removeAll G [.ref (G.2.1 + j0a)] M Post := by
  refine Met.ofW (cc := cX5_removeAll) (maxL := 2) (ret := (some .int)) (by decide) rfl ?_
  intro p e s m args below meth c s₁ B hml hv
  obtain ⟨rfl, hK, hP⟩ := hv
  have hx := B.exec
  have hb := B.bytes
  have hr := B.returns
  have hlocks := B.notSynchronized
  have hts0 := atoms_spec (ws := wsX5_removeAll) B.pre
  have hts : ∀ w ∈ wsL_law, w.before _ s = true := fun w hw => hts0 w (List.mem_cons_of_mem _ hw)
  have hown : s.vm.findClass RX5 = some m.cls := findClass_of_methodNamed B.named
  have hS : va_S (Fr G) s.heap s.heap [] := va_S.rf
  have hl := lv_entry ([.ref (G.2.1 + j0a)]) (n := 2) (Nat.le_of_ble_eq_true rfl)
  rw [lg_entry_eq]
  generalize (lg_sl ([.ref (G.2.1 + j0a)]) ++ List.replicate (2 - (lg_sl ([.ref (G.2.1 + j0a)])).length) Slot.unset).toArray = ls at hl ⊢
  have hl : lv_has ls 2 [(0, .ref (G.2.1 + j0a))] := hl
  unfold wX5_removeAll at h
  refine lv_aload_n hx hb dX5_removeAll_0 rfl (lv_at hl 0 rfl) ?_
  refine rk_geti hx hb hts inlX5 hown hK hP hk_j0a cl_5 0 fq_5_0 q_11_14 rfl dX5_removeAll_1 ?_
  refine lv_topi (fun x1_1 ex1_1 => ?_)
  replace h := h x1_1 ex1_1
  refine lv_istore_n (lv' := [(1, .int x1_1), (0, .ref (G.2.1 + j0a))]) hx hb dX5_removeAll_4 rfl hl (by decide) rfl (fun ls hl => ?_)
  refine lv_aload_n hx hb dX5_removeAll_5 rfl (lv_at hl 1 rfl) ?_
  refine lv_iconst (v := (0 : Int32)) hx hb dX5_removeAll_6 k_iconst_0 ?_
  refine rk_puti hx hb hts inlX5 tyX5 tyX5_ok nmX5 hown hK hP hS hk_j0a cl_5 0 fq_5_0 q_11_14 rfl rfl rfl dX5_removeAll_7 (fun M2 eM2 H locs hP hS => ?_)
  replace h := h M2 eM2
  refine lv_aload_n hx hb dX5_removeAll_10 rfl (lv_at hl 1 rfl) ?_
  refine rc_Vv (As := []) (rest := []) ⟨hx, hb, hml, hown, hts⟩ (mX5_beginAgain l G j0a M2 _ hk_j0a h) (cwV 0 hts (gV_X5_beginAgain q_13_17) rfl rfl rfl hdV_X5_beginAgain ⟨Nat.le_of_ble_eq_true rfl, Nat.le_of_ble_eq_true rfl⟩) hK hP hS hk_j0a (by decide) cl_5 rfl hl.1 rfl (Nat.le_of_ble_eq_true rfl) dX5_removeAll_11 ⟨Nat.zero_le _, Nat.zero_le _⟩ (fun M3 H locs h hP hS => ?_)
  refine lv_iload_n hx hb dX5_removeAll_14 rfl (lv_at hl 0 rfl) ?_
  exact re_i hx hb hr hlocks hP hS h dX5_removeAll_15
set_option maxHeartbeats 4000000 in
set_option maxRecDepth 100000 in
theorem mX6_isOutside (l : Launch) (G : Gp) (x0a : Int32) (x1a : Int32) (x2a : Int32) (M : Mm) (Post : Mm → Int32 → Prop) (h : wX6_isOutside Post M x0a x1a x2a) : CtI l yX6_isOutside wsX6_isOutside rX6_isOutside G [.int x0a, .int x1a, .int x2a] M Post := by
  refine Met.ofW (cc := cX6_isOutside) (maxL := 3) (ret := (some .boolean)) (by decide) rfl ?_
  intro p e s m args below meth c s₁ B hml hv
  obtain ⟨rfl, hK, hP⟩ := hv
  have hx := B.exec
  have hb := B.bytes
  have hr := B.returns
  have hlocks := B.notSynchronized
  have hts0 := atoms_spec (ws := wsX6_isOutside) B.pre
  have hts : ∀ w ∈ wsL_law, w.before _ s = true := fun w hw => hts0 w (List.mem_cons_of_mem _ hw)
  have hown : s.vm.findClass RX6 = some m.cls := findClass_of_methodNamed B.named
  have hS : va_S (Fr G) s.heap s.heap [] := va_S.rf
  have hl := lv_entry ([.int x0a, .int x1a, .int x2a]) (n := 3) (Nat.le_of_ble_eq_true rfl)
  rw [lg_entry_eq]
  generalize (lg_sl ([.int x0a, .int x1a, .int x2a]) ++ List.replicate (3 - (lg_sl ([.int x0a, .int x1a, .int x2a])).length) Slot.unset).toArray = ls at hl ⊢
  have hl : lv_has ls 3 [(0, .int x0a), (1, .int x1a), (2, .int x2a)] := hl
  unfold wX6_isOutside at h
  refine lv_iload_n hx hb dX6_isOutside_0 rfl (lv_at hl 0 rfl) ?_
  refine lv_iload_n hx hb dX6_isOutside_1 rfl (lv_at hl 1 rfl) ?_
  refine lv_icmp_lt (tgt := 10) hx hb dX6_isOutside_2 (by decide) (fun c1 => ?_) (fun c1 => ?_)
  · replace h := h.1 c1
    refine lv_iconst (v := (1 : Int32)) hx hb dX6_isOutside_10 k_iconst_1 ?_
    refine lv_goto (tgt := 15) hx hb dX6_isOutside_11 (by decide) ?_
    exact re_z hx hb hr hlocks (Or.inr rfl) hP hS h dX6_isOutside_15
  · replace h := h.2 c1
    refine lv_iload_n hx hb dX6_isOutside_5 rfl (lv_at hl 0 rfl) ?_
    refine lv_iload_n hx hb dX6_isOutside_6 rfl (lv_at hl 2 rfl) ?_
    refine lv_icmp_le (tgt := 14) hx hb dX6_isOutside_7 (by decide) (fun c2 => ?_) (fun c2 => ?_)
    · replace h := h.1 c2
      refine lv_iconst (v := (0 : Int32)) hx hb dX6_isOutside_14 k_iconst_0 ?_
      exact re_z hx hb hr hlocks (Or.inl rfl) hP hS h dX6_isOutside_15
    · replace h := h.2 c2
      refine lv_iconst (v := (1 : Int32)) hx hb dX6_isOutside_10 k_iconst_1 ?_
      refine lv_goto (tgt := 15) hx hb dX6_isOutside_11 (by decide) ?_
      exact re_z hx hb hr hlocks (Or.inr rfl) hP hS h dX6_isOutside_15
set_option maxHeartbeats 4000000 in
set_option maxRecDepth 100000 in
theorem mX6_canal (l : Launch) (G : Gp) (j0a : Nat) (x1a : Int32) (x2a : Int32) (x3a : Int32) (x4a : Int32) (M : Mm) (Post : Mm → Int32 → Prop) (hk_j0a : kd j0a = 6) (h : wX6_canal Post M j0a x1a x2a x3a x4a) : CtI l yX6_canal wsX6_canal rX6_canal G [.ref (G.2.1 + j0a), .int x1a, .int x2a, .int x3a, .int x4a] M Post := by
  refine Met.ofW (cc := cX6_canal) (maxL := 5) (ret := (some .int)) (by decide) rfl ?_
  intro p e s m args below meth c s₁ B hml hv
  obtain ⟨rfl, hK, hP⟩ := hv
  have hx := B.exec
  have hb := B.bytes
  have hr := B.returns
  have hlocks := B.notSynchronized
  have hts0 := atoms_spec (ws := wsX6_canal) B.pre
  have hts : ∀ w ∈ wsL_law, w.before _ s = true := fun w hw => hts0 w (List.mem_cons_of_mem _ hw)
  have hown : s.vm.findClass RX6 = some m.cls := findClass_of_methodNamed B.named
  have hS : va_S (Fr G) s.heap s.heap [] := va_S.rf
  have hl := lv_entry ([.ref (G.2.1 + j0a), .int x1a, .int x2a, .int x3a, .int x4a]) (n := 5) (Nat.le_of_ble_eq_true rfl)
  rw [lg_entry_eq]
  generalize (lg_sl ([.ref (G.2.1 + j0a), .int x1a, .int x2a, .int x3a, .int x4a]) ++ List.replicate (5 - (lg_sl ([.ref (G.2.1 + j0a), .int x1a, .int x2a, .int x3a, .int x4a])).length) Slot.unset).toArray = ls at hl ⊢
  have hl : lv_has ls 5 [(0, .ref (G.2.1 + j0a)), (1, .int x1a), (2, .int x2a), (3, .int x3a), (4, .int x4a)] := hl
  unfold wX6_canal at h
  refine lv_aload_n hx hb dX6_canal_0 rfl (lv_at hl 0 rfl) ?_
  refine rk_getr hx hb hts inlX6 hown hK hP hk_j0a cl_6 0 1 fq_6_0 q_1_12 rfl dX6_canal_1 ?_
  refine rk_getr hx hb hts inlX4 hown hK hP (ky_6_0 hk_j0a) cl_4 0 1 fq_4_0 q_4_15 rfl dX6_canal_4 ?_
  refine lv_iload_n hx hb dX6_canal_7 rfl (lv_at hl 1 rfl) ?_
  refine rc_Vi (As := [.int x1a]) (rest := []) ⟨hx, hb, hml, hown, hts⟩ (mX0_has l G ((j0a + 1) + 1) x1a M _ (ky_4_0 (ky_6_0 hk_j0a)) h) (cwV 1 hts (gV_X0_has q_9_0) rfl rfl rfl hdV_X0_has ⟨Nat.le_of_ble_eq_true rfl, Nat.le_of_ble_eq_true rfl⟩) hK hP hS (ky_4_0 (ky_6_0 hk_j0a)) (by decide) cl_0 rfl hl.1 rfl (Nat.le_of_ble_eq_true rfl) dX6_canal_8 ⟨Nat.zero_le _, Nat.zero_le _⟩ (fun r2 M1 H locs h hP hS => ?_)
  refine lv_if_eq (tgt := 46) hx hb dX6_canal_11 (by decide) (fun c3 => ?_) (fun c3 => ?_)
  · replace h := h.1 c3
    refine lv_ldc hx hb hown (hts _ q_5_9) dX6_canal_46 ?_
    exact re_i hx hb hr hlocks hP hS h dX6_canal_48
  · replace h := h.2 c3
    refine lv_iload_n hx hb dX6_canal_14 rfl (lv_at hl 2 rfl) ?_
    refine lv_iconst (v := (0 : Int32)) hx hb dX6_canal_15 k_iconst_0 ?_
    refine lv_iconst (v := (2 : Int32)) hx hb dX6_canal_16 k_iconst_2 ?_
    refine rc_Si (As := [.int x2a, .int (0 : Int32), .int (2 : Int32)]) (rest := []) ⟨hx, hb, hml, hown, hts⟩ (mX6_isOutside l G x2a (0 : Int32) (2 : Int32) M1 _ h) (va_cwS 3 hts (gS_X6_isOutside q_9_14) rfl rfl rfl hdS_X6_isOutside ⟨Nat.le_of_ble_eq_true rfl, Nat.le_of_ble_eq_true rfl⟩) hK hP hS rfl hl.1 rfl (Nat.le_of_ble_eq_true rfl) dX6_canal_17 ⟨Nat.zero_le _, Nat.zero_le _⟩ (fun r5 M4 H locs h hP hS => ?_)
    refine lv_if_ne (tgt := 46) hx hb dX6_canal_20 (by decide) (fun c6 => ?_) (fun c6 => ?_)
    · replace h := h.1 c6
      refine lv_ldc hx hb hown (hts _ q_5_9) dX6_canal_46 ?_
      exact re_i hx hb hr hlocks hP hS h dX6_canal_48
    · replace h := h.2 c6
      refine lv_iload_n hx hb dX6_canal_23 rfl (lv_at hl 3 rfl) ?_
      refine lv_iconst (v := (1 : Int32)) hx hb dX6_canal_24 k_iconst_1 ?_
      refine lv_sipush (v := (500 : Int32)) hx hb dX6_canal_25 k_sipush_500 ?_
      refine rc_Si (As := [.int x3a, .int (1 : Int32), .int (500 : Int32)]) (rest := []) ⟨hx, hb, hml, hown, hts⟩ (mX6_isOutside l G x3a (1 : Int32) (500 : Int32) M4 _ h) (va_cwS 3 hts (gS_X6_isOutside q_9_14) rfl rfl rfl hdS_X6_isOutside ⟨Nat.le_of_ble_eq_true rfl, Nat.le_of_ble_eq_true rfl⟩) hK hP hS rfl hl.1 rfl (Nat.le_of_ble_eq_true rfl) dX6_canal_28 ⟨Nat.zero_le _, Nat.zero_le _⟩ (fun r8 M7 H locs h hP hS => ?_)
      refine lv_if_ne (tgt := 46) hx hb dX6_canal_31 (by decide) (fun c9 => ?_) (fun c9 => ?_)
      · replace h := h.1 c9
        refine lv_ldc hx hb hown (hts _ q_5_9) dX6_canal_46 ?_
        exact re_i hx hb hr hlocks hP hS h dX6_canal_48
      · replace h := h.2 c9
        refine lv_iload hx hb dX6_canal_34 (lv_at hl 4 rfl) ?_
        refine lv_iconst (v := (0 : Int32)) hx hb dX6_canal_36 k_iconst_0 ?_
        refine lv_sipush (v := (500 : Int32)) hx hb dX6_canal_37 k_sipush_500 ?_
        refine rc_Si (As := [.int x4a, .int (0 : Int32), .int (500 : Int32)]) (rest := []) ⟨hx, hb, hml, hown, hts⟩ (mX6_isOutside l G x4a (0 : Int32) (500 : Int32) M7 _ h) (va_cwS 3 hts (gS_X6_isOutside q_9_14) rfl rfl rfl hdS_X6_isOutside ⟨Nat.le_of_ble_eq_true rfl, Nat.le_of_ble_eq_true rfl⟩) hK hP hS rfl hl.1 rfl (Nat.le_of_ble_eq_true rfl) dX6_canal_40 ⟨Nat.zero_le _, Nat.zero_le _⟩ (fun r11 M10 H locs h hP hS => ?_)
        refine lv_if_eq (tgt := 49) hx hb dX6_canal_43 (by decide) (fun c12 => ?_) (fun c12 => ?_)
        · replace h := h.1 c12
          refine lv_aload_n hx hb dX6_canal_49 rfl (lv_at hl 0 rfl) ?_
          refine rk_getr hx hb hts inlX6 hown hK hP hk_j0a cl_6 0 1 fq_6_0 q_1_12 rfl dX6_canal_50 ?_
          refine rk_getr hx hb hts inlX4 hown hK hP (ky_6_0 hk_j0a) cl_4 0 1 fq_4_0 q_4_15 rfl dX6_canal_53 ?_
          refine rk_geti hx hb hts inlX0 hown hK hP (ky_4_0 (ky_6_0 hk_j0a)) cl_0 0 fq_0_0 q_4_16 rfl dX6_canal_56 ?_
          refine lv_bipush (v := (8 : Int32)) hx hb dX6_canal_59 k_bipush_8 ?_
          refine lv_icmp_lt (tgt := 67) hx hb dX6_canal_61 (by decide) (fun c13 => ?_) (fun c13 => ?_)
          · replace h := h.1 c13
            refine lv_aload_n hx hb dX6_canal_67 rfl (lv_at hl 0 rfl) ?_
            refine rk_getr hx hb hts inlX6 hown hK hP hk_j0a cl_6 2 47 fq_6_2 q_1_17 rfl dX6_canal_68 ?_
            refine lv_aload_n hx hb dX6_canal_71 rfl (lv_at hl 0 rfl) ?_
            refine rk_getr hx hb hts inlX6 hown hK hP hk_j0a cl_6 0 1 fq_6_0 q_1_12 rfl dX6_canal_72 ?_
            refine rc_Vv (As := [.ref (G.2.1 + (j0a + 1))]) (rest := []) ⟨hx, hb, hml, hown, hts⟩ (mX2_record l G (j0a + 47) (j0a + 1) M10 _ (ky_6_2 hk_j0a) (ky_6_0 hk_j0a) h) (cwV 1 hts (gV_X2_record q_10_3) rfl rfl rfl hdV_X2_record ⟨Nat.le_of_ble_eq_true rfl, Nat.le_of_ble_eq_true rfl⟩) hK hP hS (ky_6_2 hk_j0a) (by decide) cl_2 rfl hl.1 rfl (Nat.le_of_ble_eq_true rfl) dX6_canal_75 ⟨Nat.zero_le _, Nat.zero_le _⟩ (fun M14 H locs h hP hS => ?_)
            refine lv_aload_n hx hb dX6_canal_78 rfl (lv_at hl 0 rfl) ?_
            refine rk_getr hx hb hts inlX6 hown hK hP hk_j0a cl_6 0 1 fq_6_0 q_1_12 rfl dX6_canal_79 ?_
            refine rk_getr hx hb hts inlX4 hown hK hP (ky_6_0 hk_j0a) cl_4 0 1 fq_4_0 q_4_15 rfl dX6_canal_82 ?_
            refine lv_iload_n hx hb dX6_canal_85 rfl (lv_at hl 1 rfl) ?_
            refine lv_iload_n hx hb dX6_canal_86 rfl (lv_at hl 2 rfl) ?_
            refine lv_iload_n hx hb dX6_canal_87 rfl (lv_at hl 3 rfl) ?_
            refine lv_iload hx hb dX6_canal_88 (lv_at hl 4 rfl) ?_
            refine rc_Vi (As := [.int x1a, .int x2a, .int x3a, .int x4a]) (rest := []) ⟨hx, hb, hml, hown, hts⟩ (mX0_add l G ((j0a + 1) + 1) x1a x2a x3a x4a M14 _ (ky_4_0 (ky_6_0 hk_j0a)) h) (cwV 4 hts (gV_X0_add q_11_18) rfl rfl rfl hdV_X0_add ⟨Nat.le_of_ble_eq_true rfl, Nat.le_of_ble_eq_true rfl⟩) hK hP hS (ky_4_0 (ky_6_0 hk_j0a)) (by decide) cl_0 rfl hl.1 rfl (Nat.le_of_ble_eq_true rfl) dX6_canal_90 ⟨Nat.zero_le _, Nat.zero_le _⟩ (fun r17 M16 H locs h hP hS => ?_)
            exact re_i hx hb hr hlocks hP hS h dX6_canal_93
          · replace h := h.2 c13
            refine lv_ldc hx hb hown (hts _ q_10_2) dX6_canal_64 ?_
            exact re_i hx hb hr hlocks hP hS h dX6_canal_66
        · replace h := h.2 c12
          refine lv_ldc hx hb hown (hts _ q_5_9) dX6_canal_46 ?_
          exact re_i hx hb hr hlocks hP hS h dX6_canal_48
set_option maxHeartbeats 4000000 in
set_option maxRecDepth 100000 in
theorem mX6_field (l : Launch) (G : Gp) (j0a : Nat) (x1a : Int32) (x2a : Int32) (x3a : Int32) (x4a : Int32) (M : Mm) (Post : Mm → Int32 → Prop) (hk_j0a : kd j0a = 6) (h : wX6_field Post M j0a x1a x2a x3a x4a) : CtI l yX6_field wsX6_field rX6_field G [.ref (G.2.1 + j0a), .int x1a, .int x2a, .int x3a, .int x4a] M Post := by
  refine Met.ofW (cc := cX6_field) (maxL := 5) (ret := (some .int)) (by decide) rfl ?_
  intro p e s m args below meth c s₁ B hml hv
  obtain ⟨rfl, hK, hP⟩ := hv
  have hx := B.exec
  have hb := B.bytes
  have hr := B.returns
  have hlocks := B.notSynchronized
  have hts0 := atoms_spec (ws := wsX6_field) B.pre
  have hts : ∀ w ∈ wsL_law, w.before _ s = true := fun w hw => hts0 w (List.mem_cons_of_mem _ hw)
  have hown : s.vm.findClass RX6 = some m.cls := findClass_of_methodNamed B.named
  have hS : va_S (Fr G) s.heap s.heap [] := va_S.rf
  have hl := lv_entry ([.ref (G.2.1 + j0a), .int x1a, .int x2a, .int x3a, .int x4a]) (n := 5) (Nat.le_of_ble_eq_true rfl)
  rw [lg_entry_eq]
  generalize (lg_sl ([.ref (G.2.1 + j0a), .int x1a, .int x2a, .int x3a, .int x4a]) ++ List.replicate (5 - (lg_sl ([.ref (G.2.1 + j0a), .int x1a, .int x2a, .int x3a, .int x4a])).length) Slot.unset).toArray = ls at hl ⊢
  have hl : lv_has ls 5 [(0, .ref (G.2.1 + j0a)), (1, .int x1a), (2, .int x2a), (3, .int x3a), (4, .int x4a)] := hl
  unfold wX6_field at h
  refine lv_aload_n hx hb dX6_field_0 rfl (lv_at hl 0 rfl) ?_
  refine rk_getr hx hb hts inlX6 hown hK hP hk_j0a cl_6 0 1 fq_6_0 q_1_12 rfl dX6_field_1 ?_
  refine rk_getr hx hb hts inlX4 hown hK hP (ky_6_0 hk_j0a) cl_4 0 1 fq_4_0 q_4_15 rfl dX6_field_4 ?_
  refine lv_iload_n hx hb dX6_field_7 rfl (lv_at hl 1 rfl) ?_
  refine rc_Vi (As := [.int x1a]) (rest := []) ⟨hx, hb, hml, hown, hts⟩ (mX0_has l G ((j0a + 1) + 1) x1a M _ (ky_4_0 (ky_6_0 hk_j0a)) h) (cwV 1 hts (gV_X0_has q_9_0) rfl rfl rfl hdV_X0_has ⟨Nat.le_of_ble_eq_true rfl, Nat.le_of_ble_eq_true rfl⟩) hK hP hS (ky_4_0 (ky_6_0 hk_j0a)) (by decide) cl_0 rfl hl.1 rfl (Nat.le_of_ble_eq_true rfl) dX6_field_8 ⟨Nat.zero_le _, Nat.zero_le _⟩ (fun r2 M1 H locs h hP hS => ?_)
  refine lv_if_eq (tgt := 47) hx hb dX6_field_11 (by decide) (fun c3 => ?_) (fun c3 => ?_)
  · replace h := h.1 c3
    refine lv_ldc hx hb hown (hts _ q_5_9) dX6_field_47 ?_
    exact re_i hx hb hr hlocks hP hS h dX6_field_49
  · replace h := h.2 c3
    refine lv_iload_n hx hb dX6_field_14 rfl (lv_at hl 2 rfl) ?_
    refine lv_iconst (v := (1 : Int32)) hx hb dX6_field_15 k_iconst_1 ?_
    refine lv_sipush (v := (999 : Int32)) hx hb dX6_field_16 k_sipush_999 ?_
    refine rc_Si (As := [.int x2a, .int (1 : Int32), .int (999 : Int32)]) (rest := []) ⟨hx, hb, hml, hown, hts⟩ (mX6_isOutside l G x2a (1 : Int32) (999 : Int32) M1 _ h) (va_cwS 3 hts (gS_X6_isOutside q_9_14) rfl rfl rfl hdS_X6_isOutside ⟨Nat.le_of_ble_eq_true rfl, Nat.le_of_ble_eq_true rfl⟩) hK hP hS rfl hl.1 rfl (Nat.le_of_ble_eq_true rfl) dX6_field_19 ⟨Nat.zero_le _, Nat.zero_le _⟩ (fun r5 M4 H locs h hP hS => ?_)
    refine lv_if_ne (tgt := 47) hx hb dX6_field_22 (by decide) (fun c6 => ?_) (fun c6 => ?_)
    · replace h := h.1 c6
      refine lv_ldc hx hb hown (hts _ q_5_9) dX6_field_47 ?_
      exact re_i hx hb hr hlocks hP hS h dX6_field_49
    · replace h := h.2 c6
      refine lv_iload_n hx hb dX6_field_25 rfl (lv_at hl 3 rfl) ?_
      refine lv_iconst (v := (1 : Int32)) hx hb dX6_field_26 k_iconst_1 ?_
      refine lv_sipush (v := (200 : Int32)) hx hb dX6_field_27 k_sipush_200 ?_
      refine rc_Si (As := [.int x3a, .int (1 : Int32), .int (200 : Int32)]) (rest := []) ⟨hx, hb, hml, hown, hts⟩ (mX6_isOutside l G x3a (1 : Int32) (200 : Int32) M4 _ h) (va_cwS 3 hts (gS_X6_isOutside q_9_14) rfl rfl rfl hdS_X6_isOutside ⟨Nat.le_of_ble_eq_true rfl, Nat.le_of_ble_eq_true rfl⟩) hK hP hS rfl hl.1 rfl (Nat.le_of_ble_eq_true rfl) dX6_field_30 ⟨Nat.zero_le _, Nat.zero_le _⟩ (fun r8 M7 H locs h hP hS => ?_)
      refine lv_if_ne (tgt := 47) hx hb dX6_field_33 (by decide) (fun c9 => ?_) (fun c9 => ?_)
      · replace h := h.1 c9
        refine lv_ldc hx hb hown (hts _ q_5_9) dX6_field_47 ?_
        exact re_i hx hb hr hlocks hP hS h dX6_field_49
      · replace h := h.2 c9
        refine lv_iload hx hb dX6_field_36 (lv_at hl 4 rfl) ?_
        refine lv_iconst (v := (0 : Int32)) hx hb dX6_field_38 k_iconst_0 ?_
        refine lv_bipush (v := (99 : Int32)) hx hb dX6_field_39 k_bipush_99 ?_
        refine rc_Si (As := [.int x4a, .int (0 : Int32), .int (99 : Int32)]) (rest := []) ⟨hx, hb, hml, hown, hts⟩ (mX6_isOutside l G x4a (0 : Int32) (99 : Int32) M7 _ h) (va_cwS 3 hts (gS_X6_isOutside q_9_14) rfl rfl rfl hdS_X6_isOutside ⟨Nat.le_of_ble_eq_true rfl, Nat.le_of_ble_eq_true rfl⟩) hK hP hS rfl hl.1 rfl (Nat.le_of_ble_eq_true rfl) dX6_field_41 ⟨Nat.zero_le _, Nat.zero_le _⟩ (fun r11 M10 H locs h hP hS => ?_)
        refine lv_if_eq (tgt := 50) hx hb dX6_field_44 (by decide) (fun c12 => ?_) (fun c12 => ?_)
        · replace h := h.1 c12
          refine lv_aload_n hx hb dX6_field_50 rfl (lv_at hl 0 rfl) ?_
          refine rk_getr hx hb hts inlX6 hown hK hP hk_j0a cl_6 0 1 fq_6_0 q_1_12 rfl dX6_field_51 ?_
          refine rk_getr hx hb hts inlX4 hown hK hP (ky_6_0 hk_j0a) cl_4 1 10 fq_4_1 q_4_17 rfl dX6_field_54 ?_
          refine rk_geti hx hb hts inlX1 hown hK hP (ky_4_1 (ky_6_0 hk_j0a)) cl_1 0 fq_1_0 q_4_18 rfl dX6_field_57 ?_
          refine lv_bipush (v := (10 : Int32)) hx hb dX6_field_60 k_bipush_10 ?_
          refine lv_icmp_lt (tgt := 68) hx hb dX6_field_62 (by decide) (fun c13 => ?_) (fun c13 => ?_)
          · replace h := h.1 c13
            refine lv_aload_n hx hb dX6_field_68 rfl (lv_at hl 0 rfl) ?_
            refine rk_getr hx hb hts inlX6 hown hK hP hk_j0a cl_6 2 47 fq_6_2 q_1_17 rfl dX6_field_69 ?_
            refine lv_aload_n hx hb dX6_field_72 rfl (lv_at hl 0 rfl) ?_
            refine rk_getr hx hb hts inlX6 hown hK hP hk_j0a cl_6 0 1 fq_6_0 q_1_12 rfl dX6_field_73 ?_
            refine rc_Vv (As := [.ref (G.2.1 + (j0a + 1))]) (rest := []) ⟨hx, hb, hml, hown, hts⟩ (mX2_record l G (j0a + 47) (j0a + 1) M10 _ (ky_6_2 hk_j0a) (ky_6_0 hk_j0a) h) (cwV 1 hts (gV_X2_record q_10_3) rfl rfl rfl hdV_X2_record ⟨Nat.le_of_ble_eq_true rfl, Nat.le_of_ble_eq_true rfl⟩) hK hP hS (ky_6_2 hk_j0a) (by decide) cl_2 rfl hl.1 rfl (Nat.le_of_ble_eq_true rfl) dX6_field_76 ⟨Nat.zero_le _, Nat.zero_le _⟩ (fun M14 H locs h hP hS => ?_)
            refine lv_aload_n hx hb dX6_field_79 rfl (lv_at hl 0 rfl) ?_
            refine rk_getr hx hb hts inlX6 hown hK hP hk_j0a cl_6 0 1 fq_6_0 q_1_12 rfl dX6_field_80 ?_
            refine rk_getr hx hb hts inlX4 hown hK hP (ky_6_0 hk_j0a) cl_4 1 10 fq_4_1 q_4_17 rfl dX6_field_83 ?_
            refine lv_iload_n hx hb dX6_field_86 rfl (lv_at hl 1 rfl) ?_
            refine lv_iload_n hx hb dX6_field_87 rfl (lv_at hl 2 rfl) ?_
            refine lv_iload_n hx hb dX6_field_88 rfl (lv_at hl 3 rfl) ?_
            refine lv_iload hx hb dX6_field_89 (lv_at hl 4 rfl) ?_
            refine rc_Vi (As := [.int x1a, .int x2a, .int x3a, .int x4a]) (rest := []) ⟨hx, hb, hml, hown, hts⟩ (mX1_add l G ((j0a + 1) + 10) x1a x2a x3a x4a M14 _ (ky_4_1 (ky_6_0 hk_j0a)) h) (cwV 4 hts (gV_X1_add q_12_2) rfl rfl rfl hdV_X1_add ⟨Nat.le_of_ble_eq_true rfl, Nat.le_of_ble_eq_true rfl⟩) hK hP hS (ky_4_1 (ky_6_0 hk_j0a)) (by decide) cl_1 rfl hl.1 rfl (Nat.le_of_ble_eq_true rfl) dX6_field_91 ⟨Nat.zero_le _, Nat.zero_le _⟩ (fun r17 M16 H locs h hP hS => ?_)
            exact re_i hx hb hr hlocks hP hS h dX6_field_94
          · replace h := h.2 c13
            refine lv_ldc hx hb hown (hts _ q_10_2) dX6_field_65 ?_
            exact re_i hx hb hr hlocks hP hS h dX6_field_67
        · replace h := h.2 c12
          refine lv_ldc hx hb hown (hts _ q_5_9) dX6_field_47 ?_
          exact re_i hx hb hr hlocks hP hS h dX6_field_49
set_option maxHeartbeats 4000000 in
set_option maxRecDepth 100000 in
theorem mX6_tendsKind (l : Launch) (G : Gp) (x0a : Int32) (x1a : Int32) (M : Mm) (Post : Mm → Int32 → Prop) (h : wX6_tendsKind Post M x0a x1a) : CtI l yX6_tendsKind wsX6_tendsKind rX6_tendsKind G [.int x0a, .int x1a] M Post := by
  refine Met.ofW (cc := cX6_tendsKind) (maxL := 2) (ret := (some .boolean)) (by decide) rfl ?_
  intro p e s m args below meth c s₁ B hml hv
  obtain ⟨rfl, hK, hP⟩ := hv
  have hx := B.exec
  have hb := B.bytes
  have hr := B.returns
  have hlocks := B.notSynchronized
  have hts0 := atoms_spec (ws := wsX6_tendsKind) B.pre
  have hts : ∀ w ∈ wsL_law, w.before _ s = true := fun w hw => hts0 w (List.mem_cons_of_mem _ hw)
  have hown : s.vm.findClass RX6 = some m.cls := findClass_of_methodNamed B.named
  have hS : va_S (Fr G) s.heap s.heap [] := va_S.rf
  have hl := lv_entry ([.int x0a, .int x1a]) (n := 2) (Nat.le_of_ble_eq_true rfl)
  rw [lg_entry_eq]
  generalize (lg_sl ([.int x0a, .int x1a]) ++ List.replicate (2 - (lg_sl ([.int x0a, .int x1a])).length) Slot.unset).toArray = ls at hl ⊢
  have hl : lv_has ls 2 [(0, .int x0a), (1, .int x1a)] := hl
  unfold wX6_tendsKind at h
  refine lv_iload_n hx hb dX6_tendsKind_0 rfl (lv_at hl 0 rfl) ?_
  refine lv_iconst (v := (2 : Int32)) hx hb dX6_tendsKind_1 k_iconst_2 ?_
  refine lv_icmp_eq (tgt := 10) hx hb dX6_tendsKind_2 (by decide) (fun c1 => ?_) (fun c1 => ?_)
  · replace h := h.1 c1
    refine lv_iconst (v := (1 : Int32)) hx hb dX6_tendsKind_10 k_iconst_1 ?_
    refine lv_goto (tgt := 15) hx hb dX6_tendsKind_11 (by decide) ?_
    exact re_z hx hb hr hlocks (Or.inr rfl) hP hS h dX6_tendsKind_15
  · replace h := h.2 c1
    refine lv_iload_n hx hb dX6_tendsKind_5 rfl (lv_at hl 0 rfl) ?_
    refine lv_iload_n hx hb dX6_tendsKind_6 rfl (lv_at hl 1 rfl) ?_
    refine lv_icmp_ne (tgt := 14) hx hb dX6_tendsKind_7 (by decide) (fun c2 => ?_) (fun c2 => ?_)
    · replace h := h.1 c2
      refine lv_iconst (v := (0 : Int32)) hx hb dX6_tendsKind_14 k_iconst_0 ?_
      exact re_z hx hb hr hlocks (Or.inl rfl) hP hS h dX6_tendsKind_15
    · replace h := h.2 c2
      refine lv_iconst (v := (1 : Int32)) hx hb dX6_tendsKind_10 k_iconst_1 ?_
      refine lv_goto (tgt := 15) hx hb dX6_tendsKind_11 (by decide) ?_
      exact re_z hx hb hr hlocks (Or.inr rfl) hP hS h dX6_tendsKind_15
set_option maxHeartbeats 4000000 in
set_option maxRecDepth 100000 in
theorem mX6_tend (l : Launch) (G : Gp) (j0a : Nat) (x1a : Int32) (x2a : Int32) (M : Mm) (Post : Mm → Int32 → Prop) (hk_j0a : kd j0a = 6) (h : wX6_tend Post M j0a x1a x2a) : CtI l yX6_tend wsX6_tend rX6_tend G [.ref (G.2.1 + j0a), .int x1a, .int x2a] M Post := by
  refine Met.ofW (cc := cX6_tend) (maxL := 3) (ret := (some .int)) (by decide) rfl ?_
  intro p e s m args below meth c s₁ B hml hv
  obtain ⟨rfl, hK, hP⟩ := hv
  have hx := B.exec
  have hb := B.bytes
  have hr := B.returns
  have hlocks := B.notSynchronized
  have hts0 := atoms_spec (ws := wsX6_tend) B.pre
  have hts : ∀ w ∈ wsL_law, w.before _ s = true := fun w hw => hts0 w (List.mem_cons_of_mem _ hw)
  have hown : s.vm.findClass RX6 = some m.cls := findClass_of_methodNamed B.named
  have hS : va_S (Fr G) s.heap s.heap [] := va_S.rf
  have hl := lv_entry ([.ref (G.2.1 + j0a), .int x1a, .int x2a]) (n := 3) (Nat.le_of_ble_eq_true rfl)
  rw [lg_entry_eq]
  generalize (lg_sl ([.ref (G.2.1 + j0a), .int x1a, .int x2a]) ++ List.replicate (3 - (lg_sl ([.ref (G.2.1 + j0a), .int x1a, .int x2a])).length) Slot.unset).toArray = ls at hl ⊢
  have hl : lv_has ls 3 [(0, .ref (G.2.1 + j0a)), (1, .int x1a), (2, .int x2a)] := hl
  unfold wX6_tend at h
  refine lv_iload_n hx hb dX6_tend_0 rfl (lv_at hl 1 rfl) ?_
  refine lv_iconst (v := (0 : Int32)) hx hb dX6_tend_1 k_iconst_0 ?_
  refine lv_iconst (v := (2 : Int32)) hx hb dX6_tend_2 k_iconst_2 ?_
  refine rc_Si (As := [.int x1a, .int (0 : Int32), .int (2 : Int32)]) (rest := []) ⟨hx, hb, hml, hown, hts⟩ (mX6_isOutside l G x1a (0 : Int32) (2 : Int32) M _ h) (va_cwS 3 hts (gS_X6_isOutside q_9_14) rfl rfl rfl hdS_X6_isOutside ⟨Nat.le_of_ble_eq_true rfl, Nat.le_of_ble_eq_true rfl⟩) hK hP hS rfl hl.1 rfl (Nat.le_of_ble_eq_true rfl) dX6_tend_3 ⟨Nat.zero_le _, Nat.zero_le _⟩ (fun r2 M1 H locs h hP hS => ?_)
  refine lv_if_ne (tgt := 23) hx hb dX6_tend_6 (by decide) (fun c3 => ?_) (fun c3 => ?_)
  · replace h := h.1 c3
    refine lv_ldc hx hb hown (hts _ q_5_9) dX6_tend_23 ?_
    exact re_i hx hb hr hlocks hP hS h dX6_tend_25
  · replace h := h.2 c3
    refine lv_aload_n hx hb dX6_tend_9 rfl (lv_at hl 0 rfl) ?_
    refine rk_getr hx hb hts inlX6 hown hK hP hk_j0a cl_6 0 1 fq_6_0 q_1_12 rfl dX6_tend_10 ?_
    refine rk_getr hx hb hts inlX4 hown hK hP (ky_6_0 hk_j0a) cl_4 0 1 fq_4_0 q_4_15 rfl dX6_tend_13 ?_
    refine lv_iload_n hx hb dX6_tend_16 rfl (lv_at hl 2 rfl) ?_
    refine rc_Vi (As := [.int x2a]) (rest := []) ⟨hx, hb, hml, hown, hts⟩ (mX0_hasGate l G ((j0a + 1) + 1) x2a M1 _ (ky_4_0 (ky_6_0 hk_j0a)) h) (cwV 1 hts (gV_X0_hasGate q_18_2) rfl rfl rfl hdV_X0_hasGate ⟨Nat.le_of_ble_eq_true rfl, Nat.le_of_ble_eq_true rfl⟩) hK hP hS (ky_4_0 (ky_6_0 hk_j0a)) (by decide) cl_0 rfl hl.1 rfl (Nat.le_of_ble_eq_true rfl) dX6_tend_17 ⟨Nat.zero_le _, Nat.zero_le _⟩ (fun r5 M4 H locs h hP hS => ?_)
    refine lv_if_ne (tgt := 26) hx hb dX6_tend_20 (by decide) (fun c6 => ?_) (fun c6 => ?_)
    · replace h := h.1 c6
      refine lv_aload_n hx hb dX6_tend_26 rfl (lv_at hl 0 rfl) ?_
      refine rk_getr hx hb hts inlX6 hown hK hP hk_j0a cl_6 0 1 fq_6_0 q_1_12 rfl dX6_tend_27 ?_
      refine rk_getr hx hb hts inlX4 hown hK hP (ky_6_0 hk_j0a) cl_4 0 1 fq_4_0 q_4_15 rfl dX6_tend_30 ?_
      refine lv_iload_n hx hb dX6_tend_33 rfl (lv_at hl 2 rfl) ?_
      refine rc_Vi (As := [.int x2a]) (rest := []) ⟨hx, hb, hml, hown, hts⟩ (mX0_isTended l G ((j0a + 1) + 1) x2a M4 _ (ky_4_0 (ky_6_0 hk_j0a)) h) (cwV 1 hts (gV_X0_isTended q_9_5) rfl rfl rfl hdV_X0_isTended ⟨Nat.le_of_ble_eq_true rfl, Nat.le_of_ble_eq_true rfl⟩) hK hP hS (ky_4_0 (ky_6_0 hk_j0a)) (by decide) cl_0 rfl hl.1 rfl (Nat.le_of_ble_eq_true rfl) dX6_tend_34 ⟨Nat.zero_le _, Nat.zero_le _⟩ (fun r8 M7 H locs h hP hS => ?_)
      refine lv_if_ne (tgt := 59) hx hb dX6_tend_37 (by decide) (fun c9 => ?_) (fun c9 => ?_)
      · replace h := h.1 c9
        refine lv_ldc hx hb hown (hts _ q_12_22) dX6_tend_59 ?_
        exact re_i hx hb hr hlocks hP hS h dX6_tend_61
      · replace h := h.2 c9
        refine lv_iload_n hx hb dX6_tend_40 rfl (lv_at hl 1 rfl) ?_
        refine lv_aload_n hx hb dX6_tend_41 rfl (lv_at hl 0 rfl) ?_
        refine rk_getr hx hb hts inlX6 hown hK hP hk_j0a cl_6 0 1 fq_6_0 q_1_12 rfl dX6_tend_42 ?_
        refine rk_getr hx hb hts inlX4 hown hK hP (ky_6_0 hk_j0a) cl_4 0 1 fq_4_0 q_4_15 rfl dX6_tend_45 ?_
        refine rk_getr hx hb hts inlX0 hown hK hP (ky_4_0 (ky_6_0 hk_j0a)) cl_0 3 2 fq_0_3 q_8_17 rfl dX6_tend_48 ?_
        refine lv_iload_n hx hb dX6_tend_51 rfl (lv_at hl 2 rfl) ?_
        refine rk_iald hx hb hK hP (ky_0_3 (ky_4_0 (ky_6_0 hk_j0a))) ac_8 _ rfl h.1 dX6_tend_52 ?_
        replace h := h.2
        refine rc_Si (As := [.int x1a, .int (M7 (((j0a + 1) + 1) + 2) (ix x2a))]) (rest := []) ⟨hx, hb, hml, hown, hts⟩ (mX6_tendsKind l G x1a (M7 (((j0a + 1) + 1) + 2) (ix x2a)) M7 _ h) (va_cwS 2 hts (gS_X6_tendsKind q_18_19) rfl rfl rfl hdS_X6_tendsKind ⟨Nat.le_of_ble_eq_true rfl, Nat.le_of_ble_eq_true rfl⟩) hK hP hS rfl hl.1 rfl (Nat.le_of_ble_eq_true rfl) dX6_tend_53 ⟨Nat.zero_le _, Nat.zero_le _⟩ (fun r11 M10 H locs h hP hS => ?_)
        refine lv_if_ne (tgt := 62) hx hb dX6_tend_56 (by decide) (fun c12 => ?_) (fun c12 => ?_)
        · replace h := h.1 c12
          refine lv_aload_n hx hb dX6_tend_62 rfl (lv_at hl 0 rfl) ?_
          refine rk_getr hx hb hts inlX6 hown hK hP hk_j0a cl_6 0 1 fq_6_0 q_1_12 rfl dX6_tend_63 ?_
          refine rk_getr hx hb hts inlX4 hown hK hP (ky_6_0 hk_j0a) cl_4 0 1 fq_4_0 q_4_15 rfl dX6_tend_66 ?_
          refine lv_iload_n hx hb dX6_tend_69 rfl (lv_at hl 1 rfl) ?_
          refine rc_Vi (As := [.int x1a]) (rest := []) ⟨hx, hb, hml, hown, hts⟩ (mX0_gatesOf l G ((j0a + 1) + 1) x1a M10 _ (ky_4_0 (ky_6_0 hk_j0a)) h) (cwV 1 hts (gV_X0_gatesOf q_18_22) rfl rfl rfl hdV_X0_gatesOf ⟨Nat.le_of_ble_eq_true rfl, Nat.le_of_ble_eq_true rfl⟩) hK hP hS (ky_4_0 (ky_6_0 hk_j0a)) (by decide) cl_0 rfl hl.1 rfl (Nat.le_of_ble_eq_true rfl) dX6_tend_70 ⟨Nat.zero_le _, Nat.zero_le _⟩ (fun r14 M13 H locs h hP hS => ?_)
          refine lv_iconst (v := (2 : Int32)) hx hb dX6_tend_73 k_iconst_2 ?_
          refine lv_icmp_lt (tgt := 80) hx hb dX6_tend_74 (by decide) (fun c15 => ?_) (fun c15 => ?_)
          · replace h := h.1 c15
            refine lv_aload_n hx hb dX6_tend_80 rfl (lv_at hl 0 rfl) ?_
            refine rk_getr hx hb hts inlX6 hown hK hP hk_j0a cl_6 2 47 fq_6_2 q_1_17 rfl dX6_tend_81 ?_
            refine lv_aload_n hx hb dX6_tend_84 rfl (lv_at hl 0 rfl) ?_
            refine rk_getr hx hb hts inlX6 hown hK hP hk_j0a cl_6 0 1 fq_6_0 q_1_12 rfl dX6_tend_85 ?_
            refine rc_Vv (As := [.ref (G.2.1 + (j0a + 1))]) (rest := []) ⟨hx, hb, hml, hown, hts⟩ (mX2_record l G (j0a + 47) (j0a + 1) M13 _ (ky_6_2 hk_j0a) (ky_6_0 hk_j0a) h) (cwV 1 hts (gV_X2_record q_10_3) rfl rfl rfl hdV_X2_record ⟨Nat.le_of_ble_eq_true rfl, Nat.le_of_ble_eq_true rfl⟩) hK hP hS (ky_6_2 hk_j0a) (by decide) cl_2 rfl hl.1 rfl (Nat.le_of_ble_eq_true rfl) dX6_tend_88 ⟨Nat.zero_le _, Nat.zero_le _⟩ (fun M16 H locs h hP hS => ?_)
            refine lv_aload_n hx hb dX6_tend_91 rfl (lv_at hl 0 rfl) ?_
            refine rk_getr hx hb hts inlX6 hown hK hP hk_j0a cl_6 0 1 fq_6_0 q_1_12 rfl dX6_tend_92 ?_
            refine rk_getr hx hb hts inlX4 hown hK hP (ky_6_0 hk_j0a) cl_4 0 1 fq_4_0 q_4_15 rfl dX6_tend_95 ?_
            refine rk_getr hx hb hts inlX0 hown hK hP (ky_4_0 (ky_6_0 hk_j0a)) cl_0 6 5 fq_0_6 q_8_20 rfl dX6_tend_98 ?_
            refine lv_iload_n hx hb dX6_tend_101 rfl (lv_at hl 2 rfl) ?_
            refine lv_iload_n hx hb dX6_tend_102 rfl (lv_at hl 1 rfl) ?_
            refine rk_iast hx hb hK hP hS (ky_0_6 (ky_4_0 (ky_6_0 hk_j0a))) ac_8 _ rfl h.1 dX6_tend_103 (fun M18 eM18 H locs hP hS => ?_)
            replace h := h.2
            replace h := h M18 eM18
            refine lv_aload_n hx hb dX6_tend_104 rfl (lv_at hl 0 rfl) ?_
            refine rk_getr hx hb hts inlX6 hown hK hP hk_j0a cl_6 0 1 fq_6_0 q_1_12 rfl dX6_tend_105 ?_
            refine rk_getr hx hb hts inlX4 hown hK hP (ky_6_0 hk_j0a) cl_4 0 1 fq_4_0 q_4_15 rfl dX6_tend_108 ?_
            refine lv_iload_n hx hb dX6_tend_111 rfl (lv_at hl 1 rfl) ?_
            refine rc_Vi (As := [.int x1a]) (rest := []) ⟨hx, hb, hml, hown, hts⟩ (mX0_gatesOf l G ((j0a + 1) + 1) x1a M18 _ (ky_4_0 (ky_6_0 hk_j0a)) h) (cwV 1 hts (gV_X0_gatesOf q_18_22) rfl rfl rfl hdV_X0_gatesOf ⟨Nat.le_of_ble_eq_true rfl, Nat.le_of_ble_eq_true rfl⟩) hK hP hS (ky_4_0 (ky_6_0 hk_j0a)) (by decide) cl_0 rfl hl.1 rfl (Nat.le_of_ble_eq_true rfl) dX6_tend_112 ⟨Nat.zero_le _, Nat.zero_le _⟩ (fun r20 M19 H locs h hP hS => ?_)
            exact re_i hx hb hr hlocks hP hS h dX6_tend_115
          · replace h := h.2 c15
            refine lv_ldc hx hb hown (hts _ q_10_2) dX6_tend_77 ?_
            exact re_i hx hb hr hlocks hP hS h dX6_tend_79
        · replace h := h.2 c12
          refine lv_ldc hx hb hown (hts _ q_12_22) dX6_tend_59 ?_
          exact re_i hx hb hr hlocks hP hS h dX6_tend_61
    · replace h := h.2 c6
      refine lv_ldc hx hb hown (hts _ q_5_9) dX6_tend_23 ?_
      exact re_i hx hb hr hlocks hP hS h dX6_tend_25
set_option maxHeartbeats 4000000 in
set_option maxRecDepth 100000 in
theorem mX6_open (l : Launch) (G : Gp) (j0a : Nat) (x1a : Int32) (M : Mm) (Post : Mm → Int32 → Prop) (hk_j0a : kd j0a = 6) (h : wX6_open Post M j0a x1a) : CtI l yX6_open wsX6_open rX6_open G [.ref (G.2.1 + j0a), .int x1a] M Post := by
  refine Met.ofW (cc := cX6_open) (maxL := 2) (ret := (some .int)) (by decide) rfl ?_
  intro p e s m args below meth c s₁ B hml hv
  obtain ⟨rfl, hK, hP⟩ := hv
  have hx := B.exec
  have hb := B.bytes
  have hr := B.returns
  have hlocks := B.notSynchronized
  have hts0 := atoms_spec (ws := wsX6_open) B.pre
  have hts : ∀ w ∈ wsL_law, w.before _ s = true := fun w hw => hts0 w (List.mem_cons_of_mem _ hw)
  have hown : s.vm.findClass RX6 = some m.cls := findClass_of_methodNamed B.named
  have hS : va_S (Fr G) s.heap s.heap [] := va_S.rf
  have hl := lv_entry ([.ref (G.2.1 + j0a), .int x1a]) (n := 2) (Nat.le_of_ble_eq_true rfl)
  rw [lg_entry_eq]
  generalize (lg_sl ([.ref (G.2.1 + j0a), .int x1a]) ++ List.replicate (2 - (lg_sl ([.ref (G.2.1 + j0a), .int x1a])).length) Slot.unset).toArray = ls at hl ⊢
  have hl : lv_has ls 2 [(0, .ref (G.2.1 + j0a)), (1, .int x1a)] := hl
  unfold wX6_open at h
  refine lv_aload_n hx hb dX6_open_0 rfl (lv_at hl 0 rfl) ?_
  refine rk_getr hx hb hts inlX6 hown hK hP hk_j0a cl_6 0 1 fq_6_0 q_1_12 rfl dX6_open_1 ?_
  refine rk_getr hx hb hts inlX4 hown hK hP (ky_6_0 hk_j0a) cl_4 0 1 fq_4_0 q_4_15 rfl dX6_open_4 ?_
  refine lv_iload_n hx hb dX6_open_7 rfl (lv_at hl 1 rfl) ?_
  refine rc_Vi (As := [.int x1a]) (rest := []) ⟨hx, hb, hml, hown, hts⟩ (mX0_hasGate l G ((j0a + 1) + 1) x1a M _ (ky_4_0 (ky_6_0 hk_j0a)) h) (cwV 1 hts (gV_X0_hasGate q_18_2) rfl rfl rfl hdV_X0_hasGate ⟨Nat.le_of_ble_eq_true rfl, Nat.le_of_ble_eq_true rfl⟩) hK hP hS (ky_4_0 (ky_6_0 hk_j0a)) (by decide) cl_0 rfl hl.1 rfl (Nat.le_of_ble_eq_true rfl) dX6_open_8 ⟨Nat.zero_le _, Nat.zero_le _⟩ (fun r2 M1 H locs h hP hS => ?_)
  refine lv_if_ne (tgt := 17) hx hb dX6_open_11 (by decide) (fun c3 => ?_) (fun c3 => ?_)
  · replace h := h.1 c3
    refine lv_aload_n hx hb dX6_open_17 rfl (lv_at hl 0 rfl) ?_
    refine rk_getr hx hb hts inlX6 hown hK hP hk_j0a cl_6 0 1 fq_6_0 q_1_12 rfl dX6_open_18 ?_
    refine rk_getr hx hb hts inlX4 hown hK hP (ky_6_0 hk_j0a) cl_4 0 1 fq_4_0 q_4_15 rfl dX6_open_21 ?_
    refine lv_iload_n hx hb dX6_open_24 rfl (lv_at hl 1 rfl) ?_
    refine rc_Vi (As := [.int x1a]) (rest := []) ⟨hx, hb, hml, hown, hts⟩ (mX0_canBeOpened l G ((j0a + 1) + 1) x1a M1 _ (ky_4_0 (ky_6_0 hk_j0a)) h) (cwV 1 hts (gV_X0_canBeOpened q_18_6) rfl rfl rfl hdV_X0_canBeOpened ⟨Nat.le_of_ble_eq_true rfl, Nat.le_of_ble_eq_true rfl⟩) hK hP hS (ky_4_0 (ky_6_0 hk_j0a)) (by decide) cl_0 rfl hl.1 rfl (Nat.le_of_ble_eq_true rfl) dX6_open_25 ⟨Nat.zero_le _, Nat.zero_le _⟩ (fun r5 M4 H locs h hP hS => ?_)
    refine lv_if_ne (tgt := 34) hx hb dX6_open_28 (by decide) (fun c6 => ?_) (fun c6 => ?_)
    · replace h := h.1 c6
      refine lv_aload_n hx hb dX6_open_34 rfl (lv_at hl 0 rfl) ?_
      refine rk_getr hx hb hts inlX6 hown hK hP hk_j0a cl_6 2 47 fq_6_2 q_1_17 rfl dX6_open_35 ?_
      refine lv_aload_n hx hb dX6_open_38 rfl (lv_at hl 0 rfl) ?_
      refine rk_getr hx hb hts inlX6 hown hK hP hk_j0a cl_6 0 1 fq_6_0 q_1_12 rfl dX6_open_39 ?_
      refine rc_Vv (As := [.ref (G.2.1 + (j0a + 1))]) (rest := []) ⟨hx, hb, hml, hown, hts⟩ (mX2_record l G (j0a + 47) (j0a + 1) M4 _ (ky_6_2 hk_j0a) (ky_6_0 hk_j0a) h) (cwV 1 hts (gV_X2_record q_10_3) rfl rfl rfl hdV_X2_record ⟨Nat.le_of_ble_eq_true rfl, Nat.le_of_ble_eq_true rfl⟩) hK hP hS (ky_6_2 hk_j0a) (by decide) cl_2 rfl hl.1 rfl (Nat.le_of_ble_eq_true rfl) dX6_open_42 ⟨Nat.zero_le _, Nat.zero_le _⟩ (fun M7 H locs h hP hS => ?_)
      refine lv_aload_n hx hb dX6_open_45 rfl (lv_at hl 0 rfl) ?_
      refine rk_getr hx hb hts inlX6 hown hK hP hk_j0a cl_6 0 1 fq_6_0 q_1_12 rfl dX6_open_46 ?_
      refine rk_getr hx hb hts inlX4 hown hK hP (ky_6_0 hk_j0a) cl_4 0 1 fq_4_0 q_4_15 rfl dX6_open_49 ?_
      refine lv_iload_n hx hb dX6_open_52 rfl (lv_at hl 1 rfl) ?_
      refine rc_Vi (As := [.int x1a]) (rest := []) ⟨hx, hb, hml, hown, hts⟩ (mX0_flipGate l G ((j0a + 1) + 1) x1a M7 _ (ky_4_0 (ky_6_0 hk_j0a)) h) (cwV 1 hts (gV_X0_flipGate q_18_11) rfl rfl rfl hdV_X0_flipGate ⟨Nat.le_of_ble_eq_true rfl, Nat.le_of_ble_eq_true rfl⟩) hK hP hS (ky_4_0 (ky_6_0 hk_j0a)) (by decide) cl_0 rfl hl.1 rfl (Nat.le_of_ble_eq_true rfl) dX6_open_53 ⟨Nat.zero_le _, Nat.zero_le _⟩ (fun r10 M9 H locs h hP hS => ?_)
      exact re_i hx hb hr hlocks hP hS h dX6_open_56
    · replace h := h.2 c6
      refine lv_ldc hx hb hown (hts _ q_12_22) dX6_open_31 ?_
      exact re_i hx hb hr hlocks hP hS h dX6_open_33
  · replace h := h.2 c3
    refine lv_ldc hx hb hown (hts _ q_5_9) dX6_open_14 ?_
    exact re_i hx hb hr hlocks hP hS h dX6_open_16
