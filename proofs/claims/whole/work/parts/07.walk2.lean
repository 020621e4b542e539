/-! the walks: each method keeps its predicate; printed by gen.py -/
set_option maxHeartbeats 4000000 in
set_option maxRecDepth 100000 in
theorem mX4_findPassingGates (l : Launch) (G : Gp) (j0a : Nat) (M : Mm) (Post : Mm → Prop) (hk_j0a : kd j0a = 4) (h : wX4_findPassingGates Post M j0a) : CtV l yX4_findPassingGates wsX4_findPassingGates rX4_findPassingGates G [.ref (G.2.1 + j0a)] M Post := by
  refine Met.ofW (cc := cX4_findPassingGates) (maxL := 4) (ret := none) (by decide) rfl ?_
  intro p e s m args below meth c s₁ B hml hv
  obtain ⟨rfl, hK, hP⟩ := hv
  have hx := B.exec
  have hb := B.bytes
  have hr := B.returns
  have hlocks := B.notSynchronized
  have hts0 := atoms_spec (ws := wsX4_findPassingGates) B.pre
  have hts : ∀ w ∈ wsL_law, w.before _ s = true := fun w hw => hts0 w (List.mem_cons_of_mem _ hw)
  have hown : s.vm.findClass RX4 = some m.cls := findClass_of_methodNamed B.named
  have hS : va_S (Fr G) s.heap s.heap [] := va_S.rf
  have hl := lv_entry ([.ref (G.2.1 + j0a)]) (n := 4) (Nat.le_of_ble_eq_true rfl)
  rw [lg_entry_eq]
  generalize (lg_sl ([.ref (G.2.1 + j0a)]) ++ List.replicate (4 - (lg_sl ([.ref (G.2.1 + j0a)])).length) Slot.unset).toArray = ls at hl ⊢
  have hl : lv_has ls 4 [(0, .ref (G.2.1 + j0a))] := hl
  have B125 : ∀ (A61 : Mm → Nat → Int32 → Int32 → Prop) (_ : ∀ (M : Mm) (j0 : Nat) (x1 : Int32) (x2 : Int32) (H : Heap) (locs : List Loc) (ls : Array Slot), Rp G M H → va_S (Fr G) s.heap H locs → lv_has ls 4 [(0, .ref (G.2.1 + j0)), (1, .int x1), (2, .int x2)] → kd j0 = 4 → A61 M j0 x1 x2 → Wv p l e (headSpec wsX4_findPassingGates rX4_findPassingGates).room s m [.ref (G.2.1 + j0a)].toArray below meth c G Post H locs (F0 m 61 ls [])), ∀ (M : Mm) (j0 : Nat) (x1 : Int32) (x2 : Int32) (H : Heap) (locs : List Loc) (ls : Array Slot), Rp G M H → va_S (Fr G) s.heap H locs → lv_has ls 4 [(0, .ref (G.2.1 + j0)), (1, .int x1), (2, .int x2)] → kd j0 = 4 → bX4_findPassingGates_125 Post A61 M j0 x1 x2 → Wv p l e (headSpec wsX4_findPassingGates rX4_findPassingGates).room s m [.ref (G.2.1 + j0a)].toArray below meth c G Post H locs (F0 m 125 ls []) := by
    intro A61 hA61 M j0 x1 x2 H locs ls hP hS hl hk_j0 h
    unfold bX4_findPassingGates_125 at h
    refine lv_aload_n hx hb dX4_findPassingGates_125 rfl (lv_at hl 0 rfl) ?_
    refine lv_dup hx hb dX4_findPassingGates_126 rfl ?_
    refine rk_geti hx hb hts inlX4 hown hK hP hk_j0 cl_4 10 fq_4_10 q_18_7 rfl dX4_findPassingGates_127 ?_
    refine lv_iconst (v := (1 : Int32)) hx hb dX4_findPassingGates_130 k_iconst_1 ?_
    refine lv_iload_n hx hb dX4_findPassingGates_131 rfl (lv_at hl 2 rfl) ?_
    refine lv_ishl hx hb dX4_findPassingGates_132 ?_
    refine lv_ior hx hb dX4_findPassingGates_133 ?_
    refine rk_puti hx hb hts inlX4 tyX4 tyX4_ok nmX4 hown hK hP hS hk_j0 cl_4 10 fq_4_10 q_18_7 rfl rfl rfl dX4_findPassingGates_134 (fun M23 eM23 H locs hP hS => ?_)
    replace h := h M23 eM23
    obtain ⟨x2_24, ex2_24⟩ : ∃ y : Int32, y = x2 + (-1 : Int32) := ⟨_, rfl⟩
    replace h := h x2_24 ex2_24
    refine lv_iinc (v := x2_24) (lv' := [(2, .int x2_24), (0, .ref (G.2.1 + j0)), (1, .int x1)]) hx hb dX4_findPassingGates_137 hl (k := 2) rfl (by rw [ex2_24]; rfl) (by decide) rfl (fun ls hl => ?_)
    refine lv_goto (tgt := 61) hx hb dX4_findPassingGates_140 (by decide) ?_
    exact hA61 _ _ _ _ _ _ _ hP hS (lv_sub hl [1, 2, 0] rfl) hk_j0 h
  have B97 : ∀ (A61 : Mm → Nat → Int32 → Int32 → Prop) (_ : ∀ (M : Mm) (j0 : Nat) (x1 : Int32) (x2 : Int32) (H : Heap) (locs : List Loc) (ls : Array Slot), Rp G M H → va_S (Fr G) s.heap H locs → lv_has ls 4 [(0, .ref (G.2.1 + j0)), (1, .int x1), (2, .int x2)] → kd j0 = 4 → A61 M j0 x1 x2 → Wv p l e (headSpec wsX4_findPassingGates rX4_findPassingGates).room s m [.ref (G.2.1 + j0a)].toArray below meth c G Post H locs (F0 m 61 ls [])), ∀ (M : Mm) (j0 : Nat) (x1 : Int32) (x2 : Int32) (x3 : Int32) (H : Heap) (locs : List Loc) (ls : Array Slot), Rp G M H → va_S (Fr G) s.heap H locs → lv_has ls 4 [(0, .ref (G.2.1 + j0)), (1, .int x1), (2, .int x2), (3, .int x3)] → kd j0 = 4 → bX4_findPassingGates_97 Post A61 M j0 x1 x2 x3 → Wv p l e (headSpec wsX4_findPassingGates rX4_findPassingGates).room s m [.ref (G.2.1 + j0a)].toArray below meth c G Post H locs (F0 m 97 ls []) := by
    intro A61 hA61 M j0 x1 x2 x3 H locs ls hP hS hl hk_j0 h
    unfold bX4_findPassingGates_97 at h
    refine lv_aload_n hx hb dX4_findPassingGates_97 rfl (lv_at hl 0 rfl) ?_
    refine rk_getr hx hb hts inlX4 hown hK hP hk_j0 cl_4 0 1 fq_4_0 q_2_7 rfl dX4_findPassingGates_98 ?_
    refine lv_iload_n hx hb dX4_findPassingGates_101 rfl (lv_at hl 2 rfl) ?_
    refine rc_Vi (As := [.int x2]) (rest := []) ⟨hx, hb, hml, hown, hts⟩ (mX0_isOpen l G (j0 + 1) x2 M _ (ky_4_0 hk_j0) h) (cwV 1 hts (gV_X0_isOpen q_18_2) rfl rfl rfl hdV_X0_isOpen ⟨Nat.le_of_ble_eq_true rfl, Nat.le_of_ble_eq_true rfl⟩) hK hP hS (ky_4_0 hk_j0) (by decide) cl_0 rfl hl.1 rfl (Nat.le_of_ble_eq_true rfl) dX4_findPassingGates_102 ⟨Nat.zero_le _, Nat.zero_le _⟩ (fun r17 M16 H locs h hP hS => ?_)
    refine lv_if_eq (tgt := 137) hx hb dX4_findPassingGates_105 (by decide) (fun c18 => ?_) (fun c18 => ?_)
    · replace h := h.1 c18
      obtain ⟨x2_19, ex2_19⟩ : ∃ y : Int32, y = x2 + (-1 : Int32) := ⟨_, rfl⟩
      replace h := h x2_19 ex2_19
      refine lv_iinc (v := x2_19) (lv' := [(2, .int x2_19), (0, .ref (G.2.1 + j0)), (1, .int x1), (3, .int x3)]) hx hb dX4_findPassingGates_137 hl (k := 2) rfl (by rw [ex2_19]; rfl) (by decide) rfl (fun ls hl => ?_)
      refine lv_goto (tgt := 61) hx hb dX4_findPassingGates_140 (by decide) ?_
      exact hA61 _ _ _ _ _ _ _ hP hS (lv_sub hl [1, 2, 0] rfl) hk_j0 h
    · replace h := h.2 c18
      refine lv_aload_n hx hb dX4_findPassingGates_108 rfl (lv_at hl 0 rfl) ?_
      refine rk_getr hx hb hts inlX4 hown hK hP hk_j0 cl_4 0 1 fq_4_0 q_2_7 rfl dX4_findPassingGates_109 ?_
      refine rk_getr hx hb hts inlX0 hown hK hP (ky_4_0 hk_j0) cl_0 3 2 fq_0_3 q_18_8 rfl dX4_findPassingGates_112 ?_
      refine lv_iload_n hx hb dX4_findPassingGates_115 rfl (lv_at hl 2 rfl) ?_
      refine rk_iald hx hb hK hP (ky_0_3 (ky_4_0 hk_j0)) ac_8 _ rfl h.1 dX4_findPassingGates_116 ?_
      replace h := h.2
      refine lv_iconst (v := (2 : Int32)) hx hb dX4_findPassingGates_117 k_iconst_2 ?_
      refine lv_icmp_ne (tgt := 125) hx hb dX4_findPassingGates_118 (by decide) (fun c20 => ?_) (fun c20 => ?_)
      · replace h := h.1 c20
        exact B125 _ hA61 _ _ _ _ _ _ _ hP hS (lv_sub hl [0, 1, 2] rfl) hk_j0 h
      · replace h := h.2 c20
        refine lv_iload_n hx hb dX4_findPassingGates_121 rfl (lv_at hl 3 rfl) ?_
        refine lv_if_eq (tgt := 137) hx hb dX4_findPassingGates_122 (by decide) (fun c21 => ?_) (fun c21 => ?_)
        · replace h := h.1 c21
          obtain ⟨x2_22, ex2_22⟩ : ∃ y : Int32, y = x2 + (-1 : Int32) := ⟨_, rfl⟩
          replace h := h x2_22 ex2_22
          refine lv_iinc (v := x2_22) (lv' := [(2, .int x2_22), (0, .ref (G.2.1 + j0)), (1, .int x1), (3, .int x3)]) hx hb dX4_findPassingGates_137 hl (k := 2) rfl (by rw [ex2_22]; rfl) (by decide) rfl (fun ls hl => ?_)
          refine lv_goto (tgt := 61) hx hb dX4_findPassingGates_140 (by decide) ?_
          exact hA61 _ _ _ _ _ _ _ hP hS (lv_sub hl [1, 2, 0] rfl) hk_j0 h
        · replace h := h.2 c21
          exact B125 _ hA61 _ _ _ _ _ _ _ hP hS (lv_sub hl [0, 1, 2] rfl) hk_j0 h
  have B78 : ∀ (A61 : Mm → Nat → Int32 → Int32 → Prop) (_ : ∀ (M : Mm) (j0 : Nat) (x1 : Int32) (x2 : Int32) (H : Heap) (locs : List Loc) (ls : Array Slot), Rp G M H → va_S (Fr G) s.heap H locs → lv_has ls 4 [(0, .ref (G.2.1 + j0)), (1, .int x1), (2, .int x2)] → kd j0 = 4 → A61 M j0 x1 x2 → Wv p l e (headSpec wsX4_findPassingGates rX4_findPassingGates).room s m [.ref (G.2.1 + j0a)].toArray below meth c G Post H locs (F0 m 61 ls [])), ∀ (M : Mm) (j0 : Nat) (x1 : Int32) (x2 : Int32) (t0 : Int32) (H : Heap) (locs : List Loc) (ls : Array Slot), Rp G M H → va_S (Fr G) s.heap H locs → lv_has ls 4 [(0, .ref (G.2.1 + j0)), (1, .int x1), (2, .int x2)] → kd j0 = 4 → bX4_findPassingGates_78 Post A61 M j0 x1 x2 t0 → Wv p l e (headSpec wsX4_findPassingGates rX4_findPassingGates).room s m [.ref (G.2.1 + j0a)].toArray below meth c G Post H locs (F0 m 78 ls [.int t0]) := by
    intro A61 hA61 M j0 x1 x2 t0 H locs ls hP hS hl hk_j0 h
    unfold bX4_findPassingGates_78 at h
    refine lv_istore_n (lv' := [(3, .int t0), (0, .ref (G.2.1 + j0)), (1, .int x1), (2, .int x2)]) hx hb dX4_findPassingGates_78 rfl hl (by decide) rfl (fun ls hl => ?_)
    refine lv_iload_n hx hb dX4_findPassingGates_79 rfl (lv_at hl 0 rfl) ?_
    refine lv_if_eq (tgt := 97) hx hb dX4_findPassingGates_80 (by decide) (fun c14 => ?_) (fun c14 => ?_)
    · replace h := h.1 c14
      exact B97 _ hA61 _ _ _ _ _ _ _ _ hP hS (lv_sub hl [1, 2, 3, 0] rfl) hk_j0 h
    · replace h := h.2 c14
      refine lv_iload_n hx hb dX4_findPassingGates_83 rfl (lv_at hl 2 rfl) ?_
      refine lv_iconst (v := (1 : Int32)) hx hb dX4_findPassingGates_84 k_iconst_1 ?_
      refine lv_aload_n hx hb dX4_findPassingGates_85 rfl (lv_at hl 1 rfl) ?_
      refine rk_getr hx hb hts inlX4 hown hK hP hk_j0 cl_4 0 1 fq_4_0 q_2_7 rfl dX4_findPassingGates_86 ?_
      refine rk_getr hx hb hts inlX0 hown hK hP (ky_4_0 hk_j0) cl_0 2 1 fq_0_2 q_17_20 rfl dX4_findPassingGates_89 ?_
      refine lv_iload_n hx hb dX4_findPassingGates_92 rfl (lv_at hl 3 rfl) ?_
      refine rk_iald hx hb hK hP (ky_0_2 (ky_4_0 hk_j0)) ac_8 _ rfl h.1 dX4_findPassingGates_93 ?_
      replace h := h.2
      refine lv_ishl hx hb dX4_findPassingGates_94 ?_
      refine lv_ior hx hb dX4_findPassingGates_95 ?_
      refine lv_topi (fun x1_15 ex1_15 => ?_)
      replace h := h x1_15 ex1_15
      refine lv_istore_n (lv' := [(1, .int x1_15), (3, .int t0), (0, .ref (G.2.1 + j0)), (2, .int x2)]) hx hb dX4_findPassingGates_96 rfl hl (by decide) rfl (fun ls hl => ?_)
      exact B97 _ hA61 _ _ _ _ _ _ _ _ hP hS (lv_sub hl [2, 0, 3, 1] rfl) hk_j0 h
  have B61 : ∀ n : Nat, ∀ (M : Mm) (j0 : Nat) (x1 : Int32) (x2 : Int32) (H : Heap) (locs : List Loc) (ls : Array Slot), Rp G M H → va_S (Fr G) s.heap H locs → lv_has ls 4 [(0, .ref (G.2.1 + j0)), (1, .int x1), (2, .int x2)] → kd j0 = 4 → lX4_findPassingGates_61 Post n M j0 x1 x2 → Wv p l e (headSpec wsX4_findPassingGates rX4_findPassingGates).room s m [.ref (G.2.1 + j0a)].toArray below meth c G Post H locs (F0 m 61 ls []) := by
    intro n
    induction n with
    | zero => intro M j0 x1 x2 H locs ls hP hS hl hk_j0 h; exact h.elim
    | succ n ih =>
      intro M j0 x1 x2 H locs ls hP hS hl hk_j0 h
      have hA61 := ih
      replace h : bX4_findPassingGates_61 Post (lX4_findPassingGates_61 Post n) M j0 x1 x2 := h
      unfold bX4_findPassingGates_61 at h
      refine lv_iload_n hx hb dX4_findPassingGates_61 rfl (lv_at hl 2 rfl) ?_
      refine lv_if_le (tgt := 143) hx hb dX4_findPassingGates_62 (by decide) (fun c12 => ?_) (fun c12 => ?_)
      · replace h := h.1 c12
        exact re_v hx hb hr hlocks hP hS h dX4_findPassingGates_143
      · replace h := h.2 c12
        refine lv_iload_n hx hb dX4_findPassingGates_65 rfl (lv_at hl 1 rfl) ?_
        refine lv_iconst (v := (1 : Int32)) hx hb dX4_findPassingGates_66 k_iconst_1 ?_
        refine lv_iload_n hx hb dX4_findPassingGates_67 rfl (lv_at hl 2 rfl) ?_
        refine lv_ishl hx hb dX4_findPassingGates_68 ?_
        refine lv_iand hx hb dX4_findPassingGates_69 ?_
        refine lv_if_eq (tgt := 77) hx hb dX4_findPassingGates_70 (by decide) (fun c13 => ?_) (fun c13 => ?_)
        · replace h := h.1 c13
          refine lv_iconst (v := (0 : Int32)) hx hb dX4_findPassingGates_77 k_iconst_0 ?_
          exact B78 _ hA61 _ _ _ _ _ _ _ _ hP hS (lv_sub hl [0, 1, 2] rfl) hk_j0 h
        · replace h := h.2 c13
          refine lv_iconst (v := (1 : Int32)) hx hb dX4_findPassingGates_73 k_iconst_1 ?_
          refine lv_goto (tgt := 78) hx hb dX4_findPassingGates_74 (by decide) ?_
          exact B78 _ hA61 _ _ _ _ _ _ _ _ hP hS (lv_sub hl [0, 1, 2] rfl) hk_j0 h
  have B4 : ∀ n : Nat, ∀ (M : Mm) (j0 : Nat) (x1 : Int32) (x2 : Int32) (H : Heap) (locs : List Loc) (ls : Array Slot), Rp G M H → va_S (Fr G) s.heap H locs → lv_has ls 4 [(0, .ref (G.2.1 + j0)), (1, .int x1), (2, .int x2)] → kd j0 = 4 → lX4_findPassingGates_4 Post n M j0 x1 x2 → Wv p l e (headSpec wsX4_findPassingGates rX4_findPassingGates).room s m [.ref (G.2.1 + j0a)].toArray below meth c G Post H locs (F0 m 4 ls []) := by
    intro n
    induction n with
    | zero => intro M j0 x1 x2 H locs ls hP hS hl hk_j0 h; exact h.elim
    | succ n ih =>
      intro M j0 x1 x2 H locs ls hP hS hl hk_j0 h
      have hA4 := ih
      replace h : bX4_findPassingGates_4 Post (lX4_findPassingGates_4 Post n) M j0 x1 x2 := h
      unfold bX4_findPassingGates_4 at h
      refine lv_iload_n hx hb dX4_findPassingGates_4 rfl (lv_at hl 2 rfl) ?_
      refine lv_aload_n hx hb dX4_findPassingGates_5 rfl (lv_at hl 0 rfl) ?_
      refine rk_getr hx hb hts inlX4 hown hK hP hk_j0 cl_4 1 10 fq_4_1 q_2_11 rfl dX4_findPassingGates_6 ?_
      refine rk_geti hx hb hts inlX1 hown hK hP (ky_4_1 hk_j0) cl_1 0 fq_1_0 q_17_17 rfl dX4_findPassingGates_9 ?_
      refine lv_icmp_ge (tgt := 46) hx hb dX4_findPassingGates_12 (by decide) (fun c2 => ?_) (fun c2 => ?_)
      · replace h := h.1 c2
        refine lv_aload_n hx hb dX4_findPassingGates_46 rfl (lv_at hl 0 rfl) ?_
        refine lv_iconst (v := (0 : Int32)) hx hb dX4_findPassingGates_47 k_iconst_0 ?_
        refine rk_puti hx hb hts inlX4 tyX4 tyX4_ok nmX4 hown hK hP hS hk_j0 cl_4 10 fq_4_10 q_18_7 rfl rfl rfl dX4_findPassingGates_48 (fun M3 eM3 H locs hP hS => ?_)
        replace h := h M3 eM3
        refine lv_aload_n hx hb dX4_findPassingGates_51 rfl (lv_at hl 0 rfl) ?_
        refine rk_getr hx hb hts inlX4 hown hK hP hk_j0 cl_4 0 1 fq_4_0 q_2_7 rfl dX4_findPassingGates_52 ?_
        refine rk_geti hx hb hts inlX0 hown hK hP (ky_4_0 hk_j0) cl_0 0 fq_0_0 q_17_11 rfl dX4_findPassingGates_55 ?_
        refine lv_iconst (v := (1 : Int32)) hx hb dX4_findPassingGates_58 k_iconst_1 ?_
        refine lv_isub hx hb dX4_findPassingGates_59 ?_
        refine lv_topi (fun x2_4 ex2_4 => ?_)
        replace h := h x2_4 ex2_4
        refine lv_istore_n (lv' := [(2, .int x2_4), (0, .ref (G.2.1 + j0)), (1, .int x1)]) hx hb dX4_findPassingGates_60 rfl hl (by decide) rfl (fun ls hl => ?_)
        obtain ⟨n5, h⟩ := h
        exact B61 _ _ _ _ _ _ _ _ hP hS (lv_sub hl [1, 2, 0] rfl) hk_j0 h
      · replace h := h.2 c2
        refine lv_aload_n hx hb dX4_findPassingGates_15 rfl (lv_at hl 0 rfl) ?_
        refine rk_getr hx hb hts inlX4 hown hK hP hk_j0 cl_4 1 10 fq_4_1 q_2_11 rfl dX4_findPassingGates_16 ?_
        refine lv_iload_n hx hb dX4_findPassingGates_19 rfl (lv_at hl 2 rfl) ?_
        refine rc_Vi (As := [.int x2]) (rest := []) ⟨hx, hb, hml, hown, hts⟩ (mX1_wants l G (j0 + 10) x2 M _ (ky_4_1 hk_j0) h) (cwV 1 hts (gV_X1_wants q_18_9) rfl rfl rfl hdV_X1_wants ⟨Nat.le_of_ble_eq_true rfl, Nat.le_of_ble_eq_true rfl⟩) hK hP hS (ky_4_1 hk_j0) (by decide) cl_1 rfl hl.1 rfl (Nat.le_of_ble_eq_true rfl) dX4_findPassingGates_20 ⟨Nat.zero_le _, Nat.zero_le _⟩ (fun r7 M6 H locs h hP hS => ?_)
        refine lv_if_eq (tgt := 40) hx hb dX4_findPassingGates_23 (by decide) (fun c8 => ?_) (fun c8 => ?_)
        · replace h := h.1 c8
          obtain ⟨x2_9, ex2_9⟩ : ∃ y : Int32, y = x2 + (1 : Int32) := ⟨_, rfl⟩
          replace h := h x2_9 ex2_9
          refine lv_iinc (v := x2_9) (lv' := [(2, .int x2_9), (0, .ref (G.2.1 + j0)), (1, .int x1)]) hx hb dX4_findPassingGates_40 hl (k := 2) rfl (by rw [ex2_9]; rfl) (by decide) rfl (fun ls hl => ?_)
          refine lv_goto (tgt := 4) hx hb dX4_findPassingGates_43 (by decide) ?_
          exact hA4 _ _ _ _ _ _ _ hP hS (lv_sub hl [1, 2, 0] rfl) hk_j0 h
        · replace h := h.2 c8
          refine lv_iload_n hx hb dX4_findPassingGates_26 rfl (lv_at hl 1 rfl) ?_
          refine lv_iconst (v := (1 : Int32)) hx hb dX4_findPassingGates_27 k_iconst_1 ?_
          refine lv_aload_n hx hb dX4_findPassingGates_28 rfl (lv_at hl 0 rfl) ?_
          refine rk_getr hx hb hts inlX4 hown hK hP hk_j0 cl_4 1 10 fq_4_1 q_2_11 rfl dX4_findPassingGates_29 ?_
          refine rk_getr hx hb hts inlX1 hown hK hP (ky_4_1 hk_j0) cl_1 2 1 fq_1_2 q_17_18 rfl dX4_findPassingGates_32 ?_
          refine lv_iload_n hx hb dX4_findPassingGates_35 rfl (lv_at hl 2 rfl) ?_
          refine rk_iald hx hb hK hP (ky_1_2 (ky_4_1 hk_j0)) ac_9 _ rfl h.1 dX4_findPassingGates_36 ?_
          replace h := h.2
          refine lv_ishl hx hb dX4_findPassingGates_37 ?_
          refine lv_ior hx hb dX4_findPassingGates_38 ?_
          refine lv_topi (fun x1_10 ex1_10 => ?_)
          replace h := h x1_10 ex1_10
          refine lv_istore_n (lv' := [(1, .int x1_10), (0, .ref (G.2.1 + j0)), (2, .int x2)]) hx hb dX4_findPassingGates_39 rfl hl (by decide) rfl (fun ls hl => ?_)
          obtain ⟨x2_11, ex2_11⟩ : ∃ y : Int32, y = x2 + (1 : Int32) := ⟨_, rfl⟩
          replace h := h x2_11 ex2_11
          refine lv_iinc (v := x2_11) (lv' := [(2, .int x2_11), (1, .int x1_10), (0, .ref (G.2.1 + j0))]) hx hb dX4_findPassingGates_40 hl (k := 2) rfl (by rw [ex2_11]; rfl) (by decide) rfl (fun ls hl => ?_)
          refine lv_goto (tgt := 4) hx hb dX4_findPassingGates_43 (by decide) ?_
          exact hA4 _ _ _ _ _ _ _ hP hS (lv_sub hl [2, 1, 0] rfl) hk_j0 h
  unfold wX4_findPassingGates at h
  refine lv_iconst (v := (0 : Int32)) hx hb dX4_findPassingGates_0 k_iconst_0 ?_
  refine lv_istore_n (lv' := [(1, .int (0 : Int32)), (0, .ref (G.2.1 + j0a))]) hx hb dX4_findPassingGates_1 rfl hl (by decide) rfl (fun ls hl => ?_)
  refine lv_iconst (v := (0 : Int32)) hx hb dX4_findPassingGates_2 k_iconst_0 ?_
  refine lv_istore_n (lv' := [(2, .int (0 : Int32)), (1, .int (0 : Int32)), (0, .ref (G.2.1 + j0a))]) hx hb dX4_findPassingGates_3 rfl hl (by decide) rfl (fun ls hl => ?_)
  obtain ⟨n1, h⟩ := h
  exact B4 _ _ _ _ _ _ _ _ hP hS (lv_sub hl [2, 1, 0] rfl) hk_j0a h
set_option maxHeartbeats 4000000 in
set_option maxRecDepth 100000 in
theorem mX4_seepAway (l : Launch) (G : Gp) (j0a : Nat) (x1a : Int32) (x2a : Int32) (M : Mm) (Post : Mm → Int32 → Prop) (hk_j0a : kd j0a = 4) (h : wX4_seepAway Post M j0a x1a x2a) : CtI l yX4_seepAway wsX4_seepAway rX4_seepAway G [.ref (G.2.1 + j0a), .int x1a, .int x2a] M Post := by
  refine Met.ofW (cc := cX4_seepAway) (maxL := 4) (ret := (some .int)) (by decide) rfl ?_
  intro p e s m args below meth c s₁ B hml hv
  obtain ⟨rfl, hK, hP⟩ := hv
  have hx := B.exec
  have hb := B.bytes
  have hr := B.returns
  have hlocks := B.notSynchronized
  have hts0 := atoms_spec (ws := wsX4_seepAway) B.pre
  have hts : ∀ w ∈ wsL_law, w.before _ s = true := fun w hw => hts0 w (List.mem_cons_of_mem _ hw)
  have hown : s.vm.findClass RX4 = some m.cls := findClass_of_methodNamed B.named
  have hS : va_S (Fr G) s.heap s.heap [] := va_S.rf
  have hl := lv_entry ([.ref (G.2.1 + j0a), .int x1a, .int x2a]) (n := 4) (Nat.le_of_ble_eq_true rfl)
  rw [lg_entry_eq]
  generalize (lg_sl ([.ref (G.2.1 + j0a), .int x1a, .int x2a]) ++ List.replicate (4 - (lg_sl ([.ref (G.2.1 + j0a), .int x1a, .int x2a])).length) Slot.unset).toArray = ls at hl ⊢
  have hl : lv_has ls 4 [(0, .ref (G.2.1 + j0a)), (1, .int x1a), (2, .int x2a)] := hl
  unfold wX4_seepAway at h
  refine lv_iload_n hx hb dX4_seepAway_0 rfl (lv_at hl 2 rfl) ?_
  refine lv_aload_n hx hb dX4_seepAway_1 rfl (lv_at hl 0 rfl) ?_
  refine rk_getr hx hb hts inlX4 hown hK hP hk_j0a cl_4 0 1 fq_4_0 q_2_7 rfl dX4_seepAway_2 ?_
  refine rk_getr hx hb hts inlX0 hown hK hP (ky_4_0 hk_j0a) cl_0 5 4 fq_0_5 q_18_14 rfl dX4_seepAway_5 ?_
  refine lv_iload_n hx hb dX4_seepAway_8 rfl (lv_at hl 1 rfl) ?_
  refine rk_iald hx hb hK hP (ky_0_5 (ky_4_0 hk_j0a)) ac_8 _ rfl h.1 dX4_seepAway_9 ?_
  replace h := h.2
  refine lv_imul hx hb dX4_seepAway_10 ?_
  refine lv_sipush (v := (999 : Int32)) hx hb dX4_seepAway_11 k_sipush_999 ?_
  refine lv_iadd hx hb dX4_seepAway_14 ?_
  refine lv_sipush (v := (1000 : Int32)) hx hb dX4_seepAway_15 k_sipush_1000 ?_
  refine lv_idiv hx hb dX4_seepAway_18 (by decide) ?_
  refine lv_topi (fun x3_1 ex3_1 => ?_)
  replace h := h x3_1 ex3_1
  refine lv_istore_n (lv' := [(3, .int x3_1), (0, .ref (G.2.1 + j0a)), (1, .int x1a), (2, .int x2a)]) hx hb dX4_seepAway_19 rfl hl (by decide) rfl (fun ls hl => ?_)
  refine lv_aload_n hx hb dX4_seepAway_20 rfl (lv_at hl 1 rfl) ?_
  refine rk_getr hx hb hts inlX4 hown hK hP hk_j0a cl_4 0 1 fq_4_0 q_2_7 rfl dX4_seepAway_21 ?_
  refine rk_getr hx hb hts inlX0 hown hK hP (ky_4_0 hk_j0a) cl_0 8 7 fq_0_8 q_18_15 rfl dX4_seepAway_24 ?_
  refine lv_iload_n hx hb dX4_seepAway_27 rfl (lv_at hl 2 rfl) ?_
  refine lv_dup2_11 hx hb dX4_seepAway_28 rfl rfl ?_
  refine rk_iald hx hb hK hP (ky_0_8 (ky_4_0 hk_j0a)) ac_8 _ rfl h.1 dX4_seepAway_29 ?_
  replace h := h.2
  refine lv_iload_n hx hb dX4_seepAway_30 rfl (lv_at hl 0 rfl) ?_
  refine lv_iadd hx hb dX4_seepAway_31 ?_
  refine rk_iast hx hb hK hP hS (ky_0_8 (ky_4_0 hk_j0a)) ac_8 _ rfl h.1 dX4_seepAway_32 (fun M2 eM2 H locs hP hS => ?_)
  replace h := h.2
  replace h := h M2 eM2
  refine lv_aload_n hx hb dX4_seepAway_33 rfl (lv_at hl 1 rfl) ?_
  refine lv_dup hx hb dX4_seepAway_34 rfl ?_
  refine rk_geti hx hb hts inlX4 hown hK hP hk_j0a cl_4 6 fq_4_6 q_6_3 rfl dX4_seepAway_35 ?_
  refine lv_iload_n hx hb dX4_seepAway_38 rfl (lv_at hl 0 rfl) ?_
  refine lv_iadd hx hb dX4_seepAway_39 ?_
  refine rk_puti hx hb hts inlX4 tyX4 tyX4_ok nmX4 hown hK hP hS hk_j0a cl_4 6 fq_4_6 q_6_3 rfl rfl rfl dX4_seepAway_40 (fun M3 eM3 H locs hP hS => ?_)
  replace h := h M3 eM3
  refine lv_iload_n hx hb dX4_seepAway_43 rfl (lv_at hl 0 rfl) ?_
  exact re_i hx hb hr hlocks hP hS h dX4_seepAway_44
set_option maxHeartbeats 4000000 in
set_option maxRecDepth 100000 in
theorem mX4_mayTake (l : Launch) (G : Gp) (j0a : Nat) (x1a : Int32) (M : Mm) (Post : Mm → Int32 → Prop) (hk_j0a : kd j0a = 4) (h : wX4_mayTake Post M j0a x1a) : CtI l yX4_mayTake wsX4_mayTake rX4_mayTake G [.ref (G.2.1 + j0a), .int x1a] M Post := by
  refine Met.ofW (cc := cX4_mayTake) (maxL := 2) (ret := (some .boolean)) (by decide) rfl ?_
  intro p e s m args below meth c s₁ B hml hv
  obtain ⟨rfl, hK, hP⟩ := hv
  have hx := B.exec
  have hb := B.bytes
  have hr := B.returns
  have hlocks := B.notSynchronized
  have hts0 := atoms_spec (ws := wsX4_mayTake) B.pre
  have hts : ∀ w ∈ wsL_law, w.before _ s = true := fun w hw => hts0 w (List.mem_cons_of_mem _ hw)
  have hown : s.vm.findClass RX4 = some m.cls := findClass_of_methodNamed B.named
  have hS : va_S (Fr G) s.heap s.heap [] := va_S.rf
  have hl := lv_entry ([.ref (G.2.1 + j0a), .int x1a]) (n := 2) (Nat.le_of_ble_eq_true rfl)
  rw [lg_entry_eq]
  generalize (lg_sl ([.ref (G.2.1 + j0a), .int x1a]) ++ List.replicate (2 - (lg_sl ([.ref (G.2.1 + j0a), .int x1a])).length) Slot.unset).toArray = ls at hl ⊢
  have hl : lv_has ls 2 [(0, .ref (G.2.1 + j0a)), (1, .int x1a)] := hl
  unfold wX4_mayTake at h
  refine lv_aload_n hx hb dX4_mayTake_0 rfl (lv_at hl 0 rfl) ?_
  refine rk_getr hx hb hts inlX4 hown hK hP hk_j0a cl_4 9 22 fq_4_9 q_2_18 rfl dX4_mayTake_1 ?_
  refine lv_aload_n hx hb dX4_mayTake_4 rfl (lv_at hl 0 rfl) ?_
  refine rk_getr hx hb hts inlX4 hown hK hP hk_j0a cl_4 1 10 fq_4_1 q_2_11 rfl dX4_mayTake_5 ?_
  refine rk_getr hx hb hts inlX1 hown hK hP (ky_4_1 hk_j0a) cl_1 2 1 fq_1_2 q_17_18 rfl dX4_mayTake_8 ?_
  refine lv_iload_n hx hb dX4_mayTake_11 rfl (lv_at hl 1 rfl) ?_
  refine rk_iald hx hb hK hP (ky_1_2 (ky_4_1 hk_j0a)) ac_9 _ rfl h.1 dX4_mayTake_12 ?_
  replace h := h.2
  refine rk_iald hx hb hK hP (ky_4_9 hk_j0a) ac_8 _ rfl h.1 dX4_mayTake_13 ?_
  replace h := h.2
  refine lv_aload_n hx hb dX4_mayTake_14 rfl (lv_at hl 0 rfl) ?_
  refine rk_getr hx hb hts inlX4 hown hK hP hk_j0a cl_4 1 10 fq_4_1 q_2_11 rfl dX4_mayTake_15 ?_
  refine rk_getr hx hb hts inlX1 hown hK hP (ky_4_1 hk_j0a) cl_1 5 4 fq_1_5 q_17_19 rfl dX4_mayTake_18 ?_
  refine lv_iload_n hx hb dX4_mayTake_21 rfl (lv_at hl 1 rfl) ?_
  refine rk_iald hx hb hK hP (ky_1_5 (ky_4_1 hk_j0a)) ac_9 _ rfl h.1 dX4_mayTake_22 ?_
  replace h := h.2
  refine lv_icmp_lt (tgt := 30) hx hb dX4_mayTake_23 (by decide) (fun c1 => ?_) (fun c1 => ?_)
  · replace h := h.1 c1
    refine lv_iconst (v := (0 : Int32)) hx hb dX4_mayTake_30 k_iconst_0 ?_
    exact re_z hx hb hr hlocks (Or.inl rfl) hP hS h dX4_mayTake_31
  · replace h := h.2 c1
    refine lv_iconst (v := (1 : Int32)) hx hb dX4_mayTake_26 k_iconst_1 ?_
    refine lv_goto (tgt := 31) hx hb dX4_mayTake_27 (by decide) ?_
    exact re_z hx hb hr hlocks (Or.inr rfl) hP hS h dX4_mayTake_31
set_option maxHeartbeats 4000000 in
set_option maxRecDepth 100000 in
theorem mX4_giveToFields (l : Launch) (G : Gp) (j0a : Nat) (x1a : Int32) (x2a : Int32) (M : Mm) (Post : Mm → Int32 → Prop) (hk_j0a : kd j0a = 4) (h : wX4_giveToFields Post M j0a x1a x2a) : CtI l yX4_giveToFields wsX4_giveToFields rX4_giveToFields G [.ref (G.2.1 + j0a), .int x1a, .int x2a] M Post := by
  refine Met.ofW (cc := cX4_giveToFields) (maxL := 6) (ret := (some .int)) (by decide) rfl ?_
  intro p e s m args below meth c s₁ B hml hv
  obtain ⟨rfl, hK, hP⟩ := hv
  have hx := B.exec
  have hb := B.bytes
  have hr := B.returns
  have hlocks := B.notSynchronized
  have hts0 := atoms_spec (ws := wsX4_giveToFields) B.pre
  have hts : ∀ w ∈ wsL_law, w.before _ s = true := fun w hw => hts0 w (List.mem_cons_of_mem _ hw)
  have hown : s.vm.findClass RX4 = some m.cls := findClass_of_methodNamed B.named
  have hS : va_S (Fr G) s.heap s.heap [] := va_S.rf
  have hl := lv_entry ([.ref (G.2.1 + j0a), .int x1a, .int x2a]) (n := 6) (Nat.le_of_ble_eq_true rfl)
  rw [lg_entry_eq]
  generalize (lg_sl ([.ref (G.2.1 + j0a), .int x1a, .int x2a]) ++ List.replicate (6 - (lg_sl ([.ref (G.2.1 + j0a), .int x1a, .int x2a])).length) Slot.unset).toArray = ls at hl ⊢
  have hl : lv_has ls 6 [(0, .ref (G.2.1 + j0a)), (1, .int x1a), (2, .int x2a)] := hl
  have B5 : ∀ n : Nat, ∀ (M : Mm) (j0 : Nat) (x1 : Int32) (x2 : Int32) (x3 : Int32) (x4 : Int32) (H : Heap) (locs : List Loc) (ls : Array Slot), Rp G M H → va_S (Fr G) s.heap H locs → lv_has ls 6 [(0, .ref (G.2.1 + j0)), (1, .int x1), (2, .int x2), (3, .int x3), (4, .int x4)] → kd j0 = 4 → lX4_giveToFields_5 Post n M j0 x1 x2 x3 x4 → Wi p l e (headSpec wsX4_giveToFields rX4_giveToFields).room s m [.ref (G.2.1 + j0a), .int x1a, .int x2a].toArray below meth c G Post H locs (F0 m 5 ls []) := by
    intro n
    induction n with
    | zero => intro M j0 x1 x2 x3 x4 H locs ls hP hS hl hk_j0 h; exact h.elim
    | succ n ih =>
      intro M j0 x1 x2 x3 x4 H locs ls hP hS hl hk_j0 h
      have hA5 := ih
      replace h : bX4_giveToFields_5 Post (lX4_giveToFields_5 Post n) M j0 x1 x2 x3 x4 := h
      unfold bX4_giveToFields_5 at h
      refine lv_iload hx hb dX4_giveToFields_5 (lv_at hl 4 rfl) ?_
      refine lv_aload_n hx hb dX4_giveToFields_7 rfl (lv_at hl 0 rfl) ?_
      refine rk_getr hx hb hts inlX4 hown hK hP hk_j0 cl_4 1 10 fq_4_1 q_2_11 rfl dX4_giveToFields_8 ?_
      refine rk_geti hx hb hts inlX1 hown hK hP (ky_4_1 hk_j0) cl_1 0 fq_1_0 q_17_17 rfl dX4_giveToFields_11 ?_
      refine lv_icmp_ge (tgt := 87) hx hb dX4_giveToFields_14 (by decide) (fun c2 => ?_) (fun c2 => ?_)
      · replace h := h.1 c2
        refine lv_aload_n hx hb dX4_giveToFields_87 rfl (lv_at hl 0 rfl) ?_
        refine lv_dup hx hb dX4_giveToFields_88 rfl ?_
        refine rk_geti hx hb hts inlX4 hown hK hP hk_j0 cl_4 5 fq_4_5 q_6_2 rfl dX4_giveToFields_89 ?_
        refine lv_iload_n hx hb dX4_giveToFields_92 rfl (lv_at hl 2 rfl) ?_
        refine lv_iload_n hx hb dX4_giveToFields_93 rfl (lv_at hl 3 rfl) ?_
        refine lv_isub hx hb dX4_giveToFields_94 ?_
        refine lv_iadd hx hb dX4_giveToFields_95 ?_
        refine rk_puti hx hb hts inlX4 tyX4 tyX4_ok nmX4 hown hK hP hS hk_j0 cl_4 5 fq_4_5 q_6_2 rfl rfl rfl dX4_giveToFields_96 (fun M3 eM3 H locs hP hS => ?_)
        replace h := h M3 eM3
        refine lv_iload_n hx hb dX4_giveToFields_99 rfl (lv_at hl 2 rfl) ?_
        refine lv_iload_n hx hb dX4_giveToFields_100 rfl (lv_at hl 3 rfl) ?_
        refine lv_isub hx hb dX4_giveToFields_101 ?_
        exact re_i hx hb hr hlocks hP hS h dX4_giveToFields_102
      · replace h := h.2 c2
        refine lv_aload_n hx hb dX4_giveToFields_17 rfl (lv_at hl 0 rfl) ?_
        refine rk_getr hx hb hts inlX4 hown hK hP hk_j0 cl_4 1 10 fq_4_1 q_2_11 rfl dX4_giveToFields_18 ?_
        refine rk_getr hx hb hts inlX1 hown hK hP (ky_4_1 hk_j0) cl_1 8 7 fq_1_8 q_18_20 rfl dX4_giveToFields_21 ?_
        refine lv_iload hx hb dX4_giveToFields_24 (lv_at hl 4 rfl) ?_
        refine rk_iald hx hb hK hP (ky_1_8 (ky_4_1 hk_j0)) ac_9 _ rfl h.1 dX4_giveToFields_26 ?_
        replace h := h.2
        refine lv_topi (fun x5_4 ex5_4 => ?_)
        replace h := h x5_4 ex5_4
        refine lv_istore (lv' := [(5, .int x5_4), (0, .ref (G.2.1 + j0)), (1, .int x1), (2, .int x2), (3, .int x3), (4, .int x4)]) hx hb dX4_giveToFields_27 hl (by decide) rfl (fun ls hl => ?_)
        refine lv_aload_n hx hb dX4_giveToFields_29 rfl (lv_at hl 1 rfl) ?_
        refine rk_getr hx hb hts inlX4 hown hK hP hk_j0 cl_4 1 10 fq_4_1 q_2_11 rfl dX4_giveToFields_30 ?_
        refine rk_getr hx hb hts inlX1 hown hK hP (ky_4_1 hk_j0) cl_1 2 1 fq_1_2 q_17_18 rfl dX4_giveToFields_33 ?_
        refine lv_iload hx hb dX4_giveToFields_36 (lv_at hl 0 rfl) ?_
        refine rk_iald hx hb hK hP (ky_1_2 (ky_4_1 hk_j0)) ac_9 _ rfl h.1 dX4_giveToFields_38 ?_
        replace h := h.2
        refine lv_iload_n hx hb dX4_giveToFields_39 rfl (lv_at hl 2 rfl) ?_
        refine lv_icmp_ne (tgt := 81) hx hb dX4_giveToFields_40 (by decide) (fun c5 => ?_) (fun c5 => ?_)
        · replace h := h.1 c5
          obtain ⟨x4_6, ex4_6⟩ : ∃ y : Int32, y = x4 + (1 : Int32) := ⟨_, rfl⟩
          replace h := h x4_6 ex4_6
          refine lv_iinc (v := x4_6) (lv' := [(4, .int x4_6), (5, .int x5_4), (0, .ref (G.2.1 + j0)), (1, .int x1), (2, .int x2), (3, .int x3)]) hx hb dX4_giveToFields_81 hl (k := 5) rfl (by rw [ex4_6]; rfl) (by decide) rfl (fun ls hl => ?_)
          refine lv_goto (tgt := 5) hx hb dX4_giveToFields_84 (by decide) ?_
          exact hA5 _ _ _ _ _ _ _ _ _ hP hS (lv_sub hl [2, 3, 4, 5, 0] rfl) hk_j0 h
        · replace h := h.2 c5
          refine lv_aload_n hx hb dX4_giveToFields_43 rfl (lv_at hl 1 rfl) ?_
          refine rk_getr hx hb hts inlX4 hown hK hP hk_j0 cl_4 1 10 fq_4_1 q_2_11 rfl dX4_giveToFields_44 ?_
          refine lv_iload hx hb dX4_giveToFields_47 (lv_at hl 0 rfl) ?_
          refine rc_Vi (As := [.int x5_4]) (rest := []) ⟨hx, hb, hml, hown, hts⟩ (mX1_wants l G (j0 + 10) x5_4 M _ (ky_4_1 hk_j0) h) (cwV 1 hts (gV_X1_wants q_18_9) rfl rfl rfl hdV_X1_wants ⟨Nat.le_of_ble_eq_true rfl, Nat.le_of_ble_eq_true rfl⟩) hK hP hS (ky_4_1 hk_j0) (by decide) cl_1 rfl hl.1 rfl (Nat.le_of_ble_eq_true rfl) dX4_giveToFields_49 ⟨Nat.zero_le _, Nat.zero_le _⟩ (fun r8 M7 H locs h hP hS => ?_)
          refine lv_if_eq (tgt := 81) hx hb dX4_giveToFields_52 (by decide) (fun c9 => ?_) (fun c9 => ?_)
          · replace h := h.1 c9
            obtain ⟨x4_10, ex4_10⟩ : ∃ y : Int32, y = x4 + (1 : Int32) := ⟨_, rfl⟩
            replace h := h x4_10 ex4_10
            refine lv_iinc (v := x4_10) (lv' := [(4, .int x4_10), (5, .int x5_4), (0, .ref (G.2.1 + j0)), (1, .int x1), (2, .int x2), (3, .int x3)]) hx hb dX4_giveToFields_81 hl (k := 5) rfl (by rw [ex4_10]; rfl) (by decide) rfl (fun ls hl => ?_)
            refine lv_goto (tgt := 5) hx hb dX4_giveToFields_84 (by decide) ?_
            exact hA5 _ _ _ _ _ _ _ _ _ hP hS (lv_sub hl [2, 3, 4, 5, 0] rfl) hk_j0 h
          · replace h := h.2 c9
            refine lv_aload_n hx hb dX4_giveToFields_55 rfl (lv_at hl 1 rfl) ?_
            refine lv_iload hx hb dX4_giveToFields_56 (lv_at hl 0 rfl) ?_
            refine rc_Vi (As := [.int x5_4]) (rest := []) ⟨hx, hb, hml, hown, hts⟩ (mX4_mayTake l G j0 x5_4 M7 _ hk_j0 h) (cwV 1 hts (gV_X4_mayTake q_18_21) rfl rfl rfl hdV_X4_mayTake ⟨Nat.le_of_ble_eq_true rfl, Nat.le_of_ble_eq_true rfl⟩) hK hP hS hk_j0 (by decide) cl_4 rfl hl.1 rfl (Nat.le_of_ble_eq_true rfl) dX4_giveToFields_58 ⟨Nat.zero_le _, Nat.zero_le _⟩ (fun r12 M11 H locs h hP hS => ?_)
            refine lv_if_eq (tgt := 81) hx hb dX4_giveToFields_61 (by decide) (fun c13 => ?_) (fun c13 => ?_)
            · replace h := h.1 c13
              obtain ⟨x4_14, ex4_14⟩ : ∃ y : Int32, y = x4 + (1 : Int32) := ⟨_, rfl⟩
              replace h := h x4_14 ex4_14
              refine lv_iinc (v := x4_14) (lv' := [(4, .int x4_14), (5, .int x5_4), (0, .ref (G.2.1 + j0)), (1, .int x1), (2, .int x2), (3, .int x3)]) hx hb dX4_giveToFields_81 hl (k := 5) rfl (by rw [ex4_14]; rfl) (by decide) rfl (fun ls hl => ?_)
              refine lv_goto (tgt := 5) hx hb dX4_giveToFields_84 (by decide) ?_
              exact hA5 _ _ _ _ _ _ _ _ _ hP hS (lv_sub hl [2, 3, 4, 5, 0] rfl) hk_j0 h
            · replace h := h.2 c13
              refine lv_iload_n hx hb dX4_giveToFields_64 rfl (lv_at hl 4 rfl) ?_
              refine lv_aload_n hx hb dX4_giveToFields_65 rfl (lv_at hl 1 rfl) ?_
              refine rk_getr hx hb hts inlX4 hown hK hP hk_j0 cl_4 1 10 fq_4_1 q_2_11 rfl dX4_giveToFields_66 ?_
              refine lv_iload hx hb dX4_giveToFields_69 (lv_at hl 0 rfl) ?_
              refine lv_iload_n hx hb dX4_giveToFields_71 rfl (lv_at hl 4 rfl) ?_
              refine lv_aload_n hx hb dX4_giveToFields_72 rfl (lv_at hl 1 rfl) ?_
              refine rk_geti hx hb hts inlX4 hown hK hP hk_j0 cl_4 3 fq_4_3 q_6_0 rfl dX4_giveToFields_73 ?_
              refine rc_Vi (As := [.int x5_4, .int x3, .int (M11 j0 3)]) (rest := [.int x3]) ⟨hx, hb, hml, hown, hts⟩ (mX1_give l G (j0 + 10) x5_4 x3 (M11 j0 3) M11 _ (ky_4_1 hk_j0) h) (cwV 3 hts (gV_X1_give q_19_1) rfl rfl rfl hdV_X1_give ⟨Nat.le_of_ble_eq_true rfl, Nat.le_of_ble_eq_true rfl⟩) hK hP hS (ky_4_1 hk_j0) (by decide) cl_1 rfl hl.1 rfl (Nat.le_of_ble_eq_true rfl) dX4_giveToFields_76 ⟨Nat.zero_le _, Nat.zero_le _⟩ (fun r16 M15 H locs h hP hS => ?_)
              refine lv_isub hx hb dX4_giveToFields_79 ?_
              refine lv_topi (fun x3_17 ex3_17 => ?_)
              replace h := h x3_17 ex3_17
              refine lv_istore_n (lv' := [(3, .int x3_17), (5, .int x5_4), (0, .ref (G.2.1 + j0)), (1, .int x1), (2, .int x2), (4, .int x4)]) hx hb dX4_giveToFields_80 rfl hl (by decide) rfl (fun ls hl => ?_)
              obtain ⟨x4_18, ex4_18⟩ : ∃ y : Int32, y = x4 + (1 : Int32) := ⟨_, rfl⟩
              replace h := h x4_18 ex4_18
              refine lv_iinc (v := x4_18) (lv' := [(4, .int x4_18), (3, .int x3_17), (5, .int x5_4), (0, .ref (G.2.1 + j0)), (1, .int x1), (2, .int x2)]) hx hb dX4_giveToFields_81 hl (k := 5) rfl (by rw [ex4_18]; rfl) (by decide) rfl (fun ls hl => ?_)
              refine lv_goto (tgt := 5) hx hb dX4_giveToFields_84 (by decide) ?_
              exact hA5 _ _ _ _ _ _ _ _ _ hP hS (lv_sub hl [3, 4, 5, 1, 0] rfl) hk_j0 h
  unfold wX4_giveToFields at h
  refine lv_iload_n hx hb dX4_giveToFields_0 rfl (lv_at hl 2 rfl) ?_
  refine lv_istore_n (lv' := [(3, .int x2a), (0, .ref (G.2.1 + j0a)), (1, .int x1a), (2, .int x2a)]) hx hb dX4_giveToFields_1 rfl hl (by decide) rfl (fun ls hl => ?_)
  refine lv_iconst (v := (0 : Int32)) hx hb dX4_giveToFields_2 k_iconst_0 ?_
  refine lv_istore (lv' := [(4, .int (0 : Int32)), (3, .int x2a), (0, .ref (G.2.1 + j0a)), (1, .int x1a), (2, .int x2a)]) hx hb dX4_giveToFields_3 hl (by decide) rfl (fun ls hl => ?_)
  obtain ⟨n1, h⟩ := h
  exact B5 _ _ _ _ _ _ _ _ _ _ hP hS (lv_sub hl [2, 3, 4, 1, 0] rfl) hk_j0a h
set_option maxHeartbeats 4000000 in
set_option maxRecDepth 100000 in
theorem mX4_isPassingFrom (l : Launch) (G : Gp) (j0a : Nat) (x1a : Int32) (x2a : Int32) (M : Mm) (Post : Mm → Int32 → Prop) (hk_j0a : kd j0a = 4) (h : wX4_isPassingFrom Post M j0a x1a x2a) : CtI l yX4_isPassingFrom wsX4_isPassingFrom rX4_isPassingFrom G [.ref (G.2.1 + j0a), .int x1a, .int x2a] M Post := by
  refine Met.ofW (cc := cX4_isPassingFrom) (maxL := 3) (ret := (some .boolean)) (by decide) rfl ?_
  intro p e s m args below meth c s₁ B hml hv
  obtain ⟨rfl, hK, hP⟩ := hv
  have hx := B.exec
  have hb := B.bytes
  have hr := B.returns
  have hlocks := B.notSynchronized
  have hts0 := atoms_spec (ws := wsX4_isPassingFrom) B.pre
  have hts : ∀ w ∈ wsL_law, w.before _ s = true := fun w hw => hts0 w (List.mem_cons_of_mem _ hw)
  have hown : s.vm.findClass RX4 = some m.cls := findClass_of_methodNamed B.named
  have hS : va_S (Fr G) s.heap s.heap [] := va_S.rf
  have hl := lv_entry ([.ref (G.2.1 + j0a), .int x1a, .int x2a]) (n := 3) (Nat.le_of_ble_eq_true rfl)
  rw [lg_entry_eq]
  generalize (lg_sl ([.ref (G.2.1 + j0a), .int x1a, .int x2a]) ++ List.replicate (3 - (lg_sl ([.ref (G.2.1 + j0a), .int x1a, .int x2a])).length) Slot.unset).toArray = ls at hl ⊢
  have hl : lv_has ls 3 [(0, .ref (G.2.1 + j0a)), (1, .int x1a), (2, .int x2a)] := hl
  unfold wX4_isPassingFrom at h
  refine lv_aload_n hx hb dX4_isPassingFrom_0 rfl (lv_at hl 0 rfl) ?_
  refine rk_getr hx hb hts inlX4 hown hK hP hk_j0a cl_4 0 1 fq_4_0 q_2_7 rfl dX4_isPassingFrom_1 ?_
  refine rk_getr hx hb hts inlX0 hown hK hP (ky_4_0 hk_j0a) cl_0 2 1 fq_0_2 q_17_20 rfl dX4_isPassingFrom_4 ?_
  refine lv_iload_n hx hb dX4_isPassingFrom_7 rfl (lv_at hl 2 rfl) ?_
  refine rk_iald hx hb hK hP (ky_0_2 (ky_4_0 hk_j0a)) ac_8 _ rfl h.1 dX4_isPassingFrom_8 ?_
  replace h := h.2
  refine lv_iload_n hx hb dX4_isPassingFrom_9 rfl (lv_at hl 1 rfl) ?_
  refine lv_icmp_ne (tgt := 28) hx hb dX4_isPassingFrom_10 (by decide) (fun c1 => ?_) (fun c1 => ?_)
  · replace h := h.1 c1
    refine lv_iconst (v := (0 : Int32)) hx hb dX4_isPassingFrom_28 k_iconst_0 ?_
    exact re_z hx hb hr hlocks (Or.inl rfl) hP hS h dX4_isPassingFrom_29
  · replace h := h.2 c1
    refine lv_aload_n hx hb dX4_isPassingFrom_13 rfl (lv_at hl 0 rfl) ?_
    refine rk_geti hx hb hts inlX4 hown hK hP hk_j0a cl_4 10 fq_4_10 q_18_7 rfl dX4_isPassingFrom_14 ?_
    refine lv_iconst (v := (1 : Int32)) hx hb dX4_isPassingFrom_17 k_iconst_1 ?_
    refine lv_iload_n hx hb dX4_isPassingFrom_18 rfl (lv_at hl 2 rfl) ?_
    refine lv_ishl hx hb dX4_isPassingFrom_19 ?_
    refine lv_iand hx hb dX4_isPassingFrom_20 ?_
    refine lv_if_eq (tgt := 28) hx hb dX4_isPassingFrom_21 (by decide) (fun c2 => ?_) (fun c2 => ?_)
    · replace h := h.1 c2
      refine lv_iconst (v := (0 : Int32)) hx hb dX4_isPassingFrom_28 k_iconst_0 ?_
      exact re_z hx hb hr hlocks (Or.inl rfl) hP hS h dX4_isPassingFrom_29
    · replace h := h.2 c2
      refine lv_iconst (v := (1 : Int32)) hx hb dX4_isPassingFrom_24 k_iconst_1 ?_
      refine lv_goto (tgt := 29) hx hb dX4_isPassingFrom_25 (by decide) ?_
      exact re_z hx hb hr hlocks (Or.inr rfl) hP hS h dX4_isPassingFrom_29
set_option maxHeartbeats 4000000 in
set_option maxRecDepth 100000 in
theorem mX4_throughGate (l : Launch) (G : Gp) (j0a : Nat) (x1a : Int32) (x2a : Int32) (M : Mm) (Post : Mm → Int32 → Prop) (hk_j0a : kd j0a = 4) (h : wX4_throughGate Post M j0a x1a x2a) : CtI l yX4_throughGate wsX4_throughGate rX4_throughGate G [.ref (G.2.1 + j0a), .int x1a, .int x2a] M Post := by
  refine Met.ofW (cc := cX4_throughGate) (maxL := 4) (ret := (some .int)) (by decide) rfl ?_
  intro p e s m args below meth c s₁ B hml hv
  obtain ⟨rfl, hK, hP⟩ := hv
  have hx := B.exec
  have hb := B.bytes
  have hr := B.returns
  have hlocks := B.notSynchronized
  have hts0 := atoms_spec (ws := wsX4_throughGate) B.pre
  have hts : ∀ w ∈ wsL_law, w.before _ s = true := fun w hw => hts0 w (List.mem_cons_of_mem _ hw)
  have hown : s.vm.findClass RX4 = some m.cls := findClass_of_methodNamed B.named
  have hS : va_S (Fr G) s.heap s.heap [] := va_S.rf
  have hl := lv_entry ([.ref (G.2.1 + j0a), .int x1a, .int x2a]) (n := 4) (Nat.le_of_ble_eq_true rfl)
  rw [lg_entry_eq]
  generalize (lg_sl ([.ref (G.2.1 + j0a), .int x1a, .int x2a]) ++ List.replicate (4 - (lg_sl ([.ref (G.2.1 + j0a), .int x1a, .int x2a])).length) Slot.unset).toArray = ls at hl ⊢
  have hl : lv_has ls 4 [(0, .ref (G.2.1 + j0a)), (1, .int x1a), (2, .int x2a)] := hl
  have B22 : ∀ (M : Mm) (j0 : Nat) (x1 : Int32) (t0 : Int32) (H : Heap) (locs : List Loc) (ls : Array Slot), Rp G M H → va_S (Fr G) s.heap H locs → lv_has ls 4 [(0, .ref (G.2.1 + j0)), (1, .int x1)] → kd j0 = 4 → bX4_throughGate_22 Post M j0 x1 t0 → Wi p l e (headSpec wsX4_throughGate rX4_throughGate).room s m [.ref (G.2.1 + j0a), .int x1a, .int x2a].toArray below meth c G Post H locs (F0 m 22 ls [.int t0]) := by
    intro M j0 x1 t0 H locs ls hP hS hl hk_j0 h
    unfold bX4_throughGate_22 at h
    refine lv_istore_n (lv' := [(3, .int t0), (0, .ref (G.2.1 + j0)), (1, .int x1)]) hx hb dX4_throughGate_22 rfl hl (by decide) rfl (fun ls hl => ?_)
    refine lv_iload_n hx hb dX4_throughGate_23 rfl (lv_at hl 0 rfl) ?_
    refine lv_aload_n hx hb dX4_throughGate_24 rfl (lv_at hl 1 rfl) ?_
    refine rk_getr hx hb hts inlX4 hown hK hP hk_j0 cl_4 0 1 fq_4_0 q_2_7 rfl dX4_throughGate_25 ?_
    refine rk_getr hx hb hts inlX0 hown hK hP (ky_4_0 hk_j0) cl_0 4 3 fq_0_4 q_17_6 rfl dX4_throughGate_28 ?_
    refine lv_iload_n hx hb dX4_throughGate_31 rfl (lv_at hl 2 rfl) ?_
    refine rk_iald hx hb hK hP (ky_0_4 (ky_4_0 hk_j0)) ac_8 _ rfl h.1 dX4_throughGate_32 ?_
    replace h := h.2
    refine rk_min hx hb (hml.trans hl.1.symm) hts hown q_17_7 q_17_8 q_17_9 q_17_10 (Nat.le_of_ble_eq_true rfl) (Nat.le_of_ble_eq_true rfl) ⟨Nat.zero_le _, Nat.zero_le _⟩ dX4_throughGate_33 ?_
    exact re_i hx hb hr hlocks hP hS h dX4_throughGate_36
  unfold wX4_throughGate at h
  refine lv_aload_n hx hb dX4_throughGate_0 rfl (lv_at hl 0 rfl) ?_
  refine rk_getr hx hb hts inlX4 hown hK hP hk_j0a cl_4 0 1 fq_4_0 q_2_7 rfl dX4_throughGate_1 ?_
  refine rk_getr hx hb hts inlX0 hown hK hP (ky_4_0 hk_j0a) cl_0 3 2 fq_0_3 q_18_8 rfl dX4_throughGate_4 ?_
  refine lv_iload_n hx hb dX4_throughGate_7 rfl (lv_at hl 1 rfl) ?_
  refine rk_iald hx hb hK hP (ky_0_3 (ky_4_0 hk_j0a)) ac_8 _ rfl h.1 dX4_throughGate_8 ?_
  replace h := h.2
  refine lv_iconst (v := (1 : Int32)) hx hb dX4_throughGate_9 k_iconst_1 ?_
  refine lv_icmp_ne (tgt := 21) hx hb dX4_throughGate_10 (by decide) (fun c1 => ?_) (fun c1 => ?_)
  · replace h := h.1 c1
    refine lv_iload_n hx hb dX4_throughGate_21 rfl (lv_at hl 2 rfl) ?_
    exact B22 _ _ _ _ _ _ _ hP hS (lv_sub hl [0, 1] rfl) hk_j0a h
  · replace h := h.2 c1
    refine lv_iload_n hx hb dX4_throughGate_13 rfl (lv_at hl 2 rfl) ?_
    refine lv_iconst (v := (1 : Int32)) hx hb dX4_throughGate_14 k_iconst_1 ?_
    refine lv_iadd hx hb dX4_throughGate_15 ?_
    refine lv_iconst (v := (2 : Int32)) hx hb dX4_throughGate_16 k_iconst_2 ?_
    refine lv_idiv hx hb dX4_throughGate_17 (by decide) ?_
    refine lv_goto (tgt := 22) hx hb dX4_throughGate_18 (by decide) ?_
    exact B22 _ _ _ _ _ _ _ hP hS (lv_sub hl [0, 1] rfl) hk_j0a h
set_option maxHeartbeats 4000000 in
set_option maxRecDepth 100000 in
theorem mX4_partAmongGates (l : Launch) (G : Gp) (j0a : Nat) (x1a : Int32) (x2a : Int32) (M : Mm) (Post : Mm → Int32 → Prop) (hk_j0a : kd j0a = 4) (h : wX4_partAmongGates Post M j0a x1a x2a) : CtI l yX4_partAmongGates wsX4_partAmongGates rX4_partAmongGates G [.ref (G.2.1 + j0a), .int x1a, .int x2a] M Post := by
  refine Met.ofW (cc := cX4_partAmongGates) (maxL := 8) (ret := (some .int)) (by decide) rfl ?_
  intro p e s m args below meth c s₁ B hml hv
  obtain ⟨rfl, hK, hP⟩ := hv
  have hx := B.exec
  have hb := B.bytes
  have hr := B.returns
  have hlocks := B.notSynchronized
  have hts0 := atoms_spec (ws := wsX4_partAmongGates) B.pre
  have hts : ∀ w ∈ wsL_law, w.before _ s = true := fun w hw => hts0 w (List.mem_cons_of_mem _ hw)
  have hown : s.vm.findClass RX4 = some m.cls := findClass_of_methodNamed B.named
  have hS : va_S (Fr G) s.heap s.heap [] := va_S.rf
  have hl := lv_entry ([.ref (G.2.1 + j0a), .int x1a, .int x2a]) (n := 8) (Nat.le_of_ble_eq_true rfl)
  rw [lg_entry_eq]
  generalize (lg_sl ([.ref (G.2.1 + j0a), .int x1a, .int x2a]) ++ List.replicate (8 - (lg_sl ([.ref (G.2.1 + j0a), .int x1a, .int x2a])).length) Slot.unset).toArray = ls at hl ⊢
  have hl : lv_has ls 8 [(0, .ref (G.2.1 + j0a)), (1, .int x1a), (2, .int x2a)] := hl
  have B110 : ∀ (A62 : Mm → Nat → Int32 → Int32 → Int32 → Int32 → Int32 → Prop) (_ : ∀ (M : Mm) (j0 : Nat) (x1 : Int32) (x4 : Int32) (x5 : Int32) (x6 : Int32) (x7 : Int32) (H : Heap) (locs : List Loc) (ls : Array Slot), Rp G M H → va_S (Fr G) s.heap H locs → lv_has ls 8 [(0, .ref (G.2.1 + j0)), (1, .int x1), (4, .int x4), (5, .int x5), (6, .int x6), (7, .int x7)] → kd j0 = 4 → A62 M j0 x1 x4 x5 x6 x7 → Wi p l e (headSpec wsX4_partAmongGates rX4_partAmongGates).room s m [.ref (G.2.1 + j0a), .int x1a, .int x2a].toArray below meth c G Post H locs (F0 m 62 ls [])), ∀ (M : Mm) (j0 : Nat) (x1 : Int32) (x4 : Int32) (x5 : Int32) (x6 : Int32) (x7 : Int32) (t0 : Int32) (t1 : Int32) (js2 : Nat) (t3 : Int32) (js4 : Nat) (H : Heap) (locs : List Loc) (ls : Array Slot), Rp G M H → va_S (Fr G) s.heap H locs → lv_has ls 8 [(0, .ref (G.2.1 + j0)), (1, .int x1), (4, .int x4), (5, .int x5), (6, .int x6), (7, .int x7)] → kd j0 = 4 → kd js2 = 4 → kd js4 = 8 → bX4_partAmongGates_110 Post A62 M j0 x1 x4 x5 x6 x7 t0 t1 js2 t3 js4 → Wi p l e (headSpec wsX4_partAmongGates rX4_partAmongGates).room s m [.ref (G.2.1 + j0a), .int x1a, .int x2a].toArray below meth c G Post H locs (F0 m 110 ls [.int t0, .int t1, .ref (G.2.1 + js2), .int t3, .ref (G.2.1 + js4)]) := by
    intro A62 hA62 M j0 x1 x4 x5 x6 x7 t0 t1 js2 t3 js4 H locs ls hP hS hl hk_j0 hk_js2 hk_js4 h
    unfold bX4_partAmongGates_110 at h
    refine rc_Vi (As := [.int t1, .int t0]) (rest := [.int t3, .ref (G.2.1 + js4)]) ⟨hx, hb, hml, hown, hts⟩ (mX4_throughGate l G js2 t1 t0 M _ hk_js2 h) (cwV 2 hts (gV_X4_throughGate q_19_14) rfl rfl rfl hdV_X4_throughGate ⟨Nat.le_of_ble_eq_true rfl, Nat.le_of_ble_eq_true rfl⟩) hK hP hS hk_js2 (by decide) cl_4 rfl hl.1 rfl (Nat.le_of_ble_eq_true rfl) dX4_partAmongGates_110 ⟨Nat.zero_le _, Nat.zero_le _⟩ (fun r22 M21 H locs h hP hS => ?_)
    refine rk_iast hx hb hK hP hS hk_js4 ac_8 _ rfl h.1 dX4_partAmongGates_113 (fun M23 eM23 H locs hP hS => ?_)
    replace h := h.2
    replace h := h M23 eM23
    refine lv_iload hx hb dX4_partAmongGates_114 (lv_at hl 4 rfl) ?_
    refine lv_aload_n hx hb dX4_partAmongGates_116 rfl (lv_at hl 0 rfl) ?_
    refine rk_getr hx hb hts inlX4 hown hK hP hk_j0 cl_4 0 1 fq_4_0 q_2_7 rfl dX4_partAmongGates_117 ?_
    refine rk_getr hx hb hts inlX0 hown hK hP (ky_4_0 hk_j0) cl_0 7 6 fq_0_7 q_17_5 rfl dX4_partAmongGates_120 ?_
    refine lv_iload hx hb dX4_partAmongGates_123 (lv_at hl 5 rfl) ?_
    refine rk_iald hx hb hK hP (ky_0_7 (ky_4_0 hk_j0)) ac_8 _ rfl h.1 dX4_partAmongGates_125 ?_
    replace h := h.2
    refine lv_iadd hx hb dX4_partAmongGates_126 ?_
    refine lv_topi (fun x6_24 ex6_24 => ?_)
    replace h := h x6_24 ex6_24
    refine lv_istore (lv' := [(6, .int x6_24), (0, .ref (G.2.1 + j0)), (1, .int x1), (4, .int x4), (5, .int x5), (7, .int x7)]) hx hb dX4_partAmongGates_127 hl (by decide) rfl (fun ls hl => ?_)
    obtain ⟨x5_25, ex5_25⟩ : ∃ y : Int32, y = x5 + (-1 : Int32) := ⟨_, rfl⟩
    replace h := h x5_25 ex5_25
    refine lv_iinc (v := x5_25) (lv' := [(5, .int x5_25), (6, .int x6_24), (0, .ref (G.2.1 + j0)), (1, .int x1), (4, .int x4), (7, .int x7)]) hx hb dX4_partAmongGates_129 hl (k := 4) rfl (by rw [ex5_25]; rfl) (by decide) rfl (fun ls hl => ?_)
    obtain ⟨x7_26, ex7_26⟩ : ∃ y : Int32, y = x7 + (1 : Int32) := ⟨_, rfl⟩
    replace h := h x7_26 ex7_26
    refine lv_iinc (v := x7_26) (lv' := [(7, .int x7_26), (5, .int x5_25), (6, .int x6_24), (0, .ref (G.2.1 + j0)), (1, .int x1), (4, .int x4)]) hx hb dX4_partAmongGates_132 hl (k := 5) rfl (by rw [ex7_26]; rfl) (by decide) rfl (fun ls hl => ?_)
    refine lv_goto (tgt := 62) hx hb dX4_partAmongGates_135 (by decide) ?_
    exact hA62 _ _ _ _ _ _ _ _ _ _ hP hS (lv_sub hl [3, 4, 5, 1, 2, 0] rfl) hk_j0 h
  have B62 : ∀ n : Nat, ∀ (M : Mm) (j0 : Nat) (x1 : Int32) (x4 : Int32) (x5 : Int32) (x6 : Int32) (x7 : Int32) (H : Heap) (locs : List Loc) (ls : Array Slot), Rp G M H → va_S (Fr G) s.heap H locs → lv_has ls 8 [(0, .ref (G.2.1 + j0)), (1, .int x1), (4, .int x4), (5, .int x5), (6, .int x6), (7, .int x7)] → kd j0 = 4 → lX4_partAmongGates_62 Post n M j0 x1 x4 x5 x6 x7 → Wi p l e (headSpec wsX4_partAmongGates rX4_partAmongGates).room s m [.ref (G.2.1 + j0a), .int x1a, .int x2a].toArray below meth c G Post H locs (F0 m 62 ls []) := by
    intro n
    induction n with
    | zero => intro M j0 x1 x4 x5 x6 x7 H locs ls hP hS hl hk_j0 h; exact h.elim
    | succ n ih =>
      intro M j0 x1 x4 x5 x6 x7 H locs ls hP hS hl hk_j0 h
      have hA62 := ih
      replace h : bX4_partAmongGates_62 Post (lX4_partAmongGates_62 Post n) M j0 x1 x4 x5 x6 x7 := h
      unfold bX4_partAmongGates_62 at h
      refine lv_iload hx hb dX4_partAmongGates_62 (lv_at hl 5 rfl) ?_
      refine lv_aload_n hx hb dX4_partAmongGates_64 rfl (lv_at hl 0 rfl) ?_
      refine rk_getr hx hb hts inlX4 hown hK hP hk_j0 cl_4 0 1 fq_4_0 q_2_7 rfl dX4_partAmongGates_65 ?_
      refine rk_geti hx hb hts inlX0 hown hK hP (ky_4_0 hk_j0) cl_0 0 fq_0_0 q_17_11 rfl dX4_partAmongGates_68 ?_
      refine lv_icmp_ge (tgt := 138) hx hb dX4_partAmongGates_71 (by decide) (fun c15 => ?_) (fun c15 => ?_)
      · replace h := h.1 c15
        refine lv_iload hx hb dX4_partAmongGates_138 (lv_at hl 4 rfl) ?_
        exact re_i hx hb hr hlocks hP hS h dX4_partAmongGates_140
      · replace h := h.2 c15
        refine lv_aload_n hx hb dX4_partAmongGates_74 rfl (lv_at hl 0 rfl) ?_
        refine lv_iload_n hx hb dX4_partAmongGates_75 rfl (lv_at hl 1 rfl) ?_
        refine lv_iload hx hb dX4_partAmongGates_76 (lv_at hl 5 rfl) ?_
        refine rc_Vi (As := [.int x1, .int x7]) (rest := []) ⟨hx, hb, hml, hown, hts⟩ (mX4_isPassingFrom l G j0 x1 x7 M _ hk_j0 h) (cwV 2 hts (gV_X4_isPassingFrom q_19_10) rfl rfl rfl hdV_X4_isPassingFrom ⟨Nat.le_of_ble_eq_true rfl, Nat.le_of_ble_eq_true rfl⟩) hK hP hS hk_j0 (by decide) cl_4 rfl hl.1 rfl (Nat.le_of_ble_eq_true rfl) dX4_partAmongGates_78 ⟨Nat.zero_le _, Nat.zero_le _⟩ (fun r17 M16 H locs h hP hS => ?_)
        refine lv_if_eq (tgt := 132) hx hb dX4_partAmongGates_81 (by decide) (fun c18 => ?_) (fun c18 => ?_)
        · replace h := h.1 c18
          obtain ⟨x7_19, ex7_19⟩ : ∃ y : Int32, y = x7 + (1 : Int32) := ⟨_, rfl⟩
          replace h := h x7_19 ex7_19
          refine lv_iinc (v := x7_19) (lv' := [(7, .int x7_19), (0, .ref (G.2.1 + j0)), (1, .int x1), (4, .int x4), (5, .int x5), (6, .int x6)]) hx hb dX4_partAmongGates_132 hl (k := 5) rfl (by rw [ex7_19]; rfl) (by decide) rfl (fun ls hl => ?_)
          refine lv_goto (tgt := 62) hx hb dX4_partAmongGates_135 (by decide) ?_
          exact hA62 _ _ _ _ _ _ _ _ _ _ hP hS (lv_sub hl [1, 2, 3, 4, 5, 0] rfl) hk_j0 h
        · replace h := h.2 c18
          refine lv_aload_n hx hb dX4_partAmongGates_84 rfl (lv_at hl 0 rfl) ?_
          refine rk_getr hx hb hts inlX4 hown hK hP hk_j0 cl_4 0 1 fq_4_0 q_2_7 rfl dX4_partAmongGates_85 ?_
          refine rk_getr hx hb hts inlX0 hown hK hP (ky_4_0 hk_j0) cl_0 7 6 fq_0_7 q_17_5 rfl dX4_partAmongGates_88 ?_
          refine lv_iload hx hb dX4_partAmongGates_91 (lv_at hl 5 rfl) ?_
          refine lv_aload_n hx hb dX4_partAmongGates_93 rfl (lv_at hl 0 rfl) ?_
          refine lv_iload hx hb dX4_partAmongGates_94 (lv_at hl 5 rfl) ?_
          refine lv_iload hx hb dX4_partAmongGates_96 (lv_at hl 3 rfl) ?_
          refine lv_if_le (tgt := 108) hx hb dX4_partAmongGates_98 (by decide) (fun c20 => ?_) (fun c20 => ?_)
          · replace h := h.1 c20
            refine lv_iload hx hb dX4_partAmongGates_108 (lv_at hl 2 rfl) ?_
            exact B110 _ hA62 _ _ _ _ _ _ _ _ _ _ _ _ _ _ _ hP hS (lv_sub hl [0, 1, 2, 3, 4, 5] rfl) hk_j0 hk_j0 (ky_0_7 (ky_4_0 hk_j0)) h
          · replace h := h.2 c20
            refine lv_iload hx hb dX4_partAmongGates_101 (lv_at hl 2 rfl) ?_
            refine lv_iconst (v := (1 : Int32)) hx hb dX4_partAmongGates_103 k_iconst_1 ?_
            refine lv_iadd hx hb dX4_partAmongGates_104 ?_
            refine lv_goto (tgt := 110) hx hb dX4_partAmongGates_105 (by decide) ?_
            exact B110 _ hA62 _ _ _ _ _ _ _ _ _ _ _ _ _ _ _ hP hS (lv_sub hl [0, 1, 2, 3, 4, 5] rfl) hk_j0 hk_j0 (ky_0_7 (ky_4_0 hk_j0)) h
  have B7 : ∀ n : Nat, ∀ (M : Mm) (j0 : Nat) (x1 : Int32) (x2 : Int32) (x3 : Int32) (x4 : Int32) (H : Heap) (locs : List Loc) (ls : Array Slot), Rp G M H → va_S (Fr G) s.heap H locs → lv_has ls 8 [(0, .ref (G.2.1 + j0)), (1, .int x1), (2, .int x2), (3, .int x3), (4, .int x4)] → kd j0 = 4 → lX4_partAmongGates_7 Post n M j0 x1 x2 x3 x4 → Wi p l e (headSpec wsX4_partAmongGates rX4_partAmongGates).room s m [.ref (G.2.1 + j0a), .int x1a, .int x2a].toArray below meth c G Post H locs (F0 m 7 ls []) := by
    intro n
    induction n with
    | zero => intro M j0 x1 x2 x3 x4 H locs ls hP hS hl hk_j0 h; exact h.elim
    | succ n ih =>
      intro M j0 x1 x2 x3 x4 H locs ls hP hS hl hk_j0 h
      have hA7 := ih
      replace h : bX4_partAmongGates_7 Post (lX4_partAmongGates_7 Post n) M j0 x1 x2 x3 x4 := h
      unfold bX4_partAmongGates_7 at h
      refine lv_iload hx hb dX4_partAmongGates_7 (lv_at hl 4 rfl) ?_
      refine lv_aload_n hx hb dX4_partAmongGates_9 rfl (lv_at hl 0 rfl) ?_
      refine rk_getr hx hb hts inlX4 hown hK hP hk_j0 cl_4 0 1 fq_4_0 q_2_7 rfl dX4_partAmongGates_10 ?_
      refine rk_geti hx hb hts inlX0 hown hK hP (ky_4_0 hk_j0) cl_0 0 fq_0_0 q_17_11 rfl dX4_partAmongGates_13 ?_
      refine lv_icmp_ge (tgt := 38) hx hb dX4_partAmongGates_16 (by decide) (fun c3 => ?_) (fun c3 => ?_)
      · replace h := h.1 c3
        refine lv_iload_n hx hb dX4_partAmongGates_38 rfl (lv_at hl 3 rfl) ?_
        refine lv_if_ne (tgt := 44) hx hb dX4_partAmongGates_39 (by decide) (fun c4 => ?_) (fun c4 => ?_)
        · replace h := h.1 c4
          refine lv_iload_n hx hb dX4_partAmongGates_44 rfl (lv_at hl 2 rfl) ?_
          refine lv_iload_n hx hb dX4_partAmongGates_45 rfl (lv_at hl 3 rfl) ?_
          refine lv_idiv hx hb dX4_partAmongGates_46 h.1 ?_
          replace h := h.2
          refine lv_topi (fun x4_5 ex4_5 => ?_)
          replace h := h x4_5 ex4_5
          refine lv_istore (lv' := [(4, .int x4_5), (0, .ref (G.2.1 + j0)), (1, .int x1), (2, .int x2), (3, .int x3)]) hx hb dX4_partAmongGates_47 hl (by decide) rfl (fun ls hl => ?_)
          refine lv_iload_n hx hb dX4_partAmongGates_49 rfl (lv_at hl 3 rfl) ?_
          refine lv_iload_n hx hb dX4_partAmongGates_50 rfl (lv_at hl 4 rfl) ?_
          refine lv_irem hx hb dX4_partAmongGates_51 h.1 ?_
          replace h := h.2
          refine lv_topi (fun x5_6 ex5_6 => ?_)
          replace h := h x5_6 ex5_6
          refine lv_istore (lv' := [(5, .int x5_6), (4, .int x4_5), (0, .ref (G.2.1 + j0)), (1, .int x1), (2, .int x2), (3, .int x3)]) hx hb dX4_partAmongGates_52 hl (by decide) rfl (fun ls hl => ?_)
          refine lv_iconst (v := (0 : Int32)) hx hb dX4_partAmongGates_54 k_iconst_0 ?_
          refine lv_istore (lv' := [(6, .int (0 : Int32)), (5, .int x5_6), (4, .int x4_5), (0, .ref (G.2.1 + j0)), (1, .int x1), (2, .int x2), (3, .int x3)]) hx hb dX4_partAmongGates_55 hl (by decide) rfl (fun ls hl => ?_)
          refine lv_iload_n hx hb dX4_partAmongGates_57 rfl (lv_at hl 4 rfl) ?_
          refine lv_iconst (v := (1 : Int32)) hx hb dX4_partAmongGates_58 k_iconst_1 ?_
          refine lv_iadd hx hb dX4_partAmongGates_59 ?_
          refine lv_topi (fun x7_7 ex7_7 => ?_)
          replace h := h x7_7 ex7_7
          refine lv_istore (lv' := [(7, .int x7_7), (6, .int (0 : Int32)), (5, .int x5_6), (4, .int x4_5), (0, .ref (G.2.1 + j0)), (1, .int x1), (2, .int x2), (3, .int x3)]) hx hb dX4_partAmongGates_60 hl (by decide) rfl (fun ls hl => ?_)
          obtain ⟨n8, h⟩ := h
          exact B62 _ _ _ _ _ _ _ _ _ _ _ hP hS (lv_sub hl [4, 5, 3, 2, 1, 0] rfl) hk_j0 h
        · replace h := h.2 c4
          refine lv_iconst (v := (0 : Int32)) hx hb dX4_partAmongGates_42 k_iconst_0 ?_
          exact re_i hx hb hr hlocks hP hS h dX4_partAmongGates_43
      · replace h := h.2 c3
        refine lv_aload_n hx hb dX4_partAmongGates_19 rfl (lv_at hl 0 rfl) ?_
        refine lv_iload_n hx hb dX4_partAmongGates_20 rfl (lv_at hl 1 rfl) ?_
        refine lv_iload hx hb dX4_partAmongGates_21 (lv_at hl 4 rfl) ?_
        refine rc_Vi (As := [.int x1, .int x4]) (rest := []) ⟨hx, hb, hml, hown, hts⟩ (mX4_isPassingFrom l G j0 x1 x4 M _ hk_j0 h) (cwV 2 hts (gV_X4_isPassingFrom q_19_10) rfl rfl rfl hdV_X4_isPassingFrom ⟨Nat.le_of_ble_eq_true rfl, Nat.le_of_ble_eq_true rfl⟩) hK hP hS hk_j0 (by decide) cl_4 rfl hl.1 rfl (Nat.le_of_ble_eq_true rfl) dX4_partAmongGates_23 ⟨Nat.zero_le _, Nat.zero_le _⟩ (fun r10 M9 H locs h hP hS => ?_)
        refine lv_if_eq (tgt := 32) hx hb dX4_partAmongGates_26 (by decide) (fun c11 => ?_) (fun c11 => ?_)
        · replace h := h.1 c11
          obtain ⟨x4_12, ex4_12⟩ : ∃ y : Int32, y = x4 + (1 : Int32) := ⟨_, rfl⟩
          replace h := h x4_12 ex4_12
          refine lv_iinc (v := x4_12) (lv' := [(4, .int x4_12), (0, .ref (G.2.1 + j0)), (1, .int x1), (2, .int x2), (3, .int x3)]) hx hb dX4_partAmongGates_32 hl (k := 4) rfl (by rw [ex4_12]; rfl) (by decide) rfl (fun ls hl => ?_)
          refine lv_goto (tgt := 7) hx hb dX4_partAmongGates_35 (by decide) ?_
          exact hA7 _ _ _ _ _ _ _ _ _ hP hS (lv_sub hl [1, 2, 3, 4, 0] rfl) hk_j0 h
        · replace h := h.2 c11
          obtain ⟨x3_13, ex3_13⟩ : ∃ y : Int32, y = x3 + (1 : Int32) := ⟨_, rfl⟩
          replace h := h x3_13 ex3_13
          refine lv_iinc (v := x3_13) (lv' := [(3, .int x3_13), (0, .ref (G.2.1 + j0)), (1, .int x1), (2, .int x2), (4, .int x4)]) hx hb dX4_partAmongGates_29 hl (k := 3) rfl (by rw [ex3_13]; rfl) (by decide) rfl (fun ls hl => ?_)
          obtain ⟨x4_14, ex4_14⟩ : ∃ y : Int32, y = x4 + (1 : Int32) := ⟨_, rfl⟩
          replace h := h x4_14 ex4_14
          refine lv_iinc (v := x4_14) (lv' := [(4, .int x4_14), (3, .int x3_13), (0, .ref (G.2.1 + j0)), (1, .int x1), (2, .int x2)]) hx hb dX4_partAmongGates_32 hl (k := 4) rfl (by rw [ex4_14]; rfl) (by decide) rfl (fun ls hl => ?_)
          refine lv_goto (tgt := 7) hx hb dX4_partAmongGates_35 (by decide) ?_
          exact hA7 _ _ _ _ _ _ _ _ _ hP hS (lv_sub hl [2, 3, 4, 1, 0] rfl) hk_j0 h
  unfold wX4_partAmongGates at h
  refine lv_iconst (v := (0 : Int32)) hx hb dX4_partAmongGates_0 k_iconst_0 ?_
  refine lv_istore_n (lv' := [(3, .int (0 : Int32)), (0, .ref (G.2.1 + j0a)), (1, .int x1a), (2, .int x2a)]) hx hb dX4_partAmongGates_1 rfl hl (by decide) rfl (fun ls hl => ?_)
  refine lv_iload_n hx hb dX4_partAmongGates_2 rfl (lv_at hl 2 rfl) ?_
  refine lv_iconst (v := (1 : Int32)) hx hb dX4_partAmongGates_3 k_iconst_1 ?_
  refine lv_iadd hx hb dX4_partAmongGates_4 ?_
  refine lv_topi (fun x4_1 ex4_1 => ?_)
  replace h := h x4_1 ex4_1
  refine lv_istore (lv' := [(4, .int x4_1), (3, .int (0 : Int32)), (0, .ref (G.2.1 + j0a)), (1, .int x1a), (2, .int x2a)]) hx hb dX4_partAmongGates_5 hl (by decide) rfl (fun ls hl => ?_)
  obtain ⟨n2, h⟩ := h
  exact B7 _ _ _ _ _ _ _ _ _ _ hP hS (lv_sub hl [2, 3, 4, 1, 0] rfl) hk_j0a h
set_option maxHeartbeats 4000000 in
set_option maxRecDepth 100000 in
theorem mX4_endCalls (l : Launch) (G : Gp) (j0a : Nat) (M : Mm) (Post : Mm → Prop) (hk_j0a : kd j0a = 4) (h : wX4_endCalls Post M j0a) : CtV l yX4_endCalls wsX4_endCalls rX4_endCalls G [.ref (G.2.1 + j0a)] M Post := by
  refine Met.ofW (cc := cX4_endCalls) (maxL := 1) (ret := none) (by decide) rfl ?_
  intro p e s m args below meth c s₁ B hml hv
  obtain ⟨rfl, hK, hP⟩ := hv
  have hx := B.exec
  have hb := B.bytes
  have hr := B.returns
  have hlocks := B.notSynchronized
  have hts0 := atoms_spec (ws := wsX4_endCalls) B.pre
  have hts : ∀ w ∈ wsL_law, w.before _ s = true := fun w hw => hts0 w (List.mem_cons_of_mem _ hw)
  have hown : s.vm.findClass RX4 = some m.cls := findClass_of_methodNamed B.named
  have hS : va_S (Fr G) s.heap s.heap [] := va_S.rf
  have hl := lv_entry ([.ref (G.2.1 + j0a)]) (n := 1) (Nat.le_of_ble_eq_true rfl)
  rw [lg_entry_eq]
  generalize (lg_sl ([.ref (G.2.1 + j0a)]) ++ List.replicate (1 - (lg_sl ([.ref (G.2.1 + j0a)])).length) Slot.unset).toArray = ls at hl ⊢
  have hl : lv_has ls 1 [(0, .ref (G.2.1 + j0a))] := hl
  unfold wX4_endCalls at h
  refine lv_aload_n hx hb dX4_endCalls_0 rfl (lv_at hl 0 rfl) ?_
  refine rk_getr hx hb hts inlX4 hown hK hP hk_j0a cl_4 1 10 fq_4_1 q_2_11 rfl dX4_endCalls_1 ?_
  refine lv_dup hx hb dX4_endCalls_4 rfl ?_
  refine rk_geti hx hb hts inlX1 hown hK hP (ky_4_1 hk_j0a) cl_1 1 fq_1_1 q_19_22 rfl dX4_endCalls_5 ?_
  refine lv_aload_n hx hb dX4_endCalls_8 rfl (lv_at hl 0 rfl) ?_
  refine rk_getr hx hb hts inlX4 hown hK hP hk_j0a cl_4 1 10 fq_4_1 q_2_11 rfl dX4_endCalls_9 ?_
  refine rc_Vi (As := []) (rest := [.int (M (j0a + 10) 1), .ref (G.2.1 + (j0a + 10))]) ⟨hx, hb, hml, hown, hts⟩ (mX1_wanting l G (j0a + 10) M _ (ky_4_1 hk_j0a) h) (cwV 0 hts (gV_X1_wanting q_19_23) rfl rfl rfl hdV_X1_wanting ⟨Nat.le_of_ble_eq_true rfl, Nat.le_of_ble_eq_true rfl⟩) hK hP hS (ky_4_1 hk_j0a) (by decide) cl_1 rfl hl.1 rfl (Nat.le_of_ble_eq_true rfl) dX4_endCalls_12 ⟨Nat.zero_le _, Nat.zero_le _⟩ (fun r2 M1 H locs h hP hS => ?_)
  refine lv_iand hx hb dX4_endCalls_15 ?_
  refine rk_puti hx hb hts inlX1 tyX1 tyX1_ok nmX1 hown hK hP hS (ky_4_1 hk_j0a) cl_1 1 fq_1_1 q_19_22 rfl rfl rfl dX4_endCalls_16 (fun M3 eM3 H locs hP hS => ?_)
  replace h := h M3 eM3
  exact re_v hx hb hr hlocks hP hS h dX4_endCalls_19
set_option maxHeartbeats 4000000 in
set_option maxRecDepth 100000 in
theorem mX4_passHour (l : Launch) (G : Gp) (j0a : Nat) (x1a : Int32) (M : Mm) (Post : Mm → Int32 → Prop) (hk_j0a : kd j0a = 4) (h : wX4_passHour Post M j0a x1a) : CtI l yX4_passHour wsX4_passHour rX4_passHour G [.ref (G.2.1 + j0a), .int x1a] M Post := by
  refine Met.ofW (cc := cX4_passHour) (maxL := 5) (ret := (some .int)) (by decide) rfl ?_
  intro p e s m args below meth c s₁ B hml hv
  obtain ⟨rfl, hK, hP⟩ := hv
  have hx := B.exec
  have hb := B.bytes
  have hr := B.returns
  have hlocks := B.notSynchronized
  have hts0 := atoms_spec (ws := wsX4_passHour) B.pre
  have hts : ∀ w ∈ wsL_law, w.before _ s = true := fun w hw => hts0 w (List.mem_cons_of_mem _ hw)
  have hown : s.vm.findClass RX4 = some m.cls := findClass_of_methodNamed B.named
  have hS : va_S (Fr G) s.heap s.heap [] := va_S.rf
  have hl := lv_entry ([.ref (G.2.1 + j0a), .int x1a]) (n := 5) (Nat.le_of_ble_eq_true rfl)
  rw [lg_entry_eq]
  generalize (lg_sl ([.ref (G.2.1 + j0a), .int x1a]) ++ List.replicate (5 - (lg_sl ([.ref (G.2.1 + j0a), .int x1a])).length) Slot.unset).toArray = ls at hl ⊢
  have hl : lv_has ls 5 [(0, .ref (G.2.1 + j0a)), (1, .int x1a)] := hl
  have B76 : ∀ n : Nat, ∀ (M : Mm) (j0 : Nat) (x2 : Int32) (x3 : Int32) (H : Heap) (locs : List Loc) (ls : Array Slot), Rp G M H → va_S (Fr G) s.heap H locs → lv_has ls 5 [(0, .ref (G.2.1 + j0)), (2, .int x2), (3, .int x3)] → kd j0 = 4 → lX4_passHour_76 Post n M j0 x2 x3 → Wi p l e (headSpec wsX4_passHour rX4_passHour).room s m [.ref (G.2.1 + j0a), .int x1a].toArray below meth c G Post H locs (F0 m 76 ls []) := by
    intro n
    induction n with
    | zero => intro M j0 x2 x3 H locs ls hP hS hl hk_j0 h; exact h.elim
    | succ n ih =>
      intro M j0 x2 x3 H locs ls hP hS hl hk_j0 h
      have hA76 := ih
      replace h : bX4_passHour_76 Post (lX4_passHour_76 Post n) M j0 x2 x3 := h
      unfold bX4_passHour_76 at h
      refine lv_iload_n hx hb dX4_passHour_76 rfl (lv_at hl 2 rfl) ?_
      refine lv_aload_n hx hb dX4_passHour_77 rfl (lv_at hl 0 rfl) ?_
      refine rk_getr hx hb hts inlX4 hown hK hP hk_j0 cl_4 0 1 fq_4_0 q_2_7 rfl dX4_passHour_78 ?_
      refine rk_geti hx hb hts inlX0 hown hK hP (ky_4_0 hk_j0) cl_0 0 fq_0_0 q_17_11 rfl dX4_passHour_81 ?_
      refine lv_icmp_ge (tgt := 165) hx hb dX4_passHour_84 (by decide) (fun c12 => ?_) (fun c12 => ?_)
      · replace h := h.1 c12
        refine lv_aload_n hx hb dX4_passHour_165 rfl (lv_at hl 0 rfl) ?_
        refine rc_Vv (As := []) (rest := []) ⟨hx, hb, hml, hown, hts⟩ (mX4_endCalls l G j0 M _ hk_j0 h) (cwV 0 hts (gV_X4_endCalls q_19_18) rfl rfl rfl hdV_X4_endCalls ⟨Nat.le_of_ble_eq_true rfl, Nat.le_of_ble_eq_true rfl⟩) hK hP hS hk_j0 (by decide) cl_4 rfl hl.1 rfl (Nat.le_of_ble_eq_true rfl) dX4_passHour_166 ⟨Nat.zero_le _, Nat.zero_le _⟩ (fun M13 H locs h hP hS => ?_)
        refine lv_aload_n hx hb dX4_passHour_169 rfl (lv_at hl 0 rfl) ?_
        refine rk_geti hx hb hts inlX4 hown hK hP hk_j0 cl_4 5 fq_4_5 q_6_2 rfl dX4_passHour_170 ?_
        refine lv_iload_n hx hb dX4_passHour_173 rfl (lv_at hl 1 rfl) ?_
        refine lv_isub hx hb dX4_passHour_174 ?_
        exact re_i hx hb hr hlocks hP hS h dX4_passHour_175
      · replace h := h.2 c12
        refine lv_aload_n hx hb dX4_passHour_87 rfl (lv_at hl 0 rfl) ?_
        refine rk_getr hx hb hts inlX4 hown hK hP hk_j0 cl_4 0 1 fq_4_0 q_2_7 rfl dX4_passHour_88 ?_
        refine rk_getr hx hb hts inlX0 hown hK hP (ky_4_0 hk_j0) cl_0 7 6 fq_0_7 q_17_5 rfl dX4_passHour_91 ?_
        refine lv_iload_n hx hb dX4_passHour_94 rfl (lv_at hl 2 rfl) ?_
        refine rk_iald hx hb hK hP (ky_0_7 (ky_4_0 hk_j0)) ac_8 _ rfl h.1 dX4_passHour_95 ?_
        replace h := h.2
        refine lv_topi (fun x4_15 ex4_15 => ?_)
        replace h := h x4_15 ex4_15
        refine lv_istore (lv' := [(4, .int x4_15), (0, .ref (G.2.1 + j0)), (2, .int x2), (3, .int x3)]) hx hb dX4_passHour_96 hl (by decide) rfl (fun ls hl => ?_)
        refine lv_iload hx hb dX4_passHour_98 (lv_at hl 0 rfl) ?_
        refine lv_aload_n hx hb dX4_passHour_100 rfl (lv_at hl 1 rfl) ?_
        refine lv_iload_n hx hb dX4_passHour_101 rfl (lv_at hl 3 rfl) ?_
        refine lv_iload hx hb dX4_passHour_102 (lv_at hl 0 rfl) ?_
        refine rc_Vi (As := [.int x3, .int x4_15]) (rest := [.int x4_15]) ⟨hx, hb, hml, hown, hts⟩ (mX4_seepAway l G j0 x3 x4_15 M _ hk_j0 h) (cwV 2 hts (gV_X4_seepAway q_18_10) rfl rfl rfl hdV_X4_seepAway ⟨Nat.le_of_ble_eq_true rfl, Nat.le_of_ble_eq_true rfl⟩) hK hP hS hk_j0 (by decide) cl_4 rfl hl.1 rfl (Nat.le_of_ble_eq_true rfl) dX4_passHour_104 ⟨Nat.zero_le _, Nat.zero_le _⟩ (fun r17 M16 H locs h hP hS => ?_)
        refine lv_isub hx hb dX4_passHour_107 ?_
        refine lv_topi (fun x4_18 ex4_18 => ?_)
        replace h := h x4_18 ex4_18
        refine lv_istore (lv' := [(4, .int x4_18), (0, .ref (G.2.1 + j0)), (2, .int x2), (3, .int x3)]) hx hb dX4_passHour_108 hl (by decide) rfl (fun ls hl => ?_)
        refine lv_iload hx hb dX4_passHour_110 (lv_at hl 0 rfl) ?_
        refine lv_aload_n hx hb dX4_passHour_112 rfl (lv_at hl 1 rfl) ?_
        refine lv_iload_n hx hb dX4_passHour_113 rfl (lv_at hl 3 rfl) ?_
        refine lv_iload hx hb dX4_passHour_114 (lv_at hl 0 rfl) ?_
        refine rc_Vi (As := [.int x3, .int x4_18]) (rest := [.int x4_18]) ⟨hx, hb, hml, hown, hts⟩ (mX4_giveToFields l G j0 x3 x4_18 M16 _ hk_j0 h) (cwV 2 hts (gV_X4_giveToFields q_18_16) rfl rfl rfl hdV_X4_giveToFields ⟨Nat.le_of_ble_eq_true rfl, Nat.le_of_ble_eq_true rfl⟩) hK hP hS hk_j0 (by decide) cl_4 rfl hl.1 rfl (Nat.le_of_ble_eq_true rfl) dX4_passHour_116 ⟨Nat.zero_le _, Nat.zero_le _⟩ (fun r20 M19 H locs h hP hS => ?_)
        refine lv_isub hx hb dX4_passHour_119 ?_
        refine lv_topi (fun x4_21 ex4_21 => ?_)
        replace h := h x4_21 ex4_21
        refine lv_istore (lv' := [(4, .int x4_21), (0, .ref (G.2.1 + j0)), (2, .int x2), (3, .int x3)]) hx hb dX4_passHour_120 hl (by decide) rfl (fun ls hl => ?_)
        refine lv_iload hx hb dX4_passHour_122 (lv_at hl 0 rfl) ?_
        refine lv_aload_n hx hb dX4_passHour_124 rfl (lv_at hl 1 rfl) ?_
        refine lv_iload_n hx hb dX4_passHour_125 rfl (lv_at hl 3 rfl) ?_
        refine lv_iload hx hb dX4_passHour_126 (lv_at hl 0 rfl) ?_
        refine rc_Vi (As := [.int x3, .int x4_21]) (rest := [.int x4_21]) ⟨hx, hb, hml, hown, hts⟩ (mX4_partAmongGates l G j0 x3 x4_21 M19 _ hk_j0 h) (cwV 2 hts (gV_X4_partAmongGates q_19_6) rfl rfl rfl hdV_X4_partAmongGates ⟨Nat.le_of_ble_eq_true rfl, Nat.le_of_ble_eq_true rfl⟩) hK hP hS hk_j0 (by decide) cl_4 rfl hl.1 rfl (Nat.le_of_ble_eq_true rfl) dX4_passHour_128 ⟨Nat.zero_le _, Nat.zero_le _⟩ (fun r23 M22 H locs h hP hS => ?_)
        refine lv_isub hx hb dX4_passHour_131 ?_
        refine lv_topi (fun x4_24 ex4_24 => ?_)
        replace h := h x4_24 ex4_24
        refine lv_istore (lv' := [(4, .int x4_24), (0, .ref (G.2.1 + j0)), (2, .int x2), (3, .int x3)]) hx hb dX4_passHour_132 hl (by decide) rfl (fun ls hl => ?_)
        refine lv_aload_n hx hb dX4_passHour_134 rfl (lv_at hl 1 rfl) ?_
        refine rk_getr hx hb hts inlX4 hown hK hP hk_j0 cl_4 0 1 fq_4_0 q_2_7 rfl dX4_passHour_135 ?_
        refine rk_getr hx hb hts inlX0 hown hK hP (ky_4_0 hk_j0) cl_0 9 8 fq_0_9 q_17_12 rfl dX4_passHour_138 ?_
        refine lv_iload_n hx hb dX4_passHour_141 rfl (lv_at hl 3 rfl) ?_
        refine lv_dup2_11 hx hb dX4_passHour_142 rfl rfl ?_
        refine rk_iald hx hb hK hP (ky_0_9 (ky_4_0 hk_j0)) ac_8 _ rfl h.1 dX4_passHour_143 ?_
        replace h := h.2
        refine lv_iload hx hb dX4_passHour_144 (lv_at hl 0 rfl) ?_
        refine lv_iadd hx hb dX4_passHour_146 ?_
        refine rk_iast hx hb hK hP hS (ky_0_9 (ky_4_0 hk_j0)) ac_8 _ rfl h.1 dX4_passHour_147 (fun M25 eM25 H locs hP hS => ?_)
        replace h := h.2
        replace h := h M25 eM25
        refine lv_aload_n hx hb dX4_passHour_148 rfl (lv_at hl 1 rfl) ?_
        refine lv_dup hx hb dX4_passHour_149 rfl ?_
        refine rk_geti hx hb hts inlX4 hown hK hP hk_j0 cl_4 7 fq_4_7 q_6_4 rfl dX4_passHour_150 ?_
        refine lv_iload hx hb dX4_passHour_153 (lv_at hl 0 rfl) ?_
        refine lv_iadd hx hb dX4_passHour_155 ?_
        refine rk_puti hx hb hts inlX4 tyX4 tyX4_ok nmX4 hown hK hP hS hk_j0 cl_4 7 fq_4_7 q_6_4 rfl rfl rfl dX4_passHour_156 (fun M26 eM26 H locs hP hS => ?_)
        replace h := h M26 eM26
        obtain ⟨x3_27, ex3_27⟩ : ∃ y : Int32, y = x3 + (1 : Int32) := ⟨_, rfl⟩
        replace h := h x3_27 ex3_27
        refine lv_iinc (v := x3_27) (lv' := [(3, .int x3_27), (4, .int x4_24), (0, .ref (G.2.1 + j0)), (2, .int x2)]) hx hb dX4_passHour_159 hl (k := 3) rfl (by rw [ex3_27]; rfl) (by decide) rfl (fun ls hl => ?_)
        refine lv_goto (tgt := 76) hx hb dX4_passHour_162 (by decide) ?_
        exact hA76 _ _ _ _ _ _ _ hP hS (lv_sub hl [2, 3, 0] rfl) hk_j0 h
  unfold wX4_passHour at h
  refine lv_aload_n hx hb dX4_passHour_0 rfl (lv_at hl 0 rfl) ?_
  refine rk_geti hx hb hts inlX4 hown hK hP hk_j0a cl_4 5 fq_4_5 q_6_2 rfl dX4_passHour_1 ?_
  refine lv_topi (fun x2_1 ex2_1 => ?_)
  replace h := h x2_1 ex2_1
  refine lv_istore_n (lv' := [(2, .int x2_1), (0, .ref (G.2.1 + j0a)), (1, .int x1a)]) hx hb dX4_passHour_4 rfl hl (by decide) rfl (fun ls hl => ?_)
  refine lv_aload_n hx hb dX4_passHour_5 rfl (lv_at hl 1 rfl) ?_
  refine lv_dup hx hb dX4_passHour_6 rfl ?_
  refine rk_geti hx hb hts inlX4 hown hK hP hk_j0a cl_4 3 fq_4_3 q_6_0 rfl dX4_passHour_7 ?_
  refine lv_iconst (v := (1 : Int32)) hx hb dX4_passHour_10 k_iconst_1 ?_
  refine lv_iadd hx hb dX4_passHour_11 ?_
  refine rk_puti hx hb hts inlX4 tyX4 tyX4_ok nmX4 hown hK hP hS hk_j0a cl_4 3 fq_4_3 q_6_0 rfl rfl rfl dX4_passHour_12 (fun M2 eM2 H locs hP hS => ?_)
  replace h := h M2 eM2
  refine lv_aload_n hx hb dX4_passHour_15 rfl (lv_at hl 1 rfl) ?_
  refine rc_Vv (As := []) (rest := []) ⟨hx, hb, hml, hown, hts⟩ (mX4_findCallsBelow l G j0a M2 _ hk_j0a h) (cwV 0 hts (gV_X4_findCallsBelow q_17_13) rfl rfl rfl hdV_X4_findCallsBelow ⟨Nat.le_of_ble_eq_true rfl, Nat.le_of_ble_eq_true rfl⟩) hK hP hS hk_j0a (by decide) cl_4 rfl hl.1 rfl (Nat.le_of_ble_eq_true rfl) dX4_passHour_16 ⟨Nat.zero_le _, Nat.zero_le _⟩ (fun M3 H locs h hP hS => ?_)
  refine lv_aload_n hx hb dX4_passHour_19 rfl (lv_at hl 1 rfl) ?_
  refine rc_Vv (As := []) (rest := []) ⟨hx, hb, hml, hown, hts⟩ (mX4_findPassingGates l G j0a M3 _ hk_j0a h) (cwV 0 hts (gV_X4_findPassingGates q_18_3) rfl rfl rfl hdV_X4_findPassingGates ⟨Nat.le_of_ble_eq_true rfl, Nat.le_of_ble_eq_true rfl⟩) hK hP hS hk_j0a (by decide) cl_4 rfl hl.1 rfl (Nat.le_of_ble_eq_true rfl) dX4_passHour_20 ⟨Nat.zero_le _, Nat.zero_le _⟩ (fun M5 H locs h hP hS => ?_)
  refine lv_aload_n hx hb dX4_passHour_23 rfl (lv_at hl 1 rfl) ?_
  refine rk_getr hx hb hts inlX4 hown hK hP hk_j0a cl_4 0 1 fq_4_0 q_2_7 rfl dX4_passHour_24 ?_
  refine rk_getr hx hb hts inlX0 hown hK hP (ky_4_0 hk_j0a) cl_0 7 6 fq_0_7 q_17_5 rfl dX4_passHour_27 ?_
  refine lv_iconst (v := (0 : Int32)) hx hb dX4_passHour_30 k_iconst_0 ?_
  refine rc_Sv (As := [.ref (G.2.1 + ((j0a + 1) + 6)), .int (0 : Int32)]) (rest := []) ⟨hx, hb, hml, hown, hts⟩ (mJ7_fill_53178 l G ((j0a + 1) + 6) (0 : Int32) M5 _ (ky_0_7 (ky_4_0 hk_j0a)) h) (va_cwS 2 hts (gS_J7_fill_53178 q_17_21) rfl rfl rfl hdS_J7_fill_53178 ⟨Nat.le_of_ble_eq_true rfl, Nat.le_of_ble_eq_true rfl⟩) hK hP hS rfl hl.1 rfl (Nat.le_of_ble_eq_true rfl) dX4_passHour_31 ⟨Nat.zero_le _, Nat.zero_le _⟩ (fun M7 H locs h hP hS => ?_)
  refine lv_aload_n hx hb dX4_passHour_34 rfl (lv_at hl 1 rfl) ?_
  refine rk_getr hx hb hts inlX4 hown hK hP hk_j0a cl_4 0 1 fq_4_0 q_2_7 rfl dX4_passHour_35 ?_
  refine rk_getr hx hb hts inlX0 hown hK hP (ky_4_0 hk_j0a) cl_0 7 6 fq_0_7 q_17_5 rfl dX4_passHour_38 ?_
  refine lv_iconst (v := (0 : Int32)) hx hb dX4_passHour_41 k_iconst_0 ?_
  refine lv_iload_n hx hb dX4_passHour_42 rfl (lv_at hl 2 rfl) ?_
  refine lv_aload_n hx hb dX4_passHour_43 rfl (lv_at hl 1 rfl) ?_
  refine rk_getr hx hb hts inlX4 hown hK hP hk_j0a cl_4 0 1 fq_4_0 q_2_7 rfl dX4_passHour_44 ?_
  refine rk_getr hx hb hts inlX0 hown hK hP (ky_4_0 hk_j0a) cl_0 4 3 fq_0_4 q_17_6 rfl dX4_passHour_47 ?_
  refine lv_iconst (v := (0 : Int32)) hx hb dX4_passHour_50 k_iconst_0 ?_
  refine rk_iald hx hb hK hP (ky_0_4 (ky_4_0 hk_j0a)) ac_8 0 ix_0 vi_0_8 dX4_passHour_51 ?_
  refine rk_min hx hb (hml.trans hl.1.symm) hts hown q_17_7 q_17_8 q_17_9 q_17_10 (Nat.le_of_ble_eq_true rfl) (Nat.le_of_ble_eq_true rfl) ⟨Nat.zero_le _, Nat.zero_le _⟩ dX4_passHour_52 ?_
  refine rk_iast hx hb hK hP hS (ky_0_7 (ky_4_0 hk_j0a)) ac_8 0 ix_0 vi_0_8 dX4_passHour_55 (fun M9 eM9 H locs hP hS => ?_)
  replace h := h M9 eM9
  refine lv_aload_n hx hb dX4_passHour_56 rfl (lv_at hl 1 rfl) ?_
  refine lv_dup hx hb dX4_passHour_57 rfl ?_
  refine rk_geti hx hb hts inlX4 hown hK hP hk_j0a cl_4 4 fq_4_4 q_6_1 rfl dX4_passHour_58 ?_
  refine lv_aload_n hx hb dX4_passHour_61 rfl (lv_at hl 1 rfl) ?_
  refine rk_getr hx hb hts inlX4 hown hK hP hk_j0a cl_4 0 1 fq_4_0 q_2_7 rfl dX4_passHour_62 ?_
  refine rk_getr hx hb hts inlX0 hown hK hP (ky_4_0 hk_j0a) cl_0 7 6 fq_0_7 q_17_5 rfl dX4_passHour_65 ?_
  refine lv_iconst (v := (0 : Int32)) hx hb dX4_passHour_68 k_iconst_0 ?_
  refine rk_iald hx hb hK hP (ky_0_7 (ky_4_0 hk_j0a)) ac_8 0 ix_0 vi_0_8 dX4_passHour_69 ?_
  refine lv_iadd hx hb dX4_passHour_70 ?_
  refine rk_puti hx hb hts inlX4 tyX4 tyX4_ok nmX4 hown hK hP hS hk_j0a cl_4 4 fq_4_4 q_6_1 rfl rfl rfl dX4_passHour_71 (fun M10 eM10 H locs hP hS => ?_)
  replace h := h M10 eM10
  refine lv_iconst (v := (0 : Int32)) hx hb dX4_passHour_74 k_iconst_0 ?_
  refine lv_istore_n (lv' := [(3, .int (0 : Int32)), (2, .int x2_1), (0, .ref (G.2.1 + j0a)), (1, .int x1a)]) hx hb dX4_passHour_75 rfl hl (by decide) rfl (fun ls hl => ?_)
  obtain ⟨n11, h⟩ := h
  exact B76 _ _ _ _ _ _ _ _ hP hS (lv_sub hl [2, 1, 0] rfl) hk_j0a h
set_option maxHeartbeats 4000000 in
set_option maxRecDepth 100000 in
theorem mX5_gatesFor (l : Launch) (G : Gp) (j0a : Nat) (x1a : Int32) (M : Mm) (Post : Mm → Int32 → Prop) (hk_j0a : kd j0a = 5) (h : wX5_gatesFor Post M j0a x1a) : CtI l yX5_gatesFor wsX5_gatesFor rX5_gatesFor G [.ref (G.2.1 + j0a), .int x1a] M Post := by
  refine Met.ofW (cc := cX5_gatesFor) (maxL := 2) (ret := (some .int)) (by decide) rfl ?_
  intro p e s m args below meth c s₁ B hml hv
  obtain ⟨rfl, hK, hP⟩ := hv
  have hx := B.exec
  have hb := B.bytes
  have hr := B.returns
  have hlocks := B.notSynchronized
  have hts0 := atoms_spec (ws := wsX5_gatesFor) B.pre
  have hts : ∀ w ∈ wsL_law, w.before _ s = true := fun w hw => hts0 w (List.mem_cons_of_mem _ hw)
  have hown : s.vm.findClass RX5 = some m.cls := findClass_of_methodNamed B.named
  have hS : va_S (Fr G) s.heap s.heap [] := va_S.rf
  have hl := lv_entry ([.ref (G.2.1 + j0a), .int x1a]) (n := 2) (Nat.le_of_ble_eq_true rfl)
  rw [lg_entry_eq]
  generalize (lg_sl ([.ref (G.2.1 + j0a), .int x1a]) ++ List.replicate (2 - (lg_sl ([.ref (G.2.1 + j0a), .int x1a])).length) Slot.unset).toArray = ls at hl ⊢
  have hl : lv_has ls 2 [(0, .ref (G.2.1 + j0a)), (1, .int x1a)] := hl
  unfold wX5_gatesFor at h
  refine lv_aload_n hx hb dX5_gatesFor_0 rfl (lv_at hl 0 rfl) ?_
  refine rk_geti hx hb hts inlX5 hown hK hP hk_j0a cl_5 0 fq_5_0 q_7_1 rfl dX5_gatesFor_1 ?_
  refine lv_if_le (tgt := 26) hx hb dX5_gatesFor_4 (by decide) (fun c1 => ?_) (fun c1 => ?_)
  · replace h := h.1 c1
    refine lv_iload_n hx hb dX5_gatesFor_26 rfl (lv_at hl 1 rfl) ?_
    exact re_i hx hb hr hlocks hP hS h dX5_gatesFor_27
  · replace h := h.2 c1
    refine lv_aload_n hx hb dX5_gatesFor_7 rfl (lv_at hl 0 rfl) ?_
    refine rk_geti hx hb hts inlX5 hown hK hP hk_j0a cl_5 2 fq_5_2 q_7_3 rfl dX5_gatesFor_8 ?_
    refine lv_if_ne (tgt := 26) hx hb dX5_gatesFor_11 (by decide) (fun c2 => ?_) (fun c2 => ?_)
    · replace h := h.1 c2
      refine lv_iload_n hx hb dX5_gatesFor_26 rfl (lv_at hl 1 rfl) ?_
      exact re_i hx hb hr hlocks hP hS h dX5_gatesFor_27
    · replace h := h.2 c2
      refine lv_aload_n hx hb dX5_gatesFor_14 rfl (lv_at hl 0 rfl) ?_
      refine rk_getr hx hb hts inlX5 hown hK hP hk_j0a cl_5 3 1 fq_5_3 q_3_21 rfl dX5_gatesFor_15 ?_
      refine lv_aload_n hx hb dX5_gatesFor_18 rfl (lv_at hl 0 rfl) ?_
      refine rk_geti hx hb hts inlX5 hown hK hP hk_j0a cl_5 1 fq_5_1 q_7_2 rfl dX5_gatesFor_19 ?_
      refine rk_iald hx hb hK hP (ky_5_3 hk_j0a) ac_8 _ rfl h.1 dX5_gatesFor_22 ?_
      replace h := h.2
      refine lv_goto (tgt := 27) hx hb dX5_gatesFor_23 (by decide) ?_
      exact re_i hx hb hr hlocks hP hS h dX5_gatesFor_27
set_option maxHeartbeats 4000000 in
set_option maxRecDepth 100000 in
theorem mX5_goOn (l : Launch) (G : Gp) (j0a : Nat) (M : Mm) (Post : Mm → Prop) (hk_j0a : kd j0a = 5) (h : wX5_goOn Post M j0a) : CtV l yX5_goOn wsX5_goOn rX5_goOn G [.ref (G.2.1 + j0a)] M Post := by
  refine Met.ofW (cc := cX5_goOn) (maxL := 1) (ret := none) (by decide) rfl ?_
  intro p e s m args below meth c s₁ B hml hv
  obtain ⟨rfl, hK, hP⟩ := hv
  have hx := B.exec
  have hb := B.bytes
  have hr := B.returns
  have hlocks := B.notSynchronized
  have hts0 := atoms_spec (ws := wsX5_goOn) B.pre
  have hts : ∀ w ∈ wsL_law, w.before _ s = true := fun w hw => hts0 w (List.mem_cons_of_mem _ hw)
  have hown : s.vm.findClass RX5 = some m.cls := findClass_of_methodNamed B.named
  have hS : va_S (Fr G) s.heap s.heap [] := va_S.rf
  have hl := lv_entry ([.ref (G.2.1 + j0a)]) (n := 1) (Nat.le_of_ble_eq_true rfl)
  rw [lg_entry_eq]
  generalize (lg_sl ([.ref (G.2.1 + j0a)]) ++ List.replicate (1 - (lg_sl ([.ref (G.2.1 + j0a)])).length) Slot.unset).toArray = ls at hl ⊢
  have hl : lv_has ls 1 [(0, .ref (G.2.1 + j0a))] := hl
  unfold wX5_goOn at h
  refine lv_aload_n hx hb dX5_goOn_0 rfl (lv_at hl 0 rfl) ?_
  refine rk_geti hx hb hts inlX5 hown hK hP hk_j0a cl_5 0 fq_5_0 q_7_1 rfl dX5_goOn_1 ?_
  refine lv_if_ne (tgt := 8) hx hb dX5_goOn_4 (by decide) (fun c1 => ?_) (fun c1 => ?_)
  · replace h := h.1 c1
    refine lv_aload_n hx hb dX5_goOn_8 rfl (lv_at hl 0 rfl) ?_
    refine lv_dup hx hb dX5_goOn_9 rfl ?_
    refine rk_geti hx hb hts inlX5 hown hK hP hk_j0a cl_5 2 fq_5_2 q_7_3 rfl dX5_goOn_10 ?_
    refine lv_iconst (v := (1 : Int32)) hx hb dX5_goOn_13 k_iconst_1 ?_
    refine lv_iadd hx hb dX5_goOn_14 ?_
    refine rk_puti hx hb hts inlX5 tyX5 tyX5_ok nmX5 hown hK hP hS hk_j0a cl_5 2 fq_5_2 q_7_3 rfl rfl rfl dX5_goOn_15 (fun M2 eM2 H locs hP hS => ?_)
    replace h := h M2 eM2
    refine lv_aload_n hx hb dX5_goOn_18 rfl (lv_at hl 0 rfl) ?_
    refine rk_geti hx hb hts inlX5 hown hK hP hk_j0a cl_5 2 fq_5_2 q_7_3 rfl dX5_goOn_19 ?_
    refine lv_aload_n hx hb dX5_goOn_22 rfl (lv_at hl 0 rfl) ?_
    refine rk_getr hx hb hts inlX5 hown hK hP hk_j0a cl_5 4 2 fq_5_4 q_3_22 rfl dX5_goOn_23 ?_
    refine lv_aload_n hx hb dX5_goOn_26 rfl (lv_at hl 0 rfl) ?_
    refine rk_geti hx hb hts inlX5 hown hK hP hk_j0a cl_5 1 fq_5_1 q_7_2 rfl dX5_goOn_27 ?_
    refine rk_iald hx hb hK hP (ky_5_4 hk_j0a) ac_8 _ rfl h.1 dX5_goOn_30 ?_
    replace h := h.2
    refine lv_icmp_lt (tgt := 66) hx hb dX5_goOn_31 (by decide) (fun c3 => ?_) (fun c3 => ?_)
    · replace h := h.1 c3
      exact re_v hx hb hr hlocks hP hS h dX5_goOn_66
    · replace h := h.2 c3
      refine lv_aload_n hx hb dX5_goOn_34 rfl (lv_at hl 0 rfl) ?_
      refine lv_iconst (v := (0 : Int32)) hx hb dX5_goOn_35 k_iconst_0 ?_
      refine rk_puti hx hb hts inlX5 tyX5 tyX5_ok nmX5 hown hK hP hS hk_j0a cl_5 2 fq_5_2 q_7_3 rfl rfl rfl dX5_goOn_36 (fun M4 eM4 H locs hP hS => ?_)
      replace h := h M4 eM4
      refine lv_aload_n hx hb dX5_goOn_39 rfl (lv_at hl 0 rfl) ?_
      refine lv_aload_n hx hb dX5_goOn_40 rfl (lv_at hl 0 rfl) ?_
      refine rk_geti hx hb hts inlX5 hown hK hP hk_j0a cl_5 1 fq_5_1 q_7_2 rfl dX5_goOn_41 ?_
      refine lv_iconst (v := (1 : Int32)) hx hb dX5_goOn_44 k_iconst_1 ?_
      refine lv_iadd hx hb dX5_goOn_45 ?_
      refine lv_aload_n hx hb dX5_goOn_46 rfl (lv_at hl 0 rfl) ?_
      refine rk_geti hx hb hts inlX5 hown hK hP hk_j0a cl_5 0 fq_5_0 q_7_1 rfl dX5_goOn_47 ?_
      refine lv_icmp_ge (tgt := 62) hx hb dX5_goOn_50 (by decide) (fun c5 => ?_) (fun c5 => ?_)
      · replace h := h.1 c5
        refine lv_iconst (v := (0 : Int32)) hx hb dX5_goOn_62 k_iconst_0 ?_
        refine rk_puti hx hb hts inlX5 tyX5 tyX5_ok nmX5 hown hK hP hS hk_j0a cl_5 1 fq_5_1 q_7_2 rfl rfl rfl dX5_goOn_63 (fun M6 eM6 H locs hP hS => ?_)
        replace h := h M6 eM6
        exact re_v hx hb hr hlocks hP hS h dX5_goOn_66
      · replace h := h.2 c5
        refine lv_aload_n hx hb dX5_goOn_53 rfl (lv_at hl 0 rfl) ?_
        refine rk_geti hx hb hts inlX5 hown hK hP hk_j0a cl_5 1 fq_5_1 q_7_2 rfl dX5_goOn_54 ?_
        refine lv_iconst (v := (1 : Int32)) hx hb dX5_goOn_57 k_iconst_1 ?_
        refine lv_iadd hx hb dX5_goOn_58 ?_
        refine lv_goto (tgt := 63) hx hb dX5_goOn_59 (by decide) ?_
        refine rk_puti hx hb hts inlX5 tyX5 tyX5_ok nmX5 hown hK hP hS hk_j0a cl_5 1 fq_5_1 q_7_2 rfl rfl rfl dX5_goOn_63 (fun M7 eM7 H locs hP hS => ?_)
        replace h := h M7 eM7
        exact re_v hx hb hr hlocks hP hS h dX5_goOn_66
  · replace h := h.2 c1
    exact re_v hx hb hr hlocks hP hS h dX5_goOn_7
set_option maxHeartbeats 4000000 in
set_option maxRecDepth 100000 in
theorem mX4_runHours (l : Launch) (G : Gp) (j0a : Nat) (x1a : Int32) (x2a : Int32) (M : Mm) (Post : Mm → Int32 → Prop) (hk_j0a : kd j0a = 4) (h : wX4_runHours Post M j0a x1a x2a) : CtI l yX4_runHours wsX4_runHours rX4_runHours G [.ref (G.2.1 + j0a), .int x1a, .int x2a] M Post := by
  refine Met.ofW (cc := cX4_runHours) (maxL := 5) (ret := (some .int)) (by decide) rfl ?_
  intro p e s m args below meth c s₁ B hml hv
  obtain ⟨rfl, hK, hP⟩ := hv
  have hx := B.exec
  have hb := B.bytes
  have hr := B.returns
  have hlocks := B.notSynchronized
  have hts0 := atoms_spec (ws := wsX4_runHours) B.pre
  have hts : ∀ w ∈ wsL_law, w.before _ s = true := fun w hw => hts0 w (List.mem_cons_of_mem _ hw)
  have hown : s.vm.findClass RX4 = some m.cls := findClass_of_methodNamed B.named
  have hS : va_S (Fr G) s.heap s.heap [] := va_S.rf
  have hl := lv_entry ([.ref (G.2.1 + j0a), .int x1a, .int x2a]) (n := 5) (Nat.le_of_ble_eq_true rfl)
  rw [lg_entry_eq]
  generalize (lg_sl ([.ref (G.2.1 + j0a), .int x1a, .int x2a]) ++ List.replicate (5 - (lg_sl ([.ref (G.2.1 + j0a), .int x1a, .int x2a])).length) Slot.unset).toArray = ls at hl ⊢
  have hl : lv_has ls 5 [(0, .ref (G.2.1 + j0a)), (1, .int x1a), (2, .int x2a)] := hl
  have B8 : ∀ n : Nat, ∀ (M : Mm) (j0 : Nat) (x1 : Int32) (x2 : Int32) (x3 : Int32) (x4 : Int32) (H : Heap) (locs : List Loc) (ls : Array Slot), Rp G M H → va_S (Fr G) s.heap H locs → lv_has ls 5 [(0, .ref (G.2.1 + j0)), (1, .int x1), (2, .int x2), (3, .int x3), (4, .int x4)] → kd j0 = 4 → lX4_runHours_8 Post n M j0 x1 x2 x3 x4 → Wi p l e (headSpec wsX4_runHours rX4_runHours).room s m [.ref (G.2.1 + j0a), .int x1a, .int x2a].toArray below meth c G Post H locs (F0 m 8 ls []) := by
    intro n
    induction n with
    | zero => intro M j0 x1 x2 x3 x4 H locs ls hP hS hl hk_j0 h; exact h.elim
    | succ n ih =>
      intro M j0 x1 x2 x3 x4 H locs ls hP hS hl hk_j0 h
      have hA8 := ih
      replace h : bX4_runHours_8 Post (lX4_runHours_8 Post n) M j0 x1 x2 x3 x4 := h
      unfold bX4_runHours_8 at h
      refine lv_iload hx hb dX4_runHours_8 (lv_at hl 4 rfl) ?_
      refine lv_iload_n hx hb dX4_runHours_10 rfl (lv_at hl 1 rfl) ?_
      refine lv_icmp_ge (tgt := 54) hx hb dX4_runHours_11 (by decide) (fun c3 => ?_) (fun c3 => ?_)
      · replace h := h.1 c3
        refine lv_aload_n hx hb dX4_runHours_54 rfl (lv_at hl 0 rfl) ?_
        refine rk_geti hx hb hts inlX4 hown hK hP hk_j0 cl_4 5 fq_4_5 q_6_2 rfl dX4_runHours_55 ?_
        refine lv_iload_n hx hb dX4_runHours_58 rfl (lv_at hl 3 rfl) ?_
        refine lv_isub hx hb dX4_runHours_59 ?_
        exact re_i hx hb hr hlocks hP hS h dX4_runHours_60
      · replace h := h.2 c3
        refine lv_aload_n hx hb dX4_runHours_14 rfl (lv_at hl 0 rfl) ?_
        refine rk_getr hx hb hts inlX4 hown hK hP hk_j0 cl_4 0 1 fq_4_0 q_2_7 rfl dX4_runHours_15 ?_
        refine lv_aload_n hx hb dX4_runHours_18 rfl (lv_at hl 0 rfl) ?_
        refine rk_getr hx hb hts inlX4 hown hK hP hk_j0 cl_4 2 18 fq_4_2 q_2_15 rfl dX4_runHours_19 ?_
        refine lv_aload_n hx hb dX4_runHours_22 rfl (lv_at hl 0 rfl) ?_
        refine rk_getr hx hb hts inlX4 hown hK hP hk_j0 cl_4 0 1 fq_4_0 q_2_7 rfl dX4_runHours_23 ?_
        refine rk_geti hx hb hts inlX0 hown hK hP (ky_4_0 hk_j0) cl_0 1 fq_0_1 q_22_3 rfl dX4_runHours_26 ?_
        refine rc_Vi (As := [.int (M (j0 + 1) 1)]) (rest := [.ref (G.2.1 + (j0 + 1))]) ⟨hx, hb, hml, hown, hts⟩ (mX5_gatesFor l G (j0 + 18) (M (j0 + 1) 1) M _ (ky_4_2 hk_j0) h) (cwV 1 hts (gV_X5_gatesFor q_22_4) rfl rfl rfl hdV_X5_gatesFor ⟨Nat.le_of_ble_eq_true rfl, Nat.le_of_ble_eq_true rfl⟩) hK hP hS (ky_4_2 hk_j0) (by decide) cl_5 rfl hl.1 rfl (Nat.le_of_ble_eq_true rfl) dX4_runHours_29 ⟨Nat.zero_le _, Nat.zero_le _⟩ (fun r5 M4 H locs h hP hS => ?_)
        refine rk_puti hx hb hts inlX0 tyX0 tyX0_ok nmX0 hown hK hP hS (ky_4_0 hk_j0) cl_0 1 fq_0_1 q_22_3 rfl rfl rfl dX4_runHours_32 (fun M6 eM6 H locs hP hS => ?_)
        replace h := h M6 eM6
        refine lv_aload_n hx hb dX4_runHours_35 rfl (lv_at hl 0 rfl) ?_
        refine lv_iload_n hx hb dX4_runHours_36 rfl (lv_at hl 2 rfl) ?_
        refine rc_Vi (As := [.int x2]) (rest := []) ⟨hx, hb, hml, hown, hts⟩ (mX4_passHour l G j0 x2 M6 _ hk_j0 h) (cwV 1 hts (gV_X4_passHour q_22_8) rfl rfl rfl hdV_X4_passHour ⟨Nat.le_of_ble_eq_true rfl, Nat.le_of_ble_eq_true rfl⟩) hK hP hS hk_j0 (by decide) cl_4 rfl hl.1 rfl (Nat.le_of_ble_eq_true rfl) dX4_runHours_37 ⟨Nat.zero_le _, Nat.zero_le _⟩ (fun r8 M7 H locs h hP hS => ?_)
        refine lv_pop hx hb dX4_runHours_40 rfl ?_
        refine lv_aload_n hx hb dX4_runHours_41 rfl (lv_at hl 0 rfl) ?_
        refine rk_getr hx hb hts inlX4 hown hK hP hk_j0 cl_4 2 18 fq_4_2 q_2_15 rfl dX4_runHours_42 ?_
        refine rc_Vv (As := []) (rest := []) ⟨hx, hb, hml, hown, hts⟩ (mX5_goOn l G (j0 + 18) M7 _ (ky_4_2 hk_j0) h) (cwV 0 hts (gV_X5_goOn q_22_9) rfl rfl rfl hdV_X5_goOn ⟨Nat.le_of_ble_eq_true rfl, Nat.le_of_ble_eq_true rfl⟩) hK hP hS (ky_4_2 hk_j0) (by decide) cl_5 rfl hl.1 rfl (Nat.le_of_ble_eq_true rfl) dX4_runHours_45 ⟨Nat.zero_le _, Nat.zero_le _⟩ (fun M9 H locs h hP hS => ?_)
        obtain ⟨x4_11, ex4_11⟩ : ∃ y : Int32, y = x4 + (1 : Int32) := ⟨_, rfl⟩
        replace h := h x4_11 ex4_11
        refine lv_iinc (v := x4_11) (lv' := [(4, .int x4_11), (0, .ref (G.2.1 + j0)), (1, .int x1), (2, .int x2), (3, .int x3)]) hx hb dX4_runHours_48 hl (k := 4) rfl (by rw [ex4_11]; rfl) (by decide) rfl (fun ls hl => ?_)
        refine lv_goto (tgt := 8) hx hb dX4_runHours_51 (by decide) ?_
        exact hA8 _ _ _ _ _ _ _ _ _ hP hS (lv_sub hl [1, 2, 3, 4, 0] rfl) hk_j0 h
  unfold wX4_runHours at h
  refine lv_aload_n hx hb dX4_runHours_0 rfl (lv_at hl 0 rfl) ?_
  refine rk_geti hx hb hts inlX4 hown hK hP hk_j0a cl_4 5 fq_4_5 q_6_2 rfl dX4_runHours_1 ?_
  refine lv_topi (fun x3_1 ex3_1 => ?_)
  replace h := h x3_1 ex3_1
  refine lv_istore_n (lv' := [(3, .int x3_1), (0, .ref (G.2.1 + j0a)), (1, .int x1a), (2, .int x2a)]) hx hb dX4_runHours_4 rfl hl (by decide) rfl (fun ls hl => ?_)
  refine lv_iconst (v := (0 : Int32)) hx hb dX4_runHours_5 k_iconst_0 ?_
  refine lv_istore (lv' := [(4, .int (0 : Int32)), (3, .int x3_1), (0, .ref (G.2.1 + j0a)), (1, .int x1a), (2, .int x2a)]) hx hb dX4_runHours_6 hl (by decide) rfl (fun ls hl => ?_)
  obtain ⟨n2, h⟩ := h
  exact B8 _ _ _ _ _ _ _ _ _ _ hP hS (lv_sub hl [2, 3, 4, 1, 0] rfl) hk_j0a h
set_option maxHeartbeats 4000000 in
set_option maxRecDepth 100000 in
theorem mX3_carryOut (l : Launch) (G : Gp) (j0a : Nat) (j1a : Nat) (M : Mm) (Post : Mm → Int32 → Prop) (hk_j0a : kd j0a = 3) (hk_j1a : kd j1a = 4) (h : wX3_carryOut Post M j0a j1a) : CtI l yX3_carryOut wsX3_carryOut rX3_carryOut G [.ref (G.2.1 + j0a), .ref (G.2.1 + j1a)] M Post := by
  refine Met.ofW (cc := cX3_carryOut) (maxL := 2) (ret := (some .int)) (by decide) rfl ?_
  intro p e s m args below meth c s₁ B hml hv
  obtain ⟨rfl, hK, hP⟩ := hv
  have hx := B.exec
  have hb := B.bytes
  have hr := B.returns
  have hlocks := B.notSynchronized
  have hts0 := atoms_spec (ws := wsX3_carryOut) B.pre
  have hts : ∀ w ∈ wsL_law, w.before _ s = true := fun w hw => hts0 w (List.mem_cons_of_mem _ hw)
  have hown : s.vm.findClass RX3 = some m.cls := findClass_of_methodNamed B.named
  have hS : va_S (Fr G) s.heap s.heap [] := va_S.rf
  have hl := lv_entry ([.ref (G.2.1 + j0a), .ref (G.2.1 + j1a)]) (n := 2) (Nat.le_of_ble_eq_true rfl)
  rw [lg_entry_eq]
  generalize (lg_sl ([.ref (G.2.1 + j0a), .ref (G.2.1 + j1a)]) ++ List.replicate (2 - (lg_sl ([.ref (G.2.1 + j0a), .ref (G.2.1 + j1a)])).length) Slot.unset).toArray = ls at hl ⊢
  have hl : lv_has ls 2 [(0, .ref (G.2.1 + j0a)), (1, .ref (G.2.1 + j1a))] := hl
  have B48 : ∀ (M : Mm) (j0 : Nat) (j1 : Nat) (H : Heap) (locs : List Loc) (ls : Array Slot), Rp G M H → va_S (Fr G) s.heap H locs → lv_has ls 2 [(0, .ref (G.2.1 + j0)), (1, .ref (G.2.1 + j1))] → kd j0 = 3 → kd j1 = 4 → bX3_carryOut_48 Post M j0 j1 → Wi p l e (headSpec wsX3_carryOut rX3_carryOut).room s m [.ref (G.2.1 + j0a), .ref (G.2.1 + j1a)].toArray below meth c G Post H locs (F0 m 48 ls []) := by
    intro M j0 j1 H locs ls hP hS hl hk_j0 hk_j1 h
    unfold bX3_carryOut_48 at h
    refine lv_aload_n hx hb dX3_carryOut_48 rfl (lv_at hl 1 rfl) ?_
    refine rk_getr hx hb hts inlX4 hown hK hP hk_j1 cl_4 0 1 fq_4_0 q_34_5 rfl dX3_carryOut_49 ?_
    refine lv_aload_n hx hb dX3_carryOut_52 rfl (lv_at hl 0 rfl) ?_
    refine rk_geti hx hb hts inlX3 hown hK hP hk_j0 cl_3 5 fq_3_5 q_33_8 rfl dX3_carryOut_53 ?_
    refine rc_Vi (As := [.int (M j0 5)]) (rest := []) ⟨hx, hb, hml, hown, hts⟩ (mX0_moveGate l G (j1 + 1) (M j0 5) M _ (ky_4_0 hk_j1) h) (cwV 1 hts (gV_X0_moveGate q_34_21) rfl rfl rfl hdV_X0_moveGate ⟨Nat.le_of_ble_eq_true rfl, Nat.le_of_ble_eq_true rfl⟩) hK hP hS (ky_4_0 hk_j1) (by decide) cl_0 rfl hl.1 rfl (Nat.le_of_ble_eq_true rfl) dX3_carryOut_56 ⟨Nat.zero_le _, Nat.zero_le _⟩ (fun r13 M12 H locs h hP hS => ?_)
    refine lv_pop hx hb dX3_carryOut_59 rfl ?_
    refine lv_iconst (v := (0 : Int32)) hx hb dX3_carryOut_60 k_iconst_0 ?_
    exact re_i hx hb hr hlocks hP hS h dX3_carryOut_61
  unfold wX3_carryOut at h
  refine lv_aload_n hx hb dX3_carryOut_0 rfl (lv_at hl 0 rfl) ?_
  refine rk_geti hx hb hts inlX3 hown hK hP hk_j0a cl_3 4 fq_3_4 q_33_7 rfl dX3_carryOut_1 ?_
  refine lv_topi (fun sw1 esw1 => ?_)
  replace h := h sw1 esw1
  by_cases c2 : sw1 = (99 : Int32)
  · replace h := h.1 c2
    refine lv_lookup (off := 44) (tgt := 48) hx hb dX3_carryOut_4 (by decide) (by rw [c2]; rfl) (by decide) ?_
    exact B48 _ _ _ _ _ _ hP hS (lv_sub hl [0, 1] rfl) hk_j0a hk_j1a h
  replace h := h.2 c2
  by_cases c3 : sw1 = (104 : Int32)
  · replace h := h.1 c3
    refine lv_lookup (off := 72) (tgt := 76) hx hb dX3_carryOut_4 (by decide) (by rw [c3]; rfl) (by decide) ?_
    refine lv_aload_n hx hb dX3_carryOut_76 rfl (lv_at hl 1 rfl) ?_
    refine lv_aload_n hx hb dX3_carryOut_77 rfl (lv_at hl 0 rfl) ?_
    refine rk_geti hx hb hts inlX3 hown hK hP hk_j0a cl_3 5 fq_3_5 q_33_8 rfl dX3_carryOut_78 ?_
    refine rc_Vi (As := [.int (M j0a 5)]) (rest := []) ⟨hx, hb, hml, hown, hts⟩ (mX4_passHour l G j1a (M j0a 5) M _ hk_j1a h) (cwV 1 hts (gV_X4_passHour q_34_23) rfl rfl rfl hdV_X4_passHour ⟨Nat.le_of_ble_eq_true rfl, Nat.le_of_ble_eq_true rfl⟩) hK hP hS hk_j1a (by decide) cl_4 rfl hl.1 rfl (Nat.le_of_ble_eq_true rfl) dX3_carryOut_81 ⟨Nat.zero_le _, Nat.zero_le _⟩ (fun r5 M4 H locs h hP hS => ?_)
    exact re_i hx hb hr hlocks hP hS h dX3_carryOut_84
  replace h := h.2 c3
  by_cases c6 : sw1 = (111 : Int32)
  · replace h := h.1 c6
    refine lv_lookup (off := 44) (tgt := 48) hx hb dX3_carryOut_4 (by decide) (by rw [c6]; rfl) (by decide) ?_
    exact B48 _ _ _ _ _ _ hP hS (lv_sub hl [0, 1] rfl) hk_j0a hk_j1a h
  replace h := h.2 c6
  by_cases c7 : sw1 = (121 : Int32)
  · replace h := h.1 c7
    refine lv_lookup (off := 58) (tgt := 62) hx hb dX3_carryOut_4 (by decide) (by rw [c7]; rfl) (by decide) ?_
    refine lv_aload_n hx hb dX3_carryOut_62 rfl (lv_at hl 1 rfl) ?_
    refine rk_getr hx hb hts inlX4 hown hK hP hk_j1a cl_4 1 10 fq_4_1 q_34_6 rfl dX3_carryOut_63 ?_
    refine lv_aload_n hx hb dX3_carryOut_66 rfl (lv_at hl 0 rfl) ?_
    refine rk_geti hx hb hts inlX3 hown hK hP hk_j0a cl_3 5 fq_3_5 q_33_8 rfl dX3_carryOut_67 ?_
    refine rc_Vi (As := [.int (M j0a 5)]) (rest := []) ⟨hx, hb, hml, hown, hts⟩ (mX1_beginCall l G (j1a + 10) (M j0a 5) M _ (ky_4_1 hk_j1a) h) (cwV 1 hts (gV_X1_beginCall q_34_22) rfl rfl rfl hdV_X1_beginCall ⟨Nat.le_of_ble_eq_true rfl, Nat.le_of_ble_eq_true rfl⟩) hK hP hS (ky_4_1 hk_j1a) (by decide) cl_1 rfl hl.1 rfl (Nat.le_of_ble_eq_true rfl) dX3_carryOut_70 ⟨Nat.zero_le _, Nat.zero_le _⟩ (fun r9 M8 H locs h hP hS => ?_)
    refine lv_pop hx hb dX3_carryOut_73 rfl ?_
    refine lv_iconst (v := (0 : Int32)) hx hb dX3_carryOut_74 k_iconst_0 ?_
    exact re_i hx hb hr hlocks hP hS h dX3_carryOut_75
  replace h := h.2 c7
  refine lv_lookup (off := 81) (tgt := 85) hx hb dX3_carryOut_4 (by decide) (by show Op.lookupswitch.offset [(99, 44), (104, 72), (111, 44), (121, 58)] 81 _ = _; rw [lv_osw (a := 99) c2 rfl, lv_osw (a := 104) c3 rfl, lv_osw (a := 111) c6 rfl, lv_osw (a := 121) c7 rfl]; rfl) (by decide) ?_
  refine lv_aload_n hx hb dX3_carryOut_85 rfl (lv_at hl 1 rfl) ?_
  refine lv_aload_n hx hb dX3_carryOut_86 rfl (lv_at hl 0 rfl) ?_
  refine rk_geti hx hb hts inlX3 hown hK hP hk_j0a cl_3 5 fq_3_5 q_33_8 rfl dX3_carryOut_87 ?_
  refine lv_aload_n hx hb dX3_carryOut_90 rfl (lv_at hl 0 rfl) ?_
  refine rk_geti hx hb hts inlX3 hown hK hP hk_j0a cl_3 6 fq_3_6 q_33_9 rfl dX3_carryOut_91 ?_
  refine rc_Vi (As := [.int (M j0a 5), .int (M j0a 6)]) (rest := []) ⟨hx, hb, hml, hown, hts⟩ (mX4_runHours l G j1a (M j0a 5) (M j0a 6) M _ hk_j1a h) (cwV 2 hts (gV_X4_runHours q_35_0) rfl rfl rfl hdV_X4_runHours ⟨Nat.le_of_ble_eq_true rfl, Nat.le_of_ble_eq_true rfl⟩) hK hP hS hk_j1a (by decide) cl_4 rfl hl.1 rfl (Nat.le_of_ble_eq_true rfl) dX3_carryOut_94 ⟨Nat.zero_le _, Nat.zero_le _⟩ (fun r11 M10 H locs h hP hS => ?_)
  exact re_i hx hb hr hlocks hP hS h dX3_carryOut_97
