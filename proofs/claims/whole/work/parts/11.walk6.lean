/-! the walks: each method keeps its predicate; printed by gen.py -/
set_option maxHeartbeats 4000000 in
set_option maxRecDepth 100000 in
theorem mX7_tended (l : Launch) (G : Gp) (j0a : Nat) (x1a : Int32) (M : Mm) (Post : Mm → Int32 → Prop) (hk_j0a : kd j0a = 7) (h : wX7_tended Post M j0a x1a) : CtI l yX7_tended wsX7_tended rX7_tended G [.ref (G.2.1 + j0a), .int x1a] M Post := by
  refine Met.ofW (cc := cX7_tended) (maxL := 4) (ret := (some .int)) (by decide) rfl ?_
  intro p e s m args below meth c s₁ B hml hv
  obtain ⟨rfl, hK, hP⟩ := hv
  have hx := B.exec
  have hb := B.bytes
  have hr := B.returns
  have hlocks := B.notSynchronized
  have hts0 := atoms_spec (ws := wsX7_tended) B.pre
  have hts : ∀ w ∈ wsL_law, w.before _ s = true := fun w hw => hts0 w (List.mem_cons_of_mem _ hw)
  have hown : s.vm.findClass RX7 = some m.cls := findClass_of_methodNamed B.named
  have hS : va_S (Fr G) s.heap s.heap [] := va_S.rf
  have hl := lv_entry ([.ref (G.2.1 + j0a), .int x1a]) (n := 4) (Nat.le_of_ble_eq_true rfl)
  rw [lg_entry_eq]
  generalize (lg_sl ([.ref (G.2.1 + j0a), .int x1a]) ++ List.replicate (4 - (lg_sl ([.ref (G.2.1 + j0a), .int x1a])).length) Slot.unset).toArray = ls at hl ⊢
  have hl : lv_has ls 4 [(0, .ref (G.2.1 + j0a)), (1, .int x1a)] := hl
  have B4 : ∀ n : Nat, ∀ (M : Mm) (j0 : Nat) (x1 : Int32) (x2 : Int32) (x3 : Int32) (H : Heap) (locs : List Loc) (ls : Array Slot), Rp G M H → va_S (Fr G) s.heap H locs → lv_has ls 4 [(0, .ref (G.2.1 + j0)), (1, .int x1), (2, .int x2), (3, .int x3)] → kd j0 = 7 → lX7_tended_4 Post n M j0 x1 x2 x3 → Wi p l e (headSpec wsX7_tended rX7_tended).room s m [.ref (G.2.1 + j0a), .int x1a].toArray below meth c G Post H locs (F0 m 4 ls []) := by
    intro n
    induction n with
    | zero => intro M j0 x1 x2 x3 H locs ls hP hS hl hk_j0 h; exact h.elim
    | succ n ih =>
      intro M j0 x1 x2 x3 H locs ls hP hS hl hk_j0 h
      have hA4 := ih
      replace h : bX7_tended_4 Post (lX7_tended_4 Post n) M j0 x1 x2 x3 := h
      unfold bX7_tended_4 at h
      refine lv_iload_n hx hb dX7_tended_4 rfl (lv_at hl 3 rfl) ?_
      refine lv_aload_n hx hb dX7_tended_5 rfl (lv_at hl 0 rfl) ?_
      refine rk_getr hx hb hts inlX7 hown hK hP hk_j0 cl_7 0 1 fq_7_0 q_4_13 rfl dX7_tended_6 ?_
      refine lv_iconst (v := (0 : Int32)) hx hb dX7_tended_9 k_iconst_0 ?_
      refine rk_iald hx hb hK hP (ky_7_0 hk_j0) ac_12 0 ix_0 vi_0_168 dX7_tended_10 ?_
      refine lv_icmp_ge (tgt := 38) hx hb dX7_tended_11 (by decide) (fun c2 => ?_) (fun c2 => ?_)
      · replace h := h.1 c2
        refine lv_iload_n hx hb dX7_tended_38 rfl (lv_at hl 2 rfl) ?_
        exact re_i hx hb hr hlocks hP hS h dX7_tended_39
      · replace h := h.2 c2
        refine lv_iload_n hx hb dX7_tended_14 rfl (lv_at hl 2 rfl) ?_
        refine lv_aload_n hx hb dX7_tended_15 rfl (lv_at hl 0 rfl) ?_
        refine lv_iload_n hx hb dX7_tended_16 rfl (lv_at hl 3 rfl) ?_
        refine lv_iconst (v := (5 : Int32)) hx hb dX7_tended_17 k_iconst_5 ?_
        refine rc_Vi (As := [.int x3, .int (5 : Int32)]) (rest := [.int x2]) ⟨hx, hb, hml, hown, hts⟩ (mX7_ca l G j0 x3 (5 : Int32) M _ hk_j0 h) (cwV 2 hts (gV_X7_ca q_10_4) rfl rfl rfl hdV_X7_ca ⟨Nat.le_of_ble_eq_true rfl, Nat.le_of_ble_eq_true rfl⟩) hK hP hS hk_j0 (by decide) cl_7 rfl hl.1 rfl (Nat.le_of_ble_eq_true rfl) dX7_tended_18 ⟨Nat.zero_le _, Nat.zero_le _⟩ (fun r4 M3 H locs h hP hS => ?_)
        refine lv_iload_n hx hb dX7_tended_21 rfl (lv_at hl 1 rfl) ?_
        refine lv_icmp_ne (tgt := 29) hx hb dX7_tended_22 (by decide) (fun c5 => ?_) (fun c5 => ?_)
        · replace h := h.1 c5
          refine lv_iconst (v := (0 : Int32)) hx hb dX7_tended_29 k_iconst_0 ?_
          refine lv_iadd hx hb dX7_tended_30 ?_
          refine lv_topi (fun x2_6 ex2_6 => ?_)
          replace h := h x2_6 ex2_6
          refine lv_istore_n (lv' := [(2, .int x2_6), (0, .ref (G.2.1 + j0)), (1, .int x1), (3, .int x3)]) hx hb dX7_tended_31 rfl hl (by decide) rfl (fun ls hl => ?_)
          obtain ⟨x3_7, ex3_7⟩ : ∃ y : Int32, y = x3 + (1 : Int32) := ⟨_, rfl⟩
          replace h := h x3_7 ex3_7
          refine lv_iinc (v := x3_7) (lv' := [(3, .int x3_7), (2, .int x2_6), (0, .ref (G.2.1 + j0)), (1, .int x1)]) hx hb dX7_tended_32 hl (k := 3) rfl (by rw [ex3_7]; rfl) (by decide) rfl (fun ls hl => ?_)
          refine lv_goto (tgt := 4) hx hb dX7_tended_35 (by decide) ?_
          exact hA4 _ _ _ _ _ _ _ _ hP hS (lv_sub hl [2, 3, 1, 0] rfl) hk_j0 h
        · replace h := h.2 c5
          refine lv_iconst (v := (1 : Int32)) hx hb dX7_tended_25 k_iconst_1 ?_
          refine lv_goto (tgt := 30) hx hb dX7_tended_26 (by decide) ?_
          refine lv_iadd hx hb dX7_tended_30 ?_
          refine lv_topi (fun x2_8 ex2_8 => ?_)
          replace h := h x2_8 ex2_8
          refine lv_istore_n (lv' := [(2, .int x2_8), (0, .ref (G.2.1 + j0)), (1, .int x1), (3, .int x3)]) hx hb dX7_tended_31 rfl hl (by decide) rfl (fun ls hl => ?_)
          obtain ⟨x3_9, ex3_9⟩ : ∃ y : Int32, y = x3 + (1 : Int32) := ⟨_, rfl⟩
          replace h := h x3_9 ex3_9
          refine lv_iinc (v := x3_9) (lv' := [(3, .int x3_9), (2, .int x2_8), (0, .ref (G.2.1 + j0)), (1, .int x1)]) hx hb dX7_tended_32 hl (k := 3) rfl (by rw [ex3_9]; rfl) (by decide) rfl (fun ls hl => ?_)
          refine lv_goto (tgt := 4) hx hb dX7_tended_35 (by decide) ?_
          exact hA4 _ _ _ _ _ _ _ _ hP hS (lv_sub hl [2, 3, 1, 0] rfl) hk_j0 h
  unfold wX7_tended at h
  refine lv_iconst (v := (0 : Int32)) hx hb dX7_tended_0 k_iconst_0 ?_
  refine lv_istore_n (lv' := [(2, .int (0 : Int32)), (0, .ref (G.2.1 + j0a)), (1, .int x1a)]) hx hb dX7_tended_1 rfl hl (by decide) rfl (fun ls hl => ?_)
  refine lv_iconst (v := (1 : Int32)) hx hb dX7_tended_2 k_iconst_1 ?_
  refine lv_istore_n (lv' := [(3, .int (1 : Int32)), (2, .int (0 : Int32)), (0, .ref (G.2.1 + j0a)), (1, .int x1a)]) hx hb dX7_tended_3 rfl hl (by decide) rfl (fun ls hl => ?_)
  obtain ⟨n1, h⟩ := h
  exact B4 _ _ _ _ _ _ _ _ _ hP hS (lv_sub hl [2, 3, 1, 0] rfl) hk_j0a h
set_option maxHeartbeats 4000000 in
set_option maxRecDepth 100000 in
theorem mX7_tend (l : Launch) (G : Gp) (j0a : Nat) (x1a : Int32) (x2a : Int32) (M : Mm) (Post : Mm → Int32 → Prop) (hk_j0a : kd j0a = 7) (h : wX7_tend Post M j0a x1a x2a) : CtI l yX7_tend wsX7_tend rX7_tend G [.ref (G.2.1 + j0a), .int x1a, .int x2a] M Post := by
  refine Met.ofW (cc := cX7_tend) (maxL := 3) (ret := (some .int)) (by decide) rfl ?_
  intro p e s m args below meth c s₁ B hml hv
  obtain ⟨rfl, hK, hP⟩ := hv
  have hx := B.exec
  have hb := B.bytes
  have hr := B.returns
  have hlocks := B.notSynchronized
  have hts0 := atoms_spec (ws := wsX7_tend) B.pre
  have hts : ∀ w ∈ wsL_law, w.before _ s = true := fun w hw => hts0 w (List.mem_cons_of_mem _ hw)
  have hown : s.vm.findClass RX7 = some m.cls := findClass_of_methodNamed B.named
  have hS : va_S (Fr G) s.heap s.heap [] := va_S.rf
  have hl := lv_entry ([.ref (G.2.1 + j0a), .int x1a, .int x2a]) (n := 3) (Nat.le_of_ble_eq_true rfl)
  rw [lg_entry_eq]
  generalize (lg_sl ([.ref (G.2.1 + j0a), .int x1a, .int x2a]) ++ List.replicate (3 - (lg_sl ([.ref (G.2.1 + j0a), .int x1a, .int x2a])).length) Slot.unset).toArray = ls at hl ⊢
  have hl : lv_has ls 3 [(0, .ref (G.2.1 + j0a)), (1, .int x1a), (2, .int x2a)] := hl
  have B47 : ∀ (M : Mm) (j0 : Nat) (x1 : Int32) (x2 : Int32) (H : Heap) (locs : List Loc) (ls : Array Slot), Rp G M H → va_S (Fr G) s.heap H locs → lv_has ls 3 [(0, .ref (G.2.1 + j0)), (1, .int x1), (2, .int x2)] → kd j0 = 7 → bX7_tend_47 Post M j0 x1 x2 → Wi p l e (headSpec wsX7_tend rX7_tend).room s m [.ref (G.2.1 + j0a), .int x1a, .int x2a].toArray below meth c G Post H locs (F0 m 47 ls []) := by
    intro M j0 x1 x2 H locs ls hP hS hl hk_j0 h
    unfold bX7_tend_47 at h
    refine lv_aload_n hx hb dX7_tend_47 rfl (lv_at hl 0 rfl) ?_
    refine lv_iload_n hx hb dX7_tend_48 rfl (lv_at hl 1 rfl) ?_
    refine rc_Vi (As := [.int x1]) (rest := []) ⟨hx, hb, hml, hown, hts⟩ (mX7_tended l G j0 x1 M _ hk_j0 h) (cwV 1 hts (gV_X7_tended q_10_8) rfl rfl rfl hdV_X7_tended ⟨Nat.le_of_ble_eq_true rfl, Nat.le_of_ble_eq_true rfl⟩) hK hP hS hk_j0 (by decide) cl_7 rfl hl.1 rfl (Nat.le_of_ble_eq_true rfl) dX7_tend_49 ⟨Nat.zero_le _, Nat.zero_le _⟩ (fun r15 M14 H locs h hP hS => ?_)
    refine lv_iconst (v := (2 : Int32)) hx hb dX7_tend_52 k_iconst_2 ?_
    refine lv_icmp_ne (tgt := 59) hx hb dX7_tend_53 (by decide) (fun c16 => ?_) (fun c16 => ?_)
    · replace h := h.1 c16
      refine lv_aload_n hx hb dX7_tend_59 rfl (lv_at hl 0 rfl) ?_
      refine rc_Vv (As := []) (rest := []) ⟨hx, hb, hml, hown, hts⟩ (mX7_keeps l G j0 M14 _ hk_j0 h) (cwV 0 hts (gV_X7_keeps q_7_22) rfl rfl rfl hdV_X7_keeps ⟨Nat.le_of_ble_eq_true rfl, Nat.le_of_ble_eq_true rfl⟩) hK hP hS hk_j0 (by decide) cl_7 rfl hl.1 rfl (Nat.le_of_ble_eq_true rfl) dX7_tend_60 ⟨Nat.zero_le _, Nat.zero_le _⟩ (fun M17 H locs h hP hS => ?_)
      refine lv_aload_n hx hb dX7_tend_63 rfl (lv_at hl 0 rfl) ?_
      refine rk_getr hx hb hts inlX7 hown hK hP hk_j0 cl_7 0 1 fq_7_0 q_4_13 rfl dX7_tend_64 ?_
      refine lv_bipush (v := (10 : Int32)) hx hb dX7_tend_67 k_bipush_10 ?_
      refine lv_bipush (v := (9 : Int32)) hx hb dX7_tend_69 k_bipush_9 ?_
      refine lv_iload_n hx hb dX7_tend_71 rfl (lv_at hl 2 rfl) ?_
      refine lv_imul hx hb dX7_tend_72 ?_
      refine lv_iadd hx hb dX7_tend_73 ?_
      refine lv_iconst (v := (5 : Int32)) hx hb dX7_tend_74 k_iconst_5 ?_
      refine lv_iadd hx hb dX7_tend_75 ?_
      refine lv_iload_n hx hb dX7_tend_76 rfl (lv_at hl 1 rfl) ?_
      refine rk_iast hx hb hK hP hS (ky_7_0 hk_j0) ac_12 _ rfl h.1 dX7_tend_77 (fun M19 eM19 H locs hP hS => ?_)
      replace h := h.2
      replace h := h M19 eM19
      refine lv_aload_n hx hb dX7_tend_78 rfl (lv_at hl 0 rfl) ?_
      refine lv_aload_n hx hb dX7_tend_79 rfl (lv_at hl 0 rfl) ?_
      refine lv_iload_n hx hb dX7_tend_80 rfl (lv_at hl 1 rfl) ?_
      refine rc_Vi (As := [.int x1]) (rest := [.ref (G.2.1 + j0)]) ⟨hx, hb, hml, hown, hts⟩ (mX7_tended l G j0 x1 M19 _ hk_j0 h) (cwV 1 hts (gV_X7_tended q_10_8) rfl rfl rfl hdV_X7_tended ⟨Nat.le_of_ble_eq_true rfl, Nat.le_of_ble_eq_true rfl⟩) hK hP hS hk_j0 (by decide) cl_7 rfl hl.1 rfl (Nat.le_of_ble_eq_true rfl) dX7_tend_81 ⟨Nat.zero_le _, Nat.zero_le _⟩ (fun r21 M20 H locs h hP hS => ?_)
      refine rc_Vi (As := [.int r21]) (rest := []) ⟨hx, hb, hml, hown, hts⟩ (mX7_acted l G j0 r21 M20 _ hk_j0 h) (cwV 1 hts (gV_X7_acted q_8_2) rfl rfl rfl hdV_X7_acted ⟨Nat.le_of_ble_eq_true rfl, Nat.le_of_ble_eq_true rfl⟩) hK hP hS hk_j0 (by decide) cl_7 rfl hl.1 rfl (Nat.le_of_ble_eq_true rfl) dX7_tend_84 ⟨Nat.zero_le _, Nat.zero_le _⟩ (fun r23 M22 H locs h hP hS => ?_)
      exact re_i hx hb hr hlocks hP hS h dX7_tend_87
    · replace h := h.2 c16
      refine lv_ldc hx hb hown (hts _ q_7_14) dX7_tend_56 ?_
      exact re_i hx hb hr hlocks hP hS h dX7_tend_58
  unfold wX7_tend at h
  refine lv_iload_n hx hb dX7_tend_0 rfl (lv_at hl 1 rfl) ?_
  refine lv_iconst (v := (0 : Int32)) hx hb dX7_tend_1 k_iconst_0 ?_
  refine lv_iconst (v := (2 : Int32)) hx hb dX7_tend_2 k_iconst_2 ?_
  refine rc_Si (As := [.int x1a, .int (0 : Int32), .int (2 : Int32)]) (rest := []) ⟨hx, hb, hml, hown, hts⟩ (mX7_in l G x1a (0 : Int32) (2 : Int32) M _ h) (va_cwS 3 hts (gS_X7_in q_7_19) rfl rfl rfl hdS_X7_in ⟨Nat.le_of_ble_eq_true rfl, Nat.le_of_ble_eq_true rfl⟩) hK hP hS rfl hl.1 rfl (Nat.le_of_ble_eq_true rfl) dX7_tend_3 ⟨Nat.zero_le _, Nat.zero_le _⟩ (fun r2 M1 H locs h hP hS => ?_)
  refine lv_if_eq (tgt := 17) hx hb dX7_tend_6 (by decide) (fun c3 => ?_) (fun c3 => ?_)
  · replace h := h.1 c3
    refine lv_ldc hx hb hown (hts _ q_7_13) dX7_tend_17 ?_
    exact re_i hx hb hr hlocks hP hS h dX7_tend_19
  · replace h := h.2 c3
    refine lv_aload_n hx hb dX7_tend_9 rfl (lv_at hl 0 rfl) ?_
    refine lv_iload_n hx hb dX7_tend_10 rfl (lv_at hl 2 rfl) ?_
    refine rc_Vi (As := [.int x2a]) (rest := []) ⟨hx, hb, hml, hown, hts⟩ (mX7_isGate l G j0a x2a M1 _ hk_j0a h) (cwV 1 hts (gV_X7_isGate q_10_0) rfl rfl rfl hdV_X7_isGate ⟨Nat.le_of_ble_eq_true rfl, Nat.le_of_ble_eq_true rfl⟩) hK hP hS hk_j0a (by decide) cl_7 rfl hl.1 rfl (Nat.le_of_ble_eq_true rfl) dX7_tend_11 ⟨Nat.zero_le _, Nat.zero_le _⟩ (fun r5 M4 H locs h hP hS => ?_)
    refine lv_if_ne (tgt := 20) hx hb dX7_tend_14 (by decide) (fun c6 => ?_) (fun c6 => ?_)
    · replace h := h.1 c6
      refine lv_aload_n hx hb dX7_tend_20 rfl (lv_at hl 0 rfl) ?_
      refine lv_iload_n hx hb dX7_tend_21 rfl (lv_at hl 2 rfl) ?_
      refine lv_iconst (v := (5 : Int32)) hx hb dX7_tend_22 k_iconst_5 ?_
      refine rc_Vi (As := [.int x2a, .int (5 : Int32)]) (rest := []) ⟨hx, hb, hml, hown, hts⟩ (mX7_ca l G j0a x2a (5 : Int32) M4 _ hk_j0a h) (cwV 2 hts (gV_X7_ca q_10_4) rfl rfl rfl hdV_X7_ca ⟨Nat.le_of_ble_eq_true rfl, Nat.le_of_ble_eq_true rfl⟩) hK hP hS hk_j0a (by decide) cl_7 rfl hl.1 rfl (Nat.le_of_ble_eq_true rfl) dX7_tend_23 ⟨Nat.zero_le _, Nat.zero_le _⟩ (fun r8 M7 H locs h hP hS => ?_)
      refine lv_if_ge (tgt := 44) hx hb dX7_tend_26 (by decide) (fun c9 => ?_) (fun c9 => ?_)
      · replace h := h.1 c9
        refine lv_ldc hx hb hown (hts _ q_9_23) dX7_tend_44 ?_
        exact re_i hx hb hr hlocks hP hS h dX7_tend_46
      · replace h := h.2 c9
        refine lv_iload_n hx hb dX7_tend_29 rfl (lv_at hl 1 rfl) ?_
        refine lv_iconst (v := (2 : Int32)) hx hb dX7_tend_30 k_iconst_2 ?_
        refine lv_icmp_ge (tgt := 47) hx hb dX7_tend_31 (by decide) (fun c10 => ?_) (fun c10 => ?_)
        · replace h := h.1 c10
          exact B47 _ _ _ _ _ _ _ hP hS (lv_sub hl [0, 1, 2] rfl) hk_j0a h
        · replace h := h.2 c10
          refine lv_aload_n hx hb dX7_tend_34 rfl (lv_at hl 0 rfl) ?_
          refine lv_iload_n hx hb dX7_tend_35 rfl (lv_at hl 2 rfl) ?_
          refine lv_iconst (v := (1 : Int32)) hx hb dX7_tend_36 k_iconst_1 ?_
          refine rc_Vi (As := [.int x2a, .int (1 : Int32)]) (rest := []) ⟨hx, hb, hml, hown, hts⟩ (mX7_ca l G j0a x2a (1 : Int32) M7 _ hk_j0a h) (cwV 2 hts (gV_X7_ca q_10_4) rfl rfl rfl hdV_X7_ca ⟨Nat.le_of_ble_eq_true rfl, Nat.le_of_ble_eq_true rfl⟩) hK hP hS hk_j0a (by decide) cl_7 rfl hl.1 rfl (Nat.le_of_ble_eq_true rfl) dX7_tend_37 ⟨Nat.zero_le _, Nat.zero_le _⟩ (fun r12 M11 H locs h hP hS => ?_)
          refine lv_iload_n hx hb dX7_tend_40 rfl (lv_at hl 1 rfl) ?_
          refine lv_icmp_eq (tgt := 47) hx hb dX7_tend_41 (by decide) (fun c13 => ?_) (fun c13 => ?_)
          · replace h := h.1 c13
            exact B47 _ _ _ _ _ _ _ hP hS (lv_sub hl [0, 1, 2] rfl) hk_j0a h
          · replace h := h.2 c13
            refine lv_ldc hx hb hown (hts _ q_9_23) dX7_tend_44 ?_
            exact re_i hx hb hr hlocks hP hS h dX7_tend_46
    · replace h := h.2 c6
      refine lv_ldc hx hb hown (hts _ q_7_13) dX7_tend_17 ?_
      exact re_i hx hb hr hlocks hP hS h dX7_tend_19
set_option maxHeartbeats 4000000 in
set_option maxRecDepth 100000 in
theorem mX7_leave (l : Launch) (G : Gp) (j0a : Nat) (x1a : Int32) (M : Mm) (Post : Mm → Int32 → Prop) (hk_j0a : kd j0a = 7) (h : wX7_leave Post M j0a x1a) : CtI l yX7_leave wsX7_leave rX7_leave G [.ref (G.2.1 + j0a), .int x1a] M Post := by
  refine Met.ofW (cc := cX7_leave) (maxL := 3) (ret := (some .int)) (by decide) rfl ?_
  intro p e s m args below meth c s₁ B hml hv
  obtain ⟨rfl, hK, hP⟩ := hv
  have hx := B.exec
  have hb := B.bytes
  have hr := B.returns
  have hlocks := B.notSynchronized
  have hts0 := atoms_spec (ws := wsX7_leave) B.pre
  have hts : ∀ w ∈ wsL_law, w.before _ s = true := fun w hw => hts0 w (List.mem_cons_of_mem _ hw)
  have hown : s.vm.findClass RX7 = some m.cls := findClass_of_methodNamed B.named
  have hS : va_S (Fr G) s.heap s.heap [] := va_S.rf
  have hl := lv_entry ([.ref (G.2.1 + j0a), .int x1a]) (n := 3) (Nat.le_of_ble_eq_true rfl)
  rw [lg_entry_eq]
  generalize (lg_sl ([.ref (G.2.1 + j0a), .int x1a]) ++ List.replicate (3 - (lg_sl ([.ref (G.2.1 + j0a), .int x1a])).length) Slot.unset).toArray = ls at hl ⊢
  have hl : lv_has ls 3 [(0, .ref (G.2.1 + j0a)), (1, .int x1a)] := hl
  unfold wX7_leave at h
  refine lv_aload_n hx hb dX7_leave_0 rfl (lv_at hl 0 rfl) ?_
  refine lv_iload_n hx hb dX7_leave_1 rfl (lv_at hl 1 rfl) ?_
  refine rc_Vi (As := [.int x1a]) (rest := []) ⟨hx, hb, hml, hown, hts⟩ (mX7_isGate l G j0a x1a M _ hk_j0a h) (cwV 1 hts (gV_X7_isGate q_10_0) rfl rfl rfl hdV_X7_isGate ⟨Nat.le_of_ble_eq_true rfl, Nat.le_of_ble_eq_true rfl⟩) hK hP hS hk_j0a (by decide) cl_7 rfl hl.1 rfl (Nat.le_of_ble_eq_true rfl) dX7_leave_2 ⟨Nat.zero_le _, Nat.zero_le _⟩ (fun r2 M1 H locs h hP hS => ?_)
  refine lv_if_ne (tgt := 11) hx hb dX7_leave_5 (by decide) (fun c3 => ?_) (fun c3 => ?_)
  · replace h := h.1 c3
    refine lv_aload_n hx hb dX7_leave_11 rfl (lv_at hl 0 rfl) ?_
    refine lv_iload_n hx hb dX7_leave_12 rfl (lv_at hl 1 rfl) ?_
    refine lv_iconst (v := (5 : Int32)) hx hb dX7_leave_13 k_iconst_5 ?_
    refine rc_Vi (As := [.int x1a, .int (5 : Int32)]) (rest := []) ⟨hx, hb, hml, hown, hts⟩ (mX7_ca l G j0a x1a (5 : Int32) M1 _ hk_j0a h) (cwV 2 hts (gV_X7_ca q_10_4) rfl rfl rfl hdV_X7_ca ⟨Nat.le_of_ble_eq_true rfl, Nat.le_of_ble_eq_true rfl⟩) hK hP hS hk_j0a (by decide) cl_7 rfl hl.1 rfl (Nat.le_of_ble_eq_true rfl) dX7_leave_14 ⟨Nat.zero_le _, Nat.zero_le _⟩ (fun r5 M4 H locs h hP hS => ?_)
    refine lv_istore_n (lv' := [(2, .int r5), (0, .ref (G.2.1 + j0a)), (1, .int x1a)]) hx hb dX7_leave_17 rfl hl (by decide) rfl (fun ls hl => ?_)
    refine lv_iload_n hx hb dX7_leave_18 rfl (lv_at hl 0 rfl) ?_
    refine lv_if_ge (tgt := 25) hx hb dX7_leave_19 (by decide) (fun c6 => ?_) (fun c6 => ?_)
    · replace h := h.1 c6
      refine lv_aload_n hx hb dX7_leave_25 rfl (lv_at hl 1 rfl) ?_
      refine rc_Vv (As := []) (rest := []) ⟨hx, hb, hml, hown, hts⟩ (mX7_keeps l G j0a M4 _ hk_j0a h) (cwV 0 hts (gV_X7_keeps q_7_22) rfl rfl rfl hdV_X7_keeps ⟨Nat.le_of_ble_eq_true rfl, Nat.le_of_ble_eq_true rfl⟩) hK hP hS hk_j0a (by decide) cl_7 rfl hl.1 rfl (Nat.le_of_ble_eq_true rfl) dX7_leave_26 ⟨Nat.zero_le _, Nat.zero_le _⟩ (fun M7 H locs h hP hS => ?_)
      refine lv_aload_n hx hb dX7_leave_29 rfl (lv_at hl 1 rfl) ?_
      refine rk_getr hx hb hts inlX7 hown hK hP hk_j0a cl_7 0 1 fq_7_0 q_4_13 rfl dX7_leave_30 ?_
      refine lv_bipush (v := (10 : Int32)) hx hb dX7_leave_33 k_bipush_10 ?_
      refine lv_bipush (v := (9 : Int32)) hx hb dX7_leave_35 k_bipush_9 ?_
      refine lv_iload_n hx hb dX7_leave_37 rfl (lv_at hl 2 rfl) ?_
      refine lv_imul hx hb dX7_leave_38 ?_
      refine lv_iadd hx hb dX7_leave_39 ?_
      refine lv_iconst (v := (5 : Int32)) hx hb dX7_leave_40 k_iconst_5 ?_
      refine lv_iadd hx hb dX7_leave_41 ?_
      refine lv_iconst (v := (-1 : Int32)) hx hb dX7_leave_42 k_iconst_m1 ?_
      refine rk_iast hx hb hK hP hS (ky_7_0 hk_j0a) ac_12 _ rfl h.1 dX7_leave_43 (fun M9 eM9 H locs hP hS => ?_)
      replace h := h.2
      replace h := h M9 eM9
      refine lv_aload_n hx hb dX7_leave_44 rfl (lv_at hl 1 rfl) ?_
      refine lv_iload_n hx hb dX7_leave_45 rfl (lv_at hl 0 rfl) ?_
      refine rc_Vi (As := [.int r5]) (rest := []) ⟨hx, hb, hml, hown, hts⟩ (mX7_acted l G j0a r5 M9 _ hk_j0a h) (cwV 1 hts (gV_X7_acted q_8_2) rfl rfl rfl hdV_X7_acted ⟨Nat.le_of_ble_eq_true rfl, Nat.le_of_ble_eq_true rfl⟩) hK hP hS hk_j0a (by decide) cl_7 rfl hl.1 rfl (Nat.le_of_ble_eq_true rfl) dX7_leave_46 ⟨Nat.zero_le _, Nat.zero_le _⟩ (fun r11 M10 H locs h hP hS => ?_)
      exact re_i hx hb hr hlocks hP hS h dX7_leave_49
    · replace h := h.2 c6
      refine lv_ldc hx hb hown (hts _ q_9_23) dX7_leave_22 ?_
      exact re_i hx hb hr hlocks hP hS h dX7_leave_24
  · replace h := h.2 c3
    refine lv_ldc hx hb hown (hts _ q_7_13) dX7_leave_8 ?_
    exact re_i hx hb hr hlocks hP hS h dX7_leave_10
set_option maxHeartbeats 4000000 in
set_option maxRecDepth 100000 in
theorem mX7_openOnes (l : Launch) (G : Gp) (j0a : Nat) (M : Mm) (Post : Mm → Int32 → Prop) (hk_j0a : kd j0a = 7) (h : wX7_openOnes Post M j0a) : CtI l yX7_openOnes wsX7_openOnes rX7_openOnes G [.ref (G.2.1 + j0a)] M Post := by
  refine Met.ofW (cc := cX7_openOnes) (maxL := 3) (ret := (some .int)) (by decide) rfl ?_
  intro p e s m args below meth c s₁ B hml hv
  obtain ⟨rfl, hK, hP⟩ := hv
  have hx := B.exec
  have hb := B.bytes
  have hr := B.returns
  have hlocks := B.notSynchronized
  have hts0 := atoms_spec (ws := wsX7_openOnes) B.pre
  have hts : ∀ w ∈ wsL_law, w.before _ s = true := fun w hw => hts0 w (List.mem_cons_of_mem _ hw)
  have hown : s.vm.findClass RX7 = some m.cls := findClass_of_methodNamed B.named
  have hS : va_S (Fr G) s.heap s.heap [] := va_S.rf
  have hl := lv_entry ([.ref (G.2.1 + j0a)]) (n := 3) (Nat.le_of_ble_eq_true rfl)
  rw [lg_entry_eq]
  generalize (lg_sl ([.ref (G.2.1 + j0a)]) ++ List.replicate (3 - (lg_sl ([.ref (G.2.1 + j0a)])).length) Slot.unset).toArray = ls at hl ⊢
  have hl : lv_has ls 3 [(0, .ref (G.2.1 + j0a))] := hl
  have B4 : ∀ n : Nat, ∀ (M : Mm) (j0 : Nat) (x1 : Int32) (x2 : Int32) (H : Heap) (locs : List Loc) (ls : Array Slot), Rp G M H → va_S (Fr G) s.heap H locs → lv_has ls 3 [(0, .ref (G.2.1 + j0)), (1, .int x1), (2, .int x2)] → kd j0 = 7 → lX7_openOnes_4 Post n M j0 x1 x2 → Wi p l e (headSpec wsX7_openOnes rX7_openOnes).room s m [.ref (G.2.1 + j0a)].toArray below meth c G Post H locs (F0 m 4 ls []) := by
    intro n
    induction n with
    | zero => intro M j0 x1 x2 H locs ls hP hS hl hk_j0 h; exact h.elim
    | succ n ih =>
      intro M j0 x1 x2 H locs ls hP hS hl hk_j0 h
      have hA4 := ih
      replace h : bX7_openOnes_4 Post (lX7_openOnes_4 Post n) M j0 x1 x2 := h
      unfold bX7_openOnes_4 at h
      refine lv_iload_n hx hb dX7_openOnes_4 rfl (lv_at hl 2 rfl) ?_
      refine lv_aload_n hx hb dX7_openOnes_5 rfl (lv_at hl 0 rfl) ?_
      refine rk_getr hx hb hts inlX7 hown hK hP hk_j0 cl_7 0 1 fq_7_0 q_4_13 rfl dX7_openOnes_6 ?_
      refine lv_iconst (v := (0 : Int32)) hx hb dX7_openOnes_9 k_iconst_0 ?_
      refine rk_iald hx hb hK hP (ky_7_0 hk_j0) ac_12 0 ix_0 vi_0_168 dX7_openOnes_10 ?_
      refine lv_icmp_ge (tgt := 31) hx hb dX7_openOnes_11 (by decide) (fun c2 => ?_) (fun c2 => ?_)
      · replace h := h.1 c2
        refine lv_iload_n hx hb dX7_openOnes_31 rfl (lv_at hl 1 rfl) ?_
        exact re_i hx hb hr hlocks hP hS h dX7_openOnes_32
      · replace h := h.2 c2
        refine lv_iload_n hx hb dX7_openOnes_14 rfl (lv_at hl 1 rfl) ?_
        refine lv_aload_n hx hb dX7_openOnes_15 rfl (lv_at hl 0 rfl) ?_
        refine lv_iload_n hx hb dX7_openOnes_16 rfl (lv_at hl 2 rfl) ?_
        refine lv_iconst (v := (4 : Int32)) hx hb dX7_openOnes_17 k_iconst_4 ?_
        refine rc_Vi (As := [.int x2, .int (4 : Int32)]) (rest := [.int x1]) ⟨hx, hb, hml, hown, hts⟩ (mX7_ca l G j0 x2 (4 : Int32) M _ hk_j0 h) (cwV 2 hts (gV_X7_ca q_10_4) rfl rfl rfl hdV_X7_ca ⟨Nat.le_of_ble_eq_true rfl, Nat.le_of_ble_eq_true rfl⟩) hK hP hS hk_j0 (by decide) cl_7 rfl hl.1 rfl (Nat.le_of_ble_eq_true rfl) dX7_openOnes_18 ⟨Nat.zero_le _, Nat.zero_le _⟩ (fun r4 M3 H locs h hP hS => ?_)
        refine lv_iload_n hx hb dX7_openOnes_21 rfl (lv_at hl 2 rfl) ?_
        refine lv_ishl hx hb dX7_openOnes_22 ?_
        refine lv_ior hx hb dX7_openOnes_23 ?_
        refine lv_topi (fun x1_5 ex1_5 => ?_)
        replace h := h x1_5 ex1_5
        refine lv_istore_n (lv' := [(1, .int x1_5), (0, .ref (G.2.1 + j0)), (2, .int x2)]) hx hb dX7_openOnes_24 rfl hl (by decide) rfl (fun ls hl => ?_)
        obtain ⟨x2_6, ex2_6⟩ : ∃ y : Int32, y = x2 + (1 : Int32) := ⟨_, rfl⟩
        replace h := h x2_6 ex2_6
        refine lv_iinc (v := x2_6) (lv' := [(2, .int x2_6), (1, .int x1_5), (0, .ref (G.2.1 + j0))]) hx hb dX7_openOnes_25 hl (k := 2) rfl (by rw [ex2_6]; rfl) (by decide) rfl (fun ls hl => ?_)
        refine lv_goto (tgt := 4) hx hb dX7_openOnes_28 (by decide) ?_
        exact hA4 _ _ _ _ _ _ _ hP hS (lv_sub hl [2, 1, 0] rfl) hk_j0 h
  unfold wX7_openOnes at h
  refine lv_iconst (v := (0 : Int32)) hx hb dX7_openOnes_0 k_iconst_0 ?_
  refine lv_istore_n (lv' := [(1, .int (0 : Int32)), (0, .ref (G.2.1 + j0a))]) hx hb dX7_openOnes_1 rfl hl (by decide) rfl (fun ls hl => ?_)
  refine lv_iconst (v := (1 : Int32)) hx hb dX7_openOnes_2 k_iconst_1 ?_
  refine lv_istore_n (lv' := [(2, .int (1 : Int32)), (1, .int (0 : Int32)), (0, .ref (G.2.1 + j0a))]) hx hb dX7_openOnes_3 rfl hl (by decide) rfl (fun ls hl => ?_)
  obtain ⟨n1, h⟩ := h
  exact B4 _ _ _ _ _ _ _ _ hP hS (lv_sub hl [2, 1, 0] rfl) hk_j0a h
set_option maxHeartbeats 4000000 in
set_option maxRecDepth 100000 in
theorem mX7_sets (l : Launch) (G : Gp) (j0a : Nat) (x1a : Int32) (M : Mm) (Post : Mm → Prop) (hk_j0a : kd j0a = 7) (h : wX7_sets Post M j0a x1a) : CtV l yX7_sets wsX7_sets rX7_sets G [.ref (G.2.1 + j0a), .int x1a] M Post := by
  refine Met.ofW (cc := cX7_sets) (maxL := 3) (ret := none) (by decide) rfl ?_
  intro p e s m args below meth c s₁ B hml hv
  obtain ⟨rfl, hK, hP⟩ := hv
  have hx := B.exec
  have hb := B.bytes
  have hr := B.returns
  have hlocks := B.notSynchronized
  have hts0 := atoms_spec (ws := wsX7_sets) B.pre
  have hts : ∀ w ∈ wsL_law, w.before _ s = true := fun w hw => hts0 w (List.mem_cons_of_mem _ hw)
  have hown : s.vm.findClass RX7 = some m.cls := findClass_of_methodNamed B.named
  have hS : va_S (Fr G) s.heap s.heap [] := va_S.rf
  have hl := lv_entry ([.ref (G.2.1 + j0a), .int x1a]) (n := 3) (Nat.le_of_ble_eq_true rfl)
  rw [lg_entry_eq]
  generalize (lg_sl ([.ref (G.2.1 + j0a), .int x1a]) ++ List.replicate (3 - (lg_sl ([.ref (G.2.1 + j0a), .int x1a])).length) Slot.unset).toArray = ls at hl ⊢
  have hl : lv_has ls 3 [(0, .ref (G.2.1 + j0a)), (1, .int x1a)] := hl
  have B2 : ∀ n : Nat, ∀ (M : Mm) (j0 : Nat) (x1 : Int32) (x2 : Int32) (H : Heap) (locs : List Loc) (ls : Array Slot), Rp G M H → va_S (Fr G) s.heap H locs → lv_has ls 3 [(0, .ref (G.2.1 + j0)), (1, .int x1), (2, .int x2)] → kd j0 = 7 → lX7_sets_2 Post n M j0 x1 x2 → Wv p l e (headSpec wsX7_sets rX7_sets).room s m [.ref (G.2.1 + j0a), .int x1a].toArray below meth c G Post H locs (F0 m 2 ls []) := by
    intro n
    induction n with
    | zero => intro M j0 x1 x2 H locs ls hP hS hl hk_j0 h; exact h.elim
    | succ n ih =>
      intro M j0 x1 x2 H locs ls hP hS hl hk_j0 h
      have hA2 := ih
      replace h : bX7_sets_2 Post (lX7_sets_2 Post n) M j0 x1 x2 := h
      unfold bX7_sets_2 at h
      refine lv_iload_n hx hb dX7_sets_2 rfl (lv_at hl 2 rfl) ?_
      refine lv_aload_n hx hb dX7_sets_3 rfl (lv_at hl 0 rfl) ?_
      refine rk_getr hx hb hts inlX7 hown hK hP hk_j0 cl_7 0 1 fq_7_0 q_4_13 rfl dX7_sets_4 ?_
      refine lv_iconst (v := (0 : Int32)) hx hb dX7_sets_7 k_iconst_0 ?_
      refine rk_iald hx hb hK hP (ky_7_0 hk_j0) ac_12 0 ix_0 vi_0_168 dX7_sets_8 ?_
      refine lv_icmp_ge (tgt := 37) hx hb dX7_sets_9 (by decide) (fun c2 => ?_) (fun c2 => ?_)
      · replace h := h.1 c2
        exact re_v hx hb hr hlocks hP hS h dX7_sets_37
      · replace h := h.2 c2
        refine lv_aload_n hx hb dX7_sets_12 rfl (lv_at hl 0 rfl) ?_
        refine rk_getr hx hb hts inlX7 hown hK hP hk_j0 cl_7 0 1 fq_7_0 q_4_13 rfl dX7_sets_13 ?_
        refine lv_bipush (v := (10 : Int32)) hx hb dX7_sets_16 k_bipush_10 ?_
        refine lv_bipush (v := (9 : Int32)) hx hb dX7_sets_18 k_bipush_9 ?_
        refine lv_iload_n hx hb dX7_sets_20 rfl (lv_at hl 2 rfl) ?_
        refine lv_imul hx hb dX7_sets_21 ?_
        refine lv_iadd hx hb dX7_sets_22 ?_
        refine lv_iconst (v := (4 : Int32)) hx hb dX7_sets_23 k_iconst_4 ?_
        refine lv_iadd hx hb dX7_sets_24 ?_
        refine lv_iload_n hx hb dX7_sets_25 rfl (lv_at hl 1 rfl) ?_
        refine lv_iload_n hx hb dX7_sets_26 rfl (lv_at hl 2 rfl) ?_
        refine lv_ishr hx hb dX7_sets_27 ?_
        refine lv_iconst (v := (1 : Int32)) hx hb dX7_sets_28 k_iconst_1 ?_
        refine lv_iand hx hb dX7_sets_29 ?_
        refine rk_iast hx hb hK hP hS (ky_7_0 hk_j0) ac_12 _ rfl h.1 dX7_sets_30 (fun M3 eM3 H locs hP hS => ?_)
        replace h := h.2
        replace h := h M3 eM3
        obtain ⟨x2_4, ex2_4⟩ : ∃ y : Int32, y = x2 + (1 : Int32) := ⟨_, rfl⟩
        replace h := h x2_4 ex2_4
        refine lv_iinc (v := x2_4) (lv' := [(2, .int x2_4), (0, .ref (G.2.1 + j0)), (1, .int x1)]) hx hb dX7_sets_31 hl (k := 2) rfl (by rw [ex2_4]; rfl) (by decide) rfl (fun ls hl => ?_)
        refine lv_goto (tgt := 2) hx hb dX7_sets_34 (by decide) ?_
        exact hA2 _ _ _ _ _ _ _ hP hS (lv_sub hl [1, 2, 0] rfl) hk_j0 h
  unfold wX7_sets at h
  refine lv_iconst (v := (1 : Int32)) hx hb dX7_sets_0 k_iconst_1 ?_
  refine lv_istore_n (lv' := [(2, .int (1 : Int32)), (0, .ref (G.2.1 + j0a)), (1, .int x1a)]) hx hb dX7_sets_1 rfl hl (by decide) rfl (fun ls hl => ?_)
  obtain ⟨n1, h⟩ := h
  exact B2 _ _ _ _ _ _ _ _ hP hS (lv_sub hl [1, 2, 0] rfl) hk_j0a h
set_option maxHeartbeats 4000000 in
set_option maxRecDepth 100000 in
theorem mX7_moves (l : Launch) (G : Gp) (j0a : Nat) (x1a : Int32) (x2a : Int32) (M : Mm) (Post : Mm → Int32 → Prop) (hk_j0a : kd j0a = 7) (h : wX7_moves Post M j0a x1a x2a) : CtI l yX7_moves wsX7_moves rX7_moves G [.ref (G.2.1 + j0a), .int x1a, .int x2a] M Post := by
  refine Met.ofW (cc := cX7_moves) (maxL := 3) (ret := (some .int)) (by decide) rfl ?_
  intro p e s m args below meth c s₁ B hml hv
  obtain ⟨rfl, hK, hP⟩ := hv
  have hx := B.exec
  have hb := B.bytes
  have hr := B.returns
  have hlocks := B.notSynchronized
  have hts0 := atoms_spec (ws := wsX7_moves) B.pre
  have hts : ∀ w ∈ wsL_law, w.before _ s = true := fun w hw => hts0 w (List.mem_cons_of_mem _ hw)
  have hown : s.vm.findClass RX7 = some m.cls := findClass_of_methodNamed B.named
  have hS : va_S (Fr G) s.heap s.heap [] := va_S.rf
  have hl := lv_entry ([.ref (G.2.1 + j0a), .int x1a, .int x2a]) (n := 3) (Nat.le_of_ble_eq_true rfl)
  rw [lg_entry_eq]
  generalize (lg_sl ([.ref (G.2.1 + j0a), .int x1a, .int x2a]) ++ List.replicate (3 - (lg_sl ([.ref (G.2.1 + j0a), .int x1a, .int x2a])).length) Slot.unset).toArray = ls at hl ⊢
  have hl : lv_has ls 3 [(0, .ref (G.2.1 + j0a)), (1, .int x1a), (2, .int x2a)] := hl
  unfold wX7_moves at h
  refine lv_aload_n hx hb dX7_moves_0 rfl (lv_at hl 0 rfl) ?_
  refine lv_iload_n hx hb dX7_moves_1 rfl (lv_at hl 1 rfl) ?_
  refine rc_Vi (As := [.int x1a]) (rest := []) ⟨hx, hb, hml, hown, hts⟩ (mX7_isGate l G j0a x1a M _ hk_j0a h) (cwV 1 hts (gV_X7_isGate q_10_0) rfl rfl rfl hdV_X7_isGate ⟨Nat.le_of_ble_eq_true rfl, Nat.le_of_ble_eq_true rfl⟩) hK hP hS hk_j0a (by decide) cl_7 rfl hl.1 rfl (Nat.le_of_ble_eq_true rfl) dX7_moves_2 ⟨Nat.zero_le _, Nat.zero_le _⟩ (fun r2 M1 H locs h hP hS => ?_)
  refine lv_if_ne (tgt := 11) hx hb dX7_moves_5 (by decide) (fun c3 => ?_) (fun c3 => ?_)
  · replace h := h.1 c3
    refine lv_aload_n hx hb dX7_moves_11 rfl (lv_at hl 0 rfl) ?_
    refine lv_iload_n hx hb dX7_moves_12 rfl (lv_at hl 1 rfl) ?_
    refine lv_iconst (v := (4 : Int32)) hx hb dX7_moves_13 k_iconst_4 ?_
    refine rc_Vi (As := [.int x1a, .int (4 : Int32)]) (rest := []) ⟨hx, hb, hml, hown, hts⟩ (mX7_ca l G j0a x1a (4 : Int32) M1 _ hk_j0a h) (cwV 2 hts (gV_X7_ca q_10_4) rfl rfl rfl hdV_X7_ca ⟨Nat.le_of_ble_eq_true rfl, Nat.le_of_ble_eq_true rfl⟩) hK hP hS hk_j0a (by decide) cl_7 rfl hl.1 rfl (Nat.le_of_ble_eq_true rfl) dX7_moves_14 ⟨Nat.zero_le _, Nat.zero_le _⟩ (fun r5 M4 H locs h hP hS => ?_)
    refine lv_iload_n hx hb dX7_moves_17 rfl (lv_at hl 2 rfl) ?_
    refine lv_icmp_eq (tgt := 30) hx hb dX7_moves_18 (by decide) (fun c6 => ?_) (fun c6 => ?_)
    · replace h := h.1 c6
      refine lv_ldc hx hb hown (hts _ q_9_23) dX7_moves_30 ?_
      exact re_i hx hb hr hlocks hP hS h dX7_moves_32
    · replace h := h.2 c6
      refine lv_aload_n hx hb dX7_moves_21 rfl (lv_at hl 0 rfl) ?_
      refine lv_iload_n hx hb dX7_moves_22 rfl (lv_at hl 1 rfl) ?_
      refine lv_iconst (v := (5 : Int32)) hx hb dX7_moves_23 k_iconst_5 ?_
      refine rc_Vi (As := [.int x1a, .int (5 : Int32)]) (rest := []) ⟨hx, hb, hml, hown, hts⟩ (mX7_ca l G j0a x1a (5 : Int32) M4 _ hk_j0a h) (cwV 2 hts (gV_X7_ca q_10_4) rfl rfl rfl hdV_X7_ca ⟨Nat.le_of_ble_eq_true rfl, Nat.le_of_ble_eq_true rfl⟩) hK hP hS hk_j0a (by decide) cl_7 rfl hl.1 rfl (Nat.le_of_ble_eq_true rfl) dX7_moves_24 ⟨Nat.zero_le _, Nat.zero_le _⟩ (fun r8 M7 H locs h hP hS => ?_)
      refine lv_if_ge (tgt := 33) hx hb dX7_moves_27 (by decide) (fun c9 => ?_) (fun c9 => ?_)
      · replace h := h.1 c9
        refine lv_aload_n hx hb dX7_moves_33 rfl (lv_at hl 0 rfl) ?_
        refine rk_getr hx hb hts inlX7 hown hK hP hk_j0a cl_7 0 1 fq_7_0 q_4_13 rfl dX7_moves_34 ?_
        refine lv_bipush (v := (10 : Int32)) hx hb dX7_moves_37 k_bipush_10 ?_
        refine lv_bipush (v := (9 : Int32)) hx hb dX7_moves_39 k_bipush_9 ?_
        refine lv_iload_n hx hb dX7_moves_41 rfl (lv_at hl 1 rfl) ?_
        refine lv_imul hx hb dX7_moves_42 ?_
        refine lv_iadd hx hb dX7_moves_43 ?_
        refine lv_iconst (v := (4 : Int32)) hx hb dX7_moves_44 k_iconst_4 ?_
        refine lv_iadd hx hb dX7_moves_45 ?_
        refine lv_iload_n hx hb dX7_moves_46 rfl (lv_at hl 2 rfl) ?_
        refine rk_iast hx hb hK hP hS (ky_7_0 hk_j0a) ac_12 _ rfl h.1 dX7_moves_47 (fun M10 eM10 H locs hP hS => ?_)
        replace h := h.2
        replace h := h M10 eM10
        refine lv_aload_n hx hb dX7_moves_48 rfl (lv_at hl 0 rfl) ?_
        refine rc_Vi (As := []) (rest := []) ⟨hx, hb, hml, hown, hts⟩ (mX7_openOnes l G j0a M10 _ hk_j0a h) (cwV 0 hts (gV_X7_openOnes q_11_21) rfl rfl rfl hdV_X7_openOnes ⟨Nat.le_of_ble_eq_true rfl, Nat.le_of_ble_eq_true rfl⟩) hK hP hS hk_j0a (by decide) cl_7 rfl hl.1 rfl (Nat.le_of_ble_eq_true rfl) dX7_moves_49 ⟨Nat.zero_le _, Nat.zero_le _⟩ (fun r12 M11 H locs h hP hS => ?_)
        exact re_i hx hb hr hlocks hP hS h dX7_moves_52
      · replace h := h.2 c9
        refine lv_ldc hx hb hown (hts _ q_9_23) dX7_moves_30 ?_
        exact re_i hx hb hr hlocks hP hS h dX7_moves_32
  · replace h := h.2 c3
    refine lv_ldc hx hb hown (hts _ q_7_13) dX7_moves_8 ?_
    exact re_i hx hb hr hlocks hP hS h dX7_moves_10
set_option maxHeartbeats 4000000 in
set_option maxRecDepth 100000 in
theorem mX7_open (l : Launch) (G : Gp) (j0a : Nat) (x1a : Int32) (M : Mm) (Post : Mm → Int32 → Prop) (hk_j0a : kd j0a = 7) (h : wX7_open Post M j0a x1a) : CtI l yX7_open wsX7_open rX7_open G [.ref (G.2.1 + j0a), .int x1a] M Post := by
  refine Met.ofW (cc := cX7_open) (maxL := 2) (ret := (some .int)) (by decide) rfl ?_
  intro p e s m args below meth c s₁ B hml hv
  obtain ⟨rfl, hK, hP⟩ := hv
  have hx := B.exec
  have hb := B.bytes
  have hr := B.returns
  have hlocks := B.notSynchronized
  have hts0 := atoms_spec (ws := wsX7_open) B.pre
  have hts : ∀ w ∈ wsL_law, w.before _ s = true := fun w hw => hts0 w (List.mem_cons_of_mem _ hw)
  have hown : s.vm.findClass RX7 = some m.cls := findClass_of_methodNamed B.named
  have hS : va_S (Fr G) s.heap s.heap [] := va_S.rf
  have hl := lv_entry ([.ref (G.2.1 + j0a), .int x1a]) (n := 2) (Nat.le_of_ble_eq_true rfl)
  rw [lg_entry_eq]
  generalize (lg_sl ([.ref (G.2.1 + j0a), .int x1a]) ++ List.replicate (2 - (lg_sl ([.ref (G.2.1 + j0a), .int x1a])).length) Slot.unset).toArray = ls at hl ⊢
  have hl : lv_has ls 2 [(0, .ref (G.2.1 + j0a)), (1, .int x1a)] := hl
  unfold wX7_open at h
  refine lv_aload_n hx hb dX7_open_0 rfl (lv_at hl 0 rfl) ?_
  refine rc_Vv (As := []) (rest := []) ⟨hx, hb, hml, hown, hts⟩ (mX7_keeps l G j0a M _ hk_j0a h) (cwV 0 hts (gV_X7_keeps q_7_22) rfl rfl rfl hdV_X7_keeps ⟨Nat.le_of_ble_eq_true rfl, Nat.le_of_ble_eq_true rfl⟩) hK hP hS hk_j0a (by decide) cl_7 rfl hl.1 rfl (Nat.le_of_ble_eq_true rfl) dX7_open_1 ⟨Nat.zero_le _, Nat.zero_le _⟩ (fun M1 H locs h hP hS => ?_)
  refine lv_aload_n hx hb dX7_open_4 rfl (lv_at hl 0 rfl) ?_
  refine lv_aload_n hx hb dX7_open_5 rfl (lv_at hl 0 rfl) ?_
  refine lv_iload_n hx hb dX7_open_6 rfl (lv_at hl 1 rfl) ?_
  refine lv_iconst (v := (1 : Int32)) hx hb dX7_open_7 k_iconst_1 ?_
  refine rc_Vi (As := [.int x1a, .int (1 : Int32)]) (rest := [.ref (G.2.1 + j0a)]) ⟨hx, hb, hml, hown, hts⟩ (mX7_moves l G j0a x1a (1 : Int32) M1 _ hk_j0a h) (cwV 2 hts (gV_X7_moves q_11_17) rfl rfl rfl hdV_X7_moves ⟨Nat.le_of_ble_eq_true rfl, Nat.le_of_ble_eq_true rfl⟩) hK hP hS hk_j0a (by decide) cl_7 rfl hl.1 rfl (Nat.le_of_ble_eq_true rfl) dX7_open_8 ⟨Nat.zero_le _, Nat.zero_le _⟩ (fun r4 M3 H locs h hP hS => ?_)
  refine rc_Vi (As := [.int r4]) (rest := []) ⟨hx, hb, hml, hown, hts⟩ (mX7_acted l G j0a r4 M3 _ hk_j0a h) (cwV 1 hts (gV_X7_acted q_8_2) rfl rfl rfl hdV_X7_acted ⟨Nat.le_of_ble_eq_true rfl, Nat.le_of_ble_eq_true rfl⟩) hK hP hS hk_j0a (by decide) cl_7 rfl hl.1 rfl (Nat.le_of_ble_eq_true rfl) dX7_open_11 ⟨Nat.zero_le _, Nat.zero_le _⟩ (fun r6 M5 H locs h hP hS => ?_)
  exact re_i hx hb hr hlocks hP hS h dX7_open_14
set_option maxHeartbeats 4000000 in
set_option maxRecDepth 100000 in
theorem mX7_close (l : Launch) (G : Gp) (j0a : Nat) (x1a : Int32) (M : Mm) (Post : Mm → Int32 → Prop) (hk_j0a : kd j0a = 7) (h : wX7_close Post M j0a x1a) : CtI l yX7_close wsX7_close rX7_close G [.ref (G.2.1 + j0a), .int x1a] M Post := by
  refine Met.ofW (cc := cX7_close) (maxL := 2) (ret := (some .int)) (by decide) rfl ?_
  intro p e s m args below meth c s₁ B hml hv
  obtain ⟨rfl, hK, hP⟩ := hv
  have hx := B.exec
  have hb := B.bytes
  have hr := B.returns
  have hlocks := B.notSynchronized
  have hts0 := atoms_spec (ws := wsX7_close) B.pre
  have hts : ∀ w ∈ wsL_law, w.before _ s = true := fun w hw => hts0 w (List.mem_cons_of_mem _ hw)
  have hown : s.vm.findClass RX7 = some m.cls := findClass_of_methodNamed B.named
  have hS : va_S (Fr G) s.heap s.heap [] := va_S.rf
  have hl := lv_entry ([.ref (G.2.1 + j0a), .int x1a]) (n := 2) (Nat.le_of_ble_eq_true rfl)
  rw [lg_entry_eq]
  generalize (lg_sl ([.ref (G.2.1 + j0a), .int x1a]) ++ List.replicate (2 - (lg_sl ([.ref (G.2.1 + j0a), .int x1a])).length) Slot.unset).toArray = ls at hl ⊢
  have hl : lv_has ls 2 [(0, .ref (G.2.1 + j0a)), (1, .int x1a)] := hl
  unfold wX7_close at h
  refine lv_aload_n hx hb dX7_close_0 rfl (lv_at hl 0 rfl) ?_
  refine rc_Vv (As := []) (rest := []) ⟨hx, hb, hml, hown, hts⟩ (mX7_keeps l G j0a M _ hk_j0a h) (cwV 0 hts (gV_X7_keeps q_7_22) rfl rfl rfl hdV_X7_keeps ⟨Nat.le_of_ble_eq_true rfl, Nat.le_of_ble_eq_true rfl⟩) hK hP hS hk_j0a (by decide) cl_7 rfl hl.1 rfl (Nat.le_of_ble_eq_true rfl) dX7_close_1 ⟨Nat.zero_le _, Nat.zero_le _⟩ (fun M1 H locs h hP hS => ?_)
  refine lv_aload_n hx hb dX7_close_4 rfl (lv_at hl 0 rfl) ?_
  refine lv_aload_n hx hb dX7_close_5 rfl (lv_at hl 0 rfl) ?_
  refine lv_iload_n hx hb dX7_close_6 rfl (lv_at hl 1 rfl) ?_
  refine lv_iconst (v := (0 : Int32)) hx hb dX7_close_7 k_iconst_0 ?_
  refine rc_Vi (As := [.int x1a, .int (0 : Int32)]) (rest := [.ref (G.2.1 + j0a)]) ⟨hx, hb, hml, hown, hts⟩ (mX7_moves l G j0a x1a (0 : Int32) M1 _ hk_j0a h) (cwV 2 hts (gV_X7_moves q_11_17) rfl rfl rfl hdV_X7_moves ⟨Nat.le_of_ble_eq_true rfl, Nat.le_of_ble_eq_true rfl⟩) hK hP hS hk_j0a (by decide) cl_7 rfl hl.1 rfl (Nat.le_of_ble_eq_true rfl) dX7_close_8 ⟨Nat.zero_le _, Nat.zero_le _⟩ (fun r4 M3 H locs h hP hS => ?_)
  refine rc_Vi (As := [.int r4]) (rest := []) ⟨hx, hb, hml, hown, hts⟩ (mX7_acted l G j0a r4 M3 _ hk_j0a h) (cwV 1 hts (gV_X7_acted q_8_2) rfl rfl rfl hdV_X7_acted ⟨Nat.le_of_ble_eq_true rfl, Nat.le_of_ble_eq_true rfl⟩) hK hP hS hk_j0a (by decide) cl_7 rfl hl.1 rfl (Nat.le_of_ble_eq_true rfl) dX7_close_11 ⟨Nat.zero_le _, Nat.zero_le _⟩ (fun r6 M5 H locs h hP hS => ?_)
  exact re_i hx hb hr hlocks hP hS h dX7_close_14
set_option maxHeartbeats 4000000 in
set_option maxRecDepth 100000 in
theorem mX7_calling (l : Launch) (G : Gp) (j0a : Nat) (M : Mm) (Post : Mm → Int32 → Prop) (hk_j0a : kd j0a = 7) (h : wX7_calling Post M j0a) : CtI l yX7_calling wsX7_calling rX7_calling G [.ref (G.2.1 + j0a)] M Post := by
  refine Met.ofW (cc := cX7_calling) (maxL := 3) (ret := (some .int)) (by decide) rfl ?_
  intro p e s m args below meth c s₁ B hml hv
  obtain ⟨rfl, hK, hP⟩ := hv
  have hx := B.exec
  have hb := B.bytes
  have hr := B.returns
  have hlocks := B.notSynchronized
  have hts0 := atoms_spec (ws := wsX7_calling) B.pre
  have hts : ∀ w ∈ wsL_law, w.before _ s = true := fun w hw => hts0 w (List.mem_cons_of_mem _ hw)
  have hown : s.vm.findClass RX7 = some m.cls := findClass_of_methodNamed B.named
  have hS : va_S (Fr G) s.heap s.heap [] := va_S.rf
  have hl := lv_entry ([.ref (G.2.1 + j0a)]) (n := 3) (Nat.le_of_ble_eq_true rfl)
  rw [lg_entry_eq]
  generalize (lg_sl ([.ref (G.2.1 + j0a)]) ++ List.replicate (3 - (lg_sl ([.ref (G.2.1 + j0a)])).length) Slot.unset).toArray = ls at hl ⊢
  have hl : lv_has ls 3 [(0, .ref (G.2.1 + j0a))] := hl
  have B4 : ∀ n : Nat, ∀ (M : Mm) (j0 : Nat) (x1 : Int32) (x2 : Int32) (H : Heap) (locs : List Loc) (ls : Array Slot), Rp G M H → va_S (Fr G) s.heap H locs → lv_has ls 3 [(0, .ref (G.2.1 + j0)), (1, .int x1), (2, .int x2)] → kd j0 = 7 → lX7_calling_4 Post n M j0 x1 x2 → Wi p l e (headSpec wsX7_calling rX7_calling).room s m [.ref (G.2.1 + j0a)].toArray below meth c G Post H locs (F0 m 4 ls []) := by
    intro n
    induction n with
    | zero => intro M j0 x1 x2 H locs ls hP hS hl hk_j0 h; exact h.elim
    | succ n ih =>
      intro M j0 x1 x2 H locs ls hP hS hl hk_j0 h
      have hA4 := ih
      replace h : bX7_calling_4 Post (lX7_calling_4 Post n) M j0 x1 x2 := h
      unfold bX7_calling_4 at h
      refine lv_iload_n hx hb dX7_calling_4 rfl (lv_at hl 2 rfl) ?_
      refine lv_aload_n hx hb dX7_calling_5 rfl (lv_at hl 0 rfl) ?_
      refine rk_getr hx hb hts inlX7 hown hK hP hk_j0 cl_7 0 1 fq_7_0 q_4_13 rfl dX7_calling_6 ?_
      refine lv_iconst (v := (1 : Int32)) hx hb dX7_calling_9 k_iconst_1 ?_
      refine rk_iald hx hb hK hP (ky_7_0 hk_j0) ac_12 1 ix_1 vi_1_168 dX7_calling_10 ?_
      refine lv_icmp_ge (tgt := 31) hx hb dX7_calling_11 (by decide) (fun c2 => ?_) (fun c2 => ?_)
      · replace h := h.1 c2
        refine lv_iload_n hx hb dX7_calling_31 rfl (lv_at hl 1 rfl) ?_
        exact re_i hx hb hr hlocks hP hS h dX7_calling_32
      · replace h := h.2 c2
        refine lv_iload_n hx hb dX7_calling_14 rfl (lv_at hl 1 rfl) ?_
        refine lv_aload_n hx hb dX7_calling_15 rfl (lv_at hl 0 rfl) ?_
        refine lv_iload_n hx hb dX7_calling_16 rfl (lv_at hl 2 rfl) ?_
        refine lv_iconst (v := (5 : Int32)) hx hb dX7_calling_17 k_iconst_5 ?_
        refine rc_Vi (As := [.int x2, .int (5 : Int32)]) (rest := [.int x1]) ⟨hx, hb, hml, hown, hts⟩ (mX7_fi l G j0 x2 (5 : Int32) M _ hk_j0 h) (cwV 2 hts (gV_X7_fi q_14_8) rfl rfl rfl hdV_X7_fi ⟨Nat.le_of_ble_eq_true rfl, Nat.le_of_ble_eq_true rfl⟩) hK hP hS hk_j0 (by decide) cl_7 rfl hl.1 rfl (Nat.le_of_ble_eq_true rfl) dX7_calling_18 ⟨Nat.zero_le _, Nat.zero_le _⟩ (fun r4 M3 H locs h hP hS => ?_)
        refine lv_iload_n hx hb dX7_calling_21 rfl (lv_at hl 2 rfl) ?_
        refine lv_ishl hx hb dX7_calling_22 ?_
        refine lv_ior hx hb dX7_calling_23 ?_
        refine lv_topi (fun x1_5 ex1_5 => ?_)
        replace h := h x1_5 ex1_5
        refine lv_istore_n (lv' := [(1, .int x1_5), (0, .ref (G.2.1 + j0)), (2, .int x2)]) hx hb dX7_calling_24 rfl hl (by decide) rfl (fun ls hl => ?_)
        obtain ⟨x2_6, ex2_6⟩ : ∃ y : Int32, y = x2 + (1 : Int32) := ⟨_, rfl⟩
        replace h := h x2_6 ex2_6
        refine lv_iinc (v := x2_6) (lv' := [(2, .int x2_6), (1, .int x1_5), (0, .ref (G.2.1 + j0))]) hx hb dX7_calling_25 hl (k := 2) rfl (by rw [ex2_6]; rfl) (by decide) rfl (fun ls hl => ?_)
        refine lv_goto (tgt := 4) hx hb dX7_calling_28 (by decide) ?_
        exact hA4 _ _ _ _ _ _ _ hP hS (lv_sub hl [2, 1, 0] rfl) hk_j0 h
  unfold wX7_calling at h
  refine lv_iconst (v := (0 : Int32)) hx hb dX7_calling_0 k_iconst_0 ?_
  refine lv_istore_n (lv' := [(1, .int (0 : Int32)), (0, .ref (G.2.1 + j0a))]) hx hb dX7_calling_1 rfl hl (by decide) rfl (fun ls hl => ?_)
  refine lv_iconst (v := (0 : Int32)) hx hb dX7_calling_2 k_iconst_0 ?_
  refine lv_istore_n (lv' := [(2, .int (0 : Int32)), (1, .int (0 : Int32)), (0, .ref (G.2.1 + j0a))]) hx hb dX7_calling_3 rfl hl (by decide) rfl (fun ls hl => ?_)
  obtain ⟨n1, h⟩ := h
  exact B4 _ _ _ _ _ _ _ _ hP hS (lv_sub hl [2, 1, 0] rfl) hk_j0a h
set_option maxHeartbeats 4000000 in
set_option maxRecDepth 100000 in
theorem mX7_ones (l : Launch) (G : Gp) (x0a : Int32) (M : Mm) (Post : Mm → Int32 → Prop) (h : wX7_ones Post M x0a) : CtI l yX7_ones wsX7_ones rX7_ones G [.int x0a] M Post := by
  refine Met.ofW (cc := cX7_ones) (maxL := 3) (ret := (some .int)) (by decide) rfl ?_
  intro p e s m args below meth c s₁ B hml hv
  obtain ⟨rfl, hK, hP⟩ := hv
  have hx := B.exec
  have hb := B.bytes
  have hr := B.returns
  have hlocks := B.notSynchronized
  have hts0 := atoms_spec (ws := wsX7_ones) B.pre
  have hts : ∀ w ∈ wsL_law, w.before _ s = true := fun w hw => hts0 w (List.mem_cons_of_mem _ hw)
  have hown : s.vm.findClass RX7 = some m.cls := findClass_of_methodNamed B.named
  have hS : va_S (Fr G) s.heap s.heap [] := va_S.rf
  have hl := lv_entry ([.int x0a]) (n := 3) (Nat.le_of_ble_eq_true rfl)
  rw [lg_entry_eq]
  generalize (lg_sl ([.int x0a]) ++ List.replicate (3 - (lg_sl ([.int x0a])).length) Slot.unset).toArray = ls at hl ⊢
  have hl : lv_has ls 3 [(0, .int x0a)] := hl
  have B4 : ∀ n : Nat, ∀ (M : Mm) (x0 : Int32) (x1 : Int32) (x2 : Int32) (H : Heap) (locs : List Loc) (ls : Array Slot), Rp G M H → va_S (Fr G) s.heap H locs → lv_has ls 3 [(0, .int x0), (1, .int x1), (2, .int x2)] → lX7_ones_4 Post n M x0 x1 x2 → Wi p l e (headSpec wsX7_ones rX7_ones).room s m [.int x0a].toArray below meth c G Post H locs (F0 m 4 ls []) := by
    intro n
    induction n with
    | zero => intro M x0 x1 x2 H locs ls hP hS hl h; exact h.elim
    | succ n ih =>
      intro M x0 x1 x2 H locs ls hP hS hl h
      have hA4 := ih
      replace h : bX7_ones_4 Post (lX7_ones_4 Post n) M x0 x1 x2 := h
      unfold bX7_ones_4 at h
      refine lv_iload_n hx hb dX7_ones_4 rfl (lv_at hl 2 rfl) ?_
      refine lv_bipush (v := (10 : Int32)) hx hb dX7_ones_5 k_bipush_10 ?_
      refine lv_icmp_ge (tgt := 24) hx hb dX7_ones_7 (by decide) (fun c2 => ?_) (fun c2 => ?_)
      · replace h := h.1 c2
        refine lv_iload_n hx hb dX7_ones_24 rfl (lv_at hl 1 rfl) ?_
        exact re_i hx hb hr hlocks hP hS h dX7_ones_25
      · replace h := h.2 c2
        refine lv_iload_n hx hb dX7_ones_10 rfl (lv_at hl 1 rfl) ?_
        refine lv_iload_n hx hb dX7_ones_11 rfl (lv_at hl 0 rfl) ?_
        refine lv_iload_n hx hb dX7_ones_12 rfl (lv_at hl 2 rfl) ?_
        refine lv_ishr hx hb dX7_ones_13 ?_
        refine lv_iconst (v := (1 : Int32)) hx hb dX7_ones_14 k_iconst_1 ?_
        refine lv_iand hx hb dX7_ones_15 ?_
        refine lv_iadd hx hb dX7_ones_16 ?_
        refine lv_topi (fun x1_3 ex1_3 => ?_)
        replace h := h x1_3 ex1_3
        refine lv_istore_n (lv' := [(1, .int x1_3), (0, .int x0), (2, .int x2)]) hx hb dX7_ones_17 rfl hl (by decide) rfl (fun ls hl => ?_)
        obtain ⟨x2_4, ex2_4⟩ : ∃ y : Int32, y = x2 + (1 : Int32) := ⟨_, rfl⟩
        replace h := h x2_4 ex2_4
        refine lv_iinc (v := x2_4) (lv' := [(2, .int x2_4), (1, .int x1_3), (0, .int x0)]) hx hb dX7_ones_18 hl (k := 2) rfl (by rw [ex2_4]; rfl) (by decide) rfl (fun ls hl => ?_)
        refine lv_goto (tgt := 4) hx hb dX7_ones_21 (by decide) ?_
        exact hA4 _ _ _ _ _ _ _ hP hS (lv_sub hl [2, 1, 0] rfl) h
  unfold wX7_ones at h
  refine lv_iconst (v := (0 : Int32)) hx hb dX7_ones_0 k_iconst_0 ?_
  refine lv_istore_n (lv' := [(1, .int (0 : Int32)), (0, .int x0a)]) hx hb dX7_ones_1 rfl hl (by decide) rfl (fun ls hl => ?_)
  refine lv_iconst (v := (0 : Int32)) hx hb dX7_ones_2 k_iconst_0 ?_
  refine lv_istore_n (lv' := [(2, .int (0 : Int32)), (1, .int (0 : Int32)), (0, .int x0a)]) hx hb dX7_ones_3 rfl hl (by decide) rfl (fun ls hl => ?_)
  obtain ⟨n1, h⟩ := h
  exact B4 _ _ _ _ _ _ _ _ hP hS (lv_sub hl [2, 1, 0] rfl) h
set_option maxHeartbeats 4000000 in
set_option maxRecDepth 100000 in
theorem mX7_calls (l : Launch) (G : Gp) (j0a : Nat) (x1a : Int32) (M : Mm) (Post : Mm → Int32 → Prop) (hk_j0a : kd j0a = 7) (h : wX7_calls Post M j0a x1a) : CtI l yX7_calls wsX7_calls rX7_calls G [.ref (G.2.1 + j0a), .int x1a] M Post := by
  refine Met.ofW (cc := cX7_calls) (maxL := 2) (ret := (some .int)) (by decide) rfl ?_
  intro p e s m args below meth c s₁ B hml hv
  obtain ⟨rfl, hK, hP⟩ := hv
  have hx := B.exec
  have hb := B.bytes
  have hr := B.returns
  have hlocks := B.notSynchronized
  have hts0 := atoms_spec (ws := wsX7_calls) B.pre
  have hts : ∀ w ∈ wsL_law, w.before _ s = true := fun w hw => hts0 w (List.mem_cons_of_mem _ hw)
  have hown : s.vm.findClass RX7 = some m.cls := findClass_of_methodNamed B.named
  have hS : va_S (Fr G) s.heap s.heap [] := va_S.rf
  have hl := lv_entry ([.ref (G.2.1 + j0a), .int x1a]) (n := 2) (Nat.le_of_ble_eq_true rfl)
  rw [lg_entry_eq]
  generalize (lg_sl ([.ref (G.2.1 + j0a), .int x1a]) ++ List.replicate (2 - (lg_sl ([.ref (G.2.1 + j0a), .int x1a])).length) Slot.unset).toArray = ls at hl ⊢
  have hl : lv_has ls 2 [(0, .ref (G.2.1 + j0a)), (1, .int x1a)] := hl
  unfold wX7_calls at h
  refine lv_aload_n hx hb dX7_calls_0 rfl (lv_at hl 0 rfl) ?_
  refine lv_iload_n hx hb dX7_calls_1 rfl (lv_at hl 1 rfl) ?_
  refine rc_Vi (As := [.int x1a]) (rest := []) ⟨hx, hb, hml, hown, hts⟩ (mX7_isField l G j0a x1a M _ hk_j0a h) (cwV 1 hts (gV_X7_isField q_14_4) rfl rfl rfl hdV_X7_isField ⟨Nat.le_of_ble_eq_true rfl, Nat.le_of_ble_eq_true rfl⟩) hK hP hS hk_j0a (by decide) cl_7 rfl hl.1 rfl (Nat.le_of_ble_eq_true rfl) dX7_calls_2 ⟨Nat.zero_le _, Nat.zero_le _⟩ (fun r2 M1 H locs h hP hS => ?_)
  refine lv_if_ne (tgt := 11) hx hb dX7_calls_5 (by decide) (fun c3 => ?_) (fun c3 => ?_)
  · replace h := h.1 c3
    refine lv_aload_n hx hb dX7_calls_11 rfl (lv_at hl 0 rfl) ?_
    refine lv_iload_n hx hb dX7_calls_12 rfl (lv_at hl 1 rfl) ?_
    refine lv_iconst (v := (5 : Int32)) hx hb dX7_calls_13 k_iconst_5 ?_
    refine rc_Vi (As := [.int x1a, .int (5 : Int32)]) (rest := []) ⟨hx, hb, hml, hown, hts⟩ (mX7_fi l G j0a x1a (5 : Int32) M1 _ hk_j0a h) (cwV 2 hts (gV_X7_fi q_14_8) rfl rfl rfl hdV_X7_fi ⟨Nat.le_of_ble_eq_true rfl, Nat.le_of_ble_eq_true rfl⟩) hK hP hS hk_j0a (by decide) cl_7 rfl hl.1 rfl (Nat.le_of_ble_eq_true rfl) dX7_calls_14 ⟨Nat.zero_le _, Nat.zero_le _⟩ (fun r5 M4 H locs h hP hS => ?_)
    refine lv_iconst (v := (1 : Int32)) hx hb dX7_calls_17 k_iconst_1 ?_
    refine lv_icmp_eq (tgt := 29) hx hb dX7_calls_18 (by decide) (fun c6 => ?_) (fun c6 => ?_)
    · replace h := h.1 c6
      refine lv_ldc hx hb hown (hts _ q_9_23) dX7_calls_29 ?_
      exact re_i hx hb hr hlocks hP hS h dX7_calls_31
    · replace h := h.2 c6
      refine lv_aload_n hx hb dX7_calls_21 rfl (lv_at hl 0 rfl) ?_
      refine lv_iload_n hx hb dX7_calls_22 rfl (lv_at hl 1 rfl) ?_
      refine rc_Vi (As := [.int x1a]) (rest := []) ⟨hx, hb, hml, hown, hts⟩ (mX7_wants l G j0a x1a M4 _ hk_j0a h) (cwV 1 hts (gV_X7_wants q_14_12) rfl rfl rfl hdV_X7_wants ⟨Nat.le_of_ble_eq_true rfl, Nat.le_of_ble_eq_true rfl⟩) hK hP hS hk_j0a (by decide) cl_7 rfl hl.1 rfl (Nat.le_of_ble_eq_true rfl) dX7_calls_23 ⟨Nat.zero_le _, Nat.zero_le _⟩ (fun r8 M7 H locs h hP hS => ?_)
      refine lv_if_ne (tgt := 32) hx hb dX7_calls_26 (by decide) (fun c9 => ?_) (fun c9 => ?_)
      · replace h := h.1 c9
        refine lv_aload_n hx hb dX7_calls_32 rfl (lv_at hl 0 rfl) ?_
        refine rk_getr hx hb hts inlX7 hown hK hP hk_j0a cl_7 0 1 fq_7_0 q_4_13 rfl dX7_calls_33 ?_
        refine lv_bipush (v := (82 : Int32)) hx hb dX7_calls_36 k_bipush_82 ?_
        refine lv_bipush (v := (7 : Int32)) hx hb dX7_calls_38 k_bipush_7 ?_
        refine lv_iload_n hx hb dX7_calls_40 rfl (lv_at hl 1 rfl) ?_
        refine lv_imul hx hb dX7_calls_41 ?_
        refine lv_iadd hx hb dX7_calls_42 ?_
        refine lv_iconst (v := (5 : Int32)) hx hb dX7_calls_43 k_iconst_5 ?_
        refine lv_iadd hx hb dX7_calls_44 ?_
        refine lv_iconst (v := (1 : Int32)) hx hb dX7_calls_45 k_iconst_1 ?_
        refine rk_iast hx hb hK hP hS (ky_7_0 hk_j0a) ac_12 _ rfl h.1 dX7_calls_46 (fun M10 eM10 H locs hP hS => ?_)
        replace h := h.2
        replace h := h M10 eM10
        refine lv_aload_n hx hb dX7_calls_47 rfl (lv_at hl 0 rfl) ?_
        refine rc_Vi (As := []) (rest := []) ⟨hx, hb, hml, hown, hts⟩ (mX7_calling l G j0a M10 _ hk_j0a h) (cwV 0 hts (gV_X7_calling q_14_16) rfl rfl rfl hdV_X7_calling ⟨Nat.le_of_ble_eq_true rfl, Nat.le_of_ble_eq_true rfl⟩) hK hP hS hk_j0a (by decide) cl_7 rfl hl.1 rfl (Nat.le_of_ble_eq_true rfl) dX7_calls_48 ⟨Nat.zero_le _, Nat.zero_le _⟩ (fun r12 M11 H locs h hP hS => ?_)
        refine rc_Si (As := [.int r12]) (rest := []) ⟨hx, hb, hml, hown, hts⟩ (mX7_ones l G r12 M11 _ h) (va_cwS 1 hts (gS_X7_ones q_14_20) rfl rfl rfl hdS_X7_ones ⟨Nat.le_of_ble_eq_true rfl, Nat.le_of_ble_eq_true rfl⟩) hK hP hS rfl hl.1 rfl (Nat.le_of_ble_eq_true rfl) dX7_calls_51 ⟨Nat.zero_le _, Nat.zero_le _⟩ (fun r14 M13 H locs h hP hS => ?_)
        exact re_i hx hb hr hlocks hP hS h dX7_calls_54
      · replace h := h.2 c9
        refine lv_ldc hx hb hown (hts _ q_9_23) dX7_calls_29 ?_
        exact re_i hx hb hr hlocks hP hS h dX7_calls_31
  · replace h := h.2 c3
    refine lv_ldc hx hb hown (hts _ q_7_13) dX7_calls_8 ?_
    exact re_i hx hb hr hlocks hP hS h dX7_calls_10
set_option maxHeartbeats 4000000 in
set_option maxRecDepth 100000 in
theorem mX7_call (l : Launch) (G : Gp) (j0a : Nat) (x1a : Int32) (M : Mm) (Post : Mm → Int32 → Prop) (hk_j0a : kd j0a = 7) (h : wX7_call Post M j0a x1a) : CtI l yX7_call wsX7_call rX7_call G [.ref (G.2.1 + j0a), .int x1a] M Post := by
  refine Met.ofW (cc := cX7_call) (maxL := 2) (ret := (some .int)) (by decide) rfl ?_
  intro p e s m args below meth c s₁ B hml hv
  obtain ⟨rfl, hK, hP⟩ := hv
  have hx := B.exec
  have hb := B.bytes
  have hr := B.returns
  have hlocks := B.notSynchronized
  have hts0 := atoms_spec (ws := wsX7_call) B.pre
  have hts : ∀ w ∈ wsL_law, w.before _ s = true := fun w hw => hts0 w (List.mem_cons_of_mem _ hw)
  have hown : s.vm.findClass RX7 = some m.cls := findClass_of_methodNamed B.named
  have hS : va_S (Fr G) s.heap s.heap [] := va_S.rf
  have hl := lv_entry ([.ref (G.2.1 + j0a), .int x1a]) (n := 2) (Nat.le_of_ble_eq_true rfl)
  rw [lg_entry_eq]
  generalize (lg_sl ([.ref (G.2.1 + j0a), .int x1a]) ++ List.replicate (2 - (lg_sl ([.ref (G.2.1 + j0a), .int x1a])).length) Slot.unset).toArray = ls at hl ⊢
  have hl : lv_has ls 2 [(0, .ref (G.2.1 + j0a)), (1, .int x1a)] := hl
  unfold wX7_call at h
  refine lv_aload_n hx hb dX7_call_0 rfl (lv_at hl 0 rfl) ?_
  refine rc_Vv (As := []) (rest := []) ⟨hx, hb, hml, hown, hts⟩ (mX7_keeps l G j0a M _ hk_j0a h) (cwV 0 hts (gV_X7_keeps q_7_22) rfl rfl rfl hdV_X7_keeps ⟨Nat.le_of_ble_eq_true rfl, Nat.le_of_ble_eq_true rfl⟩) hK hP hS hk_j0a (by decide) cl_7 rfl hl.1 rfl (Nat.le_of_ble_eq_true rfl) dX7_call_1 ⟨Nat.zero_le _, Nat.zero_le _⟩ (fun M1 H locs h hP hS => ?_)
  refine lv_aload_n hx hb dX7_call_4 rfl (lv_at hl 0 rfl) ?_
  refine lv_aload_n hx hb dX7_call_5 rfl (lv_at hl 0 rfl) ?_
  refine lv_iload_n hx hb dX7_call_6 rfl (lv_at hl 1 rfl) ?_
  refine rc_Vi (As := [.int x1a]) (rest := [.ref (G.2.1 + j0a)]) ⟨hx, hb, hml, hown, hts⟩ (mX7_calls l G j0a x1a M1 _ hk_j0a h) (cwV 1 hts (gV_X7_calls q_14_0) rfl rfl rfl hdV_X7_calls ⟨Nat.le_of_ble_eq_true rfl, Nat.le_of_ble_eq_true rfl⟩) hK hP hS hk_j0a (by decide) cl_7 rfl hl.1 rfl (Nat.le_of_ble_eq_true rfl) dX7_call_7 ⟨Nat.zero_le _, Nat.zero_le _⟩ (fun r4 M3 H locs h hP hS => ?_)
  refine rc_Vi (As := [.int r4]) (rest := []) ⟨hx, hb, hml, hown, hts⟩ (mX7_acted l G j0a r4 M3 _ hk_j0a h) (cwV 1 hts (gV_X7_acted q_8_2) rfl rfl rfl hdV_X7_acted ⟨Nat.le_of_ble_eq_true rfl, Nat.le_of_ble_eq_true rfl⟩) hK hP hS hk_j0a (by decide) cl_7 rfl hl.1 rfl (Nat.le_of_ble_eq_true rfl) dX7_call_10 ⟨Nat.zero_le _, Nat.zero_le _⟩ (fun r6 M5 H locs h hP hS => ?_)
  exact re_i hx hb hr hlocks hP hS h dX7_call_13
set_option maxHeartbeats 4000000 in
set_option maxRecDepth 100000 in
theorem mX7_turn (l : Launch) (G : Gp) (j0a : Nat) (x1a : Int32) (x2a : Int32) (M : Mm) (Post : Mm → Int32 → Prop) (hk_j0a : kd j0a = 7) (h : wX7_turn Post M j0a x1a x2a) : CtI l yX7_turn wsX7_turn rX7_turn G [.ref (G.2.1 + j0a), .int x1a, .int x2a] M Post := by
  refine Met.ofW (cc := cX7_turn) (maxL := 3) (ret := (some .int)) (by decide) rfl ?_
  intro p e s m args below meth c s₁ B hml hv
  obtain ⟨rfl, hK, hP⟩ := hv
  have hx := B.exec
  have hb := B.bytes
  have hr := B.returns
  have hlocks := B.notSynchronized
  have hts0 := atoms_spec (ws := wsX7_turn) B.pre
  have hts : ∀ w ∈ wsL_law, w.before _ s = true := fun w hw => hts0 w (List.mem_cons_of_mem _ hw)
  have hown : s.vm.findClass RX7 = some m.cls := findClass_of_methodNamed B.named
  have hS : va_S (Fr G) s.heap s.heap [] := va_S.rf
  have hl := lv_entry ([.ref (G.2.1 + j0a), .int x1a, .int x2a]) (n := 3) (Nat.le_of_ble_eq_true rfl)
  rw [lg_entry_eq]
  generalize (lg_sl ([.ref (G.2.1 + j0a), .int x1a, .int x2a]) ++ List.replicate (3 - (lg_sl ([.ref (G.2.1 + j0a), .int x1a, .int x2a])).length) Slot.unset).toArray = ls at hl ⊢
  have hl : lv_has ls 3 [(0, .ref (G.2.1 + j0a)), (1, .int x1a), (2, .int x2a)] := hl
  unfold wX7_turn at h
  refine lv_aload_n hx hb dX7_turn_0 rfl (lv_at hl 0 rfl) ?_
  refine lv_iload_n hx hb dX7_turn_1 rfl (lv_at hl 1 rfl) ?_
  refine rc_Vi (As := [.int x1a]) (rest := []) ⟨hx, hb, hml, hown, hts⟩ (mX7_areGates l G j0a x1a M _ hk_j0a h) (cwV 1 hts (gV_X7_areGates q_16_1) rfl rfl rfl hdV_X7_areGates ⟨Nat.le_of_ble_eq_true rfl, Nat.le_of_ble_eq_true rfl⟩) hK hP hS hk_j0a (by decide) cl_7 rfl hl.1 rfl (Nat.le_of_ble_eq_true rfl) dX7_turn_2 ⟨Nat.zero_le _, Nat.zero_le _⟩ (fun r2 M1 H locs h hP hS => ?_)
  refine lv_if_eq (tgt := 18) hx hb dX7_turn_5 (by decide) (fun c3 => ?_) (fun c3 => ?_)
  · replace h := h.1 c3
    refine lv_ldc hx hb hown (hts _ q_7_13) dX7_turn_18 ?_
    exact re_i hx hb hr hlocks hP hS h dX7_turn_20
  · replace h := h.2 c3
    refine lv_iload_n hx hb dX7_turn_8 rfl (lv_at hl 2 rfl) ?_
    refine lv_iconst (v := (1 : Int32)) hx hb dX7_turn_9 k_iconst_1 ?_
    refine lv_bipush (v := (20 : Int32)) hx hb dX7_turn_10 k_bipush_20 ?_
    refine rc_Si (As := [.int x2a, .int (1 : Int32), .int (20 : Int32)]) (rest := []) ⟨hx, hb, hml, hown, hts⟩ (mX7_in l G x2a (1 : Int32) (20 : Int32) M1 _ h) (va_cwS 3 hts (gS_X7_in q_7_19) rfl rfl rfl hdS_X7_in ⟨Nat.le_of_ble_eq_true rfl, Nat.le_of_ble_eq_true rfl⟩) hK hP hS rfl hl.1 rfl (Nat.le_of_ble_eq_true rfl) dX7_turn_12 ⟨Nat.zero_le _, Nat.zero_le _⟩ (fun r5 M4 H locs h hP hS => ?_)
    refine lv_if_ne (tgt := 21) hx hb dX7_turn_15 (by decide) (fun c6 => ?_) (fun c6 => ?_)
    · replace h := h.1 c6
      refine lv_aload_n hx hb dX7_turn_21 rfl (lv_at hl 0 rfl) ?_
      refine rk_getr hx hb hts inlX7 hown hK hP hk_j0a cl_7 0 1 fq_7_0 q_4_13 rfl dX7_turn_22 ?_
      refine lv_iconst (v := (2 : Int32)) hx hb dX7_turn_25 k_iconst_2 ?_
      refine rk_iald hx hb hK hP (ky_7_0 hk_j0a) ac_12 2 ix_2 vi_2_168 dX7_turn_26 ?_
      refine lv_bipush (v := (8 : Int32)) hx hb dX7_turn_27 k_bipush_8 ?_
      refine lv_icmp_ne (tgt := 35) hx hb dX7_turn_29 (by decide) (fun c7 => ?_) (fun c7 => ?_)
      · replace h := h.1 c7
        refine lv_aload_n hx hb dX7_turn_35 rfl (lv_at hl 0 rfl) ?_
        refine rc_Vv (As := []) (rest := []) ⟨hx, hb, hml, hown, hts⟩ (mX7_keeps l G j0a M4 _ hk_j0a h) (cwV 0 hts (gV_X7_keeps q_7_22) rfl rfl rfl hdV_X7_keeps ⟨Nat.le_of_ble_eq_true rfl, Nat.le_of_ble_eq_true rfl⟩) hK hP hS hk_j0a (by decide) cl_7 rfl hl.1 rfl (Nat.le_of_ble_eq_true rfl) dX7_turn_36 ⟨Nat.zero_le _, Nat.zero_le _⟩ (fun M8 H locs h hP hS => ?_)
        refine lv_aload_n hx hb dX7_turn_39 rfl (lv_at hl 0 rfl) ?_
        refine rk_getr hx hb hts inlX7 hown hK hP hk_j0a cl_7 0 1 fq_7_0 q_4_13 rfl dX7_turn_40 ?_
        refine lv_sipush (v := (152 : Int32)) hx hb dX7_turn_43 k_sipush_152 ?_
        refine lv_iconst (v := (2 : Int32)) hx hb dX7_turn_46 k_iconst_2 ?_
        refine lv_aload_n hx hb dX7_turn_47 rfl (lv_at hl 0 rfl) ?_
        refine rk_getr hx hb hts inlX7 hown hK hP hk_j0a cl_7 0 1 fq_7_0 q_4_13 rfl dX7_turn_48 ?_
        refine lv_iconst (v := (2 : Int32)) hx hb dX7_turn_51 k_iconst_2 ?_
        refine rk_iald hx hb hK hP (ky_7_0 hk_j0a) ac_12 2 ix_2 vi_2_168 dX7_turn_52 ?_
        refine lv_imul hx hb dX7_turn_53 ?_
        refine lv_iadd hx hb dX7_turn_54 ?_
        refine lv_iload_n hx hb dX7_turn_55 rfl (lv_at hl 1 rfl) ?_
        refine rk_iast hx hb hK hP hS (ky_7_0 hk_j0a) ac_12 _ rfl h.1 dX7_turn_56 (fun M10 eM10 H locs hP hS => ?_)
        replace h := h.2
        replace h := h M10 eM10
        refine lv_aload_n hx hb dX7_turn_57 rfl (lv_at hl 0 rfl) ?_
        refine rk_getr hx hb hts inlX7 hown hK hP hk_j0a cl_7 0 1 fq_7_0 q_4_13 rfl dX7_turn_58 ?_
        refine lv_sipush (v := (152 : Int32)) hx hb dX7_turn_61 k_sipush_152 ?_
        refine lv_iconst (v := (2 : Int32)) hx hb dX7_turn_64 k_iconst_2 ?_
        refine lv_aload_n hx hb dX7_turn_65 rfl (lv_at hl 0 rfl) ?_
        refine rk_getr hx hb hts inlX7 hown hK hP hk_j0a cl_7 0 1 fq_7_0 q_4_13 rfl dX7_turn_66 ?_
        refine lv_iconst (v := (2 : Int32)) hx hb dX7_turn_69 k_iconst_2 ?_
        refine rk_iald hx hb hK hP (ky_7_0 hk_j0a) ac_12 2 ix_2 vi_2_168 dX7_turn_70 ?_
        refine lv_imul hx hb dX7_turn_71 ?_
        refine lv_iadd hx hb dX7_turn_72 ?_
        refine lv_iconst (v := (1 : Int32)) hx hb dX7_turn_73 k_iconst_1 ?_
        refine lv_iadd hx hb dX7_turn_74 ?_
        refine lv_iload_n hx hb dX7_turn_75 rfl (lv_at hl 2 rfl) ?_
        refine rk_iast hx hb hK hP hS (ky_7_0 hk_j0a) ac_12 _ rfl h.1 dX7_turn_76 (fun M11 eM11 H locs hP hS => ?_)
        replace h := h.2
        replace h := h M11 eM11
        refine lv_aload_n hx hb dX7_turn_77 rfl (lv_at hl 0 rfl) ?_
        refine rk_getr hx hb hts inlX7 hown hK hP hk_j0a cl_7 0 1 fq_7_0 q_4_13 rfl dX7_turn_78 ?_
        refine lv_iconst (v := (2 : Int32)) hx hb dX7_turn_81 k_iconst_2 ?_
        refine lv_dup2_11 hx hb dX7_turn_82 rfl rfl ?_
        refine rk_iald hx hb hK hP (ky_7_0 hk_j0a) ac_12 2 ix_2 vi_2_168 dX7_turn_83 ?_
        refine lv_iconst (v := (1 : Int32)) hx hb dX7_turn_84 k_iconst_1 ?_
        refine lv_iadd hx hb dX7_turn_85 ?_
        refine rk_iast hx hb hK hP hS (ky_7_0 hk_j0a) ac_12 2 ix_2 vi_2_168 dX7_turn_86 (fun M12 eM12 H locs hP hS => ?_)
        replace h := h M12 eM12
        refine lv_aload_n hx hb dX7_turn_87 rfl (lv_at hl 0 rfl) ?_
        refine rk_getr hx hb hts inlX7 hown hK hP hk_j0a cl_7 0 1 fq_7_0 q_4_13 rfl dX7_turn_88 ?_
        refine lv_iconst (v := (3 : Int32)) hx hb dX7_turn_91 k_iconst_3 ?_
        refine lv_iconst (v := (0 : Int32)) hx hb dX7_turn_92 k_iconst_0 ?_
        refine rk_iast hx hb hK hP hS (ky_7_0 hk_j0a) ac_12 3 ix_3 vi_3_168 dX7_turn_93 (fun M13 eM13 H locs hP hS => ?_)
        replace h := h M13 eM13
        refine lv_aload_n hx hb dX7_turn_94 rfl (lv_at hl 0 rfl) ?_
        refine rk_getr hx hb hts inlX7 hown hK hP hk_j0a cl_7 0 1 fq_7_0 q_4_13 rfl dX7_turn_95 ?_
        refine lv_iconst (v := (4 : Int32)) hx hb dX7_turn_98 k_iconst_4 ?_
        refine lv_iconst (v := (0 : Int32)) hx hb dX7_turn_99 k_iconst_0 ?_
        refine rk_iast hx hb hK hP hS (ky_7_0 hk_j0a) ac_12 4 ix_4 vi_4_168 dX7_turn_100 (fun M14 eM14 H locs hP hS => ?_)
        replace h := h M14 eM14
        refine lv_aload_n hx hb dX7_turn_101 rfl (lv_at hl 0 rfl) ?_
        refine lv_aload_n hx hb dX7_turn_102 rfl (lv_at hl 0 rfl) ?_
        refine rk_getr hx hb hts inlX7 hown hK hP hk_j0a cl_7 0 1 fq_7_0 q_4_13 rfl dX7_turn_103 ?_
        refine lv_iconst (v := (2 : Int32)) hx hb dX7_turn_106 k_iconst_2 ?_
        refine rk_iald hx hb hK hP (ky_7_0 hk_j0a) ac_12 2 ix_2 vi_2_168 dX7_turn_107 ?_
        refine rc_Vi (As := [.int (M14 (j0a + 1) 2)]) (rest := []) ⟨hx, hb, hml, hown, hts⟩ (mX7_acted l G j0a (M14 (j0a + 1) 2) M14 _ hk_j0a h) (cwV 1 hts (gV_X7_acted q_8_2) rfl rfl rfl hdV_X7_acted ⟨Nat.le_of_ble_eq_true rfl, Nat.le_of_ble_eq_true rfl⟩) hK hP hS hk_j0a (by decide) cl_7 rfl hl.1 rfl (Nat.le_of_ble_eq_true rfl) dX7_turn_108 ⟨Nat.zero_le _, Nat.zero_le _⟩ (fun r16 M15 H locs h hP hS => ?_)
        exact re_i hx hb hr hlocks hP hS h dX7_turn_111
      · replace h := h.2 c7
        refine lv_ldc hx hb hown (hts _ q_7_14) dX7_turn_32 ?_
        exact re_i hx hb hr hlocks hP hS h dX7_turn_34
    · replace h := h.2 c6
      refine lv_ldc hx hb hown (hts _ q_7_13) dX7_turn_18 ?_
      exact re_i hx hb hr hlocks hP hS h dX7_turn_20
set_option maxHeartbeats 4000000 in
set_option maxRecDepth 100000 in
theorem mX7_noTurns (l : Launch) (G : Gp) (j0a : Nat) (M : Mm) (Post : Mm → Int32 → Prop) (hk_j0a : kd j0a = 7) (h : wX7_noTurns Post M j0a) : CtI l yX7_noTurns wsX7_noTurns rX7_noTurns G [.ref (G.2.1 + j0a)] M Post := by
  refine Met.ofW (cc := cX7_noTurns) (maxL := 2) (ret := (some .int)) (by decide) rfl ?_
  intro p e s m args below meth c s₁ B hml hv
  obtain ⟨rfl, hK, hP⟩ := hv
  have hx := B.exec
  have hb := B.bytes
  have hr := B.returns
  have hlocks := B.notSynchronized
  have hts0 := atoms_spec (ws := wsX7_noTurns) B.pre
  have hts : ∀ w ∈ wsL_law, w.before _ s = true := fun w hw => hts0 w (List.mem_cons_of_mem _ hw)
  have hown : s.vm.findClass RX7 = some m.cls := findClass_of_methodNamed B.named
  have hS : va_S (Fr G) s.heap s.heap [] := va_S.rf
  have hl := lv_entry ([.ref (G.2.1 + j0a)]) (n := 2) (Nat.le_of_ble_eq_true rfl)
  rw [lg_entry_eq]
  generalize (lg_sl ([.ref (G.2.1 + j0a)]) ++ List.replicate (2 - (lg_sl ([.ref (G.2.1 + j0a)])).length) Slot.unset).toArray = ls at hl ⊢
  have hl : lv_has ls 2 [(0, .ref (G.2.1 + j0a))] := hl
  unfold wX7_noTurns at h
  refine lv_aload_n hx hb dX7_noTurns_0 rfl (lv_at hl 0 rfl) ?_
  refine rc_Vv (As := []) (rest := []) ⟨hx, hb, hml, hown, hts⟩ (mX7_keeps l G j0a M _ hk_j0a h) (cwV 0 hts (gV_X7_keeps q_7_22) rfl rfl rfl hdV_X7_keeps ⟨Nat.le_of_ble_eq_true rfl, Nat.le_of_ble_eq_true rfl⟩) hK hP hS hk_j0a (by decide) cl_7 rfl hl.1 rfl (Nat.le_of_ble_eq_true rfl) dX7_noTurns_1 ⟨Nat.zero_le _, Nat.zero_le _⟩ (fun M1 H locs h hP hS => ?_)
  refine lv_aload_n hx hb dX7_noTurns_4 rfl (lv_at hl 0 rfl) ?_
  refine rk_getr hx hb hts inlX7 hown hK hP hk_j0a cl_7 0 1 fq_7_0 q_4_13 rfl dX7_noTurns_5 ?_
  refine lv_iconst (v := (2 : Int32)) hx hb dX7_noTurns_8 k_iconst_2 ?_
  refine rk_iald hx hb hK hP (ky_7_0 hk_j0a) ac_12 2 ix_2 vi_2_168 dX7_noTurns_9 ?_
  refine lv_topi (fun x1_3 ex1_3 => ?_)
  replace h := h x1_3 ex1_3
  refine lv_istore_n (lv' := [(1, .int x1_3), (0, .ref (G.2.1 + j0a))]) hx hb dX7_noTurns_10 rfl hl (by decide) rfl (fun ls hl => ?_)
  refine lv_aload_n hx hb dX7_noTurns_11 rfl (lv_at hl 1 rfl) ?_
  refine rk_getr hx hb hts inlX7 hown hK hP hk_j0a cl_7 0 1 fq_7_0 q_4_13 rfl dX7_noTurns_12 ?_
  refine lv_iconst (v := (2 : Int32)) hx hb dX7_noTurns_15 k_iconst_2 ?_
  refine lv_iconst (v := (0 : Int32)) hx hb dX7_noTurns_16 k_iconst_0 ?_
  refine rk_iast hx hb hK hP hS (ky_7_0 hk_j0a) ac_12 2 ix_2 vi_2_168 dX7_noTurns_17 (fun M4 eM4 H locs hP hS => ?_)
  replace h := h M4 eM4
  refine lv_aload_n hx hb dX7_noTurns_18 rfl (lv_at hl 1 rfl) ?_
  refine rk_getr hx hb hts inlX7 hown hK hP hk_j0a cl_7 0 1 fq_7_0 q_4_13 rfl dX7_noTurns_19 ?_
  refine lv_iconst (v := (3 : Int32)) hx hb dX7_noTurns_22 k_iconst_3 ?_
  refine lv_iconst (v := (0 : Int32)) hx hb dX7_noTurns_23 k_iconst_0 ?_
  refine rk_iast hx hb hK hP hS (ky_7_0 hk_j0a) ac_12 3 ix_3 vi_3_168 dX7_noTurns_24 (fun M5 eM5 H locs hP hS => ?_)
  replace h := h M5 eM5
  refine lv_aload_n hx hb dX7_noTurns_25 rfl (lv_at hl 1 rfl) ?_
  refine rk_getr hx hb hts inlX7 hown hK hP hk_j0a cl_7 0 1 fq_7_0 q_4_13 rfl dX7_noTurns_26 ?_
  refine lv_iconst (v := (4 : Int32)) hx hb dX7_noTurns_29 k_iconst_4 ?_
  refine lv_iconst (v := (0 : Int32)) hx hb dX7_noTurns_30 k_iconst_0 ?_
  refine rk_iast hx hb hK hP hS (ky_7_0 hk_j0a) ac_12 4 ix_4 vi_4_168 dX7_noTurns_31 (fun M6 eM6 H locs hP hS => ?_)
  replace h := h M6 eM6
  refine lv_aload_n hx hb dX7_noTurns_32 rfl (lv_at hl 1 rfl) ?_
  refine lv_iload_n hx hb dX7_noTurns_33 rfl (lv_at hl 0 rfl) ?_
  refine rc_Vi (As := [.int x1_3]) (rest := []) ⟨hx, hb, hml, hown, hts⟩ (mX7_acted l G j0a x1_3 M6 _ hk_j0a h) (cwV 1 hts (gV_X7_acted q_8_2) rfl rfl rfl hdV_X7_acted ⟨Nat.le_of_ble_eq_true rfl, Nat.le_of_ble_eq_true rfl⟩) hK hP hS hk_j0a (by decide) cl_7 rfl hl.1 rfl (Nat.le_of_ble_eq_true rfl) dX7_noTurns_34 ⟨Nat.zero_le _, Nat.zero_le _⟩ (fun r8 M7 H locs h hP hS => ?_)
  exact re_i hx hb hr hlocks hP hS h dX7_noTurns_37
set_option maxHeartbeats 4000000 in
set_option maxRecDepth 100000 in
theorem mX7_isBelow (l : Launch) (G : Gp) (j0a : Nat) (x1a : Int32) (x2a : Int32) (x3a : Int32) (M : Mm) (Post : Mm → Int32 → Prop) (hk_j0a : kd j0a = 7) (h : wX7_isBelow Post M j0a x1a x2a x3a) : CtI l yX7_isBelow wsX7_isBelow rX7_isBelow G [.ref (G.2.1 + j0a), .int x1a, .int x2a, .int x3a] M Post := by
  refine Met.ofW (cc := cX7_isBelow) (maxL := 5) (ret := (some .boolean)) (by decide) rfl ?_
  intro p e s m args below meth c s₁ B hml hv
  obtain ⟨rfl, hK, hP⟩ := hv
  have hx := B.exec
  have hb := B.bytes
  have hr := B.returns
  have hlocks := B.notSynchronized
  have hts0 := atoms_spec (ws := wsX7_isBelow) B.pre
  have hts : ∀ w ∈ wsL_law, w.before _ s = true := fun w hw => hts0 w (List.mem_cons_of_mem _ hw)
  have hown : s.vm.findClass RX7 = some m.cls := findClass_of_methodNamed B.named
  have hS : va_S (Fr G) s.heap s.heap [] := va_S.rf
  have hl := lv_entry ([.ref (G.2.1 + j0a), .int x1a, .int x2a, .int x3a]) (n := 5) (Nat.le_of_ble_eq_true rfl)
  rw [lg_entry_eq]
  generalize (lg_sl ([.ref (G.2.1 + j0a), .int x1a, .int x2a, .int x3a]) ++ List.replicate (5 - (lg_sl ([.ref (G.2.1 + j0a), .int x1a, .int x2a, .int x3a])).length) Slot.unset).toArray = ls at hl ⊢
  have hl : lv_has ls 5 [(0, .ref (G.2.1 + j0a)), (1, .int x1a), (2, .int x2a), (3, .int x3a)] := hl
  have B24 : ∀ (A3 : Mm → Nat → Int32 → Int32 → Int32 → Int32 → Prop) (_ : ∀ (M : Mm) (j0 : Nat) (x1 : Int32) (x2 : Int32) (x3 : Int32) (x4 : Int32) (H : Heap) (locs : List Loc) (ls : Array Slot), Rp G M H → va_S (Fr G) s.heap H locs → lv_has ls 5 [(0, .ref (G.2.1 + j0)), (1, .int x1), (2, .int x2), (3, .int x3), (4, .int x4)] → kd j0 = 7 → A3 M j0 x1 x2 x3 x4 → Wi p l e (headSpec wsX7_isBelow rX7_isBelow).room s m [.ref (G.2.1 + j0a), .int x1a, .int x2a, .int x3a].toArray below meth c G Post H locs (F0 m 3 ls [])), ∀ (M : Mm) (j0 : Nat) (x1 : Int32) (x2 : Int32) (x3 : Int32) (x4 : Int32) (H : Heap) (locs : List Loc) (ls : Array Slot), Rp G M H → va_S (Fr G) s.heap H locs → lv_has ls 5 [(0, .ref (G.2.1 + j0)), (1, .int x1), (2, .int x2), (3, .int x3), (4, .int x4)] → kd j0 = 7 → bX7_isBelow_24 Post A3 M j0 x1 x2 x3 x4 → Wi p l e (headSpec wsX7_isBelow rX7_isBelow).room s m [.ref (G.2.1 + j0a), .int x1a, .int x2a, .int x3a].toArray below meth c G Post H locs (F0 m 24 ls []) := by
    intro A3 hA3 M j0 x1 x2 x3 x4 H locs ls hP hS hl hk_j0 h
    unfold bX7_isBelow_24 at h
    refine lv_aload_n hx hb dX7_isBelow_24 rfl (lv_at hl 0 rfl) ?_
    refine lv_iload hx hb dX7_isBelow_25 (lv_at hl 4 rfl) ?_
    refine lv_iconst (v := (0 : Int32)) hx hb dX7_isBelow_27 k_iconst_0 ?_
    refine rc_Vi (As := [.int x4, .int (0 : Int32)]) (rest := []) ⟨hx, hb, hml, hown, hts⟩ (mX7_ca l G j0 x4 (0 : Int32) M _ hk_j0 h) (cwV 2 hts (gV_X7_ca q_10_4) rfl rfl rfl hdV_X7_ca ⟨Nat.le_of_ble_eq_true rfl, Nat.le_of_ble_eq_true rfl⟩) hK hP hS hk_j0 (by decide) cl_7 rfl hl.1 rfl (Nat.le_of_ble_eq_true rfl) dX7_isBelow_28 ⟨Nat.zero_le _, Nat.zero_le _⟩ (fun r8 M7 H locs h hP hS => ?_)
    refine lv_istore (lv' := [(4, .int r8), (0, .ref (G.2.1 + j0)), (1, .int x1), (2, .int x2), (3, .int x3)]) hx hb dX7_isBelow_31 hl (by decide) rfl (fun ls hl => ?_)
    refine lv_goto (tgt := 3) hx hb dX7_isBelow_33 (by decide) ?_
    exact hA3 _ _ _ _ _ _ _ _ _ hP hS (lv_sub hl [1, 2, 3, 4, 0] rfl) hk_j0 h
  have B36 : ∀ (M : Mm) (x1 : Int32) (x2 : Int32) (x4 : Int32) (H : Heap) (locs : List Loc) (ls : Array Slot), Rp G M H → va_S (Fr G) s.heap H locs → lv_has ls 5 [(1, .int x1), (2, .int x2), (4, .int x4)] → bX7_isBelow_36 Post M x1 x2 x4 → Wi p l e (headSpec wsX7_isBelow rX7_isBelow).room s m [.ref (G.2.1 + j0a), .int x1a, .int x2a, .int x3a].toArray below meth c G Post H locs (F0 m 36 ls []) := by
    intro M x1 x2 x4 H locs ls hP hS hl h
    unfold bX7_isBelow_36 at h
    refine lv_iload hx hb dX7_isBelow_36 (lv_at hl 2 rfl) ?_
    refine lv_iload_n hx hb dX7_isBelow_38 rfl (lv_at hl 1 rfl) ?_
    refine lv_icmp_ne (tgt := 51) hx hb dX7_isBelow_39 (by decide) (fun c9 => ?_) (fun c9 => ?_)
    · replace h := h.1 c9
      refine lv_iconst (v := (0 : Int32)) hx hb dX7_isBelow_51 k_iconst_0 ?_
      exact re_z hx hb hr hlocks (Or.inl rfl) hP hS h dX7_isBelow_52
    · replace h := h.2 c9
      refine lv_iload_n hx hb dX7_isBelow_42 rfl (lv_at hl 0 rfl) ?_
      refine lv_iload_n hx hb dX7_isBelow_43 rfl (lv_at hl 1 rfl) ?_
      refine lv_icmp_eq (tgt := 51) hx hb dX7_isBelow_44 (by decide) (fun c10 => ?_) (fun c10 => ?_)
      · replace h := h.1 c10
        refine lv_iconst (v := (0 : Int32)) hx hb dX7_isBelow_51 k_iconst_0 ?_
        exact re_z hx hb hr hlocks (Or.inl rfl) hP hS h dX7_isBelow_52
      · replace h := h.2 c10
        refine lv_iconst (v := (1 : Int32)) hx hb dX7_isBelow_47 k_iconst_1 ?_
        refine lv_goto (tgt := 52) hx hb dX7_isBelow_48 (by decide) ?_
        exact re_z hx hb hr hlocks (Or.inr rfl) hP hS h dX7_isBelow_52
  have B3 : ∀ n : Nat, ∀ (M : Mm) (j0 : Nat) (x1 : Int32) (x2 : Int32) (x3 : Int32) (x4 : Int32) (H : Heap) (locs : List Loc) (ls : Array Slot), Rp G M H → va_S (Fr G) s.heap H locs → lv_has ls 5 [(0, .ref (G.2.1 + j0)), (1, .int x1), (2, .int x2), (3, .int x3), (4, .int x4)] → kd j0 = 7 → lX7_isBelow_3 Post n M j0 x1 x2 x3 x4 → Wi p l e (headSpec wsX7_isBelow rX7_isBelow).room s m [.ref (G.2.1 + j0a), .int x1a, .int x2a, .int x3a].toArray below meth c G Post H locs (F0 m 3 ls []) := by
    intro n
    induction n with
    | zero => intro M j0 x1 x2 x3 x4 H locs ls hP hS hl hk_j0 h; exact h.elim
    | succ n ih =>
      intro M j0 x1 x2 x3 x4 H locs ls hP hS hl hk_j0 h
      have hA3 := ih
      replace h : bX7_isBelow_3 Post (lX7_isBelow_3 Post n) M j0 x1 x2 x3 x4 := h
      unfold bX7_isBelow_3 at h
      refine lv_iload hx hb dX7_isBelow_3 (lv_at hl 4 rfl) ?_
      refine lv_iload_n hx hb dX7_isBelow_5 rfl (lv_at hl 2 rfl) ?_
      refine lv_icmp_le (tgt := 36) hx hb dX7_isBelow_6 (by decide) (fun c2 => ?_) (fun c2 => ?_)
      · replace h := h.1 c2
        exact B36 _ _ _ _ _ _ _ hP hS (lv_sub hl [1, 2, 4] rfl) h
      · replace h := h.2 c2
        refine lv_iload_n hx hb dX7_isBelow_9 rfl (lv_at hl 3 rfl) ?_
        refine lv_if_eq (tgt := 24) hx hb dX7_isBelow_10 (by decide) (fun c3 => ?_) (fun c3 => ?_)
        · replace h := h.1 c3
          exact B24 _ hA3 _ _ _ _ _ _ _ _ _ hP hS (lv_sub hl [0, 1, 2, 3, 4] rfl) hk_j0 h
        · replace h := h.2 c3
          refine lv_aload_n hx hb dX7_isBelow_13 rfl (lv_at hl 0 rfl) ?_
          refine lv_iload hx hb dX7_isBelow_14 (lv_at hl 4 rfl) ?_
          refine lv_iconst (v := (4 : Int32)) hx hb dX7_isBelow_16 k_iconst_4 ?_
          refine rc_Vi (As := [.int x4, .int (4 : Int32)]) (rest := []) ⟨hx, hb, hml, hown, hts⟩ (mX7_ca l G j0 x4 (4 : Int32) M _ hk_j0 h) (cwV 2 hts (gV_X7_ca q_10_4) rfl rfl rfl hdV_X7_ca ⟨Nat.le_of_ble_eq_true rfl, Nat.le_of_ble_eq_true rfl⟩) hK hP hS hk_j0 (by decide) cl_7 rfl hl.1 rfl (Nat.le_of_ble_eq_true rfl) dX7_isBelow_17 ⟨Nat.zero_le _, Nat.zero_le _⟩ (fun r5 M4 H locs h hP hS => ?_)
          refine lv_iconst (v := (1 : Int32)) hx hb dX7_isBelow_20 k_iconst_1 ?_
          refine lv_icmp_ne (tgt := 36) hx hb dX7_isBelow_21 (by decide) (fun c6 => ?_) (fun c6 => ?_)
          · replace h := h.1 c6
            exact B36 _ _ _ _ _ _ _ hP hS (lv_sub hl [1, 2, 4] rfl) h
          · replace h := h.2 c6
            exact B24 _ hA3 _ _ _ _ _ _ _ _ _ hP hS (lv_sub hl [0, 1, 2, 3, 4] rfl) hk_j0 h
  unfold wX7_isBelow at h
  refine lv_iload_n hx hb dX7_isBelow_0 rfl (lv_at hl 1 rfl) ?_
  refine lv_istore (lv' := [(4, .int x1a), (0, .ref (G.2.1 + j0a)), (1, .int x1a), (2, .int x2a), (3, .int x3a)]) hx hb dX7_isBelow_1 hl (by decide) rfl (fun ls hl => ?_)
  obtain ⟨n1, h⟩ := h
  exact B3 _ _ _ _ _ _ _ _ _ _ hP hS (lv_sub hl [1, 2, 3, 4, 0] rfl) hk_j0a h
set_option maxHeartbeats 4000000 in
set_option maxRecDepth 100000 in
theorem mX7_mayTake (l : Launch) (G : Gp) (j0a : Nat) (x1a : Int32) (M : Mm) (Post : Mm → Int32 → Prop) (hk_j0a : kd j0a = 7) (h : wX7_mayTake Post M j0a x1a) : CtI l yX7_mayTake wsX7_mayTake rX7_mayTake G [.ref (G.2.1 + j0a), .int x1a] M Post := by
  refine Met.ofW (cc := cX7_mayTake) (maxL := 4) (ret := (some .boolean)) (by decide) rfl ?_
  intro p e s m args below meth c s₁ B hml hv
  obtain ⟨rfl, hK, hP⟩ := hv
  have hx := B.exec
  have hb := B.bytes
  have hr := B.returns
  have hlocks := B.notSynchronized
  have hts0 := atoms_spec (ws := wsX7_mayTake) B.pre
  have hts : ∀ w ∈ wsL_law, w.before _ s = true := fun w hw => hts0 w (List.mem_cons_of_mem _ hw)
  have hown : s.vm.findClass RX7 = some m.cls := findClass_of_methodNamed B.named
  have hS : va_S (Fr G) s.heap s.heap [] := va_S.rf
  have hl := lv_entry ([.ref (G.2.1 + j0a), .int x1a]) (n := 4) (Nat.le_of_ble_eq_true rfl)
  rw [lg_entry_eq]
  generalize (lg_sl ([.ref (G.2.1 + j0a), .int x1a]) ++ List.replicate (4 - (lg_sl ([.ref (G.2.1 + j0a), .int x1a])).length) Slot.unset).toArray = ls at hl ⊢
  have hl : lv_has ls 4 [(0, .ref (G.2.1 + j0a)), (1, .int x1a)] := hl
  have B4 : ∀ n : Nat, ∀ (M : Mm) (j0 : Nat) (x1 : Int32) (x2 : Int32) (x3 : Int32) (H : Heap) (locs : List Loc) (ls : Array Slot), Rp G M H → va_S (Fr G) s.heap H locs → lv_has ls 4 [(0, .ref (G.2.1 + j0)), (1, .int x1), (2, .int x2), (3, .int x3)] → kd j0 = 7 → lX7_mayTake_4 Post n M j0 x1 x2 x3 → Wi p l e (headSpec wsX7_mayTake rX7_mayTake).room s m [.ref (G.2.1 + j0a), .int x1a].toArray below meth c G Post H locs (F0 m 4 ls []) := by
    intro n
    induction n with
    | zero => intro M j0 x1 x2 x3 H locs ls hP hS hl hk_j0 h; exact h.elim
    | succ n ih =>
      intro M j0 x1 x2 x3 H locs ls hP hS hl hk_j0 h
      have hA4 := ih
      replace h : bX7_mayTake_4 Post (lX7_mayTake_4 Post n) M j0 x1 x2 x3 := h
      unfold bX7_mayTake_4 at h
      refine lv_iload_n hx hb dX7_mayTake_4 rfl (lv_at hl 3 rfl) ?_
      refine lv_aload_n hx hb dX7_mayTake_5 rfl (lv_at hl 0 rfl) ?_
      refine rk_getr hx hb hts inlX7 hown hK hP hk_j0 cl_7 0 1 fq_7_0 q_4_13 rfl dX7_mayTake_6 ?_
      refine lv_iconst (v := (1 : Int32)) hx hb dX7_mayTake_9 k_iconst_1 ?_
      refine rk_iald hx hb hK hP (ky_7_0 hk_j0) ac_12 1 ix_1 vi_1_168 dX7_mayTake_10 ?_
      refine lv_icmp_ge (tgt := 75) hx hb dX7_mayTake_11 (by decide) (fun c2 => ?_) (fun c2 => ?_)
      · replace h := h.1 c2
        refine lv_iload_n hx hb dX7_mayTake_75 rfl (lv_at hl 2 rfl) ?_
        exact re_z hx hb hr hlocks h.1 hP hS h.2 dX7_mayTake_76
      · replace h := h.2 c2
        refine lv_iload_n hx hb dX7_mayTake_14 rfl (lv_at hl 2 rfl) ?_
        refine lv_if_eq (tgt := 67) hx hb dX7_mayTake_15 (by decide) (fun c3 => ?_) (fun c3 => ?_)
        · replace h := h.1 c3
          refine lv_iconst (v := (0 : Int32)) hx hb dX7_mayTake_67 k_iconst_0 ?_
          refine lv_istore_n (lv' := [(2, .int (0 : Int32)), (0, .ref (G.2.1 + j0)), (1, .int x1), (3, .int x3)]) hx hb dX7_mayTake_68 rfl hl (by decide) rfl (fun ls hl => ?_)
          obtain ⟨x3_4, ex3_4⟩ : ∃ y : Int32, y = x3 + (1 : Int32) := ⟨_, rfl⟩
          replace h := h x3_4 ex3_4
          refine lv_iinc (v := x3_4) (lv' := [(3, .int x3_4), (2, .int (0 : Int32)), (0, .ref (G.2.1 + j0)), (1, .int x1)]) hx hb dX7_mayTake_69 hl (k := 3) rfl (by rw [ex3_4]; rfl) (by decide) rfl (fun ls hl => ?_)
          refine lv_goto (tgt := 4) hx hb dX7_mayTake_72 (by decide) ?_
          exact hA4 _ _ _ _ _ _ _ _ hP hS (lv_sub hl [2, 3, 1, 0] rfl) hk_j0 h
        · replace h := h.2 c3
          refine lv_aload_n hx hb dX7_mayTake_18 rfl (lv_at hl 0 rfl) ?_
          refine lv_iload_n hx hb dX7_mayTake_19 rfl (lv_at hl 3 rfl) ?_
          refine lv_iconst (v := (5 : Int32)) hx hb dX7_mayTake_20 k_iconst_5 ?_
          refine rc_Vi (As := [.int x3, .int (5 : Int32)]) (rest := []) ⟨hx, hb, hml, hown, hts⟩ (mX7_fi l G j0 x3 (5 : Int32) M _ hk_j0 h) (cwV 2 hts (gV_X7_fi q_14_8) rfl rfl rfl hdV_X7_fi ⟨Nat.le_of_ble_eq_true rfl, Nat.le_of_ble_eq_true rfl⟩) hK hP hS hk_j0 (by decide) cl_7 rfl hl.1 rfl (Nat.le_of_ble_eq_true rfl) dX7_mayTake_21 ⟨Nat.zero_le _, Nat.zero_le _⟩ (fun r6 M5 H locs h hP hS => ?_)
          refine lv_iconst (v := (1 : Int32)) hx hb dX7_mayTake_24 k_iconst_1 ?_
          refine lv_icmp_ne (tgt := 63) hx hb dX7_mayTake_25 (by decide) (fun c7 => ?_) (fun c7 => ?_)
          · replace h := h.1 c7
            refine lv_iconst (v := (1 : Int32)) hx hb dX7_mayTake_63 k_iconst_1 ?_
            refine lv_goto (tgt := 68) hx hb dX7_mayTake_64 (by decide) ?_
            refine lv_istore_n (lv' := [(2, .int (1 : Int32)), (0, .ref (G.2.1 + j0)), (1, .int x1), (3, .int x3)]) hx hb dX7_mayTake_68 rfl hl (by decide) rfl (fun ls hl => ?_)
            obtain ⟨x3_8, ex3_8⟩ : ∃ y : Int32, y = x3 + (1 : Int32) := ⟨_, rfl⟩
            replace h := h x3_8 ex3_8
            refine lv_iinc (v := x3_8) (lv' := [(3, .int x3_8), (2, .int (1 : Int32)), (0, .ref (G.2.1 + j0)), (1, .int x1)]) hx hb dX7_mayTake_69 hl (k := 3) rfl (by rw [ex3_8]; rfl) (by decide) rfl (fun ls hl => ?_)
            refine lv_goto (tgt := 4) hx hb dX7_mayTake_72 (by decide) ?_
            exact hA4 _ _ _ _ _ _ _ _ hP hS (lv_sub hl [2, 3, 1, 0] rfl) hk_j0 h
          · replace h := h.2 c7
            refine lv_aload_n hx hb dX7_mayTake_28 rfl (lv_at hl 0 rfl) ?_
            refine lv_iload_n hx hb dX7_mayTake_29 rfl (lv_at hl 3 rfl) ?_
            refine lv_iconst (v := (3 : Int32)) hx hb dX7_mayTake_30 k_iconst_3 ?_
            refine rc_Vi (As := [.int x3, .int (3 : Int32)]) (rest := []) ⟨hx, hb, hml, hown, hts⟩ (mX7_fi l G j0 x3 (3 : Int32) M5 _ hk_j0 h) (cwV 2 hts (gV_X7_fi q_14_8) rfl rfl rfl hdV_X7_fi ⟨Nat.le_of_ble_eq_true rfl, Nat.le_of_ble_eq_true rfl⟩) hK hP hS hk_j0 (by decide) cl_7 rfl hl.1 rfl (Nat.le_of_ble_eq_true rfl) dX7_mayTake_31 ⟨Nat.zero_le _, Nat.zero_le _⟩ (fun r10 M9 H locs h hP hS => ?_)
            refine lv_aload_n hx hb dX7_mayTake_34 rfl (lv_at hl 0 rfl) ?_
            refine lv_iload_n hx hb dX7_mayTake_35 rfl (lv_at hl 1 rfl) ?_
            refine lv_iconst (v := (3 : Int32)) hx hb dX7_mayTake_36 k_iconst_3 ?_
            refine rc_Vi (As := [.int x1, .int (3 : Int32)]) (rest := [.int r10]) ⟨hx, hb, hml, hown, hts⟩ (mX7_fi l G j0 x1 (3 : Int32) M9 _ hk_j0 h) (cwV 2 hts (gV_X7_fi q_14_8) rfl rfl rfl hdV_X7_fi ⟨Nat.le_of_ble_eq_true rfl, Nat.le_of_ble_eq_true rfl⟩) hK hP hS hk_j0 (by decide) cl_7 rfl hl.1 rfl (Nat.le_of_ble_eq_true rfl) dX7_mayTake_37 ⟨Nat.zero_le _, Nat.zero_le _⟩ (fun r12 M11 H locs h hP hS => ?_)
            refine lv_icmp_ge (tgt := 63) hx hb dX7_mayTake_40 (by decide) (fun c13 => ?_) (fun c13 => ?_)
            · replace h := h.1 c13
              refine lv_iconst (v := (1 : Int32)) hx hb dX7_mayTake_63 k_iconst_1 ?_
              refine lv_goto (tgt := 68) hx hb dX7_mayTake_64 (by decide) ?_
              refine lv_istore_n (lv' := [(2, .int (1 : Int32)), (0, .ref (G.2.1 + j0)), (1, .int x1), (3, .int x3)]) hx hb dX7_mayTake_68 rfl hl (by decide) rfl (fun ls hl => ?_)
              obtain ⟨x3_14, ex3_14⟩ : ∃ y : Int32, y = x3 + (1 : Int32) := ⟨_, rfl⟩
              replace h := h x3_14 ex3_14
              refine lv_iinc (v := x3_14) (lv' := [(3, .int x3_14), (2, .int (1 : Int32)), (0, .ref (G.2.1 + j0)), (1, .int x1)]) hx hb dX7_mayTake_69 hl (k := 3) rfl (by rw [ex3_14]; rfl) (by decide) rfl (fun ls hl => ?_)
              refine lv_goto (tgt := 4) hx hb dX7_mayTake_72 (by decide) ?_
              exact hA4 _ _ _ _ _ _ _ _ hP hS (lv_sub hl [2, 3, 1, 0] rfl) hk_j0 h
            · replace h := h.2 c13
              refine lv_aload_n hx hb dX7_mayTake_43 rfl (lv_at hl 0 rfl) ?_
              refine lv_aload_n hx hb dX7_mayTake_44 rfl (lv_at hl 0 rfl) ?_
              refine lv_iload_n hx hb dX7_mayTake_45 rfl (lv_at hl 3 rfl) ?_
              refine lv_iconst (v := (0 : Int32)) hx hb dX7_mayTake_46 k_iconst_0 ?_
              refine rc_Vi (As := [.int x3, .int (0 : Int32)]) (rest := [.ref (G.2.1 + j0)]) ⟨hx, hb, hml, hown, hts⟩ (mX7_fi l G j0 x3 (0 : Int32) M11 _ hk_j0 h) (cwV 2 hts (gV_X7_fi q_14_8) rfl rfl rfl hdV_X7_fi ⟨Nat.le_of_ble_eq_true rfl, Nat.le_of_ble_eq_true rfl⟩) hK hP hS hk_j0 (by decide) cl_7 rfl hl.1 rfl (Nat.le_of_ble_eq_true rfl) dX7_mayTake_47 ⟨Nat.zero_le _, Nat.zero_le _⟩ (fun r16 M15 H locs h hP hS => ?_)
              refine lv_aload_n hx hb dX7_mayTake_50 rfl (lv_at hl 0 rfl) ?_
              refine lv_iload_n hx hb dX7_mayTake_51 rfl (lv_at hl 1 rfl) ?_
              refine lv_iconst (v := (0 : Int32)) hx hb dX7_mayTake_52 k_iconst_0 ?_
              refine rc_Vi (As := [.int x1, .int (0 : Int32)]) (rest := [.int r16, .ref (G.2.1 + j0)]) ⟨hx, hb, hml, hown, hts⟩ (mX7_fi l G j0 x1 (0 : Int32) M15 _ hk_j0 h) (cwV 2 hts (gV_X7_fi q_14_8) rfl rfl rfl hdV_X7_fi ⟨Nat.le_of_ble_eq_true rfl, Nat.le_of_ble_eq_true rfl⟩) hK hP hS hk_j0 (by decide) cl_7 rfl hl.1 rfl (Nat.le_of_ble_eq_true rfl) dX7_mayTake_53 ⟨Nat.zero_le _, Nat.zero_le _⟩ (fun r18 M17 H locs h hP hS => ?_)
              refine lv_iconst (v := (1 : Int32)) hx hb dX7_mayTake_56 k_iconst_1 ?_
              refine rc_Vi (As := [.int r16, .int r18, .int (1 : Int32)]) (rest := []) ⟨hx, hb, hml, hown, hts⟩ (mX7_isBelow l G j0 r16 r18 (1 : Int32) M17 _ hk_j0 h) (cwV 3 hts (gV_X7_isBelow q_20_23) rfl rfl rfl hdV_X7_isBelow ⟨Nat.le_of_ble_eq_true rfl, Nat.le_of_ble_eq_true rfl⟩) hK hP hS hk_j0 (by decide) cl_7 rfl hl.1 rfl (Nat.le_of_ble_eq_true rfl) dX7_mayTake_57 ⟨Nat.zero_le _, Nat.zero_le _⟩ (fun r20 M19 H locs h hP hS => ?_)
              refine lv_if_ne (tgt := 67) hx hb dX7_mayTake_60 (by decide) (fun c21 => ?_) (fun c21 => ?_)
              · replace h := h.1 c21
                refine lv_iconst (v := (0 : Int32)) hx hb dX7_mayTake_67 k_iconst_0 ?_
                refine lv_istore_n (lv' := [(2, .int (0 : Int32)), (0, .ref (G.2.1 + j0)), (1, .int x1), (3, .int x3)]) hx hb dX7_mayTake_68 rfl hl (by decide) rfl (fun ls hl => ?_)
                obtain ⟨x3_22, ex3_22⟩ : ∃ y : Int32, y = x3 + (1 : Int32) := ⟨_, rfl⟩
                replace h := h x3_22 ex3_22
                refine lv_iinc (v := x3_22) (lv' := [(3, .int x3_22), (2, .int (0 : Int32)), (0, .ref (G.2.1 + j0)), (1, .int x1)]) hx hb dX7_mayTake_69 hl (k := 3) rfl (by rw [ex3_22]; rfl) (by decide) rfl (fun ls hl => ?_)
                refine lv_goto (tgt := 4) hx hb dX7_mayTake_72 (by decide) ?_
                exact hA4 _ _ _ _ _ _ _ _ hP hS (lv_sub hl [2, 3, 1, 0] rfl) hk_j0 h
              · replace h := h.2 c21
                refine lv_iconst (v := (1 : Int32)) hx hb dX7_mayTake_63 k_iconst_1 ?_
                refine lv_goto (tgt := 68) hx hb dX7_mayTake_64 (by decide) ?_
                refine lv_istore_n (lv' := [(2, .int (1 : Int32)), (0, .ref (G.2.1 + j0)), (1, .int x1), (3, .int x3)]) hx hb dX7_mayTake_68 rfl hl (by decide) rfl (fun ls hl => ?_)
                obtain ⟨x3_23, ex3_23⟩ : ∃ y : Int32, y = x3 + (1 : Int32) := ⟨_, rfl⟩
                replace h := h x3_23 ex3_23
                refine lv_iinc (v := x3_23) (lv' := [(3, .int x3_23), (2, .int (1 : Int32)), (0, .ref (G.2.1 + j0)), (1, .int x1)]) hx hb dX7_mayTake_69 hl (k := 3) rfl (by rw [ex3_23]; rfl) (by decide) rfl (fun ls hl => ?_)
                refine lv_goto (tgt := 4) hx hb dX7_mayTake_72 (by decide) ?_
                exact hA4 _ _ _ _ _ _ _ _ hP hS (lv_sub hl [2, 3, 1, 0] rfl) hk_j0 h
  unfold wX7_mayTake at h
  refine lv_iconst (v := (1 : Int32)) hx hb dX7_mayTake_0 k_iconst_1 ?_
  refine lv_istore_n (lv' := [(2, .int (1 : Int32)), (0, .ref (G.2.1 + j0a)), (1, .int x1a)]) hx hb dX7_mayTake_1 rfl hl (by decide) rfl (fun ls hl => ?_)
  refine lv_iconst (v := (0 : Int32)) hx hb dX7_mayTake_2 k_iconst_0 ?_
  refine lv_istore_n (lv' := [(3, .int (0 : Int32)), (2, .int (1 : Int32)), (0, .ref (G.2.1 + j0a)), (1, .int x1a)]) hx hb dX7_mayTake_3 rfl hl (by decide) rfl (fun ls hl => ?_)
  obtain ⟨n1, h⟩ := h
  exact B4 _ _ _ _ _ _ _ _ _ hP hS (lv_sub hl [2, 3, 1, 0] rfl) hk_j0a h
set_option maxHeartbeats 4000000 in
set_option maxRecDepth 100000 in
theorem mX7_isWanted (l : Launch) (G : Gp) (j0a : Nat) (x1a : Int32) (M : Mm) (Post : Mm → Int32 → Prop) (hk_j0a : kd j0a = 7) (h : wX7_isWanted Post M j0a x1a) : CtI l yX7_isWanted wsX7_isWanted rX7_isWanted G [.ref (G.2.1 + j0a), .int x1a] M Post := by
  refine Met.ofW (cc := cX7_isWanted) (maxL := 4) (ret := (some .boolean)) (by decide) rfl ?_
  intro p e s m args below meth c s₁ B hml hv
  obtain ⟨rfl, hK, hP⟩ := hv
  have hx := B.exec
  have hb := B.bytes
  have hr := B.returns
  have hlocks := B.notSynchronized
  have hts0 := atoms_spec (ws := wsX7_isWanted) B.pre
  have hts : ∀ w ∈ wsL_law, w.before _ s = true := fun w hw => hts0 w (List.mem_cons_of_mem _ hw)
  have hown : s.vm.findClass RX7 = some m.cls := findClass_of_methodNamed B.named
  have hS : va_S (Fr G) s.heap s.heap [] := va_S.rf
  have hl := lv_entry ([.ref (G.2.1 + j0a), .int x1a]) (n := 4) (Nat.le_of_ble_eq_true rfl)
  rw [lg_entry_eq]
  generalize (lg_sl ([.ref (G.2.1 + j0a), .int x1a]) ++ List.replicate (4 - (lg_sl ([.ref (G.2.1 + j0a), .int x1a])).length) Slot.unset).toArray = ls at hl ⊢
  have hl : lv_has ls 4 [(0, .ref (G.2.1 + j0a)), (1, .int x1a)] := hl
  have B4 : ∀ n : Nat, ∀ (M : Mm) (j0 : Nat) (x1 : Int32) (x2 : Int32) (x3 : Int32) (H : Heap) (locs : List Loc) (ls : Array Slot), Rp G M H → va_S (Fr G) s.heap H locs → lv_has ls 4 [(0, .ref (G.2.1 + j0)), (1, .int x1), (2, .int x2), (3, .int x3)] → kd j0 = 7 → lX7_isWanted_4 Post n M j0 x1 x2 x3 → Wi p l e (headSpec wsX7_isWanted rX7_isWanted).room s m [.ref (G.2.1 + j0a), .int x1a].toArray below meth c G Post H locs (F0 m 4 ls []) := by
    intro n
    induction n with
    | zero => intro M j0 x1 x2 x3 H locs ls hP hS hl hk_j0 h; exact h.elim
    | succ n ih =>
      intro M j0 x1 x2 x3 H locs ls hP hS hl hk_j0 h
      have hA4 := ih
      replace h : bX7_isWanted_4 Post (lX7_isWanted_4 Post n) M j0 x1 x2 x3 := h
      unfold bX7_isWanted_4 at h
      refine lv_iload_n hx hb dX7_isWanted_4 rfl (lv_at hl 3 rfl) ?_
      refine lv_aload_n hx hb dX7_isWanted_5 rfl (lv_at hl 0 rfl) ?_
      refine rk_getr hx hb hts inlX7 hown hK hP hk_j0 cl_7 0 1 fq_7_0 q_4_13 rfl dX7_isWanted_6 ?_
      refine lv_iconst (v := (1 : Int32)) hx hb dX7_isWanted_9 k_iconst_1 ?_
      refine rk_iald hx hb hK hP (ky_7_0 hk_j0) ac_12 1 ix_1 vi_1_168 dX7_isWanted_10 ?_
      refine lv_icmp_ge (tgt := 63) hx hb dX7_isWanted_11 (by decide) (fun c2 => ?_) (fun c2 => ?_)
      · replace h := h.1 c2
        refine lv_iload_n hx hb dX7_isWanted_63 rfl (lv_at hl 2 rfl) ?_
        exact re_z hx hb hr hlocks h.1 hP hS h.2 dX7_isWanted_64
      · replace h := h.2 c2
        refine lv_iload_n hx hb dX7_isWanted_14 rfl (lv_at hl 2 rfl) ?_
        refine lv_if_ne (tgt := 51) hx hb dX7_isWanted_15 (by decide) (fun c3 => ?_) (fun c3 => ?_)
        · replace h := h.1 c3
          refine lv_iconst (v := (1 : Int32)) hx hb dX7_isWanted_51 k_iconst_1 ?_
          refine lv_goto (tgt := 56) hx hb dX7_isWanted_52 (by decide) ?_
          refine lv_istore_n (lv' := [(2, .int (1 : Int32)), (0, .ref (G.2.1 + j0)), (1, .int x1), (3, .int x3)]) hx hb dX7_isWanted_56 rfl hl (by decide) rfl (fun ls hl => ?_)
          obtain ⟨x3_4, ex3_4⟩ : ∃ y : Int32, y = x3 + (1 : Int32) := ⟨_, rfl⟩
          replace h := h x3_4 ex3_4
          refine lv_iinc (v := x3_4) (lv' := [(3, .int x3_4), (2, .int (1 : Int32)), (0, .ref (G.2.1 + j0)), (1, .int x1)]) hx hb dX7_isWanted_57 hl (k := 3) rfl (by rw [ex3_4]; rfl) (by decide) rfl (fun ls hl => ?_)
          refine lv_goto (tgt := 4) hx hb dX7_isWanted_60 (by decide) ?_
          exact hA4 _ _ _ _ _ _ _ _ hP hS (lv_sub hl [2, 3, 1, 0] rfl) hk_j0 h
        · replace h := h.2 c3
          refine lv_aload_n hx hb dX7_isWanted_18 rfl (lv_at hl 0 rfl) ?_
          refine lv_iload_n hx hb dX7_isWanted_19 rfl (lv_at hl 3 rfl) ?_
          refine rc_Vi (As := [.int x3]) (rest := []) ⟨hx, hb, hml, hown, hts⟩ (mX7_wants l G j0 x3 M _ hk_j0 h) (cwV 1 hts (gV_X7_wants q_14_12) rfl rfl rfl hdV_X7_wants ⟨Nat.le_of_ble_eq_true rfl, Nat.le_of_ble_eq_true rfl⟩) hK hP hS hk_j0 (by decide) cl_7 rfl hl.1 rfl (Nat.le_of_ble_eq_true rfl) dX7_isWanted_20 ⟨Nat.zero_le _, Nat.zero_le _⟩ (fun r6 M5 H locs h hP hS => ?_)
          refine lv_if_eq (tgt := 55) hx hb dX7_isWanted_23 (by decide) (fun c7 => ?_) (fun c7 => ?_)
          · replace h := h.1 c7
            refine lv_iconst (v := (0 : Int32)) hx hb dX7_isWanted_55 k_iconst_0 ?_
            refine lv_istore_n (lv' := [(2, .int (0 : Int32)), (0, .ref (G.2.1 + j0)), (1, .int x1), (3, .int x3)]) hx hb dX7_isWanted_56 rfl hl (by decide) rfl (fun ls hl => ?_)
            obtain ⟨x3_8, ex3_8⟩ : ∃ y : Int32, y = x3 + (1 : Int32) := ⟨_, rfl⟩
            replace h := h x3_8 ex3_8
            refine lv_iinc (v := x3_8) (lv' := [(3, .int x3_8), (2, .int (0 : Int32)), (0, .ref (G.2.1 + j0)), (1, .int x1)]) hx hb dX7_isWanted_57 hl (k := 3) rfl (by rw [ex3_8]; rfl) (by decide) rfl (fun ls hl => ?_)
            refine lv_goto (tgt := 4) hx hb dX7_isWanted_60 (by decide) ?_
            exact hA4 _ _ _ _ _ _ _ _ hP hS (lv_sub hl [2, 3, 1, 0] rfl) hk_j0 h
          · replace h := h.2 c7
            refine lv_aload_n hx hb dX7_isWanted_26 rfl (lv_at hl 0 rfl) ?_
            refine lv_iload_n hx hb dX7_isWanted_27 rfl (lv_at hl 3 rfl) ?_
            refine lv_iconst (v := (0 : Int32)) hx hb dX7_isWanted_28 k_iconst_0 ?_
            refine rc_Vi (As := [.int x3, .int (0 : Int32)]) (rest := []) ⟨hx, hb, hml, hown, hts⟩ (mX7_fi l G j0 x3 (0 : Int32) M5 _ hk_j0 h) (cwV 2 hts (gV_X7_fi q_14_8) rfl rfl rfl hdV_X7_fi ⟨Nat.le_of_ble_eq_true rfl, Nat.le_of_ble_eq_true rfl⟩) hK hP hS hk_j0 (by decide) cl_7 rfl hl.1 rfl (Nat.le_of_ble_eq_true rfl) dX7_isWanted_29 ⟨Nat.zero_le _, Nat.zero_le _⟩ (fun r10 M9 H locs h hP hS => ?_)
            refine lv_iload_n hx hb dX7_isWanted_32 rfl (lv_at hl 1 rfl) ?_
            refine lv_icmp_eq (tgt := 51) hx hb dX7_isWanted_33 (by decide) (fun c11 => ?_) (fun c11 => ?_)
            · replace h := h.1 c11
              refine lv_iconst (v := (1 : Int32)) hx hb dX7_isWanted_51 k_iconst_1 ?_
              refine lv_goto (tgt := 56) hx hb dX7_isWanted_52 (by decide) ?_
              refine lv_istore_n (lv' := [(2, .int (1 : Int32)), (0, .ref (G.2.1 + j0)), (1, .int x1), (3, .int x3)]) hx hb dX7_isWanted_56 rfl hl (by decide) rfl (fun ls hl => ?_)
              obtain ⟨x3_12, ex3_12⟩ : ∃ y : Int32, y = x3 + (1 : Int32) := ⟨_, rfl⟩
              replace h := h x3_12 ex3_12
              refine lv_iinc (v := x3_12) (lv' := [(3, .int x3_12), (2, .int (1 : Int32)), (0, .ref (G.2.1 + j0)), (1, .int x1)]) hx hb dX7_isWanted_57 hl (k := 3) rfl (by rw [ex3_12]; rfl) (by decide) rfl (fun ls hl => ?_)
              refine lv_goto (tgt := 4) hx hb dX7_isWanted_60 (by decide) ?_
              exact hA4 _ _ _ _ _ _ _ _ hP hS (lv_sub hl [2, 3, 1, 0] rfl) hk_j0 h
            · replace h := h.2 c11
              refine lv_aload_n hx hb dX7_isWanted_36 rfl (lv_at hl 0 rfl) ?_
              refine lv_aload_n hx hb dX7_isWanted_37 rfl (lv_at hl 0 rfl) ?_
              refine lv_iload_n hx hb dX7_isWanted_38 rfl (lv_at hl 3 rfl) ?_
              refine lv_iconst (v := (0 : Int32)) hx hb dX7_isWanted_39 k_iconst_0 ?_
              refine rc_Vi (As := [.int x3, .int (0 : Int32)]) (rest := [.ref (G.2.1 + j0)]) ⟨hx, hb, hml, hown, hts⟩ (mX7_fi l G j0 x3 (0 : Int32) M9 _ hk_j0 h) (cwV 2 hts (gV_X7_fi q_14_8) rfl rfl rfl hdV_X7_fi ⟨Nat.le_of_ble_eq_true rfl, Nat.le_of_ble_eq_true rfl⟩) hK hP hS hk_j0 (by decide) cl_7 rfl hl.1 rfl (Nat.le_of_ble_eq_true rfl) dX7_isWanted_40 ⟨Nat.zero_le _, Nat.zero_le _⟩ (fun r14 M13 H locs h hP hS => ?_)
              refine lv_iload_n hx hb dX7_isWanted_43 rfl (lv_at hl 1 rfl) ?_
              refine lv_iconst (v := (0 : Int32)) hx hb dX7_isWanted_44 k_iconst_0 ?_
              refine rc_Vi (As := [.int r14, .int x1, .int (0 : Int32)]) (rest := []) ⟨hx, hb, hml, hown, hts⟩ (mX7_isBelow l G j0 r14 x1 (0 : Int32) M13 _ hk_j0 h) (cwV 3 hts (gV_X7_isBelow q_20_23) rfl rfl rfl hdV_X7_isBelow ⟨Nat.le_of_ble_eq_true rfl, Nat.le_of_ble_eq_true rfl⟩) hK hP hS hk_j0 (by decide) cl_7 rfl hl.1 rfl (Nat.le_of_ble_eq_true rfl) dX7_isWanted_45 ⟨Nat.zero_le _, Nat.zero_le _⟩ (fun r16 M15 H locs h hP hS => ?_)
              refine lv_if_eq (tgt := 55) hx hb dX7_isWanted_48 (by decide) (fun c17 => ?_) (fun c17 => ?_)
              · replace h := h.1 c17
                refine lv_iconst (v := (0 : Int32)) hx hb dX7_isWanted_55 k_iconst_0 ?_
                refine lv_istore_n (lv' := [(2, .int (0 : Int32)), (0, .ref (G.2.1 + j0)), (1, .int x1), (3, .int x3)]) hx hb dX7_isWanted_56 rfl hl (by decide) rfl (fun ls hl => ?_)
                obtain ⟨x3_18, ex3_18⟩ : ∃ y : Int32, y = x3 + (1 : Int32) := ⟨_, rfl⟩
                replace h := h x3_18 ex3_18
                refine lv_iinc (v := x3_18) (lv' := [(3, .int x3_18), (2, .int (0 : Int32)), (0, .ref (G.2.1 + j0)), (1, .int x1)]) hx hb dX7_isWanted_57 hl (k := 3) rfl (by rw [ex3_18]; rfl) (by decide) rfl (fun ls hl => ?_)
                refine lv_goto (tgt := 4) hx hb dX7_isWanted_60 (by decide) ?_
                exact hA4 _ _ _ _ _ _ _ _ hP hS (lv_sub hl [2, 3, 1, 0] rfl) hk_j0 h
              · replace h := h.2 c17
                refine lv_iconst (v := (1 : Int32)) hx hb dX7_isWanted_51 k_iconst_1 ?_
                refine lv_goto (tgt := 56) hx hb dX7_isWanted_52 (by decide) ?_
                refine lv_istore_n (lv' := [(2, .int (1 : Int32)), (0, .ref (G.2.1 + j0)), (1, .int x1), (3, .int x3)]) hx hb dX7_isWanted_56 rfl hl (by decide) rfl (fun ls hl => ?_)
                obtain ⟨x3_19, ex3_19⟩ : ∃ y : Int32, y = x3 + (1 : Int32) := ⟨_, rfl⟩
                replace h := h x3_19 ex3_19
                refine lv_iinc (v := x3_19) (lv' := [(3, .int x3_19), (2, .int (1 : Int32)), (0, .ref (G.2.1 + j0)), (1, .int x1)]) hx hb dX7_isWanted_57 hl (k := 3) rfl (by rw [ex3_19]; rfl) (by decide) rfl (fun ls hl => ?_)
                refine lv_goto (tgt := 4) hx hb dX7_isWanted_60 (by decide) ?_
                exact hA4 _ _ _ _ _ _ _ _ hP hS (lv_sub hl [2, 3, 1, 0] rfl) hk_j0 h
  unfold wX7_isWanted at h
  refine lv_iconst (v := (0 : Int32)) hx hb dX7_isWanted_0 k_iconst_0 ?_
  refine lv_istore_n (lv' := [(2, .int (0 : Int32)), (0, .ref (G.2.1 + j0a)), (1, .int x1a)]) hx hb dX7_isWanted_1 rfl hl (by decide) rfl (fun ls hl => ?_)
  refine lv_iconst (v := (0 : Int32)) hx hb dX7_isWanted_2 k_iconst_0 ?_
  refine lv_istore_n (lv' := [(3, .int (0 : Int32)), (2, .int (0 : Int32)), (0, .ref (G.2.1 + j0a)), (1, .int x1a)]) hx hb dX7_isWanted_3 rfl hl (by decide) rfl (fun ls hl => ?_)
  obtain ⟨n1, h⟩ := h
  exact B4 _ _ _ _ _ _ _ _ _ hP hS (lv_sub hl [2, 3, 1, 0] rfl) hk_j0a h
