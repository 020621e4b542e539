/-! the walks: each method keeps its predicate; printed by gen.py -/
set_option maxHeartbeats 4000000 in
set_option maxRecDepth 100000 in
theorem mX7_fewestBuckets (l : Launch) (G : Gp) (j0a : Nat) (x1a : Int32) (M : Mm) (Post : Mm → Int32 → Prop) (hk_j0a : kd j0a = 7) (h : wX7_fewestBuckets Post M j0a x1a) : CtI l yX7_fewestBuckets wsX7_fewestBuckets rX7_fewestBuckets G [.ref (G.2.1 + j0a), .int x1a] M Post := by
  refine Met.ofW (cc := cX7_fewestBuckets) (maxL := 5) (ret := (some .int)) (by decide) rfl ?_
  intro p e s m args below meth c s₁ B hml hv
  obtain ⟨rfl, hK, hP⟩ := hv
  have hx := B.exec
  have hb := B.bytes
  have hr := B.returns
  have hlocks := B.notSynchronized
  have hts0 := atoms_spec (ws := wsX7_fewestBuckets) B.pre
  have hts : ∀ w ∈ wsL_law, w.before _ s = true := fun w hw => hts0 w (List.mem_cons_of_mem _ hw)
  have hown : s.vm.findClass RX7 = some m.cls := findClass_of_methodNamed B.named
  have hS : va_S (Fr G) s.heap s.heap [] := va_S.rf
  have hl := lv_entry ([.ref (G.2.1 + j0a), .int x1a]) (n := 5) (Nat.le_of_ble_eq_true rfl)
  rw [lg_entry_eq]
  generalize (lg_sl ([.ref (G.2.1 + j0a), .int x1a]) ++ List.replicate (5 - (lg_sl ([.ref (G.2.1 + j0a), .int x1a])).length) Slot.unset).toArray = ls at hl ⊢
  have hl : lv_has ls 5 [(0, .ref (G.2.1 + j0a)), (1, .int x1a)] := hl
  have B61 : ∀ (A20 : Mm → Nat → Int32 → Int32 → Int32 → Prop) (_ : ∀ (M : Mm) (j0 : Nat) (x1 : Int32) (x2 : Int32) (x3 : Int32) (H : Heap) (locs : List Loc) (ls : Array Slot), Rp G M H → va_S (Fr G) s.heap H locs → lv_has ls 5 [(0, .ref (G.2.1 + j0)), (1, .int x1), (2, .int x2), (3, .int x3)] → kd j0 = 7 → A20 M j0 x1 x2 x3 → Wi p l e (headSpec wsX7_fewestBuckets rX7_fewestBuckets).room s m [.ref (G.2.1 + j0a), .int x1a].toArray below meth c G Post H locs (F0 m 20 ls [])), ∀ (M : Mm) (j0 : Nat) (x1 : Int32) (x3 : Int32) (t0 : Int32) (H : Heap) (locs : List Loc) (ls : Array Slot), Rp G M H → va_S (Fr G) s.heap H locs → lv_has ls 5 [(0, .ref (G.2.1 + j0)), (1, .int x1), (3, .int x3)] → kd j0 = 7 → bX7_fewestBuckets_61 Post A20 M j0 x1 x3 t0 → Wi p l e (headSpec wsX7_fewestBuckets rX7_fewestBuckets).room s m [.ref (G.2.1 + j0a), .int x1a].toArray below meth c G Post H locs (F0 m 61 ls [.int t0]) := by
    intro A20 hA20 M j0 x1 x3 t0 H locs ls hP hS hl hk_j0 h
    unfold bX7_fewestBuckets_61 at h
    refine lv_istore_n (lv' := [(2, .int t0), (0, .ref (G.2.1 + j0)), (1, .int x1), (3, .int x3)]) hx hb dX7_fewestBuckets_61 rfl hl (by decide) rfl (fun ls hl => ?_)
    refine lv_aload_n hx hb dX7_fewestBuckets_62 rfl (lv_at hl 1 rfl) ?_
    refine rc_Vv (As := []) (rest := []) ⟨hx, hb, hml, hown, hts⟩ (mX7_restores l G j0 M _ hk_j0 h) (cwV 0 hts (gV_X7_restores q_27_16) rfl rfl rfl hdV_X7_restores ⟨Nat.le_of_ble_eq_true rfl, Nat.le_of_ble_eq_true rfl⟩) hK hP hS hk_j0 (by decide) cl_7 rfl hl.1 rfl (Nat.le_of_ble_eq_true rfl) dX7_fewestBuckets_63 ⟨Nat.zero_le _, Nat.zero_le _⟩ (fun M16 H locs h hP hS => ?_)
    obtain ⟨x3_18, ex3_18⟩ : ∃ y : Int32, y = x3 + (1 : Int32) := ⟨_, rfl⟩
    replace h := h x3_18 ex3_18
    refine lv_iinc (v := x3_18) (lv' := [(3, .int x3_18), (2, .int t0), (0, .ref (G.2.1 + j0)), (1, .int x1)]) hx hb dX7_fewestBuckets_66 hl (k := 3) rfl (by rw [ex3_18]; rfl) (by decide) rfl (fun ls hl => ?_)
    refine lv_goto (tgt := 20) hx hb dX7_fewestBuckets_69 (by decide) ?_
    exact hA20 _ _ _ _ _ _ _ _ hP hS (lv_sub hl [2, 3, 1, 0] rfl) hk_j0 h
  have B20 : ∀ n : Nat, ∀ (M : Mm) (j0 : Nat) (x1 : Int32) (x2 : Int32) (x3 : Int32) (H : Heap) (locs : List Loc) (ls : Array Slot), Rp G M H → va_S (Fr G) s.heap H locs → lv_has ls 5 [(0, .ref (G.2.1 + j0)), (1, .int x1), (2, .int x2), (3, .int x3)] → kd j0 = 7 → lX7_fewestBuckets_20 Post n M j0 x1 x2 x3 → Wi p l e (headSpec wsX7_fewestBuckets rX7_fewestBuckets).room s m [.ref (G.2.1 + j0a), .int x1a].toArray below meth c G Post H locs (F0 m 20 ls []) := by
    intro n
    induction n with
    | zero => intro M j0 x1 x2 x3 H locs ls hP hS hl hk_j0 h; exact h.elim
    | succ n ih =>
      intro M j0 x1 x2 x3 H locs ls hP hS hl hk_j0 h
      have hA20 := ih
      replace h : bX7_fewestBuckets_20 Post (lX7_fewestBuckets_20 Post n) M j0 x1 x2 x3 := h
      unfold bX7_fewestBuckets_20 at h
      refine lv_iload_n hx hb dX7_fewestBuckets_20 rfl (lv_at hl 3 rfl) ?_
      refine lv_sipush (v := (999 : Int32)) hx hb dX7_fewestBuckets_21 k_sipush_999 ?_
      refine lv_icmp_gt (tgt := 72) hx hb dX7_fewestBuckets_24 (by decide) (fun c7 => ?_) (fun c7 => ?_)
      · replace h := h.1 c7
        refine lv_iload_n hx hb dX7_fewestBuckets_72 rfl (lv_at hl 2 rfl) ?_
        exact re_i hx hb hr hlocks hP hS h dX7_fewestBuckets_73
      · replace h := h.2 c7
        refine lv_iload_n hx hb dX7_fewestBuckets_27 rfl (lv_at hl 2 rfl) ?_
        refine lv_if_ge (tgt := 72) hx hb dX7_fewestBuckets_28 (by decide) (fun c8 => ?_) (fun c8 => ?_)
        · replace h := h.1 c8
          refine lv_iload_n hx hb dX7_fewestBuckets_72 rfl (lv_at hl 2 rfl) ?_
          exact re_i hx hb hr hlocks hP hS h dX7_fewestBuckets_73
        · replace h := h.2 c8
          refine lv_aload_n hx hb dX7_fewestBuckets_31 rfl (lv_at hl 0 rfl) ?_
          refine lv_iload_n hx hb dX7_fewestBuckets_32 rfl (lv_at hl 1 rfl) ?_
          refine lv_iconst (v := (4 : Int32)) hx hb dX7_fewestBuckets_33 k_iconst_4 ?_
          refine rc_Vi (As := [.int x1, .int (4 : Int32)]) (rest := []) ⟨hx, hb, hml, hown, hts⟩ (mX7_fi l G j0 x1 (4 : Int32) M _ hk_j0 h) (cwV 2 hts (gV_X7_fi q_14_8) rfl rfl rfl hdV_X7_fi ⟨Nat.le_of_ble_eq_true rfl, Nat.le_of_ble_eq_true rfl⟩) hK hP hS hk_j0 (by decide) cl_7 rfl hl.1 rfl (Nat.le_of_ble_eq_true rfl) dX7_fewestBuckets_34 ⟨Nat.zero_le _, Nat.zero_le _⟩ (fun r10 M9 H locs h hP hS => ?_)
          refine lv_istore (lv' := [(4, .int r10), (0, .ref (G.2.1 + j0)), (1, .int x1), (2, .int x2), (3, .int x3)]) hx hb dX7_fewestBuckets_37 hl (by decide) rfl (fun ls hl => ?_)
          refine lv_aload_n hx hb dX7_fewestBuckets_39 rfl (lv_at hl 1 rfl) ?_
          refine lv_iload_n hx hb dX7_fewestBuckets_40 rfl (lv_at hl 4 rfl) ?_
          refine rc_Vi (As := [.int x3]) (rest := []) ⟨hx, hb, hml, hown, hts⟩ (mX7_flows l G j0 x3 M9 _ hk_j0 h) (cwV 1 hts (gV_X7_flows q_20_11) rfl rfl rfl hdV_X7_flows ⟨Nat.le_of_ble_eq_true rfl, Nat.le_of_ble_eq_true rfl⟩) hK hP hS hk_j0 (by decide) cl_7 rfl hl.1 rfl (Nat.le_of_ble_eq_true rfl) dX7_fewestBuckets_41 ⟨Nat.zero_le _, Nat.zero_le _⟩ (fun r12 M11 H locs h hP hS => ?_)
          refine lv_pop hx hb dX7_fewestBuckets_44 rfl ?_
          refine lv_aload_n hx hb dX7_fewestBuckets_45 rfl (lv_at hl 1 rfl) ?_
          refine lv_iload_n hx hb dX7_fewestBuckets_46 rfl (lv_at hl 2 rfl) ?_
          refine lv_iconst (v := (4 : Int32)) hx hb dX7_fewestBuckets_47 k_iconst_4 ?_
          refine rc_Vi (As := [.int x1, .int (4 : Int32)]) (rest := []) ⟨hx, hb, hml, hown, hts⟩ (mX7_fi l G j0 x1 (4 : Int32) M11 _ hk_j0 h) (cwV 2 hts (gV_X7_fi q_14_8) rfl rfl rfl hdV_X7_fi ⟨Nat.le_of_ble_eq_true rfl, Nat.le_of_ble_eq_true rfl⟩) hK hP hS hk_j0 (by decide) cl_7 rfl hl.1 rfl (Nat.le_of_ble_eq_true rfl) dX7_fewestBuckets_48 ⟨Nat.zero_le _, Nat.zero_le _⟩ (fun r14 M13 H locs h hP hS => ?_)
          refine lv_iload hx hb dX7_fewestBuckets_51 (lv_at hl 0 rfl) ?_
          refine lv_icmp_le (tgt := 60) hx hb dX7_fewestBuckets_53 (by decide) (fun c15 => ?_) (fun c15 => ?_)
          · replace h := h.1 c15
            refine lv_iload_n hx hb dX7_fewestBuckets_60 rfl (lv_at hl 3 rfl) ?_
            exact B61 _ hA20 _ _ _ _ _ _ _ _ hP hS (lv_sub hl [1, 2, 4] rfl) hk_j0 h
          · replace h := h.2 c15
            refine lv_iload_n hx hb dX7_fewestBuckets_56 rfl (lv_at hl 4 rfl) ?_
            refine lv_goto (tgt := 61) hx hb dX7_fewestBuckets_57 (by decide) ?_
            exact B61 _ hA20 _ _ _ _ _ _ _ _ hP hS (lv_sub hl [1, 2, 4] rfl) hk_j0 h
  unfold wX7_fewestBuckets at h
  refine lv_aload_n hx hb dX7_fewestBuckets_0 rfl (lv_at hl 0 rfl) ?_
  refine lv_iload_n hx hb dX7_fewestBuckets_1 rfl (lv_at hl 1 rfl) ?_
  refine rc_Vi (As := [.int x1a]) (rest := []) ⟨hx, hb, hml, hown, hts⟩ (mX7_isField l G j0a x1a M _ hk_j0a h) (cwV 1 hts (gV_X7_isField q_14_4) rfl rfl rfl hdV_X7_isField ⟨Nat.le_of_ble_eq_true rfl, Nat.le_of_ble_eq_true rfl⟩) hK hP hS hk_j0a (by decide) cl_7 rfl hl.1 rfl (Nat.le_of_ble_eq_true rfl) dX7_fewestBuckets_2 ⟨Nat.zero_le _, Nat.zero_le _⟩ (fun r2 M1 H locs h hP hS => ?_)
  refine lv_if_ne (tgt := 11) hx hb dX7_fewestBuckets_5 (by decide) (fun c3 => ?_) (fun c3 => ?_)
  · replace h := h.1 c3
    refine lv_ldc hx hb hown (hts _ q_24_4) dX7_fewestBuckets_11 ?_
    refine lv_istore_n (lv' := [(2, .int (-1000004 : Int32)), (0, .ref (G.2.1 + j0a)), (1, .int x1a)]) hx hb dX7_fewestBuckets_13 rfl hl (by decide) rfl (fun ls hl => ?_)
    refine lv_aload_n hx hb dX7_fewestBuckets_14 rfl (lv_at hl 1 rfl) ?_
    refine rc_Vv (As := []) (rest := []) ⟨hx, hb, hml, hown, hts⟩ (mX7_puts l G j0a M1 _ hk_j0a h) (cwV 0 hts (gV_X7_puts q_27_12) rfl rfl rfl hdV_X7_puts ⟨Nat.le_of_ble_eq_true rfl, Nat.le_of_ble_eq_true rfl⟩) hK hP hS hk_j0a (by decide) cl_7 rfl hl.1 rfl (Nat.le_of_ble_eq_true rfl) dX7_fewestBuckets_15 ⟨Nat.zero_le _, Nat.zero_le _⟩ (fun M4 H locs h hP hS => ?_)
    refine lv_iconst (v := (0 : Int32)) hx hb dX7_fewestBuckets_18 k_iconst_0 ?_
    refine lv_istore_n (lv' := [(3, .int (0 : Int32)), (2, .int (-1000004 : Int32)), (0, .ref (G.2.1 + j0a)), (1, .int x1a)]) hx hb dX7_fewestBuckets_19 rfl hl (by decide) rfl (fun ls hl => ?_)
    obtain ⟨n6, h⟩ := h
    exact B20 _ _ _ _ _ _ _ _ _ hP hS (lv_sub hl [2, 3, 1, 0] rfl) hk_j0a h
  · replace h := h.2 c3
    refine lv_ldc hx hb hown (hts _ q_7_13) dX7_fewestBuckets_8 ?_
    exact re_i hx hb hr hlocks hP hS h dX7_fewestBuckets_10
set_option maxHeartbeats 4000000 in
set_option maxRecDepth 100000 in
theorem mX7_hoursFor (l : Launch) (G : Gp) (j0a : Nat) (x1a : Int32) (M : Mm) (Post : Mm → Int32 → Prop) (hk_j0a : kd j0a = 7) (h : wX7_hoursFor Post M j0a x1a) : CtI l yX7_hoursFor wsX7_hoursFor rX7_hoursFor G [.ref (G.2.1 + j0a), .int x1a] M Post := by
  refine Met.ofW (cc := cX7_hoursFor) (maxL := 5) (ret := (some .int)) (by decide) rfl ?_
  intro p e s m args below meth c s₁ B hml hv
  obtain ⟨rfl, hK, hP⟩ := hv
  have hx := B.exec
  have hb := B.bytes
  have hr := B.returns
  have hlocks := B.notSynchronized
  have hts0 := atoms_spec (ws := wsX7_hoursFor) B.pre
  have hts : ∀ w ∈ wsL_law, w.before _ s = true := fun w hw => hts0 w (List.mem_cons_of_mem _ hw)
  have hown : s.vm.findClass RX7 = some m.cls := findClass_of_methodNamed B.named
  have hS : va_S (Fr G) s.heap s.heap [] := va_S.rf
  have hl := lv_entry ([.ref (G.2.1 + j0a), .int x1a]) (n := 5) (Nat.le_of_ble_eq_true rfl)
  rw [lg_entry_eq]
  generalize (lg_sl ([.ref (G.2.1 + j0a), .int x1a]) ++ List.replicate (5 - (lg_sl ([.ref (G.2.1 + j0a), .int x1a])).length) Slot.unset).toArray = ls at hl ⊢
  have hl : lv_has ls 5 [(0, .ref (G.2.1 + j0a)), (1, .int x1a)] := hl
  have B57 : ∀ (M : Mm) (j0 : Nat) (x2 : Int32) (x3 : Int32) (H : Heap) (locs : List Loc) (ls : Array Slot), Rp G M H → va_S (Fr G) s.heap H locs → lv_has ls 5 [(0, .ref (G.2.1 + j0)), (2, .int x2), (3, .int x3)] → kd j0 = 7 → bX7_hoursFor_57 Post M j0 x2 x3 → Wi p l e (headSpec wsX7_hoursFor rX7_hoursFor).room s m [.ref (G.2.1 + j0a), .int x1a].toArray below meth c G Post H locs (F0 m 57 ls []) := by
    intro M j0 x2 x3 H locs ls hP hS hl hk_j0 h
    unfold bX7_hoursFor_57 at h
    refine lv_aload_n hx hb dX7_hoursFor_57 rfl (lv_at hl 0 rfl) ?_
    refine lv_iload_n hx hb dX7_hoursFor_58 rfl (lv_at hl 2 rfl) ?_
    refine rc_Vi (As := [.int x3]) (rest := []) ⟨hx, hb, hml, hown, hts⟩ (mX7_haveGot l G j0 x3 M _ hk_j0 h) (cwV 1 hts (gV_X7_haveGot q_28_15) rfl rfl rfl hdV_X7_haveGot ⟨Nat.le_of_ble_eq_true rfl, Nat.le_of_ble_eq_true rfl⟩) hK hP hS hk_j0 (by decide) cl_7 rfl hl.1 rfl (Nat.le_of_ble_eq_true rfl) dX7_hoursFor_59 ⟨Nat.zero_le _, Nat.zero_le _⟩ (fun r16 M15 H locs h hP hS => ?_)
    refine lv_istore (lv' := [(4, .int r16), (0, .ref (G.2.1 + j0)), (2, .int x2), (3, .int x3)]) hx hb dX7_hoursFor_62 hl (by decide) rfl (fun ls hl => ?_)
    refine lv_aload_n hx hb dX7_hoursFor_64 rfl (lv_at hl 1 rfl) ?_
    refine rc_Vv (As := []) (rest := []) ⟨hx, hb, hml, hown, hts⟩ (mX7_restores l G j0 M15 _ hk_j0 h) (cwV 0 hts (gV_X7_restores q_27_16) rfl rfl rfl hdV_X7_restores ⟨Nat.le_of_ble_eq_true rfl, Nat.le_of_ble_eq_true rfl⟩) hK hP hS hk_j0 (by decide) cl_7 rfl hl.1 rfl (Nat.le_of_ble_eq_true rfl) dX7_hoursFor_65 ⟨Nat.zero_le _, Nat.zero_le _⟩ (fun M17 H locs h hP hS => ?_)
    refine lv_iload hx hb dX7_hoursFor_68 (lv_at hl 0 rfl) ?_
    refine lv_if_eq (tgt := 77) hx hb dX7_hoursFor_70 (by decide) (fun c19 => ?_) (fun c19 => ?_)
    · replace h := h.1 c19
      refine lv_ldc hx hb hown (hts _ q_24_4) dX7_hoursFor_77 ?_
      exact re_i hx hb hr hlocks hP hS h dX7_hoursFor_79
    · replace h := h.2 c19
      refine lv_iload_n hx hb dX7_hoursFor_73 rfl (lv_at hl 2 rfl) ?_
      refine lv_goto (tgt := 79) hx hb dX7_hoursFor_74 (by decide) ?_
      exact re_i hx hb hr hlocks hP hS h dX7_hoursFor_79
  have B31 : ∀ n : Nat, ∀ (M : Mm) (j0 : Nat) (x1 : Int32) (x2 : Int32) (x3 : Int32) (H : Heap) (locs : List Loc) (ls : Array Slot), Rp G M H → va_S (Fr G) s.heap H locs → lv_has ls 5 [(0, .ref (G.2.1 + j0)), (1, .int x1), (2, .int x2), (3, .int x3)] → kd j0 = 7 → lX7_hoursFor_31 Post n M j0 x1 x2 x3 → Wi p l e (headSpec wsX7_hoursFor rX7_hoursFor).room s m [.ref (G.2.1 + j0a), .int x1a].toArray below meth c G Post H locs (F0 m 31 ls []) := by
    intro n
    induction n with
    | zero => intro M j0 x1 x2 x3 H locs ls hP hS hl hk_j0 h; exact h.elim
    | succ n ih =>
      intro M j0 x1 x2 x3 H locs ls hP hS hl hk_j0 h
      have hA31 := ih
      replace h : bX7_hoursFor_31 Post (lX7_hoursFor_31 Post n) M j0 x1 x2 x3 := h
      unfold bX7_hoursFor_31 at h
      refine lv_iload_n hx hb dX7_hoursFor_31 rfl (lv_at hl 2 rfl) ?_
      refine lv_bipush (v := (100 : Int32)) hx hb dX7_hoursFor_32 k_bipush_100 ?_
      refine lv_icmp_ge (tgt := 57) hx hb dX7_hoursFor_34 (by decide) (fun c8 => ?_) (fun c8 => ?_)
      · replace h := h.1 c8
        exact B57 _ _ _ _ _ _ _ hP hS (lv_sub hl [0, 2, 3] rfl) hk_j0 h
      · replace h := h.2 c8
        refine lv_aload_n hx hb dX7_hoursFor_37 rfl (lv_at hl 0 rfl) ?_
        refine lv_iload_n hx hb dX7_hoursFor_38 rfl (lv_at hl 3 rfl) ?_
        refine rc_Vi (As := [.int x3]) (rest := []) ⟨hx, hb, hml, hown, hts⟩ (mX7_haveGot l G j0 x3 M _ hk_j0 h) (cwV 1 hts (gV_X7_haveGot q_28_15) rfl rfl rfl hdV_X7_haveGot ⟨Nat.le_of_ble_eq_true rfl, Nat.le_of_ble_eq_true rfl⟩) hK hP hS hk_j0 (by decide) cl_7 rfl hl.1 rfl (Nat.le_of_ble_eq_true rfl) dX7_hoursFor_39 ⟨Nat.zero_le _, Nat.zero_le _⟩ (fun r10 M9 H locs h hP hS => ?_)
        refine lv_if_ne (tgt := 57) hx hb dX7_hoursFor_42 (by decide) (fun c11 => ?_) (fun c11 => ?_)
        · replace h := h.1 c11
          exact B57 _ _ _ _ _ _ _ hP hS (lv_sub hl [0, 2, 3] rfl) hk_j0 h
        · replace h := h.2 c11
          refine lv_aload_n hx hb dX7_hoursFor_45 rfl (lv_at hl 0 rfl) ?_
          refine lv_iload_n hx hb dX7_hoursFor_46 rfl (lv_at hl 1 rfl) ?_
          refine rc_Vi (As := [.int x1]) (rest := []) ⟨hx, hb, hml, hown, hts⟩ (mX7_runsOne l G j0 x1 M9 _ hk_j0 h) (cwV 1 hts (gV_X7_runsOne q_22_21) rfl rfl rfl hdV_X7_runsOne ⟨Nat.le_of_ble_eq_true rfl, Nat.le_of_ble_eq_true rfl⟩) hK hP hS hk_j0 (by decide) cl_7 rfl hl.1 rfl (Nat.le_of_ble_eq_true rfl) dX7_hoursFor_47 ⟨Nat.zero_le _, Nat.zero_le _⟩ (fun r13 M12 H locs h hP hS => ?_)
          refine lv_pop hx hb dX7_hoursFor_50 rfl ?_
          obtain ⟨x2_14, ex2_14⟩ : ∃ y : Int32, y = x2 + (1 : Int32) := ⟨_, rfl⟩
          replace h := h x2_14 ex2_14
          refine lv_iinc (v := x2_14) (lv' := [(2, .int x2_14), (0, .ref (G.2.1 + j0)), (1, .int x1), (3, .int x3)]) hx hb dX7_hoursFor_51 hl (k := 2) rfl (by rw [ex2_14]; rfl) (by decide) rfl (fun ls hl => ?_)
          refine lv_goto (tgt := 31) hx hb dX7_hoursFor_54 (by decide) ?_
          exact hA31 _ _ _ _ _ _ _ _ hP hS (lv_sub hl [1, 2, 0, 3] rfl) hk_j0 h
  unfold wX7_hoursFor at h
  refine lv_iload_n hx hb dX7_hoursFor_0 rfl (lv_at hl 1 rfl) ?_
  refine lv_iconst (v := (0 : Int32)) hx hb dX7_hoursFor_1 k_iconst_0 ?_
  refine lv_sipush (v := (999 : Int32)) hx hb dX7_hoursFor_2 k_sipush_999 ?_
  refine rc_Si (As := [.int x1a, .int (0 : Int32), .int (999 : Int32)]) (rest := []) ⟨hx, hb, hml, hown, hts⟩ (mX7_in l G x1a (0 : Int32) (999 : Int32) M _ h) (va_cwS 3 hts (gS_X7_in q_7_19) rfl rfl rfl hdS_X7_in ⟨Nat.le_of_ble_eq_true rfl, Nat.le_of_ble_eq_true rfl⟩) hK hP hS rfl hl.1 rfl (Nat.le_of_ble_eq_true rfl) dX7_hoursFor_5 ⟨Nat.zero_le _, Nat.zero_le _⟩ (fun r2 M1 H locs h hP hS => ?_)
  refine lv_if_ne (tgt := 14) hx hb dX7_hoursFor_8 (by decide) (fun c3 => ?_) (fun c3 => ?_)
  · replace h := h.1 c3
    refine lv_aload_n hx hb dX7_hoursFor_14 rfl (lv_at hl 0 rfl) ?_
    refine rc_Vv (As := []) (rest := []) ⟨hx, hb, hml, hown, hts⟩ (mX7_puts l G j0a M1 _ hk_j0a h) (cwV 0 hts (gV_X7_puts q_27_12) rfl rfl rfl hdV_X7_puts ⟨Nat.le_of_ble_eq_true rfl, Nat.le_of_ble_eq_true rfl⟩) hK hP hS hk_j0a (by decide) cl_7 rfl hl.1 rfl (Nat.le_of_ble_eq_true rfl) dX7_hoursFor_15 ⟨Nat.zero_le _, Nat.zero_le _⟩ (fun M4 H locs h hP hS => ?_)
    refine lv_iconst (v := (0 : Int32)) hx hb dX7_hoursFor_18 k_iconst_0 ?_
    refine lv_istore_n (lv' := [(2, .int (0 : Int32)), (0, .ref (G.2.1 + j0a)), (1, .int x1a)]) hx hb dX7_hoursFor_19 rfl hl (by decide) rfl (fun ls hl => ?_)
    refine lv_iconst (v := (1 : Int32)) hx hb dX7_hoursFor_20 k_iconst_1 ?_
    refine lv_aload_n hx hb dX7_hoursFor_21 rfl (lv_at hl 1 rfl) ?_
    refine rk_getr hx hb hts inlX7 hown hK hP hk_j0a cl_7 0 1 fq_7_0 q_4_13 rfl dX7_hoursFor_22 ?_
    refine lv_iconst (v := (1 : Int32)) hx hb dX7_hoursFor_25 k_iconst_1 ?_
    refine rk_iald hx hb hK hP (ky_7_0 hk_j0a) ac_12 1 ix_1 vi_1_168 dX7_hoursFor_26 ?_
    refine lv_ishl hx hb dX7_hoursFor_27 ?_
    refine lv_iconst (v := (1 : Int32)) hx hb dX7_hoursFor_28 k_iconst_1 ?_
    refine lv_isub hx hb dX7_hoursFor_29 ?_
    refine lv_topi (fun x3_6 ex3_6 => ?_)
    replace h := h x3_6 ex3_6
    refine lv_istore_n (lv' := [(3, .int x3_6), (2, .int (0 : Int32)), (0, .ref (G.2.1 + j0a)), (1, .int x1a)]) hx hb dX7_hoursFor_30 rfl hl (by decide) rfl (fun ls hl => ?_)
    obtain ⟨n7, h⟩ := h
    exact B31 _ _ _ _ _ _ _ _ _ hP hS (lv_sub hl [2, 3, 1, 0] rfl) hk_j0a h
  · replace h := h.2 c3
    refine lv_ldc hx hb hown (hts _ q_7_13) dX7_hoursFor_11 ?_
    exact re_i hx hb hr hlocks hP hS h dX7_hoursFor_13
set_option maxHeartbeats 4000000 in
set_option maxRecDepth 100000 in
theorem mX7_rightAt (l : Launch) (G : Gp) (j0a : Nat) (x1a : Int32) (M : Mm) (Post : Mm → Int32 → Prop) (hk_j0a : kd j0a = 7) (h : wX7_rightAt Post M j0a x1a) : CtI l yX7_rightAt wsX7_rightAt rX7_rightAt G [.ref (G.2.1 + j0a), .int x1a] M Post := by
  refine Met.ofW (cc := cX7_rightAt) (maxL := 5) (ret := (some .int)) (by decide) rfl ?_
  intro p e s m args below meth c s₁ B hml hv
  obtain ⟨rfl, hK, hP⟩ := hv
  have hx := B.exec
  have hb := B.bytes
  have hr := B.returns
  have hlocks := B.notSynchronized
  have hts0 := atoms_spec (ws := wsX7_rightAt) B.pre
  have hts : ∀ w ∈ wsL_law, w.before _ s = true := fun w hw => hts0 w (List.mem_cons_of_mem _ hw)
  have hown : s.vm.findClass RX7 = some m.cls := findClass_of_methodNamed B.named
  have hS : va_S (Fr G) s.heap s.heap [] := va_S.rf
  have hl := lv_entry ([.ref (G.2.1 + j0a), .int x1a]) (n := 5) (Nat.le_of_ble_eq_true rfl)
  rw [lg_entry_eq]
  generalize (lg_sl ([.ref (G.2.1 + j0a), .int x1a]) ++ List.replicate (5 - (lg_sl ([.ref (G.2.1 + j0a), .int x1a])).length) Slot.unset).toArray = ls at hl ⊢
  have hl : lv_has ls 5 [(0, .ref (G.2.1 + j0a)), (1, .int x1a)] := hl
  have B84 : ∀ (M : Mm) (x3 : Int32) (H : Heap) (locs : List Loc) (ls : Array Slot), Rp G M H → va_S (Fr G) s.heap H locs → lv_has ls 5 [(3, .int x3)] → bX7_rightAt_84 Post M x3 → Wi p l e (headSpec wsX7_rightAt rX7_rightAt).room s m [.ref (G.2.1 + j0a), .int x1a].toArray below meth c G Post H locs (F0 m 84 ls []) := by
    intro M x3 H locs ls hP hS hl h
    unfold bX7_rightAt_84 at h
    refine lv_iload_n hx hb dX7_rightAt_84 rfl (lv_at hl 0 rfl) ?_
    refine lv_if_ge (tgt := 93) hx hb dX7_rightAt_85 (by decide) (fun c20 => ?_) (fun c20 => ?_)
    · replace h := h.1 c20
      refine lv_iload_n hx hb dX7_rightAt_93 rfl (lv_at hl 0 rfl) ?_
      exact re_i hx hb hr hlocks hP hS h dX7_rightAt_94
    · replace h := h.2 c20
      refine lv_ldc hx hb hown (hts _ q_24_4) dX7_rightAt_88 ?_
      refine lv_goto (tgt := 94) hx hb dX7_rightAt_90 (by decide) ?_
      exact re_i hx hb hr hlocks hP hS h dX7_rightAt_94
  have B54 : ∀ n : Nat, ∀ (M : Mm) (j0 : Nat) (x1 : Int32) (x2 : Int32) (x3 : Int32) (x4 : Int32) (H : Heap) (locs : List Loc) (ls : Array Slot), Rp G M H → va_S (Fr G) s.heap H locs → lv_has ls 5 [(0, .ref (G.2.1 + j0)), (1, .int x1), (2, .int x2), (3, .int x3), (4, .int x4)] → kd j0 = 7 → lX7_rightAt_54 Post n M j0 x1 x2 x3 x4 → Wi p l e (headSpec wsX7_rightAt rX7_rightAt).room s m [.ref (G.2.1 + j0a), .int x1a].toArray below meth c G Post H locs (F0 m 54 ls []) := by
    intro n
    induction n with
    | zero => intro M j0 x1 x2 x3 x4 H locs ls hP hS hl hk_j0 h; exact h.elim
    | succ n ih =>
      intro M j0 x1 x2 x3 x4 H locs ls hP hS hl hk_j0 h
      have hA54 := ih
      replace h : bX7_rightAt_54 Post (lX7_rightAt_54 Post n) M j0 x1 x2 x3 x4 := h
      unfold bX7_rightAt_54 at h
      refine lv_iload hx hb dX7_rightAt_54 (lv_at hl 4 rfl) ?_
      refine lv_iload_n hx hb dX7_rightAt_56 rfl (lv_at hl 1 rfl) ?_
      refine lv_icmp_ge (tgt := 84) hx hb dX7_rightAt_57 (by decide) (fun c14 => ?_) (fun c14 => ?_)
      · replace h := h.1 c14
        exact B84 _ _ _ _ _ hP hS (lv_sub hl [3] rfl) h
      · replace h := h.2 c14
        refine lv_iload_n hx hb dX7_rightAt_60 rfl (lv_at hl 3 rfl) ?_
        refine lv_if_lt (tgt := 84) hx hb dX7_rightAt_61 (by decide) (fun c15 => ?_) (fun c15 => ?_)
        · replace h := h.1 c15
          exact B84 _ _ _ _ _ hP hS (lv_sub hl [3] rfl) h
        · replace h := h.2 c15
          refine lv_iload_n hx hb dX7_rightAt_64 rfl (lv_at hl 2 rfl) ?_
          refine lv_iconst (v := (1 : Int32)) hx hb dX7_rightAt_65 k_iconst_1 ?_
          refine lv_iload_n hx hb dX7_rightAt_66 rfl (lv_at hl 3 rfl) ?_
          refine lv_ishl hx hb dX7_rightAt_67 ?_
          refine lv_iconst (v := (-1 : Int32)) hx hb dX7_rightAt_68 k_iconst_m1 ?_
          refine lv_ixor hx hb dX7_rightAt_69 ?_
          refine lv_iand hx hb dX7_rightAt_70 ?_
          refine lv_topi (fun x2_16 ex2_16 => ?_)
          replace h := h x2_16 ex2_16
          refine lv_istore_n (lv' := [(2, .int x2_16), (0, .ref (G.2.1 + j0)), (1, .int x1), (3, .int x3), (4, .int x4)]) hx hb dX7_rightAt_71 rfl hl (by decide) rfl (fun ls hl => ?_)
          refine lv_aload_n hx hb dX7_rightAt_72 rfl (lv_at hl 1 rfl) ?_
          refine lv_iload_n hx hb dX7_rightAt_73 rfl (lv_at hl 0 rfl) ?_
          refine rc_Vi (As := [.int x2_16]) (rest := []) ⟨hx, hb, hml, hown, hts⟩ (mX7_next l G j0 x2_16 M _ hk_j0 h) (cwV 1 hts (gV_X7_next q_21_3) rfl rfl rfl hdV_X7_next ⟨Nat.le_of_ble_eq_true rfl, Nat.le_of_ble_eq_true rfl⟩) hK hP hS hk_j0 (by decide) cl_7 rfl hl.1 rfl (Nat.le_of_ble_eq_true rfl) dX7_rightAt_74 ⟨Nat.zero_le _, Nat.zero_le _⟩ (fun r18 M17 H locs h hP hS => ?_)
          refine lv_istore_n (lv' := [(3, .int r18), (2, .int x2_16), (0, .ref (G.2.1 + j0)), (1, .int x1), (4, .int x4)]) hx hb dX7_rightAt_77 rfl hl (by decide) rfl (fun ls hl => ?_)
          obtain ⟨x4_19, ex4_19⟩ : ∃ y : Int32, y = x4 + (1 : Int32) := ⟨_, rfl⟩
          replace h := h x4_19 ex4_19
          refine lv_iinc (v := x4_19) (lv' := [(4, .int x4_19), (3, .int r18), (2, .int x2_16), (0, .ref (G.2.1 + j0)), (1, .int x1)]) hx hb dX7_rightAt_78 hl (k := 4) rfl (by rw [ex4_19]; rfl) (by decide) rfl (fun ls hl => ?_)
          refine lv_goto (tgt := 54) hx hb dX7_rightAt_81 (by decide) ?_
          exact hA54 _ _ _ _ _ _ _ _ _ hP hS (lv_sub hl [3, 4, 2, 1, 0] rfl) hk_j0 h
  have B11 : ∀ n : Nat, ∀ (M : Mm) (j0 : Nat) (x1 : Int32) (x2 : Int32) (x3 : Int32) (H : Heap) (locs : List Loc) (ls : Array Slot), Rp G M H → va_S (Fr G) s.heap H locs → lv_has ls 5 [(0, .ref (G.2.1 + j0)), (1, .int x1), (2, .int x2), (3, .int x3)] → kd j0 = 7 → lX7_rightAt_11 Post n M j0 x1 x2 x3 → Wi p l e (headSpec wsX7_rightAt rX7_rightAt).room s m [.ref (G.2.1 + j0a), .int x1a].toArray below meth c G Post H locs (F0 m 11 ls []) := by
    intro n
    induction n with
    | zero => intro M j0 x1 x2 x3 H locs ls hP hS hl hk_j0 h; exact h.elim
    | succ n ih =>
      intro M j0 x1 x2 x3 H locs ls hP hS hl hk_j0 h
      have hA11 := ih
      replace h : bX7_rightAt_11 Post (lX7_rightAt_11 Post n) M j0 x1 x2 x3 := h
      unfold bX7_rightAt_11 at h
      refine lv_iload_n hx hb dX7_rightAt_11 rfl (lv_at hl 3 rfl) ?_
      refine lv_aload_n hx hb dX7_rightAt_12 rfl (lv_at hl 0 rfl) ?_
      refine rk_getr hx hb hts inlX7 hown hK hP hk_j0 cl_7 0 1 fq_7_0 q_4_13 rfl dX7_rightAt_13 ?_
      refine lv_iconst (v := (1 : Int32)) hx hb dX7_rightAt_16 k_iconst_1 ?_
      refine rk_iald hx hb hK hP (ky_7_0 hk_j0) ac_12 1 ix_1 vi_1_168 dX7_rightAt_17 ?_
      refine lv_icmp_ge (tgt := 45) hx hb dX7_rightAt_18 (by decide) (fun c3 => ?_) (fun c3 => ?_)
      · replace h := h.1 c3
        refine lv_aload_n hx hb dX7_rightAt_45 rfl (lv_at hl 0 rfl) ?_
        refine lv_iload_n hx hb dX7_rightAt_46 rfl (lv_at hl 2 rfl) ?_
        refine rc_Vi (As := [.int x2]) (rest := []) ⟨hx, hb, hml, hown, hts⟩ (mX7_next l G j0 x2 M _ hk_j0 h) (cwV 1 hts (gV_X7_next q_21_3) rfl rfl rfl hdV_X7_next ⟨Nat.le_of_ble_eq_true rfl, Nat.le_of_ble_eq_true rfl⟩) hK hP hS hk_j0 (by decide) cl_7 rfl hl.1 rfl (Nat.le_of_ble_eq_true rfl) dX7_rightAt_47 ⟨Nat.zero_le _, Nat.zero_le _⟩ (fun r5 M4 H locs h hP hS => ?_)
        refine lv_istore_n (lv' := [(3, .int r5), (0, .ref (G.2.1 + j0)), (1, .int x1), (2, .int x2)]) hx hb dX7_rightAt_50 rfl hl (by decide) rfl (fun ls hl => ?_)
        refine lv_iconst (v := (0 : Int32)) hx hb dX7_rightAt_51 k_iconst_0 ?_
        refine lv_istore (lv' := [(4, .int (0 : Int32)), (3, .int r5), (0, .ref (G.2.1 + j0)), (1, .int x1), (2, .int x2)]) hx hb dX7_rightAt_52 hl (by decide) rfl (fun ls hl => ?_)
        obtain ⟨n6, h⟩ := h
        exact B54 _ _ _ _ _ _ _ _ _ _ hP hS (lv_sub hl [2, 3, 4, 1, 0] rfl) hk_j0 h
      · replace h := h.2 c3
        refine lv_iload_n hx hb dX7_rightAt_21 rfl (lv_at hl 2 rfl) ?_
        refine lv_aload_n hx hb dX7_rightAt_22 rfl (lv_at hl 0 rfl) ?_
        refine lv_iload_n hx hb dX7_rightAt_23 rfl (lv_at hl 3 rfl) ?_
        refine rc_Vi (As := [.int x3]) (rest := [.int x2]) ⟨hx, hb, hml, hown, hts⟩ (mX7_wants l G j0 x3 M _ hk_j0 h) (cwV 1 hts (gV_X7_wants q_14_12) rfl rfl rfl hdV_X7_wants ⟨Nat.le_of_ble_eq_true rfl, Nat.le_of_ble_eq_true rfl⟩) hK hP hS hk_j0 (by decide) cl_7 rfl hl.1 rfl (Nat.le_of_ble_eq_true rfl) dX7_rightAt_24 ⟨Nat.zero_le _, Nat.zero_le _⟩ (fun r8 M7 H locs h hP hS => ?_)
        refine lv_if_eq (tgt := 36) hx hb dX7_rightAt_27 (by decide) (fun c9 => ?_) (fun c9 => ?_)
        · replace h := h.1 c9
          refine lv_iconst (v := (0 : Int32)) hx hb dX7_rightAt_36 k_iconst_0 ?_
          refine lv_ior hx hb dX7_rightAt_37 ?_
          refine lv_topi (fun x2_10 ex2_10 => ?_)
          replace h := h x2_10 ex2_10
          refine lv_istore_n (lv' := [(2, .int x2_10), (0, .ref (G.2.1 + j0)), (1, .int x1), (3, .int x3)]) hx hb dX7_rightAt_38 rfl hl (by decide) rfl (fun ls hl => ?_)
          obtain ⟨x3_11, ex3_11⟩ : ∃ y : Int32, y = x3 + (1 : Int32) := ⟨_, rfl⟩
          replace h := h x3_11 ex3_11
          refine lv_iinc (v := x3_11) (lv' := [(3, .int x3_11), (2, .int x2_10), (0, .ref (G.2.1 + j0)), (1, .int x1)]) hx hb dX7_rightAt_39 hl (k := 3) rfl (by rw [ex3_11]; rfl) (by decide) rfl (fun ls hl => ?_)
          refine lv_goto (tgt := 11) hx hb dX7_rightAt_42 (by decide) ?_
          exact hA11 _ _ _ _ _ _ _ _ hP hS (lv_sub hl [2, 3, 1, 0] rfl) hk_j0 h
        · replace h := h.2 c9
          refine lv_iconst (v := (1 : Int32)) hx hb dX7_rightAt_30 k_iconst_1 ?_
          refine lv_iload_n hx hb dX7_rightAt_31 rfl (lv_at hl 3 rfl) ?_
          refine lv_ishl hx hb dX7_rightAt_32 ?_
          refine lv_goto (tgt := 37) hx hb dX7_rightAt_33 (by decide) ?_
          refine lv_ior hx hb dX7_rightAt_37 ?_
          refine lv_topi (fun x2_12 ex2_12 => ?_)
          replace h := h x2_12 ex2_12
          refine lv_istore_n (lv' := [(2, .int x2_12), (0, .ref (G.2.1 + j0)), (1, .int x1), (3, .int x3)]) hx hb dX7_rightAt_38 rfl hl (by decide) rfl (fun ls hl => ?_)
          obtain ⟨x3_13, ex3_13⟩ : ∃ y : Int32, y = x3 + (1 : Int32) := ⟨_, rfl⟩
          replace h := h x3_13 ex3_13
          refine lv_iinc (v := x3_13) (lv' := [(3, .int x3_13), (2, .int x2_12), (0, .ref (G.2.1 + j0)), (1, .int x1)]) hx hb dX7_rightAt_39 hl (k := 3) rfl (by rw [ex3_13]; rfl) (by decide) rfl (fun ls hl => ?_)
          refine lv_goto (tgt := 11) hx hb dX7_rightAt_42 (by decide) ?_
          exact hA11 _ _ _ _ _ _ _ _ hP hS (lv_sub hl [2, 3, 1, 0] rfl) hk_j0 h
  unfold wX7_rightAt at h
  refine lv_iload_n hx hb dX7_rightAt_0 rfl (lv_at hl 1 rfl) ?_
  refine lv_if_ge (tgt := 7) hx hb dX7_rightAt_1 (by decide) (fun c1 => ?_) (fun c1 => ?_)
  · replace h := h.1 c1
    refine lv_iconst (v := (0 : Int32)) hx hb dX7_rightAt_7 k_iconst_0 ?_
    refine lv_istore_n (lv' := [(2, .int (0 : Int32)), (0, .ref (G.2.1 + j0a)), (1, .int x1a)]) hx hb dX7_rightAt_8 rfl hl (by decide) rfl (fun ls hl => ?_)
    refine lv_iconst (v := (0 : Int32)) hx hb dX7_rightAt_9 k_iconst_0 ?_
    refine lv_istore_n (lv' := [(3, .int (0 : Int32)), (2, .int (0 : Int32)), (0, .ref (G.2.1 + j0a)), (1, .int x1a)]) hx hb dX7_rightAt_10 rfl hl (by decide) rfl (fun ls hl => ?_)
    obtain ⟨n2, h⟩ := h
    exact B11 _ _ _ _ _ _ _ _ _ hP hS (lv_sub hl [2, 3, 1, 0] rfl) hk_j0a h
  · replace h := h.2 c1
    refine lv_ldc hx hb hown (hts _ q_7_13) dX7_rightAt_4 ?_
    exact re_i hx hb hr hlocks hP hS h dX7_rightAt_6
set_option maxHeartbeats 4000000 in
set_option maxRecDepth 100000 in
theorem mX7_tendedOnes (l : Launch) (G : Gp) (j0a : Nat) (M : Mm) (Post : Mm → Int32 → Prop) (hk_j0a : kd j0a = 7) (h : wX7_tendedOnes Post M j0a) : CtI l yX7_tendedOnes wsX7_tendedOnes rX7_tendedOnes G [.ref (G.2.1 + j0a)] M Post := by
  refine Met.ofW (cc := cX7_tendedOnes) (maxL := 3) (ret := (some .int)) (by decide) rfl ?_
  intro p e s m args below meth c s₁ B hml hv
  obtain ⟨rfl, hK, hP⟩ := hv
  have hx := B.exec
  have hb := B.bytes
  have hr := B.returns
  have hlocks := B.notSynchronized
  have hts0 := atoms_spec (ws := wsX7_tendedOnes) B.pre
  have hts : ∀ w ∈ wsL_law, w.before _ s = true := fun w hw => hts0 w (List.mem_cons_of_mem _ hw)
  have hown : s.vm.findClass RX7 = some m.cls := findClass_of_methodNamed B.named
  have hS : va_S (Fr G) s.heap s.heap [] := va_S.rf
  have hl := lv_entry ([.ref (G.2.1 + j0a)]) (n := 3) (Nat.le_of_ble_eq_true rfl)
  rw [lg_entry_eq]
  generalize (lg_sl ([.ref (G.2.1 + j0a)]) ++ List.replicate (3 - (lg_sl ([.ref (G.2.1 + j0a)])).length) Slot.unset).toArray = ls at hl ⊢
  have hl : lv_has ls 3 [(0, .ref (G.2.1 + j0a))] := hl
  have B4 : ∀ n : Nat, ∀ (M : Mm) (j0 : Nat) (x1 : Int32) (x2 : Int32) (H : Heap) (locs : List Loc) (ls : Array Slot), Rp G M H → va_S (Fr G) s.heap H locs → lv_has ls 3 [(0, .ref (G.2.1 + j0)), (1, .int x1), (2, .int x2)] → kd j0 = 7 → lX7_tendedOnes_4 Post n M j0 x1 x2 → Wi p l e (headSpec wsX7_tendedOnes rX7_tendedOnes).room s m [.ref (G.2.1 + j0a)].toArray below meth c G Post H locs (F0 m 4 ls []) := by
    intro n
    induction n with
    | zero => intro M j0 x1 x2 H locs ls hP hS hl hk_j0 h; exact h.elim
    | succ n ih =>
      intro M j0 x1 x2 H locs ls hP hS hl hk_j0 h
      have hA4 := ih
      replace h : bX7_tendedOnes_4 Post (lX7_tendedOnes_4 Post n) M j0 x1 x2 := h
      unfold bX7_tendedOnes_4 at h
      refine lv_iload_n hx hb dX7_tendedOnes_4 rfl (lv_at hl 2 rfl) ?_
      refine lv_aload_n hx hb dX7_tendedOnes_5 rfl (lv_at hl 0 rfl) ?_
      refine rk_getr hx hb hts inlX7 hown hK hP hk_j0 cl_7 0 1 fq_7_0 q_4_13 rfl dX7_tendedOnes_6 ?_
      refine lv_iconst (v := (0 : Int32)) hx hb dX7_tendedOnes_9 k_iconst_0 ?_
      refine rk_iald hx hb hK hP (ky_7_0 hk_j0) ac_12 0 ix_0 vi_0_168 dX7_tendedOnes_10 ?_
      refine lv_icmp_ge (tgt := 39) hx hb dX7_tendedOnes_11 (by decide) (fun c2 => ?_) (fun c2 => ?_)
      · replace h := h.1 c2
        refine lv_iload_n hx hb dX7_tendedOnes_39 rfl (lv_at hl 1 rfl) ?_
        exact re_i hx hb hr hlocks hP hS h dX7_tendedOnes_40
      · replace h := h.2 c2
        refine lv_iload_n hx hb dX7_tendedOnes_14 rfl (lv_at hl 1 rfl) ?_
        refine lv_aload_n hx hb dX7_tendedOnes_15 rfl (lv_at hl 0 rfl) ?_
        refine lv_iload_n hx hb dX7_tendedOnes_16 rfl (lv_at hl 2 rfl) ?_
        refine lv_iconst (v := (5 : Int32)) hx hb dX7_tendedOnes_17 k_iconst_5 ?_
        refine rc_Vi (As := [.int x2, .int (5 : Int32)]) (rest := [.int x1]) ⟨hx, hb, hml, hown, hts⟩ (mX7_ca l G j0 x2 (5 : Int32) M _ hk_j0 h) (cwV 2 hts (gV_X7_ca q_10_4) rfl rfl rfl hdV_X7_ca ⟨Nat.le_of_ble_eq_true rfl, Nat.le_of_ble_eq_true rfl⟩) hK hP hS hk_j0 (by decide) cl_7 rfl hl.1 rfl (Nat.le_of_ble_eq_true rfl) dX7_tendedOnes_18 ⟨Nat.zero_le _, Nat.zero_le _⟩ (fun r4 M3 H locs h hP hS => ?_)
        refine lv_if_lt (tgt := 30) hx hb dX7_tendedOnes_21 (by decide) (fun c5 => ?_) (fun c5 => ?_)
        · replace h := h.1 c5
          refine lv_iconst (v := (0 : Int32)) hx hb dX7_tendedOnes_30 k_iconst_0 ?_
          refine lv_ior hx hb dX7_tendedOnes_31 ?_
          refine lv_topi (fun x1_6 ex1_6 => ?_)
          replace h := h x1_6 ex1_6
          refine lv_istore_n (lv' := [(1, .int x1_6), (0, .ref (G.2.1 + j0)), (2, .int x2)]) hx hb dX7_tendedOnes_32 rfl hl (by decide) rfl (fun ls hl => ?_)
          obtain ⟨x2_7, ex2_7⟩ : ∃ y : Int32, y = x2 + (1 : Int32) := ⟨_, rfl⟩
          replace h := h x2_7 ex2_7
          refine lv_iinc (v := x2_7) (lv' := [(2, .int x2_7), (1, .int x1_6), (0, .ref (G.2.1 + j0))]) hx hb dX7_tendedOnes_33 hl (k := 2) rfl (by rw [ex2_7]; rfl) (by decide) rfl (fun ls hl => ?_)
          refine lv_goto (tgt := 4) hx hb dX7_tendedOnes_36 (by decide) ?_
          exact hA4 _ _ _ _ _ _ _ hP hS (lv_sub hl [2, 1, 0] rfl) hk_j0 h
        · replace h := h.2 c5
          refine lv_iconst (v := (1 : Int32)) hx hb dX7_tendedOnes_24 k_iconst_1 ?_
          refine lv_iload_n hx hb dX7_tendedOnes_25 rfl (lv_at hl 2 rfl) ?_
          refine lv_ishl hx hb dX7_tendedOnes_26 ?_
          refine lv_goto (tgt := 31) hx hb dX7_tendedOnes_27 (by decide) ?_
          refine lv_ior hx hb dX7_tendedOnes_31 ?_
          refine lv_topi (fun x1_8 ex1_8 => ?_)
          replace h := h x1_8 ex1_8
          refine lv_istore_n (lv' := [(1, .int x1_8), (0, .ref (G.2.1 + j0)), (2, .int x2)]) hx hb dX7_tendedOnes_32 rfl hl (by decide) rfl (fun ls hl => ?_)
          obtain ⟨x2_9, ex2_9⟩ : ∃ y : Int32, y = x2 + (1 : Int32) := ⟨_, rfl⟩
          replace h := h x2_9 ex2_9
          refine lv_iinc (v := x2_9) (lv' := [(2, .int x2_9), (1, .int x1_8), (0, .ref (G.2.1 + j0))]) hx hb dX7_tendedOnes_33 hl (k := 2) rfl (by rw [ex2_9]; rfl) (by decide) rfl (fun ls hl => ?_)
          refine lv_goto (tgt := 4) hx hb dX7_tendedOnes_36 (by decide) ?_
          exact hA4 _ _ _ _ _ _ _ hP hS (lv_sub hl [2, 1, 0] rfl) hk_j0 h
  unfold wX7_tendedOnes at h
  refine lv_iconst (v := (0 : Int32)) hx hb dX7_tendedOnes_0 k_iconst_0 ?_
  refine lv_istore_n (lv' := [(1, .int (0 : Int32)), (0, .ref (G.2.1 + j0a))]) hx hb dX7_tendedOnes_1 rfl hl (by decide) rfl (fun ls hl => ?_)
  refine lv_iconst (v := (1 : Int32)) hx hb dX7_tendedOnes_2 k_iconst_1 ?_
  refine lv_istore_n (lv' := [(2, .int (1 : Int32)), (1, .int (0 : Int32)), (0, .ref (G.2.1 + j0a))]) hx hb dX7_tendedOnes_3 rfl hl (by decide) rfl (fun ls hl => ?_)
  obtain ⟨n1, h⟩ := h
  exact B4 _ _ _ _ _ _ _ _ hP hS (lv_sub hl [2, 1, 0] rfl) hk_j0a h
set_option maxHeartbeats 4000000 in
set_option maxRecDepth 100000 in
theorem mX7_wanting (l : Launch) (G : Gp) (j0a : Nat) (M : Mm) (Post : Mm → Int32 → Prop) (hk_j0a : kd j0a = 7) (h : wX7_wanting Post M j0a) : CtI l yX7_wanting wsX7_wanting rX7_wanting G [.ref (G.2.1 + j0a)] M Post := by
  refine Met.ofW (cc := cX7_wanting) (maxL := 3) (ret := (some .int)) (by decide) rfl ?_
  intro p e s m args below meth c s₁ B hml hv
  obtain ⟨rfl, hK, hP⟩ := hv
  have hx := B.exec
  have hb := B.bytes
  have hr := B.returns
  have hlocks := B.notSynchronized
  have hts0 := atoms_spec (ws := wsX7_wanting) B.pre
  have hts : ∀ w ∈ wsL_law, w.before _ s = true := fun w hw => hts0 w (List.mem_cons_of_mem _ hw)
  have hown : s.vm.findClass RX7 = some m.cls := findClass_of_methodNamed B.named
  have hS : va_S (Fr G) s.heap s.heap [] := va_S.rf
  have hl := lv_entry ([.ref (G.2.1 + j0a)]) (n := 3) (Nat.le_of_ble_eq_true rfl)
  rw [lg_entry_eq]
  generalize (lg_sl ([.ref (G.2.1 + j0a)]) ++ List.replicate (3 - (lg_sl ([.ref (G.2.1 + j0a)])).length) Slot.unset).toArray = ls at hl ⊢
  have hl : lv_has ls 3 [(0, .ref (G.2.1 + j0a))] := hl
  have B4 : ∀ n : Nat, ∀ (M : Mm) (j0 : Nat) (x1 : Int32) (x2 : Int32) (H : Heap) (locs : List Loc) (ls : Array Slot), Rp G M H → va_S (Fr G) s.heap H locs → lv_has ls 3 [(0, .ref (G.2.1 + j0)), (1, .int x1), (2, .int x2)] → kd j0 = 7 → lX7_wanting_4 Post n M j0 x1 x2 → Wi p l e (headSpec wsX7_wanting rX7_wanting).room s m [.ref (G.2.1 + j0a)].toArray below meth c G Post H locs (F0 m 4 ls []) := by
    intro n
    induction n with
    | zero => intro M j0 x1 x2 H locs ls hP hS hl hk_j0 h; exact h.elim
    | succ n ih =>
      intro M j0 x1 x2 H locs ls hP hS hl hk_j0 h
      have hA4 := ih
      replace h : bX7_wanting_4 Post (lX7_wanting_4 Post n) M j0 x1 x2 := h
      unfold bX7_wanting_4 at h
      refine lv_iload_n hx hb dX7_wanting_4 rfl (lv_at hl 2 rfl) ?_
      refine lv_aload_n hx hb dX7_wanting_5 rfl (lv_at hl 0 rfl) ?_
      refine rk_getr hx hb hts inlX7 hown hK hP hk_j0 cl_7 0 1 fq_7_0 q_4_13 rfl dX7_wanting_6 ?_
      refine lv_iconst (v := (1 : Int32)) hx hb dX7_wanting_9 k_iconst_1 ?_
      refine rk_iald hx hb hK hP (ky_7_0 hk_j0) ac_12 1 ix_1 vi_1_168 dX7_wanting_10 ?_
      refine lv_icmp_ge (tgt := 36) hx hb dX7_wanting_11 (by decide) (fun c2 => ?_) (fun c2 => ?_)
      · replace h := h.1 c2
        refine lv_iload_n hx hb dX7_wanting_36 rfl (lv_at hl 1 rfl) ?_
        exact re_i hx hb hr hlocks hP hS h dX7_wanting_37
      · replace h := h.2 c2
        refine lv_iload_n hx hb dX7_wanting_14 rfl (lv_at hl 1 rfl) ?_
        refine lv_aload_n hx hb dX7_wanting_15 rfl (lv_at hl 0 rfl) ?_
        refine lv_iload_n hx hb dX7_wanting_16 rfl (lv_at hl 2 rfl) ?_
        refine rc_Vi (As := [.int x2]) (rest := [.int x1]) ⟨hx, hb, hml, hown, hts⟩ (mX7_wants l G j0 x2 M _ hk_j0 h) (cwV 1 hts (gV_X7_wants q_14_12) rfl rfl rfl hdV_X7_wants ⟨Nat.le_of_ble_eq_true rfl, Nat.le_of_ble_eq_true rfl⟩) hK hP hS hk_j0 (by decide) cl_7 rfl hl.1 rfl (Nat.le_of_ble_eq_true rfl) dX7_wanting_17 ⟨Nat.zero_le _, Nat.zero_le _⟩ (fun r4 M3 H locs h hP hS => ?_)
        refine lv_if_eq (tgt := 27) hx hb dX7_wanting_20 (by decide) (fun c5 => ?_) (fun c5 => ?_)
        · replace h := h.1 c5
          refine lv_iconst (v := (0 : Int32)) hx hb dX7_wanting_27 k_iconst_0 ?_
          refine lv_iadd hx hb dX7_wanting_28 ?_
          refine lv_topi (fun x1_6 ex1_6 => ?_)
          replace h := h x1_6 ex1_6
          refine lv_istore_n (lv' := [(1, .int x1_6), (0, .ref (G.2.1 + j0)), (2, .int x2)]) hx hb dX7_wanting_29 rfl hl (by decide) rfl (fun ls hl => ?_)
          obtain ⟨x2_7, ex2_7⟩ : ∃ y : Int32, y = x2 + (1 : Int32) := ⟨_, rfl⟩
          replace h := h x2_7 ex2_7
          refine lv_iinc (v := x2_7) (lv' := [(2, .int x2_7), (1, .int x1_6), (0, .ref (G.2.1 + j0))]) hx hb dX7_wanting_30 hl (k := 2) rfl (by rw [ex2_7]; rfl) (by decide) rfl (fun ls hl => ?_)
          refine lv_goto (tgt := 4) hx hb dX7_wanting_33 (by decide) ?_
          exact hA4 _ _ _ _ _ _ _ hP hS (lv_sub hl [2, 1, 0] rfl) hk_j0 h
        · replace h := h.2 c5
          refine lv_iconst (v := (1 : Int32)) hx hb dX7_wanting_23 k_iconst_1 ?_
          refine lv_goto (tgt := 28) hx hb dX7_wanting_24 (by decide) ?_
          refine lv_iadd hx hb dX7_wanting_28 ?_
          refine lv_topi (fun x1_8 ex1_8 => ?_)
          replace h := h x1_8 ex1_8
          refine lv_istore_n (lv' := [(1, .int x1_8), (0, .ref (G.2.1 + j0)), (2, .int x2)]) hx hb dX7_wanting_29 rfl hl (by decide) rfl (fun ls hl => ?_)
          obtain ⟨x2_9, ex2_9⟩ : ∃ y : Int32, y = x2 + (1 : Int32) := ⟨_, rfl⟩
          replace h := h x2_9 ex2_9
          refine lv_iinc (v := x2_9) (lv' := [(2, .int x2_9), (1, .int x1_8), (0, .ref (G.2.1 + j0))]) hx hb dX7_wanting_30 hl (k := 2) rfl (by rw [ex2_9]; rfl) (by decide) rfl (fun ls hl => ?_)
          refine lv_goto (tgt := 4) hx hb dX7_wanting_33 (by decide) ?_
          exact hA4 _ _ _ _ _ _ _ hP hS (lv_sub hl [2, 1, 0] rfl) hk_j0 h
  unfold wX7_wanting at h
  refine lv_iconst (v := (0 : Int32)) hx hb dX7_wanting_0 k_iconst_0 ?_
  refine lv_istore_n (lv' := [(1, .int (0 : Int32)), (0, .ref (G.2.1 + j0a))]) hx hb dX7_wanting_1 rfl hl (by decide) rfl (fun ls hl => ?_)
  refine lv_iconst (v := (0 : Int32)) hx hb dX7_wanting_2 k_iconst_0 ?_
  refine lv_istore_n (lv' := [(2, .int (0 : Int32)), (1, .int (0 : Int32)), (0, .ref (G.2.1 + j0a))]) hx hb dX7_wanting_3 rfl hl (by decide) rfl (fun ls hl => ?_)
  obtain ⟨n1, h⟩ := h
  exact B4 _ _ _ _ _ _ _ _ hP hS (lv_sub hl [2, 1, 0] rfl) hk_j0a h
set_option maxHeartbeats 4000000 in
set_option maxRecDepth 100000 in
theorem mX7_count (l : Launch) (G : Gp) (j0a : Nat) (x1a : Int32) (M : Mm) (Post : Mm → Int32 → Prop) (hk_j0a : kd j0a = 7) (h : wX7_count Post M j0a x1a) : CtI l yX7_count wsX7_count rX7_count G [.ref (G.2.1 + j0a), .int x1a] M Post := by
  refine Met.ofW (cc := cX7_count) (maxL := 2) (ret := (some .int)) (by decide) rfl ?_
  intro p e s m args below meth c s₁ B hml hv
  obtain ⟨rfl, hK, hP⟩ := hv
  have hx := B.exec
  have hb := B.bytes
  have hr := B.returns
  have hlocks := B.notSynchronized
  have hts0 := atoms_spec (ws := wsX7_count) B.pre
  have hts : ∀ w ∈ wsL_law, w.before _ s = true := fun w hw => hts0 w (List.mem_cons_of_mem _ hw)
  have hown : s.vm.findClass RX7 = some m.cls := findClass_of_methodNamed B.named
  have hS : va_S (Fr G) s.heap s.heap [] := va_S.rf
  have hl := lv_entry ([.ref (G.2.1 + j0a), .int x1a]) (n := 2) (Nat.le_of_ble_eq_true rfl)
  rw [lg_entry_eq]
  generalize (lg_sl ([.ref (G.2.1 + j0a), .int x1a]) ++ List.replicate (2 - (lg_sl ([.ref (G.2.1 + j0a), .int x1a])).length) Slot.unset).toArray = ls at hl ⊢
  have hl : lv_has ls 2 [(0, .ref (G.2.1 + j0a)), (1, .int x1a)] := hl
  have B80 : ∀ (M : Mm) (j0 : Nat) (x1 : Int32) (H : Heap) (locs : List Loc) (ls : Array Slot), Rp G M H → va_S (Fr G) s.heap H locs → lv_has ls 2 [(0, .ref (G.2.1 + j0)), (1, .int x1)] → kd j0 = 7 → bX7_count_80 Post M j0 x1 → Wi p l e (headSpec wsX7_count rX7_count).room s m [.ref (G.2.1 + j0a), .int x1a].toArray below meth c G Post H locs (F0 m 80 ls []) := by
    intro M j0 x1 H locs ls hP hS hl hk_j0 h
    unfold bX7_count_80 at h
    refine lv_aload_n hx hb dX7_count_80 rfl (lv_at hl 0 rfl) ?_
    refine rk_getr hx hb hts inlX7 hown hK hP hk_j0 cl_7 0 1 fq_7_0 q_4_13 rfl dX7_count_81 ?_
    refine lv_iload_n hx hb dX7_count_84 rfl (lv_at hl 1 rfl) ?_
    refine rk_iald hx hb hK hP (ky_7_0 hk_j0) ac_12 _ rfl h.1 dX7_count_85 ?_
    replace h := h.2
    exact re_i hx hb hr hlocks hP hS h dX7_count_86
  have B107 : ∀ (M : Mm) (j0 : Nat) (x1 : Int32) (H : Heap) (locs : List Loc) (ls : Array Slot), Rp G M H → va_S (Fr G) s.heap H locs → lv_has ls 2 [(0, .ref (G.2.1 + j0)), (1, .int x1)] → kd j0 = 7 → bX7_count_107 Post M j0 x1 → Wi p l e (headSpec wsX7_count rX7_count).room s m [.ref (G.2.1 + j0a), .int x1a].toArray below meth c G Post H locs (F0 m 107 ls []) := by
    intro M j0 x1 H locs ls hP hS hl hk_j0 h
    unfold bX7_count_107 at h
    refine lv_aload_n hx hb dX7_count_107 rfl (lv_at hl 0 rfl) ?_
    refine rk_getr hx hb hts inlX7 hown hK hP hk_j0 cl_7 0 1 fq_7_0 q_4_13 rfl dX7_count_108 ?_
    refine lv_iconst (v := (5 : Int32)) hx hb dX7_count_111 k_iconst_5 ?_
    refine lv_iload_n hx hb dX7_count_112 rfl (lv_at hl 1 rfl) ?_
    refine lv_iadd hx hb dX7_count_113 ?_
    refine lv_bipush (v := (6 : Int32)) hx hb dX7_count_114 k_bipush_6 ?_
    refine lv_isub hx hb dX7_count_116 ?_
    refine rk_iald hx hb hK hP (ky_7_0 hk_j0) ac_12 _ rfl h.1 dX7_count_117 ?_
    replace h := h.2
    exact re_i hx hb hr hlocks hP hS h dX7_count_118
  unfold wX7_count at h
  refine lv_iload_n hx hb dX7_count_0 rfl (lv_at hl 1 rfl) ?_
  by_cases c1 : x1a = (0 : Int32)
  · replace h := h.1 c1
    refine lv_tableIn (off := 79) (tgt := 80) hx hb dX7_count_1 (by rw [c1]; decide) (by rw [c1]; decide) (by rw [c1]; rfl) (by decide) ?_
    exact B80 _ _ _ _ _ _ hP hS (lv_sub hl [0, 1] rfl) hk_j0a h
  replace h := h.2 c1
  by_cases c2 : x1a = (1 : Int32)
  · replace h := h.1 c2
    refine lv_tableIn (off := 79) (tgt := 80) hx hb dX7_count_1 (by rw [c2]; decide) (by rw [c2]; decide) (by rw [c2]; rfl) (by decide) ?_
    exact B80 _ _ _ _ _ _ hP hS (lv_sub hl [0, 1] rfl) hk_j0a h
  replace h := h.2 c2
  by_cases c3 : x1a = (2 : Int32)
  · replace h := h.1 c3
    refine lv_tableIn (off := 86) (tgt := 87) hx hb dX7_count_1 (by rw [c3]; decide) (by rw [c3]; decide) (by rw [c3]; rfl) (by decide) ?_
    refine lv_aload_n hx hb dX7_count_87 rfl (lv_at hl 0 rfl) ?_
    refine rc_Vi (As := []) (rest := []) ⟨hx, hb, hml, hown, hts⟩ (mX7_wanting l G j0a M _ hk_j0a h) (cwV 0 hts (gV_X7_wanting q_30_15) rfl rfl rfl hdV_X7_wanting ⟨Nat.le_of_ble_eq_true rfl, Nat.le_of_ble_eq_true rfl⟩) hK hP hS hk_j0a (by decide) cl_7 rfl hl.1 rfl (Nat.le_of_ble_eq_true rfl) dX7_count_88 ⟨Nat.zero_le _, Nat.zero_le _⟩ (fun r5 M4 H locs h hP hS => ?_)
    exact re_i hx hb hr hlocks hP hS h dX7_count_91
  replace h := h.2 c3
  by_cases c6 : x1a = (3 : Int32)
  · replace h := h.1 c6
    refine lv_tableIn (off := 91) (tgt := 92) hx hb dX7_count_1 (by rw [c6]; decide) (by rw [c6]; decide) (by rw [c6]; rfl) (by decide) ?_
    refine lv_aload_n hx hb dX7_count_92 rfl (lv_at hl 0 rfl) ?_
    refine rc_Vi (As := []) (rest := []) ⟨hx, hb, hml, hown, hts⟩ (mX7_calling l G j0a M _ hk_j0a h) (cwV 0 hts (gV_X7_calling q_14_16) rfl rfl rfl hdV_X7_calling ⟨Nat.le_of_ble_eq_true rfl, Nat.le_of_ble_eq_true rfl⟩) hK hP hS hk_j0a (by decide) cl_7 rfl hl.1 rfl (Nat.le_of_ble_eq_true rfl) dX7_count_93 ⟨Nat.zero_le _, Nat.zero_le _⟩ (fun r8 M7 H locs h hP hS => ?_)
    exact re_i hx hb hr hlocks hP hS h dX7_count_96
  replace h := h.2 c6
  by_cases c9 : x1a = (4 : Int32)
  · replace h := h.1 c9
    refine lv_tableIn (off := 96) (tgt := 97) hx hb dX7_count_1 (by rw [c9]; decide) (by rw [c9]; decide) (by rw [c9]; rfl) (by decide) ?_
    refine lv_aload_n hx hb dX7_count_97 rfl (lv_at hl 0 rfl) ?_
    refine rc_Vi (As := []) (rest := []) ⟨hx, hb, hml, hown, hts⟩ (mX7_openOnes l G j0a M _ hk_j0a h) (cwV 0 hts (gV_X7_openOnes q_11_21) rfl rfl rfl hdV_X7_openOnes ⟨Nat.le_of_ble_eq_true rfl, Nat.le_of_ble_eq_true rfl⟩) hK hP hS hk_j0a (by decide) cl_7 rfl hl.1 rfl (Nat.le_of_ble_eq_true rfl) dX7_count_98 ⟨Nat.zero_le _, Nat.zero_le _⟩ (fun r11 M10 H locs h hP hS => ?_)
    exact re_i hx hb hr hlocks hP hS h dX7_count_101
  replace h := h.2 c9
  by_cases c12 : x1a = (5 : Int32)
  · replace h := h.1 c12
    refine lv_tableIn (off := 101) (tgt := 102) hx hb dX7_count_1 (by rw [c12]; decide) (by rw [c12]; decide) (by rw [c12]; rfl) (by decide) ?_
    refine lv_aload_n hx hb dX7_count_102 rfl (lv_at hl 0 rfl) ?_
    refine rc_Vi (As := []) (rest := []) ⟨hx, hb, hml, hown, hts⟩ (mX7_tendedOnes l G j0a M _ hk_j0a h) (cwV 0 hts (gV_X7_tendedOnes q_30_19) rfl rfl rfl hdV_X7_tendedOnes ⟨Nat.le_of_ble_eq_true rfl, Nat.le_of_ble_eq_true rfl⟩) hK hP hS hk_j0a (by decide) cl_7 rfl hl.1 rfl (Nat.le_of_ble_eq_true rfl) dX7_count_103 ⟨Nat.zero_le _, Nat.zero_le _⟩ (fun r14 M13 H locs h hP hS => ?_)
    exact re_i hx hb hr hlocks hP hS h dX7_count_106
  replace h := h.2 c12
  by_cases c15 : x1a = (6 : Int32)
  · replace h := h.1 c15
    refine lv_tableIn (off := 106) (tgt := 107) hx hb dX7_count_1 (by rw [c15]; decide) (by rw [c15]; decide) (by rw [c15]; rfl) (by decide) ?_
    exact B107 _ _ _ _ _ _ hP hS (lv_sub hl [0, 1] rfl) hk_j0a h
  replace h := h.2 c15
  by_cases c16 : x1a = (7 : Int32)
  · replace h := h.1 c16
    refine lv_tableIn (off := 106) (tgt := 107) hx hb dX7_count_1 (by rw [c16]; decide) (by rw [c16]; decide) (by rw [c16]; rfl) (by decide) ?_
    exact B107 _ _ _ _ _ _ hP hS (lv_sub hl [0, 1] rfl) hk_j0a h
  replace h := h.2 c16
  by_cases c17 : x1a = (8 : Int32)
  · replace h := h.1 c17
    refine lv_tableIn (off := 106) (tgt := 107) hx hb dX7_count_1 (by rw [c17]; decide) (by rw [c17]; decide) (by rw [c17]; rfl) (by decide) ?_
    exact B107 _ _ _ _ _ _ hP hS (lv_sub hl [0, 1] rfl) hk_j0a h
  replace h := h.2 c17
  by_cases c18 : x1a = (9 : Int32)
  · replace h := h.1 c18
    refine lv_tableIn (off := 106) (tgt := 107) hx hb dX7_count_1 (by rw [c18]; decide) (by rw [c18]; decide) (by rw [c18]; rfl) (by decide) ?_
    exact B107 _ _ _ _ _ _ hP hS (lv_sub hl [0, 1] rfl) hk_j0a h
  replace h := h.2 c18
  by_cases c19 : x1a = (10 : Int32)
  · replace h := h.1 c19
    refine lv_tableIn (off := 106) (tgt := 107) hx hb dX7_count_1 (by rw [c19]; decide) (by rw [c19]; decide) (by rw [c19]; rfl) (by decide) ?_
    exact B107 _ _ _ _ _ _ hP hS (lv_sub hl [0, 1] rfl) hk_j0a h
  replace h := h.2 c19
  by_cases c20 : x1a = (11 : Int32)
  · replace h := h.1 c20
    refine lv_tableIn (off := 118) (tgt := 119) hx hb dX7_count_1 (by rw [c20]; decide) (by rw [c20]; decide) (by rw [c20]; rfl) (by decide) ?_
    refine lv_aload_n hx hb dX7_count_119 rfl (lv_at hl 0 rfl) ?_
    refine rk_getr hx hb hts inlX7 hown hK hP hk_j0a cl_7 0 1 fq_7_0 q_4_13 rfl dX7_count_120 ?_
    refine lv_iconst (v := (2 : Int32)) hx hb dX7_count_123 k_iconst_2 ?_
    refine rk_iald hx hb hK hP (ky_7_0 hk_j0a) ac_12 2 ix_2 vi_2_168 dX7_count_124 ?_
    exact re_i hx hb hr hlocks hP hS h dX7_count_125
  replace h := h.2 c20
  by_cases c21 : x1a = (12 : Int32)
  · replace h := h.1 c21
    refine lv_tableIn (off := 125) (tgt := 126) hx hb dX7_count_1 (by rw [c21]; decide) (by rw [c21]; decide) (by rw [c21]; rfl) (by decide) ?_
    refine lv_aload_n hx hb dX7_count_126 rfl (lv_at hl 0 rfl) ?_
    refine rk_getr hx hb hts inlX7 hown hK hP hk_j0a cl_7 0 1 fq_7_0 q_4_13 rfl dX7_count_127 ?_
    refine lv_iconst (v := (2 : Int32)) hx hb dX7_count_130 k_iconst_2 ?_
    refine rk_iald hx hb hK hP (ky_7_0 hk_j0a) ac_12 2 ix_2 vi_2_168 dX7_count_131 ?_
    refine lv_if_ne (tgt := 140) hx hb dX7_count_132 (by decide) (fun c22 => ?_) (fun c22 => ?_)
    · replace h := h.1 c22
      refine lv_aload_n hx hb dX7_count_140 rfl (lv_at hl 0 rfl) ?_
      refine rk_getr hx hb hts inlX7 hown hK hP hk_j0a cl_7 0 1 fq_7_0 q_4_13 rfl dX7_count_141 ?_
      refine lv_iconst (v := (3 : Int32)) hx hb dX7_count_144 k_iconst_3 ?_
      refine rk_iald hx hb hK hP (ky_7_0 hk_j0a) ac_12 3 ix_3 vi_3_168 dX7_count_145 ?_
      exact re_i hx hb hr hlocks hP hS h dX7_count_146
    · replace h := h.2 c22
      refine lv_ldc hx hb hown (hts _ q_24_4) dX7_count_135 ?_
      refine lv_goto (tgt := 146) hx hb dX7_count_137 (by decide) ?_
      exact re_i hx hb hr hlocks hP hS h dX7_count_146
  replace h := h.2 c21
  by_cases c23 : x1a = (13 : Int32)
  · replace h := h.1 c23
    refine lv_tableIn (off := 146) (tgt := 147) hx hb dX7_count_1 (by rw [c23]; decide) (by rw [c23]; decide) (by rw [c23]; rfl) (by decide) ?_
    refine lv_aload_n hx hb dX7_count_147 rfl (lv_at hl 0 rfl) ?_
    refine rk_getr hx hb hts inlX7 hown hK hP hk_j0a cl_7 0 1 fq_7_0 q_4_13 rfl dX7_count_148 ?_
    refine lv_iconst (v := (4 : Int32)) hx hb dX7_count_151 k_iconst_4 ?_
    refine rk_iald hx hb hK hP (ky_7_0 hk_j0a) ac_12 4 ix_4 vi_4_168 dX7_count_152 ?_
    exact re_i hx hb hr hlocks hP hS h dX7_count_153
  replace h := h.2 c23
  by_cases c24 : x1a = (14 : Int32)
  · replace h := h.1 c24
    refine lv_tableIn (off := 153) (tgt := 154) hx hb dX7_count_1 (by rw [c24]; decide) (by rw [c24]; decide) (by rw [c24]; rfl) (by decide) ?_
    refine lv_aload_n hx hb dX7_count_154 rfl (lv_at hl 0 rfl) ?_
    refine rk_geti hx hb hts inlX7 hown hK hP hk_j0a cl_7 4 fq_7_4 q_8_6 rfl dX7_count_155 ?_
    exact re_i hx hb hr hlocks hP hS h dX7_count_158
  replace h := h.2 c24
  by_cases c25 : x1a = (15 : Int32)
  · replace h := h.1 c25
    refine lv_tableIn (off := 158) (tgt := 159) hx hb dX7_count_1 (by rw [c25]; decide) (by rw [c25]; decide) (by rw [c25]; rfl) (by decide) ?_
    refine lv_aload_n hx hb dX7_count_159 rfl (lv_at hl 0 rfl) ?_
    refine rk_geti hx hb hts inlX7 hown hK hP hk_j0a cl_7 6 fq_7_6 q_30_14 rfl dX7_count_160 ?_
    exact re_i hx hb hr hlocks hP hS h dX7_count_163
  replace h := h.2 c25
  refine lv_tableOut (tgt := 164) hx hb dX7_count_1 (by have gc1 := lv_neT c1 (show (0 : Int32).toInt = 0 from rfl); have gc2 := lv_neT c2 (show (1 : Int32).toInt = 1 from rfl); have gc3 := lv_neT c3 (show (2 : Int32).toInt = 2 from rfl); have gc6 := lv_neT c6 (show (3 : Int32).toInt = 3 from rfl); have gc9 := lv_neT c9 (show (4 : Int32).toInt = 4 from rfl); have gc12 := lv_neT c12 (show (5 : Int32).toInt = 5 from rfl); have gc15 := lv_neT c15 (show (6 : Int32).toInt = 6 from rfl); have gc16 := lv_neT c16 (show (7 : Int32).toInt = 7 from rfl); have gc17 := lv_neT c17 (show (8 : Int32).toInt = 8 from rfl); have gc18 := lv_neT c18 (show (9 : Int32).toInt = 9 from rfl); have gc19 := lv_neT c19 (show (10 : Int32).toInt = 10 from rfl); have gc20 := lv_neT c20 (show (11 : Int32).toInt = 11 from rfl); have gc21 := lv_neT c21 (show (12 : Int32).toInt = 12 from rfl); have gc23 := lv_neT c23 (show (13 : Int32).toInt = 13 from rfl); have gc24 := lv_neT c24 (show (14 : Int32).toInt = 14 from rfl); have gc25 := lv_neT c25 (show (15 : Int32).toInt = 15 from rfl); omega) (by decide) ?_
  refine lv_ldc hx hb hown (hts _ q_7_13) dX7_count_164 ?_
  exact re_i hx hb hr hlocks hP hS h dX7_count_166
set_option maxHeartbeats 4000000 in
set_option maxRecDepth 100000 in
theorem mX7_undo (l : Launch) (G : Gp) (j0a : Nat) (M : Mm) (Post : Mm → Int32 → Prop) (hk_j0a : kd j0a = 7) (h : wX7_undo Post M j0a) : CtI l yX7_undo wsX7_undo rX7_undo G [.ref (G.2.1 + j0a)] M Post := by
  refine Met.ofW (cc := cX7_undo) (maxL := 2) (ret := (some .int)) (by decide) rfl ?_
  intro p e s m args below meth c s₁ B hml hv
  obtain ⟨rfl, hK, hP⟩ := hv
  have hx := B.exec
  have hb := B.bytes
  have hr := B.returns
  have hlocks := B.notSynchronized
  have hts0 := atoms_spec (ws := wsX7_undo) B.pre
  have hts : ∀ w ∈ wsL_law, w.before _ s = true := fun w hw => hts0 w (List.mem_cons_of_mem _ hw)
  have hown : s.vm.findClass RX7 = some m.cls := findClass_of_methodNamed B.named
  have hS : va_S (Fr G) s.heap s.heap [] := va_S.rf
  have hl := lv_entry ([.ref (G.2.1 + j0a)]) (n := 2) (Nat.le_of_ble_eq_true rfl)
  rw [lg_entry_eq]
  generalize (lg_sl ([.ref (G.2.1 + j0a)]) ++ List.replicate (2 - (lg_sl ([.ref (G.2.1 + j0a)])).length) Slot.unset).toArray = ls at hl ⊢
  have hl : lv_has ls 2 [(0, .ref (G.2.1 + j0a))] := hl
  have B22 : ∀ n : Nat, ∀ (M : Mm) (j0 : Nat) (x1 : Int32) (H : Heap) (locs : List Loc) (ls : Array Slot), Rp G M H → va_S (Fr G) s.heap H locs → lv_has ls 2 [(0, .ref (G.2.1 + j0)), (1, .int x1)] → kd j0 = 7 → lX7_undo_22 Post n M j0 x1 → Wi p l e (headSpec wsX7_undo rX7_undo).room s m [.ref (G.2.1 + j0a)].toArray below meth c G Post H locs (F0 m 22 ls []) := by
    intro n
    induction n with
    | zero => intro M j0 x1 H locs ls hP hS hl hk_j0 h; exact h.elim
    | succ n ih =>
      intro M j0 x1 H locs ls hP hS hl hk_j0 h
      have hA22 := ih
      replace h : bX7_undo_22 Post (lX7_undo_22 Post n) M j0 x1 := h
      unfold bX7_undo_22 at h
      refine lv_iload_n hx hb dX7_undo_22 rfl (lv_at hl 1 rfl) ?_
      refine lv_sipush (v := (168 : Int32)) hx hb dX7_undo_23 k_sipush_168 ?_
      refine lv_icmp_ge (tgt := 56) hx hb dX7_undo_26 (by decide) (fun c4 => ?_) (fun c4 => ?_)
      · replace h := h.1 c4
        refine lv_aload_n hx hb dX7_undo_56 rfl (lv_at hl 0 rfl) ?_
        refine rk_geti hx hb hts inlX7 hown hK hP hk_j0 cl_7 4 fq_7_4 q_8_6 rfl dX7_undo_57 ?_
        exact re_i hx hb hr hlocks hP hS h dX7_undo_60
      · replace h := h.2 c4
        refine lv_aload_n hx hb dX7_undo_29 rfl (lv_at hl 0 rfl) ?_
        refine rk_getr hx hb hts inlX7 hown hK hP hk_j0 cl_7 0 1 fq_7_0 q_4_13 rfl dX7_undo_30 ?_
        refine lv_iload_n hx hb dX7_undo_33 rfl (lv_at hl 1 rfl) ?_
        refine lv_aload_n hx hb dX7_undo_34 rfl (lv_at hl 0 rfl) ?_
        refine rk_getr hx hb hts inlX7 hown hK hP hk_j0 cl_7 1 2 fq_7_1 q_4_14 rfl dX7_undo_35 ?_
        refine lv_sipush (v := (168 : Int32)) hx hb dX7_undo_38 k_sipush_168 ?_
        refine lv_aload_n hx hb dX7_undo_41 rfl (lv_at hl 0 rfl) ?_
        refine rk_geti hx hb hts inlX7 hown hK hP hk_j0 cl_7 4 fq_7_4 q_8_6 rfl dX7_undo_42 ?_
        refine lv_imul hx hb dX7_undo_45 ?_
        refine lv_iload_n hx hb dX7_undo_46 rfl (lv_at hl 1 rfl) ?_
        refine lv_iadd hx hb dX7_undo_47 ?_
        refine rk_iald hx hb hK hP (ky_7_1 hk_j0) ac_13 _ rfl h.1 dX7_undo_48 ?_
        replace h := h.2
        refine rk_iast hx hb hK hP hS (ky_7_0 hk_j0) ac_12 _ rfl h.1 dX7_undo_49 (fun M5 eM5 H locs hP hS => ?_)
        replace h := h.2
        replace h := h M5 eM5
        obtain ⟨x1_6, ex1_6⟩ : ∃ y : Int32, y = x1 + (1 : Int32) := ⟨_, rfl⟩
        replace h := h x1_6 ex1_6
        refine lv_iinc (v := x1_6) (lv' := [(1, .int x1_6), (0, .ref (G.2.1 + j0))]) hx hb dX7_undo_50 hl (k := 1) rfl (by rw [ex1_6]; rfl) (by decide) rfl (fun ls hl => ?_)
        refine lv_goto (tgt := 22) hx hb dX7_undo_53 (by decide) ?_
        exact hA22 _ _ _ _ _ _ hP hS (lv_sub hl [1, 0] rfl) hk_j0 h
  unfold wX7_undo at h
  refine lv_aload_n hx hb dX7_undo_0 rfl (lv_at hl 0 rfl) ?_
  refine rk_geti hx hb hts inlX7 hown hK hP hk_j0a cl_7 4 fq_7_4 q_8_6 rfl dX7_undo_1 ?_
  refine lv_if_ne (tgt := 10) hx hb dX7_undo_4 (by decide) (fun c1 => ?_) (fun c1 => ?_)
  · replace h := h.1 c1
    refine lv_aload_n hx hb dX7_undo_10 rfl (lv_at hl 0 rfl) ?_
    refine lv_dup hx hb dX7_undo_11 rfl ?_
    refine rk_geti hx hb hts inlX7 hown hK hP hk_j0a cl_7 4 fq_7_4 q_8_6 rfl dX7_undo_12 ?_
    refine lv_iconst (v := (1 : Int32)) hx hb dX7_undo_15 k_iconst_1 ?_
    refine lv_isub hx hb dX7_undo_16 ?_
    refine rk_puti hx hb hts inlX7 tyX7 tyX7_ok nmX7 hown hK hP hS hk_j0a cl_7 4 fq_7_4 q_8_6 rfl rfl rfl dX7_undo_17 (fun M2 eM2 H locs hP hS => ?_)
    replace h := h M2 eM2
    refine lv_iconst (v := (0 : Int32)) hx hb dX7_undo_20 k_iconst_0 ?_
    refine lv_istore_n (lv' := [(1, .int (0 : Int32)), (0, .ref (G.2.1 + j0a))]) hx hb dX7_undo_21 rfl hl (by decide) rfl (fun ls hl => ?_)
    obtain ⟨n3, h⟩ := h
    exact B22 _ _ _ _ _ _ _ hP hS (lv_sub hl [1, 0] rfl) hk_j0a h
  · replace h := h.2 c1
    refine lv_ldc hx hb hown (hts _ q_9_23) dX7_undo_7 ?_
    exact re_i hx hb hr hlocks hP hS h dX7_undo_9
set_option maxHeartbeats 4000000 in
set_option maxRecDepth 100000 in
theorem mX7_type (l : Launch) (G : Gp) (j0a : Nat) (x1a : Int32) (M : Mm) (Post : Mm → Int32 → Prop) (hk_j0a : kd j0a = 7) (h : wX7_type Post M j0a x1a) : CtI l yX7_type wsX7_type rX7_type G [.ref (G.2.1 + j0a), .int x1a] M Post := by
  refine Met.ofW (cc := cX7_type) (maxL := 2) (ret := (some .int)) (by decide) rfl ?_
  intro p e s m args below meth c s₁ B hml hv
  obtain ⟨rfl, hK, hP⟩ := hv
  have hx := B.exec
  have hb := B.bytes
  have hr := B.returns
  have hlocks := B.notSynchronized
  have hts0 := atoms_spec (ws := wsX7_type) B.pre
  have hts : ∀ w ∈ wsL_law, w.before _ s = true := fun w hw => hts0 w (List.mem_cons_of_mem _ hw)
  have hown : s.vm.findClass RX7 = some m.cls := findClass_of_methodNamed B.named
  have hS : va_S (Fr G) s.heap s.heap [] := va_S.rf
  have hl := lv_entry ([.ref (G.2.1 + j0a), .int x1a]) (n := 2) (Nat.le_of_ble_eq_true rfl)
  rw [lg_entry_eq]
  generalize (lg_sl ([.ref (G.2.1 + j0a), .int x1a]) ++ List.replicate (2 - (lg_sl ([.ref (G.2.1 + j0a), .int x1a])).length) Slot.unset).toArray = ls at hl ⊢
  have hl : lv_has ls 2 [(0, .ref (G.2.1 + j0a)), (1, .int x1a)] := hl
  unfold wX7_type at h
  refine lv_iload_n hx hb dX7_type_0 rfl (lv_at hl 1 rfl) ?_
  refine lv_bipush (v := (32 : Int32)) hx hb dX7_type_1 k_bipush_32 ?_
  refine lv_bipush (v := (126 : Int32)) hx hb dX7_type_3 k_bipush_126 ?_
  refine rc_Si (As := [.int x1a, .int (32 : Int32), .int (126 : Int32)]) (rest := []) ⟨hx, hb, hml, hown, hts⟩ (mX7_in l G x1a (32 : Int32) (126 : Int32) M _ h) (va_cwS 3 hts (gS_X7_in q_7_19) rfl rfl rfl hdS_X7_in ⟨Nat.le_of_ble_eq_true rfl, Nat.le_of_ble_eq_true rfl⟩) hK hP hS rfl hl.1 rfl (Nat.le_of_ble_eq_true rfl) dX7_type_5 ⟨Nat.zero_le _, Nat.zero_le _⟩ (fun r2 M1 H locs h hP hS => ?_)
  refine lv_if_ne (tgt := 14) hx hb dX7_type_8 (by decide) (fun c3 => ?_) (fun c3 => ?_)
  · replace h := h.1 c3
    refine lv_aload_n hx hb dX7_type_14 rfl (lv_at hl 0 rfl) ?_
    refine rk_geti hx hb hts inlX7 hown hK hP hk_j0a cl_7 6 fq_7_6 q_30_14 rfl dX7_type_15 ?_
    refine lv_bipush (v := (60 : Int32)) hx hb dX7_type_18 k_bipush_60 ?_
    refine lv_icmp_ne (tgt := 26) hx hb dX7_type_20 (by decide) (fun c4 => ?_) (fun c4 => ?_)
    · replace h := h.1 c4
      refine lv_aload_n hx hb dX7_type_26 rfl (lv_at hl 0 rfl) ?_
      refine rk_getr hx hb hts inlX7 hown hK hP hk_j0a cl_7 5 5 fq_7_5 q_4_18 rfl dX7_type_27 ?_
      refine lv_aload_n hx hb dX7_type_30 rfl (lv_at hl 0 rfl) ?_
      refine rk_geti hx hb hts inlX7 hown hK hP hk_j0a cl_7 6 fq_7_6 q_30_14 rfl dX7_type_31 ?_
      refine lv_iload_n hx hb dX7_type_34 rfl (lv_at hl 1 rfl) ?_
      refine lv_i2c (v := (((x1a).toUInt32 % 65536).toInt32)) hx hb dX7_type_35 rfl ?_
      refine rk_cast hx hb hK hP hS (ky_7_5 hk_j0a) _ rfl h.1 dX7_type_36 (fun M5 eM5 H locs hP hS => ?_)
      replace h := h.2
      replace h := h M5 eM5
      refine lv_aload_n hx hb dX7_type_37 rfl (lv_at hl 0 rfl) ?_
      refine lv_dup hx hb dX7_type_38 rfl ?_
      refine rk_geti hx hb hts inlX7 hown hK hP hk_j0a cl_7 6 fq_7_6 q_30_14 rfl dX7_type_39 ?_
      refine lv_iconst (v := (1 : Int32)) hx hb dX7_type_42 k_iconst_1 ?_
      refine lv_iadd hx hb dX7_type_43 ?_
      refine rk_puti hx hb hts inlX7 tyX7 tyX7_ok nmX7 hown hK hP hS hk_j0a cl_7 6 fq_7_6 q_30_14 rfl rfl rfl dX7_type_44 (fun M6 eM6 H locs hP hS => ?_)
      replace h := h M6 eM6
      refine lv_aload_n hx hb dX7_type_47 rfl (lv_at hl 0 rfl) ?_
      refine rk_geti hx hb hts inlX7 hown hK hP hk_j0a cl_7 6 fq_7_6 q_30_14 rfl dX7_type_48 ?_
      exact re_i hx hb hr hlocks hP hS h dX7_type_51
    · replace h := h.2 c4
      refine lv_ldc hx hb hown (hts _ q_7_14) dX7_type_23 ?_
      exact re_i hx hb hr hlocks hP hS h dX7_type_25
  · replace h := h.2 c3
    refine lv_ldc hx hb hown (hts _ q_7_13) dX7_type_11 ?_
    exact re_i hx hb hr hlocks hP hS h dX7_type_13
set_option maxHeartbeats 4000000 in
set_option maxRecDepth 100000 in
theorem mX7_clearText (l : Launch) (G : Gp) (j0a : Nat) (M : Mm) (Post : Mm → Int32 → Prop) (hk_j0a : kd j0a = 7) (h : wX7_clearText Post M j0a) : CtI l yX7_clearText wsX7_clearText rX7_clearText G [.ref (G.2.1 + j0a)] M Post := by
  refine Met.ofW (cc := cX7_clearText) (maxL := 2) (ret := (some .int)) (by decide) rfl ?_
  intro p e s m args below meth c s₁ B hml hv
  obtain ⟨rfl, hK, hP⟩ := hv
  have hx := B.exec
  have hb := B.bytes
  have hr := B.returns
  have hlocks := B.notSynchronized
  have hts0 := atoms_spec (ws := wsX7_clearText) B.pre
  have hts : ∀ w ∈ wsL_law, w.before _ s = true := fun w hw => hts0 w (List.mem_cons_of_mem _ hw)
  have hown : s.vm.findClass RX7 = some m.cls := findClass_of_methodNamed B.named
  have hS : va_S (Fr G) s.heap s.heap [] := va_S.rf
  have hl := lv_entry ([.ref (G.2.1 + j0a)]) (n := 2) (Nat.le_of_ble_eq_true rfl)
  rw [lg_entry_eq]
  generalize (lg_sl ([.ref (G.2.1 + j0a)]) ++ List.replicate (2 - (lg_sl ([.ref (G.2.1 + j0a)])).length) Slot.unset).toArray = ls at hl ⊢
  have hl : lv_has ls 2 [(0, .ref (G.2.1 + j0a))] := hl
  unfold wX7_clearText at h
  refine lv_aload_n hx hb dX7_clearText_0 rfl (lv_at hl 0 rfl) ?_
  refine rk_geti hx hb hts inlX7 hown hK hP hk_j0a cl_7 6 fq_7_6 q_30_14 rfl dX7_clearText_1 ?_
  refine lv_topi (fun x1_1 ex1_1 => ?_)
  replace h := h x1_1 ex1_1
  refine lv_istore_n (lv' := [(1, .int x1_1), (0, .ref (G.2.1 + j0a))]) hx hb dX7_clearText_4 rfl hl (by decide) rfl (fun ls hl => ?_)
  refine lv_aload_n hx hb dX7_clearText_5 rfl (lv_at hl 1 rfl) ?_
  refine lv_iconst (v := (0 : Int32)) hx hb dX7_clearText_6 k_iconst_0 ?_
  refine rk_puti hx hb hts inlX7 tyX7 tyX7_ok nmX7 hown hK hP hS hk_j0a cl_7 6 fq_7_6 q_30_14 rfl rfl rfl dX7_clearText_7 (fun M2 eM2 H locs hP hS => ?_)
  replace h := h M2 eM2
  refine lv_iload_n hx hb dX7_clearText_10 rfl (lv_at hl 0 rfl) ?_
  exact re_i hx hb hr hlocks hP hS h dX7_clearText_11
set_option maxHeartbeats 4000000 in
set_option maxRecDepth 100000 in
theorem mX7_sign (l : Launch) (G : Gp) (j0a : Nat) (M : Mm) (Post : Mm → Int32 → Prop) (hk_j0a : kd j0a = 7) (h : wX7_sign Post M j0a) : CtI l yX7_sign wsX7_sign rX7_sign G [.ref (G.2.1 + j0a)] M Post := by
  refine Met.ofW (cc := cX7_sign) (maxL := 1) (ret := (some .int)) (by decide) rfl ?_
  intro p e s m args below meth c s₁ B hml hv
  obtain ⟨rfl, hK, hP⟩ := hv
  have hx := B.exec
  have hb := B.bytes
  have hr := B.returns
  have hlocks := B.notSynchronized
  have hts0 := atoms_spec (ws := wsX7_sign) B.pre
  have hts : ∀ w ∈ wsL_law, w.before _ s = true := fun w hw => hts0 w (List.mem_cons_of_mem _ hw)
  have hown : s.vm.findClass RX7 = some m.cls := findClass_of_methodNamed B.named
  have hS : va_S (Fr G) s.heap s.heap [] := va_S.rf
  have hl := lv_entry ([.ref (G.2.1 + j0a)]) (n := 1) (Nat.le_of_ble_eq_true rfl)
  rw [lg_entry_eq]
  generalize (lg_sl ([.ref (G.2.1 + j0a)]) ++ List.replicate (1 - (lg_sl ([.ref (G.2.1 + j0a)])).length) Slot.unset).toArray = ls at hl ⊢
  have hl : lv_has ls 1 [(0, .ref (G.2.1 + j0a))] := hl
  unfold wX7_sign at h
  refine lv_aload_n hx hb dX7_sign_0 rfl (lv_at hl 0 rfl) ?_
  refine rk_geti hx hb hts inlX7 hown hK hP hk_j0a cl_7 7 fq_7_7 q_35_11 rfl dX7_sign_1 ?_
  refine lv_aload_n hx hb dX7_sign_4 rfl (lv_at hl 0 rfl) ?_
  refine rk_geti hx hb hts inlX7 hown hK hP hk_j0a cl_7 6 fq_7_6 q_30_14 rfl dX7_sign_5 ?_
  refine lv_icmp_ge (tgt := 23) hx hb dX7_sign_8 (by decide) (fun c1 => ?_) (fun c1 => ?_)
  · replace h := h.1 c1
    refine lv_iconst (v := (-1 : Int32)) hx hb dX7_sign_23 k_iconst_m1 ?_
    exact re_i hx hb hr hlocks hP hS h dX7_sign_24
  · replace h := h.2 c1
    refine lv_aload_n hx hb dX7_sign_11 rfl (lv_at hl 0 rfl) ?_
    refine rk_getr hx hb hts inlX7 hown hK hP hk_j0a cl_7 5 5 fq_7_5 q_4_18 rfl dX7_sign_12 ?_
    refine lv_aload_n hx hb dX7_sign_15 rfl (lv_at hl 0 rfl) ?_
    refine rk_geti hx hb hts inlX7 hown hK hP hk_j0a cl_7 7 fq_7_7 q_35_11 rfl dX7_sign_16 ?_
    refine rk_cald hx hb hK hP (ky_7_5 hk_j0a) _ rfl h.1 dX7_sign_19 ?_
    replace h := h.2
    refine lv_goto (tgt := 24) hx hb dX7_sign_20 (by decide) ?_
    exact re_i hx hb hr hlocks hP hS h dX7_sign_24
set_option maxHeartbeats 4000000 in
set_option maxRecDepth 100000 in
theorem mX7_readsNumber (l : Launch) (G : Gp) (j0a : Nat) (M : Mm) (Post : Mm → Int32 → Prop) (hk_j0a : kd j0a = 7) (h : wX7_readsNumber Post M j0a) : CtI l yX7_readsNumber wsX7_readsNumber rX7_readsNumber G [.ref (G.2.1 + j0a)] M Post := by
  refine Met.ofW (cc := cX7_readsNumber) (maxL := 3) (ret := (some .boolean)) (by decide) rfl ?_
  intro p e s m args below meth c s₁ B hml hv
  obtain ⟨rfl, hK, hP⟩ := hv
  have hx := B.exec
  have hb := B.bytes
  have hr := B.returns
  have hlocks := B.notSynchronized
  have hts0 := atoms_spec (ws := wsX7_readsNumber) B.pre
  have hts : ∀ w ∈ wsL_law, w.before _ s = true := fun w hw => hts0 w (List.mem_cons_of_mem _ hw)
  have hown : s.vm.findClass RX7 = some m.cls := findClass_of_methodNamed B.named
  have hS : va_S (Fr G) s.heap s.heap [] := va_S.rf
  have hl := lv_entry ([.ref (G.2.1 + j0a)]) (n := 3) (Nat.le_of_ble_eq_true rfl)
  rw [lg_entry_eq]
  generalize (lg_sl ([.ref (G.2.1 + j0a)]) ++ List.replicate (3 - (lg_sl ([.ref (G.2.1 + j0a)])).length) Slot.unset).toArray = ls at hl ⊢
  have hl : lv_has ls 3 [(0, .ref (G.2.1 + j0a))] := hl
  have B57 : ∀ (M : Mm) (j0 : Nat) (x1 : Int32) (x2 : Int32) (H : Heap) (locs : List Loc) (ls : Array Slot), Rp G M H → va_S (Fr G) s.heap H locs → lv_has ls 3 [(0, .ref (G.2.1 + j0)), (1, .int x1), (2, .int x2)] → kd j0 = 7 → bX7_readsNumber_57 Post M j0 x1 x2 → Wi p l e (headSpec wsX7_readsNumber rX7_readsNumber).room s m [.ref (G.2.1 + j0a)].toArray below meth c G Post H locs (F0 m 57 ls []) := by
    intro M j0 x1 x2 H locs ls hP hS hl hk_j0 h
    unfold bX7_readsNumber_57 at h
    refine lv_aload_n hx hb dX7_readsNumber_57 rfl (lv_at hl 0 rfl) ?_
    refine rk_getr hx hb hts inlX7 hown hK hP hk_j0 cl_7 8 6 fq_7_8 q_4_19 rfl dX7_readsNumber_58 ?_
    refine lv_aload_n hx hb dX7_readsNumber_61 rfl (lv_at hl 0 rfl) ?_
    refine rk_geti hx hb hts inlX7 hown hK hP hk_j0 cl_7 9 fq_7_9 q_36_1 rfl dX7_readsNumber_62 ?_
    refine lv_iload_n hx hb dX7_readsNumber_65 rfl (lv_at hl 2 rfl) ?_
    refine rk_iast hx hb hK hP hS (ky_7_8 hk_j0) ac_15 _ rfl h.1 dX7_readsNumber_66 (fun M13 eM13 H locs hP hS => ?_)
    replace h := h.2
    replace h := h M13 eM13
    refine lv_aload_n hx hb dX7_readsNumber_67 rfl (lv_at hl 0 rfl) ?_
    refine lv_dup hx hb dX7_readsNumber_68 rfl ?_
    refine rk_geti hx hb hts inlX7 hown hK hP hk_j0 cl_7 9 fq_7_9 q_36_1 rfl dX7_readsNumber_69 ?_
    refine lv_iconst (v := (1 : Int32)) hx hb dX7_readsNumber_72 k_iconst_1 ?_
    refine lv_iadd hx hb dX7_readsNumber_73 ?_
    refine rk_puti hx hb hts inlX7 tyX7 tyX7_ok nmX7 hown hK hP hS hk_j0 cl_7 9 fq_7_9 q_36_1 rfl rfl rfl dX7_readsNumber_74 (fun M14 eM14 H locs hP hS => ?_)
    replace h := h M14 eM14
    refine lv_aload_n hx hb dX7_readsNumber_77 rfl (lv_at hl 0 rfl) ?_
    refine rk_geti hx hb hts inlX7 hown hK hP hk_j0 cl_7 7 fq_7_7 q_35_11 rfl dX7_readsNumber_78 ?_
    refine lv_iload_n hx hb dX7_readsNumber_81 rfl (lv_at hl 1 rfl) ?_
    refine lv_icmp_le (tgt := 89) hx hb dX7_readsNumber_82 (by decide) (fun c15 => ?_) (fun c15 => ?_)
    · replace h := h.1 c15
      refine lv_iconst (v := (0 : Int32)) hx hb dX7_readsNumber_89 k_iconst_0 ?_
      exact re_z hx hb hr hlocks (Or.inl rfl) hP hS h dX7_readsNumber_90
    · replace h := h.2 c15
      refine lv_iconst (v := (1 : Int32)) hx hb dX7_readsNumber_85 k_iconst_1 ?_
      refine lv_goto (tgt := 90) hx hb dX7_readsNumber_86 (by decide) ?_
      exact re_z hx hb hr hlocks (Or.inr rfl) hP hS h dX7_readsNumber_90
  have B7 : ∀ n : Nat, ∀ (M : Mm) (j0 : Nat) (x1 : Int32) (x2 : Int32) (H : Heap) (locs : List Loc) (ls : Array Slot), Rp G M H → va_S (Fr G) s.heap H locs → lv_has ls 3 [(0, .ref (G.2.1 + j0)), (1, .int x1), (2, .int x2)] → kd j0 = 7 → lX7_readsNumber_7 Post n M j0 x1 x2 → Wi p l e (headSpec wsX7_readsNumber rX7_readsNumber).room s m [.ref (G.2.1 + j0a)].toArray below meth c G Post H locs (F0 m 7 ls []) := by
    intro n
    induction n with
    | zero => intro M j0 x1 x2 H locs ls hP hS hl hk_j0 h; exact h.elim
    | succ n ih =>
      intro M j0 x1 x2 H locs ls hP hS hl hk_j0 h
      have hA7 := ih
      replace h : bX7_readsNumber_7 Post (lX7_readsNumber_7 Post n) M j0 x1 x2 := h
      unfold bX7_readsNumber_7 at h
      refine lv_aload_n hx hb dX7_readsNumber_7 rfl (lv_at hl 0 rfl) ?_
      refine rc_Vi (As := []) (rest := []) ⟨hx, hb, hml, hown, hts⟩ (mX7_sign l G j0 M _ hk_j0 h) (cwV 0 hts (gV_X7_sign q_35_17) rfl rfl rfl hdV_X7_sign ⟨Nat.le_of_ble_eq_true rfl, Nat.le_of_ble_eq_true rfl⟩) hK hP hS hk_j0 (by decide) cl_7 rfl hl.1 rfl (Nat.le_of_ble_eq_true rfl) dX7_readsNumber_8 ⟨Nat.zero_le _, Nat.zero_le _⟩ (fun r4 M3 H locs h hP hS => ?_)
      refine lv_bipush (v := (48 : Int32)) hx hb dX7_readsNumber_11 k_bipush_48 ?_
      refine lv_bipush (v := (57 : Int32)) hx hb dX7_readsNumber_13 k_bipush_57 ?_
      refine rc_Si (As := [.int r4, .int (48 : Int32), .int (57 : Int32)]) (rest := []) ⟨hx, hb, hml, hown, hts⟩ (mX7_in l G r4 (48 : Int32) (57 : Int32) M3 _ h) (va_cwS 3 hts (gS_X7_in q_7_19) rfl rfl rfl hdS_X7_in ⟨Nat.le_of_ble_eq_true rfl, Nat.le_of_ble_eq_true rfl⟩) hK hP hS rfl hl.1 rfl (Nat.le_of_ble_eq_true rfl) dX7_readsNumber_15 ⟨Nat.zero_le _, Nat.zero_le _⟩ (fun r6 M5 H locs h hP hS => ?_)
      refine lv_if_eq (tgt := 57) hx hb dX7_readsNumber_18 (by decide) (fun c7 => ?_) (fun c7 => ?_)
      · replace h := h.1 c7
        exact B57 _ _ _ _ _ _ _ hP hS (lv_sub hl [0, 1, 2] rfl) hk_j0 h
      · replace h := h.2 c7
        refine lv_aload_n hx hb dX7_readsNumber_21 rfl (lv_at hl 0 rfl) ?_
        refine rk_geti hx hb hts inlX7 hown hK hP hk_j0 cl_7 7 fq_7_7 q_35_11 rfl dX7_readsNumber_22 ?_
        refine lv_iload_n hx hb dX7_readsNumber_25 rfl (lv_at hl 1 rfl) ?_
        refine lv_iconst (v := (3 : Int32)) hx hb dX7_readsNumber_26 k_iconst_3 ?_
        refine lv_iadd hx hb dX7_readsNumber_27 ?_
        refine lv_icmp_ge (tgt := 57) hx hb dX7_readsNumber_28 (by decide) (fun c8 => ?_) (fun c8 => ?_)
        · replace h := h.1 c8
          exact B57 _ _ _ _ _ _ _ hP hS (lv_sub hl [0, 1, 2] rfl) hk_j0 h
        · replace h := h.2 c8
          refine lv_bipush (v := (10 : Int32)) hx hb dX7_readsNumber_31 k_bipush_10 ?_
          refine lv_iload_n hx hb dX7_readsNumber_33 rfl (lv_at hl 2 rfl) ?_
          refine lv_imul hx hb dX7_readsNumber_34 ?_
          refine lv_aload_n hx hb dX7_readsNumber_35 rfl (lv_at hl 0 rfl) ?_
          refine rc_Vi (As := []) (rest := [.int ((10 : Int32) * x2)]) ⟨hx, hb, hml, hown, hts⟩ (mX7_sign l G j0 M5 _ hk_j0 h) (cwV 0 hts (gV_X7_sign q_35_17) rfl rfl rfl hdV_X7_sign ⟨Nat.le_of_ble_eq_true rfl, Nat.le_of_ble_eq_true rfl⟩) hK hP hS hk_j0 (by decide) cl_7 rfl hl.1 rfl (Nat.le_of_ble_eq_true rfl) dX7_readsNumber_36 ⟨Nat.zero_le _, Nat.zero_le _⟩ (fun r10 M9 H locs h hP hS => ?_)
          refine lv_iadd hx hb dX7_readsNumber_39 ?_
          refine lv_bipush (v := (48 : Int32)) hx hb dX7_readsNumber_40 k_bipush_48 ?_
          refine lv_isub hx hb dX7_readsNumber_42 ?_
          refine lv_topi (fun x2_11 ex2_11 => ?_)
          replace h := h x2_11 ex2_11
          refine lv_istore_n (lv' := [(2, .int x2_11), (0, .ref (G.2.1 + j0)), (1, .int x1)]) hx hb dX7_readsNumber_43 rfl hl (by decide) rfl (fun ls hl => ?_)
          refine lv_aload_n hx hb dX7_readsNumber_44 rfl (lv_at hl 1 rfl) ?_
          refine lv_dup hx hb dX7_readsNumber_45 rfl ?_
          refine rk_geti hx hb hts inlX7 hown hK hP hk_j0 cl_7 7 fq_7_7 q_35_11 rfl dX7_readsNumber_46 ?_
          refine lv_iconst (v := (1 : Int32)) hx hb dX7_readsNumber_49 k_iconst_1 ?_
          refine lv_iadd hx hb dX7_readsNumber_50 ?_
          refine rk_puti hx hb hts inlX7 tyX7 tyX7_ok nmX7 hown hK hP hS hk_j0 cl_7 7 fq_7_7 q_35_11 rfl rfl rfl dX7_readsNumber_51 (fun M12 eM12 H locs hP hS => ?_)
          replace h := h M12 eM12
          refine lv_goto (tgt := 7) hx hb dX7_readsNumber_54 (by decide) ?_
          exact hA7 _ _ _ _ _ _ _ hP hS (lv_sub hl [1, 2, 0] rfl) hk_j0 h
  unfold wX7_readsNumber at h
  refine lv_aload_n hx hb dX7_readsNumber_0 rfl (lv_at hl 0 rfl) ?_
  refine rk_geti hx hb hts inlX7 hown hK hP hk_j0a cl_7 7 fq_7_7 q_35_11 rfl dX7_readsNumber_1 ?_
  refine lv_topi (fun x1_1 ex1_1 => ?_)
  replace h := h x1_1 ex1_1
  refine lv_istore_n (lv' := [(1, .int x1_1), (0, .ref (G.2.1 + j0a))]) hx hb dX7_readsNumber_4 rfl hl (by decide) rfl (fun ls hl => ?_)
  refine lv_iconst (v := (0 : Int32)) hx hb dX7_readsNumber_5 k_iconst_0 ?_
  refine lv_istore_n (lv' := [(2, .int (0 : Int32)), (1, .int x1_1), (0, .ref (G.2.1 + j0a))]) hx hb dX7_readsNumber_6 rfl hl (by decide) rfl (fun ls hl => ?_)
  obtain ⟨n2, h⟩ := h
  exact B7 _ _ _ _ _ _ _ _ hP hS (lv_sub hl [2, 1, 0] rfl) hk_j0a h
set_option maxHeartbeats 4000000 in
set_option maxRecDepth 100000 in
theorem mX7_readsForm (l : Launch) (G : Gp) (j0a : Nat) (M : Mm) (Post : Mm → Int32 → Prop) (hk_j0a : kd j0a = 7) (h : wX7_readsForm Post M j0a) : CtI l yX7_readsForm wsX7_readsForm rX7_readsForm G [.ref (G.2.1 + j0a)] M Post := by
  refine Met.ofW (cc := cX7_readsForm) (maxL := 3) (ret := (some .boolean)) (by decide) rfl ?_
  intro p e s m args below meth c s₁ B hml hv
  obtain ⟨rfl, hK, hP⟩ := hv
  have hx := B.exec
  have hb := B.bytes
  have hr := B.returns
  have hlocks := B.notSynchronized
  have hts0 := atoms_spec (ws := wsX7_readsForm) B.pre
  have hts : ∀ w ∈ wsL_law, w.before _ s = true := fun w hw => hts0 w (List.mem_cons_of_mem _ hw)
  have hown : s.vm.findClass RX7 = some m.cls := findClass_of_methodNamed B.named
  have hS : va_S (Fr G) s.heap s.heap [] := va_S.rf
  have hl := lv_entry ([.ref (G.2.1 + j0a)]) (n := 3) (Nat.le_of_ble_eq_true rfl)
  rw [lg_entry_eq]
  generalize (lg_sl ([.ref (G.2.1 + j0a)]) ++ List.replicate (3 - (lg_sl ([.ref (G.2.1 + j0a)])).length) Slot.unset).toArray = ls at hl ⊢
  have hl : lv_has ls 3 [(0, .ref (G.2.1 + j0a))] := hl
  have B135 : ∀ (M : Mm) (j0 : Nat) (t0 : Int32) (H : Heap) (locs : List Loc) (ls : Array Slot), Rp G M H → va_S (Fr G) s.heap H locs → lv_has ls 3 [(0, .ref (G.2.1 + j0))] → kd j0 = 7 → bX7_readsForm_135 Post M j0 t0 → Wi p l e (headSpec wsX7_readsForm rX7_readsForm).room s m [.ref (G.2.1 + j0a)].toArray below meth c G Post H locs (F0 m 135 ls [.int t0]) := by
    intro M j0 t0 H locs ls hP hS hl hk_j0 h
    unfold bX7_readsForm_135 at h
    refine lv_istore_n (lv' := [(2, .int t0), (0, .ref (G.2.1 + j0))]) hx hb dX7_readsForm_135 rfl hl (by decide) rfl (fun ls hl => ?_)
    refine lv_aload_n hx hb dX7_readsForm_136 rfl (lv_at hl 1 rfl) ?_
    refine lv_dup hx hb dX7_readsForm_137 rfl ?_
    refine rk_geti hx hb hts inlX7 hown hK hP hk_j0 cl_7 7 fq_7_7 q_35_11 rfl dX7_readsForm_138 ?_
    refine lv_iload_n hx hb dX7_readsForm_141 rfl (lv_at hl 0 rfl) ?_
    refine lv_if_eq (tgt := 149) hx hb dX7_readsForm_142 (by decide) (fun c27 => ?_) (fun c27 => ?_)
    · replace h := h.1 c27
      refine lv_iconst (v := (0 : Int32)) hx hb dX7_readsForm_149 k_iconst_0 ?_
      refine lv_iadd hx hb dX7_readsForm_150 ?_
      refine rk_puti hx hb hts inlX7 tyX7 tyX7_ok nmX7 hown hK hP hS hk_j0 cl_7 7 fq_7_7 q_35_11 rfl rfl rfl dX7_readsForm_151 (fun M28 eM28 H locs hP hS => ?_)
      replace h := h M28 eM28
      refine lv_iload_n hx hb dX7_readsForm_154 rfl (lv_at hl 0 rfl) ?_
      exact re_z hx hb hr hlocks h.1 hP hS h.2 dX7_readsForm_155
    · replace h := h.2 c27
      refine lv_iconst (v := (1 : Int32)) hx hb dX7_readsForm_145 k_iconst_1 ?_
      refine lv_goto (tgt := 150) hx hb dX7_readsForm_146 (by decide) ?_
      refine lv_iadd hx hb dX7_readsForm_150 ?_
      refine rk_puti hx hb hts inlX7 tyX7 tyX7_ok nmX7 hown hK hP hS hk_j0 cl_7 7 fq_7_7 q_35_11 rfl rfl rfl dX7_readsForm_151 (fun M29 eM29 H locs hP hS => ?_)
      replace h := h M29 eM29
      refine lv_iload_n hx hb dX7_readsForm_154 rfl (lv_at hl 0 rfl) ?_
      exact re_z hx hb hr hlocks h.1 hP hS h.2 dX7_readsForm_155
  have B134 : ∀ (M : Mm) (j0 : Nat) (H : Heap) (locs : List Loc) (ls : Array Slot), Rp G M H → va_S (Fr G) s.heap H locs → lv_has ls 3 [(0, .ref (G.2.1 + j0))] → kd j0 = 7 → bX7_readsForm_134 Post M j0 → Wi p l e (headSpec wsX7_readsForm rX7_readsForm).room s m [.ref (G.2.1 + j0a)].toArray below meth c G Post H locs (F0 m 134 ls []) := by
    intro M j0 H locs ls hP hS hl hk_j0 h
    unfold bX7_readsForm_134 at h
    refine lv_iconst (v := (0 : Int32)) hx hb dX7_readsForm_134 k_iconst_0 ?_
    exact B135 _ _ _ _ _ _ hP hS (lv_sub hl [0] rfl) hk_j0 h
  have B117 : ∀ (M : Mm) (j0 : Nat) (x2 : Int32) (H : Heap) (locs : List Loc) (ls : Array Slot), Rp G M H → va_S (Fr G) s.heap H locs → lv_has ls 3 [(0, .ref (G.2.1 + j0)), (2, .int x2)] → kd j0 = 7 → bX7_readsForm_117 Post M j0 x2 → Wi p l e (headSpec wsX7_readsForm rX7_readsForm).room s m [.ref (G.2.1 + j0a)].toArray below meth c G Post H locs (F0 m 117 ls []) := by
    intro M j0 x2 H locs ls hP hS hl hk_j0 h
    unfold bX7_readsForm_117 at h
    refine lv_iload_n hx hb dX7_readsForm_117 rfl (lv_at hl 1 rfl) ?_
    refine lv_if_eq (tgt := 134) hx hb dX7_readsForm_118 (by decide) (fun c23 => ?_) (fun c23 => ?_)
    · replace h := h.1 c23
      exact B134 _ _ _ _ _ hP hS (lv_sub hl [0] rfl) hk_j0 h
    · replace h := h.2 c23
      refine lv_aload_n hx hb dX7_readsForm_121 rfl (lv_at hl 0 rfl) ?_
      refine rc_Vi (As := []) (rest := []) ⟨hx, hb, hml, hown, hts⟩ (mX7_sign l G j0 M _ hk_j0 h) (cwV 0 hts (gV_X7_sign q_35_17) rfl rfl rfl hdV_X7_sign ⟨Nat.le_of_ble_eq_true rfl, Nat.le_of_ble_eq_true rfl⟩) hK hP hS hk_j0 (by decide) cl_7 rfl hl.1 rfl (Nat.le_of_ble_eq_true rfl) dX7_readsForm_122 ⟨Nat.zero_le _, Nat.zero_le _⟩ (fun r25 M24 H locs h hP hS => ?_)
      refine lv_bipush (v := (59 : Int32)) hx hb dX7_readsForm_125 k_bipush_59 ?_
      refine lv_icmp_ne (tgt := 134) hx hb dX7_readsForm_127 (by decide) (fun c26 => ?_) (fun c26 => ?_)
      · replace h := h.1 c26
        exact B134 _ _ _ _ _ hP hS (lv_sub hl [0] rfl) hk_j0 h
      · replace h := h.2 c26
        refine lv_iconst (v := (1 : Int32)) hx hb dX7_readsForm_130 k_iconst_1 ?_
        refine lv_goto (tgt := 135) hx hb dX7_readsForm_131 (by decide) ?_
        exact B135 _ _ _ _ _ _ hP hS (lv_sub hl [0] rfl) hk_j0 h
  have B116 : ∀ (M : Mm) (j0 : Nat) (t0 : Int32) (H : Heap) (locs : List Loc) (ls : Array Slot), Rp G M H → va_S (Fr G) s.heap H locs → lv_has ls 3 [(0, .ref (G.2.1 + j0))] → kd j0 = 7 → bX7_readsForm_116 Post M j0 t0 → Wi p l e (headSpec wsX7_readsForm rX7_readsForm).room s m [.ref (G.2.1 + j0a)].toArray below meth c G Post H locs (F0 m 116 ls [.int t0]) := by
    intro M j0 t0 H locs ls hP hS hl hk_j0 h
    unfold bX7_readsForm_116 at h
    refine lv_istore_n (lv' := [(2, .int t0), (0, .ref (G.2.1 + j0))]) hx hb dX7_readsForm_116 rfl hl (by decide) rfl (fun ls hl => ?_)
    exact B117 _ _ _ _ _ _ hP hS (lv_sub hl [1, 0] rfl) hk_j0 h
  have B115 : ∀ (M : Mm) (j0 : Nat) (H : Heap) (locs : List Loc) (ls : Array Slot), Rp G M H → va_S (Fr G) s.heap H locs → lv_has ls 3 [(0, .ref (G.2.1 + j0))] → kd j0 = 7 → bX7_readsForm_115 Post M j0 → Wi p l e (headSpec wsX7_readsForm rX7_readsForm).room s m [.ref (G.2.1 + j0a)].toArray below meth c G Post H locs (F0 m 115 ls []) := by
    intro M j0 H locs ls hP hS hl hk_j0 h
    unfold bX7_readsForm_115 at h
    refine lv_iconst (v := (0 : Int32)) hx hb dX7_readsForm_115 k_iconst_0 ?_
    exact B116 _ _ _ _ _ _ hP hS (lv_sub hl [0] rfl) hk_j0 h
  have B96 : ∀ (M : Mm) (j0 : Nat) (x2 : Int32) (t0 : Int32) (t1 : Int32) (js2 : Nat) (H : Heap) (locs : List Loc) (ls : Array Slot), Rp G M H → va_S (Fr G) s.heap H locs → lv_has ls 3 [(0, .ref (G.2.1 + j0)), (2, .int x2)] → kd j0 = 7 → kd js2 = 7 → bX7_readsForm_96 Post M j0 x2 t0 t1 js2 → Wi p l e (headSpec wsX7_readsForm rX7_readsForm).room s m [.ref (G.2.1 + j0a)].toArray below meth c G Post H locs (F0 m 96 ls [.int t0, .int t1, .ref (G.2.1 + js2)]) := by
    intro M j0 x2 t0 t1 js2 H locs ls hP hS hl hk_j0 hk_js2 h
    unfold bX7_readsForm_96 at h
    refine lv_iadd hx hb dX7_readsForm_96 ?_
    refine rk_puti hx hb hts inlX7 tyX7 tyX7_ok nmX7 hown hK hP hS hk_js2 cl_7 7 fq_7_7 q_35_11 rfl rfl rfl dX7_readsForm_97 (fun M18 eM18 H locs hP hS => ?_)
    replace h := h M18 eM18
    refine lv_iload_n hx hb dX7_readsForm_100 rfl (lv_at hl 1 rfl) ?_
    refine lv_if_eq (tgt := 115) hx hb dX7_readsForm_101 (by decide) (fun c19 => ?_) (fun c19 => ?_)
    · replace h := h.1 c19
      exact B115 _ _ _ _ _ hP hS (lv_sub hl [0] rfl) hk_j0 h
    · replace h := h.2 c19
      refine lv_aload_n hx hb dX7_readsForm_104 rfl (lv_at hl 0 rfl) ?_
      refine rc_Vi (As := []) (rest := []) ⟨hx, hb, hml, hown, hts⟩ (mX7_readsNumber l G j0 M18 _ hk_j0 h) (cwV 0 hts (gV_X7_readsNumber q_36_2) rfl rfl rfl hdV_X7_readsNumber ⟨Nat.le_of_ble_eq_true rfl, Nat.le_of_ble_eq_true rfl⟩) hK hP hS hk_j0 (by decide) cl_7 rfl hl.1 rfl (Nat.le_of_ble_eq_true rfl) dX7_readsForm_105 ⟨Nat.zero_le _, Nat.zero_le _⟩ (fun r21 M20 H locs h hP hS => ?_)
      refine lv_if_eq (tgt := 115) hx hb dX7_readsForm_108 (by decide) (fun c22 => ?_) (fun c22 => ?_)
      · replace h := h.1 c22
        exact B115 _ _ _ _ _ hP hS (lv_sub hl [0] rfl) hk_j0 h
      · replace h := h.2 c22
        refine lv_iconst (v := (1 : Int32)) hx hb dX7_readsForm_111 k_iconst_1 ?_
        refine lv_goto (tgt := 116) hx hb dX7_readsForm_112 (by decide) ?_
        exact B116 _ _ _ _ _ _ hP hS (lv_sub hl [0] rfl) hk_j0 h
  have B81 : ∀ (M : Mm) (j0 : Nat) (t0 : Int32) (H : Heap) (locs : List Loc) (ls : Array Slot), Rp G M H → va_S (Fr G) s.heap H locs → lv_has ls 3 [(0, .ref (G.2.1 + j0))] → kd j0 = 7 → bX7_readsForm_81 Post M j0 t0 → Wi p l e (headSpec wsX7_readsForm rX7_readsForm).room s m [.ref (G.2.1 + j0a)].toArray below meth c G Post H locs (F0 m 81 ls [.int t0]) := by
    intro M j0 t0 H locs ls hP hS hl hk_j0 h
    unfold bX7_readsForm_81 at h
    refine lv_istore_n (lv' := [(2, .int t0), (0, .ref (G.2.1 + j0))]) hx hb dX7_readsForm_81 rfl hl (by decide) rfl (fun ls hl => ?_)
    refine lv_aload_n hx hb dX7_readsForm_82 rfl (lv_at hl 1 rfl) ?_
    refine lv_dup hx hb dX7_readsForm_83 rfl ?_
    refine rk_geti hx hb hts inlX7 hown hK hP hk_j0 cl_7 7 fq_7_7 q_35_11 rfl dX7_readsForm_84 ?_
    refine lv_iload_n hx hb dX7_readsForm_87 rfl (lv_at hl 0 rfl) ?_
    refine lv_if_eq (tgt := 95) hx hb dX7_readsForm_88 (by decide) (fun c17 => ?_) (fun c17 => ?_)
    · replace h := h.1 c17
      refine lv_iconst (v := (0 : Int32)) hx hb dX7_readsForm_95 k_iconst_0 ?_
      exact B96 _ _ _ _ _ _ _ _ _ hP hS (lv_sub hl [1, 0] rfl) hk_j0 hk_j0 h
    · replace h := h.2 c17
      refine lv_iconst (v := (1 : Int32)) hx hb dX7_readsForm_91 k_iconst_1 ?_
      refine lv_goto (tgt := 96) hx hb dX7_readsForm_92 (by decide) ?_
      exact B96 _ _ _ _ _ _ _ _ _ hP hS (lv_sub hl [1, 0] rfl) hk_j0 hk_j0 h
  have B37 : ∀ (M : Mm) (j0 : Nat) (x1 : Int32) (H : Heap) (locs : List Loc) (ls : Array Slot), Rp G M H → va_S (Fr G) s.heap H locs → lv_has ls 3 [(0, .ref (G.2.1 + j0)), (1, .int x1)] → kd j0 = 7 → bX7_readsForm_37 Post M j0 x1 → Wi p l e (headSpec wsX7_readsForm rX7_readsForm).room s m [.ref (G.2.1 + j0a)].toArray below meth c G Post H locs (F0 m 37 ls []) := by
    intro M j0 x1 H locs ls hP hS hl hk_j0 h
    unfold bX7_readsForm_37 at h
    refine lv_aload_n hx hb dX7_readsForm_37 rfl (lv_at hl 0 rfl) ?_
    refine lv_dup hx hb dX7_readsForm_38 rfl ?_
    refine rk_geti hx hb hts inlX7 hown hK hP hk_j0 cl_7 7 fq_7_7 q_35_11 rfl dX7_readsForm_39 ?_
    refine lv_iconst (v := (1 : Int32)) hx hb dX7_readsForm_42 k_iconst_1 ?_
    refine lv_iadd hx hb dX7_readsForm_43 ?_
    refine rk_puti hx hb hts inlX7 tyX7 tyX7_ok nmX7 hown hK hP hS hk_j0 cl_7 7 fq_7_7 q_35_11 rfl rfl rfl dX7_readsForm_44 (fun M8 eM8 H locs hP hS => ?_)
    replace h := h M8 eM8
    refine lv_aload_n hx hb dX7_readsForm_47 rfl (lv_at hl 0 rfl) ?_
    refine lv_iconst (v := (0 : Int32)) hx hb dX7_readsForm_48 k_iconst_0 ?_
    refine rk_puti hx hb hts inlX7 tyX7 tyX7_ok nmX7 hown hK hP hS hk_j0 cl_7 9 fq_7_9 q_36_1 rfl rfl rfl dX7_readsForm_49 (fun M9 eM9 H locs hP hS => ?_)
    replace h := h M9 eM9
    refine lv_aload_n hx hb dX7_readsForm_52 rfl (lv_at hl 0 rfl) ?_
    refine rc_Vi (As := []) (rest := []) ⟨hx, hb, hml, hown, hts⟩ (mX7_readsNumber l G j0 M9 _ hk_j0 h) (cwV 0 hts (gV_X7_readsNumber q_36_2) rfl rfl rfl hdV_X7_readsNumber ⟨Nat.le_of_ble_eq_true rfl, Nat.le_of_ble_eq_true rfl⟩) hK hP hS hk_j0 (by decide) cl_7 rfl hl.1 rfl (Nat.le_of_ble_eq_true rfl) dX7_readsForm_53 ⟨Nat.zero_le _, Nat.zero_le _⟩ (fun r11 M10 H locs h hP hS => ?_)
    refine lv_istore_n (lv' := [(2, .int r11), (0, .ref (G.2.1 + j0)), (1, .int x1)]) hx hb dX7_readsForm_56 rfl hl (by decide) rfl (fun ls hl => ?_)
    refine lv_iload_n hx hb dX7_readsForm_57 rfl (lv_at hl 0 rfl) ?_
    refine lv_if_eq (tgt := 117) hx hb dX7_readsForm_58 (by decide) (fun c12 => ?_) (fun c12 => ?_)
    · replace h := h.1 c12
      exact B117 _ _ _ _ _ _ hP hS (lv_sub hl [1, 0] rfl) hk_j0 h
    · replace h := h.2 c12
      refine lv_iload_n hx hb dX7_readsForm_61 rfl (lv_at hl 2 rfl) ?_
      refine lv_bipush (v := (114 : Int32)) hx hb dX7_readsForm_62 k_bipush_114 ?_
      refine lv_icmp_ne (tgt := 117) hx hb dX7_readsForm_64 (by decide) (fun c13 => ?_) (fun c13 => ?_)
      · replace h := h.1 c13
        exact B117 _ _ _ _ _ _ hP hS (lv_sub hl [1, 0] rfl) hk_j0 h
      · replace h := h.2 c13
        refine lv_aload_n hx hb dX7_readsForm_67 rfl (lv_at hl 1 rfl) ?_
        refine rc_Vi (As := []) (rest := []) ⟨hx, hb, hml, hown, hts⟩ (mX7_sign l G j0 M10 _ hk_j0 h) (cwV 0 hts (gV_X7_sign q_35_17) rfl rfl rfl hdV_X7_sign ⟨Nat.le_of_ble_eq_true rfl, Nat.le_of_ble_eq_true rfl⟩) hK hP hS hk_j0 (by decide) cl_7 rfl hl.1 rfl (Nat.le_of_ble_eq_true rfl) dX7_readsForm_68 ⟨Nat.zero_le _, Nat.zero_le _⟩ (fun r15 M14 H locs h hP hS => ?_)
        refine lv_bipush (v := (44 : Int32)) hx hb dX7_readsForm_71 k_bipush_44 ?_
        refine lv_icmp_ne (tgt := 80) hx hb dX7_readsForm_73 (by decide) (fun c16 => ?_) (fun c16 => ?_)
        · replace h := h.1 c16
          refine lv_iconst (v := (0 : Int32)) hx hb dX7_readsForm_80 k_iconst_0 ?_
          exact B81 _ _ _ _ _ _ hP hS (lv_sub hl [1] rfl) hk_j0 h
        · replace h := h.2 c16
          refine lv_iconst (v := (1 : Int32)) hx hb dX7_readsForm_76 k_iconst_1 ?_
          refine lv_goto (tgt := 81) hx hb dX7_readsForm_77 (by decide) ?_
          exact B81 _ _ _ _ _ _ hP hS (lv_sub hl [1] rfl) hk_j0 h
  unfold wX7_readsForm at h
  refine lv_aload_n hx hb dX7_readsForm_0 rfl (lv_at hl 0 rfl) ?_
  refine rc_Vi (As := []) (rest := []) ⟨hx, hb, hml, hown, hts⟩ (mX7_sign l G j0a M _ hk_j0a h) (cwV 0 hts (gV_X7_sign q_35_17) rfl rfl rfl hdV_X7_sign ⟨Nat.le_of_ble_eq_true rfl, Nat.le_of_ble_eq_true rfl⟩) hK hP hS hk_j0a (by decide) cl_7 rfl hl.1 rfl (Nat.le_of_ble_eq_true rfl) dX7_readsForm_1 ⟨Nat.zero_le _, Nat.zero_le _⟩ (fun r2 M1 H locs h hP hS => ?_)
  refine lv_istore_n (lv' := [(1, .int r2), (0, .ref (G.2.1 + j0a))]) hx hb dX7_readsForm_4 rfl hl (by decide) rfl (fun ls hl => ?_)
  refine lv_iload_n hx hb dX7_readsForm_5 rfl (lv_at hl 0 rfl) ?_
  refine lv_bipush (v := (111 : Int32)) hx hb dX7_readsForm_6 k_bipush_111 ?_
  refine lv_icmp_eq (tgt := 37) hx hb dX7_readsForm_8 (by decide) (fun c3 => ?_) (fun c3 => ?_)
  · replace h := h.1 c3
    exact B37 _ _ _ _ _ _ hP hS (lv_sub hl [1, 0] rfl) hk_j0a h
  · replace h := h.2 c3
    refine lv_iload_n hx hb dX7_readsForm_11 rfl (lv_at hl 0 rfl) ?_
    refine lv_bipush (v := (99 : Int32)) hx hb dX7_readsForm_12 k_bipush_99 ?_
    refine lv_icmp_eq (tgt := 37) hx hb dX7_readsForm_14 (by decide) (fun c4 => ?_) (fun c4 => ?_)
    · replace h := h.1 c4
      exact B37 _ _ _ _ _ _ hP hS (lv_sub hl [1, 0] rfl) hk_j0a h
    · replace h := h.2 c4
      refine lv_iload_n hx hb dX7_readsForm_17 rfl (lv_at hl 0 rfl) ?_
      refine lv_bipush (v := (121 : Int32)) hx hb dX7_readsForm_18 k_bipush_121 ?_
      refine lv_icmp_eq (tgt := 37) hx hb dX7_readsForm_20 (by decide) (fun c5 => ?_) (fun c5 => ?_)
      · replace h := h.1 c5
        exact B37 _ _ _ _ _ _ hP hS (lv_sub hl [1, 0] rfl) hk_j0a h
      · replace h := h.2 c5
        refine lv_iload_n hx hb dX7_readsForm_23 rfl (lv_at hl 0 rfl) ?_
        refine lv_bipush (v := (104 : Int32)) hx hb dX7_readsForm_24 k_bipush_104 ?_
        refine lv_icmp_eq (tgt := 37) hx hb dX7_readsForm_26 (by decide) (fun c6 => ?_) (fun c6 => ?_)
        · replace h := h.1 c6
          exact B37 _ _ _ _ _ _ hP hS (lv_sub hl [1, 0] rfl) hk_j0a h
        · replace h := h.2 c6
          refine lv_iload_n hx hb dX7_readsForm_29 rfl (lv_at hl 0 rfl) ?_
          refine lv_bipush (v := (114 : Int32)) hx hb dX7_readsForm_30 k_bipush_114 ?_
          refine lv_icmp_eq (tgt := 37) hx hb dX7_readsForm_32 (by decide) (fun c7 => ?_) (fun c7 => ?_)
          · replace h := h.1 c7
            exact B37 _ _ _ _ _ _ hP hS (lv_sub hl [1, 0] rfl) hk_j0a h
          · replace h := h.2 c7
            refine lv_iconst (v := (0 : Int32)) hx hb dX7_readsForm_35 k_iconst_0 ?_
            exact re_z hx hb hr hlocks (Or.inl rfl) hP hS h dX7_readsForm_36
set_option maxHeartbeats 4000000 in
set_option maxRecDepth 100000 in
theorem mX7_isInRange (l : Launch) (G : Gp) (j0a : Nat) (x1a : Int32) (M : Mm) (Post : Mm → Int32 → Prop) (hk_j0a : kd j0a = 7) (h : wX7_isInRange Post M j0a x1a) : CtI l yX7_isInRange wsX7_isInRange rX7_isInRange G [.ref (G.2.1 + j0a), .int x1a] M Post := by
  refine Met.ofW (cc := cX7_isInRange) (maxL := 2) (ret := (some .boolean)) (by decide) rfl ?_
  intro p e s m args below meth c s₁ B hml hv
  obtain ⟨rfl, hK, hP⟩ := hv
  have hx := B.exec
  have hb := B.bytes
  have hr := B.returns
  have hlocks := B.notSynchronized
  have hts0 := atoms_spec (ws := wsX7_isInRange) B.pre
  have hts : ∀ w ∈ wsL_law, w.before _ s = true := fun w hw => hts0 w (List.mem_cons_of_mem _ hw)
  have hown : s.vm.findClass RX7 = some m.cls := findClass_of_methodNamed B.named
  have hS : va_S (Fr G) s.heap s.heap [] := va_S.rf
  have hl := lv_entry ([.ref (G.2.1 + j0a), .int x1a]) (n := 2) (Nat.le_of_ble_eq_true rfl)
  rw [lg_entry_eq]
  generalize (lg_sl ([.ref (G.2.1 + j0a), .int x1a]) ++ List.replicate (2 - (lg_sl ([.ref (G.2.1 + j0a), .int x1a])).length) Slot.unset).toArray = ls at hl ⊢
  have hl : lv_has ls 2 [(0, .ref (G.2.1 + j0a)), (1, .int x1a)] := hl
  have B44 : ∀ (M : Mm) (j0 : Nat) (H : Heap) (locs : List Loc) (ls : Array Slot), Rp G M H → va_S (Fr G) s.heap H locs → lv_has ls 2 [(0, .ref (G.2.1 + j0))] → kd j0 = 7 → bX7_isInRange_44 Post M j0 → Wi p l e (headSpec wsX7_isInRange rX7_isInRange).room s m [.ref (G.2.1 + j0a), .int x1a].toArray below meth c G Post H locs (F0 m 44 ls []) := by
    intro M j0 H locs ls hP hS hl hk_j0 h
    unfold bX7_isInRange_44 at h
    refine lv_aload_n hx hb dX7_isInRange_44 rfl (lv_at hl 0 rfl) ?_
    refine lv_aload_n hx hb dX7_isInRange_45 rfl (lv_at hl 0 rfl) ?_
    refine rk_getr hx hb hts inlX7 hown hK hP hk_j0 cl_7 8 6 fq_7_8 q_4_19 rfl dX7_isInRange_46 ?_
    refine lv_iconst (v := (0 : Int32)) hx hb dX7_isInRange_49 k_iconst_0 ?_
    refine rk_iald hx hb hK hP (ky_7_8 hk_j0) ac_15 0 ix_0 vi_0_2 dX7_isInRange_50 ?_
    refine rc_Vi (As := [.int (M (j0 + 6) 0)]) (rest := []) ⟨hx, hb, hml, hown, hts⟩ (mX7_isGate l G j0 (M (j0 + 6) 0) M _ hk_j0 h) (cwV 1 hts (gV_X7_isGate q_10_0) rfl rfl rfl hdV_X7_isGate ⟨Nat.le_of_ble_eq_true rfl, Nat.le_of_ble_eq_true rfl⟩) hK hP hS hk_j0 (by decide) cl_7 rfl hl.1 rfl (Nat.le_of_ble_eq_true rfl) dX7_isInRange_51 ⟨Nat.zero_le _, Nat.zero_le _⟩ (fun r10 M9 H locs h hP hS => ?_)
    exact re_z hx hb hr hlocks h.1 hP hS h.2 dX7_isInRange_54
  unfold wX7_isInRange at h
  refine lv_iload_n hx hb dX7_isInRange_0 rfl (lv_at hl 1 rfl) ?_
  by_cases c1 : x1a = (99 : Int32)
  · replace h := h.1 c1
    refine lv_lookup (off := 43) (tgt := 44) hx hb dX7_isInRange_1 (by decide) (by rw [c1]; rfl) (by decide) ?_
    exact B44 _ _ _ _ _ hP hS (lv_sub hl [0] rfl) hk_j0a h
  replace h := h.2 c1
  by_cases c2 : x1a = (111 : Int32)
  · replace h := h.1 c2
    refine lv_lookup (off := 43) (tgt := 44) hx hb dX7_isInRange_1 (by decide) (by rw [c2]; rfl) (by decide) ?_
    exact B44 _ _ _ _ _ hP hS (lv_sub hl [0] rfl) hk_j0a h
  replace h := h.2 c2
  by_cases c3 : x1a = (114 : Int32)
  · replace h := h.1 c3
    refine lv_lookup (off := 65) (tgt := 66) hx hb dX7_isInRange_1 (by decide) (by rw [c3]; rfl) (by decide) ?_
    refine lv_aload_n hx hb dX7_isInRange_66 rfl (lv_at hl 0 rfl) ?_
    refine rk_getr hx hb hts inlX7 hown hK hP hk_j0a cl_7 8 6 fq_7_8 q_4_19 rfl dX7_isInRange_67 ?_
    refine lv_iconst (v := (0 : Int32)) hx hb dX7_isInRange_70 k_iconst_0 ?_
    refine rk_iald hx hb hK hP (ky_7_8 hk_j0a) ac_15 0 ix_0 vi_0_2 dX7_isInRange_71 ?_
    refine lv_iconst (v := (1 : Int32)) hx hb dX7_isInRange_72 k_iconst_1 ?_
    refine lv_bipush (v := (10 : Int32)) hx hb dX7_isInRange_73 k_bipush_10 ?_
    refine rc_Si (As := [.int (M (j0a + 6) 0), .int (1 : Int32), .int (10 : Int32)]) (rest := []) ⟨hx, hb, hml, hown, hts⟩ (mX7_in l G (M (j0a + 6) 0) (1 : Int32) (10 : Int32) M _ h) (va_cwS 3 hts (gS_X7_in q_7_19) rfl rfl rfl hdS_X7_in ⟨Nat.le_of_ble_eq_true rfl, Nat.le_of_ble_eq_true rfl⟩) hK hP hS rfl hl.1 rfl (Nat.le_of_ble_eq_true rfl) dX7_isInRange_75 ⟨Nat.zero_le _, Nat.zero_le _⟩ (fun r5 M4 H locs h hP hS => ?_)
    exact re_z hx hb hr hlocks h.1 hP hS h.2 dX7_isInRange_78
  replace h := h.2 c3
  by_cases c6 : x1a = (121 : Int32)
  · replace h := h.1 c6
    refine lv_lookup (off := 54) (tgt := 55) hx hb dX7_isInRange_1 (by decide) (by rw [c6]; rfl) (by decide) ?_
    refine lv_aload_n hx hb dX7_isInRange_55 rfl (lv_at hl 0 rfl) ?_
    refine lv_aload_n hx hb dX7_isInRange_56 rfl (lv_at hl 0 rfl) ?_
    refine rk_getr hx hb hts inlX7 hown hK hP hk_j0a cl_7 8 6 fq_7_8 q_4_19 rfl dX7_isInRange_57 ?_
    refine lv_iconst (v := (0 : Int32)) hx hb dX7_isInRange_60 k_iconst_0 ?_
    refine rk_iald hx hb hK hP (ky_7_8 hk_j0a) ac_15 0 ix_0 vi_0_2 dX7_isInRange_61 ?_
    refine rc_Vi (As := [.int (M (j0a + 6) 0)]) (rest := []) ⟨hx, hb, hml, hown, hts⟩ (mX7_isField l G j0a (M (j0a + 6) 0) M _ hk_j0a h) (cwV 1 hts (gV_X7_isField q_14_4) rfl rfl rfl hdV_X7_isField ⟨Nat.le_of_ble_eq_true rfl, Nat.le_of_ble_eq_true rfl⟩) hK hP hS hk_j0a (by decide) cl_7 rfl hl.1 rfl (Nat.le_of_ble_eq_true rfl) dX7_isInRange_62 ⟨Nat.zero_le _, Nat.zero_le _⟩ (fun r8 M7 H locs h hP hS => ?_)
    exact re_z hx hb hr hlocks h.1 hP hS h.2 dX7_isInRange_65
  replace h := h.2 c6
  refine lv_lookup (off := 78) (tgt := 79) hx hb dX7_isInRange_1 (by decide) (by show Op.lookupswitch.offset [(99, 43), (111, 43), (114, 65), (121, 54)] 78 _ = _; rw [lv_osw (a := 99) c1 rfl, lv_osw (a := 111) c2 rfl, lv_osw (a := 114) c3 rfl, lv_osw (a := 121) c6 rfl]; rfl) (by decide) ?_
  refine lv_iconst (v := (1 : Int32)) hx hb dX7_isInRange_79 k_iconst_1 ?_
  exact re_z hx hb hr hlocks (Or.inr rfl) hP hS h dX7_isInRange_80
