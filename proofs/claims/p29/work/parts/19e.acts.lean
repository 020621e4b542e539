/-! the law's method: printed by gen29.py -/
set_option maxHeartbeats 4000000 in
set_option maxRecDepth 100000 in
theorem mL_acts (l : Launch) (G : Gp) (j0a : Nat) (x1a : Int32) (M : Mm) (Post : Mm → Int32 → Prop) (hk_j0a : kd j0a = 6) (h : wL_acts Post M j0a x1a) : CtH l yL_acts wsL_acts rL_acts G [.ref (G.2.1 + j0a), .int x1a] M Post := by
  refine Met.ofW (cc := cL_acts) (maxL := 16) (ret := (some .boolean)) (by decide) rfl ?_
  intro p e s m args below meth c s₁ B hml hv
  obtain ⟨rfl, hK, hP⟩ := hv
  have hx := B.exec
  have hb := B.bytes
  have hr := B.returns
  have hlocks := B.notSynchronized
  have hts0 := atoms_spec (ws := wsL_acts) B.pre
  have hts : ∀ w ∈ wsL_law, w.before _ s = true := fun w hw => hts0 w (List.mem_cons_of_mem _ hw)
  have hown : s.vm.findClass RL = some m.cls := findClass_of_methodNamed B.named
  have hS : va_S (Fr0 G) s.heap s.heap [] := va_S.rf
  have hl := lv_entry ([.ref (G.2.1 + j0a), .int x1a]) (n := 16) (Nat.le_of_ble_eq_true rfl)
  rw [lg_entry_eq]
  generalize (lg_sl ([.ref (G.2.1 + j0a), .int x1a]) ++ List.replicate (16 - (lg_sl ([.ref (G.2.1 + j0a), .int x1a])).length) Slot.unset).toArray = ls at hl ⊢
  have hl : lv_has ls 16 [(0, .ref (G.2.1 + j0a)), (1, .int x1a)] := hl
  have B102 : ∀ (M : Mm) (t0 : Int32) (t1 : Int32) (H : Heap) (locs : List Loc) (ls : Array Slot), Rp G M H → va_S (Fr0 G) s.heap H locs → lv_has ls 16 [] → bL_acts_102 Post M t0 t1 → Wh p l e (headSpec wsL_acts rL_acts).room s m [.ref (G.2.1 + j0a), .int x1a].toArray below meth c G Post H locs 0 0 (F0 m 102 ls [.int t0, .int t1]) := by
    intro M t0 t1 H locs ls hP hS hl h
    unfold bL_acts_102 at h
    refine lv_icmp_ne (tgt := 109) hx hb dL_acts_102 (by decide) (fun c67 => ?_) (fun c67 => ?_)
    · replace h := h.1 c67
      refine lv_iconst (v := (0 : Int32)) hx hb dL_acts_109 k_iconst_0 ?_
      exact rz_g hx hb hr hlocks (Or.inl rfl) hP hS h (Nat.le_of_ble_eq_true rfl) (Nat.le_of_ble_eq_true rfl) dL_acts_110
    · replace h := h.2 c67
      refine lv_iconst (v := (1 : Int32)) hx hb dL_acts_105 k_iconst_1 ?_
      refine lv_goto (tgt := 110) hx hb dL_acts_106 (by decide) ?_
      exact rz_g hx hb hr hlocks (Or.inr rfl) hP hS h (Nat.le_of_ble_eq_true rfl) (Nat.le_of_ble_eq_true rfl) dL_acts_110
  have B174 : ∀ (M : Mm) (t0 : Int32) (t1 : Int32) (H : Heap) (locs : List Loc) (ls : Array Slot), Rp G M H → va_S (Fr0 G) s.heap H locs → lv_has ls 16 [] → bL_acts_174 Post M t0 t1 → Wh p l e (headSpec wsL_acts rL_acts).room s m [.ref (G.2.1 + j0a), .int x1a].toArray below meth c G Post H locs 0 0 (F0 m 174 ls [.int t0, .int t1]) := by
    intro M t0 t1 H locs ls hP hS hl h
    unfold bL_acts_174 at h
    refine lv_icmp_ne (tgt := 181) hx hb dL_acts_174 (by decide) (fun c68 => ?_) (fun c68 => ?_)
    · replace h := h.1 c68
      refine lv_iconst (v := (0 : Int32)) hx hb dL_acts_181 k_iconst_0 ?_
      exact rz_g hx hb hr hlocks (Or.inl rfl) hP hS h (Nat.le_of_ble_eq_true rfl) (Nat.le_of_ble_eq_true rfl) dL_acts_182
    · replace h := h.2 c68
      refine lv_iconst (v := (1 : Int32)) hx hb dL_acts_177 k_iconst_1 ?_
      refine lv_goto (tgt := 182) hx hb dL_acts_178 (by decide) ?_
      exact rz_g hx hb hr hlocks (Or.inr rfl) hP hS h (Nat.le_of_ble_eq_true rfl) (Nat.le_of_ble_eq_true rfl) dL_acts_182
  have B287 : ∀ (M : Mm) (j0 : Nat) (x2 : Int32) (H : Heap) (locs : List Loc) (ls : Array Slot), Rp G M H → va_S (Fr0 G) s.heap H locs → lv_has ls 16 [(0, .ref (G.2.1 + j0)), (2, .int x2)] → kd j0 = 6 → bL_acts_287 Post M j0 x2 → Wh p l e (headSpec wsL_acts rL_acts).room s m [.ref (G.2.1 + j0a), .int x1a].toArray below meth c G Post H locs 0 0 (F0 m 287 ls []) := by
    intro M j0 x2 H locs ls hP hS hl hk_j0 h
    unfold bL_acts_287 at h
    refine lv_iload_n hx hb dL_acts_287 rfl (lv_at hl 1 rfl) ?_
    refine lv_iconst (v := (1 : Int32)) hx hb dL_acts_288 k_iconst_1 ?_
    refine lv_aload_n hx hb dL_acts_289 rfl (lv_at hl 0 rfl) ?_
    refine lv_iconst (v := (0 : Int32)) hx hb dL_acts_290 k_iconst_0 ?_
    refine rg_Vi (As := [.int (0 : Int32)]) (rest := [.int (1 : Int32), .int x2]) ⟨hx, hb, hml, hown, hts⟩ (mX6_count l G j0 (0 : Int32) M _ hk_j0 h) (cwV 1 hts (gV_X6_count q_4_11) rfl rfl rfl hdV_X6_count ⟨Nat.le_of_ble_eq_true rfl, Nat.le_of_ble_eq_true rfl⟩) hK hP hS hk_j0 (by decide) cl_6 rfl hl.1 rfl (Nat.le_of_ble_eq_true rfl) dL_acts_291 ⟨Nat.zero_le _, Nat.zero_le _⟩ (fun r70 M69 H locs h hP hS => ?_)
    refine lv_ishl hx hb dL_acts_294 ?_
    refine lv_irem hx hb dL_acts_295 h.1 ?_
    replace h := h.2
    refine lv_bipush (v := (-2 : Int32)) hx hb dL_acts_296 k_bipush_m2 ?_
    refine lv_iand hx hb dL_acts_298 ?_
    refine lv_topi (fun x10_71 ex10_71 => ?_)
    replace h := h x10_71 ex10_71
    refine lv_istore (lv' := [(10, .int x10_71), (0, .ref (G.2.1 + j0)), (2, .int x2)]) hx hb dL_acts_299 hl (by decide) rfl (fun ls hl => ?_)
    refine lv_iconst (v := (1 : Int32)) hx hb dL_acts_301 k_iconst_1 ?_
    refine lv_iload_n hx hb dL_acts_302 rfl (lv_at hl 2 rfl) ?_
    refine lv_sipush (v := (256 : Int32)) hx hb dL_acts_303 k_sipush_256 ?_
    refine lv_idiv hx hb dL_acts_306 (by decide) ?_
    refine lv_iconst (v := (5 : Int32)) hx hb dL_acts_307 k_iconst_5 ?_
    refine lv_irem hx hb dL_acts_308 (by decide) ?_
    refine lv_iadd hx hb dL_acts_309 ?_
    refine lv_topi (fun x11_72 ex11_72 => ?_)
    replace h := h x11_72 ex11_72
    refine lv_istore (lv' := [(11, .int x11_72), (10, .int x10_71), (0, .ref (G.2.1 + j0)), (2, .int x2)]) hx hb dL_acts_310 hl (by decide) rfl (fun ls hl => ?_)
    refine lv_aload_n hx hb dL_acts_312 rfl (lv_at hl 2 rfl) ?_
    refine lv_bipush (v := (6 : Int32)) hx hb dL_acts_313 k_bipush_6 ?_
    refine rg_Vi (As := [.int (6 : Int32)]) (rest := []) ⟨hx, hb, hml, hown, hts⟩ (mX6_count l G j0 (6 : Int32) M69 _ hk_j0 h) (cwV 1 hts (gV_X6_count q_4_11) rfl rfl rfl hdV_X6_count ⟨Nat.le_of_ble_eq_true rfl, Nat.le_of_ble_eq_true rfl⟩) hK hP hS hk_j0 (by decide) cl_6 rfl hl.1 rfl (Nat.le_of_ble_eq_true rfl) dL_acts_315 ⟨Nat.zero_le _, Nat.zero_le _⟩ (fun r74 M73 H locs h hP hS => ?_)
    refine lv_istore (lv' := [(12, .int r74), (11, .int x11_72), (10, .int x10_71), (0, .ref (G.2.1 + j0)), (2, .int x2)]) hx hb dL_acts_318 hl (by decide) rfl (fun ls hl => ?_)
    refine lv_aload_n hx hb dL_acts_320 rfl (lv_at hl 3 rfl) ?_
    refine rg_Vi (As := []) (rest := []) ⟨hx, hb, hml, hown, hts⟩ (mX6_noTurns l G j0 M73 _ hk_j0 h) (cwV 0 hts (gV_X6_noTurns q_13_9) rfl rfl rfl hdV_X6_noTurns ⟨Nat.le_of_ble_eq_true rfl, Nat.le_of_ble_eq_true rfl⟩) hK hP hS hk_j0 (by decide) cl_6 rfl hl.1 rfl (Nat.le_of_ble_eq_true rfl) dL_acts_321 ⟨Nat.zero_le _, Nat.zero_le _⟩ (fun r76 M75 H locs h hP hS => ?_)
    refine lv_if_lt (tgt := 414) hx hb dL_acts_324 (by decide) (fun c77 => ?_) (fun c77 => ?_)
    · replace h := h.1 c77
      refine lv_iconst (v := (0 : Int32)) hx hb dL_acts_414 k_iconst_0 ?_
      exact rz_g hx hb hr hlocks (Or.inl rfl) hP hS h (Nat.le_of_ble_eq_true rfl) (Nat.le_of_ble_eq_true rfl) dL_acts_415
    · replace h := h.2 c77
      refine lv_aload_n hx hb dL_acts_327 rfl (lv_at hl 3 rfl) ?_
      refine lv_iload hx hb dL_acts_328 (lv_at hl 2 rfl) ?_
      refine lv_iload hx hb dL_acts_330 (lv_at hl 1 rfl) ?_
      refine rg_Vi (As := [.int x10_71, .int x11_72]) (rest := []) ⟨hx, hb, hml, hown, hts⟩ (mX6_turn l G j0 x10_71 x11_72 M75 _ hk_j0 h) (cwV 2 hts (gV_X6_turn q_13_21) rfl rfl rfl hdV_X6_turn ⟨Nat.le_of_ble_eq_true rfl, Nat.le_of_ble_eq_true rfl⟩) hK hP hS hk_j0 (by decide) cl_6 rfl hl.1 rfl (Nat.le_of_ble_eq_true rfl) dL_acts_332 ⟨Nat.zero_le _, Nat.zero_le _⟩ (fun r79 M78 H locs h hP hS => ?_)
      refine lv_iconst (v := (1 : Int32)) hx hb dL_acts_335 k_iconst_1 ?_
      refine lv_icmp_ne (tgt := 414) hx hb dL_acts_336 (by decide) (fun c80 => ?_) (fun c80 => ?_)
      · replace h := h.1 c80
        refine lv_iconst (v := (0 : Int32)) hx hb dL_acts_414 k_iconst_0 ?_
        exact rz_g hx hb hr hlocks (Or.inl rfl) hP hS h (Nat.le_of_ble_eq_true rfl) (Nat.le_of_ble_eq_true rfl) dL_acts_415
      · replace h := h.2 c80
        refine lv_aload_n hx hb dL_acts_339 rfl (lv_at hl 3 rfl) ?_
        refine lv_iload hx hb dL_acts_340 (lv_at hl 1 rfl) ?_
        refine lv_iload_n hx hb dL_acts_342 rfl (lv_at hl 4 rfl) ?_
        refine lv_sipush (v := (2048 : Int32)) hx hb dL_acts_343 k_sipush_2048 ?_
        refine lv_idiv hx hb dL_acts_346 (by decide) ?_
        refine lv_sipush (v := (300 : Int32)) hx hb dL_acts_347 k_sipush_300 ?_
        refine lv_irem hx hb dL_acts_350 (by decide) ?_
        refine rg_Vi (As := [.int x11_72, .int ((x2 / (2048 : Int32)) - (x2 / (2048 : Int32)) / (300 : Int32) * (300 : Int32))]) (rest := []) ⟨hx, hb, hml, hown, hts⟩ (mX6_run l G j0 x11_72 ((x2 / (2048 : Int32)) - (x2 / (2048 : Int32)) / (300 : Int32) * (300 : Int32)) M78 _ hk_j0 h) (cwV 2 hts (gV_X6_run q_14_13) rfl rfl rfl hdV_X6_run ⟨Nat.le_of_ble_eq_true rfl, Nat.le_of_ble_eq_true rfl⟩) hK hP hS hk_j0 (by decide) cl_6 rfl hl.1 rfl (Nat.le_of_ble_eq_true rfl) dL_acts_351 ⟨Nat.zero_le _, Nat.zero_le _⟩ (fun r82 M81 H locs h hP hS => ?_)
        refine lv_if_lt (tgt := 414) hx hb dL_acts_354 (by decide) (fun c83 => ?_) (fun c83 => ?_)
        · replace h := h.1 c83
          refine lv_iconst (v := (0 : Int32)) hx hb dL_acts_414 k_iconst_0 ?_
          exact rz_g hx hb hr hlocks (Or.inl rfl) hP hS h (Nat.le_of_ble_eq_true rfl) (Nat.le_of_ble_eq_true rfl) dL_acts_415
        · replace h := h.2 c83
          refine lv_aload_n hx hb dL_acts_357 rfl (lv_at hl 3 rfl) ?_
          refine lv_iconst (v := (4 : Int32)) hx hb dL_acts_358 k_iconst_4 ?_
          refine rg_Vi (As := [.int (4 : Int32)]) (rest := []) ⟨hx, hb, hml, hown, hts⟩ (mX6_count l G j0 (4 : Int32) M81 _ hk_j0 h) (cwV 1 hts (gV_X6_count q_4_11) rfl rfl rfl hdV_X6_count ⟨Nat.le_of_ble_eq_true rfl, Nat.le_of_ble_eq_true rfl⟩) hK hP hS hk_j0 (by decide) cl_6 rfl hl.1 rfl (Nat.le_of_ble_eq_true rfl) dL_acts_359 ⟨Nat.zero_le _, Nat.zero_le _⟩ (fun r85 M84 H locs h hP hS => ?_)
          refine lv_iload hx hb dL_acts_362 (lv_at hl 2 rfl) ?_
          refine lv_icmp_ne (tgt := 414) hx hb dL_acts_364 (by decide) (fun c86 => ?_) (fun c86 => ?_)
          · replace h := h.1 c86
            refine lv_iconst (v := (0 : Int32)) hx hb dL_acts_414 k_iconst_0 ?_
            exact rz_g hx hb hr hlocks (Or.inl rfl) hP hS h (Nat.le_of_ble_eq_true rfl) (Nat.le_of_ble_eq_true rfl) dL_acts_415
          · replace h := h.2 c86
            refine lv_aload_n hx hb dL_acts_367 rfl (lv_at hl 3 rfl) ?_
            refine lv_bipush (v := (12 : Int32)) hx hb dL_acts_368 k_bipush_12 ?_
            refine rg_Vi (As := [.int (12 : Int32)]) (rest := []) ⟨hx, hb, hml, hown, hts⟩ (mX6_count l G j0 (12 : Int32) M84 _ hk_j0 h) (cwV 1 hts (gV_X6_count q_4_11) rfl rfl rfl hdV_X6_count ⟨Nat.le_of_ble_eq_true rfl, Nat.le_of_ble_eq_true rfl⟩) hK hP hS hk_j0 (by decide) cl_6 rfl hl.1 rfl (Nat.le_of_ble_eq_true rfl) dL_acts_370 ⟨Nat.zero_le _, Nat.zero_le _⟩ (fun r88 M87 H locs h hP hS => ?_)
            refine lv_if_ne (tgt := 414) hx hb dL_acts_373 (by decide) (fun c89 => ?_) (fun c89 => ?_)
            · replace h := h.1 c89
              refine lv_iconst (v := (0 : Int32)) hx hb dL_acts_414 k_iconst_0 ?_
              exact rz_g hx hb hr hlocks (Or.inl rfl) hP hS h (Nat.le_of_ble_eq_true rfl) (Nat.le_of_ble_eq_true rfl) dL_acts_415
            · replace h := h.2 c89
              refine lv_aload_n hx hb dL_acts_376 rfl (lv_at hl 3 rfl) ?_
              refine lv_bipush (v := (13 : Int32)) hx hb dL_acts_377 k_bipush_13 ?_
              refine rg_Vi (As := [.int (13 : Int32)]) (rest := []) ⟨hx, hb, hml, hown, hts⟩ (mX6_count l G j0 (13 : Int32) M87 _ hk_j0 h) (cwV 1 hts (gV_X6_count q_4_11) rfl rfl rfl hdV_X6_count ⟨Nat.le_of_ble_eq_true rfl, Nat.le_of_ble_eq_true rfl⟩) hK hP hS hk_j0 (by decide) cl_6 rfl hl.1 rfl (Nat.le_of_ble_eq_true rfl) dL_acts_379 ⟨Nat.zero_le _, Nat.zero_le _⟩ (fun r91 M90 H locs h hP hS => ?_)
              refine lv_if_ne (tgt := 414) hx hb dL_acts_382 (by decide) (fun c92 => ?_) (fun c92 => ?_)
              · replace h := h.1 c92
                refine lv_iconst (v := (0 : Int32)) hx hb dL_acts_414 k_iconst_0 ?_
                exact rz_g hx hb hr hlocks (Or.inl rfl) hP hS h (Nat.le_of_ble_eq_true rfl) (Nat.le_of_ble_eq_true rfl) dL_acts_415
              · replace h := h.2 c92
                refine lv_aload_n hx hb dL_acts_385 rfl (lv_at hl 3 rfl) ?_
                refine lv_bipush (v := (6 : Int32)) hx hb dL_acts_386 k_bipush_6 ?_
                refine rg_Vi (As := [.int (6 : Int32)]) (rest := []) ⟨hx, hb, hml, hown, hts⟩ (mX6_count l G j0 (6 : Int32) M90 _ hk_j0 h) (cwV 1 hts (gV_X6_count q_4_11) rfl rfl rfl hdV_X6_count ⟨Nat.le_of_ble_eq_true rfl, Nat.le_of_ble_eq_true rfl⟩) hK hP hS hk_j0 (by decide) cl_6 rfl hl.1 rfl (Nat.le_of_ble_eq_true rfl) dL_acts_388 ⟨Nat.zero_le _, Nat.zero_le _⟩ (fun r94 M93 H locs h hP hS => ?_)
                refine lv_iload hx hb dL_acts_391 (lv_at hl 0 rfl) ?_
                refine lv_iload hx hb dL_acts_393 (lv_at hl 1 rfl) ?_
                refine lv_iadd hx hb dL_acts_395 ?_
                refine lv_icmp_ne (tgt := 414) hx hb dL_acts_396 (by decide) (fun c95 => ?_) (fun c95 => ?_)
                · replace h := h.1 c95
                  refine lv_iconst (v := (0 : Int32)) hx hb dL_acts_414 k_iconst_0 ?_
                  exact rz_g hx hb hr hlocks (Or.inl rfl) hP hS h (Nat.le_of_ble_eq_true rfl) (Nat.le_of_ble_eq_true rfl) dL_acts_415
                · replace h := h.2 c95
                  refine lv_aload_n hx hb dL_acts_399 rfl (lv_at hl 3 rfl) ?_
                  refine lv_iconst (v := (0 : Int32)) hx hb dL_acts_400 k_iconst_0 ?_
                  refine lv_iconst (v := (0 : Int32)) hx hb dL_acts_401 k_iconst_0 ?_
                  refine rg_Vi (As := [.int (0 : Int32), .int (0 : Int32)]) (rest := []) ⟨hx, hb, hml, hown, hts⟩ (mX6_turnOf l G j0 (0 : Int32) (0 : Int32) M93 _ hk_j0 h) (cwV 2 hts (gV_X6_turnOf q_17_12) rfl rfl rfl hdV_X6_turnOf ⟨Nat.le_of_ble_eq_true rfl, Nat.le_of_ble_eq_true rfl⟩) hK hP hS hk_j0 (by decide) cl_6 rfl hl.1 rfl (Nat.le_of_ble_eq_true rfl) dL_acts_402 ⟨Nat.zero_le _, Nat.zero_le _⟩ (fun r97 M96 H locs h hP hS => ?_)
                  refine lv_iload hx hb dL_acts_405 (lv_at hl 2 rfl) ?_
                  refine lv_icmp_ne (tgt := 414) hx hb dL_acts_407 (by decide) (fun c98 => ?_) (fun c98 => ?_)
                  · replace h := h.1 c98
                    refine lv_iconst (v := (0 : Int32)) hx hb dL_acts_414 k_iconst_0 ?_
                    exact rz_g hx hb hr hlocks (Or.inl rfl) hP hS h (Nat.le_of_ble_eq_true rfl) (Nat.le_of_ble_eq_true rfl) dL_acts_415
                  · replace h := h.2 c98
                    refine lv_iconst (v := (1 : Int32)) hx hb dL_acts_410 k_iconst_1 ?_
                    refine lv_goto (tgt := 415) hx hb dL_acts_411 (by decide) ?_
                    exact rz_g hx hb hr hlocks (Or.inr rfl) hP hS h (Nat.le_of_ble_eq_true rfl) (Nat.le_of_ble_eq_true rfl) dL_acts_415
  unfold wL_acts at h
  refine lv_iload_n hx hb dL_acts_0 rfl (lv_at hl 1 rfl) ?_
  refine lv_bipush (v := (8 : Int32)) hx hb dL_acts_1 k_bipush_8 ?_
  refine lv_idiv hx hb dL_acts_3 (by decide) ?_
  refine lv_topi (fun x2_1 ex2_1 => ?_)
  replace h := h x2_1 ex2_1
  refine lv_istore_n (lv' := [(2, .int x2_1), (0, .ref (G.2.1 + j0a)), (1, .int x1a)]) hx hb dL_acts_4 rfl hl (by decide) rfl (fun ls hl => ?_)
  refine lv_iload_n hx hb dL_acts_5 rfl (lv_at hl 2 rfl) ?_
  refine lv_bipush (v := (8 : Int32)) hx hb dL_acts_6 k_bipush_8 ?_
  refine lv_irem hx hb dL_acts_8 (by decide) ?_
  refine lv_topi (fun sw2 esw2 => ?_)
  replace h := h sw2 esw2
  by_cases c3 : sw2 = (0 : Int32)
  · replace h := h.1 c3
    refine lv_tableIn (off := 39) (tgt := 48) hx hb dL_acts_9 (by rw [c3]; decide) (by rw [c3]; decide) (by rw [c3]; rfl) (by decide) ?_
    refine lv_aload_n hx hb dL_acts_48 rfl (lv_at hl 1 rfl) ?_
    refine lv_iconst (v := (0 : Int32)) hx hb dL_acts_49 k_iconst_0 ?_
    refine rg_Vi (As := [.int (0 : Int32)]) (rest := []) ⟨hx, hb, hml, hown, hts⟩ (mX6_count l G j0a (0 : Int32) M _ hk_j0a h) (cwV 1 hts (gV_X6_count q_4_11) rfl rfl rfl hdV_X6_count ⟨Nat.le_of_ble_eq_true rfl, Nat.le_of_ble_eq_true rfl⟩) hK hP hS hk_j0a (by decide) cl_6 rfl hl.1 rfl (Nat.le_of_ble_eq_true rfl) dL_acts_50 ⟨Nat.zero_le _, Nat.zero_le _⟩ (fun r5 M4 H locs h hP hS => ?_)
    refine lv_istore_n (lv' := [(3, .int r5), (2, .int x2_1), (0, .ref (G.2.1 + j0a)), (1, .int x1a)]) hx hb dL_acts_53 rfl hl (by decide) rfl (fun ls hl => ?_)
    refine lv_aload_n hx hb dL_acts_54 rfl (lv_at hl 2 rfl) ?_
    refine lv_iload_n hx hb dL_acts_55 rfl (lv_at hl 1 rfl) ?_
    refine lv_iload_n hx hb dL_acts_56 rfl (lv_at hl 0 rfl) ?_
    refine lv_irem hx hb dL_acts_57 h.1 ?_
    replace h := h.2
    refine lv_iload_n hx hb dL_acts_58 rfl (lv_at hl 1 rfl) ?_
    refine lv_bipush (v := (8 : Int32)) hx hb dL_acts_59 k_bipush_8 ?_
    refine lv_idiv hx hb dL_acts_61 (by decide) ?_
    refine lv_iconst (v := (3 : Int32)) hx hb dL_acts_62 k_iconst_3 ?_
    refine lv_irem hx hb dL_acts_63 (by decide) ?_
    refine lv_iconst (v := (1 : Int32)) hx hb dL_acts_64 k_iconst_1 ?_
    refine lv_iload_n hx hb dL_acts_65 rfl (lv_at hl 1 rfl) ?_
    refine lv_bipush (v := (32 : Int32)) hx hb dL_acts_66 k_bipush_32 ?_
    refine lv_idiv hx hb dL_acts_68 (by decide) ?_
    refine lv_sipush (v := (200 : Int32)) hx hb dL_acts_69 k_sipush_200 ?_
    refine lv_irem hx hb dL_acts_72 (by decide) ?_
    refine lv_iadd hx hb dL_acts_73 ?_
    refine lv_iload_n hx hb dL_acts_74 rfl (lv_at hl 1 rfl) ?_
    refine lv_sipush (v := (8192 : Int32)) hx hb dL_acts_75 k_sipush_8192 ?_
    refine lv_idiv hx hb dL_acts_78 (by decide) ?_
    refine lv_sipush (v := (300 : Int32)) hx hb dL_acts_79 k_sipush_300 ?_
    refine lv_irem hx hb dL_acts_82 (by decide) ?_
    refine rg_Vi (As := [.int (x2_1 - x2_1 / r5 * r5), .int ((x2_1 / (8 : Int32)) - (x2_1 / (8 : Int32)) / (3 : Int32) * (3 : Int32)), .int ((1 : Int32) + ((x2_1 / (32 : Int32)) - (x2_1 / (32 : Int32)) / (200 : Int32) * (200 : Int32))), .int ((x2_1 / (8192 : Int32)) - (x2_1 / (8192 : Int32)) / (300 : Int32) * (300 : Int32))]) (rest := []) ⟨hx, hb, hml, hown, hts⟩ (mX6_canal l G j0a (x2_1 - x2_1 / r5 * r5) ((x2_1 / (8 : Int32)) - (x2_1 / (8 : Int32)) / (3 : Int32) * (3 : Int32)) ((1 : Int32) + ((x2_1 / (32 : Int32)) - (x2_1 / (32 : Int32)) / (200 : Int32) * (200 : Int32))) ((x2_1 / (8192 : Int32)) - (x2_1 / (8192 : Int32)) / (300 : Int32) * (300 : Int32)) M4 _ hk_j0a h) (cwV 4 hts (gV_X6_canal q_9_22) rfl rfl rfl hdV_X6_canal ⟨Nat.le_of_ble_eq_true rfl, Nat.le_of_ble_eq_true rfl⟩) hK hP hS hk_j0a (by decide) cl_6 rfl hl.1 rfl (Nat.le_of_ble_eq_true rfl) dL_acts_83 ⟨Nat.zero_le _, Nat.zero_le _⟩ (fun r7 M6 H locs h hP hS => ?_)
    refine lv_istore (lv' := [(4, .int r7), (3, .int r5), (2, .int x2_1), (0, .ref (G.2.1 + j0a)), (1, .int x1a)]) hx hb dL_acts_86 hl (by decide) rfl (fun ls hl => ?_)
    refine lv_iload hx hb dL_acts_88 (lv_at hl 0 rfl) ?_
    refine lv_iload_n hx hb dL_acts_90 rfl (lv_at hl 1 rfl) ?_
    refine lv_bipush (v := (8 : Int32)) hx hb dL_acts_91 k_bipush_8 ?_
    refine lv_icmp_ne (tgt := 101) hx hb dL_acts_93 (by decide) (fun c8 => ?_) (fun c8 => ?_)
    · replace h := h.1 c8
      refine lv_iload_n hx hb dL_acts_101 rfl (lv_at hl 1 rfl) ?_
      exact B102 _ _ _ _ _ _ hP hS (lv_sub hl [] rfl) h
    · replace h := h.2 c8
      refine lv_ldc hx hb hown (hts _ q_12_14) dL_acts_96 ?_
      refine lv_goto (tgt := 102) hx hb dL_acts_98 (by decide) ?_
      exact B102 _ _ _ _ _ _ hP hS (lv_sub hl [] rfl) h
  replace h := h.2 c3
  by_cases c9 : sw2 = (1 : Int32)
  · replace h := h.1 c9
    refine lv_tableIn (off := 102) (tgt := 111) hx hb dL_acts_9 (by rw [c9]; decide) (by rw [c9]; decide) (by rw [c9]; rfl) (by decide) ?_
    refine lv_aload_n hx hb dL_acts_111 rfl (lv_at hl 1 rfl) ?_
    refine lv_iconst (v := (1 : Int32)) hx hb dL_acts_112 k_iconst_1 ?_
    refine rg_Vi (As := [.int (1 : Int32)]) (rest := []) ⟨hx, hb, hml, hown, hts⟩ (mX6_count l G j0a (1 : Int32) M _ hk_j0a h) (cwV 1 hts (gV_X6_count q_4_11) rfl rfl rfl hdV_X6_count ⟨Nat.le_of_ble_eq_true rfl, Nat.le_of_ble_eq_true rfl⟩) hK hP hS hk_j0a (by decide) cl_6 rfl hl.1 rfl (Nat.le_of_ble_eq_true rfl) dL_acts_113 ⟨Nat.zero_le _, Nat.zero_le _⟩ (fun r11 M10 H locs h hP hS => ?_)
    refine lv_istore (lv' := [(5, .int r11), (2, .int x2_1), (0, .ref (G.2.1 + j0a)), (1, .int x1a)]) hx hb dL_acts_116 hl (by decide) rfl (fun ls hl => ?_)
    refine lv_aload_n hx hb dL_acts_118 rfl (lv_at hl 2 rfl) ?_
    refine lv_iload_n hx hb dL_acts_119 rfl (lv_at hl 1 rfl) ?_
    refine lv_aload_n hx hb dL_acts_120 rfl (lv_at hl 2 rfl) ?_
    refine lv_iconst (v := (0 : Int32)) hx hb dL_acts_121 k_iconst_0 ?_
    refine rg_Vi (As := [.int (0 : Int32)]) (rest := [.int x2_1, .ref (G.2.1 + j0a)]) ⟨hx, hb, hml, hown, hts⟩ (mX6_count l G j0a (0 : Int32) M10 _ hk_j0a h) (cwV 1 hts (gV_X6_count q_4_11) rfl rfl rfl hdV_X6_count ⟨Nat.le_of_ble_eq_true rfl, Nat.le_of_ble_eq_true rfl⟩) hK hP hS hk_j0a (by decide) cl_6 rfl hl.1 rfl (Nat.le_of_ble_eq_true rfl) dL_acts_122 ⟨Nat.zero_le _, Nat.zero_le _⟩ (fun r13 M12 H locs h hP hS => ?_)
    refine lv_irem hx hb dL_acts_125 h.1 ?_
    replace h := h.2
    refine lv_iconst (v := (1 : Int32)) hx hb dL_acts_126 k_iconst_1 ?_
    refine lv_iload_n hx hb dL_acts_127 rfl (lv_at hl 1 rfl) ?_
    refine lv_bipush (v := (8 : Int32)) hx hb dL_acts_128 k_bipush_8 ?_
    refine lv_idiv hx hb dL_acts_130 (by decide) ?_
    refine lv_sipush (v := (250 : Int32)) hx hb dL_acts_131 k_sipush_250 ?_
    refine lv_irem hx hb dL_acts_134 (by decide) ?_
    refine lv_iadd hx hb dL_acts_135 ?_
    refine lv_iconst (v := (1 : Int32)) hx hb dL_acts_136 k_iconst_1 ?_
    refine lv_iload_n hx hb dL_acts_137 rfl (lv_at hl 1 rfl) ?_
    refine lv_sipush (v := (4096 : Int32)) hx hb dL_acts_138 k_sipush_4096 ?_
    refine lv_idiv hx hb dL_acts_141 (by decide) ?_
    refine lv_bipush (v := (80 : Int32)) hx hb dL_acts_142 k_bipush_80 ?_
    refine lv_irem hx hb dL_acts_144 (by decide) ?_
    refine lv_iadd hx hb dL_acts_145 ?_
    refine lv_iload_n hx hb dL_acts_146 rfl (lv_at hl 1 rfl) ?_
    refine lv_ldc hx hb hown (hts _ q_12_15) dL_acts_147 ?_
    refine lv_idiv hx hb dL_acts_149 (by decide) ?_
    refine lv_bipush (v := (100 : Int32)) hx hb dL_acts_150 k_bipush_100 ?_
    refine lv_irem hx hb dL_acts_152 (by decide) ?_
    refine rg_Vi (As := [.int (x2_1 - x2_1 / r13 * r13), .int ((1 : Int32) + ((x2_1 / (8 : Int32)) - (x2_1 / (8 : Int32)) / (250 : Int32) * (250 : Int32))), .int ((1 : Int32) + ((x2_1 / (4096 : Int32)) - (x2_1 / (4096 : Int32)) / (80 : Int32) * (80 : Int32))), .int ((x2_1 / (524288 : Int32)) - (x2_1 / (524288 : Int32)) / (100 : Int32) * (100 : Int32))]) (rest := []) ⟨hx, hb, hml, hown, hts⟩ (mX6_field l G j0a (x2_1 - x2_1 / r13 * r13) ((1 : Int32) + ((x2_1 / (8 : Int32)) - (x2_1 / (8 : Int32)) / (250 : Int32) * (250 : Int32))) ((1 : Int32) + ((x2_1 / (4096 : Int32)) - (x2_1 / (4096 : Int32)) / (80 : Int32) * (80 : Int32))) ((x2_1 / (524288 : Int32)) - (x2_1 / (524288 : Int32)) / (100 : Int32) * (100 : Int32)) M12 _ hk_j0a h) (cwV 4 hts (gV_X6_field q_11_22) rfl rfl rfl hdV_X6_field ⟨Nat.le_of_ble_eq_true rfl, Nat.le_of_ble_eq_true rfl⟩) hK hP hS hk_j0a (by decide) cl_6 rfl hl.1 rfl (Nat.le_of_ble_eq_true rfl) dL_acts_153 ⟨Nat.zero_le _, Nat.zero_le _⟩ (fun r15 M14 H locs h hP hS => ?_)
    refine lv_istore (lv' := [(6, .int r15), (5, .int r11), (2, .int x2_1), (0, .ref (G.2.1 + j0a)), (1, .int x1a)]) hx hb dL_acts_156 hl (by decide) rfl (fun ls hl => ?_)
    refine lv_iload hx hb dL_acts_158 (lv_at hl 0 rfl) ?_
    refine lv_iload hx hb dL_acts_160 (lv_at hl 1 rfl) ?_
    refine lv_bipush (v := (10 : Int32)) hx hb dL_acts_162 k_bipush_10 ?_
    refine lv_icmp_ne (tgt := 172) hx hb dL_acts_164 (by decide) (fun c16 => ?_) (fun c16 => ?_)
    · replace h := h.1 c16
      refine lv_iload hx hb dL_acts_172 (lv_at hl 1 rfl) ?_
      exact B174 _ _ _ _ _ _ hP hS (lv_sub hl [] rfl) h
    · replace h := h.2 c16
      refine lv_ldc hx hb hown (hts _ q_12_14) dL_acts_167 ?_
      refine lv_goto (tgt := 174) hx hb dL_acts_169 (by decide) ?_
      exact B174 _ _ _ _ _ _ hP hS (lv_sub hl [] rfl) h
  replace h := h.2 c9
  by_cases c17 : sw2 = (2 : Int32)
  · replace h := h.1 c17
    refine lv_tableIn (off := 174) (tgt := 183) hx hb dL_acts_9 (by rw [c17]; decide) (by rw [c17]; decide) (by rw [c17]; rfl) (by decide) ?_
    refine lv_aload_n hx hb dL_acts_183 rfl (lv_at hl 1 rfl) ?_
    refine lv_iconst (v := (1 : Int32)) hx hb dL_acts_184 k_iconst_1 ?_
    refine rg_Vi (As := [.int (1 : Int32)]) (rest := []) ⟨hx, hb, hml, hown, hts⟩ (mX6_count l G j0a (1 : Int32) M _ hk_j0a h) (cwV 1 hts (gV_X6_count q_4_11) rfl rfl rfl hdV_X6_count ⟨Nat.le_of_ble_eq_true rfl, Nat.le_of_ble_eq_true rfl⟩) hK hP hS hk_j0a (by decide) cl_6 rfl hl.1 rfl (Nat.le_of_ble_eq_true rfl) dL_acts_185 ⟨Nat.zero_le _, Nat.zero_le _⟩ (fun r19 M18 H locs h hP hS => ?_)
    refine lv_if_ne (tgt := 207) hx hb dL_acts_188 (by decide) (fun c20 => ?_) (fun c20 => ?_)
    · replace h := h.1 c20
      refine lv_iload_n hx hb dL_acts_207 rfl (lv_at hl 0 rfl) ?_
      refine lv_aload_n hx hb dL_acts_208 rfl (lv_at hl 1 rfl) ?_
      refine lv_iconst (v := (1 : Int32)) hx hb dL_acts_209 k_iconst_1 ?_
      refine rg_Vi (As := [.int (1 : Int32)]) (rest := [.int x2_1]) ⟨hx, hb, hml, hown, hts⟩ (mX6_count l G j0a (1 : Int32) M18 _ hk_j0a h) (cwV 1 hts (gV_X6_count q_4_11) rfl rfl rfl hdV_X6_count ⟨Nat.le_of_ble_eq_true rfl, Nat.le_of_ble_eq_true rfl⟩) hK hP hS hk_j0a (by decide) cl_6 rfl hl.1 rfl (Nat.le_of_ble_eq_true rfl) dL_acts_210 ⟨Nat.zero_le _, Nat.zero_le _⟩ (fun r22 M21 H locs h hP hS => ?_)
      refine lv_irem hx hb dL_acts_213 h.1 ?_
      replace h := h.2
      refine lv_topi (fun x7_23 ex7_23 => ?_)
      replace h := h x7_23 ex7_23
      refine lv_istore (lv' := [(7, .int x7_23), (2, .int x2_1), (0, .ref (G.2.1 + j0a)), (1, .int x1a)]) hx hb dL_acts_214 hl (by decide) rfl (fun ls hl => ?_)
      refine lv_aload_n hx hb dL_acts_216 rfl (lv_at hl 2 rfl) ?_
      refine lv_iload hx hb dL_acts_217 (lv_at hl 0 rfl) ?_
      refine lv_iconst (v := (5 : Int32)) hx hb dL_acts_219 k_iconst_5 ?_
      refine rg_Vi (As := [.int x7_23, .int (5 : Int32)]) (rest := []) ⟨hx, hb, hml, hown, hts⟩ (mX6_fieldOf l G j0a x7_23 (5 : Int32) M21 _ hk_j0a h) (cwV 2 hts (gV_X6_fieldOf q_6_10) rfl rfl rfl hdV_X6_fieldOf ⟨Nat.le_of_ble_eq_true rfl, Nat.le_of_ble_eq_true rfl⟩) hK hP hS hk_j0a (by decide) cl_6 rfl hl.1 rfl (Nat.le_of_ble_eq_true rfl) dL_acts_220 ⟨Nat.zero_le _, Nat.zero_le _⟩ (fun r25 M24 H locs h hP hS => ?_)
      refine lv_istore (lv' := [(8, .int r25), (7, .int x7_23), (2, .int x2_1), (0, .ref (G.2.1 + j0a)), (1, .int x1a)]) hx hb dL_acts_223 hl (by decide) rfl (fun ls hl => ?_)
      refine lv_aload_n hx hb dL_acts_225 rfl (lv_at hl 3 rfl) ?_
      refine lv_iload hx hb dL_acts_226 (lv_at hl 1 rfl) ?_
      refine rg_Vi (As := [.int x7_23]) (rest := []) ⟨hx, hb, hml, hown, hts⟩ (mX6_call l G j0a x7_23 M24 _ hk_j0a h) (cwV 1 hts (gV_X6_call q_12_18) rfl rfl rfl hdV_X6_call ⟨Nat.le_of_ble_eq_true rfl, Nat.le_of_ble_eq_true rfl⟩) hK hP hS hk_j0a (by decide) cl_6 rfl hl.1 rfl (Nat.le_of_ble_eq_true rfl) dL_acts_228 ⟨Nat.zero_le _, Nat.zero_le _⟩ (fun r27 M26 H locs h hP hS => ?_)
      refine lv_istore (lv' := [(9, .int r27), (8, .int r25), (7, .int x7_23), (2, .int x2_1), (0, .ref (G.2.1 + j0a)), (1, .int x1a)]) hx hb dL_acts_231 hl (by decide) rfl (fun ls hl => ?_)
      refine lv_iload hx hb dL_acts_233 (lv_at hl 0 rfl) ?_
      refine lv_ldc hx hb hown (hts _ q_12_17) dL_acts_235 ?_
      refine lv_icmp_ne (tgt := 265) hx hb dL_acts_237 (by decide) (fun c28 => ?_) (fun c28 => ?_)
      · replace h := h.1 c28
        refine lv_iload hx hb dL_acts_265 (lv_at hl 1 rfl) ?_
        refine lv_if_ne (tgt := 285) hx hb dL_acts_267 (by decide) (fun c29 => ?_) (fun c29 => ?_)
        · replace h := h.1 c29
          refine lv_iconst (v := (0 : Int32)) hx hb dL_acts_285 k_iconst_0 ?_
          exact rz_g hx hb hr hlocks (Or.inl rfl) hP hS h (Nat.le_of_ble_eq_true rfl) (Nat.le_of_ble_eq_true rfl) dL_acts_286
        · replace h := h.2 c29
          refine lv_aload_n hx hb dL_acts_270 rfl (lv_at hl 4 rfl) ?_
          refine lv_iload hx hb dL_acts_271 (lv_at hl 2 rfl) ?_
          refine lv_iconst (v := (5 : Int32)) hx hb dL_acts_273 k_iconst_5 ?_
          refine rg_Vi (As := [.int x7_23, .int (5 : Int32)]) (rest := []) ⟨hx, hb, hml, hown, hts⟩ (mX6_fieldOf l G j0a x7_23 (5 : Int32) M26 _ hk_j0a h) (cwV 2 hts (gV_X6_fieldOf q_6_10) rfl rfl rfl hdV_X6_fieldOf ⟨Nat.le_of_ble_eq_true rfl, Nat.le_of_ble_eq_true rfl⟩) hK hP hS hk_j0a (by decide) cl_6 rfl hl.1 rfl (Nat.le_of_ble_eq_true rfl) dL_acts_274 ⟨Nat.zero_le _, Nat.zero_le _⟩ (fun r31 M30 H locs h hP hS => ?_)
          refine lv_iconst (v := (1 : Int32)) hx hb dL_acts_277 k_iconst_1 ?_
          refine lv_icmp_ne (tgt := 285) hx hb dL_acts_278 (by decide) (fun c32 => ?_) (fun c32 => ?_)
          · replace h := h.1 c32
            refine lv_iconst (v := (0 : Int32)) hx hb dL_acts_285 k_iconst_0 ?_
            exact rz_g hx hb hr hlocks (Or.inl rfl) hP hS h (Nat.le_of_ble_eq_true rfl) (Nat.le_of_ble_eq_true rfl) dL_acts_286
          · replace h := h.2 c32
            refine lv_iconst (v := (1 : Int32)) hx hb dL_acts_281 k_iconst_1 ?_
            refine lv_goto (tgt := 286) hx hb dL_acts_282 (by decide) ?_
            exact rz_g hx hb hr hlocks (Or.inr rfl) hP hS h (Nat.le_of_ble_eq_true rfl) (Nat.le_of_ble_eq_true rfl) dL_acts_286
      · replace h := h.2 c28
        refine lv_iload hx hb dL_acts_240 (lv_at hl 1 rfl) ?_
        refine lv_iconst (v := (1 : Int32)) hx hb dL_acts_242 k_iconst_1 ?_
        refine lv_icmp_eq (tgt := 257) hx hb dL_acts_243 (by decide) (fun c33 => ?_) (fun c33 => ?_)
        · replace h := h.1 c33
          refine lv_iconst (v := (1 : Int32)) hx hb dL_acts_257 k_iconst_1 ?_
          refine lv_goto (tgt := 286) hx hb dL_acts_258 (by decide) ?_
          exact rz_g hx hb hr hlocks (Or.inr rfl) hP hS h (Nat.le_of_ble_eq_true rfl) (Nat.le_of_ble_eq_true rfl) dL_acts_286
        · replace h := h.2 c33
          refine lv_aload_n hx hb dL_acts_246 rfl (lv_at hl 4 rfl) ?_
          refine lv_iload hx hb dL_acts_247 (lv_at hl 2 rfl) ?_
          refine lv_bipush (v := (7 : Int32)) hx hb dL_acts_249 k_bipush_7 ?_
          refine rg_Vi (As := [.int x7_23, .int (7 : Int32)]) (rest := []) ⟨hx, hb, hml, hown, hts⟩ (mX6_fieldOf l G j0a x7_23 (7 : Int32) M26 _ hk_j0a h) (cwV 2 hts (gV_X6_fieldOf q_6_10) rfl rfl rfl hdV_X6_fieldOf ⟨Nat.le_of_ble_eq_true rfl, Nat.le_of_ble_eq_true rfl⟩) hK hP hS hk_j0a (by decide) cl_6 rfl hl.1 rfl (Nat.le_of_ble_eq_true rfl) dL_acts_251 ⟨Nat.zero_le _, Nat.zero_le _⟩ (fun r35 M34 H locs h hP hS => ?_)
          refine lv_if_lt (tgt := 261) hx hb dL_acts_254 (by decide) (fun c36 => ?_) (fun c36 => ?_)
          · replace h := h.1 c36
            refine lv_iconst (v := (0 : Int32)) hx hb dL_acts_261 k_iconst_0 ?_
            refine lv_goto (tgt := 286) hx hb dL_acts_262 (by decide) ?_
            exact rz_g hx hb hr hlocks (Or.inl rfl) hP hS h (Nat.le_of_ble_eq_true rfl) (Nat.le_of_ble_eq_true rfl) dL_acts_286
          · replace h := h.2 c36
            refine lv_iconst (v := (1 : Int32)) hx hb dL_acts_257 k_iconst_1 ?_
            refine lv_goto (tgt := 286) hx hb dL_acts_258 (by decide) ?_
            exact rz_g hx hb hr hlocks (Or.inr rfl) hP hS h (Nat.le_of_ble_eq_true rfl) (Nat.le_of_ble_eq_true rfl) dL_acts_286
    · replace h := h.2 c20
      refine lv_aload_n hx hb dL_acts_191 rfl (lv_at hl 1 rfl) ?_
      refine lv_iconst (v := (0 : Int32)) hx hb dL_acts_192 k_iconst_0 ?_
      refine rg_Vi (As := [.int (0 : Int32)]) (rest := []) ⟨hx, hb, hml, hown, hts⟩ (mX6_call l G j0a (0 : Int32) M18 _ hk_j0a h) (cwV 1 hts (gV_X6_call q_12_18) rfl rfl rfl hdV_X6_call ⟨Nat.le_of_ble_eq_true rfl, Nat.le_of_ble_eq_true rfl⟩) hK hP hS hk_j0a (by decide) cl_6 rfl hl.1 rfl (Nat.le_of_ble_eq_true rfl) dL_acts_193 ⟨Nat.zero_le _, Nat.zero_le _⟩ (fun r38 M37 H locs h hP hS => ?_)
      refine lv_ldc hx hb hown (hts _ q_12_16) dL_acts_196 ?_
      refine lv_icmp_ne (tgt := 205) hx hb dL_acts_198 (by decide) (fun c39 => ?_) (fun c39 => ?_)
      · replace h := h.1 c39
        refine lv_iconst (v := (0 : Int32)) hx hb dL_acts_205 k_iconst_0 ?_
        exact rz_g hx hb hr hlocks (Or.inl rfl) hP hS h (Nat.le_of_ble_eq_true rfl) (Nat.le_of_ble_eq_true rfl) dL_acts_206
      · replace h := h.2 c39
        refine lv_iconst (v := (1 : Int32)) hx hb dL_acts_201 k_iconst_1 ?_
        refine lv_goto (tgt := 206) hx hb dL_acts_202 (by decide) ?_
        exact rz_g hx hb hr hlocks (Or.inr rfl) hP hS h (Nat.le_of_ble_eq_true rfl) (Nat.le_of_ble_eq_true rfl) dL_acts_206
  replace h := h.2 c17
  by_cases c40 : sw2 = (3 : Int32)
  · replace h := h.1 c40
    refine lv_tableIn (off := 278) (tgt := 287) hx hb dL_acts_9 (by rw [c40]; decide) (by rw [c40]; decide) (by rw [c40]; rfl) (by decide) ?_
    exact B287 _ _ _ _ _ _ hP hS (lv_sub hl [1, 0] rfl) hk_j0a h
  replace h := h.2 c40
  by_cases c41 : sw2 = (4 : Int32)
  · replace h := h.1 c41
    refine lv_tableIn (off := 278) (tgt := 287) hx hb dL_acts_9 (by rw [c41]; decide) (by rw [c41]; decide) (by rw [c41]; rfl) (by decide) ?_
    exact B287 _ _ _ _ _ _ hP hS (lv_sub hl [1, 0] rfl) hk_j0a h
  replace h := h.2 c41
  by_cases c42 : sw2 = (5 : Int32)
  · replace h := h.1 c42
    refine lv_tableIn (off := 407) (tgt := 416) hx hb dL_acts_9 (by rw [c42]; decide) (by rw [c42]; decide) (by rw [c42]; rfl) (by decide) ?_
    refine lv_aload_n hx hb dL_acts_416 rfl (lv_at hl 1 rfl) ?_
    refine lv_iconst (v := (0 : Int32)) hx hb dL_acts_417 k_iconst_0 ?_
    refine rg_Vi (As := [.int (0 : Int32)]) (rest := []) ⟨hx, hb, hml, hown, hts⟩ (mX6_count l G j0a (0 : Int32) M _ hk_j0a h) (cwV 1 hts (gV_X6_count q_4_11) rfl rfl rfl hdV_X6_count ⟨Nat.le_of_ble_eq_true rfl, Nat.le_of_ble_eq_true rfl⟩) hK hP hS hk_j0a (by decide) cl_6 rfl hl.1 rfl (Nat.le_of_ble_eq_true rfl) dL_acts_418 ⟨Nat.zero_le _, Nat.zero_le _⟩ (fun r44 M43 H locs h hP hS => ?_)
    refine lv_iconst (v := (1 : Int32)) hx hb dL_acts_421 k_iconst_1 ?_
    refine lv_icmp_ne (tgt := 441) hx hb dL_acts_422 (by decide) (fun c45 => ?_) (fun c45 => ?_)
    · replace h := h.1 c45
      refine lv_iconst (v := (1 : Int32)) hx hb dL_acts_441 k_iconst_1 ?_
      refine lv_iload_n hx hb dL_acts_442 rfl (lv_at hl 0 rfl) ?_
      refine lv_aload_n hx hb dL_acts_443 rfl (lv_at hl 1 rfl) ?_
      refine lv_iconst (v := (0 : Int32)) hx hb dL_acts_444 k_iconst_0 ?_
      refine rg_Vi (As := [.int (0 : Int32)]) (rest := [.int x2_1, .int (1 : Int32)]) ⟨hx, hb, hml, hown, hts⟩ (mX6_count l G j0a (0 : Int32) M43 _ hk_j0a h) (cwV 1 hts (gV_X6_count q_4_11) rfl rfl rfl hdV_X6_count ⟨Nat.le_of_ble_eq_true rfl, Nat.le_of_ble_eq_true rfl⟩) hK hP hS hk_j0a (by decide) cl_6 rfl hl.1 rfl (Nat.le_of_ble_eq_true rfl) dL_acts_445 ⟨Nat.zero_le _, Nat.zero_le _⟩ (fun r47 M46 H locs h hP hS => ?_)
      refine lv_iconst (v := (1 : Int32)) hx hb dL_acts_448 k_iconst_1 ?_
      refine lv_isub hx hb dL_acts_449 ?_
      refine lv_irem hx hb dL_acts_450 h.1 ?_
      replace h := h.2
      refine lv_iadd hx hb dL_acts_451 ?_
      refine lv_topi (fun x13_48 ex13_48 => ?_)
      replace h := h x13_48 ex13_48
      refine lv_istore (lv' := [(13, .int x13_48), (2, .int x2_1), (0, .ref (G.2.1 + j0a)), (1, .int x1a)]) hx hb dL_acts_452 hl (by decide) rfl (fun ls hl => ?_)
      refine lv_aload_n hx hb dL_acts_454 rfl (lv_at hl 2 rfl) ?_
      refine lv_iload hx hb dL_acts_455 (lv_at hl 0 rfl) ?_
      refine lv_iconst (v := (5 : Int32)) hx hb dL_acts_457 k_iconst_5 ?_
      refine rg_Vi (As := [.int x13_48, .int (5 : Int32)]) (rest := []) ⟨hx, hb, hml, hown, hts⟩ (mX6_canalOf l G j0a x13_48 (5 : Int32) M46 _ hk_j0a h) (cwV 2 hts (gV_X6_canalOf q_8_12) rfl rfl rfl hdV_X6_canalOf ⟨Nat.le_of_ble_eq_true rfl, Nat.le_of_ble_eq_true rfl⟩) hK hP hS hk_j0a (by decide) cl_6 rfl hl.1 rfl (Nat.le_of_ble_eq_true rfl) dL_acts_458 ⟨Nat.zero_le _, Nat.zero_le _⟩ (fun r50 M49 H locs h hP hS => ?_)
      refine lv_istore (lv' := [(14, .int r50), (13, .int x13_48), (2, .int x2_1), (0, .ref (G.2.1 + j0a)), (1, .int x1a)]) hx hb dL_acts_461 hl (by decide) rfl (fun ls hl => ?_)
      refine lv_aload_n hx hb dL_acts_463 rfl (lv_at hl 3 rfl) ?_
      refine lv_iload_n hx hb dL_acts_464 rfl (lv_at hl 2 rfl) ?_
      refine lv_bipush (v := (8 : Int32)) hx hb dL_acts_465 k_bipush_8 ?_
      refine lv_idiv hx hb dL_acts_467 (by decide) ?_
      refine lv_iconst (v := (3 : Int32)) hx hb dL_acts_468 k_iconst_3 ?_
      refine lv_irem hx hb dL_acts_469 (by decide) ?_
      refine lv_iload hx hb dL_acts_470 (lv_at hl 1 rfl) ?_
      refine rg_Vi (As := [.int ((x2_1 / (8 : Int32)) - (x2_1 / (8 : Int32)) / (3 : Int32) * (3 : Int32)), .int x13_48]) (rest := []) ⟨hx, hb, hml, hown, hts⟩ (mX6_tend l G j0a ((x2_1 / (8 : Int32)) - (x2_1 / (8 : Int32)) / (3 : Int32) * (3 : Int32)) x13_48 M49 _ hk_j0a h) (cwV 2 hts (gV_X6_tend q_18_15) rfl rfl rfl hdV_X6_tend ⟨Nat.le_of_ble_eq_true rfl, Nat.le_of_ble_eq_true rfl⟩) hK hP hS hk_j0a (by decide) cl_6 rfl hl.1 rfl (Nat.le_of_ble_eq_true rfl) dL_acts_472 ⟨Nat.zero_le _, Nat.zero_le _⟩ (fun r52 M51 H locs h hP hS => ?_)
      refine lv_istore (lv' := [(15, .int r52), (14, .int r50), (13, .int x13_48), (2, .int x2_1), (0, .ref (G.2.1 + j0a)), (1, .int x1a)]) hx hb dL_acts_475 hl (by decide) rfl (fun ls hl => ?_)
      refine lv_iload hx hb dL_acts_477 (lv_at hl 0 rfl) ?_
      refine lv_if_le (tgt := 519) hx hb dL_acts_479 (by decide) (fun c53 => ?_) (fun c53 => ?_)
      · replace h := h.1 c53
        refine lv_aload_n hx hb dL_acts_519 rfl (lv_at hl 4 rfl) ?_
        refine lv_iload hx hb dL_acts_520 (lv_at hl 2 rfl) ?_
        refine lv_iconst (v := (5 : Int32)) hx hb dL_acts_522 k_iconst_5 ?_
        refine rg_Vi (As := [.int x13_48, .int (5 : Int32)]) (rest := []) ⟨hx, hb, hml, hown, hts⟩ (mX6_canalOf l G j0a x13_48 (5 : Int32) M51 _ hk_j0a h) (cwV 2 hts (gV_X6_canalOf q_8_12) rfl rfl rfl hdV_X6_canalOf ⟨Nat.le_of_ble_eq_true rfl, Nat.le_of_ble_eq_true rfl⟩) hK hP hS hk_j0a (by decide) cl_6 rfl hl.1 rfl (Nat.le_of_ble_eq_true rfl) dL_acts_523 ⟨Nat.zero_le _, Nat.zero_le _⟩ (fun r55 M54 H locs h hP hS => ?_)
        refine lv_iload hx hb dL_acts_526 (lv_at hl 1 rfl) ?_
        refine lv_icmp_ne (tgt := 535) hx hb dL_acts_528 (by decide) (fun c56 => ?_) (fun c56 => ?_)
        · replace h := h.1 c56
          refine lv_iconst (v := (0 : Int32)) hx hb dL_acts_535 k_iconst_0 ?_
          exact rz_g hx hb hr hlocks (Or.inl rfl) hP hS h (Nat.le_of_ble_eq_true rfl) (Nat.le_of_ble_eq_true rfl) dL_acts_536
        · replace h := h.2 c56
          refine lv_iconst (v := (1 : Int32)) hx hb dL_acts_531 k_iconst_1 ?_
          refine lv_goto (tgt := 536) hx hb dL_acts_532 (by decide) ?_
          exact rz_g hx hb hr hlocks (Or.inr rfl) hP hS h (Nat.le_of_ble_eq_true rfl) (Nat.le_of_ble_eq_true rfl) dL_acts_536
      · replace h := h.2 c53
        refine lv_iload hx hb dL_acts_482 (lv_at hl 1 rfl) ?_
        refine lv_ldc hx hb hown (hts _ q_4_10) dL_acts_484 ?_
        refine lv_icmp_ne (tgt := 515) hx hb dL_acts_486 (by decide) (fun c57 => ?_) (fun c57 => ?_)
        · replace h := h.1 c57
          refine lv_iconst (v := (0 : Int32)) hx hb dL_acts_515 k_iconst_0 ?_
          refine lv_goto (tgt := 536) hx hb dL_acts_516 (by decide) ?_
          exact rz_g hx hb hr hlocks (Or.inl rfl) hP hS h (Nat.le_of_ble_eq_true rfl) (Nat.le_of_ble_eq_true rfl) dL_acts_536
        · replace h := h.2 c57
          refine lv_aload_n hx hb dL_acts_489 rfl (lv_at hl 4 rfl) ?_
          refine lv_iload hx hb dL_acts_490 (lv_at hl 2 rfl) ?_
          refine lv_iconst (v := (5 : Int32)) hx hb dL_acts_492 k_iconst_5 ?_
          refine rg_Vi (As := [.int x13_48, .int (5 : Int32)]) (rest := []) ⟨hx, hb, hml, hown, hts⟩ (mX6_canalOf l G j0a x13_48 (5 : Int32) M51 _ hk_j0a h) (cwV 2 hts (gV_X6_canalOf q_8_12) rfl rfl rfl hdV_X6_canalOf ⟨Nat.le_of_ble_eq_true rfl, Nat.le_of_ble_eq_true rfl⟩) hK hP hS hk_j0a (by decide) cl_6 rfl hl.1 rfl (Nat.le_of_ble_eq_true rfl) dL_acts_493 ⟨Nat.zero_le _, Nat.zero_le _⟩ (fun r59 M58 H locs h hP hS => ?_)
          refine lv_iload_n hx hb dL_acts_496 rfl (lv_at hl 3 rfl) ?_
          refine lv_bipush (v := (8 : Int32)) hx hb dL_acts_497 k_bipush_8 ?_
          refine lv_idiv hx hb dL_acts_499 (by decide) ?_
          refine lv_iconst (v := (3 : Int32)) hx hb dL_acts_500 k_iconst_3 ?_
          refine lv_irem hx hb dL_acts_501 (by decide) ?_
          refine lv_icmp_ne (tgt := 515) hx hb dL_acts_502 (by decide) (fun c60 => ?_) (fun c60 => ?_)
          · replace h := h.1 c60
            refine lv_iconst (v := (0 : Int32)) hx hb dL_acts_515 k_iconst_0 ?_
            refine lv_goto (tgt := 536) hx hb dL_acts_516 (by decide) ?_
            exact rz_g hx hb hr hlocks (Or.inl rfl) hP hS h (Nat.le_of_ble_eq_true rfl) (Nat.le_of_ble_eq_true rfl) dL_acts_536
          · replace h := h.2 c60
            refine lv_iload hx hb dL_acts_505 (lv_at hl 0 rfl) ?_
            refine lv_iconst (v := (2 : Int32)) hx hb dL_acts_507 k_iconst_2 ?_
            refine lv_icmp_gt (tgt := 515) hx hb dL_acts_508 (by decide) (fun c61 => ?_) (fun c61 => ?_)
            · replace h := h.1 c61
              refine lv_iconst (v := (0 : Int32)) hx hb dL_acts_515 k_iconst_0 ?_
              refine lv_goto (tgt := 536) hx hb dL_acts_516 (by decide) ?_
              exact rz_g hx hb hr hlocks (Or.inl rfl) hP hS h (Nat.le_of_ble_eq_true rfl) (Nat.le_of_ble_eq_true rfl) dL_acts_536
            · replace h := h.2 c61
              refine lv_iconst (v := (1 : Int32)) hx hb dL_acts_511 k_iconst_1 ?_
              refine lv_goto (tgt := 536) hx hb dL_acts_512 (by decide) ?_
              exact rz_g hx hb hr hlocks (Or.inr rfl) hP hS h (Nat.le_of_ble_eq_true rfl) (Nat.le_of_ble_eq_true rfl) dL_acts_536
    · replace h := h.2 c45
      refine lv_aload_n hx hb dL_acts_425 rfl (lv_at hl 1 rfl) ?_
      refine lv_iconst (v := (1 : Int32)) hx hb dL_acts_426 k_iconst_1 ?_
      refine rg_Vi (As := [.int (1 : Int32)]) (rest := []) ⟨hx, hb, hml, hown, hts⟩ (mX6_open l G j0a (1 : Int32) M43 _ hk_j0a h) (cwV 1 hts (gV_X6_open q_17_22) rfl rfl rfl hdV_X6_open ⟨Nat.le_of_ble_eq_true rfl, Nat.le_of_ble_eq_true rfl⟩) hK hP hS hk_j0a (by decide) cl_6 rfl hl.1 rfl (Nat.le_of_ble_eq_true rfl) dL_acts_427 ⟨Nat.zero_le _, Nat.zero_le _⟩ (fun r63 M62 H locs h hP hS => ?_)
      refine lv_ldc hx hb hown (hts _ q_12_16) dL_acts_430 ?_
      refine lv_icmp_ne (tgt := 439) hx hb dL_acts_432 (by decide) (fun c64 => ?_) (fun c64 => ?_)
      · replace h := h.1 c64
        refine lv_iconst (v := (0 : Int32)) hx hb dL_acts_439 k_iconst_0 ?_
        exact rz_g hx hb hr hlocks (Or.inl rfl) hP hS h (Nat.le_of_ble_eq_true rfl) (Nat.le_of_ble_eq_true rfl) dL_acts_440
      · replace h := h.2 c64
        refine lv_iconst (v := (1 : Int32)) hx hb dL_acts_435 k_iconst_1 ?_
        refine lv_goto (tgt := 440) hx hb dL_acts_436 (by decide) ?_
        exact rz_g hx hb hr hlocks (Or.inr rfl) hP hS h (Nat.le_of_ble_eq_true rfl) (Nat.le_of_ble_eq_true rfl) dL_acts_440
  replace h := h.2 c42
  refine lv_tableOut (tgt := 537) hx hb dL_acts_9 (by have gc3 := lv_neT c3 (show (0 : Int32).toInt = 0 from rfl); have gc9 := lv_neT c9 (show (1 : Int32).toInt = 1 from rfl); have gc17 := lv_neT c17 (show (2 : Int32).toInt = 2 from rfl); have gc40 := lv_neT c40 (show (3 : Int32).toInt = 3 from rfl); have gc41 := lv_neT c41 (show (4 : Int32).toInt = 4 from rfl); have gc42 := lv_neT c42 (show (5 : Int32).toInt = 5 from rfl); omega) (by decide) ?_
  refine lv_aload_n hx hb dL_acts_537 rfl (lv_at hl 1 rfl) ?_
  refine lv_iload_n hx hb dL_acts_538 rfl (lv_at hl 0 rfl) ?_
  refine lv_sipush (v := (300 : Int32)) hx hb dL_acts_539 k_sipush_300 ?_
  refine lv_irem hx hb dL_acts_542 (by decide) ?_
  refine rg_Sh (As := [.ref (G.2.1 + j0a), .int (x2_1 - x2_1 / (300 : Int32) * (300 : Int32))]) (rest := []) ⟨hx, hb, hml, hown, hts⟩ (mL_hour l G j0a (x2_1 - x2_1 / (300 : Int32) * (300 : Int32)) M _ hk_j0a h) (va_cwS 2 hts (gS_L_hour q_19_2) rfl rfl rfl hdS_L_hour ⟨Nat.le_of_ble_eq_true rfl, Nat.le_of_ble_eq_true rfl⟩) hK hP hS rfl hl.1 rfl (Nat.le_of_ble_eq_true rfl) dL_acts_543 ⟨Nat.le_of_ble_eq_true rfl, Nat.le_of_ble_eq_true rfl⟩ (fun r66 M65 H locs h hP hS => ?_)
  exact rz_g hx hb hr hlocks h.1 hP hS h.2 (Nat.le_of_ble_eq_true rfl) (Nat.le_of_ble_eq_true rfl) dL_acts_546
