/-! the law's method: printed by gen29.py -/
set_option maxHeartbeats 4000000 in
set_option maxRecDepth 100000 in
theorem mL_hour (l : Launch) (G : Gp) (j0a : Nat) (x1a : Int32) (M : Mm) (Post : Mm → Int32 → Prop) (hk_j0a : kd j0a = 6) (h : wL_hour Post M j0a x1a) : CtH l yL_hour wsL_hour rL_hour G [.ref (G.2.1 + j0a), .int x1a] M Post := by
  refine Met.ofW (cc := cL_hour) (maxL := 14) (ret := (some .boolean)) (by decide) rfl ?_
  intro p e s m args below meth c s₁ B hml hv
  obtain ⟨rfl, hK, hP⟩ := hv
  have hx := B.exec
  have hb := B.bytes
  have hr := B.returns
  have hlocks := B.notSynchronized
  have hts0 := atoms_spec (ws := wsL_hour) B.pre
  have hts : ∀ w ∈ wsL_law, w.before _ s = true := fun w hw => hts0 w (List.mem_cons_of_mem _ hw)
  have hown : s.vm.findClass RL = some m.cls := findClass_of_methodNamed B.named
  have hS : va_S (Fr0 G) s.heap s.heap [] := va_S.rf
  have hl := lv_entry ([.ref (G.2.1 + j0a), .int x1a]) (n := 14) (Nat.le_of_ble_eq_true rfl)
  rw [lg_entry_eq]
  generalize (lg_sl ([.ref (G.2.1 + j0a), .int x1a]) ++ List.replicate (14 - (lg_sl ([.ref (G.2.1 + j0a), .int x1a])).length) Slot.unset).toArray = ls at hl ⊢
  have hl : lv_has ls 14 [(0, .ref (G.2.1 + j0a)), (1, .int x1a)] := hl
  refine lv_bipush (v := (10 : Int32)) hx hb dL_hour_0 k_bipush_10 ?_
  refine rh_new0 hx hb hts q_2_13 hK hP hS (Nat.le_of_ble_eq_true rfl) (Nat.le_of_ble_eq_true rfl) dL_hour_2 (fun ja hja0 H hP hS => ?_)
  refine lv_astore_n (lv' := [(2, .ref (G.2.1 + ja)), (0, .ref (G.2.1 + j0a)), (1, .int x1a)]) hx hb dL_hour_4 rfl hl (by decide) rfl (fun ls hl => ?_)
  refine lv_bipush (v := (10 : Int32)) hx hb dL_hour_5 k_bipush_10 ?_
  refine rh_new1 hx hb hts q_2_13 hK hP hS (Nat.le_of_ble_eq_true rfl) (Nat.le_of_ble_eq_true rfl) dL_hour_7 (fun jb hjb0 H hP hS => ?_)
  refine lv_astore_n (lv' := [(3, .ref (G.2.1 + jb)), (2, .ref (G.2.1 + ja)), (0, .ref (G.2.1 + j0a)), (1, .int x1a)]) hx hb dL_hour_9 rfl hl (by decide) rfl (fun ls hl => ?_)
  have hja : ja ∈ [ja, jb] := List.mem_cons_self
  have hjb : jb ∈ [ja, jb] := List.mem_cons_of_mem _ List.mem_cons_self
  replace h := h ja jb hja0 hjb0
  obtain ⟨M0, eM0⟩ : ∃ M0, M0 = mz (mz M ja) jb := ⟨_, rfl⟩
  rw [← eM0] at hP h
  have B251 : ∀ (A187 : Mm → Nat → Int32 → Int32 → Int32 → Prop) (_ : ∀ (M : Mm) (j0 : Nat) (x4 : Int32) (x9 : Int32) (x10 : Int32) (H : Heap) (locs : List Loc) (ls : Array Slot), Rh G [ja, jb] M H → va_S (Fr0 G) s.heap H locs → lv_has ls 14 [(0, .ref (G.2.1 + j0)), (4, .int x4), (9, .int x9), (10, .int x10), (2, .ref (G.2.1 + ja)), (3, .ref (G.2.1 + jb))] → kd j0 = 6 → A187 M j0 x4 x9 x10 → Wh p l e (headSpec wsL_hour rL_hour).room s m [.ref (G.2.1 + j0a), .int x1a].toArray below meth c G Post H locs 2 20 (F0 m 187 ls [])), ∀ (A228 : Mm → Nat → Int32 → Int32 → Int32 → Int32 → Int32 → Prop) (_ : ∀ (M : Mm) (j0 : Nat) (x4 : Int32) (x10 : Int32) (x11 : Int32) (x12 : Int32) (x13 : Int32) (H : Heap) (locs : List Loc) (ls : Array Slot), Rh G [ja, jb] M H → va_S (Fr0 G) s.heap H locs → lv_has ls 14 [(0, .ref (G.2.1 + j0)), (4, .int x4), (10, .int x10), (11, .int x11), (12, .int x12), (13, .int x13), (2, .ref (G.2.1 + ja)), (3, .ref (G.2.1 + jb))] → kd j0 = 6 → A228 M j0 x4 x10 x11 x12 x13 → Wh p l e (headSpec wsL_hour rL_hour).room s m [.ref (G.2.1 + j0a), .int x1a].toArray below meth c G Post H locs 2 20 (F0 m 228 ls [])), ∀ (M : Mm) (j0 : Nat) (x4 : Int32) (x10 : Int32) (x11 : Int32) (x13 : Int32) (t0 : Int32) (t1 : Int32) (H : Heap) (locs : List Loc) (ls : Array Slot), Rh G [ja, jb] M H → va_S (Fr0 G) s.heap H locs → lv_has ls 14 [(0, .ref (G.2.1 + j0)), (4, .int x4), (10, .int x10), (11, .int x11), (13, .int x13), (2, .ref (G.2.1 + ja)), (3, .ref (G.2.1 + jb))] → kd j0 = 6 → bL_hour_251 ja jb Post A187 A228 M j0 x4 x10 x11 x13 t0 t1 → Wh p l e (headSpec wsL_hour rL_hour).room s m [.ref (G.2.1 + j0a), .int x1a].toArray below meth c G Post H locs 2 20 (F0 m 251 ls [.int t0, .int t1]) := by
    intro A187 hA187 A228 hA228 M j0 x4 x10 x11 x13 t0 t1 H locs ls hP hS hl hk_j0 h
    unfold bL_hour_251 at h
    refine lv_iand hx hb dL_hour_251 ?_
    refine lv_topi (fun x12_78 ex12_78 => ?_)
    replace h := h x12_78 ex12_78
    refine lv_istore (lv' := [(12, .int x12_78), (0, .ref (G.2.1 + j0)), (4, .int x4), (10, .int x10), (11, .int x11), (13, .int x13), (2, .ref (G.2.1 + ja)), (3, .ref (G.2.1 + jb))]) hx hb dL_hour_252 hl (by decide) rfl (fun ls hl => ?_)
    refine lv_aload_n hx hb dL_hour_254 rfl (lv_at hl 1 rfl) ?_
    refine lv_iload hx hb dL_hour_255 (lv_at hl 5 rfl) ?_
    refine lv_iconst (v := (0 : Int32)) hx hb dL_hour_257 k_iconst_0 ?_
    refine rh_Vi (As := [.int x13, .int (0 : Int32)]) (rest := []) ⟨hx, hb, hml, hown, hts⟩ (mX6_canalOf l G j0 x13 (0 : Int32) M _ hk_j0 h) (cwV 2 hts (gV_X6_canalOf q_8_12) rfl rfl rfl hdV_X6_canalOf ⟨Nat.le_of_ble_eq_true rfl, Nat.le_of_ble_eq_true rfl⟩) hK hP hS hk_j0 (by decide) cl_6 rfl hl.1 rfl (Nat.le_of_ble_eq_true rfl) dL_hour_258 ⟨Nat.le_refl _, Nat.le_refl _⟩ (fun r80 M79 H locs h hP hS => ?_)
    refine lv_istore (lv' := [(13, .int r80), (12, .int x12_78), (0, .ref (G.2.1 + j0)), (4, .int x4), (10, .int x10), (11, .int x11), (2, .ref (G.2.1 + ja)), (3, .ref (G.2.1 + jb))]) hx hb dL_hour_261 hl (by decide) rfl (fun ls hl => ?_)
    refine lv_goto (tgt := 228) hx hb dL_hour_263 (by decide) ?_
    exact hA228 _ _ _ _ _ _ _ _ _ _ hP hS (lv_sub hl [2, 3, 4, 5, 1, 0, 6, 7] rfl) hk_j0 h
  have B228 : ∀ (A187 : Mm → Nat → Int32 → Int32 → Int32 → Prop) (_ : ∀ (M : Mm) (j0 : Nat) (x4 : Int32) (x9 : Int32) (x10 : Int32) (H : Heap) (locs : List Loc) (ls : Array Slot), Rh G [ja, jb] M H → va_S (Fr0 G) s.heap H locs → lv_has ls 14 [(0, .ref (G.2.1 + j0)), (4, .int x4), (9, .int x9), (10, .int x10), (2, .ref (G.2.1 + ja)), (3, .ref (G.2.1 + jb))] → kd j0 = 6 → A187 M j0 x4 x9 x10 → Wh p l e (headSpec wsL_hour rL_hour).room s m [.ref (G.2.1 + j0a), .int x1a].toArray below meth c G Post H locs 2 20 (F0 m 187 ls [])), ∀ n : Nat, ∀ (M : Mm) (j0 : Nat) (x4 : Int32) (x10 : Int32) (x11 : Int32) (x12 : Int32) (x13 : Int32) (H : Heap) (locs : List Loc) (ls : Array Slot), Rh G [ja, jb] M H → va_S (Fr0 G) s.heap H locs → lv_has ls 14 [(0, .ref (G.2.1 + j0)), (4, .int x4), (10, .int x10), (11, .int x11), (12, .int x12), (13, .int x13), (2, .ref (G.2.1 + ja)), (3, .ref (G.2.1 + jb))] → kd j0 = 6 → lL_hour_228 ja jb Post A187 n M j0 x4 x10 x11 x12 x13 → Wh p l e (headSpec wsL_hour rL_hour).room s m [.ref (G.2.1 + j0a), .int x1a].toArray below meth c G Post H locs 2 20 (F0 m 228 ls []) := by
    intro A187 hA187 n
    induction n with
    | zero => intro M j0 x4 x10 x11 x12 x13 H locs ls hP hS hl hk_j0 h; exact h.elim
    | succ n ih =>
      intro M j0 x4 x10 x11 x12 x13 H locs ls hP hS hl hk_j0 h
      have hA228 := ih
      replace h : bL_hour_228 ja jb Post A187 (lL_hour_228 ja jb Post A187 n) M j0 x4 x10 x11 x12 x13 := h
      unfold bL_hour_228 at h
      refine lv_iload hx hb dL_hour_228 (lv_at hl 5 rfl) ?_
      refine lv_if_le (tgt := 266) hx hb dL_hour_230 (by decide) (fun c57 => ?_) (fun c57 => ?_)
      · replace h := h.1 c57
        refine lv_iload hx hb dL_hour_266 (lv_at hl 3 rfl) ?_
        refine lv_if_lt (tgt := 323) hx hb dL_hour_268 (by decide) (fun c58 => ?_) (fun c58 => ?_)
        · replace h := h.1 c58
          refine lv_iconst (v := (0 : Int32)) hx hb dL_hour_323 k_iconst_0 ?_
          refine lv_istore (lv' := [(9, .int (0 : Int32)), (0, .ref (G.2.1 + j0)), (4, .int x4), (10, .int x10), (11, .int x11), (12, .int x12), (13, .int x13), (2, .ref (G.2.1 + ja)), (3, .ref (G.2.1 + jb))]) hx hb dL_hour_324 hl (by decide) rfl (fun ls hl => ?_)
          obtain ⟨x10_59, ex10_59⟩ : ∃ y : Int32, y = x10 + (1 : Int32) := ⟨_, rfl⟩
          replace h := h x10_59 ex10_59
          refine lv_iinc (v := x10_59) (lv' := [(10, .int x10_59), (9, .int (0 : Int32)), (0, .ref (G.2.1 + j0)), (4, .int x4), (11, .int x11), (12, .int x12), (13, .int x13), (2, .ref (G.2.1 + ja)), (3, .ref (G.2.1 + jb))]) hx hb dL_hour_326 hl (k := 3) rfl (by rw [ex10_59]; rfl) (by decide) rfl (fun ls hl => ?_)
          refine lv_goto (tgt := 187) hx hb dL_hour_329 (by decide) ?_
          exact hA187 _ _ _ _ _ _ _ _ hP hS (lv_sub hl [2, 3, 1, 0, 7, 8] rfl) hk_j0 h
        · replace h := h.2 c58
          refine lv_iload hx hb dL_hour_271 (lv_at hl 3 rfl) ?_
          refine lv_aload_n hx hb dL_hour_273 rfl (lv_at hl 0 rfl) ?_
          refine lv_iload hx hb dL_hour_274 (lv_at hl 2 rfl) ?_
          refine lv_iconst (v := (2 : Int32)) hx hb dL_hour_276 k_iconst_2 ?_
          refine rh_Vi (As := [.int x10, .int (2 : Int32)]) (rest := [.int x11]) ⟨hx, hb, hml, hown, hts⟩ (mX6_fieldOf l G j0 x10 (2 : Int32) M _ hk_j0 h) (cwV 2 hts (gV_X6_fieldOf q_6_10) rfl rfl rfl hdV_X6_fieldOf ⟨Nat.le_of_ble_eq_true rfl, Nat.le_of_ble_eq_true rfl⟩) hK hP hS hk_j0 (by decide) cl_6 rfl hl.1 rfl (Nat.le_of_ble_eq_true rfl) dL_hour_277 ⟨Nat.le_refl _, Nat.le_refl _⟩ (fun r61 M60 H locs h hP hS => ?_)
          refine lv_icmp_gt (tgt := 323) hx hb dL_hour_280 (by decide) (fun c62 => ?_) (fun c62 => ?_)
          · replace h := h.1 c62
            refine lv_iconst (v := (0 : Int32)) hx hb dL_hour_323 k_iconst_0 ?_
            refine lv_istore (lv' := [(9, .int (0 : Int32)), (0, .ref (G.2.1 + j0)), (4, .int x4), (10, .int x10), (11, .int x11), (12, .int x12), (13, .int x13), (2, .ref (G.2.1 + ja)), (3, .ref (G.2.1 + jb))]) hx hb dL_hour_324 hl (by decide) rfl (fun ls hl => ?_)
            obtain ⟨x10_63, ex10_63⟩ : ∃ y : Int32, y = x10 + (1 : Int32) := ⟨_, rfl⟩
            replace h := h x10_63 ex10_63
            refine lv_iinc (v := x10_63) (lv' := [(10, .int x10_63), (9, .int (0 : Int32)), (0, .ref (G.2.1 + j0)), (4, .int x4), (11, .int x11), (12, .int x12), (13, .int x13), (2, .ref (G.2.1 + ja)), (3, .ref (G.2.1 + jb))]) hx hb dL_hour_326 hl (k := 3) rfl (by rw [ex10_63]; rfl) (by decide) rfl (fun ls hl => ?_)
            refine lv_goto (tgt := 187) hx hb dL_hour_329 (by decide) ?_
            exact hA187 _ _ _ _ _ _ _ _ hP hS (lv_sub hl [2, 3, 1, 0, 7, 8] rfl) hk_j0 h
          · replace h := h.2 c62
            refine lv_iload hx hb dL_hour_283 (lv_at hl 3 rfl) ?_
            refine lv_if_eq (tgt := 319) hx hb dL_hour_285 (by decide) (fun c64 => ?_) (fun c64 => ?_)
            · replace h := h.1 c64
              refine lv_iconst (v := (1 : Int32)) hx hb dL_hour_319 k_iconst_1 ?_
              refine lv_goto (tgt := 324) hx hb dL_hour_320 (by decide) ?_
              refine lv_istore (lv' := [(9, .int (1 : Int32)), (0, .ref (G.2.1 + j0)), (4, .int x4), (10, .int x10), (11, .int x11), (12, .int x12), (13, .int x13), (2, .ref (G.2.1 + ja)), (3, .ref (G.2.1 + jb))]) hx hb dL_hour_324 hl (by decide) rfl (fun ls hl => ?_)
              obtain ⟨x10_65, ex10_65⟩ : ∃ y : Int32, y = x10 + (1 : Int32) := ⟨_, rfl⟩
              replace h := h x10_65 ex10_65
              refine lv_iinc (v := x10_65) (lv' := [(10, .int x10_65), (9, .int (1 : Int32)), (0, .ref (G.2.1 + j0)), (4, .int x4), (11, .int x11), (12, .int x12), (13, .int x13), (2, .ref (G.2.1 + ja)), (3, .ref (G.2.1 + jb))]) hx hb dL_hour_326 hl (k := 3) rfl (by rw [ex10_65]; rfl) (by decide) rfl (fun ls hl => ?_)
              refine lv_goto (tgt := 187) hx hb dL_hour_329 (by decide) ?_
              exact hA187 _ _ _ _ _ _ _ _ hP hS (lv_sub hl [2, 3, 1, 0, 7, 8] rfl) hk_j0 h
            · replace h := h.2 c64
              refine lv_aload_n hx hb dL_hour_288 rfl (lv_at hl 7 rfl) ?_
              refine lv_iload hx hb dL_hour_289 (lv_at hl 2 rfl) ?_
              refine rh_iald hx hb hK hP hjb h.1 dL_hour_291 ?_
              replace h := h.2
              refine lv_iconst (v := (1 : Int32)) hx hb dL_hour_292 k_iconst_1 ?_
              refine lv_icmp_ne (tgt := 323) hx hb dL_hour_293 (by decide) (fun c66 => ?_) (fun c66 => ?_)
              · replace h := h.1 c66
                refine lv_iconst (v := (0 : Int32)) hx hb dL_hour_323 k_iconst_0 ?_
                refine lv_istore (lv' := [(9, .int (0 : Int32)), (0, .ref (G.2.1 + j0)), (4, .int x4), (10, .int x10), (11, .int x11), (12, .int x12), (13, .int x13), (2, .ref (G.2.1 + ja)), (3, .ref (G.2.1 + jb))]) hx hb dL_hour_324 hl (by decide) rfl (fun ls hl => ?_)
                obtain ⟨x10_67, ex10_67⟩ : ∃ y : Int32, y = x10 + (1 : Int32) := ⟨_, rfl⟩
                replace h := h x10_67 ex10_67
                refine lv_iinc (v := x10_67) (lv' := [(10, .int x10_67), (9, .int (0 : Int32)), (0, .ref (G.2.1 + j0)), (4, .int x4), (11, .int x11), (12, .int x12), (13, .int x13), (2, .ref (G.2.1 + ja)), (3, .ref (G.2.1 + jb))]) hx hb dL_hour_326 hl (k := 3) rfl (by rw [ex10_67]; rfl) (by decide) rfl (fun ls hl => ?_)
                refine lv_goto (tgt := 187) hx hb dL_hour_329 (by decide) ?_
                exact hA187 _ _ _ _ _ _ _ _ hP hS (lv_sub hl [2, 3, 1, 0, 7, 8] rfl) hk_j0 h
              · replace h := h.2 c66
                refine lv_iload hx hb dL_hour_296 (lv_at hl 4 rfl) ?_
                refine lv_if_eq (tgt := 323) hx hb dL_hour_298 (by decide) (fun c68 => ?_) (fun c68 => ?_)
                · replace h := h.1 c68
                  refine lv_iconst (v := (0 : Int32)) hx hb dL_hour_323 k_iconst_0 ?_
                  refine lv_istore (lv' := [(9, .int (0 : Int32)), (0, .ref (G.2.1 + j0)), (4, .int x4), (10, .int x10), (11, .int x11), (12, .int x12), (13, .int x13), (2, .ref (G.2.1 + ja)), (3, .ref (G.2.1 + jb))]) hx hb dL_hour_324 hl (by decide) rfl (fun ls hl => ?_)
                  obtain ⟨x10_69, ex10_69⟩ : ∃ y : Int32, y = x10 + (1 : Int32) := ⟨_, rfl⟩
                  replace h := h x10_69 ex10_69
                  refine lv_iinc (v := x10_69) (lv' := [(10, .int x10_69), (9, .int (0 : Int32)), (0, .ref (G.2.1 + j0)), (4, .int x4), (11, .int x11), (12, .int x12), (13, .int x13), (2, .ref (G.2.1 + ja)), (3, .ref (G.2.1 + jb))]) hx hb dL_hour_326 hl (k := 3) rfl (by rw [ex10_69]; rfl) (by decide) rfl (fun ls hl => ?_)
                  refine lv_goto (tgt := 187) hx hb dL_hour_329 (by decide) ?_
                  exact hA187 _ _ _ _ _ _ _ _ hP hS (lv_sub hl [2, 3, 1, 0, 7, 8] rfl) hk_j0 h
                · replace h := h.2 c68
                  refine lv_aload_n hx hb dL_hour_301 rfl (lv_at hl 0 rfl) ?_
                  refine lv_aload_n hx hb dL_hour_302 rfl (lv_at hl 0 rfl) ?_
                  refine lv_iload hx hb dL_hour_303 (lv_at hl 2 rfl) ?_
                  refine lv_iconst (v := (0 : Int32)) hx hb dL_hour_305 k_iconst_0 ?_
                  refine rh_Vi (As := [.int x10, .int (0 : Int32)]) (rest := [.ref (G.2.1 + j0)]) ⟨hx, hb, hml, hown, hts⟩ (mX6_fieldOf l G j0 x10 (0 : Int32) M60 _ hk_j0 h) (cwV 2 hts (gV_X6_fieldOf q_6_10) rfl rfl rfl hdV_X6_fieldOf ⟨Nat.le_of_ble_eq_true rfl, Nat.le_of_ble_eq_true rfl⟩) hK hP hS hk_j0 (by decide) cl_6 rfl hl.1 rfl (Nat.le_of_ble_eq_true rfl) dL_hour_306 ⟨Nat.le_refl _, Nat.le_refl _⟩ (fun r71 M70 H locs h hP hS => ?_)
                  refine lv_bipush (v := (7 : Int32)) hx hb dL_hour_309 k_bipush_7 ?_
                  refine rh_Vi (As := [.int r71, .int (7 : Int32)]) (rest := []) ⟨hx, hb, hml, hown, hts⟩ (mX6_canalOf l G j0 r71 (7 : Int32) M70 _ hk_j0 h) (cwV 2 hts (gV_X6_canalOf q_8_12) rfl rfl rfl hdV_X6_canalOf ⟨Nat.le_of_ble_eq_true rfl, Nat.le_of_ble_eq_true rfl⟩) hK hP hS hk_j0 (by decide) cl_6 rfl hl.1 rfl (Nat.le_of_ble_eq_true rfl) dL_hour_311 ⟨Nat.le_refl _, Nat.le_refl _⟩ (fun r73 M72 H locs h hP hS => ?_)
                  refine lv_iload hx hb dL_hour_314 (lv_at hl 3 rfl) ?_
                  refine lv_icmp_lt (tgt := 323) hx hb dL_hour_316 (by decide) (fun c74 => ?_) (fun c74 => ?_)
                  · replace h := h.1 c74
                    refine lv_iconst (v := (0 : Int32)) hx hb dL_hour_323 k_iconst_0 ?_
                    refine lv_istore (lv' := [(9, .int (0 : Int32)), (0, .ref (G.2.1 + j0)), (4, .int x4), (10, .int x10), (11, .int x11), (12, .int x12), (13, .int x13), (2, .ref (G.2.1 + ja)), (3, .ref (G.2.1 + jb))]) hx hb dL_hour_324 hl (by decide) rfl (fun ls hl => ?_)
                    obtain ⟨x10_75, ex10_75⟩ : ∃ y : Int32, y = x10 + (1 : Int32) := ⟨_, rfl⟩
                    replace h := h x10_75 ex10_75
                    refine lv_iinc (v := x10_75) (lv' := [(10, .int x10_75), (9, .int (0 : Int32)), (0, .ref (G.2.1 + j0)), (4, .int x4), (11, .int x11), (12, .int x12), (13, .int x13), (2, .ref (G.2.1 + ja)), (3, .ref (G.2.1 + jb))]) hx hb dL_hour_326 hl (k := 3) rfl (by rw [ex10_75]; rfl) (by decide) rfl (fun ls hl => ?_)
                    refine lv_goto (tgt := 187) hx hb dL_hour_329 (by decide) ?_
                    exact hA187 _ _ _ _ _ _ _ _ hP hS (lv_sub hl [2, 3, 1, 0, 7, 8] rfl) hk_j0 h
                  · replace h := h.2 c74
                    refine lv_iconst (v := (1 : Int32)) hx hb dL_hour_319 k_iconst_1 ?_
                    refine lv_goto (tgt := 324) hx hb dL_hour_320 (by decide) ?_
                    refine lv_istore (lv' := [(9, .int (1 : Int32)), (0, .ref (G.2.1 + j0)), (4, .int x4), (10, .int x10), (11, .int x11), (12, .int x12), (13, .int x13), (2, .ref (G.2.1 + ja)), (3, .ref (G.2.1 + jb))]) hx hb dL_hour_324 hl (by decide) rfl (fun ls hl => ?_)
                    obtain ⟨x10_76, ex10_76⟩ : ∃ y : Int32, y = x10 + (1 : Int32) := ⟨_, rfl⟩
                    replace h := h x10_76 ex10_76
                    refine lv_iinc (v := x10_76) (lv' := [(10, .int x10_76), (9, .int (1 : Int32)), (0, .ref (G.2.1 + j0)), (4, .int x4), (11, .int x11), (12, .int x12), (13, .int x13), (2, .ref (G.2.1 + ja)), (3, .ref (G.2.1 + jb))]) hx hb dL_hour_326 hl (k := 3) rfl (by rw [ex10_76]; rfl) (by decide) rfl (fun ls hl => ?_)
                    refine lv_goto (tgt := 187) hx hb dL_hour_329 (by decide) ?_
                    exact hA187 _ _ _ _ _ _ _ _ hP hS (lv_sub hl [2, 3, 1, 0, 7, 8] rfl) hk_j0 h
      · replace h := h.2 c57
        refine lv_iload hx hb dL_hour_233 (lv_at hl 4 rfl) ?_
        refine lv_iload hx hb dL_hour_235 (lv_at hl 1 rfl) ?_
        refine lv_iload hx hb dL_hour_237 (lv_at hl 5 rfl) ?_
        refine lv_ishr hx hb dL_hour_239 ?_
        refine lv_iconst (v := (1 : Int32)) hx hb dL_hour_240 k_iconst_1 ?_
        refine lv_iand hx hb dL_hour_241 ?_
        refine lv_iconst (v := (1 : Int32)) hx hb dL_hour_242 k_iconst_1 ?_
        refine lv_icmp_ne (tgt := 250) hx hb dL_hour_243 (by decide) (fun c77 => ?_) (fun c77 => ?_)
        · replace h := h.1 c77
          refine lv_iconst (v := (0 : Int32)) hx hb dL_hour_250 k_iconst_0 ?_
          exact B251 _ hA187 _ hA228 _ _ _ _ _ _ _ _ _ _ _ hP hS (lv_sub hl [0, 1, 2, 3, 5, 6, 7] rfl) hk_j0 h
        · replace h := h.2 c77
          refine lv_iconst (v := (1 : Int32)) hx hb dL_hour_246 k_iconst_1 ?_
          refine lv_goto (tgt := 251) hx hb dL_hour_247 (by decide) ?_
          exact B251 _ hA187 _ hA228 _ _ _ _ _ _ _ _ _ _ _ hP hS (lv_sub hl [0, 1, 2, 3, 5, 6, 7] rfl) hk_j0 h
  have B335 : ∀ n : Nat, ∀ (M : Mm) (j0 : Nat) (x4 : Int32) (x9 : Int32) (x10 : Int32) (H : Heap) (locs : List Loc) (ls : Array Slot), Rh G [ja, jb] M H → va_S (Fr0 G) s.heap H locs → lv_has ls 14 [(0, .ref (G.2.1 + j0)), (4, .int x4), (9, .int x9), (10, .int x10), (2, .ref (G.2.1 + ja)), (3, .ref (G.2.1 + jb))] → kd j0 = 6 → lL_hour_335 ja jb Post n M j0 x4 x9 x10 → Wh p l e (headSpec wsL_hour rL_hour).room s m [.ref (G.2.1 + j0a), .int x1a].toArray below meth c G Post H locs 2 20 (F0 m 335 ls []) := by
    intro n
    induction n with
    | zero => intro M j0 x4 x9 x10 H locs ls hP hS hl hk_j0 h; exact h.elim
    | succ n ih =>
      intro M j0 x4 x9 x10 H locs ls hP hS hl hk_j0 h
      have hA335 := ih
      replace h : bL_hour_335 ja jb Post (lL_hour_335 ja jb Post n) M j0 x4 x9 x10 := h
      unfold bL_hour_335 at h
      refine lv_iload hx hb dL_hour_335 (lv_at hl 3 rfl) ?_
      refine lv_aload_n hx hb dL_hour_337 rfl (lv_at hl 0 rfl) ?_
      refine lv_iconst (v := (0 : Int32)) hx hb dL_hour_338 k_iconst_0 ?_
      refine rh_Vi (As := [.int (0 : Int32)]) (rest := [.int x10]) ⟨hx, hb, hml, hown, hts⟩ (mX6_count l G j0 (0 : Int32) M _ hk_j0 h) (cwV 1 hts (gV_X6_count q_4_11) rfl rfl rfl hdV_X6_count ⟨Nat.le_of_ble_eq_true rfl, Nat.le_of_ble_eq_true rfl⟩) hK hP hS hk_j0 (by decide) cl_6 rfl hl.1 rfl (Nat.le_of_ble_eq_true rfl) dL_hour_339 ⟨Nat.le_refl _, Nat.le_refl _⟩ (fun r82 M81 H locs h hP hS => ?_)
      refine lv_icmp_ge (tgt := 409) hx hb dL_hour_342 (by decide) (fun c83 => ?_) (fun c83 => ?_)
      · replace h := h.1 c83
        refine lv_iload hx hb dL_hour_409 (lv_at hl 2 rfl) ?_
        exact rz_h hx hb hr hlocks h.1 hP hS h.2 (Nat.le_of_ble_eq_true rfl) (Nat.le_of_ble_eq_true rfl) dL_hour_411
      · replace h := h.2 c83
        refine lv_iload hx hb dL_hour_345 (lv_at hl 2 rfl) ?_
        refine lv_if_eq (tgt := 409) hx hb dL_hour_347 (by decide) (fun c84 => ?_) (fun c84 => ?_)
        · replace h := h.1 c84
          refine lv_iload hx hb dL_hour_409 (lv_at hl 2 rfl) ?_
          exact rz_h hx hb hr hlocks h.1 hP hS h.2 (Nat.le_of_ble_eq_true rfl) (Nat.le_of_ble_eq_true rfl) dL_hour_411
        · replace h := h.2 c84
          refine lv_aload_n hx hb dL_hour_350 rfl (lv_at hl 0 rfl) ?_
          refine lv_iload hx hb dL_hour_351 (lv_at hl 3 rfl) ?_
          refine lv_bipush (v := (7 : Int32)) hx hb dL_hour_353 k_bipush_7 ?_
          refine rh_Vi (As := [.int x10, .int (7 : Int32)]) (rest := []) ⟨hx, hb, hml, hown, hts⟩ (mX6_canalOf l G j0 x10 (7 : Int32) M81 _ hk_j0 h) (cwV 2 hts (gV_X6_canalOf q_8_12) rfl rfl rfl hdV_X6_canalOf ⟨Nat.le_of_ble_eq_true rfl, Nat.le_of_ble_eq_true rfl⟩) hK hP hS hk_j0 (by decide) cl_6 rfl hl.1 rfl (Nat.le_of_ble_eq_true rfl) dL_hour_355 ⟨Nat.le_refl _, Nat.le_refl _⟩ (fun r86 M85 H locs h hP hS => ?_)
          refine lv_if_eq (tgt := 396) hx hb dL_hour_358 (by decide) (fun c87 => ?_) (fun c87 => ?_)
          · replace h := h.1 c87
            refine lv_iconst (v := (1 : Int32)) hx hb dL_hour_396 k_iconst_1 ?_
            refine lv_goto (tgt := 401) hx hb dL_hour_397 (by decide) ?_
            refine lv_istore (lv' := [(9, .int (1 : Int32)), (0, .ref (G.2.1 + j0)), (4, .int x4), (10, .int x10), (2, .ref (G.2.1 + ja)), (3, .ref (G.2.1 + jb))]) hx hb dL_hour_401 hl (by decide) rfl (fun ls hl => ?_)
            obtain ⟨x10_88, ex10_88⟩ : ∃ y : Int32, y = x10 + (1 : Int32) := ⟨_, rfl⟩
            replace h := h x10_88 ex10_88
            refine lv_iinc (v := x10_88) (lv' := [(10, .int x10_88), (9, .int (1 : Int32)), (0, .ref (G.2.1 + j0)), (4, .int x4), (2, .ref (G.2.1 + ja)), (3, .ref (G.2.1 + jb))]) hx hb dL_hour_403 hl (k := 3) rfl (by rw [ex10_88]; rfl) (by decide) rfl (fun ls hl => ?_)
            refine lv_goto (tgt := 335) hx hb dL_hour_406 (by decide) ?_
            exact hA335 _ _ _ _ _ _ _ _ hP hS (lv_sub hl [2, 3, 1, 0, 4, 5] rfl) hk_j0 h
          · replace h := h.2 c87
            refine lv_iload hx hb dL_hour_361 (lv_at hl 1 rfl) ?_
            refine lv_iload hx hb dL_hour_363 (lv_at hl 3 rfl) ?_
            refine lv_ishr hx hb dL_hour_365 ?_
            refine lv_iconst (v := (1 : Int32)) hx hb dL_hour_366 k_iconst_1 ?_
            refine lv_iand hx hb dL_hour_367 ?_
            refine lv_iconst (v := (1 : Int32)) hx hb dL_hour_368 k_iconst_1 ?_
            refine lv_icmp_ne (tgt := 400) hx hb dL_hour_369 (by decide) (fun c89 => ?_) (fun c89 => ?_)
            · replace h := h.1 c89
              refine lv_iconst (v := (0 : Int32)) hx hb dL_hour_400 k_iconst_0 ?_
              refine lv_istore (lv' := [(9, .int (0 : Int32)), (0, .ref (G.2.1 + j0)), (4, .int x4), (10, .int x10), (2, .ref (G.2.1 + ja)), (3, .ref (G.2.1 + jb))]) hx hb dL_hour_401 hl (by decide) rfl (fun ls hl => ?_)
              obtain ⟨x10_90, ex10_90⟩ : ∃ y : Int32, y = x10 + (1 : Int32) := ⟨_, rfl⟩
              replace h := h x10_90 ex10_90
              refine lv_iinc (v := x10_90) (lv' := [(10, .int x10_90), (9, .int (0 : Int32)), (0, .ref (G.2.1 + j0)), (4, .int x4), (2, .ref (G.2.1 + ja)), (3, .ref (G.2.1 + jb))]) hx hb dL_hour_403 hl (k := 3) rfl (by rw [ex10_90]; rfl) (by decide) rfl (fun ls hl => ?_)
              refine lv_goto (tgt := 335) hx hb dL_hour_406 (by decide) ?_
              exact hA335 _ _ _ _ _ _ _ _ hP hS (lv_sub hl [2, 3, 1, 0, 4, 5] rfl) hk_j0 h
            · replace h := h.2 c89
              refine lv_aload_n hx hb dL_hour_372 rfl (lv_at hl 0 rfl) ?_
              refine lv_iload hx hb dL_hour_373 (lv_at hl 3 rfl) ?_
              refine lv_bipush (v := (7 : Int32)) hx hb dL_hour_375 k_bipush_7 ?_
              refine rh_Vi (As := [.int x10, .int (7 : Int32)]) (rest := []) ⟨hx, hb, hml, hown, hts⟩ (mX6_canalOf l G j0 x10 (7 : Int32) M85 _ hk_j0 h) (cwV 2 hts (gV_X6_canalOf q_8_12) rfl rfl rfl hdV_X6_canalOf ⟨Nat.le_of_ble_eq_true rfl, Nat.le_of_ble_eq_true rfl⟩) hK hP hS hk_j0 (by decide) cl_6 rfl hl.1 rfl (Nat.le_of_ble_eq_true rfl) dL_hour_377 ⟨Nat.le_refl _, Nat.le_refl _⟩ (fun r92 M91 H locs h hP hS => ?_)
              refine lv_aload_n hx hb dL_hour_380 rfl (lv_at hl 0 rfl) ?_
              refine lv_aload_n hx hb dL_hour_381 rfl (lv_at hl 0 rfl) ?_
              refine lv_iload hx hb dL_hour_382 (lv_at hl 3 rfl) ?_
              refine lv_iconst (v := (0 : Int32)) hx hb dL_hour_384 k_iconst_0 ?_
              refine rh_Vi (As := [.int x10, .int (0 : Int32)]) (rest := [.ref (G.2.1 + j0), .int r92]) ⟨hx, hb, hml, hown, hts⟩ (mX6_canalOf l G j0 x10 (0 : Int32) M91 _ hk_j0 h) (cwV 2 hts (gV_X6_canalOf q_8_12) rfl rfl rfl hdV_X6_canalOf ⟨Nat.le_of_ble_eq_true rfl, Nat.le_of_ble_eq_true rfl⟩) hK hP hS hk_j0 (by decide) cl_6 rfl hl.1 rfl (Nat.le_of_ble_eq_true rfl) dL_hour_385 ⟨Nat.le_refl _, Nat.le_refl _⟩ (fun r94 M93 H locs h hP hS => ?_)
              refine lv_bipush (v := (7 : Int32)) hx hb dL_hour_388 k_bipush_7 ?_
              refine rh_Vi (As := [.int r94, .int (7 : Int32)]) (rest := [.int r92]) ⟨hx, hb, hml, hown, hts⟩ (mX6_canalOf l G j0 r94 (7 : Int32) M93 _ hk_j0 h) (cwV 2 hts (gV_X6_canalOf q_8_12) rfl rfl rfl hdV_X6_canalOf ⟨Nat.le_of_ble_eq_true rfl, Nat.le_of_ble_eq_true rfl⟩) hK hP hS hk_j0 (by decide) cl_6 rfl hl.1 rfl (Nat.le_of_ble_eq_true rfl) dL_hour_390 ⟨Nat.le_refl _, Nat.le_refl _⟩ (fun r96 M95 H locs h hP hS => ?_)
              refine lv_icmp_gt (tgt := 400) hx hb dL_hour_393 (by decide) (fun c97 => ?_) (fun c97 => ?_)
              · replace h := h.1 c97
                refine lv_iconst (v := (0 : Int32)) hx hb dL_hour_400 k_iconst_0 ?_
                refine lv_istore (lv' := [(9, .int (0 : Int32)), (0, .ref (G.2.1 + j0)), (4, .int x4), (10, .int x10), (2, .ref (G.2.1 + ja)), (3, .ref (G.2.1 + jb))]) hx hb dL_hour_401 hl (by decide) rfl (fun ls hl => ?_)
                obtain ⟨x10_98, ex10_98⟩ : ∃ y : Int32, y = x10 + (1 : Int32) := ⟨_, rfl⟩
                replace h := h x10_98 ex10_98
                refine lv_iinc (v := x10_98) (lv' := [(10, .int x10_98), (9, .int (0 : Int32)), (0, .ref (G.2.1 + j0)), (4, .int x4), (2, .ref (G.2.1 + ja)), (3, .ref (G.2.1 + jb))]) hx hb dL_hour_403 hl (k := 3) rfl (by rw [ex10_98]; rfl) (by decide) rfl (fun ls hl => ?_)
                refine lv_goto (tgt := 335) hx hb dL_hour_406 (by decide) ?_
                exact hA335 _ _ _ _ _ _ _ _ hP hS (lv_sub hl [2, 3, 1, 0, 4, 5] rfl) hk_j0 h
              · replace h := h.2 c97
                refine lv_iconst (v := (1 : Int32)) hx hb dL_hour_396 k_iconst_1 ?_
                refine lv_goto (tgt := 401) hx hb dL_hour_397 (by decide) ?_
                refine lv_istore (lv' := [(9, .int (1 : Int32)), (0, .ref (G.2.1 + j0)), (4, .int x4), (10, .int x10), (2, .ref (G.2.1 + ja)), (3, .ref (G.2.1 + jb))]) hx hb dL_hour_401 hl (by decide) rfl (fun ls hl => ?_)
                obtain ⟨x10_99, ex10_99⟩ : ∃ y : Int32, y = x10 + (1 : Int32) := ⟨_, rfl⟩
                replace h := h x10_99 ex10_99
                refine lv_iinc (v := x10_99) (lv' := [(10, .int x10_99), (9, .int (1 : Int32)), (0, .ref (G.2.1 + j0)), (4, .int x4), (2, .ref (G.2.1 + ja)), (3, .ref (G.2.1 + jb))]) hx hb dL_hour_403 hl (k := 3) rfl (by rw [ex10_99]; rfl) (by decide) rfl (fun ls hl => ?_)
                refine lv_goto (tgt := 335) hx hb dL_hour_406 (by decide) ?_
                exact hA335 _ _ _ _ _ _ _ _ hP hS (lv_sub hl [2, 3, 1, 0, 4, 5] rfl) hk_j0 h
  have B187 : ∀ n : Nat, ∀ (M : Mm) (j0 : Nat) (x4 : Int32) (x9 : Int32) (x10 : Int32) (H : Heap) (locs : List Loc) (ls : Array Slot), Rh G [ja, jb] M H → va_S (Fr0 G) s.heap H locs → lv_has ls 14 [(0, .ref (G.2.1 + j0)), (4, .int x4), (9, .int x9), (10, .int x10), (2, .ref (G.2.1 + ja)), (3, .ref (G.2.1 + jb))] → kd j0 = 6 → lL_hour_187 ja jb Post n M j0 x4 x9 x10 → Wh p l e (headSpec wsL_hour rL_hour).room s m [.ref (G.2.1 + j0a), .int x1a].toArray below meth c G Post H locs 2 20 (F0 m 187 ls []) := by
    intro n
    induction n with
    | zero => intro M j0 x4 x9 x10 H locs ls hP hS hl hk_j0 h; exact h.elim
    | succ n ih =>
      intro M j0 x4 x9 x10 H locs ls hP hS hl hk_j0 h
      have hA187 := ih
      replace h : bL_hour_187 ja jb Post (lL_hour_187 ja jb Post n) M j0 x4 x9 x10 := h
      unfold bL_hour_187 at h
      refine lv_iload hx hb dL_hour_187 (lv_at hl 3 rfl) ?_
      refine lv_aload_n hx hb dL_hour_189 rfl (lv_at hl 0 rfl) ?_
      refine lv_iconst (v := (1 : Int32)) hx hb dL_hour_190 k_iconst_1 ?_
      refine rh_Vi (As := [.int (1 : Int32)]) (rest := [.int x10]) ⟨hx, hb, hml, hown, hts⟩ (mX6_count l G j0 (1 : Int32) M _ hk_j0 h) (cwV 1 hts (gV_X6_count q_4_11) rfl rfl rfl hdV_X6_count ⟨Nat.le_of_ble_eq_true rfl, Nat.le_of_ble_eq_true rfl⟩) hK hP hS hk_j0 (by decide) cl_6 rfl hl.1 rfl (Nat.le_of_ble_eq_true rfl) dL_hour_191 ⟨Nat.le_refl _, Nat.le_refl _⟩ (fun r46 M45 H locs h hP hS => ?_)
      refine lv_icmp_ge (tgt := 332) hx hb dL_hour_194 (by decide) (fun c47 => ?_) (fun c47 => ?_)
      · replace h := h.1 c47
        refine lv_iconst (v := (1 : Int32)) hx hb dL_hour_332 k_iconst_1 ?_
        refine lv_istore (lv' := [(10, .int (1 : Int32)), (0, .ref (G.2.1 + j0)), (4, .int x4), (9, .int x9), (2, .ref (G.2.1 + ja)), (3, .ref (G.2.1 + jb))]) hx hb dL_hour_333 hl (by decide) rfl (fun ls hl => ?_)
        obtain ⟨n48, h⟩ := h
        exact B335 _ _ _ _ _ _ _ _ _ hP hS (lv_sub hl [1, 2, 3, 0, 4, 5] rfl) hk_j0 h
      · replace h := h.2 c47
        refine lv_iload hx hb dL_hour_197 (lv_at hl 2 rfl) ?_
        refine lv_if_eq (tgt := 332) hx hb dL_hour_199 (by decide) (fun c49 => ?_) (fun c49 => ?_)
        · replace h := h.1 c49
          refine lv_iconst (v := (1 : Int32)) hx hb dL_hour_332 k_iconst_1 ?_
          refine lv_istore (lv' := [(10, .int (1 : Int32)), (0, .ref (G.2.1 + j0)), (4, .int x4), (9, .int x9), (2, .ref (G.2.1 + ja)), (3, .ref (G.2.1 + jb))]) hx hb dL_hour_333 hl (by decide) rfl (fun ls hl => ?_)
          obtain ⟨n50, h⟩ := h
          exact B335 _ _ _ _ _ _ _ _ _ hP hS (lv_sub hl [1, 2, 3, 0, 4, 5] rfl) hk_j0 h
        · replace h := h.2 c49
          refine lv_aload_n hx hb dL_hour_202 rfl (lv_at hl 0 rfl) ?_
          refine lv_iload hx hb dL_hour_203 (lv_at hl 3 rfl) ?_
          refine lv_iconst (v := (4 : Int32)) hx hb dL_hour_205 k_iconst_4 ?_
          refine rh_Vi (As := [.int x10, .int (4 : Int32)]) (rest := []) ⟨hx, hb, hml, hown, hts⟩ (mX6_fieldOf l G j0 x10 (4 : Int32) M45 _ hk_j0 h) (cwV 2 hts (gV_X6_fieldOf q_6_10) rfl rfl rfl hdV_X6_fieldOf ⟨Nat.le_of_ble_eq_true rfl, Nat.le_of_ble_eq_true rfl⟩) hK hP hS hk_j0 (by decide) cl_6 rfl hl.1 rfl (Nat.le_of_ble_eq_true rfl) dL_hour_206 ⟨Nat.le_refl _, Nat.le_refl _⟩ (fun r52 M51 H locs h hP hS => ?_)
          refine lv_aload_n hx hb dL_hour_209 rfl (lv_at hl 4 rfl) ?_
          refine lv_iload hx hb dL_hour_210 (lv_at hl 3 rfl) ?_
          refine rh_iald hx hb hK hP hja h.1 dL_hour_212 ?_
          replace h := h.2
          refine lv_isub hx hb dL_hour_213 ?_
          refine lv_topi (fun x11_53 ex11_53 => ?_)
          replace h := h x11_53 ex11_53
          refine lv_istore (lv' := [(11, .int x11_53), (0, .ref (G.2.1 + j0)), (4, .int x4), (9, .int x9), (10, .int x10), (2, .ref (G.2.1 + ja)), (3, .ref (G.2.1 + jb))]) hx hb dL_hour_214 hl (by decide) rfl (fun ls hl => ?_)
          refine lv_iconst (v := (1 : Int32)) hx hb dL_hour_216 k_iconst_1 ?_
          refine lv_istore (lv' := [(12, .int (1 : Int32)), (11, .int x11_53), (0, .ref (G.2.1 + j0)), (4, .int x4), (9, .int x9), (10, .int x10), (2, .ref (G.2.1 + ja)), (3, .ref (G.2.1 + jb))]) hx hb dL_hour_217 hl (by decide) rfl (fun ls hl => ?_)
          refine lv_aload_n hx hb dL_hour_219 rfl (lv_at hl 2 rfl) ?_
          refine lv_iload hx hb dL_hour_220 (lv_at hl 5 rfl) ?_
          refine lv_iconst (v := (0 : Int32)) hx hb dL_hour_222 k_iconst_0 ?_
          refine rh_Vi (As := [.int x10, .int (0 : Int32)]) (rest := []) ⟨hx, hb, hml, hown, hts⟩ (mX6_fieldOf l G j0 x10 (0 : Int32) M51 _ hk_j0 h) (cwV 2 hts (gV_X6_fieldOf q_6_10) rfl rfl rfl hdV_X6_fieldOf ⟨Nat.le_of_ble_eq_true rfl, Nat.le_of_ble_eq_true rfl⟩) hK hP hS hk_j0 (by decide) cl_6 rfl hl.1 rfl (Nat.le_of_ble_eq_true rfl) dL_hour_223 ⟨Nat.le_refl _, Nat.le_refl _⟩ (fun r55 M54 H locs h hP hS => ?_)
          refine lv_istore (lv' := [(13, .int r55), (12, .int (1 : Int32)), (11, .int x11_53), (0, .ref (G.2.1 + j0)), (4, .int x4), (9, .int x9), (10, .int x10), (2, .ref (G.2.1 + ja)), (3, .ref (G.2.1 + jb))]) hx hb dL_hour_226 hl (by decide) rfl (fun ls hl => ?_)
          obtain ⟨n56, h⟩ := h
          exact B228 _ hA187 _ _ _ _ _ _ _ _ _ _ _ hP hS (lv_sub hl [3, 4, 6, 2, 1, 0, 7, 8] rfl) hk_j0 h
  have B174 : ∀ (M : Mm) (j0 : Nat) (x4 : Int32) (t0 : Int32) (t1 : Int32) (H : Heap) (locs : List Loc) (ls : Array Slot), Rh G [ja, jb] M H → va_S (Fr0 G) s.heap H locs → lv_has ls 14 [(0, .ref (G.2.1 + j0)), (4, .int x4), (2, .ref (G.2.1 + ja)), (3, .ref (G.2.1 + jb))] → kd j0 = 6 → bL_hour_174 ja jb Post M j0 x4 t0 t1 → Wh p l e (headSpec wsL_hour rL_hour).room s m [.ref (G.2.1 + j0a), .int x1a].toArray below meth c G Post H locs 2 20 (F0 m 174 ls [.int t0, .int t1]) := by
    intro M j0 x4 t0 t1 H locs ls hP hS hl hk_j0 h
    unfold bL_hour_174 at h
    refine lv_icmp_ne (tgt := 181) hx hb dL_hour_174 (by decide) (fun c42 => ?_) (fun c42 => ?_)
    · replace h := h.1 c42
      refine lv_iconst (v := (0 : Int32)) hx hb dL_hour_181 k_iconst_0 ?_
      refine lv_istore (lv' := [(9, .int (0 : Int32)), (0, .ref (G.2.1 + j0)), (4, .int x4), (2, .ref (G.2.1 + ja)), (3, .ref (G.2.1 + jb))]) hx hb dL_hour_182 hl (by decide) rfl (fun ls hl => ?_)
      refine lv_iconst (v := (0 : Int32)) hx hb dL_hour_184 k_iconst_0 ?_
      refine lv_istore (lv' := [(10, .int (0 : Int32)), (9, .int (0 : Int32)), (0, .ref (G.2.1 + j0)), (4, .int x4), (2, .ref (G.2.1 + ja)), (3, .ref (G.2.1 + jb))]) hx hb dL_hour_185 hl (by decide) rfl (fun ls hl => ?_)
      obtain ⟨n43, h⟩ := h
      exact B187 _ _ _ _ _ _ _ _ _ hP hS (lv_sub hl [2, 3, 1, 0, 4, 5] rfl) hk_j0 h
    · replace h := h.2 c42
      refine lv_iconst (v := (1 : Int32)) hx hb dL_hour_177 k_iconst_1 ?_
      refine lv_goto (tgt := 182) hx hb dL_hour_178 (by decide) ?_
      refine lv_istore (lv' := [(9, .int (1 : Int32)), (0, .ref (G.2.1 + j0)), (4, .int x4), (2, .ref (G.2.1 + ja)), (3, .ref (G.2.1 + jb))]) hx hb dL_hour_182 hl (by decide) rfl (fun ls hl => ?_)
      refine lv_iconst (v := (0 : Int32)) hx hb dL_hour_184 k_iconst_0 ?_
      refine lv_istore (lv' := [(10, .int (0 : Int32)), (9, .int (1 : Int32)), (0, .ref (G.2.1 + j0)), (4, .int x4), (2, .ref (G.2.1 + ja)), (3, .ref (G.2.1 + jb))]) hx hb dL_hour_185 hl (by decide) rfl (fun ls hl => ?_)
      obtain ⟨n44, h⟩ := h
      exact B187 _ _ _ _ _ _ _ _ _ hP hS (lv_sub hl [2, 3, 1, 0, 4, 5] rfl) hk_j0 h
  have B139 : ∀ (M : Mm) (j0 : Nat) (x1 : Int32) (x4 : Int32) (t0 : Int32) (t1 : Int32) (t2 : Int32) (H : Heap) (locs : List Loc) (ls : Array Slot), Rh G [ja, jb] M H → va_S (Fr0 G) s.heap H locs → lv_has ls 14 [(0, .ref (G.2.1 + j0)), (1, .int x1), (4, .int x4), (2, .ref (G.2.1 + ja)), (3, .ref (G.2.1 + jb))] → kd j0 = 6 → bL_hour_139 ja jb Post M j0 x1 x4 t0 t1 t2 → Wh p l e (headSpec wsL_hour rL_hour).room s m [.ref (G.2.1 + j0a), .int x1a].toArray below meth c G Post H locs 2 20 (F0 m 139 ls [.int t0, .int t1, .int t2]) := by
    intro M j0 x1 x4 t0 t1 t2 H locs ls hP hS hl hk_j0 h
    unfold bL_hour_139 at h
    refine lv_iadd hx hb dL_hour_139 ?_
    refine lv_icmp_ne (tgt := 181) hx hb dL_hour_140 (by decide) (fun c33 => ?_) (fun c33 => ?_)
    · replace h := h.1 c33
      refine lv_iconst (v := (0 : Int32)) hx hb dL_hour_181 k_iconst_0 ?_
      refine lv_istore (lv' := [(9, .int (0 : Int32)), (0, .ref (G.2.1 + j0)), (1, .int x1), (4, .int x4), (2, .ref (G.2.1 + ja)), (3, .ref (G.2.1 + jb))]) hx hb dL_hour_182 hl (by decide) rfl (fun ls hl => ?_)
      refine lv_iconst (v := (0 : Int32)) hx hb dL_hour_184 k_iconst_0 ?_
      refine lv_istore (lv' := [(10, .int (0 : Int32)), (9, .int (0 : Int32)), (0, .ref (G.2.1 + j0)), (1, .int x1), (4, .int x4), (2, .ref (G.2.1 + ja)), (3, .ref (G.2.1 + jb))]) hx hb dL_hour_185 hl (by decide) rfl (fun ls hl => ?_)
      obtain ⟨n34, h⟩ := h
      exact B187 _ _ _ _ _ _ _ _ _ hP hS (lv_sub hl [2, 4, 1, 0, 5, 6] rfl) hk_j0 h
    · replace h := h.2 c33
      refine lv_aload_n hx hb dL_hour_143 rfl (lv_at hl 0 rfl) ?_
      refine lv_iconst (v := (4 : Int32)) hx hb dL_hour_144 k_iconst_4 ?_
      refine rh_Vi (As := [.int (4 : Int32)]) (rest := []) ⟨hx, hb, hml, hown, hts⟩ (mX6_count l G j0 (4 : Int32) M _ hk_j0 h) (cwV 1 hts (gV_X6_count q_4_11) rfl rfl rfl hdV_X6_count ⟨Nat.le_of_ble_eq_true rfl, Nat.le_of_ble_eq_true rfl⟩) hK hP hS hk_j0 (by decide) cl_6 rfl hl.1 rfl (Nat.le_of_ble_eq_true rfl) dL_hour_145 ⟨Nat.le_refl _, Nat.le_refl _⟩ (fun r36 M35 H locs h hP hS => ?_)
      refine lv_iload hx hb dL_hour_148 (lv_at hl 2 rfl) ?_
      refine lv_icmp_ne (tgt := 181) hx hb dL_hour_150 (by decide) (fun c37 => ?_) (fun c37 => ?_)
      · replace h := h.1 c37
        refine lv_iconst (v := (0 : Int32)) hx hb dL_hour_181 k_iconst_0 ?_
        refine lv_istore (lv' := [(9, .int (0 : Int32)), (0, .ref (G.2.1 + j0)), (1, .int x1), (4, .int x4), (2, .ref (G.2.1 + ja)), (3, .ref (G.2.1 + jb))]) hx hb dL_hour_182 hl (by decide) rfl (fun ls hl => ?_)
        refine lv_iconst (v := (0 : Int32)) hx hb dL_hour_184 k_iconst_0 ?_
        refine lv_istore (lv' := [(10, .int (0 : Int32)), (9, .int (0 : Int32)), (0, .ref (G.2.1 + j0)), (1, .int x1), (4, .int x4), (2, .ref (G.2.1 + ja)), (3, .ref (G.2.1 + jb))]) hx hb dL_hour_185 hl (by decide) rfl (fun ls hl => ?_)
        obtain ⟨n38, h⟩ := h
        exact B187 _ _ _ _ _ _ _ _ _ hP hS (lv_sub hl [2, 4, 1, 0, 5, 6] rfl) hk_j0 h
      · replace h := h.2 c37
        refine lv_aload_n hx hb dL_hour_153 rfl (lv_at hl 0 rfl) ?_
        refine lv_iconst (v := (0 : Int32)) hx hb dL_hour_154 k_iconst_0 ?_
        refine lv_bipush (v := (7 : Int32)) hx hb dL_hour_155 k_bipush_7 ?_
        refine rh_Vi (As := [.int (0 : Int32), .int (7 : Int32)]) (rest := []) ⟨hx, hb, hml, hown, hts⟩ (mX6_canalOf l G j0 (0 : Int32) (7 : Int32) M35 _ hk_j0 h) (cwV 2 hts (gV_X6_canalOf q_8_12) rfl rfl rfl hdV_X6_canalOf ⟨Nat.le_of_ble_eq_true rfl, Nat.le_of_ble_eq_true rfl⟩) hK hP hS hk_j0 (by decide) cl_6 rfl hl.1 rfl (Nat.le_of_ble_eq_true rfl) dL_hour_157 ⟨Nat.le_refl _, Nat.le_refl _⟩ (fun r40 M39 H locs h hP hS => ?_)
        refine lv_iload_n hx hb dL_hour_160 rfl (lv_at hl 1 rfl) ?_
        refine lv_sipush (v := (200 : Int32)) hx hb dL_hour_161 k_sipush_200 ?_
        refine lv_icmp_ge (tgt := 171) hx hb dL_hour_164 (by decide) (fun c41 => ?_) (fun c41 => ?_)
        · replace h := h.1 c41
          refine lv_sipush (v := (200 : Int32)) hx hb dL_hour_171 k_sipush_200 ?_
          exact B174 _ _ _ _ _ _ _ _ hP hS (lv_sub hl [0, 2, 3, 4] rfl) hk_j0 h
        · replace h := h.2 c41
          refine lv_iload_n hx hb dL_hour_167 rfl (lv_at hl 1 rfl) ?_
          refine lv_goto (tgt := 174) hx hb dL_hour_168 (by decide) ?_
          exact B174 _ _ _ _ _ _ _ _ hP hS (lv_sub hl [0, 2, 3, 4] rfl) hk_j0 h
  have B44 : ∀ n : Nat, ∀ (M : Mm) (j0 : Nat) (x1 : Int32) (x4 : Int32) (x5 : Int32) (x6 : Int32) (x7 : Int32) (x8 : Int32) (H : Heap) (locs : List Loc) (ls : Array Slot), Rh G [ja, jb] M H → va_S (Fr0 G) s.heap H locs → lv_has ls 14 [(0, .ref (G.2.1 + j0)), (1, .int x1), (4, .int x4), (5, .int x5), (6, .int x6), (7, .int x7), (8, .int x8), (2, .ref (G.2.1 + ja)), (3, .ref (G.2.1 + jb))] → kd j0 = 6 → lL_hour_44 ja jb Post n M j0 x1 x4 x5 x6 x7 x8 → Wh p l e (headSpec wsL_hour rL_hour).room s m [.ref (G.2.1 + j0a), .int x1a].toArray below meth c G Post H locs 2 20 (F0 m 44 ls []) := by
    intro n
    induction n with
    | zero => intro M j0 x1 x4 x5 x6 x7 x8 H locs ls hP hS hl hk_j0 h; exact h.elim
    | succ n ih =>
      intro M j0 x1 x4 x5 x6 x7 x8 H locs ls hP hS hl hk_j0 h
      have hA44 := ih
      replace h : bL_hour_44 ja jb Post (lL_hour_44 ja jb Post n) M j0 x1 x4 x5 x6 x7 x8 := h
      unfold bL_hour_44 at h
      refine lv_iload hx hb dL_hour_44 (lv_at hl 6 rfl) ?_
      refine lv_aload_n hx hb dL_hour_46 rfl (lv_at hl 0 rfl) ?_
      refine lv_iconst (v := (1 : Int32)) hx hb dL_hour_47 k_iconst_1 ?_
      refine rh_Vi (As := [.int (1 : Int32)]) (rest := [.int x8]) ⟨hx, hb, hml, hown, hts⟩ (mX6_count l G j0 (1 : Int32) M _ hk_j0 h) (cwV 1 hts (gV_X6_count q_4_11) rfl rfl rfl hdV_X6_count ⟨Nat.le_of_ble_eq_true rfl, Nat.le_of_ble_eq_true rfl⟩) hK hP hS hk_j0 (by decide) cl_6 rfl hl.1 rfl (Nat.le_of_ble_eq_true rfl) dL_hour_48 ⟨Nat.le_refl _, Nat.le_refl _⟩ (fun r11 M10 H locs h hP hS => ?_)
      refine lv_icmp_ge (tgt := 83) hx hb dL_hour_51 (by decide) (fun c12 => ?_) (fun c12 => ?_)
      · replace h := h.1 c12
        refine lv_aload_n hx hb dL_hour_83 rfl (lv_at hl 0 rfl) ?_
        refine lv_iload_n hx hb dL_hour_84 rfl (lv_at hl 1 rfl) ?_
        refine rh_Vi (As := [.int x1]) (rest := []) ⟨hx, hb, hml, hown, hts⟩ (mX6_hour l G j0 x1 M10 _ hk_j0 h) (cwV 1 hts (gV_X6_hour q_19_5) rfl rfl rfl hdV_X6_hour ⟨Nat.le_of_ble_eq_true rfl, Nat.le_of_ble_eq_true rfl⟩) hK hP hS hk_j0 (by decide) cl_6 rfl hl.1 rfl (Nat.le_of_ble_eq_true rfl) dL_hour_85 ⟨Nat.le_refl _, Nat.le_refl _⟩ (fun r14 M13 H locs h hP hS => ?_)
        refine lv_istore (lv' := [(8, .int r14), (0, .ref (G.2.1 + j0)), (1, .int x1), (4, .int x4), (5, .int x5), (6, .int x6), (7, .int x7), (2, .ref (G.2.1 + ja)), (3, .ref (G.2.1 + jb))]) hx hb dL_hour_88 hl (by decide) rfl (fun ls hl => ?_)
        refine lv_iload hx hb dL_hour_90 (lv_at hl 0 rfl) ?_
        refine lv_aload_n hx hb dL_hour_92 rfl (lv_at hl 1 rfl) ?_
        refine lv_bipush (v := (8 : Int32)) hx hb dL_hour_93 k_bipush_8 ?_
        refine rh_Vi (As := [.int (8 : Int32)]) (rest := [.int r14]) ⟨hx, hb, hml, hown, hts⟩ (mX6_count l G j0 (8 : Int32) M13 _ hk_j0 h) (cwV 1 hts (gV_X6_count q_4_11) rfl rfl rfl hdV_X6_count ⟨Nat.le_of_ble_eq_true rfl, Nat.le_of_ble_eq_true rfl⟩) hK hP hS hk_j0 (by decide) cl_6 rfl hl.1 rfl (Nat.le_of_ble_eq_true rfl) dL_hour_95 ⟨Nat.le_refl _, Nat.le_refl _⟩ (fun r16 M15 H locs h hP hS => ?_)
        refine lv_iload hx hb dL_hour_98 (lv_at hl 6 rfl) ?_
        refine lv_isub hx hb dL_hour_100 ?_
        refine lv_icmp_ne (tgt := 181) hx hb dL_hour_101 (by decide) (fun c17 => ?_) (fun c17 => ?_)
        · replace h := h.1 c17
          refine lv_iconst (v := (0 : Int32)) hx hb dL_hour_181 k_iconst_0 ?_
          refine lv_istore (lv' := [(9, .int (0 : Int32)), (8, .int r14), (0, .ref (G.2.1 + j0)), (1, .int x1), (4, .int x4), (5, .int x5), (6, .int x6), (7, .int x7), (2, .ref (G.2.1 + ja)), (3, .ref (G.2.1 + jb))]) hx hb dL_hour_182 hl (by decide) rfl (fun ls hl => ?_)
          refine lv_iconst (v := (0 : Int32)) hx hb dL_hour_184 k_iconst_0 ?_
          refine lv_istore (lv' := [(10, .int (0 : Int32)), (9, .int (0 : Int32)), (8, .int r14), (0, .ref (G.2.1 + j0)), (1, .int x1), (4, .int x4), (5, .int x5), (6, .int x6), (7, .int x7), (2, .ref (G.2.1 + ja)), (3, .ref (G.2.1 + jb))]) hx hb dL_hour_185 hl (by decide) rfl (fun ls hl => ?_)
          obtain ⟨n18, h⟩ := h
          exact B187 _ _ _ _ _ _ _ _ _ hP hS (lv_sub hl [3, 5, 1, 0, 9, 10] rfl) hk_j0 h
        · replace h := h.2 c17
          refine lv_aload_n hx hb dL_hour_104 rfl (lv_at hl 1 rfl) ?_
          refine lv_bipush (v := (6 : Int32)) hx hb dL_hour_105 k_bipush_6 ?_
          refine rh_Vi (As := [.int (6 : Int32)]) (rest := []) ⟨hx, hb, hml, hown, hts⟩ (mX6_count l G j0 (6 : Int32) M15 _ hk_j0 h) (cwV 1 hts (gV_X6_count q_4_11) rfl rfl rfl hdV_X6_count ⟨Nat.le_of_ble_eq_true rfl, Nat.le_of_ble_eq_true rfl⟩) hK hP hS hk_j0 (by decide) cl_6 rfl hl.1 rfl (Nat.le_of_ble_eq_true rfl) dL_hour_107 ⟨Nat.le_refl _, Nat.le_refl _⟩ (fun r20 M19 H locs h hP hS => ?_)
          refine lv_iload hx hb dL_hour_110 (lv_at hl 4 rfl) ?_
          refine lv_iconst (v := (1 : Int32)) hx hb dL_hour_112 k_iconst_1 ?_
          refine lv_iadd hx hb dL_hour_113 ?_
          refine lv_icmp_ne (tgt := 181) hx hb dL_hour_114 (by decide) (fun c21 => ?_) (fun c21 => ?_)
          · replace h := h.1 c21
            refine lv_iconst (v := (0 : Int32)) hx hb dL_hour_181 k_iconst_0 ?_
            refine lv_istore (lv' := [(9, .int (0 : Int32)), (8, .int r14), (0, .ref (G.2.1 + j0)), (1, .int x1), (4, .int x4), (5, .int x5), (6, .int x6), (7, .int x7), (2, .ref (G.2.1 + ja)), (3, .ref (G.2.1 + jb))]) hx hb dL_hour_182 hl (by decide) rfl (fun ls hl => ?_)
            refine lv_iconst (v := (0 : Int32)) hx hb dL_hour_184 k_iconst_0 ?_
            refine lv_istore (lv' := [(10, .int (0 : Int32)), (9, .int (0 : Int32)), (8, .int r14), (0, .ref (G.2.1 + j0)), (1, .int x1), (4, .int x4), (5, .int x5), (6, .int x6), (7, .int x7), (2, .ref (G.2.1 + ja)), (3, .ref (G.2.1 + jb))]) hx hb dL_hour_185 hl (by decide) rfl (fun ls hl => ?_)
            obtain ⟨n22, h⟩ := h
            exact B187 _ _ _ _ _ _ _ _ _ hP hS (lv_sub hl [3, 5, 1, 0, 9, 10] rfl) hk_j0 h
          · replace h := h.2 c21
            refine lv_aload_n hx hb dL_hour_117 rfl (lv_at hl 1 rfl) ?_
            refine lv_bipush (v := (7 : Int32)) hx hb dL_hour_118 k_bipush_7 ?_
            refine rh_Vi (As := [.int (7 : Int32)]) (rest := []) ⟨hx, hb, hml, hown, hts⟩ (mX6_count l G j0 (7 : Int32) M19 _ hk_j0 h) (cwV 1 hts (gV_X6_count q_4_11) rfl rfl rfl hdV_X6_count ⟨Nat.le_of_ble_eq_true rfl, Nat.le_of_ble_eq_true rfl⟩) hK hP hS hk_j0 (by decide) cl_6 rfl hl.1 rfl (Nat.le_of_ble_eq_true rfl) dL_hour_120 ⟨Nat.le_refl _, Nat.le_refl _⟩ (fun r24 M23 H locs h hP hS => ?_)
            refine lv_iload hx hb dL_hour_123 (lv_at hl 5 rfl) ?_
            refine lv_iload_n hx hb dL_hour_125 rfl (lv_at hl 2 rfl) ?_
            refine lv_sipush (v := (200 : Int32)) hx hb dL_hour_126 k_sipush_200 ?_
            refine lv_icmp_ge (tgt := 136) hx hb dL_hour_129 (by decide) (fun c25 => ?_) (fun c25 => ?_)
            · replace h := h.1 c25
              refine lv_sipush (v := (200 : Int32)) hx hb dL_hour_136 k_sipush_200 ?_
              exact B139 _ _ _ _ _ _ _ _ _ _ hP hS (lv_sub hl [1, 2, 3, 7, 8] rfl) hk_j0 h
            · replace h := h.2 c25
              refine lv_iload_n hx hb dL_hour_132 rfl (lv_at hl 2 rfl) ?_
              refine lv_goto (tgt := 139) hx hb dL_hour_133 (by decide) ?_
              exact B139 _ _ _ _ _ _ _ _ _ _ hP hS (lv_sub hl [1, 2, 3, 7, 8] rfl) hk_j0 h
      · replace h := h.2 c12
        refine lv_aload_n hx hb dL_hour_54 rfl (lv_at hl 7 rfl) ?_
        refine lv_iload hx hb dL_hour_55 (lv_at hl 6 rfl) ?_
        refine lv_aload_n hx hb dL_hour_57 rfl (lv_at hl 0 rfl) ?_
        refine lv_iload hx hb dL_hour_58 (lv_at hl 6 rfl) ?_
        refine lv_iconst (v := (4 : Int32)) hx hb dL_hour_60 k_iconst_4 ?_
        refine rh_Vi (As := [.int x8, .int (4 : Int32)]) (rest := [.int x8, .ref (G.2.1 + ja)]) ⟨hx, hb, hml, hown, hts⟩ (mX6_fieldOf l G j0 x8 (4 : Int32) M10 _ hk_j0 h) (cwV 2 hts (gV_X6_fieldOf q_6_10) rfl rfl rfl hdV_X6_fieldOf ⟨Nat.le_of_ble_eq_true rfl, Nat.le_of_ble_eq_true rfl⟩) hK hP hS hk_j0 (by decide) cl_6 rfl hl.1 rfl (Nat.le_of_ble_eq_true rfl) dL_hour_61 ⟨Nat.le_refl _, Nat.le_refl _⟩ (fun r27 M26 H locs h hP hS => ?_)
        refine rh_iast hx hb hK hP hS hja h.1 dL_hour_64 (fun M28 eM28 H locs hP hS => ?_)
        replace h := h.2
        replace h := h M28 eM28
        refine lv_aload_n hx hb dL_hour_65 rfl (lv_at hl 8 rfl) ?_
        refine lv_iload hx hb dL_hour_66 (lv_at hl 6 rfl) ?_
        refine lv_aload_n hx hb dL_hour_68 rfl (lv_at hl 0 rfl) ?_
        refine lv_iload hx hb dL_hour_69 (lv_at hl 6 rfl) ?_
        refine lv_bipush (v := (6 : Int32)) hx hb dL_hour_71 k_bipush_6 ?_
        refine rh_Vi (As := [.int x8, .int (6 : Int32)]) (rest := [.int x8, .ref (G.2.1 + jb)]) ⟨hx, hb, hml, hown, hts⟩ (mX6_fieldOf l G j0 x8 (6 : Int32) M28 _ hk_j0 h) (cwV 2 hts (gV_X6_fieldOf q_6_10) rfl rfl rfl hdV_X6_fieldOf ⟨Nat.le_of_ble_eq_true rfl, Nat.le_of_ble_eq_true rfl⟩) hK hP hS hk_j0 (by decide) cl_6 rfl hl.1 rfl (Nat.le_of_ble_eq_true rfl) dL_hour_73 ⟨Nat.le_refl _, Nat.le_refl _⟩ (fun r30 M29 H locs h hP hS => ?_)
        refine rh_iast hx hb hK hP hS hjb h.1 dL_hour_76 (fun M31 eM31 H locs hP hS => ?_)
        replace h := h.2
        replace h := h M31 eM31
        obtain ⟨x8_32, ex8_32⟩ : ∃ y : Int32, y = x8 + (1 : Int32) := ⟨_, rfl⟩
        replace h := h x8_32 ex8_32
        refine lv_iinc (v := x8_32) (lv' := [(8, .int x8_32), (0, .ref (G.2.1 + j0)), (1, .int x1), (4, .int x4), (5, .int x5), (6, .int x6), (7, .int x7), (2, .ref (G.2.1 + ja)), (3, .ref (G.2.1 + jb))]) hx hb dL_hour_77 hl (k := 6) rfl (by rw [ex8_32]; rfl) (by decide) rfl (fun ls hl => ?_)
        refine lv_goto (tgt := 44) hx hb dL_hour_80 (by decide) ?_
        exact hA44 _ _ _ _ _ _ _ _ _ _ _ hP hS (lv_sub hl [1, 2, 3, 4, 5, 6, 0, 7, 8] rfl) hk_j0 h
  unfold bL_hour_m at h
  refine lv_aload_n hx hb dL_hour_10 rfl (lv_at hl 2 rfl) ?_
  refine lv_iconst (v := (4 : Int32)) hx hb dL_hour_11 k_iconst_4 ?_
  refine rh_Vi (As := [.int (4 : Int32)]) (rest := []) ⟨hx, hb, hml, hown, hts⟩ (mX6_count l G j0a (4 : Int32) M0 _ hk_j0a h) (cwV 1 hts (gV_X6_count q_4_11) rfl rfl rfl hdV_X6_count ⟨Nat.le_of_ble_eq_true rfl, Nat.le_of_ble_eq_true rfl⟩) hK hP hS hk_j0a (by decide) cl_6 rfl hl.1 rfl (Nat.le_of_ble_eq_true rfl) dL_hour_12 ⟨Nat.le_refl _, Nat.le_refl _⟩ (fun r2 M1 H locs h hP hS => ?_)
  refine lv_istore (lv' := [(4, .int r2), (3, .ref (G.2.1 + jb)), (2, .ref (G.2.1 + ja)), (0, .ref (G.2.1 + j0a)), (1, .int x1a)]) hx hb dL_hour_15 hl (by decide) rfl (fun ls hl => ?_)
  refine lv_aload_n hx hb dL_hour_17 rfl (lv_at hl 3 rfl) ?_
  refine lv_bipush (v := (6 : Int32)) hx hb dL_hour_18 k_bipush_6 ?_
  refine rh_Vi (As := [.int (6 : Int32)]) (rest := []) ⟨hx, hb, hml, hown, hts⟩ (mX6_count l G j0a (6 : Int32) M1 _ hk_j0a h) (cwV 1 hts (gV_X6_count q_4_11) rfl rfl rfl hdV_X6_count ⟨Nat.le_of_ble_eq_true rfl, Nat.le_of_ble_eq_true rfl⟩) hK hP hS hk_j0a (by decide) cl_6 rfl hl.1 rfl (Nat.le_of_ble_eq_true rfl) dL_hour_20 ⟨Nat.le_refl _, Nat.le_refl _⟩ (fun r4 M3 H locs h hP hS => ?_)
  refine lv_istore (lv' := [(5, .int r4), (4, .int r2), (3, .ref (G.2.1 + jb)), (2, .ref (G.2.1 + ja)), (0, .ref (G.2.1 + j0a)), (1, .int x1a)]) hx hb dL_hour_23 hl (by decide) rfl (fun ls hl => ?_)
  refine lv_aload_n hx hb dL_hour_25 rfl (lv_at hl 4 rfl) ?_
  refine lv_bipush (v := (7 : Int32)) hx hb dL_hour_26 k_bipush_7 ?_
  refine rh_Vi (As := [.int (7 : Int32)]) (rest := []) ⟨hx, hb, hml, hown, hts⟩ (mX6_count l G j0a (7 : Int32) M3 _ hk_j0a h) (cwV 1 hts (gV_X6_count q_4_11) rfl rfl rfl hdV_X6_count ⟨Nat.le_of_ble_eq_true rfl, Nat.le_of_ble_eq_true rfl⟩) hK hP hS hk_j0a (by decide) cl_6 rfl hl.1 rfl (Nat.le_of_ble_eq_true rfl) dL_hour_28 ⟨Nat.le_refl _, Nat.le_refl _⟩ (fun r6 M5 H locs h hP hS => ?_)
  refine lv_istore (lv' := [(6, .int r6), (5, .int r4), (4, .int r2), (3, .ref (G.2.1 + jb)), (2, .ref (G.2.1 + ja)), (0, .ref (G.2.1 + j0a)), (1, .int x1a)]) hx hb dL_hour_31 hl (by decide) rfl (fun ls hl => ?_)
  refine lv_aload_n hx hb dL_hour_33 rfl (lv_at hl 5 rfl) ?_
  refine lv_bipush (v := (8 : Int32)) hx hb dL_hour_34 k_bipush_8 ?_
  refine rh_Vi (As := [.int (8 : Int32)]) (rest := []) ⟨hx, hb, hml, hown, hts⟩ (mX6_count l G j0a (8 : Int32) M5 _ hk_j0a h) (cwV 1 hts (gV_X6_count q_4_11) rfl rfl rfl hdV_X6_count ⟨Nat.le_of_ble_eq_true rfl, Nat.le_of_ble_eq_true rfl⟩) hK hP hS hk_j0a (by decide) cl_6 rfl hl.1 rfl (Nat.le_of_ble_eq_true rfl) dL_hour_36 ⟨Nat.le_refl _, Nat.le_refl _⟩ (fun r8 M7 H locs h hP hS => ?_)
  refine lv_istore (lv' := [(7, .int r8), (6, .int r6), (5, .int r4), (4, .int r2), (3, .ref (G.2.1 + jb)), (2, .ref (G.2.1 + ja)), (0, .ref (G.2.1 + j0a)), (1, .int x1a)]) hx hb dL_hour_39 hl (by decide) rfl (fun ls hl => ?_)
  refine lv_iconst (v := (0 : Int32)) hx hb dL_hour_41 k_iconst_0 ?_
  refine lv_istore (lv' := [(8, .int (0 : Int32)), (7, .int r8), (6, .int r6), (5, .int r4), (4, .int r2), (3, .ref (G.2.1 + jb)), (2, .ref (G.2.1 + ja)), (0, .ref (G.2.1 + j0a)), (1, .int x1a)]) hx hb dL_hour_42 hl (by decide) rfl (fun ls hl => ?_)
  obtain ⟨n9, h⟩ := h
  exact B44 _ _ _ _ _ _ _ _ _ _ _ _ hP hS (lv_sub hl [7, 8, 4, 3, 2, 1, 0, 6, 5] rfl) hk_j0a h
