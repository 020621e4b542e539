/-! the law: printed by gen.py -/
theorem kd_0 : kd 0 = 6 := rfl
set_option maxHeartbeats 40000000 in
set_option maxRecDepth 100000 in
theorem law_loop {p : Program} {e : Env} {s : State} {m : MethodId} {below : List Frame} {meth : Method} {c : Code} (l : Launch) {b L : Nat} {xs : Nat → Int32} (C0 : lw_At p s m meth c b L xs) (G : Gp) (hG : G.2.1 = s.heap.size) (hK : Kp G s) : ∀ (n : Nat) (M : Mm) (x2 x3 : Int32) (H : Heap) (locs : List Loc) (ls : Array Slot) (cs sl : Nat), cs + 2 * n ≤ 600000 → sl + 20 * n ≤ 7302250 → Rp G M H → va_S (Fr0 G) s.heap H locs → lv_has ls 5 [(2, .int x2), (3, .int x3), (0, .ref b), (1, .ref (G.2.1 + 0))] → lL_law xs L n M x2 x3 → W p l e room_1 s m #[Value.ref b] below meth c H locs cs sl (lw_Z below #[Value.ref b] s) (F0 m 65 ls []) := by
  obtain ⟨hx, hb, hr, hml, hown, hts1, hX, hbl, hlocks, hgv⟩ := id C0
  have hts : ∀ w ∈ wsL_law, w.before #[Value.ref b] s = true := fun w hw => hts1 w (wsL_law_in w hw)
  have hbA : ¬ (Fr0 G) b := by show ¬ G.2.1 ≤ b; rw [hG]; omega
  have hbG : b < G.2.1 := by rw [hG]; exact hbl
  intro n
  induction n with
  | zero => intro M x2 x3 H locs ls cs sl hcs hsl hP hS hl h; exact h.elim
  | succ n ih =>
    intro M x2 x3 H locs ls cs sl hcs hsl hP hS hl h
    have hA := ih
    replace h : bL_law xs L (lL_law xs L n) M x2 x3 := h
    unfold bL_law at h
    refine lv_iload_n hx hb dL_law_65 rfl (lv_at hl 1 rfl) ?_
    refine lv_bipush (v := (30 : Int32)) hx hb dL_law_66 k_bipush_30 ?_
    refine lv_icmp_ge (tgt := 106) hx hb dL_law_68 (by decide) (fun c1 => ?_) (fun c1 => ?_)
    · replace h := h.1 c1
      refine lv_aload_n hx hb dL_law_106 rfl (lv_at hl 3 rfl) ?_
      refine lv_bipush (v := (7 : Int32)) hx hb dL_law_107 k_bipush_7 ?_
      refine rg_Vi (As := [.int (7 : Int32)]) (rest := []) ⟨hx, hb, hml, hown, hts⟩ (mX6_count l G 0 (7 : Int32) M _ kd_0 h) (cwV 1 hts (gV_X6_count q_4_11) rfl rfl rfl hdV_X6_count ⟨Nat.le_of_ble_eq_true rfl, Nat.le_of_ble_eq_true rfl⟩) hK hP hS kd_0 (by decide) cl_6 rfl hl.1 rfl (Nat.le_of_ble_eq_true rfl) dL_law_109 ⟨by show _ ≤ 600000; omega, by show _ ≤ 7302250; omega⟩ (fun r3 M2 H locs h hP hS => ?_)
      refine lv_istore_n (lv' := [(3, .int r3), (2, .int x2), (0, .ref b), (1, .ref (G.2.1 + 0))]) hx hb dL_law_112 rfl hl (by decide) rfl (fun ls hl => ?_)
      refine lv_aload_n hx hb dL_law_113 rfl (lv_at hl 3 rfl) ?_
      refine lv_bipush (v := (6 : Int32)) hx hb dL_law_114 k_bipush_6 ?_
      refine rg_Vi (As := [.int (6 : Int32)]) (rest := []) ⟨hx, hb, hml, hown, hts⟩ (mX6_count l G 0 (6 : Int32) M2 _ kd_0 h) (cwV 1 hts (gV_X6_count q_4_11) rfl rfl rfl hdV_X6_count ⟨Nat.le_of_ble_eq_true rfl, Nat.le_of_ble_eq_true rfl⟩) hK hP hS kd_0 (by decide) cl_6 rfl hl.1 rfl (Nat.le_of_ble_eq_true rfl) dL_law_116 ⟨by show _ ≤ 600000; omega, by show _ ≤ 7302250; omega⟩ (fun r5 M4 H locs h hP hS => ?_)
      refine lv_istore (lv' := [(4, .int r5), (3, .int r3), (2, .int x2), (0, .ref b), (1, .ref (G.2.1 + 0))]) hx hb dL_law_119 hl (by decide) rfl (fun ls hl => ?_)
      refine lv_iload_n hx hb dL_law_121 rfl (lv_at hl 2 rfl) ?_
      refine lv_if_eq (tgt := 208) hx hb dL_law_122 (by decide) (fun c6 => ?_) (fun c6 => ?_)
      · replace h := h.1 c6
        refine lv_iconst (v := (0 : Int32)) hx hb dL_law_208 k_iconst_0 ?_
        exact h.elim
      · replace h := h.2 c6
        refine lv_aload_n hx hb dL_law_125 rfl (lv_at hl 4 rfl) ?_
        refine lv_iconst (v := (3 : Int32)) hx hb dL_law_126 k_iconst_3 ?_
        refine lv_bipush (v := (50 : Int32)) hx hb dL_law_127 k_bipush_50 ?_
        refine rg_Vi (As := [.int (3 : Int32), .int (50 : Int32)]) (rest := []) ⟨hx, hb, hml, hown, hts⟩ (mX6_run l G 0 (3 : Int32) (50 : Int32) M4 _ kd_0 h) (cwV 2 hts (gV_X6_run q_14_13) rfl rfl rfl hdV_X6_run ⟨Nat.le_of_ble_eq_true rfl, Nat.le_of_ble_eq_true rfl⟩) hK hP hS kd_0 (by decide) cl_6 rfl hl.1 rfl (Nat.le_of_ble_eq_true rfl) dL_law_129 ⟨by show _ ≤ 600000; omega, by show _ ≤ 7302250; omega⟩ (fun r8 M7 H locs h hP hS => ?_)
        refine lv_if_lt (tgt := 208) hx hb dL_law_132 (by decide) (fun c9 => ?_) (fun c9 => ?_)
        · replace h := h.1 c9
          refine lv_iconst (v := (0 : Int32)) hx hb dL_law_208 k_iconst_0 ?_
          exact h.elim
        · replace h := h.2 c9
          refine lv_aload_n hx hb dL_law_135 rfl (lv_at hl 4 rfl) ?_
          refine lv_bipush (v := (7 : Int32)) hx hb dL_law_136 k_bipush_7 ?_
          refine rg_Vi (As := [.int (7 : Int32)]) (rest := []) ⟨hx, hb, hml, hown, hts⟩ (mX6_count l G 0 (7 : Int32) M7 _ kd_0 h) (cwV 1 hts (gV_X6_count q_4_11) rfl rfl rfl hdV_X6_count ⟨Nat.le_of_ble_eq_true rfl, Nat.le_of_ble_eq_true rfl⟩) hK hP hS kd_0 (by decide) cl_6 rfl hl.1 rfl (Nat.le_of_ble_eq_true rfl) dL_law_138 ⟨by show _ ≤ 600000; omega, by show _ ≤ 7302250; omega⟩ (fun r11 M10 H locs h hP hS => ?_)
          refine lv_iload_n hx hb dL_law_141 rfl (lv_at hl 1 rfl) ?_
          refine lv_sipush (v := (150 : Int32)) hx hb dL_law_142 k_sipush_150 ?_
          refine lv_iadd hx hb dL_law_145 ?_
          refine lv_icmp_ne (tgt := 208) hx hb dL_law_146 (by decide) (fun c12 => ?_) (fun c12 => ?_)
          · replace h := h.1 c12
            refine lv_iconst (v := (0 : Int32)) hx hb dL_law_208 k_iconst_0 ?_
            exact h.elim
          · replace h := h.2 c12
            refine lv_aload_n hx hb dL_law_149 rfl (lv_at hl 4 rfl) ?_
            refine lv_bipush (v := (6 : Int32)) hx hb dL_law_150 k_bipush_6 ?_
            refine rg_Vi (As := [.int (6 : Int32)]) (rest := []) ⟨hx, hb, hml, hown, hts⟩ (mX6_count l G 0 (6 : Int32) M10 _ kd_0 h) (cwV 1 hts (gV_X6_count q_4_11) rfl rfl rfl hdV_X6_count ⟨Nat.le_of_ble_eq_true rfl, Nat.le_of_ble_eq_true rfl⟩) hK hP hS kd_0 (by decide) cl_6 rfl hl.1 rfl (Nat.le_of_ble_eq_true rfl) dL_law_152 ⟨by show _ ≤ 600000; omega, by show _ ≤ 7302250; omega⟩ (fun r14 M13 H locs h hP hS => ?_)
            refine lv_iload hx hb dL_law_155 (lv_at hl 0 rfl) ?_
            refine lv_iconst (v := (3 : Int32)) hx hb dL_law_157 k_iconst_3 ?_
            refine lv_iadd hx hb dL_law_158 ?_
            refine lv_icmp_ne (tgt := 208) hx hb dL_law_159 (by decide) (fun c15 => ?_) (fun c15 => ?_)
            · replace h := h.1 c15
              refine lv_iconst (v := (0 : Int32)) hx hb dL_law_208 k_iconst_0 ?_
              exact h.elim
            · replace h := h.2 c15
              refine lv_aload_n hx hb dL_law_162 rfl (lv_at hl 4 rfl) ?_
              refine rg_Si (As := [.ref (G.2.1 + 0)]) (rest := []) ⟨hx, hb, hml, hown, hts⟩ (mL_holds l G 0 M13 _ kd_0 h) (va_cwS 1 hts (gS_L_holds q_4_6) rfl rfl rfl hdS_L_holds ⟨Nat.le_of_ble_eq_true rfl, Nat.le_of_ble_eq_true rfl⟩) hK hP hS rfl hl.1 rfl (Nat.le_of_ble_eq_true rfl) dL_law_163 ⟨by show _ ≤ 600000; omega, by show _ ≤ 7302250; omega⟩ (fun r17 M16 H locs h hP hS => ?_)
              refine lv_if_eq (tgt := 208) hx hb dL_law_166 (by decide) (fun c18 => ?_) (fun c18 => ?_)
              · replace h := h.1 c18
                refine lv_iconst (v := (0 : Int32)) hx hb dL_law_208 k_iconst_0 ?_
                exact h.elim
              · replace h := h.2 c18
                refine lv_aload_n hx hb dL_law_169 rfl (lv_at hl 4 rfl) ?_
                refine rg_Vi (As := []) (rest := []) ⟨hx, hb, hml, hown, hts⟩ (mX6_undo l G 0 M16 _ kd_0 h) (cwV 0 hts (gV_X6_undo q_19_10) rfl rfl rfl hdV_X6_undo ⟨Nat.le_of_ble_eq_true rfl, Nat.le_of_ble_eq_true rfl⟩) hK hP hS kd_0 (by decide) cl_6 rfl hl.1 rfl (Nat.le_of_ble_eq_true rfl) dL_law_170 ⟨by show _ ≤ 600000; omega, by show _ ≤ 7302250; omega⟩ (fun r20 M19 H locs h hP hS => ?_)
                refine lv_if_lt (tgt := 208) hx hb dL_law_173 (by decide) (fun c21 => ?_) (fun c21 => ?_)
                · replace h := h.1 c21
                  refine lv_iconst (v := (0 : Int32)) hx hb dL_law_208 k_iconst_0 ?_
                  exact h.elim
                · replace h := h.2 c21
                  refine lv_aload_n hx hb dL_law_176 rfl (lv_at hl 4 rfl) ?_
                  refine lv_bipush (v := (7 : Int32)) hx hb dL_law_177 k_bipush_7 ?_
                  refine rg_Vi (As := [.int (7 : Int32)]) (rest := []) ⟨hx, hb, hml, hown, hts⟩ (mX6_count l G 0 (7 : Int32) M19 _ kd_0 h) (cwV 1 hts (gV_X6_count q_4_11) rfl rfl rfl hdV_X6_count ⟨Nat.le_of_ble_eq_true rfl, Nat.le_of_ble_eq_true rfl⟩) hK hP hS kd_0 (by decide) cl_6 rfl hl.1 rfl (Nat.le_of_ble_eq_true rfl) dL_law_179 ⟨by show _ ≤ 600000; omega, by show _ ≤ 7302250; omega⟩ (fun r23 M22 H locs h hP hS => ?_)
                  refine lv_iload_n hx hb dL_law_182 rfl (lv_at hl 1 rfl) ?_
                  refine lv_icmp_ne (tgt := 208) hx hb dL_law_183 (by decide) (fun c24 => ?_) (fun c24 => ?_)
                  · replace h := h.1 c24
                    refine lv_iconst (v := (0 : Int32)) hx hb dL_law_208 k_iconst_0 ?_
                    exact h.elim
                  · replace h := h.2 c24
                    refine lv_aload_n hx hb dL_law_186 rfl (lv_at hl 4 rfl) ?_
                    refine lv_bipush (v := (6 : Int32)) hx hb dL_law_187 k_bipush_6 ?_
                    refine rg_Vi (As := [.int (6 : Int32)]) (rest := []) ⟨hx, hb, hml, hown, hts⟩ (mX6_count l G 0 (6 : Int32) M22 _ kd_0 h) (cwV 1 hts (gV_X6_count q_4_11) rfl rfl rfl hdV_X6_count ⟨Nat.le_of_ble_eq_true rfl, Nat.le_of_ble_eq_true rfl⟩) hK hP hS kd_0 (by decide) cl_6 rfl hl.1 rfl (Nat.le_of_ble_eq_true rfl) dL_law_189 ⟨by show _ ≤ 600000; omega, by show _ ≤ 7302250; omega⟩ (fun r26 M25 H locs h hP hS => ?_)
                    refine lv_iload hx hb dL_law_192 (lv_at hl 0 rfl) ?_
                    refine lv_icmp_ne (tgt := 208) hx hb dL_law_194 (by decide) (fun c27 => ?_) (fun c27 => ?_)
                    · replace h := h.1 c27
                      refine lv_iconst (v := (0 : Int32)) hx hb dL_law_208 k_iconst_0 ?_
                      exact h.elim
                    · replace h := h.2 c27
                      refine lv_aload_n hx hb dL_law_197 rfl (lv_at hl 4 rfl) ?_
                      refine rg_Si (As := [.ref (G.2.1 + 0)]) (rest := []) ⟨hx, hb, hml, hown, hts⟩ (mL_holds l G 0 M25 _ kd_0 h) (va_cwS 1 hts (gS_L_holds q_4_6) rfl rfl rfl hdS_L_holds ⟨Nat.le_of_ble_eq_true rfl, Nat.le_of_ble_eq_true rfl⟩) hK hP hS rfl hl.1 rfl (Nat.le_of_ble_eq_true rfl) dL_law_198 ⟨by show _ ≤ 600000; omega, by show _ ≤ 7302250; omega⟩ (fun r29 M28 H locs h hP hS => ?_)
                      refine lv_if_eq (tgt := 208) hx hb dL_law_201 (by decide) (fun c30 => ?_) (fun c30 => ?_)
                      · replace h := h.1 c30
                        refine lv_iconst (v := (0 : Int32)) hx hb dL_law_208 k_iconst_0 ?_
                        exact h.elim
                      · replace h := h.2 c30
                        refine lv_iconst (v := (1 : Int32)) hx hb dL_law_204 k_iconst_1 ?_
                        refine lv_goto (tgt := 209) hx hb dL_law_205 (by decide) ?_
                        exact law_end hx hb hr hlocks hG hS (by omega) (by omega) dL_law_209
    · replace h := h.2 c1
      refine lv_iload_n hx hb dL_law_71 rfl (lv_at hl 0 rfl) ?_
      refine lv_if_eq (tgt := 106) hx hb dL_law_72 (by decide) (fun c31 => ?_) (fun c31 => ?_)
      · replace h := h.1 c31
        refine lv_aload_n hx hb dL_law_106 rfl (lv_at hl 3 rfl) ?_
        refine lv_bipush (v := (7 : Int32)) hx hb dL_law_107 k_bipush_7 ?_
        refine rg_Vi (As := [.int (7 : Int32)]) (rest := []) ⟨hx, hb, hml, hown, hts⟩ (mX6_count l G 0 (7 : Int32) M _ kd_0 h) (cwV 1 hts (gV_X6_count q_4_11) rfl rfl rfl hdV_X6_count ⟨Nat.le_of_ble_eq_true rfl, Nat.le_of_ble_eq_true rfl⟩) hK hP hS kd_0 (by decide) cl_6 rfl hl.1 rfl (Nat.le_of_ble_eq_true rfl) dL_law_109 ⟨by show _ ≤ 600000; omega, by show _ ≤ 7302250; omega⟩ (fun r33 M32 H locs h hP hS => ?_)
        refine lv_istore_n (lv' := [(3, .int r33), (2, .int x2), (0, .ref b), (1, .ref (G.2.1 + 0))]) hx hb dL_law_112 rfl hl (by decide) rfl (fun ls hl => ?_)
        refine lv_aload_n hx hb dL_law_113 rfl (lv_at hl 3 rfl) ?_
        refine lv_bipush (v := (6 : Int32)) hx hb dL_law_114 k_bipush_6 ?_
        refine rg_Vi (As := [.int (6 : Int32)]) (rest := []) ⟨hx, hb, hml, hown, hts⟩ (mX6_count l G 0 (6 : Int32) M32 _ kd_0 h) (cwV 1 hts (gV_X6_count q_4_11) rfl rfl rfl hdV_X6_count ⟨Nat.le_of_ble_eq_true rfl, Nat.le_of_ble_eq_true rfl⟩) hK hP hS kd_0 (by decide) cl_6 rfl hl.1 rfl (Nat.le_of_ble_eq_true rfl) dL_law_116 ⟨by show _ ≤ 600000; omega, by show _ ≤ 7302250; omega⟩ (fun r35 M34 H locs h hP hS => ?_)
        refine lv_istore (lv' := [(4, .int r35), (3, .int r33), (2, .int x2), (0, .ref b), (1, .ref (G.2.1 + 0))]) hx hb dL_law_119 hl (by decide) rfl (fun ls hl => ?_)
        refine lv_iload_n hx hb dL_law_121 rfl (lv_at hl 2 rfl) ?_
        refine lv_if_eq (tgt := 208) hx hb dL_law_122 (by decide) (fun c36 => ?_) (fun c36 => ?_)
        · replace h := h.1 c36
          refine lv_iconst (v := (0 : Int32)) hx hb dL_law_208 k_iconst_0 ?_
          exact h.elim
        · replace h := h.2 c36
          refine lv_aload_n hx hb dL_law_125 rfl (lv_at hl 4 rfl) ?_
          refine lv_iconst (v := (3 : Int32)) hx hb dL_law_126 k_iconst_3 ?_
          refine lv_bipush (v := (50 : Int32)) hx hb dL_law_127 k_bipush_50 ?_
          refine rg_Vi (As := [.int (3 : Int32), .int (50 : Int32)]) (rest := []) ⟨hx, hb, hml, hown, hts⟩ (mX6_run l G 0 (3 : Int32) (50 : Int32) M34 _ kd_0 h) (cwV 2 hts (gV_X6_run q_14_13) rfl rfl rfl hdV_X6_run ⟨Nat.le_of_ble_eq_true rfl, Nat.le_of_ble_eq_true rfl⟩) hK hP hS kd_0 (by decide) cl_6 rfl hl.1 rfl (Nat.le_of_ble_eq_true rfl) dL_law_129 ⟨by show _ ≤ 600000; omega, by show _ ≤ 7302250; omega⟩ (fun r38 M37 H locs h hP hS => ?_)
          refine lv_if_lt (tgt := 208) hx hb dL_law_132 (by decide) (fun c39 => ?_) (fun c39 => ?_)
          · replace h := h.1 c39
            refine lv_iconst (v := (0 : Int32)) hx hb dL_law_208 k_iconst_0 ?_
            exact h.elim
          · replace h := h.2 c39
            refine lv_aload_n hx hb dL_law_135 rfl (lv_at hl 4 rfl) ?_
            refine lv_bipush (v := (7 : Int32)) hx hb dL_law_136 k_bipush_7 ?_
            refine rg_Vi (As := [.int (7 : Int32)]) (rest := []) ⟨hx, hb, hml, hown, hts⟩ (mX6_count l G 0 (7 : Int32) M37 _ kd_0 h) (cwV 1 hts (gV_X6_count q_4_11) rfl rfl rfl hdV_X6_count ⟨Nat.le_of_ble_eq_true rfl, Nat.le_of_ble_eq_true rfl⟩) hK hP hS kd_0 (by decide) cl_6 rfl hl.1 rfl (Nat.le_of_ble_eq_true rfl) dL_law_138 ⟨by show _ ≤ 600000; omega, by show _ ≤ 7302250; omega⟩ (fun r41 M40 H locs h hP hS => ?_)
            refine lv_iload_n hx hb dL_law_141 rfl (lv_at hl 1 rfl) ?_
            refine lv_sipush (v := (150 : Int32)) hx hb dL_law_142 k_sipush_150 ?_
            refine lv_iadd hx hb dL_law_145 ?_
            refine lv_icmp_ne (tgt := 208) hx hb dL_law_146 (by decide) (fun c42 => ?_) (fun c42 => ?_)
            · replace h := h.1 c42
              refine lv_iconst (v := (0 : Int32)) hx hb dL_law_208 k_iconst_0 ?_
              exact h.elim
            · replace h := h.2 c42
              refine lv_aload_n hx hb dL_law_149 rfl (lv_at hl 4 rfl) ?_
              refine lv_bipush (v := (6 : Int32)) hx hb dL_law_150 k_bipush_6 ?_
              refine rg_Vi (As := [.int (6 : Int32)]) (rest := []) ⟨hx, hb, hml, hown, hts⟩ (mX6_count l G 0 (6 : Int32) M40 _ kd_0 h) (cwV 1 hts (gV_X6_count q_4_11) rfl rfl rfl hdV_X6_count ⟨Nat.le_of_ble_eq_true rfl, Nat.le_of_ble_eq_true rfl⟩) hK hP hS kd_0 (by decide) cl_6 rfl hl.1 rfl (Nat.le_of_ble_eq_true rfl) dL_law_152 ⟨by show _ ≤ 600000; omega, by show _ ≤ 7302250; omega⟩ (fun r44 M43 H locs h hP hS => ?_)
              refine lv_iload hx hb dL_law_155 (lv_at hl 0 rfl) ?_
              refine lv_iconst (v := (3 : Int32)) hx hb dL_law_157 k_iconst_3 ?_
              refine lv_iadd hx hb dL_law_158 ?_
              refine lv_icmp_ne (tgt := 208) hx hb dL_law_159 (by decide) (fun c45 => ?_) (fun c45 => ?_)
              · replace h := h.1 c45
                refine lv_iconst (v := (0 : Int32)) hx hb dL_law_208 k_iconst_0 ?_
                exact h.elim
              · replace h := h.2 c45
                refine lv_aload_n hx hb dL_law_162 rfl (lv_at hl 4 rfl) ?_
                refine rg_Si (As := [.ref (G.2.1 + 0)]) (rest := []) ⟨hx, hb, hml, hown, hts⟩ (mL_holds l G 0 M43 _ kd_0 h) (va_cwS 1 hts (gS_L_holds q_4_6) rfl rfl rfl hdS_L_holds ⟨Nat.le_of_ble_eq_true rfl, Nat.le_of_ble_eq_true rfl⟩) hK hP hS rfl hl.1 rfl (Nat.le_of_ble_eq_true rfl) dL_law_163 ⟨by show _ ≤ 600000; omega, by show _ ≤ 7302250; omega⟩ (fun r47 M46 H locs h hP hS => ?_)
                refine lv_if_eq (tgt := 208) hx hb dL_law_166 (by decide) (fun c48 => ?_) (fun c48 => ?_)
                · replace h := h.1 c48
                  refine lv_iconst (v := (0 : Int32)) hx hb dL_law_208 k_iconst_0 ?_
                  exact h.elim
                · replace h := h.2 c48
                  refine lv_aload_n hx hb dL_law_169 rfl (lv_at hl 4 rfl) ?_
                  refine rg_Vi (As := []) (rest := []) ⟨hx, hb, hml, hown, hts⟩ (mX6_undo l G 0 M46 _ kd_0 h) (cwV 0 hts (gV_X6_undo q_19_10) rfl rfl rfl hdV_X6_undo ⟨Nat.le_of_ble_eq_true rfl, Nat.le_of_ble_eq_true rfl⟩) hK hP hS kd_0 (by decide) cl_6 rfl hl.1 rfl (Nat.le_of_ble_eq_true rfl) dL_law_170 ⟨by show _ ≤ 600000; omega, by show _ ≤ 7302250; omega⟩ (fun r50 M49 H locs h hP hS => ?_)
                  refine lv_if_lt (tgt := 208) hx hb dL_law_173 (by decide) (fun c51 => ?_) (fun c51 => ?_)
                  · replace h := h.1 c51
                    refine lv_iconst (v := (0 : Int32)) hx hb dL_law_208 k_iconst_0 ?_
                    exact h.elim
                  · replace h := h.2 c51
                    refine lv_aload_n hx hb dL_law_176 rfl (lv_at hl 4 rfl) ?_
                    refine lv_bipush (v := (7 : Int32)) hx hb dL_law_177 k_bipush_7 ?_
                    refine rg_Vi (As := [.int (7 : Int32)]) (rest := []) ⟨hx, hb, hml, hown, hts⟩ (mX6_count l G 0 (7 : Int32) M49 _ kd_0 h) (cwV 1 hts (gV_X6_count q_4_11) rfl rfl rfl hdV_X6_count ⟨Nat.le_of_ble_eq_true rfl, Nat.le_of_ble_eq_true rfl⟩) hK hP hS kd_0 (by decide) cl_6 rfl hl.1 rfl (Nat.le_of_ble_eq_true rfl) dL_law_179 ⟨by show _ ≤ 600000; omega, by show _ ≤ 7302250; omega⟩ (fun r53 M52 H locs h hP hS => ?_)
                    refine lv_iload_n hx hb dL_law_182 rfl (lv_at hl 1 rfl) ?_
                    refine lv_icmp_ne (tgt := 208) hx hb dL_law_183 (by decide) (fun c54 => ?_) (fun c54 => ?_)
                    · replace h := h.1 c54
                      refine lv_iconst (v := (0 : Int32)) hx hb dL_law_208 k_iconst_0 ?_
                      exact h.elim
                    · replace h := h.2 c54
                      refine lv_aload_n hx hb dL_law_186 rfl (lv_at hl 4 rfl) ?_
                      refine lv_bipush (v := (6 : Int32)) hx hb dL_law_187 k_bipush_6 ?_
                      refine rg_Vi (As := [.int (6 : Int32)]) (rest := []) ⟨hx, hb, hml, hown, hts⟩ (mX6_count l G 0 (6 : Int32) M52 _ kd_0 h) (cwV 1 hts (gV_X6_count q_4_11) rfl rfl rfl hdV_X6_count ⟨Nat.le_of_ble_eq_true rfl, Nat.le_of_ble_eq_true rfl⟩) hK hP hS kd_0 (by decide) cl_6 rfl hl.1 rfl (Nat.le_of_ble_eq_true rfl) dL_law_189 ⟨by show _ ≤ 600000; omega, by show _ ≤ 7302250; omega⟩ (fun r56 M55 H locs h hP hS => ?_)
                      refine lv_iload hx hb dL_law_192 (lv_at hl 0 rfl) ?_
                      refine lv_icmp_ne (tgt := 208) hx hb dL_law_194 (by decide) (fun c57 => ?_) (fun c57 => ?_)
                      · replace h := h.1 c57
                        refine lv_iconst (v := (0 : Int32)) hx hb dL_law_208 k_iconst_0 ?_
                        exact h.elim
                      · replace h := h.2 c57
                        refine lv_aload_n hx hb dL_law_197 rfl (lv_at hl 4 rfl) ?_
                        refine rg_Si (As := [.ref (G.2.1 + 0)]) (rest := []) ⟨hx, hb, hml, hown, hts⟩ (mL_holds l G 0 M55 _ kd_0 h) (va_cwS 1 hts (gS_L_holds q_4_6) rfl rfl rfl hdS_L_holds ⟨Nat.le_of_ble_eq_true rfl, Nat.le_of_ble_eq_true rfl⟩) hK hP hS rfl hl.1 rfl (Nat.le_of_ble_eq_true rfl) dL_law_198 ⟨by show _ ≤ 600000; omega, by show _ ≤ 7302250; omega⟩ (fun r59 M58 H locs h hP hS => ?_)
                        refine lv_if_eq (tgt := 208) hx hb dL_law_201 (by decide) (fun c60 => ?_) (fun c60 => ?_)
                        · replace h := h.1 c60
                          refine lv_iconst (v := (0 : Int32)) hx hb dL_law_208 k_iconst_0 ?_
                          exact h.elim
                        · replace h := h.2 c60
                          refine lv_iconst (v := (1 : Int32)) hx hb dL_law_204 k_iconst_1 ?_
                          refine lv_goto (tgt := 209) hx hb dL_law_205 (by decide) ?_
                          exact law_end hx hb hr hlocks hG hS (by omega) (by omega) dL_law_209
      · replace h := h.2 c31
        refine lv_aload_n hx hb dL_law_75 rfl (lv_at hl 3 rfl) ?_
        refine lv_aload_n hx hb dL_law_76 rfl (lv_at hl 2 rfl) ?_
        refine lv_iload_n hx hb dL_law_77 rfl (lv_at hl 1 rfl) ?_
        refine rg_Sc (As := [.ref b, .int x3]) (rest := [.ref (G.2.1 + 0)]) ⟨hx, hb, hml, hown, hts⟩ (mL_cell l G b x3 L xs M hbG h.1) (va_cwS 2 hts (gS_L_cell q_12_6) rfl rfl rfl hdS_L_cell ⟨Nat.le_of_ble_eq_true rfl, Nat.le_of_ble_eq_true rfl⟩) hK hP hS hX hbl hbA rfl hl.1 rfl (Nat.le_of_ble_eq_true rfl) dL_law_78 ⟨by show _ ≤ 600000; omega, by show _ ≤ 7302250; omega⟩ (fun r62 er62 H locs hP hS => ?_)
        replace h := h.2 r62 er62
        refine rg_Sh (As := [.ref (G.2.1 + 0), .int r62]) (rest := []) ⟨hx, hb, hml, hown, hts⟩ (mL_acts l G 0 r62 M _ kd_0 h) (va_cwS 2 hts (gS_L_acts q_12_11) rfl rfl rfl hdS_L_acts ⟨Nat.le_of_ble_eq_true rfl, Nat.le_of_ble_eq_true rfl⟩) hK hP hS rfl hl.1 rfl (Nat.le_of_ble_eq_true rfl) dL_law_81 ⟨by show _ ≤ 600000; omega, by show _ ≤ 7302250; omega⟩ (fun r64 M63 H locs h hP hS => ?_)
        refine lv_if_eq (tgt := 98) hx hb dL_law_84 (by decide) (fun c65 => ?_) (fun c65 => ?_)
        · replace h := h.1 c65
          refine lv_iconst (v := (0 : Int32)) hx hb dL_law_98 k_iconst_0 ?_
          refine lv_istore_n (lv' := [(2, .int (0 : Int32)), (3, .int x3), (0, .ref b), (1, .ref (G.2.1 + 0))]) hx hb dL_law_99 rfl hl (by decide) rfl (fun ls hl => ?_)
          obtain ⟨x3_66, ex3_66⟩ : ∃ y : Int32, y = x3 + (1 : Int32) := ⟨_, rfl⟩
          replace h := h x3_66 ex3_66
          refine lv_iinc (v := x3_66) (lv' := [(3, .int x3_66), (2, .int (0 : Int32)), (0, .ref b), (1, .ref (G.2.1 + 0))]) hx hb dL_law_100 hl (k := 1) rfl (by rw [ex3_66]; rfl) (by decide) rfl (fun ls hl => ?_)
          refine lv_goto (tgt := 65) hx hb dL_law_103 (by decide) ?_
          exact hA _ _ _ _ _ _ _ _ (by omega) (by omega) hP hS (lv_sub hl [1, 0, 2, 3] rfl) h
        · replace h := h.2 c65
          refine lv_aload_n hx hb dL_law_87 rfl (lv_at hl 3 rfl) ?_
          refine rg_Si (As := [.ref (G.2.1 + 0)]) (rest := []) ⟨hx, hb, hml, hown, hts⟩ (mL_holds l G 0 M63 _ kd_0 h) (va_cwS 1 hts (gS_L_holds q_4_6) rfl rfl rfl hdS_L_holds ⟨Nat.le_of_ble_eq_true rfl, Nat.le_of_ble_eq_true rfl⟩) hK hP hS rfl hl.1 rfl (Nat.le_of_ble_eq_true rfl) dL_law_88 ⟨by show _ ≤ 600000; omega, by show _ ≤ 7302250; omega⟩ (fun r68 M67 H locs h hP hS => ?_)
          refine lv_if_eq (tgt := 98) hx hb dL_law_91 (by decide) (fun c69 => ?_) (fun c69 => ?_)
          · replace h := h.1 c69
            refine lv_iconst (v := (0 : Int32)) hx hb dL_law_98 k_iconst_0 ?_
            refine lv_istore_n (lv' := [(2, .int (0 : Int32)), (3, .int x3), (0, .ref b), (1, .ref (G.2.1 + 0))]) hx hb dL_law_99 rfl hl (by decide) rfl (fun ls hl => ?_)
            obtain ⟨x3_70, ex3_70⟩ : ∃ y : Int32, y = x3 + (1 : Int32) := ⟨_, rfl⟩
            replace h := h x3_70 ex3_70
            refine lv_iinc (v := x3_70) (lv' := [(3, .int x3_70), (2, .int (0 : Int32)), (0, .ref b), (1, .ref (G.2.1 + 0))]) hx hb dL_law_100 hl (k := 1) rfl (by rw [ex3_70]; rfl) (by decide) rfl (fun ls hl => ?_)
            refine lv_goto (tgt := 65) hx hb dL_law_103 (by decide) ?_
            exact hA _ _ _ _ _ _ _ _ (by omega) (by omega) hP hS (lv_sub hl [1, 0, 2, 3] rfl) h
          · replace h := h.2 c69
            refine lv_iconst (v := (1 : Int32)) hx hb dL_law_94 k_iconst_1 ?_
            refine lv_goto (tgt := 99) hx hb dL_law_95 (by decide) ?_
            refine lv_istore_n (lv' := [(2, .int (1 : Int32)), (3, .int x3), (0, .ref b), (1, .ref (G.2.1 + 0))]) hx hb dL_law_99 rfl hl (by decide) rfl (fun ls hl => ?_)
            obtain ⟨x3_71, ex3_71⟩ : ∃ y : Int32, y = x3 + (1 : Int32) := ⟨_, rfl⟩
            replace h := h x3_71 ex3_71
            refine lv_iinc (v := x3_71) (lv' := [(3, .int x3_71), (2, .int (1 : Int32)), (0, .ref b), (1, .ref (G.2.1 + 0))]) hx hb dL_law_100 hl (k := 1) rfl (by rw [ex3_71]; rfl) (by decide) rfl (fun ls hl => ?_)
            refine lv_goto (tgt := 65) hx hb dL_law_103 (by decide) ?_
            exact hA _ _ _ _ _ _ _ _ (by omega) (by omega) hP hS (lv_sub hl [1, 0, 2, 3] rfl) h
set_option maxHeartbeats 40000000 in
set_option maxRecDepth 100000 in
theorem law_begin {p : Program} {e : Env} {s : State} {m : MethodId} {below : List Frame} {meth : Method} {c : Code} (l : Launch) {b L : Nat} {xs : Nat → Int32} (C0 : lw_At p s m meth c b L xs) (G : Gp) (hG : G.2.1 = s.heap.size) (hK : Kp G s) (n : Nat) (M : Mm) (H : Heap) (locs : List Loc) (ls : Array Slot) (cs sl : Nat) (hcs : cs + 2 * n ≤ 600000) (hsl : sl + 20 * n ≤ 7302250) (hP : Rp G M H) (hS : va_S (Fr0 G) s.heap H locs) (hl : lv_has ls 5 [(1, .ref (G.2.1 + 0)), (0, .ref b)]) (h : wL_law (lL_law xs L n) M) : W p l e room_1 s m #[Value.ref b] below meth c H locs cs sl (lw_Z below #[Value.ref b] s) (F0 m 8 ls []) := by
  have hA := fun M x2 x3 H locs ls cs sl => law_loop l C0 G hG hK n M x2 x3 H locs ls cs sl (below := below) (e := e)
  obtain ⟨hx, hb, hr, hml, hown, hts1, hX, hbl, hlocks, hgv⟩ := id C0
  have hts : ∀ w ∈ wsL_law, w.before #[Value.ref b] s = true := fun w hw => hts1 w (wsL_law_in w hw)
  have hbA : ¬ (Fr0 G) b := by show ¬ G.2.1 ≤ b; rw [hG]; omega
  have hbG : b < G.2.1 := by rw [hG]; exact hbl
  unfold wL_law at h
  refine lv_aload_n hx hb dL_law_8 rfl (lv_at hl 0 rfl) ?_
  refine rg_Si (As := [.ref (G.2.1 + 0)]) (rest := []) ⟨hx, hb, hml, hown, hts⟩ (mL_holds l G 0 M _ kd_0 h) (va_cwS 1 hts (gS_L_holds q_4_6) rfl rfl rfl hdS_L_holds ⟨Nat.le_of_ble_eq_true rfl, Nat.le_of_ble_eq_true rfl⟩) hK hP hS rfl hl.1 rfl (Nat.le_of_ble_eq_true rfl) dL_law_9 ⟨by show _ ≤ 600000; omega, by show _ ≤ 7302250; omega⟩ (fun r73 M72 H locs h hP hS => ?_)
  refine lv_if_eq (tgt := 61) hx hb dL_law_12 (by decide) (fun c74 => ?_) (fun c74 => ?_)
  · replace h := h.1 c74
    refine lv_iconst (v := (0 : Int32)) hx hb dL_law_61 k_iconst_0 ?_
    refine lv_istore_n (lv' := [(2, .int (0 : Int32)), (1, .ref (G.2.1 + 0)), (0, .ref b)]) hx hb dL_law_62 rfl hl (by decide) rfl (fun ls hl => ?_)
    refine lv_iconst (v := (0 : Int32)) hx hb dL_law_63 k_iconst_0 ?_
    refine lv_istore_n (lv' := [(3, .int (0 : Int32)), (2, .int (0 : Int32)), (1, .ref (G.2.1 + 0)), (0, .ref b)]) hx hb dL_law_64 rfl hl (by decide) rfl (fun ls hl => ?_)
    exact hA _ _ _ _ _ _ _ _ (by omega) (by omega) hP hS (lv_sub hl [1, 0, 3, 2] rfl) h
  · replace h := h.2 c74
    refine lv_aload_n hx hb dL_law_15 rfl (lv_at hl 0 rfl) ?_
    refine lv_iconst (v := (0 : Int32)) hx hb dL_law_16 k_iconst_0 ?_
    refine lv_iconst (v := (0 : Int32)) hx hb dL_law_17 k_iconst_0 ?_
    refine lv_bipush (v := (100 : Int32)) hx hb dL_law_18 k_bipush_100 ?_
    refine lv_bipush (v := (20 : Int32)) hx hb dL_law_20 k_bipush_20 ?_
    refine rg_Vi (As := [.int (0 : Int32), .int (0 : Int32), .int (100 : Int32), .int (20 : Int32)]) (rest := []) ⟨hx, hb, hml, hown, hts⟩ (mX6_canal l G 0 (0 : Int32) (0 : Int32) (100 : Int32) (20 : Int32) M72 _ kd_0 h) (cwV 4 hts (gV_X6_canal q_9_22) rfl rfl rfl hdV_X6_canal ⟨Nat.le_of_ble_eq_true rfl, Nat.le_of_ble_eq_true rfl⟩) hK hP hS kd_0 (by decide) cl_6 rfl hl.1 rfl (Nat.le_of_ble_eq_true rfl) dL_law_22 ⟨by show _ ≤ 600000; omega, by show _ ≤ 7302250; omega⟩ (fun r76 M75 H locs h hP hS => ?_)
    refine lv_iconst (v := (1 : Int32)) hx hb dL_law_25 k_iconst_1 ?_
    refine lv_icmp_ne (tgt := 61) hx hb dL_law_26 (by decide) (fun c77 => ?_) (fun c77 => ?_)
    · replace h := h.1 c77
      refine lv_iconst (v := (0 : Int32)) hx hb dL_law_61 k_iconst_0 ?_
      refine lv_istore_n (lv' := [(2, .int (0 : Int32)), (1, .ref (G.2.1 + 0)), (0, .ref b)]) hx hb dL_law_62 rfl hl (by decide) rfl (fun ls hl => ?_)
      refine lv_iconst (v := (0 : Int32)) hx hb dL_law_63 k_iconst_0 ?_
      refine lv_istore_n (lv' := [(3, .int (0 : Int32)), (2, .int (0 : Int32)), (1, .ref (G.2.1 + 0)), (0, .ref b)]) hx hb dL_law_64 rfl hl (by decide) rfl (fun ls hl => ?_)
      exact hA _ _ _ _ _ _ _ _ (by omega) (by omega) hP hS (lv_sub hl [1, 0, 3, 2] rfl) h
    · replace h := h.2 c77
      refine lv_aload_n hx hb dL_law_29 rfl (lv_at hl 0 rfl) ?_
      refine lv_iconst (v := (1 : Int32)) hx hb dL_law_30 k_iconst_1 ?_
      refine lv_bipush (v := (120 : Int32)) hx hb dL_law_31 k_bipush_120 ?_
      refine lv_bipush (v := (40 : Int32)) hx hb dL_law_33 k_bipush_40 ?_
      refine lv_iconst (v := (5 : Int32)) hx hb dL_law_35 k_iconst_5 ?_
      refine rg_Vi (As := [.int (1 : Int32), .int (120 : Int32), .int (40 : Int32), .int (5 : Int32)]) (rest := []) ⟨hx, hb, hml, hown, hts⟩ (mX6_field l G 0 (1 : Int32) (120 : Int32) (40 : Int32) (5 : Int32) M75 _ kd_0 h) (cwV 4 hts (gV_X6_field q_11_22) rfl rfl rfl hdV_X6_field ⟨Nat.le_of_ble_eq_true rfl, Nat.le_of_ble_eq_true rfl⟩) hK hP hS kd_0 (by decide) cl_6 rfl hl.1 rfl (Nat.le_of_ble_eq_true rfl) dL_law_36 ⟨by show _ ≤ 600000; omega, by show _ ≤ 7302250; omega⟩ (fun r79 M78 H locs h hP hS => ?_)
      refine lv_if_ne (tgt := 61) hx hb dL_law_39 (by decide) (fun c80 => ?_) (fun c80 => ?_)
      · replace h := h.1 c80
        refine lv_iconst (v := (0 : Int32)) hx hb dL_law_61 k_iconst_0 ?_
        refine lv_istore_n (lv' := [(2, .int (0 : Int32)), (1, .ref (G.2.1 + 0)), (0, .ref b)]) hx hb dL_law_62 rfl hl (by decide) rfl (fun ls hl => ?_)
        refine lv_iconst (v := (0 : Int32)) hx hb dL_law_63 k_iconst_0 ?_
        refine lv_istore_n (lv' := [(3, .int (0 : Int32)), (2, .int (0 : Int32)), (1, .ref (G.2.1 + 0)), (0, .ref b)]) hx hb dL_law_64 rfl hl (by decide) rfl (fun ls hl => ?_)
        exact hA _ _ _ _ _ _ _ _ (by omega) (by omega) hP hS (lv_sub hl [1, 0, 3, 2] rfl) h
      · replace h := h.2 c80
        refine lv_aload_n hx hb dL_law_42 rfl (lv_at hl 0 rfl) ?_
        refine lv_iconst (v := (0 : Int32)) hx hb dL_law_43 k_iconst_0 ?_
        refine lv_bipush (v := (90 : Int32)) hx hb dL_law_44 k_bipush_90 ?_
        refine lv_bipush (v := (30 : Int32)) hx hb dL_law_46 k_bipush_30 ?_
        refine lv_bipush (v := (9 : Int32)) hx hb dL_law_48 k_bipush_9 ?_
        refine rg_Vi (As := [.int (0 : Int32), .int (90 : Int32), .int (30 : Int32), .int (9 : Int32)]) (rest := []) ⟨hx, hb, hml, hown, hts⟩ (mX6_field l G 0 (0 : Int32) (90 : Int32) (30 : Int32) (9 : Int32) M78 _ kd_0 h) (cwV 4 hts (gV_X6_field q_11_22) rfl rfl rfl hdV_X6_field ⟨Nat.le_of_ble_eq_true rfl, Nat.le_of_ble_eq_true rfl⟩) hK hP hS kd_0 (by decide) cl_6 rfl hl.1 rfl (Nat.le_of_ble_eq_true rfl) dL_law_50 ⟨by show _ ≤ 600000; omega, by show _ ≤ 7302250; omega⟩ (fun r82 M81 H locs h hP hS => ?_)
        refine lv_iconst (v := (1 : Int32)) hx hb dL_law_53 k_iconst_1 ?_
        refine lv_icmp_ne (tgt := 61) hx hb dL_law_54 (by decide) (fun c83 => ?_) (fun c83 => ?_)
        · replace h := h.1 c83
          refine lv_iconst (v := (0 : Int32)) hx hb dL_law_61 k_iconst_0 ?_
          refine lv_istore_n (lv' := [(2, .int (0 : Int32)), (1, .ref (G.2.1 + 0)), (0, .ref b)]) hx hb dL_law_62 rfl hl (by decide) rfl (fun ls hl => ?_)
          refine lv_iconst (v := (0 : Int32)) hx hb dL_law_63 k_iconst_0 ?_
          refine lv_istore_n (lv' := [(3, .int (0 : Int32)), (2, .int (0 : Int32)), (1, .ref (G.2.1 + 0)), (0, .ref b)]) hx hb dL_law_64 rfl hl (by decide) rfl (fun ls hl => ?_)
          exact hA _ _ _ _ _ _ _ _ (by omega) (by omega) hP hS (lv_sub hl [1, 0, 3, 2] rfl) h
        · replace h := h.2 c83
          refine lv_iconst (v := (1 : Int32)) hx hb dL_law_57 k_iconst_1 ?_
          refine lv_goto (tgt := 62) hx hb dL_law_58 (by decide) ?_
          refine lv_istore_n (lv' := [(2, .int (1 : Int32)), (1, .ref (G.2.1 + 0)), (0, .ref b)]) hx hb dL_law_62 rfl hl (by decide) rfl (fun ls hl => ?_)
          refine lv_iconst (v := (0 : Int32)) hx hb dL_law_63 k_iconst_0 ?_
          refine lv_istore_n (lv' := [(3, .int (0 : Int32)), (2, .int (1 : Int32)), (1, .ref (G.2.1 + 0)), (0, .ref b)]) hx hb dL_law_64 rfl hl (by decide) rfl (fun ls hl => ?_)
          exact hA _ _ _ _ _ _ _ _ (by omega) (by omega) hP hS (lv_sub hl [1, 0, 3, 2] rfl) h
