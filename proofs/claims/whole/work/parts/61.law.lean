/-! the law: printed by gen.py -/
theorem kd_0 : kd 0 = 6 := rfl
theorem kd_143 : kd 143 = 7 := rfl
set_option maxHeartbeats 40000000 in
set_option maxRecDepth 100000 in
theorem law_loop {p : Program} {e : Env} {s : State} {m : MethodId} {below : List Frame} {meth : Method} {c : Code} (l : Launch) {b L : Nat} {xs : Nat → Int32} (C0 : lw_At p s m meth c b L xs) (G : Gp) (hG : G.2.1 = s.heap.size) (hK : Kp G s) : ∀ (n : Nat) (M : Mm) (x3 : Int32) (H : Heap) (locs : List Loc) (ls : Array Slot), Rp G M H → va_S (Fr G) s.heap H locs → lv_has ls 4 [(3, .int x3), (0, .ref b), (1, .ref (G.2.1 + 0)), (2, .ref (G.2.1 + 143))] → lL_law xs L n M x3 → W p l e room_1 s m #[Value.ref b] below meth c H locs 600000 7302250 (lw_Z below #[Value.ref b] s) (F0 m 18 ls []) := by
  obtain ⟨hx, hb, hr, hml, hown, hts1, hX, hbl, hlocks, hgv⟩ := id C0
  have hts : ∀ w ∈ wsL_law, w.before #[Value.ref b] s = true := fun w hw => hts1 w (wsL_law_in w hw)
  have hbA : ¬ (Fr G) b := by show ¬ G.2.1 ≤ b; rw [hG]; omega
  have hd0 := Drawn.sameBut.refl s.drawn lw_cs
  intro n
  induction n with
  | zero => intro M x3 H locs ls hP hS hl h; exact h.elim
  | succ n ih =>
    intro M x3 H locs ls hP hS hl h
    have hA := ih
    replace h : bL_law xs L (lL_law xs L n) M x3 := h
    unfold bL_law at h
    refine lv_iload_n hx hb dL_law_18 rfl (lv_at hl 0 rfl) ?_
    refine lv_aload_n hx hb dL_law_19 rfl (lv_at hl 1 rfl) ?_
    refine va_slen hx hb hX hbl hbA hS dL_law_20 ?_
    refine lv_iconst (v := (5 : Int32)) hx hb dL_law_21 k_iconst_5 ?_
    refine lv_isub hx hb dL_law_22 ?_
    refine lv_icmp_gt (tgt := 876) hx hb dL_law_23 (by decide) (fun c1 => ?_) (fun c1 => ?_)
    · replace h := h.1 c1
      refine lv_iconst (v := (1 : Int32)) hx hb dL_law_876 k_iconst_1 ?_
      exact law_end hd0 hx hb hr hlocks hG hS dL_law_877
    · replace h := h.2 c1
      refine lv_aload_n hx hb dL_law_26 rfl (lv_at hl 1 rfl) ?_
      refine lv_iload_n hx hb dL_law_27 rfl (lv_at hl 0 rfl) ?_
      refine va_sld hx hb hX hbl hbA hS h.1 dL_law_28 ?_
      replace h := h.2
      refine lv_bipush (v := (31 : Int32)) hx hb dL_law_29 k_bipush_31 ?_
      refine lv_iand hx hb dL_law_31 ?_
      refine lv_topi (fun sw2 esw2 => ?_)
      replace h := h sw2 esw2
      by_cases c3 : sw2 = (0 : Int32)
      · replace h := h.1 c3
        refine lv_tableIn (off := 120) (tgt := 152) hx hb dL_law_32 (by rw [c3]; decide) (by rw [c3]; decide) (by rw [c3]; rfl) (by decide) ?_
        refine lv_aload_n hx hb dL_law_152 rfl (lv_at hl 2 rfl) ?_
        refine lv_aload_n hx hb dL_law_153 rfl (lv_at hl 1 rfl) ?_
        refine lv_iload_n hx hb dL_law_154 rfl (lv_at hl 0 rfl) ?_
        refine lv_iconst (v := (1 : Int32)) hx hb dL_law_155 k_iconst_1 ?_
        refine lv_iadd hx hb dL_law_156 ?_
        refine va_sld hx hb hX hbl hbA hS h.1 dL_law_157 ?_
        replace h := h.2
        refine lv_aload_n hx hb dL_law_158 rfl (lv_at hl 1 rfl) ?_
        refine lv_iload_n hx hb dL_law_159 rfl (lv_at hl 0 rfl) ?_
        refine lv_iconst (v := (2 : Int32)) hx hb dL_law_160 k_iconst_2 ?_
        refine lv_iadd hx hb dL_law_161 ?_
        refine va_sld hx hb hX hbl hbA hS h.1 dL_law_162 ?_
        replace h := h.2
        refine lv_aload_n hx hb dL_law_163 rfl (lv_at hl 1 rfl) ?_
        refine lv_iload_n hx hb dL_law_164 rfl (lv_at hl 0 rfl) ?_
        refine lv_iconst (v := (3 : Int32)) hx hb dL_law_165 k_iconst_3 ?_
        refine lv_iadd hx hb dL_law_166 ?_
        refine va_sld hx hb hX hbl hbA hS h.1 dL_law_167 ?_
        replace h := h.2
        refine lv_aload_n hx hb dL_law_168 rfl (lv_at hl 1 rfl) ?_
        refine lv_iload_n hx hb dL_law_169 rfl (lv_at hl 0 rfl) ?_
        refine lv_iconst (v := (4 : Int32)) hx hb dL_law_170 k_iconst_4 ?_
        refine lv_iadd hx hb dL_law_171 ?_
        refine va_sld hx hb hX hbl hbA hS h.1 dL_law_172 ?_
        replace h := h.2
        refine rc_Vi (As := [.int (xs (ix (x3 + (1 : Int32)))), .int (xs (ix (x3 + (2 : Int32)))), .int (xs (ix (x3 + (3 : Int32)))), .int (xs (ix (x3 + (4 : Int32))))]) (rest := []) ⟨hx, hb, hml, hown, hts⟩ (mX6_canal l G 0 (xs (ix (x3 + (1 : Int32)))) (xs (ix (x3 + (2 : Int32)))) (xs (ix (x3 + (3 : Int32)))) (xs (ix (x3 + (4 : Int32)))) M _ kd_0 h) (cwV 4 hts (gV_X6_canal q_4_20) rfl rfl rfl hdV_X6_canal ⟨Nat.le_of_ble_eq_true rfl, Nat.le_of_ble_eq_true rfl⟩) hK hP hS kd_0 (by decide) cl_6 rfl hl.1 rfl (Nat.le_of_ble_eq_true rfl) dL_law_173 ⟨Nat.le_refl _, Nat.le_refl _⟩ (fun r5 M4 H locs h hP hS => ?_)
        refine lv_aload_n hx hb dL_law_176 rfl (lv_at hl 3 rfl) ?_
        refine lv_aload_n hx hb dL_law_177 rfl (lv_at hl 1 rfl) ?_
        refine lv_iload_n hx hb dL_law_178 rfl (lv_at hl 0 rfl) ?_
        refine lv_iconst (v := (1 : Int32)) hx hb dL_law_179 k_iconst_1 ?_
        refine lv_iadd hx hb dL_law_180 ?_
        refine va_sld hx hb hX hbl hbA hS h.1 dL_law_181 ?_
        replace h := h.2
        refine lv_aload_n hx hb dL_law_182 rfl (lv_at hl 1 rfl) ?_
        refine lv_iload_n hx hb dL_law_183 rfl (lv_at hl 0 rfl) ?_
        refine lv_iconst (v := (2 : Int32)) hx hb dL_law_184 k_iconst_2 ?_
        refine lv_iadd hx hb dL_law_185 ?_
        refine va_sld hx hb hX hbl hbA hS h.1 dL_law_186 ?_
        replace h := h.2
        refine lv_aload_n hx hb dL_law_187 rfl (lv_at hl 1 rfl) ?_
        refine lv_iload_n hx hb dL_law_188 rfl (lv_at hl 0 rfl) ?_
        refine lv_iconst (v := (3 : Int32)) hx hb dL_law_189 k_iconst_3 ?_
        refine lv_iadd hx hb dL_law_190 ?_
        refine va_sld hx hb hX hbl hbA hS h.1 dL_law_191 ?_
        replace h := h.2
        refine lv_aload_n hx hb dL_law_192 rfl (lv_at hl 1 rfl) ?_
        refine lv_iload_n hx hb dL_law_193 rfl (lv_at hl 0 rfl) ?_
        refine lv_iconst (v := (4 : Int32)) hx hb dL_law_194 k_iconst_4 ?_
        refine lv_iadd hx hb dL_law_195 ?_
        refine va_sld hx hb hX hbl hbA hS h.1 dL_law_196 ?_
        replace h := h.2
        refine rc_Vi (As := [.int (xs (ix (x3 + (1 : Int32)))), .int (xs (ix (x3 + (2 : Int32)))), .int (xs (ix (x3 + (3 : Int32)))), .int (xs (ix (x3 + (4 : Int32))))]) (rest := [.int r5]) ⟨hx, hb, hml, hown, hts⟩ (mX7_canal l G 143 (xs (ix (x3 + (1 : Int32)))) (xs (ix (x3 + (2 : Int32)))) (xs (ix (x3 + (3 : Int32)))) (xs (ix (x3 + (4 : Int32)))) M4 _ kd_143 h) (cwV 4 hts (gV_X7_canal q_7_9) rfl rfl rfl hdV_X7_canal ⟨Nat.le_of_ble_eq_true rfl, Nat.le_of_ble_eq_true rfl⟩) hK hP hS kd_143 (by decide) cl_7 rfl hl.1 rfl (Nat.le_of_ble_eq_true rfl) dL_law_197 ⟨Nat.le_refl _, Nat.le_refl _⟩ (fun r7 M6 H locs h hP hS => ?_)
        refine lv_icmp_eq (tgt := 870) hx hb dL_law_200 (by decide) (fun c8 => ?_) (fun c8 => ?_)
        · replace h := h.1 c8
          obtain ⟨x3_9, ex3_9⟩ : ∃ y : Int32, y = x3 + (5 : Int32) := ⟨_, rfl⟩
          replace h := h x3_9 ex3_9
          refine lv_iinc (v := x3_9) (lv' := [(3, .int x3_9), (0, .ref b), (1, .ref (G.2.1 + 0)), (2, .ref (G.2.1 + 143))]) hx hb dL_law_870 hl (k := 0) rfl (by rw [ex3_9]; rfl) (by decide) rfl (fun ls hl => ?_)
          refine lv_goto (tgt := 18) hx hb dL_law_873 (by decide) ?_
          exact hA _ _ _ _ _ hP hS (lv_sub hl [0, 1, 2, 3] rfl) h
        · replace h := h.2 c8
          refine lv_iconst (v := (0 : Int32)) hx hb dL_law_203 k_iconst_0 ?_
          exact h.elim
      replace h := h.2 c3
      by_cases c10 : sw2 = (1 : Int32)
      · replace h := h.1 c10
        refine lv_tableIn (off := 173) (tgt := 205) hx hb dL_law_32 (by rw [c10]; decide) (by rw [c10]; decide) (by rw [c10]; rfl) (by decide) ?_
        refine lv_aload_n hx hb dL_law_205 rfl (lv_at hl 2 rfl) ?_
        refine lv_aload_n hx hb dL_law_206 rfl (lv_at hl 1 rfl) ?_
        refine lv_iload_n hx hb dL_law_207 rfl (lv_at hl 0 rfl) ?_
        refine lv_iconst (v := (1 : Int32)) hx hb dL_law_208 k_iconst_1 ?_
        refine lv_iadd hx hb dL_law_209 ?_
        refine va_sld hx hb hX hbl hbA hS h.1 dL_law_210 ?_
        replace h := h.2
        refine lv_aload_n hx hb dL_law_211 rfl (lv_at hl 1 rfl) ?_
        refine lv_iload_n hx hb dL_law_212 rfl (lv_at hl 0 rfl) ?_
        refine lv_iconst (v := (2 : Int32)) hx hb dL_law_213 k_iconst_2 ?_
        refine lv_iadd hx hb dL_law_214 ?_
        refine va_sld hx hb hX hbl hbA hS h.1 dL_law_215 ?_
        replace h := h.2
        refine lv_aload_n hx hb dL_law_216 rfl (lv_at hl 1 rfl) ?_
        refine lv_iload_n hx hb dL_law_217 rfl (lv_at hl 0 rfl) ?_
        refine lv_iconst (v := (3 : Int32)) hx hb dL_law_218 k_iconst_3 ?_
        refine lv_iadd hx hb dL_law_219 ?_
        refine va_sld hx hb hX hbl hbA hS h.1 dL_law_220 ?_
        replace h := h.2
        refine lv_aload_n hx hb dL_law_221 rfl (lv_at hl 1 rfl) ?_
        refine lv_iload_n hx hb dL_law_222 rfl (lv_at hl 0 rfl) ?_
        refine lv_iconst (v := (4 : Int32)) hx hb dL_law_223 k_iconst_4 ?_
        refine lv_iadd hx hb dL_law_224 ?_
        refine va_sld hx hb hX hbl hbA hS h.1 dL_law_225 ?_
        replace h := h.2
        refine rc_Vi (As := [.int (xs (ix (x3 + (1 : Int32)))), .int (xs (ix (x3 + (2 : Int32)))), .int (xs (ix (x3 + (3 : Int32)))), .int (xs (ix (x3 + (4 : Int32))))]) (rest := []) ⟨hx, hb, hml, hown, hts⟩ (mX6_field l G 0 (xs (ix (x3 + (1 : Int32)))) (xs (ix (x3 + (2 : Int32)))) (xs (ix (x3 + (3 : Int32)))) (xs (ix (x3 + (4 : Int32)))) M _ kd_0 h) (cwV 4 hts (gV_X6_field q_8_7) rfl rfl rfl hdV_X6_field ⟨Nat.le_of_ble_eq_true rfl, Nat.le_of_ble_eq_true rfl⟩) hK hP hS kd_0 (by decide) cl_6 rfl hl.1 rfl (Nat.le_of_ble_eq_true rfl) dL_law_226 ⟨Nat.le_refl _, Nat.le_refl _⟩ (fun r12 M11 H locs h hP hS => ?_)
        refine lv_aload_n hx hb dL_law_229 rfl (lv_at hl 3 rfl) ?_
        refine lv_aload_n hx hb dL_law_230 rfl (lv_at hl 1 rfl) ?_
        refine lv_iload_n hx hb dL_law_231 rfl (lv_at hl 0 rfl) ?_
        refine lv_iconst (v := (1 : Int32)) hx hb dL_law_232 k_iconst_1 ?_
        refine lv_iadd hx hb dL_law_233 ?_
        refine va_sld hx hb hX hbl hbA hS h.1 dL_law_234 ?_
        replace h := h.2
        refine lv_aload_n hx hb dL_law_235 rfl (lv_at hl 1 rfl) ?_
        refine lv_iload_n hx hb dL_law_236 rfl (lv_at hl 0 rfl) ?_
        refine lv_iconst (v := (2 : Int32)) hx hb dL_law_237 k_iconst_2 ?_
        refine lv_iadd hx hb dL_law_238 ?_
        refine va_sld hx hb hX hbl hbA hS h.1 dL_law_239 ?_
        replace h := h.2
        refine lv_aload_n hx hb dL_law_240 rfl (lv_at hl 1 rfl) ?_
        refine lv_iload_n hx hb dL_law_241 rfl (lv_at hl 0 rfl) ?_
        refine lv_iconst (v := (3 : Int32)) hx hb dL_law_242 k_iconst_3 ?_
        refine lv_iadd hx hb dL_law_243 ?_
        refine va_sld hx hb hX hbl hbA hS h.1 dL_law_244 ?_
        replace h := h.2
        refine lv_aload_n hx hb dL_law_245 rfl (lv_at hl 1 rfl) ?_
        refine lv_iload_n hx hb dL_law_246 rfl (lv_at hl 0 rfl) ?_
        refine lv_iconst (v := (4 : Int32)) hx hb dL_law_247 k_iconst_4 ?_
        refine lv_iadd hx hb dL_law_248 ?_
        refine va_sld hx hb hX hbl hbA hS h.1 dL_law_249 ?_
        replace h := h.2
        refine rc_Vi (As := [.int (xs (ix (x3 + (1 : Int32)))), .int (xs (ix (x3 + (2 : Int32)))), .int (xs (ix (x3 + (3 : Int32)))), .int (xs (ix (x3 + (4 : Int32))))]) (rest := [.int r12]) ⟨hx, hb, hml, hown, hts⟩ (mX7_field l G 143 (xs (ix (x3 + (1 : Int32)))) (xs (ix (x3 + (2 : Int32)))) (xs (ix (x3 + (3 : Int32)))) (xs (ix (x3 + (4 : Int32)))) M11 _ kd_143 h) (cwV 4 hts (gV_X7_field q_8_17) rfl rfl rfl hdV_X7_field ⟨Nat.le_of_ble_eq_true rfl, Nat.le_of_ble_eq_true rfl⟩) hK hP hS kd_143 (by decide) cl_7 rfl hl.1 rfl (Nat.le_of_ble_eq_true rfl) dL_law_250 ⟨Nat.le_refl _, Nat.le_refl _⟩ (fun r14 M13 H locs h hP hS => ?_)
        refine lv_icmp_eq (tgt := 870) hx hb dL_law_253 (by decide) (fun c15 => ?_) (fun c15 => ?_)
        · replace h := h.1 c15
          obtain ⟨x3_16, ex3_16⟩ : ∃ y : Int32, y = x3 + (5 : Int32) := ⟨_, rfl⟩
          replace h := h x3_16 ex3_16
          refine lv_iinc (v := x3_16) (lv' := [(3, .int x3_16), (0, .ref b), (1, .ref (G.2.1 + 0)), (2, .ref (G.2.1 + 143))]) hx hb dL_law_870 hl (k := 0) rfl (by rw [ex3_16]; rfl) (by decide) rfl (fun ls hl => ?_)
          refine lv_goto (tgt := 18) hx hb dL_law_873 (by decide) ?_
          exact hA _ _ _ _ _ hP hS (lv_sub hl [0, 1, 2, 3] rfl) h
        · replace h := h.2 c15
          refine lv_iconst (v := (0 : Int32)) hx hb dL_law_256 k_iconst_0 ?_
          exact h.elim
      replace h := h.2 c10
      by_cases c17 : sw2 = (2 : Int32)
      · replace h := h.1 c17
        refine lv_tableIn (off := 226) (tgt := 258) hx hb dL_law_32 (by rw [c17]; decide) (by rw [c17]; decide) (by rw [c17]; rfl) (by decide) ?_
        refine lv_aload_n hx hb dL_law_258 rfl (lv_at hl 2 rfl) ?_
        refine lv_aload_n hx hb dL_law_259 rfl (lv_at hl 1 rfl) ?_
        refine lv_iload_n hx hb dL_law_260 rfl (lv_at hl 0 rfl) ?_
        refine lv_iconst (v := (1 : Int32)) hx hb dL_law_261 k_iconst_1 ?_
        refine lv_iadd hx hb dL_law_262 ?_
        refine va_sld hx hb hX hbl hbA hS h.1 dL_law_263 ?_
        replace h := h.2
        refine lv_aload_n hx hb dL_law_264 rfl (lv_at hl 1 rfl) ?_
        refine lv_iload_n hx hb dL_law_265 rfl (lv_at hl 0 rfl) ?_
        refine lv_iconst (v := (2 : Int32)) hx hb dL_law_266 k_iconst_2 ?_
        refine lv_iadd hx hb dL_law_267 ?_
        refine va_sld hx hb hX hbl hbA hS h.1 dL_law_268 ?_
        replace h := h.2
        refine rc_Vi (As := [.int (xs (ix (x3 + (1 : Int32)))), .int (xs (ix (x3 + (2 : Int32))))]) (rest := []) ⟨hx, hb, hml, hown, hts⟩ (mX6_tend l G 0 (xs (ix (x3 + (1 : Int32)))) (xs (ix (x3 + (2 : Int32)))) M _ kd_0 h) (cwV 2 hts (gV_X6_tend q_8_21) rfl rfl rfl hdV_X6_tend ⟨Nat.le_of_ble_eq_true rfl, Nat.le_of_ble_eq_true rfl⟩) hK hP hS kd_0 (by decide) cl_6 rfl hl.1 rfl (Nat.le_of_ble_eq_true rfl) dL_law_269 ⟨Nat.le_refl _, Nat.le_refl _⟩ (fun r19 M18 H locs h hP hS => ?_)
        refine lv_aload_n hx hb dL_law_272 rfl (lv_at hl 3 rfl) ?_
        refine lv_aload_n hx hb dL_law_273 rfl (lv_at hl 1 rfl) ?_
        refine lv_iload_n hx hb dL_law_274 rfl (lv_at hl 0 rfl) ?_
        refine lv_iconst (v := (1 : Int32)) hx hb dL_law_275 k_iconst_1 ?_
        refine lv_iadd hx hb dL_law_276 ?_
        refine va_sld hx hb hX hbl hbA hS h.1 dL_law_277 ?_
        replace h := h.2
        refine lv_aload_n hx hb dL_law_278 rfl (lv_at hl 1 rfl) ?_
        refine lv_iload_n hx hb dL_law_279 rfl (lv_at hl 0 rfl) ?_
        refine lv_iconst (v := (2 : Int32)) hx hb dL_law_280 k_iconst_2 ?_
        refine lv_iadd hx hb dL_law_281 ?_
        refine va_sld hx hb hX hbl hbA hS h.1 dL_law_282 ?_
        replace h := h.2
        refine rc_Vi (As := [.int (xs (ix (x3 + (1 : Int32)))), .int (xs (ix (x3 + (2 : Int32))))]) (rest := [.int r19]) ⟨hx, hb, hml, hown, hts⟩ (mX7_tend l G 143 (xs (ix (x3 + (1 : Int32)))) (xs (ix (x3 + (2 : Int32)))) M18 _ kd_143 h) (cwV 2 hts (gV_X7_tend q_9_19) rfl rfl rfl hdV_X7_tend ⟨Nat.le_of_ble_eq_true rfl, Nat.le_of_ble_eq_true rfl⟩) hK hP hS kd_143 (by decide) cl_7 rfl hl.1 rfl (Nat.le_of_ble_eq_true rfl) dL_law_283 ⟨Nat.le_refl _, Nat.le_refl _⟩ (fun r21 M20 H locs h hP hS => ?_)
        refine lv_icmp_eq (tgt := 870) hx hb dL_law_286 (by decide) (fun c22 => ?_) (fun c22 => ?_)
        · replace h := h.1 c22
          obtain ⟨x3_23, ex3_23⟩ : ∃ y : Int32, y = x3 + (5 : Int32) := ⟨_, rfl⟩
          replace h := h x3_23 ex3_23
          refine lv_iinc (v := x3_23) (lv' := [(3, .int x3_23), (0, .ref b), (1, .ref (G.2.1 + 0)), (2, .ref (G.2.1 + 143))]) hx hb dL_law_870 hl (k := 0) rfl (by rw [ex3_23]; rfl) (by decide) rfl (fun ls hl => ?_)
          refine lv_goto (tgt := 18) hx hb dL_law_873 (by decide) ?_
          exact hA _ _ _ _ _ hP hS (lv_sub hl [0, 1, 2, 3] rfl) h
        · replace h := h.2 c22
          refine lv_iconst (v := (0 : Int32)) hx hb dL_law_289 k_iconst_0 ?_
          exact h.elim
      replace h := h.2 c17
      by_cases c24 : sw2 = (3 : Int32)
      · replace h := h.1 c24
        refine lv_tableIn (off := 259) (tgt := 291) hx hb dL_law_32 (by rw [c24]; decide) (by rw [c24]; decide) (by rw [c24]; rfl) (by decide) ?_
        refine lv_aload_n hx hb dL_law_291 rfl (lv_at hl 2 rfl) ?_
        refine lv_aload_n hx hb dL_law_292 rfl (lv_at hl 1 rfl) ?_
        refine lv_iload_n hx hb dL_law_293 rfl (lv_at hl 0 rfl) ?_
        refine lv_iconst (v := (1 : Int32)) hx hb dL_law_294 k_iconst_1 ?_
        refine lv_iadd hx hb dL_law_295 ?_
        refine va_sld hx hb hX hbl hbA hS h.1 dL_law_296 ?_
        replace h := h.2
        refine rc_Vi (As := [.int (xs (ix (x3 + (1 : Int32))))]) (rest := []) ⟨hx, hb, hml, hown, hts⟩ (mX6_leave l G 0 (xs (ix (x3 + (1 : Int32)))) M _ kd_0 h) (cwV 1 hts (gV_X6_leave q_10_12) rfl rfl rfl hdV_X6_leave ⟨Nat.le_of_ble_eq_true rfl, Nat.le_of_ble_eq_true rfl⟩) hK hP hS kd_0 (by decide) cl_6 rfl hl.1 rfl (Nat.le_of_ble_eq_true rfl) dL_law_297 ⟨Nat.le_refl _, Nat.le_refl _⟩ (fun r26 M25 H locs h hP hS => ?_)
        refine lv_aload_n hx hb dL_law_300 rfl (lv_at hl 3 rfl) ?_
        refine lv_aload_n hx hb dL_law_301 rfl (lv_at hl 1 rfl) ?_
        refine lv_iload_n hx hb dL_law_302 rfl (lv_at hl 0 rfl) ?_
        refine lv_iconst (v := (1 : Int32)) hx hb dL_law_303 k_iconst_1 ?_
        refine lv_iadd hx hb dL_law_304 ?_
        refine va_sld hx hb hX hbl hbA hS h.1 dL_law_305 ?_
        replace h := h.2
        refine rc_Vi (As := [.int (xs (ix (x3 + (1 : Int32))))]) (rest := [.int r26]) ⟨hx, hb, hml, hown, hts⟩ (mX7_leave l G 143 (xs (ix (x3 + (1 : Int32)))) M25 _ kd_143 h) (cwV 1 hts (gV_X7_leave q_10_16) rfl rfl rfl hdV_X7_leave ⟨Nat.le_of_ble_eq_true rfl, Nat.le_of_ble_eq_true rfl⟩) hK hP hS kd_143 (by decide) cl_7 rfl hl.1 rfl (Nat.le_of_ble_eq_true rfl) dL_law_306 ⟨Nat.le_refl _, Nat.le_refl _⟩ (fun r28 M27 H locs h hP hS => ?_)
        refine lv_icmp_eq (tgt := 870) hx hb dL_law_309 (by decide) (fun c29 => ?_) (fun c29 => ?_)
        · replace h := h.1 c29
          obtain ⟨x3_30, ex3_30⟩ : ∃ y : Int32, y = x3 + (5 : Int32) := ⟨_, rfl⟩
          replace h := h x3_30 ex3_30
          refine lv_iinc (v := x3_30) (lv' := [(3, .int x3_30), (0, .ref b), (1, .ref (G.2.1 + 0)), (2, .ref (G.2.1 + 143))]) hx hb dL_law_870 hl (k := 0) rfl (by rw [ex3_30]; rfl) (by decide) rfl (fun ls hl => ?_)
          refine lv_goto (tgt := 18) hx hb dL_law_873 (by decide) ?_
          exact hA _ _ _ _ _ hP hS (lv_sub hl [0, 1, 2, 3] rfl) h
        · replace h := h.2 c29
          refine lv_iconst (v := (0 : Int32)) hx hb dL_law_312 k_iconst_0 ?_
          exact h.elim
      replace h := h.2 c24
      by_cases c31 : sw2 = (4 : Int32)
      · replace h := h.1 c31
        refine lv_tableIn (off := 282) (tgt := 314) hx hb dL_law_32 (by rw [c31]; decide) (by rw [c31]; decide) (by rw [c31]; rfl) (by decide) ?_
        refine lv_aload_n hx hb dL_law_314 rfl (lv_at hl 2 rfl) ?_
        refine lv_aload_n hx hb dL_law_315 rfl (lv_at hl 1 rfl) ?_
        refine lv_iload_n hx hb dL_law_316 rfl (lv_at hl 0 rfl) ?_
        refine lv_iconst (v := (1 : Int32)) hx hb dL_law_317 k_iconst_1 ?_
        refine lv_iadd hx hb dL_law_318 ?_
        refine va_sld hx hb hX hbl hbA hS h.1 dL_law_319 ?_
        replace h := h.2
        refine rc_Vi (As := [.int (xs (ix (x3 + (1 : Int32))))]) (rest := []) ⟨hx, hb, hml, hown, hts⟩ (mX6_open l G 0 (xs (ix (x3 + (1 : Int32)))) M _ kd_0 h) (cwV 1 hts (gV_X6_open q_10_20) rfl rfl rfl hdV_X6_open ⟨Nat.le_of_ble_eq_true rfl, Nat.le_of_ble_eq_true rfl⟩) hK hP hS kd_0 (by decide) cl_6 rfl hl.1 rfl (Nat.le_of_ble_eq_true rfl) dL_law_320 ⟨Nat.le_refl _, Nat.le_refl _⟩ (fun r33 M32 H locs h hP hS => ?_)
        refine lv_aload_n hx hb dL_law_323 rfl (lv_at hl 3 rfl) ?_
        refine lv_aload_n hx hb dL_law_324 rfl (lv_at hl 1 rfl) ?_
        refine lv_iload_n hx hb dL_law_325 rfl (lv_at hl 0 rfl) ?_
        refine lv_iconst (v := (1 : Int32)) hx hb dL_law_326 k_iconst_1 ?_
        refine lv_iadd hx hb dL_law_327 ?_
        refine va_sld hx hb hX hbl hbA hS h.1 dL_law_328 ?_
        replace h := h.2
        refine rc_Vi (As := [.int (xs (ix (x3 + (1 : Int32))))]) (rest := [.int r33]) ⟨hx, hb, hml, hown, hts⟩ (mX7_open l G 143 (xs (ix (x3 + (1 : Int32)))) M32 _ kd_143 h) (cwV 1 hts (gV_X7_open q_11_13) rfl rfl rfl hdV_X7_open ⟨Nat.le_of_ble_eq_true rfl, Nat.le_of_ble_eq_true rfl⟩) hK hP hS kd_143 (by decide) cl_7 rfl hl.1 rfl (Nat.le_of_ble_eq_true rfl) dL_law_329 ⟨Nat.le_refl _, Nat.le_refl _⟩ (fun r35 M34 H locs h hP hS => ?_)
        refine lv_icmp_eq (tgt := 870) hx hb dL_law_332 (by decide) (fun c36 => ?_) (fun c36 => ?_)
        · replace h := h.1 c36
          obtain ⟨x3_37, ex3_37⟩ : ∃ y : Int32, y = x3 + (5 : Int32) := ⟨_, rfl⟩
          replace h := h x3_37 ex3_37
          refine lv_iinc (v := x3_37) (lv' := [(3, .int x3_37), (0, .ref b), (1, .ref (G.2.1 + 0)), (2, .ref (G.2.1 + 143))]) hx hb dL_law_870 hl (k := 0) rfl (by rw [ex3_37]; rfl) (by decide) rfl (fun ls hl => ?_)
          refine lv_goto (tgt := 18) hx hb dL_law_873 (by decide) ?_
          exact hA _ _ _ _ _ hP hS (lv_sub hl [0, 1, 2, 3] rfl) h
        · replace h := h.2 c36
          refine lv_iconst (v := (0 : Int32)) hx hb dL_law_335 k_iconst_0 ?_
          exact h.elim
      replace h := h.2 c31
      by_cases c38 : sw2 = (5 : Int32)
      · replace h := h.1 c38
        refine lv_tableIn (off := 305) (tgt := 337) hx hb dL_law_32 (by rw [c38]; decide) (by rw [c38]; decide) (by rw [c38]; rfl) (by decide) ?_
        refine lv_aload_n hx hb dL_law_337 rfl (lv_at hl 2 rfl) ?_
        refine lv_aload_n hx hb dL_law_338 rfl (lv_at hl 1 rfl) ?_
        refine lv_iload_n hx hb dL_law_339 rfl (lv_at hl 0 rfl) ?_
        refine lv_iconst (v := (1 : Int32)) hx hb dL_law_340 k_iconst_1 ?_
        refine lv_iadd hx hb dL_law_341 ?_
        refine va_sld hx hb hX hbl hbA hS h.1 dL_law_342 ?_
        replace h := h.2
        refine rc_Vi (As := [.int (xs (ix (x3 + (1 : Int32))))]) (rest := []) ⟨hx, hb, hml, hown, hts⟩ (mX6_close l G 0 (xs (ix (x3 + (1 : Int32)))) M _ kd_0 h) (cwV 1 hts (gV_X6_close q_12_1) rfl rfl rfl hdV_X6_close ⟨Nat.le_of_ble_eq_true rfl, Nat.le_of_ble_eq_true rfl⟩) hK hP hS kd_0 (by decide) cl_6 rfl hl.1 rfl (Nat.le_of_ble_eq_true rfl) dL_law_343 ⟨Nat.le_refl _, Nat.le_refl _⟩ (fun r40 M39 H locs h hP hS => ?_)
        refine lv_aload_n hx hb dL_law_346 rfl (lv_at hl 3 rfl) ?_
        refine lv_aload_n hx hb dL_law_347 rfl (lv_at hl 1 rfl) ?_
        refine lv_iload_n hx hb dL_law_348 rfl (lv_at hl 0 rfl) ?_
        refine lv_iconst (v := (1 : Int32)) hx hb dL_law_349 k_iconst_1 ?_
        refine lv_iadd hx hb dL_law_350 ?_
        refine va_sld hx hb hX hbl hbA hS h.1 dL_law_351 ?_
        replace h := h.2
        refine rc_Vi (As := [.int (xs (ix (x3 + (1 : Int32))))]) (rest := [.int r40]) ⟨hx, hb, hml, hown, hts⟩ (mX7_close l G 143 (xs (ix (x3 + (1 : Int32)))) M39 _ kd_143 h) (cwV 1 hts (gV_X7_close q_12_9) rfl rfl rfl hdV_X7_close ⟨Nat.le_of_ble_eq_true rfl, Nat.le_of_ble_eq_true rfl⟩) hK hP hS kd_143 (by decide) cl_7 rfl hl.1 rfl (Nat.le_of_ble_eq_true rfl) dL_law_352 ⟨Nat.le_refl _, Nat.le_refl _⟩ (fun r42 M41 H locs h hP hS => ?_)
        refine lv_icmp_eq (tgt := 870) hx hb dL_law_355 (by decide) (fun c43 => ?_) (fun c43 => ?_)
        · replace h := h.1 c43
          obtain ⟨x3_44, ex3_44⟩ : ∃ y : Int32, y = x3 + (5 : Int32) := ⟨_, rfl⟩
          replace h := h x3_44 ex3_44
          refine lv_iinc (v := x3_44) (lv' := [(3, .int x3_44), (0, .ref b), (1, .ref (G.2.1 + 0)), (2, .ref (G.2.1 + 143))]) hx hb dL_law_870 hl (k := 0) rfl (by rw [ex3_44]; rfl) (by decide) rfl (fun ls hl => ?_)
          refine lv_goto (tgt := 18) hx hb dL_law_873 (by decide) ?_
          exact hA _ _ _ _ _ hP hS (lv_sub hl [0, 1, 2, 3] rfl) h
        · replace h := h.2 c43
          refine lv_iconst (v := (0 : Int32)) hx hb dL_law_358 k_iconst_0 ?_
          exact h.elim
      replace h := h.2 c38
      by_cases c45 : sw2 = (6 : Int32)
      · replace h := h.1 c45
        refine lv_tableIn (off := 328) (tgt := 360) hx hb dL_law_32 (by rw [c45]; decide) (by rw [c45]; decide) (by rw [c45]; rfl) (by decide) ?_
        refine lv_aload_n hx hb dL_law_360 rfl (lv_at hl 2 rfl) ?_
        refine lv_aload_n hx hb dL_law_361 rfl (lv_at hl 1 rfl) ?_
        refine lv_iload_n hx hb dL_law_362 rfl (lv_at hl 0 rfl) ?_
        refine lv_iconst (v := (1 : Int32)) hx hb dL_law_363 k_iconst_1 ?_
        refine lv_iadd hx hb dL_law_364 ?_
        refine va_sld hx hb hX hbl hbA hS h.1 dL_law_365 ?_
        replace h := h.2
        refine rc_Vi (As := [.int (xs (ix (x3 + (1 : Int32))))]) (rest := []) ⟨hx, hb, hml, hown, hts⟩ (mX6_call l G 0 (xs (ix (x3 + (1 : Int32)))) M _ kd_0 h) (cwV 1 hts (gV_X6_call q_12_13) rfl rfl rfl hdV_X6_call ⟨Nat.le_of_ble_eq_true rfl, Nat.le_of_ble_eq_true rfl⟩) hK hP hS kd_0 (by decide) cl_6 rfl hl.1 rfl (Nat.le_of_ble_eq_true rfl) dL_law_366 ⟨Nat.le_refl _, Nat.le_refl _⟩ (fun r47 M46 H locs h hP hS => ?_)
        refine lv_aload_n hx hb dL_law_369 rfl (lv_at hl 3 rfl) ?_
        refine lv_aload_n hx hb dL_law_370 rfl (lv_at hl 1 rfl) ?_
        refine lv_iload_n hx hb dL_law_371 rfl (lv_at hl 0 rfl) ?_
        refine lv_iconst (v := (1 : Int32)) hx hb dL_law_372 k_iconst_1 ?_
        refine lv_iadd hx hb dL_law_373 ?_
        refine va_sld hx hb hX hbl hbA hS h.1 dL_law_374 ?_
        replace h := h.2
        refine rc_Vi (As := [.int (xs (ix (x3 + (1 : Int32))))]) (rest := [.int r47]) ⟨hx, hb, hml, hown, hts⟩ (mX7_call l G 143 (xs (ix (x3 + (1 : Int32)))) M46 _ kd_143 h) (cwV 1 hts (gV_X7_call q_13_20) rfl rfl rfl hdV_X7_call ⟨Nat.le_of_ble_eq_true rfl, Nat.le_of_ble_eq_true rfl⟩) hK hP hS kd_143 (by decide) cl_7 rfl hl.1 rfl (Nat.le_of_ble_eq_true rfl) dL_law_375 ⟨Nat.le_refl _, Nat.le_refl _⟩ (fun r49 M48 H locs h hP hS => ?_)
        refine lv_icmp_eq (tgt := 870) hx hb dL_law_378 (by decide) (fun c50 => ?_) (fun c50 => ?_)
        · replace h := h.1 c50
          obtain ⟨x3_51, ex3_51⟩ : ∃ y : Int32, y = x3 + (5 : Int32) := ⟨_, rfl⟩
          replace h := h x3_51 ex3_51
          refine lv_iinc (v := x3_51) (lv' := [(3, .int x3_51), (0, .ref b), (1, .ref (G.2.1 + 0)), (2, .ref (G.2.1 + 143))]) hx hb dL_law_870 hl (k := 0) rfl (by rw [ex3_51]; rfl) (by decide) rfl (fun ls hl => ?_)
          refine lv_goto (tgt := 18) hx hb dL_law_873 (by decide) ?_
          exact hA _ _ _ _ _ hP hS (lv_sub hl [0, 1, 2, 3] rfl) h
        · replace h := h.2 c50
          refine lv_iconst (v := (0 : Int32)) hx hb dL_law_381 k_iconst_0 ?_
          exact h.elim
      replace h := h.2 c45
      by_cases c52 : sw2 = (7 : Int32)
      · replace h := h.1 c52
        refine lv_tableIn (off := 351) (tgt := 383) hx hb dL_law_32 (by rw [c52]; decide) (by rw [c52]; decide) (by rw [c52]; rfl) (by decide) ?_
        refine lv_aload_n hx hb dL_law_383 rfl (lv_at hl 2 rfl) ?_
        refine lv_aload_n hx hb dL_law_384 rfl (lv_at hl 1 rfl) ?_
        refine lv_iload_n hx hb dL_law_385 rfl (lv_at hl 0 rfl) ?_
        refine lv_iconst (v := (1 : Int32)) hx hb dL_law_386 k_iconst_1 ?_
        refine lv_iadd hx hb dL_law_387 ?_
        refine va_sld hx hb hX hbl hbA hS h.1 dL_law_388 ?_
        replace h := h.2
        refine lv_aload_n hx hb dL_law_389 rfl (lv_at hl 1 rfl) ?_
        refine lv_iload_n hx hb dL_law_390 rfl (lv_at hl 0 rfl) ?_
        refine lv_iconst (v := (2 : Int32)) hx hb dL_law_391 k_iconst_2 ?_
        refine lv_iadd hx hb dL_law_392 ?_
        refine va_sld hx hb hX hbl hbA hS h.1 dL_law_393 ?_
        replace h := h.2
        refine rc_Vi (As := [.int (xs (ix (x3 + (1 : Int32)))), .int (xs (ix (x3 + (2 : Int32))))]) (rest := []) ⟨hx, hb, hml, hown, hts⟩ (mX6_turn l G 0 (xs (ix (x3 + (1 : Int32)))) (xs (ix (x3 + (2 : Int32)))) M _ kd_0 h) (cwV 2 hts (gV_X6_turn q_14_23) rfl rfl rfl hdV_X6_turn ⟨Nat.le_of_ble_eq_true rfl, Nat.le_of_ble_eq_true rfl⟩) hK hP hS kd_0 (by decide) cl_6 rfl hl.1 rfl (Nat.le_of_ble_eq_true rfl) dL_law_394 ⟨Nat.le_refl _, Nat.le_refl _⟩ (fun r54 M53 H locs h hP hS => ?_)
        refine lv_aload_n hx hb dL_law_397 rfl (lv_at hl 3 rfl) ?_
        refine lv_aload_n hx hb dL_law_398 rfl (lv_at hl 1 rfl) ?_
        refine lv_iload_n hx hb dL_law_399 rfl (lv_at hl 0 rfl) ?_
        refine lv_iconst (v := (1 : Int32)) hx hb dL_law_400 k_iconst_1 ?_
        refine lv_iadd hx hb dL_law_401 ?_
        refine va_sld hx hb hX hbl hbA hS h.1 dL_law_402 ?_
        replace h := h.2
        refine lv_aload_n hx hb dL_law_403 rfl (lv_at hl 1 rfl) ?_
        refine lv_iload_n hx hb dL_law_404 rfl (lv_at hl 0 rfl) ?_
        refine lv_iconst (v := (2 : Int32)) hx hb dL_law_405 k_iconst_2 ?_
        refine lv_iadd hx hb dL_law_406 ?_
        refine va_sld hx hb hX hbl hbA hS h.1 dL_law_407 ?_
        replace h := h.2
        refine rc_Vi (As := [.int (xs (ix (x3 + (1 : Int32)))), .int (xs (ix (x3 + (2 : Int32))))]) (rest := [.int r54]) ⟨hx, hb, hml, hown, hts⟩ (mX7_turn l G 143 (xs (ix (x3 + (1 : Int32)))) (xs (ix (x3 + (2 : Int32)))) M53 _ kd_143 h) (cwV 2 hts (gV_X7_turn q_15_21) rfl rfl rfl hdV_X7_turn ⟨Nat.le_of_ble_eq_true rfl, Nat.le_of_ble_eq_true rfl⟩) hK hP hS kd_143 (by decide) cl_7 rfl hl.1 rfl (Nat.le_of_ble_eq_true rfl) dL_law_408 ⟨Nat.le_refl _, Nat.le_refl _⟩ (fun r56 M55 H locs h hP hS => ?_)
        refine lv_icmp_eq (tgt := 870) hx hb dL_law_411 (by decide) (fun c57 => ?_) (fun c57 => ?_)
        · replace h := h.1 c57
          obtain ⟨x3_58, ex3_58⟩ : ∃ y : Int32, y = x3 + (5 : Int32) := ⟨_, rfl⟩
          replace h := h x3_58 ex3_58
          refine lv_iinc (v := x3_58) (lv' := [(3, .int x3_58), (0, .ref b), (1, .ref (G.2.1 + 0)), (2, .ref (G.2.1 + 143))]) hx hb dL_law_870 hl (k := 0) rfl (by rw [ex3_58]; rfl) (by decide) rfl (fun ls hl => ?_)
          refine lv_goto (tgt := 18) hx hb dL_law_873 (by decide) ?_
          exact hA _ _ _ _ _ hP hS (lv_sub hl [0, 1, 2, 3] rfl) h
        · replace h := h.2 c57
          refine lv_iconst (v := (0 : Int32)) hx hb dL_law_414 k_iconst_0 ?_
          exact h.elim
      replace h := h.2 c52
      by_cases c59 : sw2 = (8 : Int32)
      · replace h := h.1 c59
        refine lv_tableIn (off := 384) (tgt := 416) hx hb dL_law_32 (by rw [c59]; decide) (by rw [c59]; decide) (by rw [c59]; rfl) (by decide) ?_
        refine lv_aload_n hx hb dL_law_416 rfl (lv_at hl 2 rfl) ?_
        refine rc_Vi (As := []) (rest := []) ⟨hx, hb, hml, hown, hts⟩ (mX6_noTurns l G 0 M _ kd_0 h) (cwV 0 hts (gV_X6_noTurns q_16_5) rfl rfl rfl hdV_X6_noTurns ⟨Nat.le_of_ble_eq_true rfl, Nat.le_of_ble_eq_true rfl⟩) hK hP hS kd_0 (by decide) cl_6 rfl hl.1 rfl (Nat.le_of_ble_eq_true rfl) dL_law_417 ⟨Nat.le_refl _, Nat.le_refl _⟩ (fun r61 M60 H locs h hP hS => ?_)
        refine lv_aload_n hx hb dL_law_420 rfl (lv_at hl 3 rfl) ?_
        refine rc_Vi (As := []) (rest := [.int r61]) ⟨hx, hb, hml, hown, hts⟩ (mX7_noTurns l G 143 M60 _ kd_143 h) (cwV 0 hts (gV_X7_noTurns q_16_13) rfl rfl rfl hdV_X7_noTurns ⟨Nat.le_of_ble_eq_true rfl, Nat.le_of_ble_eq_true rfl⟩) hK hP hS kd_143 (by decide) cl_7 rfl hl.1 rfl (Nat.le_of_ble_eq_true rfl) dL_law_421 ⟨Nat.le_refl _, Nat.le_refl _⟩ (fun r63 M62 H locs h hP hS => ?_)
        refine lv_icmp_eq (tgt := 870) hx hb dL_law_424 (by decide) (fun c64 => ?_) (fun c64 => ?_)
        · replace h := h.1 c64
          obtain ⟨x3_65, ex3_65⟩ : ∃ y : Int32, y = x3 + (5 : Int32) := ⟨_, rfl⟩
          replace h := h x3_65 ex3_65
          refine lv_iinc (v := x3_65) (lv' := [(3, .int x3_65), (0, .ref b), (1, .ref (G.2.1 + 0)), (2, .ref (G.2.1 + 143))]) hx hb dL_law_870 hl (k := 0) rfl (by rw [ex3_65]; rfl) (by decide) rfl (fun ls hl => ?_)
          refine lv_goto (tgt := 18) hx hb dL_law_873 (by decide) ?_
          exact hA _ _ _ _ _ hP hS (lv_sub hl [0, 1, 2, 3] rfl) h
        · replace h := h.2 c64
          refine lv_iconst (v := (0 : Int32)) hx hb dL_law_427 k_iconst_0 ?_
          exact h.elim
      replace h := h.2 c59
      by_cases c66 : sw2 = (9 : Int32)
      · replace h := h.1 c66
        refine lv_tableIn (off := 397) (tgt := 429) hx hb dL_law_32 (by rw [c66]; decide) (by rw [c66]; decide) (by rw [c66]; rfl) (by decide) ?_
        refine lv_aload_n hx hb dL_law_429 rfl (lv_at hl 2 rfl) ?_
        refine lv_aload_n hx hb dL_law_430 rfl (lv_at hl 1 rfl) ?_
        refine lv_iload_n hx hb dL_law_431 rfl (lv_at hl 0 rfl) ?_
        refine lv_iconst (v := (1 : Int32)) hx hb dL_law_432 k_iconst_1 ?_
        refine lv_iadd hx hb dL_law_433 ?_
        refine va_sld hx hb hX hbl hbA hS h.1 dL_law_434 ?_
        replace h := h.2
        refine rc_Vi (As := [.int (xs (ix (x3 + (1 : Int32))))]) (rest := []) ⟨hx, hb, hml, hown, hts⟩ (mX6_hour l G 0 (xs (ix (x3 + (1 : Int32)))) M _ kd_0 h) (cwV 1 hts (gV_X6_hour q_16_17) rfl rfl rfl hdV_X6_hour ⟨Nat.le_of_ble_eq_true rfl, Nat.le_of_ble_eq_true rfl⟩) hK hP hS kd_0 (by decide) cl_6 rfl hl.1 rfl (Nat.le_of_ble_eq_true rfl) dL_law_435 ⟨Nat.le_refl _, Nat.le_refl _⟩ (fun r68 M67 H locs h hP hS => ?_)
        refine lv_aload_n hx hb dL_law_438 rfl (lv_at hl 3 rfl) ?_
        refine lv_aload_n hx hb dL_law_439 rfl (lv_at hl 1 rfl) ?_
        refine lv_iload_n hx hb dL_law_440 rfl (lv_at hl 0 rfl) ?_
        refine lv_iconst (v := (1 : Int32)) hx hb dL_law_441 k_iconst_1 ?_
        refine lv_iadd hx hb dL_law_442 ?_
        refine va_sld hx hb hX hbl hbA hS h.1 dL_law_443 ?_
        replace h := h.2
        refine rc_Vi (As := [.int (xs (ix (x3 + (1 : Int32))))]) (rest := [.int r68]) ⟨hx, hb, hml, hown, hts⟩ (mX7_hour l G 143 (xs (ix (x3 + (1 : Int32)))) M67 _ kd_143 h) (cwV 1 hts (gV_X7_hour q_20_3) rfl rfl rfl hdV_X7_hour ⟨Nat.le_of_ble_eq_true rfl, Nat.le_of_ble_eq_true rfl⟩) hK hP hS kd_143 (by decide) cl_7 rfl hl.1 rfl (Nat.le_of_ble_eq_true rfl) dL_law_444 ⟨Nat.le_refl _, Nat.le_refl _⟩ (fun r70 M69 H locs h hP hS => ?_)
        refine lv_icmp_eq (tgt := 870) hx hb dL_law_447 (by decide) (fun c71 => ?_) (fun c71 => ?_)
        · replace h := h.1 c71
          obtain ⟨x3_72, ex3_72⟩ : ∃ y : Int32, y = x3 + (5 : Int32) := ⟨_, rfl⟩
          replace h := h x3_72 ex3_72
          refine lv_iinc (v := x3_72) (lv' := [(3, .int x3_72), (0, .ref b), (1, .ref (G.2.1 + 0)), (2, .ref (G.2.1 + 143))]) hx hb dL_law_870 hl (k := 0) rfl (by rw [ex3_72]; rfl) (by decide) rfl (fun ls hl => ?_)
          refine lv_goto (tgt := 18) hx hb dL_law_873 (by decide) ?_
          exact hA _ _ _ _ _ hP hS (lv_sub hl [0, 1, 2, 3] rfl) h
        · replace h := h.2 c71
          refine lv_iconst (v := (0 : Int32)) hx hb dL_law_450 k_iconst_0 ?_
          exact h.elim
      replace h := h.2 c66
      by_cases c73 : sw2 = (10 : Int32)
      · replace h := h.1 c73
        refine lv_tableIn (off := 420) (tgt := 452) hx hb dL_law_32 (by rw [c73]; decide) (by rw [c73]; decide) (by rw [c73]; rfl) (by decide) ?_
        refine lv_aload_n hx hb dL_law_452 rfl (lv_at hl 2 rfl) ?_
        refine lv_aload_n hx hb dL_law_453 rfl (lv_at hl 1 rfl) ?_
        refine lv_iload_n hx hb dL_law_454 rfl (lv_at hl 0 rfl) ?_
        refine lv_iconst (v := (1 : Int32)) hx hb dL_law_455 k_iconst_1 ?_
        refine lv_iadd hx hb dL_law_456 ?_
        refine va_sld hx hb hX hbl hbA hS h.1 dL_law_457 ?_
        replace h := h.2
        refine lv_aload_n hx hb dL_law_458 rfl (lv_at hl 1 rfl) ?_
        refine lv_iload_n hx hb dL_law_459 rfl (lv_at hl 0 rfl) ?_
        refine lv_iconst (v := (2 : Int32)) hx hb dL_law_460 k_iconst_2 ?_
        refine lv_iadd hx hb dL_law_461 ?_
        refine va_sld hx hb hX hbl hbA hS h.1 dL_law_462 ?_
        replace h := h.2
        refine rc_Vi (As := [.int (xs (ix (x3 + (1 : Int32)))), .int (xs (ix (x3 + (2 : Int32))))]) (rest := []) ⟨hx, hb, hml, hown, hts⟩ (mX6_run l G 0 (xs (ix (x3 + (1 : Int32)))) (xs (ix (x3 + (2 : Int32)))) M _ kd_0 h) (cwV 2 hts (gV_X6_run q_21_19) rfl rfl rfl hdV_X6_run ⟨Nat.le_of_ble_eq_true rfl, Nat.le_of_ble_eq_true rfl⟩) hK hP hS kd_0 (by decide) cl_6 rfl hl.1 rfl (Nat.le_of_ble_eq_true rfl) dL_law_463 ⟨Nat.le_refl _, Nat.le_refl _⟩ (fun r75 M74 H locs h hP hS => ?_)
        refine lv_aload_n hx hb dL_law_466 rfl (lv_at hl 3 rfl) ?_
        refine lv_aload_n hx hb dL_law_467 rfl (lv_at hl 1 rfl) ?_
        refine lv_iload_n hx hb dL_law_468 rfl (lv_at hl 0 rfl) ?_
        refine lv_iconst (v := (1 : Int32)) hx hb dL_law_469 k_iconst_1 ?_
        refine lv_iadd hx hb dL_law_470 ?_
        refine va_sld hx hb hX hbl hbA hS h.1 dL_law_471 ?_
        replace h := h.2
        refine lv_aload_n hx hb dL_law_472 rfl (lv_at hl 1 rfl) ?_
        refine lv_iload_n hx hb dL_law_473 rfl (lv_at hl 0 rfl) ?_
        refine lv_iconst (v := (2 : Int32)) hx hb dL_law_474 k_iconst_2 ?_
        refine lv_iadd hx hb dL_law_475 ?_
        refine va_sld hx hb hX hbl hbA hS h.1 dL_law_476 ?_
        replace h := h.2
        refine rc_Vi (As := [.int (xs (ix (x3 + (1 : Int32)))), .int (xs (ix (x3 + (2 : Int32))))]) (rest := [.int r75]) ⟨hx, hb, hml, hown, hts⟩ (mX7_run l G 143 (xs (ix (x3 + (1 : Int32)))) (xs (ix (x3 + (2 : Int32)))) M74 _ kd_143 h) (cwV 2 hts (gV_X7_run q_22_13) rfl rfl rfl hdV_X7_run ⟨Nat.le_of_ble_eq_true rfl, Nat.le_of_ble_eq_true rfl⟩) hK hP hS kd_143 (by decide) cl_7 rfl hl.1 rfl (Nat.le_of_ble_eq_true rfl) dL_law_477 ⟨Nat.le_refl _, Nat.le_refl _⟩ (fun r77 M76 H locs h hP hS => ?_)
        refine lv_icmp_eq (tgt := 870) hx hb dL_law_480 (by decide) (fun c78 => ?_) (fun c78 => ?_)
        · replace h := h.1 c78
          obtain ⟨x3_79, ex3_79⟩ : ∃ y : Int32, y = x3 + (5 : Int32) := ⟨_, rfl⟩
          replace h := h x3_79 ex3_79
          refine lv_iinc (v := x3_79) (lv' := [(3, .int x3_79), (0, .ref b), (1, .ref (G.2.1 + 0)), (2, .ref (G.2.1 + 143))]) hx hb dL_law_870 hl (k := 0) rfl (by rw [ex3_79]; rfl) (by decide) rfl (fun ls hl => ?_)
          refine lv_goto (tgt := 18) hx hb dL_law_873 (by decide) ?_
          exact hA _ _ _ _ _ hP hS (lv_sub hl [0, 1, 2, 3] rfl) h
        · replace h := h.2 c78
          refine lv_iconst (v := (0 : Int32)) hx hb dL_law_483 k_iconst_0 ?_
          exact h.elim
      replace h := h.2 c73
      by_cases c80 : sw2 = (11 : Int32)
      · replace h := h.1 c80
        refine lv_tableIn (off := 453) (tgt := 485) hx hb dL_law_32 (by rw [c80]; decide) (by rw [c80]; decide) (by rw [c80]; rfl) (by decide) ?_
        refine lv_aload_n hx hb dL_law_485 rfl (lv_at hl 2 rfl) ?_
        refine lv_aload_n hx hb dL_law_486 rfl (lv_at hl 1 rfl) ?_
        refine lv_iload_n hx hb dL_law_487 rfl (lv_at hl 0 rfl) ?_
        refine lv_iconst (v := (1 : Int32)) hx hb dL_law_488 k_iconst_1 ?_
        refine lv_iadd hx hb dL_law_489 ?_
        refine va_sld hx hb hX hbl hbA hS h.1 dL_law_490 ?_
        replace h := h.2
        refine lv_aload_n hx hb dL_law_491 rfl (lv_at hl 1 rfl) ?_
        refine lv_iload_n hx hb dL_law_492 rfl (lv_at hl 0 rfl) ?_
        refine lv_iconst (v := (2 : Int32)) hx hb dL_law_493 k_iconst_2 ?_
        refine lv_iadd hx hb dL_law_494 ?_
        refine va_sld hx hb hX hbl hbA hS h.1 dL_law_495 ?_
        replace h := h.2
        refine rc_Vi (As := [.int (xs (ix (x3 + (1 : Int32)))), .int (xs (ix (x3 + (2 : Int32))))]) (rest := []) ⟨hx, hb, hml, hown, hts⟩ (mX6_canalOf l G 0 (xs (ix (x3 + (1 : Int32)))) (xs (ix (x3 + (2 : Int32)))) M _ kd_0 h) (cwV 2 hts (gV_X6_canalOf q_23_5) rfl rfl rfl hdV_X6_canalOf ⟨Nat.le_of_ble_eq_true rfl, Nat.le_of_ble_eq_true rfl⟩) hK hP hS kd_0 (by decide) cl_6 rfl hl.1 rfl (Nat.le_of_ble_eq_true rfl) dL_law_496 ⟨Nat.le_refl _, Nat.le_refl _⟩ (fun r82 M81 H locs h hP hS => ?_)
        refine lv_aload_n hx hb dL_law_499 rfl (lv_at hl 3 rfl) ?_
        refine lv_aload_n hx hb dL_law_500 rfl (lv_at hl 1 rfl) ?_
        refine lv_iload_n hx hb dL_law_501 rfl (lv_at hl 0 rfl) ?_
        refine lv_iconst (v := (1 : Int32)) hx hb dL_law_502 k_iconst_1 ?_
        refine lv_iadd hx hb dL_law_503 ?_
        refine va_sld hx hb hX hbl hbA hS h.1 dL_law_504 ?_
        replace h := h.2
        refine lv_aload_n hx hb dL_law_505 rfl (lv_at hl 1 rfl) ?_
        refine lv_iload_n hx hb dL_law_506 rfl (lv_at hl 0 rfl) ?_
        refine lv_iconst (v := (2 : Int32)) hx hb dL_law_507 k_iconst_2 ?_
        refine lv_iadd hx hb dL_law_508 ?_
        refine va_sld hx hb hX hbl hbA hS h.1 dL_law_509 ?_
        replace h := h.2
        refine rc_Vi (As := [.int (xs (ix (x3 + (1 : Int32)))), .int (xs (ix (x3 + (2 : Int32))))]) (rest := [.int r82]) ⟨hx, hb, hml, hown, hts⟩ (mX7_canalOf l G 143 (xs (ix (x3 + (1 : Int32)))) (xs (ix (x3 + (2 : Int32)))) M81 _ kd_143 h) (cwV 2 hts (gV_X7_canalOf q_24_0) rfl rfl rfl hdV_X7_canalOf ⟨Nat.le_of_ble_eq_true rfl, Nat.le_of_ble_eq_true rfl⟩) hK hP hS kd_143 (by decide) cl_7 rfl hl.1 rfl (Nat.le_of_ble_eq_true rfl) dL_law_510 ⟨Nat.le_refl _, Nat.le_refl _⟩ (fun r84 M83 H locs h hP hS => ?_)
        refine lv_icmp_eq (tgt := 870) hx hb dL_law_513 (by decide) (fun c85 => ?_) (fun c85 => ?_)
        · replace h := h.1 c85
          obtain ⟨x3_86, ex3_86⟩ : ∃ y : Int32, y = x3 + (5 : Int32) := ⟨_, rfl⟩
          replace h := h x3_86 ex3_86
          refine lv_iinc (v := x3_86) (lv' := [(3, .int x3_86), (0, .ref b), (1, .ref (G.2.1 + 0)), (2, .ref (G.2.1 + 143))]) hx hb dL_law_870 hl (k := 0) rfl (by rw [ex3_86]; rfl) (by decide) rfl (fun ls hl => ?_)
          refine lv_goto (tgt := 18) hx hb dL_law_873 (by decide) ?_
          exact hA _ _ _ _ _ hP hS (lv_sub hl [0, 1, 2, 3] rfl) h
        · replace h := h.2 c85
          refine lv_iconst (v := (0 : Int32)) hx hb dL_law_516 k_iconst_0 ?_
          exact h.elim
      replace h := h.2 c80
      by_cases c87 : sw2 = (12 : Int32)
      · replace h := h.1 c87
        refine lv_tableIn (off := 486) (tgt := 518) hx hb dL_law_32 (by rw [c87]; decide) (by rw [c87]; decide) (by rw [c87]; rfl) (by decide) ?_
        refine lv_aload_n hx hb dL_law_518 rfl (lv_at hl 2 rfl) ?_
        refine lv_aload_n hx hb dL_law_519 rfl (lv_at hl 1 rfl) ?_
        refine lv_iload_n hx hb dL_law_520 rfl (lv_at hl 0 rfl) ?_
        refine lv_iconst (v := (1 : Int32)) hx hb dL_law_521 k_iconst_1 ?_
        refine lv_iadd hx hb dL_law_522 ?_
        refine va_sld hx hb hX hbl hbA hS h.1 dL_law_523 ?_
        replace h := h.2
        refine lv_aload_n hx hb dL_law_524 rfl (lv_at hl 1 rfl) ?_
        refine lv_iload_n hx hb dL_law_525 rfl (lv_at hl 0 rfl) ?_
        refine lv_iconst (v := (2 : Int32)) hx hb dL_law_526 k_iconst_2 ?_
        refine lv_iadd hx hb dL_law_527 ?_
        refine va_sld hx hb hX hbl hbA hS h.1 dL_law_528 ?_
        replace h := h.2
        refine rc_Vi (As := [.int (xs (ix (x3 + (1 : Int32)))), .int (xs (ix (x3 + (2 : Int32))))]) (rest := []) ⟨hx, hb, hml, hown, hts⟩ (mX6_fieldOf l G 0 (xs (ix (x3 + (1 : Int32)))) (xs (ix (x3 + (2 : Int32)))) M _ kd_0 h) (cwV 2 hts (gV_X6_fieldOf q_24_9) rfl rfl rfl hdV_X6_fieldOf ⟨Nat.le_of_ble_eq_true rfl, Nat.le_of_ble_eq_true rfl⟩) hK hP hS kd_0 (by decide) cl_6 rfl hl.1 rfl (Nat.le_of_ble_eq_true rfl) dL_law_529 ⟨Nat.le_refl _, Nat.le_refl _⟩ (fun r89 M88 H locs h hP hS => ?_)
        refine lv_aload_n hx hb dL_law_532 rfl (lv_at hl 3 rfl) ?_
        refine lv_aload_n hx hb dL_law_533 rfl (lv_at hl 1 rfl) ?_
        refine lv_iload_n hx hb dL_law_534 rfl (lv_at hl 0 rfl) ?_
        refine lv_iconst (v := (1 : Int32)) hx hb dL_law_535 k_iconst_1 ?_
        refine lv_iadd hx hb dL_law_536 ?_
        refine va_sld hx hb hX hbl hbA hS h.1 dL_law_537 ?_
        replace h := h.2
        refine lv_aload_n hx hb dL_law_538 rfl (lv_at hl 1 rfl) ?_
        refine lv_iload_n hx hb dL_law_539 rfl (lv_at hl 0 rfl) ?_
        refine lv_iconst (v := (2 : Int32)) hx hb dL_law_540 k_iconst_2 ?_
        refine lv_iadd hx hb dL_law_541 ?_
        refine va_sld hx hb hX hbl hbA hS h.1 dL_law_542 ?_
        replace h := h.2
        refine rc_Vi (As := [.int (xs (ix (x3 + (1 : Int32)))), .int (xs (ix (x3 + (2 : Int32))))]) (rest := [.int r89]) ⟨hx, hb, hml, hown, hts⟩ (mX7_fieldOf l G 143 (xs (ix (x3 + (1 : Int32)))) (xs (ix (x3 + (2 : Int32)))) M88 _ kd_143 h) (cwV 2 hts (gV_X7_fieldOf q_24_23) rfl rfl rfl hdV_X7_fieldOf ⟨Nat.le_of_ble_eq_true rfl, Nat.le_of_ble_eq_true rfl⟩) hK hP hS kd_143 (by decide) cl_7 rfl hl.1 rfl (Nat.le_of_ble_eq_true rfl) dL_law_543 ⟨Nat.le_refl _, Nat.le_refl _⟩ (fun r91 M90 H locs h hP hS => ?_)
        refine lv_icmp_eq (tgt := 870) hx hb dL_law_546 (by decide) (fun c92 => ?_) (fun c92 => ?_)
        · replace h := h.1 c92
          obtain ⟨x3_93, ex3_93⟩ : ∃ y : Int32, y = x3 + (5 : Int32) := ⟨_, rfl⟩
          replace h := h x3_93 ex3_93
          refine lv_iinc (v := x3_93) (lv' := [(3, .int x3_93), (0, .ref b), (1, .ref (G.2.1 + 0)), (2, .ref (G.2.1 + 143))]) hx hb dL_law_870 hl (k := 0) rfl (by rw [ex3_93]; rfl) (by decide) rfl (fun ls hl => ?_)
          refine lv_goto (tgt := 18) hx hb dL_law_873 (by decide) ?_
          exact hA _ _ _ _ _ hP hS (lv_sub hl [0, 1, 2, 3] rfl) h
        · replace h := h.2 c92
          refine lv_iconst (v := (0 : Int32)) hx hb dL_law_549 k_iconst_0 ?_
          exact h.elim
      replace h := h.2 c87
      by_cases c94 : sw2 = (13 : Int32)
      · replace h := h.1 c94
        refine lv_tableIn (off := 519) (tgt := 551) hx hb dL_law_32 (by rw [c94]; decide) (by rw [c94]; decide) (by rw [c94]; rfl) (by decide) ?_
        refine lv_aload_n hx hb dL_law_551 rfl (lv_at hl 2 rfl) ?_
        refine lv_aload_n hx hb dL_law_552 rfl (lv_at hl 1 rfl) ?_
        refine lv_iload_n hx hb dL_law_553 rfl (lv_at hl 0 rfl) ?_
        refine lv_iconst (v := (1 : Int32)) hx hb dL_law_554 k_iconst_1 ?_
        refine lv_iadd hx hb dL_law_555 ?_
        refine va_sld hx hb hX hbl hbA hS h.1 dL_law_556 ?_
        replace h := h.2
        refine lv_aload_n hx hb dL_law_557 rfl (lv_at hl 1 rfl) ?_
        refine lv_iload_n hx hb dL_law_558 rfl (lv_at hl 0 rfl) ?_
        refine lv_iconst (v := (2 : Int32)) hx hb dL_law_559 k_iconst_2 ?_
        refine lv_iadd hx hb dL_law_560 ?_
        refine va_sld hx hb hX hbl hbA hS h.1 dL_law_561 ?_
        replace h := h.2
        refine rc_Vi (As := [.int (xs (ix (x3 + (1 : Int32)))), .int (xs (ix (x3 + (2 : Int32))))]) (rest := []) ⟨hx, hb, hml, hown, hts⟩ (mX6_turnOf l G 0 (xs (ix (x3 + (1 : Int32)))) (xs (ix (x3 + (2 : Int32)))) M _ kd_0 h) (cwV 2 hts (gV_X6_turnOf q_25_3) rfl rfl rfl hdV_X6_turnOf ⟨Nat.le_of_ble_eq_true rfl, Nat.le_of_ble_eq_true rfl⟩) hK hP hS kd_0 (by decide) cl_6 rfl hl.1 rfl (Nat.le_of_ble_eq_true rfl) dL_law_562 ⟨Nat.le_refl _, Nat.le_refl _⟩ (fun r96 M95 H locs h hP hS => ?_)
        refine lv_aload_n hx hb dL_law_565 rfl (lv_at hl 3 rfl) ?_
        refine lv_aload_n hx hb dL_law_566 rfl (lv_at hl 1 rfl) ?_
        refine lv_iload_n hx hb dL_law_567 rfl (lv_at hl 0 rfl) ?_
        refine lv_iconst (v := (1 : Int32)) hx hb dL_law_568 k_iconst_1 ?_
        refine lv_iadd hx hb dL_law_569 ?_
        refine va_sld hx hb hX hbl hbA hS h.1 dL_law_570 ?_
        replace h := h.2
        refine lv_aload_n hx hb dL_law_571 rfl (lv_at hl 1 rfl) ?_
        refine lv_iload_n hx hb dL_law_572 rfl (lv_at hl 0 rfl) ?_
        refine lv_iconst (v := (2 : Int32)) hx hb dL_law_573 k_iconst_2 ?_
        refine lv_iadd hx hb dL_law_574 ?_
        refine va_sld hx hb hX hbl hbA hS h.1 dL_law_575 ?_
        replace h := h.2
        refine rc_Vi (As := [.int (xs (ix (x3 + (1 : Int32)))), .int (xs (ix (x3 + (2 : Int32))))]) (rest := [.int r96]) ⟨hx, hb, hml, hown, hts⟩ (mX7_turnOf l G 143 (xs (ix (x3 + (1 : Int32)))) (xs (ix (x3 + (2 : Int32)))) M95 _ kd_143 h) (cwV 2 hts (gV_X7_turnOf q_25_13) rfl rfl rfl hdV_X7_turnOf ⟨Nat.le_of_ble_eq_true rfl, Nat.le_of_ble_eq_true rfl⟩) hK hP hS kd_143 (by decide) cl_7 rfl hl.1 rfl (Nat.le_of_ble_eq_true rfl) dL_law_576 ⟨Nat.le_refl _, Nat.le_refl _⟩ (fun r98 M97 H locs h hP hS => ?_)
        refine lv_icmp_eq (tgt := 870) hx hb dL_law_579 (by decide) (fun c99 => ?_) (fun c99 => ?_)
        · replace h := h.1 c99
          obtain ⟨x3_100, ex3_100⟩ : ∃ y : Int32, y = x3 + (5 : Int32) := ⟨_, rfl⟩
          replace h := h x3_100 ex3_100
          refine lv_iinc (v := x3_100) (lv' := [(3, .int x3_100), (0, .ref b), (1, .ref (G.2.1 + 0)), (2, .ref (G.2.1 + 143))]) hx hb dL_law_870 hl (k := 0) rfl (by rw [ex3_100]; rfl) (by decide) rfl (fun ls hl => ?_)
          refine lv_goto (tgt := 18) hx hb dL_law_873 (by decide) ?_
          exact hA _ _ _ _ _ hP hS (lv_sub hl [0, 1, 2, 3] rfl) h
        · replace h := h.2 c99
          refine lv_iconst (v := (0 : Int32)) hx hb dL_law_582 k_iconst_0 ?_
          exact h.elim
      replace h := h.2 c94
      by_cases c101 : sw2 = (14 : Int32)
      · replace h := h.1 c101
        refine lv_tableIn (off := 552) (tgt := 584) hx hb dL_law_32 (by rw [c101]; decide) (by rw [c101]; decide) (by rw [c101]; rfl) (by decide) ?_
        refine lv_aload_n hx hb dL_law_584 rfl (lv_at hl 2 rfl) ?_
        refine lv_aload_n hx hb dL_law_585 rfl (lv_at hl 1 rfl) ?_
        refine lv_iload_n hx hb dL_law_586 rfl (lv_at hl 0 rfl) ?_
        refine lv_iconst (v := (1 : Int32)) hx hb dL_law_587 k_iconst_1 ?_
        refine lv_iadd hx hb dL_law_588 ?_
        refine va_sld hx hb hX hbl hbA hS h.1 dL_law_589 ?_
        replace h := h.2
        refine rc_Vi (As := [.int (xs (ix (x3 + (1 : Int32))))]) (rest := []) ⟨hx, hb, hml, hown, hts⟩ (mX6_share l G 0 (xs (ix (x3 + (1 : Int32)))) M _ kd_0 h) (cwV 1 hts (gV_X6_share q_25_17) rfl rfl rfl hdV_X6_share ⟨Nat.le_of_ble_eq_true rfl, Nat.le_of_ble_eq_true rfl⟩) hK hP hS kd_0 (by decide) cl_6 rfl hl.1 rfl (Nat.le_of_ble_eq_true rfl) dL_law_590 ⟨Nat.le_refl _, Nat.le_refl _⟩ (fun r103 M102 H locs h hP hS => ?_)
        refine lv_aload_n hx hb dL_law_593 rfl (lv_at hl 3 rfl) ?_
        refine lv_aload_n hx hb dL_law_594 rfl (lv_at hl 1 rfl) ?_
        refine lv_iload_n hx hb dL_law_595 rfl (lv_at hl 0 rfl) ?_
        refine lv_iconst (v := (1 : Int32)) hx hb dL_law_596 k_iconst_1 ?_
        refine lv_iadd hx hb dL_law_597 ?_
        refine va_sld hx hb hX hbl hbA hS h.1 dL_law_598 ?_
        replace h := h.2
        refine rc_Vi (As := [.int (xs (ix (x3 + (1 : Int32))))]) (rest := [.int r103]) ⟨hx, hb, hml, hown, hts⟩ (mX7_share l G 143 (xs (ix (x3 + (1 : Int32)))) M102 _ kd_143 h) (cwV 1 hts (gV_X7_share q_26_6) rfl rfl rfl hdV_X7_share ⟨Nat.le_of_ble_eq_true rfl, Nat.le_of_ble_eq_true rfl⟩) hK hP hS kd_143 (by decide) cl_7 rfl hl.1 rfl (Nat.le_of_ble_eq_true rfl) dL_law_599 ⟨Nat.le_refl _, Nat.le_refl _⟩ (fun r105 M104 H locs h hP hS => ?_)
        refine lv_icmp_eq (tgt := 870) hx hb dL_law_602 (by decide) (fun c106 => ?_) (fun c106 => ?_)
        · replace h := h.1 c106
          obtain ⟨x3_107, ex3_107⟩ : ∃ y : Int32, y = x3 + (5 : Int32) := ⟨_, rfl⟩
          replace h := h x3_107 ex3_107
          refine lv_iinc (v := x3_107) (lv' := [(3, .int x3_107), (0, .ref b), (1, .ref (G.2.1 + 0)), (2, .ref (G.2.1 + 143))]) hx hb dL_law_870 hl (k := 0) rfl (by rw [ex3_107]; rfl) (by decide) rfl (fun ls hl => ?_)
          refine lv_goto (tgt := 18) hx hb dL_law_873 (by decide) ?_
          exact hA _ _ _ _ _ hP hS (lv_sub hl [0, 1, 2, 3] rfl) h
        · replace h := h.2 c106
          refine lv_iconst (v := (0 : Int32)) hx hb dL_law_605 k_iconst_0 ?_
          exact h.elim
      replace h := h.2 c101
      by_cases c108 : sw2 = (15 : Int32)
      · replace h := h.1 c108
        refine lv_tableIn (off := 575) (tgt := 607) hx hb dL_law_32 (by rw [c108]; decide) (by rw [c108]; decide) (by rw [c108]; rfl) (by decide) ?_
        refine lv_aload_n hx hb dL_law_607 rfl (lv_at hl 2 rfl) ?_
        refine lv_aload_n hx hb dL_law_608 rfl (lv_at hl 1 rfl) ?_
        refine lv_iload_n hx hb dL_law_609 rfl (lv_at hl 0 rfl) ?_
        refine lv_iconst (v := (1 : Int32)) hx hb dL_law_610 k_iconst_1 ?_
        refine lv_iadd hx hb dL_law_611 ?_
        refine va_sld hx hb hX hbl hbA hS h.1 dL_law_612 ?_
        replace h := h.2
        refine lv_aload_n hx hb dL_law_613 rfl (lv_at hl 1 rfl) ?_
        refine lv_iload_n hx hb dL_law_614 rfl (lv_at hl 0 rfl) ?_
        refine lv_iconst (v := (2 : Int32)) hx hb dL_law_615 k_iconst_2 ?_
        refine lv_iadd hx hb dL_law_616 ?_
        refine va_sld hx hb hX hbl hbA hS h.1 dL_law_617 ?_
        replace h := h.2
        refine lv_aload_n hx hb dL_law_618 rfl (lv_at hl 1 rfl) ?_
        refine lv_iload_n hx hb dL_law_619 rfl (lv_at hl 0 rfl) ?_
        refine lv_iconst (v := (3 : Int32)) hx hb dL_law_620 k_iconst_3 ?_
        refine lv_iadd hx hb dL_law_621 ?_
        refine va_sld hx hb hX hbl hbA hS h.1 dL_law_622 ?_
        replace h := h.2
        refine rc_Vi (As := [.int (xs (ix (x3 + (1 : Int32)))), .int (xs (ix (x3 + (2 : Int32)))), .int (xs (ix (x3 + (3 : Int32))))]) (rest := []) ⟨hx, hb, hml, hown, hts⟩ (mX6_would l G 0 (xs (ix (x3 + (1 : Int32)))) (xs (ix (x3 + (2 : Int32)))) (xs (ix (x3 + (3 : Int32)))) M _ kd_0 h) (cwV 3 hts (gV_X6_would q_26_22) rfl rfl rfl hdV_X6_would ⟨Nat.le_of_ble_eq_true rfl, Nat.le_of_ble_eq_true rfl⟩) hK hP hS kd_0 (by decide) cl_6 rfl hl.1 rfl (Nat.le_of_ble_eq_true rfl) dL_law_623 ⟨Nat.le_refl _, Nat.le_refl _⟩ (fun r110 M109 H locs h hP hS => ?_)
        refine lv_aload_n hx hb dL_law_626 rfl (lv_at hl 3 rfl) ?_
        refine lv_aload_n hx hb dL_law_627 rfl (lv_at hl 1 rfl) ?_
        refine lv_iload_n hx hb dL_law_628 rfl (lv_at hl 0 rfl) ?_
        refine lv_iconst (v := (1 : Int32)) hx hb dL_law_629 k_iconst_1 ?_
        refine lv_iadd hx hb dL_law_630 ?_
        refine va_sld hx hb hX hbl hbA hS h.1 dL_law_631 ?_
        replace h := h.2
        refine lv_aload_n hx hb dL_law_632 rfl (lv_at hl 1 rfl) ?_
        refine lv_iload_n hx hb dL_law_633 rfl (lv_at hl 0 rfl) ?_
        refine lv_iconst (v := (2 : Int32)) hx hb dL_law_634 k_iconst_2 ?_
        refine lv_iadd hx hb dL_law_635 ?_
        refine va_sld hx hb hX hbl hbA hS h.1 dL_law_636 ?_
        replace h := h.2
        refine lv_aload_n hx hb dL_law_637 rfl (lv_at hl 1 rfl) ?_
        refine lv_iload_n hx hb dL_law_638 rfl (lv_at hl 0 rfl) ?_
        refine lv_iconst (v := (3 : Int32)) hx hb dL_law_639 k_iconst_3 ?_
        refine lv_iadd hx hb dL_law_640 ?_
        refine va_sld hx hb hX hbl hbA hS h.1 dL_law_641 ?_
        replace h := h.2
        refine rc_Vi (As := [.int (xs (ix (x3 + (1 : Int32)))), .int (xs (ix (x3 + (2 : Int32)))), .int (xs (ix (x3 + (3 : Int32))))]) (rest := [.int r110]) ⟨hx, hb, hml, hown, hts⟩ (mX7_would l G 143 (xs (ix (x3 + (1 : Int32)))) (xs (ix (x3 + (2 : Int32)))) (xs (ix (x3 + (3 : Int32)))) M109 _ kd_143 h) (cwV 3 hts (gV_X7_would q_27_8) rfl rfl rfl hdV_X7_would ⟨Nat.le_of_ble_eq_true rfl, Nat.le_of_ble_eq_true rfl⟩) hK hP hS kd_143 (by decide) cl_7 rfl hl.1 rfl (Nat.le_of_ble_eq_true rfl) dL_law_642 ⟨Nat.le_refl _, Nat.le_refl _⟩ (fun r112 M111 H locs h hP hS => ?_)
        refine lv_icmp_eq (tgt := 870) hx hb dL_law_645 (by decide) (fun c113 => ?_) (fun c113 => ?_)
        · replace h := h.1 c113
          obtain ⟨x3_114, ex3_114⟩ : ∃ y : Int32, y = x3 + (5 : Int32) := ⟨_, rfl⟩
          replace h := h x3_114 ex3_114
          refine lv_iinc (v := x3_114) (lv' := [(3, .int x3_114), (0, .ref b), (1, .ref (G.2.1 + 0)), (2, .ref (G.2.1 + 143))]) hx hb dL_law_870 hl (k := 0) rfl (by rw [ex3_114]; rfl) (by decide) rfl (fun ls hl => ?_)
          refine lv_goto (tgt := 18) hx hb dL_law_873 (by decide) ?_
          exact hA _ _ _ _ _ hP hS (lv_sub hl [0, 1, 2, 3] rfl) h
        · replace h := h.2 c113
          refine lv_iconst (v := (0 : Int32)) hx hb dL_law_648 k_iconst_0 ?_
          exact h.elim
      replace h := h.2 c108
      by_cases c115 : sw2 = (16 : Int32)
      · replace h := h.1 c115
        refine lv_tableIn (off := 618) (tgt := 650) hx hb dL_law_32 (by rw [c115]; decide) (by rw [c115]; decide) (by rw [c115]; rfl) (by decide) ?_
        refine lv_aload_n hx hb dL_law_650 rfl (lv_at hl 2 rfl) ?_
        refine lv_aload_n hx hb dL_law_651 rfl (lv_at hl 1 rfl) ?_
        refine lv_iload_n hx hb dL_law_652 rfl (lv_at hl 0 rfl) ?_
        refine lv_iconst (v := (1 : Int32)) hx hb dL_law_653 k_iconst_1 ?_
        refine lv_iadd hx hb dL_law_654 ?_
        refine va_sld hx hb hX hbl hbA hS h.1 dL_law_655 ?_
        replace h := h.2
        refine lv_aload_n hx hb dL_law_656 rfl (lv_at hl 1 rfl) ?_
        refine lv_iload_n hx hb dL_law_657 rfl (lv_at hl 0 rfl) ?_
        refine lv_iconst (v := (2 : Int32)) hx hb dL_law_658 k_iconst_2 ?_
        refine lv_iadd hx hb dL_law_659 ?_
        refine va_sld hx hb hX hbl hbA hS h.1 dL_law_660 ?_
        replace h := h.2
        refine lv_aload_n hx hb dL_law_661 rfl (lv_at hl 1 rfl) ?_
        refine lv_iload_n hx hb dL_law_662 rfl (lv_at hl 0 rfl) ?_
        refine lv_iconst (v := (3 : Int32)) hx hb dL_law_663 k_iconst_3 ?_
        refine lv_iadd hx hb dL_law_664 ?_
        refine va_sld hx hb hX hbl hbA hS h.1 dL_law_665 ?_
        replace h := h.2
        refine rc_Vi (As := [.int (xs (ix (x3 + (1 : Int32)))), .int (xs (ix (x3 + (2 : Int32)))), .int (xs (ix (x3 + (3 : Int32))))]) (rest := []) ⟨hx, hb, hml, hown, hts⟩ (mX6_leastGates l G 0 (xs (ix (x3 + (1 : Int32)))) (xs (ix (x3 + (2 : Int32)))) (xs (ix (x3 + (3 : Int32)))) M _ kd_0 h) (cwV 3 hts (gV_X6_leastGates q_27_20) rfl rfl rfl hdV_X6_leastGates ⟨Nat.le_of_ble_eq_true rfl, Nat.le_of_ble_eq_true rfl⟩) hK hP hS kd_0 (by decide) cl_6 rfl hl.1 rfl (Nat.le_of_ble_eq_true rfl) dL_law_666 ⟨Nat.le_refl _, Nat.le_refl _⟩ (fun r117 M116 H locs h hP hS => ?_)
        refine lv_aload_n hx hb dL_law_669 rfl (lv_at hl 3 rfl) ?_
        refine lv_aload_n hx hb dL_law_670 rfl (lv_at hl 1 rfl) ?_
        refine lv_iload_n hx hb dL_law_671 rfl (lv_at hl 0 rfl) ?_
        refine lv_iconst (v := (1 : Int32)) hx hb dL_law_672 k_iconst_1 ?_
        refine lv_iadd hx hb dL_law_673 ?_
        refine va_sld hx hb hX hbl hbA hS h.1 dL_law_674 ?_
        replace h := h.2
        refine lv_aload_n hx hb dL_law_675 rfl (lv_at hl 1 rfl) ?_
        refine lv_iload_n hx hb dL_law_676 rfl (lv_at hl 0 rfl) ?_
        refine lv_iconst (v := (2 : Int32)) hx hb dL_law_677 k_iconst_2 ?_
        refine lv_iadd hx hb dL_law_678 ?_
        refine va_sld hx hb hX hbl hbA hS h.1 dL_law_679 ?_
        replace h := h.2
        refine lv_aload_n hx hb dL_law_680 rfl (lv_at hl 1 rfl) ?_
        refine lv_iload_n hx hb dL_law_681 rfl (lv_at hl 0 rfl) ?_
        refine lv_iconst (v := (3 : Int32)) hx hb dL_law_682 k_iconst_3 ?_
        refine lv_iadd hx hb dL_law_683 ?_
        refine va_sld hx hb hX hbl hbA hS h.1 dL_law_684 ?_
        replace h := h.2
        refine rc_Vi (As := [.int (xs (ix (x3 + (1 : Int32)))), .int (xs (ix (x3 + (2 : Int32)))), .int (xs (ix (x3 + (3 : Int32))))]) (rest := [.int r117]) ⟨hx, hb, hml, hown, hts⟩ (mX7_leastGates l G 143 (xs (ix (x3 + (1 : Int32)))) (xs (ix (x3 + (2 : Int32)))) (xs (ix (x3 + (3 : Int32)))) M116 _ kd_143 h) (cwV 3 hts (gV_X7_leastGates q_28_11) rfl rfl rfl hdV_X7_leastGates ⟨Nat.le_of_ble_eq_true rfl, Nat.le_of_ble_eq_true rfl⟩) hK hP hS kd_143 (by decide) cl_7 rfl hl.1 rfl (Nat.le_of_ble_eq_true rfl) dL_law_685 ⟨Nat.le_refl _, Nat.le_refl _⟩ (fun r119 M118 H locs h hP hS => ?_)
        refine lv_icmp_eq (tgt := 870) hx hb dL_law_688 (by decide) (fun c120 => ?_) (fun c120 => ?_)
        · replace h := h.1 c120
          obtain ⟨x3_121, ex3_121⟩ : ∃ y : Int32, y = x3 + (5 : Int32) := ⟨_, rfl⟩
          replace h := h x3_121 ex3_121
          refine lv_iinc (v := x3_121) (lv' := [(3, .int x3_121), (0, .ref b), (1, .ref (G.2.1 + 0)), (2, .ref (G.2.1 + 143))]) hx hb dL_law_870 hl (k := 0) rfl (by rw [ex3_121]; rfl) (by decide) rfl (fun ls hl => ?_)
          refine lv_goto (tgt := 18) hx hb dL_law_873 (by decide) ?_
          exact hA _ _ _ _ _ hP hS (lv_sub hl [0, 1, 2, 3] rfl) h
        · replace h := h.2 c120
          refine lv_iconst (v := (0 : Int32)) hx hb dL_law_691 k_iconst_0 ?_
          exact h.elim
      replace h := h.2 c115
      by_cases c122 : sw2 = (17 : Int32)
      · replace h := h.1 c122
        refine lv_tableIn (off := 661) (tgt := 693) hx hb dL_law_32 (by rw [c122]; decide) (by rw [c122]; decide) (by rw [c122]; rfl) (by decide) ?_
        refine lv_aload_n hx hb dL_law_693 rfl (lv_at hl 2 rfl) ?_
        refine lv_aload_n hx hb dL_law_694 rfl (lv_at hl 1 rfl) ?_
        refine lv_iload_n hx hb dL_law_695 rfl (lv_at hl 0 rfl) ?_
        refine lv_iconst (v := (1 : Int32)) hx hb dL_law_696 k_iconst_1 ?_
        refine lv_iadd hx hb dL_law_697 ?_
        refine va_sld hx hb hX hbl hbA hS h.1 dL_law_698 ?_
        replace h := h.2
        refine rc_Vi (As := [.int (xs (ix (x3 + (1 : Int32))))]) (rest := []) ⟨hx, hb, hml, hown, hts⟩ (mX6_fewestBuckets l G 0 (xs (ix (x3 + (1 : Int32)))) M _ kd_0 h) (cwV 1 hts (gV_X6_fewestBuckets q_28_19) rfl rfl rfl hdV_X6_fewestBuckets ⟨Nat.le_of_ble_eq_true rfl, Nat.le_of_ble_eq_true rfl⟩) hK hP hS kd_0 (by decide) cl_6 rfl hl.1 rfl (Nat.le_of_ble_eq_true rfl) dL_law_699 ⟨Nat.le_refl _, Nat.le_refl _⟩ (fun r124 M123 H locs h hP hS => ?_)
        refine lv_aload_n hx hb dL_law_702 rfl (lv_at hl 3 rfl) ?_
        refine lv_aload_n hx hb dL_law_703 rfl (lv_at hl 1 rfl) ?_
        refine lv_iload_n hx hb dL_law_704 rfl (lv_at hl 0 rfl) ?_
        refine lv_iconst (v := (1 : Int32)) hx hb dL_law_705 k_iconst_1 ?_
        refine lv_iadd hx hb dL_law_706 ?_
        refine va_sld hx hb hX hbl hbA hS h.1 dL_law_707 ?_
        replace h := h.2
        refine rc_Vi (As := [.int (xs (ix (x3 + (1 : Int32))))]) (rest := [.int r124]) ⟨hx, hb, hml, hown, hts⟩ (mX7_fewestBuckets l G 143 (xs (ix (x3 + (1 : Int32)))) M123 _ kd_143 h) (cwV 1 hts (gV_X7_fewestBuckets q_28_23) rfl rfl rfl hdV_X7_fewestBuckets ⟨Nat.le_of_ble_eq_true rfl, Nat.le_of_ble_eq_true rfl⟩) hK hP hS kd_143 (by decide) cl_7 rfl hl.1 rfl (Nat.le_of_ble_eq_true rfl) dL_law_708 ⟨Nat.le_refl _, Nat.le_refl _⟩ (fun r126 M125 H locs h hP hS => ?_)
        refine lv_icmp_eq (tgt := 870) hx hb dL_law_711 (by decide) (fun c127 => ?_) (fun c127 => ?_)
        · replace h := h.1 c127
          obtain ⟨x3_128, ex3_128⟩ : ∃ y : Int32, y = x3 + (5 : Int32) := ⟨_, rfl⟩
          replace h := h x3_128 ex3_128
          refine lv_iinc (v := x3_128) (lv' := [(3, .int x3_128), (0, .ref b), (1, .ref (G.2.1 + 0)), (2, .ref (G.2.1 + 143))]) hx hb dL_law_870 hl (k := 0) rfl (by rw [ex3_128]; rfl) (by decide) rfl (fun ls hl => ?_)
          refine lv_goto (tgt := 18) hx hb dL_law_873 (by decide) ?_
          exact hA _ _ _ _ _ hP hS (lv_sub hl [0, 1, 2, 3] rfl) h
        · replace h := h.2 c127
          refine lv_iconst (v := (0 : Int32)) hx hb dL_law_714 k_iconst_0 ?_
          exact h.elim
      replace h := h.2 c122
      by_cases c129 : sw2 = (18 : Int32)
      · replace h := h.1 c129
        refine lv_tableIn (off := 684) (tgt := 716) hx hb dL_law_32 (by rw [c129]; decide) (by rw [c129]; decide) (by rw [c129]; rfl) (by decide) ?_
        refine lv_aload_n hx hb dL_law_716 rfl (lv_at hl 2 rfl) ?_
        refine lv_aload_n hx hb dL_law_717 rfl (lv_at hl 1 rfl) ?_
        refine lv_iload_n hx hb dL_law_718 rfl (lv_at hl 0 rfl) ?_
        refine lv_iconst (v := (1 : Int32)) hx hb dL_law_719 k_iconst_1 ?_
        refine lv_iadd hx hb dL_law_720 ?_
        refine va_sld hx hb hX hbl hbA hS h.1 dL_law_721 ?_
        replace h := h.2
        refine rc_Vi (As := [.int (xs (ix (x3 + (1 : Int32))))]) (rest := []) ⟨hx, hb, hml, hown, hts⟩ (mX6_hoursFor l G 0 (xs (ix (x3 + (1 : Int32)))) M _ kd_0 h) (cwV 1 hts (gV_X6_hoursFor q_29_3) rfl rfl rfl hdV_X6_hoursFor ⟨Nat.le_of_ble_eq_true rfl, Nat.le_of_ble_eq_true rfl⟩) hK hP hS kd_0 (by decide) cl_6 rfl hl.1 rfl (Nat.le_of_ble_eq_true rfl) dL_law_722 ⟨Nat.le_refl _, Nat.le_refl _⟩ (fun r131 M130 H locs h hP hS => ?_)
        refine lv_aload_n hx hb dL_law_725 rfl (lv_at hl 3 rfl) ?_
        refine lv_aload_n hx hb dL_law_726 rfl (lv_at hl 1 rfl) ?_
        refine lv_iload_n hx hb dL_law_727 rfl (lv_at hl 0 rfl) ?_
        refine lv_iconst (v := (1 : Int32)) hx hb dL_law_728 k_iconst_1 ?_
        refine lv_iadd hx hb dL_law_729 ?_
        refine va_sld hx hb hX hbl hbA hS h.1 dL_law_730 ?_
        replace h := h.2
        refine rc_Vi (As := [.int (xs (ix (x3 + (1 : Int32))))]) (rest := [.int r131]) ⟨hx, hb, hml, hown, hts⟩ (mX7_hoursFor l G 143 (xs (ix (x3 + (1 : Int32)))) M130 _ kd_143 h) (cwV 1 hts (gV_X7_hoursFor q_29_7) rfl rfl rfl hdV_X7_hoursFor ⟨Nat.le_of_ble_eq_true rfl, Nat.le_of_ble_eq_true rfl⟩) hK hP hS kd_143 (by decide) cl_7 rfl hl.1 rfl (Nat.le_of_ble_eq_true rfl) dL_law_731 ⟨Nat.le_refl _, Nat.le_refl _⟩ (fun r133 M132 H locs h hP hS => ?_)
        refine lv_icmp_eq (tgt := 870) hx hb dL_law_734 (by decide) (fun c134 => ?_) (fun c134 => ?_)
        · replace h := h.1 c134
          obtain ⟨x3_135, ex3_135⟩ : ∃ y : Int32, y = x3 + (5 : Int32) := ⟨_, rfl⟩
          replace h := h x3_135 ex3_135
          refine lv_iinc (v := x3_135) (lv' := [(3, .int x3_135), (0, .ref b), (1, .ref (G.2.1 + 0)), (2, .ref (G.2.1 + 143))]) hx hb dL_law_870 hl (k := 0) rfl (by rw [ex3_135]; rfl) (by decide) rfl (fun ls hl => ?_)
          refine lv_goto (tgt := 18) hx hb dL_law_873 (by decide) ?_
          exact hA _ _ _ _ _ hP hS (lv_sub hl [0, 1, 2, 3] rfl) h
        · replace h := h.2 c134
          refine lv_iconst (v := (0 : Int32)) hx hb dL_law_737 k_iconst_0 ?_
          exact h.elim
      replace h := h.2 c129
      by_cases c136 : sw2 = (19 : Int32)
      · replace h := h.1 c136
        refine lv_tableIn (off := 707) (tgt := 739) hx hb dL_law_32 (by rw [c136]; decide) (by rw [c136]; decide) (by rw [c136]; rfl) (by decide) ?_
        refine lv_aload_n hx hb dL_law_739 rfl (lv_at hl 2 rfl) ?_
        refine lv_aload_n hx hb dL_law_740 rfl (lv_at hl 1 rfl) ?_
        refine lv_iload_n hx hb dL_law_741 rfl (lv_at hl 0 rfl) ?_
        refine lv_iconst (v := (1 : Int32)) hx hb dL_law_742 k_iconst_1 ?_
        refine lv_iadd hx hb dL_law_743 ?_
        refine va_sld hx hb hX hbl hbA hS h.1 dL_law_744 ?_
        replace h := h.2
        refine rc_Vi (As := [.int (xs (ix (x3 + (1 : Int32))))]) (rest := []) ⟨hx, hb, hml, hown, hts⟩ (mX6_rightAt l G 0 (xs (ix (x3 + (1 : Int32)))) M _ kd_0 h) (cwV 1 hts (gV_X6_rightAt q_29_11) rfl rfl rfl hdV_X6_rightAt ⟨Nat.le_of_ble_eq_true rfl, Nat.le_of_ble_eq_true rfl⟩) hK hP hS kd_0 (by decide) cl_6 rfl hl.1 rfl (Nat.le_of_ble_eq_true rfl) dL_law_745 ⟨Nat.le_refl _, Nat.le_refl _⟩ (fun r138 M137 H locs h hP hS => ?_)
        refine lv_aload_n hx hb dL_law_748 rfl (lv_at hl 3 rfl) ?_
        refine lv_aload_n hx hb dL_law_749 rfl (lv_at hl 1 rfl) ?_
        refine lv_iload_n hx hb dL_law_750 rfl (lv_at hl 0 rfl) ?_
        refine lv_iconst (v := (1 : Int32)) hx hb dL_law_751 k_iconst_1 ?_
        refine lv_iadd hx hb dL_law_752 ?_
        refine va_sld hx hb hX hbl hbA hS h.1 dL_law_753 ?_
        replace h := h.2
        refine rc_Vi (As := [.int (xs (ix (x3 + (1 : Int32))))]) (rest := [.int r138]) ⟨hx, hb, hml, hown, hts⟩ (mX7_rightAt l G 143 (xs (ix (x3 + (1 : Int32)))) M137 _ kd_143 h) (cwV 1 hts (gV_X7_rightAt q_29_16) rfl rfl rfl hdV_X7_rightAt ⟨Nat.le_of_ble_eq_true rfl, Nat.le_of_ble_eq_true rfl⟩) hK hP hS kd_143 (by decide) cl_7 rfl hl.1 rfl (Nat.le_of_ble_eq_true rfl) dL_law_754 ⟨Nat.le_refl _, Nat.le_refl _⟩ (fun r140 M139 H locs h hP hS => ?_)
        refine lv_icmp_eq (tgt := 870) hx hb dL_law_757 (by decide) (fun c141 => ?_) (fun c141 => ?_)
        · replace h := h.1 c141
          obtain ⟨x3_142, ex3_142⟩ : ∃ y : Int32, y = x3 + (5 : Int32) := ⟨_, rfl⟩
          replace h := h x3_142 ex3_142
          refine lv_iinc (v := x3_142) (lv' := [(3, .int x3_142), (0, .ref b), (1, .ref (G.2.1 + 0)), (2, .ref (G.2.1 + 143))]) hx hb dL_law_870 hl (k := 0) rfl (by rw [ex3_142]; rfl) (by decide) rfl (fun ls hl => ?_)
          refine lv_goto (tgt := 18) hx hb dL_law_873 (by decide) ?_
          exact hA _ _ _ _ _ hP hS (lv_sub hl [0, 1, 2, 3] rfl) h
        · replace h := h.2 c141
          refine lv_iconst (v := (0 : Int32)) hx hb dL_law_760 k_iconst_0 ?_
          exact h.elim
      replace h := h.2 c136
      by_cases c143 : sw2 = (20 : Int32)
      · replace h := h.1 c143
        refine lv_tableIn (off := 730) (tgt := 762) hx hb dL_law_32 (by rw [c143]; decide) (by rw [c143]; decide) (by rw [c143]; rfl) (by decide) ?_
        refine lv_aload_n hx hb dL_law_762 rfl (lv_at hl 2 rfl) ?_
        refine lv_aload_n hx hb dL_law_763 rfl (lv_at hl 1 rfl) ?_
        refine lv_iload_n hx hb dL_law_764 rfl (lv_at hl 0 rfl) ?_
        refine lv_iconst (v := (1 : Int32)) hx hb dL_law_765 k_iconst_1 ?_
        refine lv_iadd hx hb dL_law_766 ?_
        refine va_sld hx hb hX hbl hbA hS h.1 dL_law_767 ?_
        replace h := h.2
        refine rc_Vi (As := [.int (xs (ix (x3 + (1 : Int32))))]) (rest := []) ⟨hx, hb, hml, hown, hts⟩ (mX6_count l G 0 (xs (ix (x3 + (1 : Int32)))) M _ kd_0 h) (cwV 1 hts (gV_X6_count q_29_20) rfl rfl rfl hdV_X6_count ⟨Nat.le_of_ble_eq_true rfl, Nat.le_of_ble_eq_true rfl⟩) hK hP hS kd_0 (by decide) cl_6 rfl hl.1 rfl (Nat.le_of_ble_eq_true rfl) dL_law_768 ⟨Nat.le_refl _, Nat.le_refl _⟩ (fun r145 M144 H locs h hP hS => ?_)
        refine lv_aload_n hx hb dL_law_771 rfl (lv_at hl 3 rfl) ?_
        refine lv_aload_n hx hb dL_law_772 rfl (lv_at hl 1 rfl) ?_
        refine lv_iload_n hx hb dL_law_773 rfl (lv_at hl 0 rfl) ?_
        refine lv_iconst (v := (1 : Int32)) hx hb dL_law_774 k_iconst_1 ?_
        refine lv_iadd hx hb dL_law_775 ?_
        refine va_sld hx hb hX hbl hbA hS h.1 dL_law_776 ?_
        replace h := h.2
        refine rc_Vi (As := [.int (xs (ix (x3 + (1 : Int32))))]) (rest := [.int r145]) ⟨hx, hb, hml, hown, hts⟩ (mX7_count l G 143 (xs (ix (x3 + (1 : Int32)))) M144 _ kd_143 h) (cwV 1 hts (gV_X7_count q_30_10) rfl rfl rfl hdV_X7_count ⟨Nat.le_of_ble_eq_true rfl, Nat.le_of_ble_eq_true rfl⟩) hK hP hS kd_143 (by decide) cl_7 rfl hl.1 rfl (Nat.le_of_ble_eq_true rfl) dL_law_777 ⟨Nat.le_refl _, Nat.le_refl _⟩ (fun r147 M146 H locs h hP hS => ?_)
        refine lv_icmp_eq (tgt := 870) hx hb dL_law_780 (by decide) (fun c148 => ?_) (fun c148 => ?_)
        · replace h := h.1 c148
          obtain ⟨x3_149, ex3_149⟩ : ∃ y : Int32, y = x3 + (5 : Int32) := ⟨_, rfl⟩
          replace h := h x3_149 ex3_149
          refine lv_iinc (v := x3_149) (lv' := [(3, .int x3_149), (0, .ref b), (1, .ref (G.2.1 + 0)), (2, .ref (G.2.1 + 143))]) hx hb dL_law_870 hl (k := 0) rfl (by rw [ex3_149]; rfl) (by decide) rfl (fun ls hl => ?_)
          refine lv_goto (tgt := 18) hx hb dL_law_873 (by decide) ?_
          exact hA _ _ _ _ _ hP hS (lv_sub hl [0, 1, 2, 3] rfl) h
        · replace h := h.2 c148
          refine lv_iconst (v := (0 : Int32)) hx hb dL_law_783 k_iconst_0 ?_
          exact h.elim
      replace h := h.2 c143
      by_cases c150 : sw2 = (21 : Int32)
      · replace h := h.1 c150
        refine lv_tableIn (off := 753) (tgt := 785) hx hb dL_law_32 (by rw [c150]; decide) (by rw [c150]; decide) (by rw [c150]; rfl) (by decide) ?_
        refine lv_aload_n hx hb dL_law_785 rfl (lv_at hl 2 rfl) ?_
        refine rc_Vi (As := []) (rest := []) ⟨hx, hb, hml, hown, hts⟩ (mX6_undo l G 0 M _ kd_0 h) (cwV 0 hts (gV_X6_undo q_30_23) rfl rfl rfl hdV_X6_undo ⟨Nat.le_of_ble_eq_true rfl, Nat.le_of_ble_eq_true rfl⟩) hK hP hS kd_0 (by decide) cl_6 rfl hl.1 rfl (Nat.le_of_ble_eq_true rfl) dL_law_786 ⟨Nat.le_refl _, Nat.le_refl _⟩ (fun r152 M151 H locs h hP hS => ?_)
        refine lv_aload_n hx hb dL_law_789 rfl (lv_at hl 3 rfl) ?_
        refine rc_Vi (As := []) (rest := [.int r152]) ⟨hx, hb, hml, hown, hts⟩ (mX7_undo l G 143 M151 _ kd_143 h) (cwV 0 hts (gV_X7_undo q_31_7) rfl rfl rfl hdV_X7_undo ⟨Nat.le_of_ble_eq_true rfl, Nat.le_of_ble_eq_true rfl⟩) hK hP hS kd_143 (by decide) cl_7 rfl hl.1 rfl (Nat.le_of_ble_eq_true rfl) dL_law_790 ⟨Nat.le_refl _, Nat.le_refl _⟩ (fun r154 M153 H locs h hP hS => ?_)
        refine lv_icmp_eq (tgt := 870) hx hb dL_law_793 (by decide) (fun c155 => ?_) (fun c155 => ?_)
        · replace h := h.1 c155
          obtain ⟨x3_156, ex3_156⟩ : ∃ y : Int32, y = x3 + (5 : Int32) := ⟨_, rfl⟩
          replace h := h x3_156 ex3_156
          refine lv_iinc (v := x3_156) (lv' := [(3, .int x3_156), (0, .ref b), (1, .ref (G.2.1 + 0)), (2, .ref (G.2.1 + 143))]) hx hb dL_law_870 hl (k := 0) rfl (by rw [ex3_156]; rfl) (by decide) rfl (fun ls hl => ?_)
          refine lv_goto (tgt := 18) hx hb dL_law_873 (by decide) ?_
          exact hA _ _ _ _ _ hP hS (lv_sub hl [0, 1, 2, 3] rfl) h
        · replace h := h.2 c155
          refine lv_iconst (v := (0 : Int32)) hx hb dL_law_796 k_iconst_0 ?_
          exact h.elim
      replace h := h.2 c150
      by_cases c157 : sw2 = (22 : Int32)
      · replace h := h.1 c157
        refine lv_tableIn (off := 766) (tgt := 798) hx hb dL_law_32 (by rw [c157]; decide) (by rw [c157]; decide) (by rw [c157]; rfl) (by decide) ?_
        refine lv_aload_n hx hb dL_law_798 rfl (lv_at hl 2 rfl) ?_
        refine lv_aload_n hx hb dL_law_799 rfl (lv_at hl 1 rfl) ?_
        refine lv_iload_n hx hb dL_law_800 rfl (lv_at hl 0 rfl) ?_
        refine lv_iconst (v := (1 : Int32)) hx hb dL_law_801 k_iconst_1 ?_
        refine lv_iadd hx hb dL_law_802 ?_
        refine va_sld hx hb hX hbl hbA hS h.1 dL_law_803 ?_
        replace h := h.2
        refine rc_Vi (As := [.int (xs (ix (x3 + (1 : Int32))))]) (rest := []) ⟨hx, hb, hml, hown, hts⟩ (mX6_type l G 0 (xs (ix (x3 + (1 : Int32)))) M _ kd_0 h) (cwV 1 hts (gV_X6_type q_31_11) rfl rfl rfl hdV_X6_type ⟨Nat.le_of_ble_eq_true rfl, Nat.le_of_ble_eq_true rfl⟩) hK hP hS kd_0 (by decide) cl_6 rfl hl.1 rfl (Nat.le_of_ble_eq_true rfl) dL_law_804 ⟨Nat.le_refl _, Nat.le_refl _⟩ (fun r159 M158 H locs h hP hS => ?_)
        refine lv_aload_n hx hb dL_law_807 rfl (lv_at hl 3 rfl) ?_
        refine lv_aload_n hx hb dL_law_808 rfl (lv_at hl 1 rfl) ?_
        refine lv_iload_n hx hb dL_law_809 rfl (lv_at hl 0 rfl) ?_
        refine lv_iconst (v := (1 : Int32)) hx hb dL_law_810 k_iconst_1 ?_
        refine lv_iadd hx hb dL_law_811 ?_
        refine va_sld hx hb hX hbl hbA hS h.1 dL_law_812 ?_
        replace h := h.2
        refine rc_Vi (As := [.int (xs (ix (x3 + (1 : Int32))))]) (rest := [.int r159]) ⟨hx, hb, hml, hown, hts⟩ (mX7_type l G 143 (xs (ix (x3 + (1 : Int32)))) M158 _ kd_143 h) (cwV 1 hts (gV_X7_type q_31_20) rfl rfl rfl hdV_X7_type ⟨Nat.le_of_ble_eq_true rfl, Nat.le_of_ble_eq_true rfl⟩) hK hP hS kd_143 (by decide) cl_7 rfl hl.1 rfl (Nat.le_of_ble_eq_true rfl) dL_law_813 ⟨Nat.le_refl _, Nat.le_refl _⟩ (fun r161 M160 H locs h hP hS => ?_)
        refine lv_icmp_eq (tgt := 870) hx hb dL_law_816 (by decide) (fun c162 => ?_) (fun c162 => ?_)
        · replace h := h.1 c162
          obtain ⟨x3_163, ex3_163⟩ : ∃ y : Int32, y = x3 + (5 : Int32) := ⟨_, rfl⟩
          replace h := h x3_163 ex3_163
          refine lv_iinc (v := x3_163) (lv' := [(3, .int x3_163), (0, .ref b), (1, .ref (G.2.1 + 0)), (2, .ref (G.2.1 + 143))]) hx hb dL_law_870 hl (k := 0) rfl (by rw [ex3_163]; rfl) (by decide) rfl (fun ls hl => ?_)
          refine lv_goto (tgt := 18) hx hb dL_law_873 (by decide) ?_
          exact hA _ _ _ _ _ hP hS (lv_sub hl [0, 1, 2, 3] rfl) h
        · replace h := h.2 c162
          refine lv_iconst (v := (0 : Int32)) hx hb dL_law_819 k_iconst_0 ?_
          exact h.elim
      replace h := h.2 c157
      by_cases c164 : sw2 = (23 : Int32)
      · replace h := h.1 c164
        refine lv_tableIn (off := 789) (tgt := 821) hx hb dL_law_32 (by rw [c164]; decide) (by rw [c164]; decide) (by rw [c164]; rfl) (by decide) ?_
        refine lv_aload_n hx hb dL_law_821 rfl (lv_at hl 2 rfl) ?_
        refine rc_Vi (As := []) (rest := []) ⟨hx, hb, hml, hown, hts⟩ (mX6_clearText l G 0 M _ kd_0 h) (cwV 0 hts (gV_X6_clearText q_32_0) rfl rfl rfl hdV_X6_clearText ⟨Nat.le_of_ble_eq_true rfl, Nat.le_of_ble_eq_true rfl⟩) hK hP hS kd_0 (by decide) cl_6 rfl hl.1 rfl (Nat.le_of_ble_eq_true rfl) dL_law_822 ⟨Nat.le_refl _, Nat.le_refl _⟩ (fun r166 M165 H locs h hP hS => ?_)
        refine lv_aload_n hx hb dL_law_825 rfl (lv_at hl 3 rfl) ?_
        refine rc_Vi (As := []) (rest := [.int r166]) ⟨hx, hb, hml, hown, hts⟩ (mX7_clearText l G 143 M165 _ kd_143 h) (cwV 0 hts (gV_X7_clearText q_32_4) rfl rfl rfl hdV_X7_clearText ⟨Nat.le_of_ble_eq_true rfl, Nat.le_of_ble_eq_true rfl⟩) hK hP hS kd_143 (by decide) cl_7 rfl hl.1 rfl (Nat.le_of_ble_eq_true rfl) dL_law_826 ⟨Nat.le_refl _, Nat.le_refl _⟩ (fun r168 M167 H locs h hP hS => ?_)
        refine lv_icmp_eq (tgt := 870) hx hb dL_law_829 (by decide) (fun c169 => ?_) (fun c169 => ?_)
        · replace h := h.1 c169
          obtain ⟨x3_170, ex3_170⟩ : ∃ y : Int32, y = x3 + (5 : Int32) := ⟨_, rfl⟩
          replace h := h x3_170 ex3_170
          refine lv_iinc (v := x3_170) (lv' := [(3, .int x3_170), (0, .ref b), (1, .ref (G.2.1 + 0)), (2, .ref (G.2.1 + 143))]) hx hb dL_law_870 hl (k := 0) rfl (by rw [ex3_170]; rfl) (by decide) rfl (fun ls hl => ?_)
          refine lv_goto (tgt := 18) hx hb dL_law_873 (by decide) ?_
          exact hA _ _ _ _ _ hP hS (lv_sub hl [0, 1, 2, 3] rfl) h
        · replace h := h.2 c169
          refine lv_iconst (v := (0 : Int32)) hx hb dL_law_832 k_iconst_0 ?_
          exact h.elim
      replace h := h.2 c164
      by_cases c171 : sw2 = (24 : Int32)
      · replace h := h.1 c171
        refine lv_tableIn (off := 802) (tgt := 834) hx hb dL_law_32 (by rw [c171]; decide) (by rw [c171]; decide) (by rw [c171]; rfl) (by decide) ?_
        refine lv_aload_n hx hb dL_law_834 rfl (lv_at hl 2 rfl) ?_
        refine lv_aload_n hx hb dL_law_835 rfl (lv_at hl 1 rfl) ?_
        refine lv_iload_n hx hb dL_law_836 rfl (lv_at hl 0 rfl) ?_
        refine lv_iconst (v := (1 : Int32)) hx hb dL_law_837 k_iconst_1 ?_
        refine lv_iadd hx hb dL_law_838 ?_
        refine va_sld hx hb hX hbl hbA hS h.1 dL_law_839 ?_
        replace h := h.2
        refine rc_Vi (As := [.int (xs (ix (x3 + (1 : Int32))))]) (rest := []) ⟨hx, hb, hml, hown, hts⟩ (mX6_fault l G 0 (xs (ix (x3 + (1 : Int32)))) M _ kd_0 h) (cwV 1 hts (gV_X6_fault q_32_8) rfl rfl rfl hdV_X6_fault ⟨Nat.le_of_ble_eq_true rfl, Nat.le_of_ble_eq_true rfl⟩) hK hP hS kd_0 (by decide) cl_6 rfl hl.1 rfl (Nat.le_of_ble_eq_true rfl) dL_law_840 ⟨Nat.le_refl _, Nat.le_refl _⟩ (fun r173 M172 H locs h hP hS => ?_)
        refine lv_aload_n hx hb dL_law_843 rfl (lv_at hl 3 rfl) ?_
        refine lv_aload_n hx hb dL_law_844 rfl (lv_at hl 1 rfl) ?_
        refine lv_iload_n hx hb dL_law_845 rfl (lv_at hl 0 rfl) ?_
        refine lv_iconst (v := (1 : Int32)) hx hb dL_law_846 k_iconst_1 ?_
        refine lv_iadd hx hb dL_law_847 ?_
        refine va_sld hx hb hX hbl hbA hS h.1 dL_law_848 ?_
        replace h := h.2
        refine rc_Vi (As := [.int (xs (ix (x3 + (1 : Int32))))]) (rest := [.int r173]) ⟨hx, hb, hml, hown, hts⟩ (mX7_fault l G 143 (xs (ix (x3 + (1 : Int32)))) M172 _ kd_143 h) (cwV 1 hts (gV_X7_fault q_35_1) rfl rfl rfl hdV_X7_fault ⟨Nat.le_of_ble_eq_true rfl, Nat.le_of_ble_eq_true rfl⟩) hK hP hS kd_143 (by decide) cl_7 rfl hl.1 rfl (Nat.le_of_ble_eq_true rfl) dL_law_849 ⟨Nat.le_refl _, Nat.le_refl _⟩ (fun r175 M174 H locs h hP hS => ?_)
        refine lv_icmp_eq (tgt := 870) hx hb dL_law_852 (by decide) (fun c176 => ?_) (fun c176 => ?_)
        · replace h := h.1 c176
          obtain ⟨x3_177, ex3_177⟩ : ∃ y : Int32, y = x3 + (5 : Int32) := ⟨_, rfl⟩
          replace h := h x3_177 ex3_177
          refine lv_iinc (v := x3_177) (lv' := [(3, .int x3_177), (0, .ref b), (1, .ref (G.2.1 + 0)), (2, .ref (G.2.1 + 143))]) hx hb dL_law_870 hl (k := 0) rfl (by rw [ex3_177]; rfl) (by decide) rfl (fun ls hl => ?_)
          refine lv_goto (tgt := 18) hx hb dL_law_873 (by decide) ?_
          exact hA _ _ _ _ _ hP hS (lv_sub hl [0, 1, 2, 3] rfl) h
        · replace h := h.2 c176
          refine lv_iconst (v := (0 : Int32)) hx hb dL_law_855 k_iconst_0 ?_
          exact h.elim
      replace h := h.2 c171
      by_cases c178 : sw2 = (25 : Int32)
      · replace h := h.1 c178
        refine lv_tableIn (off := 825) (tgt := 857) hx hb dL_law_32 (by rw [c178]; decide) (by rw [c178]; decide) (by rw [c178]; rfl) (by decide) ?_
        refine lv_aload_n hx hb dL_law_857 rfl (lv_at hl 2 rfl) ?_
        refine rc_Vi (As := []) (rest := []) ⟨hx, hb, hml, hown, hts⟩ (mX6_play l G 0 M _ kd_0 h) (cwV 0 hts (gV_X6_play q_36_14) rfl rfl rfl hdV_X6_play ⟨Nat.le_of_ble_eq_true rfl, Nat.le_of_ble_eq_true rfl⟩) hK hP hS kd_0 (by decide) cl_6 rfl hl.1 rfl (Nat.le_of_ble_eq_true rfl) dL_law_858 ⟨Nat.le_refl _, Nat.le_refl _⟩ (fun r180 M179 H locs h hP hS => ?_)
        refine lv_aload_n hx hb dL_law_861 rfl (lv_at hl 3 rfl) ?_
        refine rc_Vi (As := []) (rest := [.int r180]) ⟨hx, hb, hml, hown, hts⟩ (mX7_play l G 143 M179 _ kd_143 h) (cwV 0 hts (gV_X7_play q_36_18) rfl rfl rfl hdV_X7_play ⟨Nat.le_of_ble_eq_true rfl, Nat.le_of_ble_eq_true rfl⟩) hK hP hS kd_143 (by decide) cl_7 rfl hl.1 rfl (Nat.le_of_ble_eq_true rfl) dL_law_862 ⟨Nat.le_refl _, Nat.le_refl _⟩ (fun r182 M181 H locs h hP hS => ?_)
        refine lv_icmp_eq (tgt := 870) hx hb dL_law_865 (by decide) (fun c183 => ?_) (fun c183 => ?_)
        · replace h := h.1 c183
          obtain ⟨x3_184, ex3_184⟩ : ∃ y : Int32, y = x3 + (5 : Int32) := ⟨_, rfl⟩
          replace h := h x3_184 ex3_184
          refine lv_iinc (v := x3_184) (lv' := [(3, .int x3_184), (0, .ref b), (1, .ref (G.2.1 + 0)), (2, .ref (G.2.1 + 143))]) hx hb dL_law_870 hl (k := 0) rfl (by rw [ex3_184]; rfl) (by decide) rfl (fun ls hl => ?_)
          refine lv_goto (tgt := 18) hx hb dL_law_873 (by decide) ?_
          exact hA _ _ _ _ _ hP hS (lv_sub hl [0, 1, 2, 3] rfl) h
        · replace h := h.2 c183
          refine lv_iconst (v := (0 : Int32)) hx hb dL_law_868 k_iconst_0 ?_
          exact h.elim
      replace h := h.2 c178
      refine lv_tableOut (tgt := 870) hx hb dL_law_32 (by have gc3 := lv_neT c3 (show (0 : Int32).toInt = 0 from rfl); have gc10 := lv_neT c10 (show (1 : Int32).toInt = 1 from rfl); have gc17 := lv_neT c17 (show (2 : Int32).toInt = 2 from rfl); have gc24 := lv_neT c24 (show (3 : Int32).toInt = 3 from rfl); have gc31 := lv_neT c31 (show (4 : Int32).toInt = 4 from rfl); have gc38 := lv_neT c38 (show (5 : Int32).toInt = 5 from rfl); have gc45 := lv_neT c45 (show (6 : Int32).toInt = 6 from rfl); have gc52 := lv_neT c52 (show (7 : Int32).toInt = 7 from rfl); have gc59 := lv_neT c59 (show (8 : Int32).toInt = 8 from rfl); have gc66 := lv_neT c66 (show (9 : Int32).toInt = 9 from rfl); have gc73 := lv_neT c73 (show (10 : Int32).toInt = 10 from rfl); have gc80 := lv_neT c80 (show (11 : Int32).toInt = 11 from rfl); have gc87 := lv_neT c87 (show (12 : Int32).toInt = 12 from rfl); have gc94 := lv_neT c94 (show (13 : Int32).toInt = 13 from rfl); have gc101 := lv_neT c101 (show (14 : Int32).toInt = 14 from rfl); have gc108 := lv_neT c108 (show (15 : Int32).toInt = 15 from rfl); have gc115 := lv_neT c115 (show (16 : Int32).toInt = 16 from rfl); have gc122 := lv_neT c122 (show (17 : Int32).toInt = 17 from rfl); have gc129 := lv_neT c129 (show (18 : Int32).toInt = 18 from rfl); have gc136 := lv_neT c136 (show (19 : Int32).toInt = 19 from rfl); have gc143 := lv_neT c143 (show (20 : Int32).toInt = 20 from rfl); have gc150 := lv_neT c150 (show (21 : Int32).toInt = 21 from rfl); have gc157 := lv_neT c157 (show (22 : Int32).toInt = 22 from rfl); have gc164 := lv_neT c164 (show (23 : Int32).toInt = 23 from rfl); have gc171 := lv_neT c171 (show (24 : Int32).toInt = 24 from rfl); have gc178 := lv_neT c178 (show (25 : Int32).toInt = 25 from rfl); omega) (by decide) ?_
      obtain ⟨x3_185, ex3_185⟩ : ∃ y : Int32, y = x3 + (5 : Int32) := ⟨_, rfl⟩
      replace h := h x3_185 ex3_185
      refine lv_iinc (v := x3_185) (lv' := [(3, .int x3_185), (0, .ref b), (1, .ref (G.2.1 + 0)), (2, .ref (G.2.1 + 143))]) hx hb dL_law_870 hl (k := 0) rfl (by rw [ex3_185]; rfl) (by decide) rfl (fun ls hl => ?_)
      refine lv_goto (tgt := 18) hx hb dL_law_873 (by decide) ?_
      exact hA _ _ _ _ _ hP hS (lv_sub hl [0, 1, 2, 3] rfl) h
