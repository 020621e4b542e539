/-! the reference: counts, history back, text -/
def tnO (S : SS) (g : Nat) : Bool := decide (1 ≤ g) && decide (0 ≤ ca S g 5)
theorem sp7_tendedOnes {Post : Mm → Int32 → Prop} {M : Mm} {n : Nat} (hn : M 144 0 = nI n) (h1 : 1 ≤ n) (h8 : n ≤ 8) (h : Post M (ofB (tnO (M 144)) n)) : wX7_tendedOnes Post M 143 := by
  show ∃ q : Nat, lX7_tendedOnes_4 Post q M 143 0 (nI 1)
  refine pk_loop (fun q i (y : Int32) => lX7_tendedOnes_4 Post q M 143 y (nI i)) (fun i y => 1 ≤ i ∧ y = ofB (tnO (M 144)) i) n 1 0 h1 ⟨Nat.le_refl 1, rfl⟩ ?_ ?_
  · rintro q y ⟨-, e⟩
    subst e
    refine ⟨fun _ => h, fun z => absurd ?_ z⟩
    show M 144 0 ≤ nI n
    rw [hn]; exact nI_le (Nat.le_refl _) (by omega)
  · rintro q i y hi ⟨hi1, e⟩ ih
    subst e
    refine ⟨fun z => absurd z ?_, fun _ => sp7_ca (c := i) (w := 5) rfl rfl (by omega) (by omega) ⟨fun d x2 e2 x3 e3 => ?_, fun d x2 e2 x3 e3 => ?_⟩⟩
    · show ¬ M 144 0 ≤ nI i
      rw [hn]; exact nI_ge hi (by omega)
    · rw [e3, nI_1, e2, or_0]
      refine ih _ ⟨by omega, ?_⟩
      rw [ofB_succ, if_neg]
      unfold tnO
      rw [decide_eq_false (Int32.not_le.mpr d), Bool.and_false]; decide
    · rw [e3, nI_1, e2]
      refine ih _ ⟨by omega, ?_⟩
      rw [ofB_succ, if_pos]
      unfold tnO
      rw [decide_eq_true hi1, decide_eq_true (Int32.not_lt.mp d)]; rfl
def wnF (S : SS) : Nat → Nat
  | 0 => 0
  | f + 1 => wnF S f + (if wt S f = true then 1 else 0)
theorem sp7_wanting {Post : Mm → Int32 → Prop} {M : Mm} {m : Nat} (hm : M 144 1 = nI m) (h10 : m ≤ 10) (h : Post M (nI (wnF (M 144) m))) : wX7_wanting Post M 143 := by
  show ∃ q : Nat, lX7_wanting_4 Post q M 143 0 (nI 0)
  refine pk_loop (fun q i (y : Int32) => lX7_wanting_4 Post q M 143 y (nI i)) (fun i y => y = nI (wnF (M 144) i)) m 0 0 (by omega) rfl ?_ ?_
  · intro q y e
    subst e
    refine ⟨fun _ => h, fun z => absurd ?_ z⟩
    show M 144 1 ≤ nI m
    rw [hm]; exact nI_le (Nat.le_refl _) (by omega)
  · intro q i y hi e ih
    subst e
    refine ⟨fun z => absurd z ?_, fun _ => sp7_wants (f := i) rfl (by omega) ⟨fun d x2 e2 x3 e3 => ?_, fun d x2 e2 x3 e3 => ?_⟩⟩
    · show ¬ M 144 1 ≤ nI i
      rw [hm]; exact nI_ge hi (by omega)
    · rw [e3, nI_1, e2]
      refine ih _ ?_
      show nI _ + nI 0 = nI (wnF (M 144) i + _)
      rw [nI_add, b2i_0.mp d, if_neg (by decide)]
    · rw [e3, nI_1, e2]
      refine ih _ ?_
      show nI _ + nI 1 = nI (wnF (M 144) i + _)
      rw [nI_add, b2i_1.mp ((b2i_01 _).resolve_left d), if_pos rfl]
def cntF (S : SS) (n m s L : Nat) (y : Int32) : Int32 :=
  if y = 0 then S 0 else if y = 1 then S 1 else if y = 2 then nI (wnF S m) else if y = 3 then cl S m else if y = 4 then oo S n else if y = 5 then ofB (tnO S) n
  else if y = 6 then S 5 else if y = 7 then S 6 else if y = 8 then S 7 else if y = 9 then S 8 else if y = 10 then S 9 else if y = 11 then S 2
  else if y = 12 then (if S 2 = 0 then -1000004 else S 3) else if y = 13 then S 4 else if y = 14 then nI s else if y = 15 then nI L else -1000001
theorem sp7_count {Post : Mm → Int32 → Prop} {M : Mm} {n m t s L : Nat} {y : Int32} (hw : Wf (M 144) n m t) (hs : M 143 4 = nI s) (hL : M 143 6 = nI L) (h : Post M (cntF (M 144) n m s L y)) : wX7_count Post M 143 y := by
  obtain ⟨w0, w1, w2, ⟨w3, w4⟩, w5, w6, w7, w8⟩ := hw
  unfold cntF at h
  refine ⟨fun e => ?_, fun n0 => ?_⟩
  · rw [if_pos e] at h; subst e; exact ⟨vp_in_nI (n := 0) (by omega) (by omega), h⟩
  rw [if_neg n0] at h
  refine ⟨fun e => ?_, fun n1 => ?_⟩
  · rw [if_pos e] at h; subst e; exact ⟨vp_in_nI (n := 1) (by omega) (by omega), h⟩
  rw [if_neg n1] at h
  refine ⟨fun e => ?_, fun n2 => ?_⟩
  · rw [if_pos e] at h; exact sp7_wanting w1 w5 h
  rw [if_neg n2] at h
  refine ⟨fun e => ?_, fun n3 => ?_⟩
  · rw [if_pos e] at h; exact sp7_calling w1 w5 h
  rw [if_neg n3] at h
  refine ⟨fun e => ?_, fun n4 => ?_⟩
  · rw [if_pos e] at h; exact sp7_openOnes w0 w3 w4 h
  rw [if_neg n4] at h
  refine ⟨fun e => ?_, fun n5 => ?_⟩
  · rw [if_pos e] at h; exact sp7_tendedOnes w0 w3 w4 h
  rw [if_neg n5] at h
  refine ⟨fun e => ?_, fun n6 => ?_⟩
  · rw [if_pos e] at h; subst e; exact ⟨vp_in_nI (n := 5) (by omega) (by omega), h⟩
  rw [if_neg n6] at h
  refine ⟨fun e => ?_, fun n7 => ?_⟩
  · rw [if_pos e] at h; subst e; exact ⟨vp_in_nI (n := 6) (by omega) (by omega), h⟩
  rw [if_neg n7] at h
  refine ⟨fun e => ?_, fun n8 => ?_⟩
  · rw [if_pos e] at h; subst e; exact ⟨vp_in_nI (n := 7) (by omega) (by omega), h⟩
  rw [if_neg n8] at h
  refine ⟨fun e => ?_, fun n9 => ?_⟩
  · rw [if_pos e] at h; subst e; exact ⟨vp_in_nI (n := 8) (by omega) (by omega), h⟩
  rw [if_neg n9] at h
  refine ⟨fun e => ?_, fun n10 => ?_⟩
  · rw [if_pos e] at h; subst e; exact ⟨vp_in_nI (n := 9) (by omega) (by omega), h⟩
  rw [if_neg n10] at h
  refine ⟨fun e => ?_, fun n11 => ?_⟩
  · rw [if_pos e] at h; exact h
  rw [if_neg n11] at h
  refine ⟨fun e => ?_, fun n12 => ?_⟩
  · rw [if_pos e] at h
    refine ⟨fun z => ?_, fun z => ?_⟩
    · have z' : ¬ M 144 2 = 0 := z
      rw [if_neg z'] at h; exact h
    · have z' : M 144 2 = 0 := z
      rw [if_pos z'] at h; exact h
  rw [if_neg n12] at h
  refine ⟨fun e => ?_, fun n13 => ?_⟩
  · rw [if_pos e] at h; exact h
  rw [if_neg n13] at h
  refine ⟨fun e => ?_, fun n14 => ?_⟩
  · rw [if_pos e] at h; rw [hs]; exact h
  rw [if_neg n14] at h
  refine ⟨fun e => ?_, fun n15 => ?_⟩
  · rw [if_pos e] at h; rw [hL]; exact h
  rw [if_neg n15] at h
  exact h
def unS (S W : SS) (s i : Nat) : SS := fun j => if j < i then W (168 * s + j) else S j
theorem sp7_undo {Post : Mm → Int32 → Prop} {M : Mm} {s : Nat} (hs : M 143 4 = nI s) (h4 : s ≤ 4) (h0 : s = 0 → Post M (-1000002)) (h : ∀ k, s = k + 1 → Post (st (sr M 143 (upd (M 143) 4 (nI k))) (unS (M 144) (M 145) k 168)) (nI k)) : wX7_undo Post M 143 := by
  refine ⟨fun d M2 e2 => ?_, fun d => ?_⟩
  · have hs0 : s ≠ 0 := fun z => d (by rw [hs, z]; rfl)
    obtain ⟨k, hk⟩ : ∃ k, s = k + 1 := ⟨s - 1, by omega⟩
    have eM : M2 = sr M 143 (upd (M 143) 4 (nI k)) := by rw [e2, mu_sr, hs, hk, nI_m1]
    subst eM
    have hh := h k hk
    show ∃ q : Nat, lX7_undo_22 Post q (sr M 143 (upd (M 143) 4 (nI k))) 143 (nI 0)
    have ek : ∀ T : SS, st (sr M 143 (upd (M 143) 4 (nI k))) T 143 4 = nI k := fun T => by rw [st_o (by omega), sr_s, upd_s]
    refine pk_loop (fun q i (M' : Mm) => lX7_undo_22 Post q M' 143 (nI i)) (fun i M' => M' = st (sr M 143 (upd (M 143) 4 (nI k))) (unS (M 144) (M 145) k i)) 168 0 _ (by omega) ?_ ?_ ?_
    · refine st_self' ?_
      rw [sr_o (by omega)]
      funext j
      unfold unS
      rw [if_neg (by omega)]
    · intro q M' e
      subst e
      refine ⟨fun _ => ?_, fun z => absurd (show (168 : Int32) ≤ nI 168 by decide) z⟩
      rw [ek]
      exact hh
    · intro q i M' hi e ih
      subst e
      have ei : (168 : Int32) * (st (sr M 143 (upd (M 143) 4 (nI k))) (unS (M 144) (M 145) k i) 143 4) + nI i = nI (168 * k + i) := by
        rw [ek]
        show nI 168 * nI k + nI i = _
        rw [nI_mul, nI_add]
      refine ⟨fun c => absurd c (nI_ge (b := 168) hi (by decide)), fun _ => ⟨by rw [ei]; exact vp_in_nI (by omega) (by omega), vp_in_nI hi (by omega), fun M3 e3 x4 e4 => ?_⟩⟩
      rw [e4, nI_1]
      refine ih _ ?_
      rw [e3, ei, ixn (by omega), ixn (by omega)]
      show mu (st _ _) 144 i (st _ _ 145 _) = _
      rw [mu_st, st_o (by omega), sr_o (by omega)]
      congr 1
      funext j
      by_cases hj : j = i
      · subst hj; rw [upd_s]; unfold unS; rw [if_pos (by omega)]
      · rw [upd_o hj]
        unfold unS
        by_cases h2 : j < i
        · rw [if_pos h2, if_pos (by omega)]
        · rw [if_neg h2, if_neg (by omega)]
  · have hs0 : s = 0 := nI_inj (by omega) (by omega) (hs.symm.trans d)
    exact h0 hs0
theorem nar_char : ∀ c, c < 127 → vp_nar .char (((nI c).toUInt32 % 65536).toInt32) = nI c := by decide +kernel
theorem sp7_type {Post : Mm → Int32 → Prop} {M : Mm} {L : Nat} {x : Int32} (hL : M 143 6 = nI L) (h60 : L ≤ 60) (h1 : inr 32 127 x = false → Post M (-1000001)) (h2 : inr 32 127 x = true → L = 60 → Post M (-1000003)) (h3 : inr 32 127 x = true → L < 60 → Post (sr (sr M 148 (upd (M 148) L x)) 143 (upd (M 143) 6 (nI (L + 1)))) (nI (L + 1))) : wX7_type Post M 143 x := by
  refine sp7_inr (a := 32) (b := 127) (by decide) (by decide) ⟨fun d => ?_, fun d => h1 (b2i_0.mp d)⟩
  have g := b2i_1.mp ((b2i_01 _).resolve_left d)
  refine ⟨fun c => ?_, fun c => h2 g (nI_inj (by omega) (by omega) (hL.symm.trans c))⟩
  have hl : L ≠ 60 := fun z => c (by rw [hL, z]; rfl)
  have h3' := h3 g (by omega)
  obtain ⟨k, k1, k2, ek⟩ := inr_of g
  subst ek
  rw [hL]
  refine ⟨vp_in_nI (by omega) (by omega), fun M5 e5 M6 e6 => ?_⟩
  rw [nar_char k k2, ixn (by omega), mu_sr] at e5
  have e : M6 = sr (sr M 148 (upd (M 148) L (nI k))) 143 (upd (M 143) 6 (nI (L + 1))) := by
    rw [e6, e5, mu_sr]
    show sr (sr M 148 _) 143 (upd (sr M 148 _ 143) 6 (sr M 148 _ 143 6 + 1)) = _
    rw [sr_o (by omega), hL, nI_1]
  subst e
  rw [sr_s, upd_s]
  exact h3'
theorem sp7_clearText {Post : Mm → Int32 → Prop} {M : Mm} {L : Nat} (hL : M 143 6 = nI L) (h : Post (sr M 143 (upd (M 143) 6 0)) (nI L)) : wX7_clearText Post M 143 := by
  intro x1 e1 M2 e2
  rw [e1, hL, e2, mu_sr]
  exact h
def shF (S : SS) (y : Int32) : Int32 := if inr 0 3 y = true then (if S 6 = 0 then -1000004 else (FP.fdiv (FP.i2f (S (7 + ix y))) (FP.i2f (S 6))).toInt32) else -1000001
theorem sp7_share {Post : Mm → Int32 → Prop} {M : Mm} {y : Int32} (hn : ∀ v, v < 3 → M 144 6 ≠ 0 → vf_n32 (FP.fdiv (FP.i2f (M 144 (7 + v))) (FP.i2f (M 144 6))) ∧ Op.cmpValue (FP.fcmp (FP.fdiv (FP.i2f (M 144 (7 + v))) (FP.i2f (M 144 6))) (FP.fdiv (FP.i2f (M 144 (7 + v))) (FP.i2f (M 144 6)))) CmpOp.l = 0) (h : Post M (shF (M 144) y)) : wX7_share Post M 143 y := by
  refine sp7_inr (a := 0) (b := 3) (by decide) (by decide) ⟨fun d => ⟨fun c => ?_, fun c => ?_⟩, fun d => ?_⟩
  · have g := b2i_1.mp ((b2i_01 _).resolve_left d)
    have c' : ¬ M 144 6 = 0 := c
    unfold shF at h
    rw [if_pos g, if_neg c'] at h
    obtain ⟨v, -, hv, ey⟩ := inr_of g
    subst ey
    rw [ixn (by omega)] at h
    have e : (7 : Int32) + nI v = nI (7 + v) := nI_add 7 v
    rw [e, ixn (by omega)]
    obtain ⟨n1, n2⟩ := hn v hv c'
    refine ⟨vp_in_nI (by omega) (by omega), n1, ⟨fun _ => ⟨fun z => absurd rfl z, fun _ => h⟩, fun z => absurd n2 z⟩⟩
  · have g := b2i_1.mp ((b2i_01 _).resolve_left d)
    have c' : M 144 6 = 0 := c
    unfold shF at h
    rw [if_pos g, if_pos c'] at h
    exact h
  · unfold shF at h
    rw [if_neg (by rw [b2i_0.mp d]; decide)] at h
    exact h
