/-! the class: orders read -/
/-- the class's text is the reference's -/
def TX (M : Mm) (T : SS) (L : Nat) : Prop := L ≤ 60 ∧ ∀ i, i < L → M 142 i = T i
def chr (T : SS) (L p : Nat) : Int32 := if p < L then T p else 0
theorem chr_sgn {T : SS} {L p : Nat} {c : Int32} (h0 : c ≠ 0) (h1 : c ≠ -1) : chr T L p = c ↔ sgn T L p = c := by
  unfold chr sgn
  by_cases h : p < L
  · rw [if_pos h, if_pos h]
  · rw [if_neg h, if_neg h]
    exact ⟨fun z => absurd z.symm h0, fun z => absurd z.symm h1⟩
theorem chr_dig {T : SS} {L p : Nat} : (¬ chr T L p < 48 ∧ chr T L p ≤ 57) ↔ inr 48 58 (sgn T L p) = true := by
  have e8 : (48 : Int32).toInt = 48 := by decide
  have e7 : (57 : Int32).toInt = 57 := by decide
  have e0 : (0 : Int32).toInt = 0 := by decide
  have e1 : (-1 : Int32).toInt = -1 := by decide
  unfold chr sgn inr
  rw [decide_eq_true_iff]
  by_cases h : p < L
  · rw [if_pos h, if_pos h, i_lt, i_le]
    omega
  · rw [if_neg h, if_neg h, i_lt, i_le]
    omega
theorem sr_mu {M : Mm} {a k : Nat} {H : SS} {v : Int32} : mu (sr M a H) a k v = sr M a (upd H k v) := by rw [mu_sr, sr_s, sr_sr]
theorem sp3_char {Post : Mm → Int32 → Prop} {M : Mm} {T H : SS} {L p : Nat} (hX : TX M T L) (hL : H 0 = nI L) (hp : p ≤ L) (h : Post (sr M 141 H) (chr T L p)) : wX3_characterAt Post (sr M 141 H) 141 (nI p) := by
  have h60 := hX.1
  have r0 : sr M 141 H 141 0 = nI L := by rw [sr_s]; exact hL
  refine ⟨fun z => absurd z (nI_pos (by omega)), fun _ => ⟨fun z => ?_, fun z => ?_⟩⟩
  · rw [r0] at z
    have := (nI_leI (by omega) (by omega)).mp z
    unfold chr at h
    rw [if_neg (by omega)] at h
    exact h
  · rw [r0] at z
    have hlt : p < L := by
      rcases Nat.lt_or_ge p L with q | q
      · exact q
      · exact absurd (nI_le q (by omega)) z
    refine ⟨vp_in_nI (by omega) (by omega), ?_⟩
    have : sr M 141 H (141 + 1) (ix (nI p)) = T p := by
      rw [ixn (by omega), sr_o (by omega)]
      exact hX.2 p hlt
    rw [this]
    unfold chr at h
    rw [if_pos hlt] at h
    exact h
theorem rdN_rng {T : SS} {L : Nat} : ∀ f p v, (∃ w : Nat, v = nI w ∧ (w + 1) * 10 ^ f ≤ 1000) → ∃ w : Nat, w ≤ 999 ∧ (rdN T L f p v).2 = nI w := by
  intro f
  induction f with
  | zero => rintro p v ⟨w, ev, hw⟩; exact ⟨w, by rw [Nat.pow_zero] at hw; omega, ev⟩
  | succ f ih =>
    rintro p v ⟨w, ev, hw⟩
    have hp : 0 < 10 ^ f := Nat.pow_pos (by omega)
    unfold rdN
    split
    · next h =>
      refine ih _ _ ?_
      obtain ⟨c, c1, c2, ec⟩ := inr_of h
      refine ⟨10 * w + c - 48, ?_, ?_⟩
      · rw [ev, ec]
        have e1 : (10 : Int32) * nI w = nI (10 * w) := pk_mul 10 w
        rw [e1, nI_add]
        exact ofN_sub (b := 48) (by omega)
      · refine Nat.le_trans ?_ hw
        rw [Nat.pow_succ, Nat.mul_comm (10 ^ f) 10, ← Nat.mul_assoc]
        exact Nat.mul_le_mul_right _ (by omega)
    · refine ⟨w, ?_, ev⟩
      have h1 : (w + 1) * 1 ≤ (w + 1) * 10 ^ (f + 1) := Nat.mul_le_mul_left _ (Nat.pow_pos (by omega))
      omega
theorem imx_0 : imx (-1) 0 = 0 := by decide
theorem imx_n {w : Nat} (h : w ≤ 999) : imx (nI w) 0 = nI w := by
  unfold imx
  rw [if_neg (nI_pos (by omega))]
/-- digits, from the i-th on -/
theorem rn_loop {Post : Mm → Int32 → Prop} {M : Mm} {T : SS} {L : Nat} (hX : TX M T L) : ∀ (f i p : Nat) (v x : Int32) (H : SS), f + i = 3 → H 0 = nI L → H 3 = nI p → p ≤ L → (∃ w : Nat, v = nI w ∧ (w + 1) * 10 ^ f ≤ 1000) → imx x 0 = v → (0 < i → x = v) →
    (∀ H', H' 3 = nI (rdN T L f p v).1 → (∀ k, k ≠ 3 → H' k = H k) → Post (sr M 141 H') (if i = 0 ∧ (rdN T L f p v).1 = p then x else (rdN T L f p v).2)) → lX3_readNumber_4 Post (f + 1) (sr M 141 H) 141 x (nI i) := by
  intro f
  induction f with
  | zero =>
    intro i p v x H hf h0 h3 hp hw hx hi h
    refine ⟨fun _ => ?_, fun z => absurd (show (3 : Int32) ≤ nI i by rw [show i = 3 by omega]; decide) z⟩
    have q := h H h3 (fun _ _ => rfl)
    rw [if_neg (by omega)] at q
    rw [hi (by omega)]
    exact q
  | succ f ih =>
    intro i p v x H hf h0 h3 hp hw hx hi h
    refine ⟨fun z => absurd ((nI_leI (a := 3) (by omega) (by omega)).mp z) (by omega), fun _ => ?_⟩
    have e3 : sr M 141 H 141 3 = nI p := by rw [sr_s]; exact h3
    rw [e3]
    refine sp3_char hX h0 hp ?_
    have stop : ¬ inr 48 58 (sgn T L p) = true → Post (sr M 141 H) x := by
      intro z
      have er : rdN T L (f + 1) p v = (p, v) := if_neg z
      rw [er] at h
      have q := h H h3 (fun _ _ => rfl)
      by_cases e : i = 0
      · rw [if_pos ⟨e, rfl⟩] at q; exact q
      · rw [if_neg (fun y => e y.1), ← hi (by omega)] at q; exact q
    refine ⟨fun c => stop (fun z => (chr_dig.mpr z).1 c), fun c => ⟨fun d => ?_, fun d => stop (fun z => d (chr_dig.mpr z).2)⟩⟩
    have g := chr_dig.mp ⟨c, d⟩
    have hlt := dig_lt g
    have er : rdN T L (f + 1) p v = rdN T L f (p + 1) (10 * v + sgn T L p - 48) := if_pos g
    have ecs : chr T L p = sgn T L p := by unfold chr sgn; rw [if_pos hlt, if_pos hlt]
    rw [er] at h
    intro x1 e1 M8 e8 x2 e2
    rw [e2, nI_1]
    rw [e3, nI_1, sr_mu] at e8
    rw [hx, ecs, Int32.mul_comm] at e1
    rw [e8]
    have hw' : ∃ w : Nat, 10 * v + sgn T L p - 48 = nI w ∧ (w + 1) * 10 ^ f ≤ 1000 := by
      obtain ⟨w, ev, hw⟩ := hw
      obtain ⟨c', c1, c2, ec⟩ := inr_of g
      refine ⟨10 * w + c' - 48, ?_, ?_⟩
      · rw [ev, ec]
        have e1 : (10 : Int32) * nI w = nI (10 * w) := pk_mul 10 w
        rw [e1, nI_add]
        exact ofN_sub (b := 48) (by omega)
      · refine Nat.le_trans ?_ hw
        rw [Nat.pow_succ, Nat.mul_comm (10 ^ f) 10, ← Nat.mul_assoc]
        exact Nat.mul_le_mul_right _ (by omega)
    refine ih (i + 1) (p + 1) (10 * v + sgn T L p - 48) x1 (upd H 3 (nI (p + 1))) (by omega) (by rw [upd_o (by omega)]; exact h0) upd_s (by omega) hw' ?_ (fun _ => e1) ?_
    · obtain ⟨w, ew, hw⟩ := hw'
      rw [e1, ew]
      have h1 : (w + 1) * 1 ≤ (w + 1) * 10 ^ f := Nat.mul_le_mul_left _ (Nat.pow_pos (by omega))
      exact imx_n (by omega)
    · intro H' a1 a2
      have q := h H' a1 (fun k hk => by rw [a2 k hk, upd_o hk])
      have := (rdN_le (T := T) (L := L) f (p + 1) (10 * v + sgn T L p - 48) (by omega)).1
      rw [if_neg (by omega)] at q ⊢
      exact q
theorem sp3_readNumber {Post : Mm → Int32 → Prop} {M : Mm} {T H : SS} {L p : Nat} (hX : TX M T L) (h0 : H 0 = nI L) (h3 : H 3 = nI p) (hp : p ≤ L)
    (h : ∀ H', H' 3 = nI (rdN T L 3 p 0).1 → (∀ k, k ≠ 3 → H' k = H k) → Post (sr M 141 H') (if (rdN T L 3 p 0).1 = p then -1 else (rdN T L 3 p 0).2)) : wX3_readNumber Post (sr M 141 H) 141 := by
  refine ⟨4, rn_loop hX 3 0 p 0 (-1) H rfl h0 h3 hp ⟨0, rfl, by decide⟩ imx_0 (fun z => by omega) (fun H' a1 a2 => ?_)⟩
  have q := h H' a1 a2
  by_cases e : (rdN T L 3 p 0).1 = p
  · rw [if_pos e] at q; rw [if_pos ⟨rfl, e⟩]; exact q
  · rw [if_neg e] at q; rw [if_neg (fun z => e z.2)]; exact q
theorem rdN_nn {T : SS} {L p : Nat} : ∃ w : Nat, w ≤ 999 ∧ (rdN T L 3 p 0).2 = nI w := rdN_rng 3 p 0 ⟨0, rfl, by decide⟩
theorem sp3_skip {Post : Mm → Int32 → Prop} {M : Mm} {T H : SS} {L p : Nat} {c : Int32} (hX : TX M T L) (h0 : H 0 = nI L) (h3 : H 3 = nI p) (hp : p ≤ L) (hc0 : c ≠ 0) (hc1 : c ≠ -1)
    (hy : sgn T L p = c → Post (sr M 141 (upd H 3 (nI (p + 1)))) 1) (hn : sgn T L p ≠ c → Post (sr M 141 H) 0) : wX3_skip Post (sr M 141 H) 141 c := by
  have e3 : sr M 141 H 141 3 = nI p := by rw [sr_s]; exact h3
  unfold wX3_skip
  rw [e3]
  refine sp3_char hX h0 hp ⟨fun d M4 e4 => ?_, fun d => hn (fun z => d ((chr_sgn hc0 hc1).mpr z))⟩
  rw [e3, nI_1, sr_mu] at e4
  rw [e4]
  exact hy ((chr_sgn hc0 hc1).mp d)
/-- an order read: the letter, its numbers -/
theorem sp3_readOrder {Post : Mm → Int32 → Prop} {M : Mm} {T H : SS} {L p : Nat} (hX : TX M T L) (h0 : H 0 = nI L) (h3 : H 3 = nI p) (hp : p ≤ L)
    (h : ∀ H', H' 3 = nI (frm T L p).2.1 → (∀ k, k < 3 ∨ 6 < k → H' k = H k) → ((frm T L p).1 = true → H' 4 = sgn T L p ∧ H' 5 = (frm T L p).2.2.1 ∧ (sgn T L p = 114 → H' 6 = (frm T L p).2.2.2)) → Post (sr M 141 H') (b2i (frm T L p).1)) : wX3_readOrder Post (sr M 141 H) 141 := by
  have e3 : sr M 141 H 141 3 = nI p := by rw [sr_s]; exact h3
  unfold wX3_readOrder
  rw [e3]
  refine sp3_char hX h0 hp (fun M3 eM => ?_)
  rw [sr_mu] at eM
  subst eM
  have e4 : sr M 141 (upd H 4 (chr T L p)) 141 4 = chr T L p := by rw [sr_s]; exact upd_s
  rw [e4]
  -- the semicolon
  have semi : ∀ (K : SS) (q : Nat) (a b : Int32), frm T L p = (if sgn T L q = 59 then (true, q + 1, a, b) else (false, q, a, b)) → q ≤ L → K 3 = nI q → K 4 = sgn T L p → K 5 = a → (sgn T L p = 114 → K 6 = b) → (∀ k, k < 3 ∨ 6 < k → K k = H k) → bX3_readOrder_123 Post (sr M 141 K) 141 := by
    intro K q a b ef hq k3 k4 k5 k6 ko
    refine sp3_skip hX (by rw [ko 0 (by omega)]; exact h0) k3 hq (by decide) (by decide) (fun z => ⟨Or.inr rfl, ?_⟩) (fun z => ⟨Or.inl rfl, ?_⟩)
    · rw [if_pos z] at ef
      rw [ef] at h
      exact h (upd K 3 (nI (q + 1))) upd_s (fun k hk => by rw [upd_o (by omega)]; exact ko k hk) (fun _ => ⟨by rw [upd_o (by omega)]; exact k4, by rw [upd_o (by omega)]; exact k5, fun y => by rw [upd_o (by omega)]; exact k6 y⟩)
    · rw [if_neg z] at ef
      rw [ef] at h
      exact h K k3 ko (fun y => by cases y)
  have go : ltr (sgn T L p) → chr T L p = sgn T L p → bX3_readOrder_59 Post (sr M 141 (upd H 4 (chr T L p))) 141 := by
    intro hl ec
    have hlt := ltr_lt hl
    intro M9 e9
    have r3 : sr M 141 (upd H 4 (chr T L p)) 141 3 = nI p := by rw [sr_s, upd_o (by omega)]; exact h3
    rw [r3, nI_1, sr_mu] at e9
    subst e9
    have ef : frm T L p = frA T L p (rdN T L 3 (p + 1) 0).1 (rdN T L 3 (p + 1) 0).2 := by unfold frm; rw [if_pos hl]
    refine sp3_readNumber hX (p := p + 1) (by rw [upd_o (by omega), upd_o (by omega)]; exact h0) upd_s (by omega) (fun H1 a1 a2 => ?_)
    have hle := rdN_le (T := T) (L := L) 3 (p + 1) 0 (by omega)
    obtain ⟨w, hw, ew⟩ := rdN_nn (T := T) (L := L) (p := p + 1)
    generalize hq : (rdN T L 3 (p + 1) 0).1 = q at ef a1 hle
    generalize hv : (rdN T L 3 (p + 1) 0).2 = v at ef ew
    intro M12 e12
    rw [sr_mu] at e12
    subst e12
    have b0 : H1 0 = nI L := by rw [a2 0 (by omega), upd_o (by omega), upd_o (by omega)]; exact h0
    have b4 : H1 4 = sgn T L p := by rw [a2 4 (by omega), upd_o (by omega), upd_s]; exact ec
    have bo : ∀ k, k < 3 ∨ 6 < k → H1 k = H k := fun k hk => by rw [a2 k (by omega), upd_o (by omega), upd_o (by omega)]
    unfold frA at ef
    by_cases eq : q = p + 1
    · rw [if_pos eq] at ef
      rw [if_pos eq]
      have r5 : sr M 141 (upd H1 5 (-1)) 141 5 = -1 := by rw [sr_s]; exact upd_s
      rw [r5]
      refine ⟨fun z => absurd z (by decide), fun _ => ?_⟩
      rw [ef] at h
      exact h (upd H1 5 (-1)) (by rw [upd_o (by omega)]; exact a1) (fun k hk => by rw [upd_o (by omega)]; exact bo k hk) (fun y => by cases y)
    · rw [if_neg eq] at ef
      rw [if_neg eq]
      have r5 : sr M 141 (upd H1 5 v) 141 5 = v := by rw [sr_s]; exact upd_s
      have r4 : sr M 141 (upd H1 5 v) 141 4 = sgn T L p := by rw [sr_s, upd_o (by omega)]; exact b4
      rw [r5, r4]
      refine ⟨fun _ => ⟨fun d => ?_, fun d => ?_⟩, fun z => absurd (show (0 : Int32) ≤ v by rw [ew]; exact Int32.not_lt.mp (nI_pos (by omega))) z⟩
      · rw [if_neg d] at ef
        exact semi (upd H1 5 v) q v 0 ef hle.2.1 (by rw [upd_o (by omega)]; exact a1) (by rw [upd_o (by omega)]; exact b4) upd_s (fun y => absurd y d) (fun k hk => by rw [upd_o (by omega)]; exact bo k hk)
      · rw [if_pos d] at ef
        unfold frB at ef
        refine sp3_skip hX (p := q) (by rw [upd_o (by omega)]; exact b0) (by rw [upd_o (by omega)]; exact a1) hle.2.1 (by decide) (by decide) (fun z => ⟨fun _ => ?_, fun y => absurd y (by decide)⟩) (fun z => ⟨fun y => absurd rfl y, fun _ => ?_⟩)
        · rw [if_pos z] at ef
          have hql : q < L := sgn_lt z (by decide)
          refine sp3_readNumber hX (p := q + 1) (by rw [upd_o (by omega), upd_o (by omega)]; exact b0) upd_s (by omega) (fun H2 c1 c2 => ?_)
          have hle2 := rdN_le (T := T) (L := L) 3 (q + 1) 0 (by omega)
          obtain ⟨w2, hw2, ew2⟩ := rdN_nn (T := T) (L := L) (p := q + 1)
          generalize hq2 : (rdN T L 3 (q + 1) 0).1 = q2 at ef c1 hle2
          generalize hv2 : (rdN T L 3 (q + 1) 0).2 = v2 at ef ew2
          intro M20 e20
          rw [sr_mu] at e20
          subst e20
          have d4 : H2 4 = sgn T L p := by rw [c2 4 (by omega), upd_o (by omega), upd_o (by omega)]; exact b4
          have d5 : H2 5 = v := by rw [c2 5 (by omega), upd_o (by omega), upd_s]
          have dd : ∀ k, k < 3 ∨ 6 < k → H2 k = H k := fun k hk => by rw [c2 k (by omega), upd_o (by omega), upd_o (by omega)]; exact bo k hk
          by_cases eq2 : q2 = q + 1
          · rw [if_pos eq2] at ef
            rw [if_pos eq2]
            have r6 : sr M 141 (upd H2 6 (-1)) 141 6 = -1 := by rw [sr_s]; exact upd_s
            rw [r6]
            refine ⟨fun y => absurd y (by decide), fun _ => ?_⟩
            rw [ef] at h
            exact h (upd H2 6 (-1)) (by rw [upd_o (by omega)]; exact c1) (fun k hk => by rw [upd_o (by omega)]; exact dd k hk) (fun y => by cases y)
          · rw [if_neg eq2] at ef
            rw [if_neg eq2]
            have r6 : sr M 141 (upd H2 6 v2) 141 6 = v2 := by rw [sr_s]; exact upd_s
            rw [r6]
            refine ⟨fun _ => ?_, fun y => absurd (show (0 : Int32) ≤ v2 by rw [ew2]; exact Int32.not_lt.mp (nI_pos (by omega))) y⟩
            exact semi (upd H2 6 v2) q2 v v2 ef hle2.2.1 (by rw [upd_o (by omega)]; exact c1) (by rw [upd_o (by omega)]; exact d4) (by rw [upd_o (by omega)]; exact d5) (fun _ => upd_s) (fun k hk => by rw [upd_o (by omega)]; exact dd k hk)
        · rw [if_neg z] at ef
          rw [ef] at h
          exact h (upd H1 5 v) (by rw [upd_o (by omega)]; exact a1) (fun k hk => by rw [upd_o (by omega)]; exact bo k hk) (fun y => by cases y)
  have cs : ∀ c : Int32, c ≠ 0 → c ≠ -1 → chr T L p = c → sgn T L p = c := fun c a b d => (chr_sgn a b).mp d
  refine ⟨fun d => ?_, fun d1 => ⟨fun d => ?_, fun d2 => ⟨fun d => ?_, fun d3 => ⟨fun d => ?_, fun d4 => ⟨fun d => ?_, fun d5 => ?_⟩⟩⟩⟩⟩
  · have := cs 111 (by decide) (by decide) d
    exact go (Or.inl this) (d.trans this.symm)
  · have := cs 99 (by decide) (by decide) d
    exact go (Or.inr (Or.inl this)) (d.trans this.symm)
  · have := cs 121 (by decide) (by decide) d
    exact go (Or.inr (Or.inr (Or.inl this))) (d.trans this.symm)
  · have := cs 104 (by decide) (by decide) d
    exact go (Or.inr (Or.inr (Or.inr (Or.inl this)))) (d.trans this.symm)
  · have := cs 114 (by decide) (by decide) d
    exact go (Or.inr (Or.inr (Or.inr (Or.inr this)))) (d.trans this.symm)
  · have hn : ¬ ltr (sgn T L p) := by
      rintro (z | z | z | z | z)
      · exact d1 ((chr_sgn (by decide) (by decide)).mpr z)
      · exact d2 ((chr_sgn (by decide) (by decide)).mpr z)
      · exact d3 ((chr_sgn (by decide) (by decide)).mpr z)
      · exact d4 ((chr_sgn (by decide) (by decide)).mpr z)
      · exact d5 ((chr_sgn (by decide) (by decide)).mpr z)
    have ef : frm T L p = (false, p, 0, 0) := by unfold frm; rw [if_neg hn]
    rw [ef] at h
    exact h (upd H 4 (chr T L p)) (by rw [upd_o (by omega)]; exact h3) (fun k hk => by rw [upd_o (by omega)]) (fun y => by cases y)
