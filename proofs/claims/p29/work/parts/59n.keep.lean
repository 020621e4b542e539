/-! what else every state keeps, through all that is done -/
theorem EX_cg {S S' : SS} {n m : Nat} (h : EX S n m) (hk : ∀ k, k = 5 ∨ k = 7 ∨ k = 8 ∨ k = 9 → S' k = S k) (hc : ∀ c w, c < n → w = 2 ∨ 6 ≤ w → w < 9 → ca S' c w = ca S c w) (hf : ∀ f w, f < m → w < 7 → fi S' f w = fi S f w) : EX S' n m := by
  obtain ⟨⟨a7, a8, a9⟩, hN, hC6⟩ := h
  refine ⟨⟨?_, ?_, ?_⟩, fun f hfm => ?_, fun c hcn => ?_⟩
  · rw [hk 7 (by omega), a7]; exact sm_cg m (fun f hf' => (hf f 4 hf' (by omega)).symm)
  · rw [hk 8 (by omega), a8]; exact sm_cg n (fun c hc' => (hc c 7 hc' (by omega) (by omega)).symm)
  · rw [hk 9 (by omega), a9]; exact sm_cg n (fun c hc' => (hc c 8 hc' (by omega) (by omega)).symm)
  · rw [hf f 5 hfm (by omega), hf f 6 hfm (by omega), hk 5 (by omega), wt_cg (hf f 1 hfm (by omega)) (hf f 4 hfm (by omega))]
    exact hN f hfm
  · rw [hc c 6 hcn (by omega) (by omega), hc c 2 hcn (by omega) (by omega)]
    exact hC6 c hcn
theorem EX_cn {S : SS} {n m : Nat} {p k w s : Int32} (h : EX S n m) (h8 : n < 8) (hm : m ≤ 10) (hw : inr 1 501 w = true) : EX (cnS S n p k w s) (n + 1) m := by
  obtain ⟨⟨a7, a8, a9⟩, hN, hC6⟩ := h
  obtain ⟨s0, s1, s2, s3, s4, s5, s6, s7, s8⟩ := cnS_s (S := S) (n := n) (p := p) (k := k) (w := w) (s := s)
  have oc : ∀ c w', c < n → w' < 9 → ca (cnS S n p k w s) c w' = ca S c w' := fun c w' hc hw' => cnS_o (by omega) (by omega)
  have of : ∀ f w', fi (cnS S n p k w s) f w' = fi S f w' := fun f w' => cnS_o (by omega) (by omega)
  have ok : ∀ i, 0 < i → i < 10 → cnS S n p k w s i = S i := fun i h1 h2 => cnS_o (by omega) (by omega)
  have e0 : (0 : Int32).toInt = 0 := by decide
  refine ⟨⟨?_, ?_, ?_⟩, fun f hfm => ?_, fun c hcn => ?_⟩
  · rw [ok 7 (by omega) (by omega), a7]; exact sm_cg m (fun f _ => (of f 4).symm)
  · rw [ok 8 (by omega) (by omega), a8]
    show _ = sm _ n + ca (cnS S n p k w s) n 7
    rw [s7, Int32.add_zero]
    exact sm_cg n (fun c hc => (oc c 7 hc (by omega)).symm)
  · rw [ok 9 (by omega) (by omega), a9]
    show _ = sm _ n + ca (cnS S n p k w s) n 8
    rw [s8, Int32.add_zero]
    exact sm_cg n (fun c hc => (oc c 8 hc (by omega)).symm)
  · rw [of, of, ok 5 (by omega) (by omega), wt_cg (S := S) (of f 1) (of f 4)]
    exact hN f hfm
  · by_cases e : c = n
    · subst e
      rw [s6, s2]
      have := i_rg hw
      omega
    · rw [oc c 6 (by omega) (by omega), oc c 2 (by omega) (by omega)]
      exact hC6 c (by omega)
theorem EX_fd {S : SS} {n m : Nat} {c d o r : Int32} (h : EX S n m) (h8 : n ≤ 8) (h10 : m < 10) (hd : inr 1 1000 d = true) : EX (fdS S m c d o r) n (m + 1) := by
  obtain ⟨⟨a7, a8, a9⟩, hN, hC6⟩ := h
  obtain ⟨s0, s1, s2, s3, s4, s5, s6⟩ := fdS_s (S := S) (m := m) (c := c) (d := d) (o := o) (r := r)
  have oc : ∀ c' w', c' < 8 → w' < 9 → ca (fdS S m c d o r) c' w' = ca S c' w' := fun c' w' hc hw' => fdS_o (by omega) (by omega)
  have of : ∀ f w', f < m → w' < 7 → fi (fdS S m c d o r) f w' = fi S f w' := fun f w' hf hw => fdS_o (by omega) (by omega)
  have ok : ∀ i, 1 < i → i < 10 → fdS S m c d o r i = S i := fun i h1 h2 => fdS_o (by omega) (by omega)
  have e0 : (0 : Int32).toInt = 0 := by decide
  refine ⟨⟨?_, ?_, ?_⟩, fun f hfm => ?_, fun c' hcn => ?_⟩
  · rw [ok 7 (by omega) (by omega), a7]
    show _ = sm _ m + fi (fdS S m c d o r) m 4
    rw [s4, Int32.add_zero]
    exact sm_cg m (fun f hf => (of f 4 hf (by omega)).symm)
  · rw [ok 8 (by omega) (by omega), a8]; exact sm_cg n (fun c' hc => (oc c' 7 (by omega) (by omega)).symm)
  · rw [ok 9 (by omega) (by omega), a9]; exact sm_cg n (fun c' hc => (oc c' 8 (by omega) (by omega)).symm)
  · by_cases e : f = m
    · subst e
      left
      unfold wt
      rw [s4, s1]
      have := i_rg hd
      exact decide_eq_true (i_lt.mpr (by omega))
    · rw [of f 5 (by omega) (by omega), of f 6 (by omega) (by omega), ok 5 (by omega) (by omega), wt_cg (S := S) (of f 1 (by omega) (by omega)) (of f 4 (by omega) (by omega))]
      exact hN f (by omega)
  · rw [oc c' 6 (by omega) (by omega), oc c' 2 (by omega) (by omega)]
    exact hC6 c' hcn
theorem EX_can {S : SS} {n m tt n' : Nat} {p k w s : Int32} (hV : VV S n m tt) (h : EX S n m) (hn : n' = (if (canF S n p k w s).2 ≤ -1000001 then n else n + 1)) : EX (canF S n p k w s).1 n' m := by
  have hle := hV.1.le
  by_cases g : inr 0 n p = true ∧ inr 0 3 k = true ∧ inr 1 501 w = true ∧ inr 0 501 s = true
  · by_cases e : n = 8
    · have hF : canF S n p k w s = (S, -1000003) := by unfold canF; rw [if_pos g, if_pos e]
      rw [hF] at hn ⊢
      rw [if_pos (show (-1000003 : Int32) ≤ -1000001 by decide)] at hn
      rw [hn]; exact h
    · have hF : canF S n p k w s = (cnS S n p k w s, nI n) := by unfold canF; rw [if_pos g, if_neg e]
      rw [hF] at hn ⊢
      rw [if_neg (show ¬ nI n ≤ -1000001 from nI_not (by omega))] at hn
      rw [hn]
      exact EX_cn h (by omega) hle.2.1 g.2.2.1
  · have hF : canF S n p k w s = (S, -1000001) := by unfold canF; rw [if_neg g]
    rw [hF] at hn ⊢
    rw [if_pos (show (-1000001 : Int32) ≤ -1000001 by decide)] at hn
    rw [hn]; exact h
theorem EX_fld {S : SS} {n m tt m' : Nat} {c d o r : Int32} (hV : VV S n m tt) (h : EX S n m) (hn : m' = (if (fldF S n m c d o r).2 ≤ -1000001 then m else m + 1)) : EX (fldF S n m c d o r).1 n m' := by
  have hle := hV.1.le
  by_cases g : inr 0 n c = true ∧ inr 1 1000 d = true ∧ inr 1 201 o = true ∧ inr 0 100 r = true
  · by_cases e : m = 10
    · have hF : fldF S n m c d o r = (S, -1000003) := by unfold fldF; rw [if_pos g, if_pos e]
      rw [hF] at hn ⊢
      rw [if_pos (show (-1000003 : Int32) ≤ -1000001 by decide)] at hn
      rw [hn]; exact h
    · have hF : fldF S n m c d o r = (fdS S m c d o r, nI m) := by unfold fldF; rw [if_pos g, if_neg e]
      rw [hF] at hn ⊢
      rw [if_neg (show ¬ nI m ≤ -1000001 from nI_not (by omega))] at hn
      rw [hn]
      exact EX_fd h hle.1.2 (by omega) g.2.1
  · have hF : fldF S n m c d o r = (S, -1000001) := by unfold fldF; rw [if_neg g]
    rw [hF] at hn ⊢
    rw [if_pos (show (-1000001 : Int32) ≤ -1000001 by decide)] at hn
    rw [hn]; exact h
theorem EX_tnd {S : SS} {n m tt : Nat} {x y : Int32} (hV : VV S n m tt) (h : EX S n m) : EX (tndF S n x y).1 n m := by
  have hle := hV.1.le
  unfold tndF
  split
  · next g =>
    split
    · exact h
    · split
      · exact h
      · obtain ⟨c, c1, c2, ec⟩ := inr_of g.2
        subst ec
        rw [ixn (by omega)]
        exact EX_cg h (fun k hk => upd_o (by omega)) (fun c' w _ hw _ => upd_o (by omega)) (fun f w _ _ => upd_o (by omega))
  · exact h
theorem EX_cl {S : SS} {n m tt : Nat} {y : Int32} (hV : VV S n m tt) (h : EX S n m) : EX (clF S m y).1 n m := by
  have hle := hV.1.le
  unfold clF
  split
  · next g =>
    split
    · exact h
    · next e =>
      obtain ⟨f, f1, f2, ef⟩ := inr_of g
      subst ef
      rw [ixn (by omega)] at e ⊢
      obtain ⟨⟨a7, a8, a9⟩, hN, hC6⟩ := h
      have o : ∀ k, k ≠ 87 + 7 * f → upd S (87 + 7 * f) 1 k = S k := fun k hk => upd_o hk
      refine ⟨⟨?_, ?_, ?_⟩, fun k hkm => ?_, fun c hcn => ?_⟩
      · show upd S _ _ 7 = _
        rw [o 7 (by omega), a7]; exact sm_cg m (fun k _ => (o _ (by omega)).symm)
      · show upd S _ _ 8 = _
        rw [o 8 (by omega), a8]; exact sm_cg n (fun k _ => (o _ (by omega)).symm)
      · show upd S _ _ 9 = _
        rw [o 9 (by omega), a9]; exact sm_cg n (fun k _ => (o _ (by omega)).symm)
      · have ew : wt (upd S (87 + 7 * f) 1) k = wt S k := wt_cg (o _ (by omega)) (o _ (by omega))
        show wt (upd S (87 + 7 * f) 1) k = true ∨ (fi (upd S (87 + 7 * f) 1) k 5 = 0 ∧ 1 ≤ (fi (upd S (87 + 7 * f) 1) k 6).toInt ∧ (fi (upd S (87 + 7 * f) 1) k 6).toInt ≤ (upd S (87 + 7 * f) 1 5).toInt)
        rw [ew]
        by_cases ek : k = f
        · subst ek
          left
          cases hw : wt S k
          · exact absurd (Or.inr hw) e
          · rfl
        · have e5 : fi (upd S (87 + 7 * f) 1) k 5 = fi S k 5 := o _ (by omega)
          have e6 : fi (upd S (87 + 7 * f) 1) k 6 = fi S k 6 := o _ (by omega)
          have e55 : upd S (87 + 7 * f) 1 5 = S 5 := o _ (by omega)
          rw [e5, e6, e55]
          exact hN k hkm
      · have e6 : ca (upd S (87 + 7 * f) 1) c 6 = ca S c 6 := o _ (by omega)
        have e2 : ca (upd S (87 + 7 * f) 1) c 2 = ca S c 2 := o _ (by omega)
        show (ca (upd S (87 + 7 * f) 1) c 6).toInt ≤ (ca (upd S (87 + 7 * f) 1) c 2).toInt
        rw [e6, e2]
        exact hC6 c hcn
  · exact h
/-- turns alone are changed -/
theorem EX_tu {S S' : SS} {n m tt : Nat} (hV : VV S n m tt) (h : EX S n m) (h' : ∀ k, 5 ≤ k → k < 152 → S' k = S k) : EX S' n m := by
  have hle := hV.1.le
  exact EX_cg h (fun k hk => h' k (by omega) (by omega)) (fun c w hc _ _ => h' _ (by omega) (by omega)) (fun f w hf hw => h' _ (by omega) (by omega))
theorem r1a_o {S : SS} {n k : Nat} (hk : ∀ g, 1 ≤ g → g < n → k ≠ 10 + 9 * g + 4) : r1a S n k = S k := by
  unfold r1a
  split
  · rfl
  · split
    · exact setO_o n hk
    · rfl
def itB (b : Int32) : Nat → Int32
  | 0 => 0
  | k + 1 => itB b k + inB b
theorem EX_rs {S : SS} {n m tt hr : Nat} {b : Int32} (hV : VV S n m tt) (hE : EX S n m) (hb : 0 ≤ b.toInt) (hh : S 5 = nI hr) : ∀ k, hr + k ≤ 20000 → EX (rsF S n m b k).1 n m ∧ (rsF S n m b k).1 6 = S 6 + itB b k := by
  intro k
  induction k with
  | zero => intro _; exact ⟨hE, (Int32.add_zero _).symm⟩
  | succ k ih =>
    intro hk
    obtain ⟨x1, x2⟩ := ih (by omega)
    obtain ⟨v1, v2, -, -, -⟩ := VV_rs hV hb hh k (by omega)
    have hle := v1.1.le
    generalize hT : (rsF S n m b k).1 = T at x1 x2 v1 v2
    have hXV : VV (r1a T n) n m tt := VV_r1a v1
    have hXE : EX (r1a T n) n m := EX_cg x1 (fun k hk => r1a_o (fun g _ _ => by omega)) (fun c w hc hw _ => r1a_o (fun g _ _ => by omega)) (fun f w hf hw => r1a_o (fun g _ _ => by omega))
    have h5 : r1a T n 5 = nI (hr + k) := by rw [r1a_o (fun g _ _ => by omega), v2]
    obtain ⟨y1, y2⟩ := flow_all hXV hXE hb h5 (by omega)
    have e : (rsF S n m b (k + 1)).1 = goF (flowF (r1a T n) n m b) := by rw [← hT]; rfl
    rw [e]
    refine ⟨EX_cg y1 (fun k hk => goF_o (by omega) (by omega)) (fun c w hc hw _ => goF_o (by omega) (by omega)) (fun f w hf hw => goF_o (by omega) (by omega)), ?_⟩
    rw [goF_o (by omega) (by omega), y2.1, r1a_o (fun g _ _ => by omega), x2, Int32.add_assoc]
    rfl
/-- one turn alone, run from its first hour -/
theorem RT_rs {S : SS} {n m h : Nat} {b : Int32} (h8 : n ≤ 8) (h10 : m ≤ 10) (h2 : S 2 = nI 1) (h3 : S 3 = 0) (h4 : S 4 = 0) (h153 : S 153 = nI h) (hh : h ≤ 100) : ∀ k, k ≤ h →
    (rsF S n m b k).1 2 = nI 1 ∧ (rsF S n m b k).1 3 = 0 ∧ (rsF S n m b k).1 4 = nI (if k < h then k else 0) ∧ (rsF S n m b k).1 152 = S 152 ∧ (rsF S n m b k).1 153 = nI h ∧ (1 ≤ k → ∀ g, 1 ≤ g → g < n → ca (rsF S n m b k).1 g 4 = b2i (bt (S 152) g)) := by
  intro k
  induction k with
  | zero =>
    intro hk
    refine ⟨h2, h3, ?_, rfl, h153, fun z => by omega⟩
    show S 4 = _
    rw [h4]
    split <;> rfl
  | succ k ih =>
    intro hk
    obtain ⟨a2, a3, a4, a5, a6, a7⟩ := ih (by omega)
    generalize hT : (rsF S n m b k).1 = T at a2 a3 a4 a5 a6 a7
    rw [if_pos (by omega)] at a4
    have n1 : ¬ nI 1 ≤ 0 := by decide
    have z0 : ix (0 : Int32) = 0 := by decide
    have X : ∀ j, (∀ g, 1 ≤ g → g < n → j ≠ 10 + 9 * g + 4) → r1a T n j = T j := fun j hj => r1a_o hj
    have Xg : ∀ g, 1 ≤ g → g < n → ca (r1a T n) g 4 = b2i (bt (S 152) g) := by
      intro g g1 g2
      unfold r1a
      rw [a2, if_neg n1]
      by_cases hk0 : k = 0
      · subst hk0
        have a4' : T 4 = 0 := a4
        rw [if_pos a4', a3, z0]
        show setO T (T 152) n (10 + 9 * g + 4) = _
        rw [setO_s g1 n g2, a5]
      · rw [if_neg (by rw [a4]; exact fun z => hk0 (nI_inj (b := 0) (by omega) (by omega) z))]
        exact a7 (by omega) g g1 g2
    have Y2 : flowF (r1a T n) n m b 2 = nI 1 := by rw [flowF_st h8 (still_lo (by omega)) (fun f _ => by omega), X 2 (fun g _ _ => by omega), a2]
    have Y3 : flowF (r1a T n) n m b 3 = 0 := by rw [flowF_st h8 (still_lo (by omega)) (fun f _ => by omega), X 3 (fun g _ _ => by omega), a3]
    have Y4 : flowF (r1a T n) n m b 4 = nI k := by rw [flowF_st h8 (still_lo (by omega)) (fun f _ => by omega), X 4 (fun g _ _ => by omega), a4]
    have Yh : ∀ j, 152 ≤ j → flowF (r1a T n) n m b j = T j := fun j hj => by rw [flowF_hi h8 h10 hj, X j (fun g _ _ => by omega)]
    have Yg : ∀ g, 1 ≤ g → g < n → ca (flowF (r1a T n) n m b) g 4 = b2i (bt (S 152) g) := fun g g1 g2 => by
      rw [← Xg g g1 g2]
      exact flowF_st h8 (still_ca (c := g) (w := 4) (by omega) (by omega)) (fun f _ => by omega)
    have e : (rsF S n m b (k + 1)).1 = goF (flowF (r1a T n) n m b) := by rw [← hT]; rfl
    rw [e]
    generalize flowF (r1a T n) n m b = Y at Y2 Y3 Y4 Yh Yg
    have o : ∀ j, j ≠ 3 → j ≠ 4 → goF Y j = Y j := fun j j3 j4 => goF_o j3 j4
    refine ⟨by rw [o 2 (by omega) (by omega), Y2], ?_, ?_, by rw [o 152 (by omega) (by omega), Yh 152 (by omega), a5], by rw [o 153 (by omega) (by omega), Yh 153 (by omega), a6], fun _ g g1 g2 => ?_⟩
    · unfold goF
      rw [Y2, if_neg n1]
      split
      · rw [upd_o (by omega), upd_s, Y3, z0, show ix (nI 1) = 1 from by decide, if_neg (by omega)]; rfl
      · rw [upd_o (by omega), Y3]
    · unfold goF
      rw [Y2, if_neg n1, Y3, z0, Y4, nI_1, show 153 + 2 * 0 = 153 from rfl, Yh 153 (by omega), a6]
      by_cases e : k + 1 < h
      · rw [if_neg (fun z => absurd (nI_inj (by omega) (by omega) z) (by omega)), if_pos e, upd_s]
      · rw [if_pos (by rw [show k + 1 = h by omega]), if_neg e, upd_s]; rfl
    · show goF Y _ = _
      rw [o _ (by omega) (by omega)]
      exact Yg g g1 g2
