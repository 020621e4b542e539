/-! an hour as a whole: the accounts by canal and by field, what each field gets, what comes to each gate -/
/-- what holds of every state beside VV -/
def EX (S : SS) (n m : Nat) : Prop := (S 7 = sm (fun f => fi S f 4) m ∧ S 8 = sm (fun c => ca S c 7) n ∧ S 9 = sm (fun c => ca S c 8) n) ∧
  (∀ f, f < m → wt S f = true ∨ (fi S f 5 = 0 ∧ 1 ≤ (fi S f 6).toInt ∧ (fi S f 6).toInt ≤ (S 5).toInt)) ∧ (∀ c, c < n → (ca S c 6).toInt ≤ (ca S c 2).toInt)
/-- behind the first i canals of an hour that began with S0 -/
def FI (S0 T : SS) (n m i : Nat) : Prop :=
  (T 7 = sm (fun f => fi T f 4) m ∧ T 8 = sm (fun c => ca T c 7) n ∧ T 9 = sm (fun c => ca T c 8) n) ∧ (T 5 = S0 5 ∧ T 6 = S0 6) ∧
  (∀ f, f < m → ∃ g : Int32, fi T f 4 = fi S0 f 4 + g ∧ 0 ≤ g.toInt ∧ g.toInt ≤ (fi S0 f 2).toInt ∧ (g = 0 ∨ (at_ S0 f < i ∧ mtF S0 f m = true ∧ g.toInt ≤ (ca T (at_ S0 f) 6).toInt)) ∧ fi T f 6 = (if 0 < g ∧ wt T f = false then S0 5 else fi S0 f 6)) ∧
  (∀ c, c < n → (ca T c 6).toInt ≤ (ca T c 2).toInt) ∧ ca T 0 6 = ca S0 0 6 ∧
  (∀ g, 1 ≤ g → g < n → ca T g 6 = 0 ∨ (pa S0 g < i ∧ ca S0 g 4 = 1 ∧ (ca T g 6).toInt ≤ (ca T (pa S0 g) 6).toInt))
theorem FI_step {S0 T : SS} {n m t i : Nat} (hw : Wf S0 n m t) (hsg : SG S0 T) (hf : VF T m) (hv : VC T n) (hi : i < n) (h : FI S0 T n m i) : FI S0 (hC T m n i) n m (i + 1) := by
  obtain ⟨⟨a7, a8, a9⟩, ⟨a5, a6⟩, hF, hW, h0, hG⟩ := h
  have h8 := hw.2.2.2.1.2
  have h10 := hw.2.2.2.2.1
  have hwT := SG_wf hsg hw
  have epa : ∀ g, g < n → pa T g = pa S0 g := fun g hg => SG_pa hsg (by omega)
  have hz : ZC T n i := fun g g1 g2 g3 => by
    rcases hG g g1 g2 with e | e
    · exact e
    · rw [epa g g2] at g3; omega
  have came := fun g (hg : g < n) => hC_came (g := g) hwT hf hv hi hz hg
  obtain ⟨b5, b6⟩ := hC_56 (S := T) (m := m) (n := n) (c := i) h8 (by omega)
  have low : ∀ g, g ≤ i → ca (hC T m n i) g 6 = ca T g 6 := fun g hg => (came g (by omega)).1 (Or.inl hg)
  refine ⟨hC_sum h8 hi a7 a8 a9, ⟨by rw [b5, a5], by rw [b6, a6]⟩, fun f hfm => ?_, fun c hc => ?_, by rw [low 0 (by omega)]; exact h0, fun g g1 g2 => ?_⟩
  · obtain ⟨g0, c1, c2, c3, c4, c5⟩ := hF f hfm
    obtain ⟨g1, d1, d2, d3, d4, d5, d6⟩ := hC_got hwT hf hv hi hfm
    have ha : at_ T f = at_ S0 f := SG_at hsg (by omega)
    have han := (hw.2.2.2.2.2.2.2 f hfm).1
    have em : mtF T f m = mtF S0 f m := SG_mtF hsg hw hfm m (Nat.le_refl _)
    have e2 : fi T f 2 = fi S0 f 2 := SG_fi hsg (by omega) (by omega) (by omega) (by omega)
    rw [ha, em] at d5
    rw [e2] at d3
    rw [a5] at d6
    have hnn : ¬ (0 : Int32) < 0 := by decide
    by_cases hat : at_ S0 f = i
    · have g00 : g0 = 0 := by
        rcases c4 with e | e
        · exact e
        · omega
      subst g00
      rw [Int32.add_zero] at c1
      rw [if_neg (fun z => hnn z.1)] at c5
      refine ⟨g1, by rw [d1, c1], d2, d3, d5.imp id (fun e => ⟨by omega, e.2, ?_⟩), by rw [d6, c5]⟩
      rw [hat, low i (Nat.le_refl _)]
      exact d4
    · have g10 : g1 = 0 := by
        rcases d5 with e | e
        · exact e
        · exact absurd e.1 hat
      subst g10
      rw [Int32.add_zero] at d1
      rw [if_neg (fun z => hnn z.1)] at d6
      have ew : wt (hC T m n i) f = wt T f := wt_cg (by
        show hC T m n i (82 + 7 * f + 1) = _
        exact hC_o h8 (by omega) (still_fi (f := f) (w := 1) (by omega) (by omega) (by omega) (by omega))) d1
      refine ⟨g0, by rw [d1, c1], c2, c3, c4.imp id (fun e => ⟨by omega, e.2.1, ?_⟩), by rw [d6, ew]; exact c5⟩
      rw [low _ (by omega)]
      exact e.2.2
  · have e2 : ca (hC T m n i) c 2 = ca T c 2 := hC_o h8 (by omega) (still_ca (c := c) (w := 2) (by omega) (by omega))
    rw [e2]
    rcases (came c hc).2 with e | e
    · rw [e]; exact hW c hc
    · exact e.2.2.2.2
  · have hpg := (hw.2.2.2.2.2.2.1 g g1 g2).1
    rcases (came g g2).2 with e | ⟨x1, x2, x3, x4, x5⟩
    · rw [e]
      refine (hG g g1 g2).imp id (fun z => ⟨by omega, z.2.1, ?_⟩)
      rw [low _ (by omega)]
      exact z.2.2
    · right
      rw [epa g g2] at x2
      refine ⟨by omega, ?_, ?_⟩
      · rw [← SG_ca hsg (show g < 8 by omega) (show 4 < 6 by omega)]; exact x3
      · rw [x2, low i (Nat.le_refl _)]; exact x4
/-- what is let in of b buckets -/
def inB (b : Int32) : Int32 := if b ≤ 200 then b else 200
/-- what an hour does, as it can be told from outside -/
def HRS (S F : SS) (n m : Nat) (b : Int32) : Prop := F 6 = S 6 + inB b ∧ ca F 0 6 = inB b ∧
  (∀ f, f < m → ∃ g : Int32, fi F f 4 = fi S f 4 + g ∧ 0 ≤ g.toInt ∧ g.toInt ≤ (fi S f 2).toInt ∧ (g = 0 ∨ (mtF S f m = true ∧ g.toInt ≤ (ca F (at_ S f) 6).toInt))) ∧
  (∀ g, 1 ≤ g → g < n → ca F g 6 = 0 ∨ (ca S g 4 = 1 ∧ (ca F g 6).toInt ≤ (ca F (pa S g) 6).toInt))
theorem flow_all {S : SS} {n m tt hr : Nat} {b : Int32} (hV : VV S n m tt) (hE : EX S n m) (hb : 0 ≤ b.toInt) (hh : S 5 = nI hr) (hlt : hr < 20000) : EX (flowF S n m b) n m ∧ HRS S (flowF S n m b) n m b := by
  obtain ⟨⟨hw, -, hf, hv, -, -⟩, -, hA⟩ := hV
  obtain ⟨⟨a7, a8, a9⟩, hN, hC6⟩ := hE
  have h8 := hw.2.2.2.1.2
  have h1n := hw.2.2.2.1.1
  have h10 := hw.2.2.2.2.1
  have w2 := hA.1
  obtain ⟨V1, V2⟩ := f3_V hf hv h8 h1n hb
  have hsg : SG S (f3 S n b) := fun k hk => still_f3 h8 hk
  have hw3 := SG_wf hsg hw
  have e0 : (0 : Int32).toInt = 0 := by decide
  have e200 : (200 : Int32).toInt = 200 := by decide
  have ew : ca (f1 S n) 0 2 = 200 := by
    rw [← w2]
    unfold f1
    show zC _ n _ = _
    rw [zC_o n (fun g _ => by omega), upd_o (by omega)]; rfl
  have eB : fB (f1 S n) b = inB b := by unfold fB inB; rw [ew]
  have hB : (inB b).toInt ≤ 200 := by
    unfold inB
    by_cases h : b ≤ 200
    · rw [if_pos h]
      have := i_le.mp h
      omega
    · rw [if_neg h]; omega
  have k6 : f3 S n b 6 = S 6 + inB b := by
    rw [← eB]
    unfold f3
    rw [upd_s]
    unfold f2
    rw [upd_o (by omega)]
    unfold f1
    rw [zC_o n (fun g _ => by omega), upd_o (by omega)]
  have k5 : f3 S n b 5 = nI (hr + 1) := by
    unfold f3 f2 f1
    rw [upd_o (by omega), upd_o (by omega), zC_o n (fun g _ => by omega), upd_s, hh, nI_1]
  have kk : ∀ k, 7 ≤ k → k < 10 → f3 S n b k = S k := fun k k1 k2 => f3_o (by omega) (by omega) (by omega) (fun g _ => by omega)
  have kf : ∀ f w, fi (f3 S n b) f w = fi S f w := fun f w => f3_o (by omega) (by omega) (by omega) (fun g _ => by omega)
  have kc : ∀ c w, c < 8 → w ≠ 6 → w < 9 → ca (f3 S n b) c w = ca S c w := fun c w hc hw h9 => f3_o (by omega) (by omega) (by omega) (fun g _ => by omega)
  have came0 : ca (f3 S n b) 0 6 = inB b := by
    rw [← eB]
    unfold f3 f2
    show upd _ 6 _ 16 = _
    rw [upd_o (by omega), upd_s]
  have came : ∀ g, 1 ≤ g → g < n → ca (f3 S n b) g 6 = 0 := by
    intro g g1 g2
    unfold f3 f2 f1
    show upd _ 6 _ _ = _
    rw [upd_o (by omega), upd_o (by omega)]
    exact zC_s n g2
  have start : FI (f3 S n b) (f3 S n b) n m 0 := by
    refine ⟨⟨?_, ?_, ?_⟩, ⟨rfl, rfl⟩, fun f hfm => ⟨0, by rw [Int32.add_zero], by omega, by rw [kf]; have := (hf f hfm).2.1; omega, Or.inl rfl, by rw [if_neg (fun z => absurd z.1 (by decide))]⟩, fun c hc => ?_, rfl, fun g g1 g2 => Or.inl (came g g1 g2)⟩
    · rw [kk 7 (by omega) (by omega), a7]
      exact sm_cg m (fun f _ => (kf f 4).symm)
    · rw [kk 8 (by omega) (by omega), a8]
      exact sm_cg n (fun c hc => (kc c 7 (by omega) (by omega) (by omega)).symm)
    · rw [kk 9 (by omega) (by omega), a9]
      exact sm_cg n (fun c hc => (kc c 8 (by omega) (by omega) (by omega)).symm)
    · by_cases hc0 : c = 0
      · subst hc0
        rw [came0, kc 0 2 (by omega) (by omega) (by omega), w2]
        omega
      · rw [came c (by omega) hc, kc c 2 (by omega) (by omega) (by omega)]
        have := (hv c hc).1
        omega
  have run : ∀ i, i ≤ n → FI (f3 S n b) (hL (f3 S n b) m n i) n m i := by
    intro i
    induction i with
    | zero => intro _; exact start
    | succ i ih =>
      intro hi
      obtain ⟨y1, y2⟩ := hL_V V1 V2 h8 i (by omega)
      exact FI_step hw3 (fun k hk => hL_o h8 hk i (by omega)) y1 y2 (by omega) (ih (by omega))
  obtain ⟨⟨z7, z8, z9⟩, ⟨z5, z6⟩, zF, zW, z0, zG⟩ := run n (Nat.le_refl _)
  have el : ∀ k, (∀ f, k ≠ 82 + 7 * f + 5) → flowF S n m b k = hL (f3 S n b) m n n k := fun k hk => eC_o m (fun f _ => hk f)
  have ec : ∀ c w, c < 8 → w < 9 → ca (flowF S n m b) c w = ca (hL (f3 S n b) m n n) c w := fun c w hc hw => el _ (fun f => by omega)
  have ef : ∀ f w, w < 7 → w ≠ 5 → fi (flowF S n m b) f w = fi (hL (f3 S n b) m n n) f w := fun f w h7 h5 => el _ (fun f => by omega)
  have ewt : ∀ f, wt (flowF S n m b) f = wt (hL (f3 S n b) m n n) f := fun f => wt_cg (ef f 1 (by omega) (by omega)) (ef f 4 (by omega) (by omega))
  refine ⟨⟨⟨?_, ?_, ?_⟩, fun f hfm => ?_, fun c hc => ?_⟩, ?_, ?_, fun f hfm => ?_, fun g g1 g2 => ?_⟩
  · rw [el 7 (fun f => by omega), z7]
    exact sm_cg m (fun f _ => (ef f 4 (by omega) (by omega)).symm)
  · rw [el 8 (fun f => by omega), z8]
    exact sm_cg n (fun c hc => (ec c 7 (by omega) (by omega)).symm)
  · rw [el 9 (fun f => by omega), z9]
    exact sm_cg n (fun c hc => (ec c 8 (by omega) (by omega)).symm)
  · cases hwt : wt (flowF S n m b) f
    · right
      rw [ewt] at hwt
      have h5 : fi (flowF S n m b) f 5 = 0 := by
        show eC _ m (82 + 7 * f + 5) = 0
        rw [eC_s m hfm, hwt, if_neg (by decide)]
      obtain ⟨g, c1, c2, c3, c4, c5⟩ := zF f hfm
      have e5 : flowF S n m b 5 = nI (hr + 1) := by rw [el 5 (fun f => by omega), z5, k5]
      have t5 : (nI (hr + 1)).toInt = hr + 1 := nI_toInt (by omega)
      refine ⟨h5, ?_⟩
      rw [ef f 6 (by omega) (by omega), c5, e5, t5]
      by_cases hg : 0 < g
      · rw [if_pos ⟨hg, hwt⟩, k5, t5]
        omega
      · rw [if_neg (fun z => hg z.1), kf]
        have hg0 : g = 0 := by
          have : ¬ (0 : Int32).toInt < g.toInt := fun z => hg (i_lt.mpr z)
          exact i_eq.mpr (by omega)
        rw [hg0, Int32.add_zero, kf] at c1
        have hwS : wt S f = false := by
          rw [← hwt]
          refine (wt_cg ?_ c1).symm
          rw [← kf f 1]
          show hL _ m n n (82 + 7 * f + 1) = _
          exact hL_o h8 (still_fi (f := f) (w := 1) (by omega) (by omega) (by omega) (by omega)) n h8
        rcases hN f hfm with x | x
        · rw [hwS] at x; cases x
        · have th : (nI hr).toInt = hr := nI_toInt (by omega)
          rw [hh, th] at x
          omega
    · exact Or.inl rfl
  · rw [ec c 6 (by omega) (by omega), ec c 2 (by omega) (by omega)]
    exact zW c hc
  · rw [el 6 (fun f => by omega), z6, k6]
  · rw [ec 0 6 (by omega) (by omega), z0, came0]
  · obtain ⟨g, c1, c2, c3, c4, c5⟩ := zF f hfm
    have ha : at_ (f3 S n b) f = at_ S f := SG_at hsg (by omega)
    have han := (hw.2.2.2.2.2.2.2 f hfm).1
    refine ⟨g, by rw [ef f 4 (by omega) (by omega), c1, kf], c2, by rw [← kf f 2]; exact c3, c4.imp id (fun e => ⟨?_, ?_⟩)⟩
    · rw [← SG_mtF hsg hw hfm m (Nat.le_refl _)]; exact e.2.1
    · rw [ec _ 6 (by omega) (by omega), ← ha]; exact e.2.2
  · have hpg := (hw.2.2.2.2.2.2.1 g g1 g2).1
    have hp : pa (f3 S n b) g = pa S g := SG_pa hsg (by omega)
    have := zG g g1 g2
    rw [hp] at this
    rw [ec g 6 (by omega) (by omega), ec _ 6 (by omega) (by omega)]
    refine this.imp id (fun e => ⟨?_, e.2.2⟩)
    rw [← kc g 4 (by omega) (by omega) (by omega)]; exact e.2.1
