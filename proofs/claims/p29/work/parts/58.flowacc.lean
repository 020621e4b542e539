/-! accounts of an hour -/
def AC (S : SS) (n c : Nat) : Prop := 0 ≤ (S 7).toInt ∧ 0 ≤ (S 8).toInt ∧ 0 ≤ (S 9).toInt ∧ (S 6).toInt = (S 7).toInt + (S 8).toInt + (S 9).toInt + cs S c n ∧ (S 6).toInt ≤ 4000000
theorem pr_keep {S0 : SS} {m c g : Nat} {q a b : Int32} (hg : pa S0 g ≠ c) : ∀ i, ca (pr S0 m c q (S0, a, b) i).1 g 6 = ca S0 g 6 := by
  intro i
  induction i with
  | zero => rfl
  | succ k ih =>
    unfold pr
    by_cases h : c < k ∧ ltF S0 m c k = true
    · rw [if_pos h]
      have hk : g ≠ k := by
        intro e
        subst e
        have := h.2
        unfold ltF at this
        rw [Bool.and_eq_true, Bool.and_eq_true] at this
        exact hg (of_decide_eq_true this.1.1)
      show ca (upd _ _ _) g 6 = _
      have : ∀ v, ca (upd (pr S0 m c q (S0, a, b) k).1 (10 + 9 * k + 6) v) g 6 = ca (pr S0 m c q (S0, a, b) k).1 g 6 := fun v => upd_o (by omega)
      rw [this]
      exact ih
    · rw [if_neg h]
      exact ih
theorem serveF_7 {S : SS} {m c : Nat} {w : Int32} : (serveF S m c w).1 7 = S 7 + (w - (serveF S m c w).2) := by
  unfold serveF
  dsimp only
  rw [upd_s, srv_l _ _ _ 7 (fun f _ => by omega)]
theorem hC_acc {S : SS} {m n c : Nat} (hf : VF S m) (hv : VC S n) (h8 : n ≤ 8) (hc : c < n) (ha : AC S n c) (hz : ZC S n c) : AC (hC S m n c) n (c + 1) ∧ ZC (hC S m n c) n (c + 1) ∧ (S 7).toInt ≤ (hC S m n c 7).toInt ∧ hC S m n c 6 = S 6 ∧ hC S m n c 5 = S 5 := by
  obtain ⟨a7, a8, a9, a6, ab⟩ := ha
  obtain ⟨l1, l2, l3⟩ := lst_rng hv hc
  have hcc := (hv c hc).2.2
  have hVb : VF (hCb S c) m := VF_of hf (fun f w _ _ => hCb_o (by omega) (by omega))
  obtain ⟨s1, s2, s3⟩ := serveF_l (c := c) (w := ca S c 6 - lst S c) hVb (by omega)
  have eCc : hCc S m c = serveF (hCb S c) m c (ca S c 6 - lst S c) := rfl
  rw [← eCc] at s2 s3
  have hVcb : VC (hCb S c) n := VC_of hv (fun k w _ _ => hCb_o (by omega) (by omega))
  have hVcc : VC (hCc S m c).1 n := VC_of hVcb (fun k w _ _ => serveF_ca (by omega) (by omega))
  have eca : ∀ g w, g < 8 → w < 7 → ca (hCc S m c).1 g w = ca S g w := fun g w hg hw => by
    show ca (serveF _ _ _ _).1 g w = _
    rw [serveF_ca hg (by omega)]
    exact hCb_o (by omega) (by omega)
  have epa : ∀ g, g < 8 → pa (hCc S m c).1 g = pa S g := fun g hg => by unfold pa; rw [eca g 0 hg (by omega)]
  have hzc : ZC (hCc S m c).1 n c := fun g g1 g2 g3 => by
    rw [eca g 6 (by omega) (by omega)]
    exact hz g g1 g2 (by rw [← epa g (by omega)]; exact g3)
  obtain ⟨p1, p2, p3⟩ := part_acc (m := m) hVcc h8 hzc s2 (by omega)
  have eCd : hCd S m n c = partF (hCc S m c).1 m n c (hCc S m c).2 := rfl
  rw [← eCd] at p1 p2 p3
  have ecs1 : cs (hCc S m c).1 (c + 1) n = cs S (c + 1) n := cs_congr n (fun g _ g2 => eca g 6 (by omega) (by omega))
  have ecs2 : cs (hC S m n c) (c + 1) n = cs (hCd S m n c).1 (c + 1) n := cs_congr n (fun g _ g2 => by
    unfold hC hCe
    show upd _ 9 _ _ = _
    rw [upd_o (by omega), upd_o (by omega)]; rfl)
  have hsp := cs_split (S := S) (c := c) n hc
  have hnn := cs_nn (lo := c + 1) hv n (Nat.le_refl _)
  have dk : ∀ k, k < 10 → (hCd S m n c).1 k = (hCc S m c).1 k := fun k hk => partF_SA h8 k (Or.inl (fun g => by omega))
  have ck : ∀ k, k < 10 → k ≠ 7 → (hCc S m c).1 k = hCb S c k := fun k hk h7 => serveF_o (fun f => by omega) (fun f => by omega) h7
  have c7 : (hCc S m c).1 7 = S 7 + (ca S c 6 - lst S c - (hCc S m c).2) := by
    rw [eCc, serveF_7, hCb_o (by omega) (by omega)]
  have b8 : hCb S c 8 = S 8 + lst S c := by
    show upd _ 8 _ 8 = _
    rw [upd_s]
    show upd S _ _ 8 + _ = _
    rw [upd_o (by omega)]
    rfl
  have k6 : hC S m n c 6 = S 6 := by
    unfold hC hCe
    rw [upd_o (by omega), upd_o (by omega), dk 6 (by omega), ck 6 (by omega) (by omega), hCb_o (by omega) (by omega)]
  have k5 : hC S m n c 5 = S 5 := by
    unfold hC hCe
    rw [upd_o (by omega), upd_o (by omega), dk 5 (by omega), ck 5 (by omega) (by omega), hCb_o (by omega) (by omega)]
  have k7 : hC S m n c 7 = S 7 + (ca S c 6 - lst S c - (hCc S m c).2) := by
    unfold hC hCe
    rw [upd_o (by omega), upd_o (by omega), dk 7 (by omega), c7]
  have k8 : hC S m n c 8 = S 8 + lst S c := by
    unfold hC hCe
    rw [upd_o (by omega), upd_o (by omega), dk 8 (by omega), ck 8 (by omega) (by omega), b8]
  have k9 : hC S m n c 9 = S 9 + (hCd S m n c).2 := by
    unfold hC
    rw [upd_s]
    unfold hCe
    rw [upd_o (by omega), dk 9 (by omega), ck 9 (by omega) (by omega), hCb_o (by omega) (by omega)]
  have e3 : (ca S c 6 - lst S c - (hCc S m c).2).toInt = (ca S c 6).toInt - (lst S c).toInt - (hCc S m c).2.toInt := by
    rw [i_sub (by omega) (by omega), l3]
  have v7 : (hC S m n c 7).toInt = (S 7).toInt + ((ca S c 6).toInt - (lst S c).toInt - (hCc S m c).2.toInt) := by
    rw [k7, i_add (by omega) (by omega), e3]
  have v8 : (hC S m n c 8).toInt = (S 8).toInt + (lst S c).toInt := by rw [k8, i_add (by omega) (by omega)]
  have v9 : (hC S m n c 9).toInt = (S 9).toInt + (hCd S m n c).2.toInt := by rw [k9, i_add (by omega) (by omega)]
  refine ⟨⟨by omega, by omega, by omega, ?_, by rw [k6]; exact ab⟩, fun g g1 g2 g3 => ?_, by omega, k6, k5⟩
  · rw [k6, v7, v8, v9, ecs2]
    omega
  · have e6 : ca (hC S m n c) g 6 = ca (hCd S m n c).1 g 6 := by
      unfold hC hCe
      show upd _ 9 _ _ = _
      rw [upd_o (by omega), upd_o (by omega)]; rfl
    have e0 : pa (hC S m n c) g = pa S g := by
      unfold pa ca
      rw [hC_o h8 (by omega) (still_ca (c := g) (w := 0) (by omega) (by omega))]
    rw [e0] at g3
    rw [e6]
    have : ca (hCd S m n c).1 g 6 = ca (hCc S m c).1 g 6 := pr_keep (by rw [epa g (by omega)]; omega) n
    rw [this, eca g 6 (by omega) (by omega)]
    exact hz g g1 g2 (by omega)
/-- the accounts of a state -/
def VA (S : SS) : Prop := ca S 0 2 = 200 ∧ ∃ hr : Nat, S 5 = nI hr ∧ hr ≤ 20000 ∧ 0 ≤ (S 7).toInt ∧ 0 ≤ (S 8).toInt ∧ 0 ≤ (S 9).toInt ∧ (S 6).toInt = (S 7).toInt + (S 8).toInt + (S 9).toInt ∧ (S 6).toInt ≤ 200 * hr
theorem cs_zero {S : SS} {lo : Nat} : ∀ i, (∀ g, lo ≤ g → g < i → ca S g 6 = 0) → cs S lo i = 0 := by
  intro i
  induction i with
  | zero => intro _; rfl
  | succ g ih =>
    intro h
    unfold cs
    rw [ih (fun k h1 h2 => h k h1 (by omega))]
    by_cases e : lo ≤ g
    · rw [if_pos e, h g e (by omega)]; decide
    · rw [if_neg e]; rfl
theorem flow_acc {S : SS} {m n : Nat} {b : Int32} (hf : VF S m) (hv : VC S n) (h8 : n ≤ 8) (hn : 1 ≤ n) (hb : 0 ≤ b.toInt) (ha : VA S) {hr : Nat} (hh : S 5 = nI hr) (hlt : hr < 20000) : VA (flowF S n m b) ∧ flowF S n m b 5 = nI (hr + 1) ∧ (S 7).toInt ≤ (flowF S n m b 7).toInt ∧ 0 ≤ (S 7).toInt ∧ (flowF S n m b 7).toInt ≤ 4000000 := by
  obtain ⟨w2, hr', h5, hle, a7, a8, a9, a6, ab⟩ := ha
  have e : hr' = hr := nI_inj (by omega) (by omega) (h5.symm.trans hh)
  subst e
  have e200 : (200 : Int32).toInt = 200 := by decide
  obtain ⟨V1, V2⟩ := f3_V hf hv h8 hn hb
  have ew : ca (f1 S n) 0 2 = 200 := by
    rw [← w2]
    unfold f1
    show zC _ n _ = _
    rw [zC_o n (fun g _ => by omega), upd_o (by omega)]; rfl
  have hB : 0 ≤ (fB (f1 S n) b).toInt ∧ (fB (f1 S n) b).toInt ≤ 200 := by
    unfold fB
    rw [ew]
    by_cases h : b ≤ 200
    · rw [if_pos h]
      have := i_le.mp h
      omega
    · rw [if_neg h]; omega
  have k6 : f3 S n b 6 = S 6 + fB (f1 S n) b := by
    unfold f3
    rw [upd_s]
    unfold f2
    rw [upd_o (by omega)]
    unfold f1
    rw [zC_o n (fun g _ => by omega), upd_o (by omega)]
  have k5 : f3 S n b 5 = nI (hr' + 1) := by
    unfold f3 f2 f1
    rw [upd_o (by omega), upd_o (by omega), zC_o n (fun g _ => by omega), upd_s, hh, nI_1]
  have kk : ∀ k, 7 ≤ k → k < 10 → f3 S n b k = S k := fun k k1 k2 => f3_o (by omega) (by omega) (by omega) (fun g _ => by omega)
  have came0 : ca (f3 S n b) 0 6 = fB (f1 S n) b := by
    unfold f3 f2
    show upd _ 6 _ 16 = _
    rw [upd_o (by omega), upd_s]
  have came : ∀ g, 1 ≤ g → g < n → ca (f3 S n b) g 6 = 0 := by
    intro g g1 g2
    unfold f3 f2 f1
    show upd _ 6 _ _ = _
    rw [upd_o (by omega), upd_o (by omega)]
    exact zC_s n g2
  have v6 : (f3 S n b 6).toInt = (S 6).toInt + (fB (f1 S n) b).toInt := by rw [k6, i_add (by omega) (by omega)]
  have hcs : cs (f3 S n b) 0 n = (fB (f1 S n) b).toInt := by
    rw [cs_split n (by omega), came0, cs_zero n (fun g g1 g2 => came g g1 g2)]
    omega
  have hA0 : AC (f3 S n b) n 0 := by
    refine ⟨by rw [kk 7 (by omega) (by omega)]; exact a7, by rw [kk 8 (by omega) (by omega)]; exact a8, by rw [kk 9 (by omega) (by omega)]; exact a9, ?_, ?_⟩
    · rw [v6, hcs, kk 7 (by omega) (by omega), kk 8 (by omega) (by omega), kk 9 (by omega) (by omega)]
      omega
    · rw [v6]; omega
  have hZ0 : ZC (f3 S n b) n 0 := fun g g1 g2 _ => came g g1 g2
  have run : ∀ i, i ≤ n → AC (hL (f3 S n b) m n i) n i ∧ ZC (hL (f3 S n b) m n i) n i ∧ (S 7).toInt ≤ (hL (f3 S n b) m n i 7).toInt ∧ hL (f3 S n b) m n i 6 = f3 S n b 6 ∧ hL (f3 S n b) m n i 5 = f3 S n b 5 := by
    intro i
    induction i with
    | zero => intro _; exact ⟨hA0, hZ0, by show _ ≤ (f3 S n b 7).toInt; rw [kk 7 (by omega) (by omega)]; exact Int.le_refl _, rfl, rfl⟩
    | succ i ih =>
      intro hi
      obtain ⟨x1, x2, x3, x4, x5⟩ := ih (by omega)
      obtain ⟨y1, y2⟩ := hL_V V1 V2 h8 i (by omega)
      obtain ⟨z1, z2, z3, z4, z5⟩ := hC_acc (m := m) y1 y2 h8 (show i < n by omega) x1 x2
      exact ⟨z1, z2, by show _ ≤ (hC (hL (f3 S n b) m n i) m n i 7).toInt; omega, by show hC (hL (f3 S n b) m n i) m n i 6 = _; rw [z4, x4], by show hC (hL (f3 S n b) m n i) m n i 5 = _; rw [z5, x5]⟩
  obtain ⟨⟨x7, x8, x9, x6, xb⟩, -, x3, x4, x5⟩ := run n (Nat.le_refl _)
  have hcn : cs (hL (f3 S n b) m n n) n n = 0 := cs_lo n (Nat.le_refl _)
  have ek : ∀ k, k < 10 → flowF S n m b k = hL (f3 S n b) m n n k := fun k hk => eC_o m (fun f _ => by omega)
  have w2' : ca (flowF S n m b) 0 2 = 200 := by
    rw [← w2]
    exact flowF_st h8 (still_ca (c := 0) (w := 2) (by omega) (by omega)) (fun f _ => by omega)
  refine ⟨⟨w2', hr' + 1, by rw [ek 5 (by omega), x5, k5], by omega, by rw [ek 7 (by omega)]; exact x7, by rw [ek 8 (by omega)]; exact x8, by rw [ek 9 (by omega)]; exact x9, ?_, ?_⟩, by rw [ek 5 (by omega), x5, k5], by rw [ek 7 (by omega)]; exact x3, a7, ?_⟩
  · rw [ek 6 (by omega), ek 7 (by omega), ek 8 (by omega), ek 9 (by omega)]
    omega
  · rw [ek 6 (by omega), x4, v6]
    omega
  · rw [ek 7 (by omega)]
    omega
