/-! an hour, canal by canal: what comes to a gate, what a field gets -/
theorem thr_w {S : SS} {g : Nat} {p : Int32} : (thr S g p).toInt ≤ (ca S g 2).toInt := by
  unfold thr
  by_cases h : (if ca S g 1 = 1 then (p + 1) / 2 else p) ≤ ca S g 2
  · rw [if_pos h]; exact i_le.mp h
  · rw [if_neg h]; exact Int.le_refl _
theorem pr_no {S0 : SS} {m c g : Nat} {q a b : Int32} (hg : ¬ (c < g ∧ ltF S0 m c g = true)) : ∀ i, ca (pr S0 m c q (S0, a, b) i).1 g 6 = ca S0 g 6 := by
  intro i
  induction i with
  | zero => rfl
  | succ k ih =>
    unfold pr
    by_cases h : c < k ∧ ltF S0 m c k = true
    · rw [if_pos h]
      have hk : g ≠ k := fun e => by subst e; exact hg h
      have : ∀ v, ca (upd (pr S0 m c q (S0, a, b) k).1 (10 + 9 * k + 6) v) g 6 = ca (pr S0 m c q (S0, a, b) k).1 g 6 := fun v => upd_o (by omega)
      show ca (upd _ _ _) g 6 = _
      rw [this]
      exact ih
    · rw [if_neg h]
      exact ih
theorem pr_at {S0 : SS} {m c g : Nat} {q : Int32} {init : SS × Int32 × Int32} (hg : c < g ∧ ltF S0 m c g = true) : ∀ i, g < i → ca (pr S0 m c q init i).1 g 6 = thr S0 g (ptq q (pr S0 m c q init g).2.2) := by
  intro i
  induction i with
  | zero => intro h; omega
  | succ k ih =>
    intro h
    by_cases e : k = g
    · subst e
      conv => lhs; unfold pr
      rw [if_pos hg]
      show upd _ _ _ _ = _
      exact upd_s
    · have h2 := ih (by omega)
      conv => lhs; unfold pr
      by_cases hk : c < k ∧ ltF S0 m c k = true
      · rw [if_pos hk]
        have : ∀ v, ca (upd (pr S0 m c q init k).1 (10 + 9 * k + 6) v) g 6 = ca (pr S0 m c q init k).1 g 6 := fun v => upd_o (by omega)
        show ca (upd _ _ _) g 6 = _
        rw [this]
        exact h2
      · rw [if_neg hk]
        exact h2
/-- what comes to a gate of the canal that is parted -/
theorem part_came {S : SS} {m n c g : Nat} {w : Int32} (hv : VC S n) (h8 : n ≤ 8) (hz : ZC S n c) (hw0 : 0 ≤ w.toInt) (hw5 : w.toInt ≤ 500) (hg : g < n) :
    (¬ (c < g ∧ ltF S m c g = true) → ca (partF S m n c w).1 g 6 = ca S g 6) ∧ (c < g ∧ ltF S m c g = true → (ca (partF S m n c w).1 g 6).toInt ≤ w.toInt ∧ (ca (partF S m n c w).1 g 6).toInt ≤ (ca S g 2).toInt) := by
  refine ⟨fun h => pr_no h n, fun h => ?_⟩
  have hk := mn_pos (n := n) h.1 h.2 hg
  have hk8 : mn S m c n ≤ 8 := Nat.le_trans (mn_le n) h8
  obtain ⟨⟨i1, i1'⟩, i2, i3, -, -⟩ := pr_acc hv h8 hz hw0 hw5 hk g (by omega)
  obtain ⟨r1, r2, -⟩ := mod_rng hw0 hw5 hk hk8
  have e : ca (partF S m n c w).1 g 6 = thr S g (ptq (w / nI (mn S m c n)) (pr S m c (w / nI (mn S m c n)) (S, w, more0 w (mn S m c n)) g).2.2) := pr_at h n hg
  rw [e]
  refine ⟨?_, thr_w⟩
  have hm1 : mn S m c (g + 1) = mn S m c g + 1 := by
    conv => lhs; unfold mn
    rw [if_pos h]
  have hmono := mn_mono (S := S) (m := m) (c := c) (g + 1) n hg
  have hbd : mn S m c n - mn S m c g = (mn S m c n - mn S m c (g + 1)) + 1 := by omega
  rw [hbd] at i2
  have hb2 : bd (w / nI (mn S m c n)).toInt ((mn S m c n - mn S m c (g + 1)) + 1) = bd (w / nI (mn S m c n)).toInt (mn S m c n - mn S m c (g + 1)) + (w / nI (mn S m c n)).toInt := rfl
  rw [hb2] at i2
  have hbn := bd_nn r1 (mn S m c n - mn S m c (g + 1))
  generalize (pr S m c (w / nI (mn S m c n)) (S, w, more0 w (mn S m c n)) g).2.2 = mo at i1 i1' i2 ⊢
  generalize (pr S m c (w / nI (mn S m c n)) (S, w, more0 w (mn S m c n)) g).2.1 = lf at i2 i3
  generalize w / nI (mn S m c n) = q at r1 r2 i2 hbn ⊢
  have e0 : (0 : Int32).toInt = 0 := by decide
  have e1 : (1 : Int32).toInt = 1 := by decide
  have hp : 0 ≤ (ptq q mo).toInt ∧ (ptq q mo).toInt ≤ 1000 ∧ (ptq q mo).toInt ≤ w.toInt := by
    unfold ptq
    by_cases h : mo ≤ 0
    · have := i_le.mp h
      rw [if_pos h, Int32.add_zero]
      omega
    · have : ¬ mo.toInt ≤ (0 : Int32).toInt := fun z => h (i_le.mpr z)
      rw [if_neg h, i_add (by omega) (by omega), e1]
      omega
  obtain ⟨-, -, t3⟩ := thr_rng (S := S) (g := g) hp.1 hp.2.1 (hv g hg).1
  omega
theorem hC_fi {S : SS} {m n c f w : Nat} (h8 : n ≤ 8) (hc : c < 8) : fi (hC S m n c) f w = fi (hCc S m c).1 f w := by
  unfold hC hCe
  show upd _ 9 _ _ = _
  rw [upd_o (by omega), upd_o (by omega)]
  exact partF_fi h8
theorem hCb_SG {S : SS} {c : Nat} (hc : c < 8) : SG S (hCb S c) := fun k hk => by
  obtain ⟨k4, k6, k5, kg⟩ := hk
  refine hCb_o ?_ (by omega)
  rcases kg with e | e
  · exact (e c).2.1
  · omega
/-- what a field gets while the water stands at one canal -/
theorem hC_got {S : SS} {n m t c f : Nat} (hw : Wf S n m t) (hf : VF S m) (hv : VC S n) (hc : c < n) (hfm : f < m) : Got S (hC S m n c) f (ca S c 6) (at_ S f = c ∧ mtF S f m = true) := by
  have h8 := hw.2.2.2.1.2
  have h10 := hw.2.2.2.2.1
  obtain ⟨l1, l2, l3⟩ := lst_rng hv hc
  have hVb : VF (hCb S c) m := VF_of hf (fun f w _ _ => hCb_o (by omega) (by omega))
  obtain ⟨g, b1, b2, b3, b4, b5, b6⟩ := serve_in (c := c) (w := ca S c 6 - lst S c) hVb (by omega) hfm
  have eCc : hCc S m c = serveF (hCb S c) m c (ca S c 6 - lst S c) := rfl
  rw [← eCc] at b1 b6
  have o : ∀ w, fi (hCb S c) f w = fi S f w := fun w => hCb_o (by omega) (by omega)
  have o5 : hCb S c 5 = S 5 := hCb_o (by omega) (by omega)
  have eh : ∀ w, fi (hC S m n c) f w = fi (hCc S m c).1 f w := fun w => hC_fi h8 (by omega)
  have ew : wt (hC S m n c) f = wt (hCc S m c).1 f := wt_cg (eh 1) (eh 4)
  have hsg := hCb_SG (S := S) (c := c) (by omega)
  refine ⟨g, by rw [eh, b1, o], b2, by rw [← o 2]; exact b3, by omega, ?_, ?_⟩
  · refine b5.imp id (fun h => ⟨?_, ?_⟩)
    · rw [← SG_at hsg (show f < 10 by omega)]; exact h.1
    · rw [← SG_mtF hsg hw hfm m (Nat.le_refl _)]; exact h.2
  · rw [eh, ew, b6, o5, o]
theorem hC_7 {S : SS} {m n c : Nat} (h8 : n ≤ 8) (hc : c < 8) : hC S m n c 7 = S 7 + (ca S c 6 - lst S c - (hCc S m c).2) := by
  have dk : ∀ k, k < 10 → (hCd S m n c).1 k = (hCc S m c).1 k := fun k hk => partF_SA h8 k (Or.inl (fun g => by omega))
  have eCc : hCc S m c = serveF (hCb S c) m c (ca S c 6 - lst S c) := rfl
  unfold hC hCe
  rw [upd_o (by omega), upd_o (by omega), dk 7 (by omega), eCc, serveF_7, hCb_o (by omega) (by omega)]
theorem hC_8 {S : SS} {m n c : Nat} (h8 : n ≤ 8) (hc : c < 8) : hC S m n c 8 = S 8 + lst S c := by
  have dk : ∀ k, k < 10 → (hCd S m n c).1 k = (hCc S m c).1 k := fun k hk => partF_SA h8 k (Or.inl (fun g => by omega))
  have ck : ∀ k, k < 10 → k ≠ 7 → (hCc S m c).1 k = hCb S c k := fun k hk h7 => serveF_o (fun f => by omega) (fun f => by omega) h7
  unfold hC hCe
  rw [upd_o (by omega), upd_o (by omega), dk 8 (by omega), ck 8 (by omega) (by omega)]
  show upd _ 8 _ 8 = _
  rw [upd_s]
  show upd S _ _ 8 + _ = _
  rw [upd_o (by omega)]
  rfl
theorem hC_9 {S : SS} {m n c : Nat} (h8 : n ≤ 8) (hc : c < 8) : hC S m n c 9 = S 9 + (hCd S m n c).2 := by
  have dk : ∀ k, k < 10 → (hCd S m n c).1 k = (hCc S m c).1 k := fun k hk => partF_SA h8 k (Or.inl (fun g => by omega))
  have ck : ∀ k, k < 10 → k ≠ 7 → (hCc S m c).1 k = hCb S c k := fun k hk h7 => serveF_o (fun f => by omega) (fun f => by omega) h7
  unfold hC
  rw [upd_s]
  unfold hCe
  rw [upd_o (by omega), dk 9 (by omega), ck 9 (by omega) (by omega), hCb_o (by omega) (by omega)]
theorem hC_56 {S : SS} {m n c : Nat} (h8 : n ≤ 8) (hc : c < 8) : hC S m n c 5 = S 5 ∧ hC S m n c 6 = S 6 := by
  have dk : ∀ k, k < 10 → (hCd S m n c).1 k = (hCc S m c).1 k := fun k hk => partF_SA h8 k (Or.inl (fun g => by omega))
  have ck : ∀ k, k < 10 → k ≠ 7 → (hCc S m c).1 k = hCb S c k := fun k hk h7 => serveF_o (fun f => by omega) (fun f => by omega) h7
  unfold hC hCe
  rw [upd_o (by omega), upd_o (by omega), dk 5 (by omega), ck 5 (by omega) (by omega), hCb_o (by omega) (by omega)]
  rw [upd_o (by omega), upd_o (by omega), dk 6 (by omega), ck 6 (by omega) (by omega), hCb_o (by omega) (by omega)]
  exact ⟨rfl, rfl⟩
theorem hC_sum {S : SS} {m n c : Nat} (h8 : n ≤ 8) (hc : c < n) (h7 : S 7 = sm (fun f => fi S f 4) m) (h8' : S 8 = sm (fun c => ca S c 7) n) (h9 : S 9 = sm (fun c => ca S c 8) n) :
    hC S m n c 7 = sm (fun f => fi (hC S m n c) f 4) m ∧ hC S m n c 8 = sm (fun k => ca (hC S m n c) k 7) n ∧ hC S m n c 9 = sm (fun k => ca (hC S m n c) k 8) n := by
  have eCc : hCc S m c = serveF (hCb S c) m c (ca S c 6 - lst S c) := rfl
  have dd : ∀ k w, w ≠ 6 → w < 9 → ca (hCd S m n c).1 k w = ca (hCc S m c).1 k w := fun k w hw h9 => partF_SA h8 _ (Or.inl (fun g => by omega))
  have cc : ∀ k w, k < 8 → w < 9 → ca (hCc S m c).1 k w = ca (hCb S c) k w := fun k w hk hw => serveF_ca hk hw
  refine ⟨?_, ?_, ?_⟩
  · have hs := serve_sum (S := hCb S c) (m := m) (c := c) (w := ca S c 6 - lst S c)
    rw [← eCc] at hs
    have e1 : sm (fun f => fi (hCb S c) f 4) m = sm (fun f => fi S f 4) m := sm_cg m (fun k _ => hCb_o (by omega) (by omega))
    have e2 : sm (fun f => fi (hC S m n c) f 4) m = sm (fun f => fi (hCc S m c).1 f 4) m := sm_cg m (fun k _ => hC_fi h8 (by omega))
    rw [e2, i_tel2 _ _ _ hs, e1, ← h7, hC_7 h8 (by omega), Int32.sub_eq_add_neg (S 7 + _), Int32.add_assoc, ← Int32.sub_eq_add_neg]
  · rw [hC_8 h8 (by omega), h8']
    have hb7 : hCb S c (10 + 9 * c + 7) = S (10 + 9 * c + 7) + lst S c := by
      unfold hCb
      rw [upd_o (by omega)]
      unfold hCa
      rw [upd_s]; rfl
    have e : ∀ k, k < 8 → ca (hC S m n c) k 7 = ca (hCb S c) k 7 := fun k hk => by
      rw [← cc k 7 hk (by omega), ← dd k 7 (by omega) (by omega)]
      unfold hC hCe
      show upd _ 9 _ _ = _
      rw [upd_o (by omega), upd_o (by omega)]; rfl
    have key := sm_up (p := fun k => if k < 8 then ca (hC S m n c) k 7 else ca S k 7) (q := fun k => ca S k 7) (f := c) (v := lst S c) (by show (if c < 8 then _ else _) = _; rw [if_pos (by omega), e c (by omega)]; exact hb7) (fun k hk => by
      show (if k < 8 then _ else _) = _
      by_cases h : k < 8
      · rw [if_pos h, e k h]
        exact hCb_o (by omega) (by omega)
      · rw [if_neg h]) n
    rw [if_pos hc] at key
    rw [← key]
    exact sm_cg n (fun k hk => if_pos (by omega))
  · rw [hC_9 h8 (by omega), h9]
    have e : ∀ k, k < 8 → ca (hC S m n c) k 8 = if k = c then ca S k 8 + (hCd S m n c).2 else ca S k 8 := fun k hk => by
      have b : ca (hCd S m n c).1 k 8 = ca S k 8 := by
        rw [dd k 8 (by omega) (by omega), cc k 8 hk (by omega)]
        exact hCb_o (by omega) (by omega)
      unfold hC
      show upd _ 9 _ _ = _
      rw [upd_o (by omega)]
      unfold hCe
      by_cases h : k = c
      · subst h
        rw [if_pos rfl, upd_s]
        show ca (hCd S m n k).1 k 8 + _ = _
        rw [b]
      · rw [if_neg h, upd_o (by omega)]
        exact b
    have key := sm_up (p := fun k => if k = c then ca S k 8 + (hCd S m n c).2 else ca S k 8) (q := fun k => ca S k 8) (f := c) (v := (hCd S m n c).2) (if_pos rfl) (fun k hk => if_neg hk) n
    rw [if_pos hc] at key
    rw [← key]
    exact (sm_cg n (fun k hk => e k (by omega))).symm
/-- what comes to the gates while the water stands at one canal -/
theorem hC_came {S : SS} {n m t c g : Nat} (hw : Wf S n m t) (hf : VF S m) (hv : VC S n) (hc : c < n) (hz : ZC S n c) (hg : g < n) :
    (g ≤ c ∨ pa S g ≠ c → ca (hC S m n c) g 6 = ca S g 6) ∧ (ca (hC S m n c) g 6 = ca S g 6 ∨ (c < g ∧ pa S g = c ∧ ca S g 4 = 1 ∧ (ca (hC S m n c) g 6).toInt ≤ (ca S c 6).toInt ∧ (ca (hC S m n c) g 6).toInt ≤ (ca S g 2).toInt)) := by
  have h8 := hw.2.2.2.1.2
  obtain ⟨l1, l2, l3⟩ := lst_rng hv hc
  have hcc := (hv c hc).2.2
  have hVb : VF (hCb S c) m := VF_of hf (fun f w _ _ => hCb_o (by omega) (by omega))
  obtain ⟨s1, s2, s3⟩ := serveF_l (c := c) (w := ca S c 6 - lst S c) hVb (by omega)
  have eCc : hCc S m c = serveF (hCb S c) m c (ca S c 6 - lst S c) := rfl
  rw [← eCc] at s2 s3
  have hVcb : VC (hCb S c) n := VC_of hv (fun k w _ _ => hCb_o (by omega) (by omega))
  have hVcc : VC (hCc S m c).1 n := VC_of hVcb (fun k w _ _ => serveF_ca (by omega) (by omega))
  have eca : ∀ g w, g < 8 → w < 7 → ca (hCc S m c).1 g w = ca S g w := fun g w hg hw => by
    show ca (serveF _ _ _ _).1 g w = _
    rw [serveF_ca hg (by omega)]
    exact hCb_o (by omega) (by omega)
  have epa : ∀ g, g < 8 → pa (hCc S m c).1 g = pa S g := fun g hg => by unfold pa; rw [eca g 0 hg (by omega)]
  have hzc : ZC (hCc S m c).1 n c := fun g g1 g2 g3 => by
    rw [eca g 6 (by omega) (by omega)]
    exact hz g g1 g2 (by rw [← epa g (by omega)]; exact g3)
  obtain ⟨p1, p2⟩ := part_came (m := m) (g := g) hVcc h8 hzc s2 (by omega) hg
  have e6 : ca (hC S m n c) g 6 = ca (partF (hCc S m c).1 m n c (hCc S m c).2).1 g 6 := by
    unfold hC hCe
    show upd _ 9 _ _ = _
    rw [upd_o (by omega), upd_o (by omega)]; rfl
  have hl : ltF (hCc S m c).1 m c g = true → pa S g = c ∧ ca S g 4 = 1 := fun h => by
    unfold ltF at h
    rw [Bool.and_eq_true, Bool.and_eq_true] at h
    have h1 := of_decide_eq_true h.1.1
    have h2 := of_decide_eq_true h.1.2
    rw [epa g (by omega)] at h1
    rw [eca g 4 (by omega) (by omega)] at h2
    exact ⟨h1, h2⟩
  refine ⟨fun h => ?_, ?_⟩
  · rw [e6, p1 (fun z => ?_), eca g 6 (by omega) (by omega)]
    rcases h with h | h
    · omega
    · exact h (hl z.2).1
  · by_cases h : c < g ∧ ltF (hCc S m c).1 m c g = true
    · obtain ⟨q1, q2⟩ := p2 h
      obtain ⟨x1, x2⟩ := hl h.2
      rw [← e6] at q1 q2
      rw [eca g 2 (by omega) (by omega)] at q2
      exact Or.inr ⟨h.1, x1, x2, by omega, q2⟩
    · left
      rw [e6, p1 h, eca g 6 (by omega) (by omega)]
