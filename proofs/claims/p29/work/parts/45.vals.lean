/-! what an hour leaves as it is, and the ranges that it keeps -/
theorem isB_cg {S S' : SS} {n m t m' t' : Nat} (hw : Wf S n m t) (hw' : Wf S' n m' t') (h4 : ∀ c, c < n → ca S' c 4 = ca S c 4) (h0 : ∀ c, c < n → pa S' c = pa S c) {o : Bool} {top : Nat} : ∀ c, c < n → isB S' o top c = isB S o top c := by
  have h8 := hw.2.2.2.1.2
  have hp : ∀ c, 1 ≤ c → c < n → pa S c < c := fun c a b => (hw.2.2.2.2.2.2.1 c a b).1
  have hp' : ∀ c, 1 ≤ c → c < n → pa S' c < c := fun c a b => (hw'.2.2.2.2.2.2.1 c a b).1
  intro c
  induction c using Nat.strongRecOn with
  | ind c ih =>
    intro hc
    by_cases e : c = 0
    · subst e
      unfold isB
      rw [bl_0, bl_0]
    · have hl := hp c (by omega) hc
      rw [isB_eq hp hc h8, isB_eq hp' hc h8, h4 c hc, h0 c hc, ih _ hl (by omega)]
/-- the slots that say what stands where -/
def SG (S S' : SS) : Prop := ∀ k, still k → S' k = S k
theorem SG_ca {S S' : SS} (h : SG S S') {c w : Nat} (hc : c < 8) (hw : w < 6) : ca S' c w = ca S c w := h _ (still_ca hc hw)
theorem SG_fi {S S' : SS} (h : SG S S') {f w : Nat} (hf : f < 10) (hw : w < 7) (h4 : w ≠ 4) (h6 : w ≠ 6) : fi S' f w = fi S f w := h _ (still_fi hf hw h4 h6)
theorem SG_wf {S S' : SS} {n m t : Nat} (h : SG S S') (hw : Wf S n m t) : Wf S' n m t := Wf_still hw h
theorem SG_at {S S' : SS} (h : SG S S') {f : Nat} (hf : f < 10) : at_ S' f = at_ S f := by unfold at_; rw [SG_fi h hf (by omega) (by omega) (by omega)]
theorem SG_pa {S S' : SS} (h : SG S S') {c : Nat} (hc : c < 8) : pa S' c = pa S c := by unfold pa; rw [SG_ca h hc (by omega)]
theorem SG_isB {S S' : SS} {n m t : Nat} (h : SG S S') (hw : Wf S n m t) {o : Bool} {top c : Nat} (hc : c < n) : isB S' o top c = isB S o top c := by
  have h8 := hw.2.2.2.1.2
  exact isB_cg hw (SG_wf h hw) (fun c hc => SG_ca h (by omega) (by omega)) (fun c hc => SG_pa h (by omega)) c hc
theorem SG_mtF {S S' : SS} {n m t f : Nat} (h : SG S S') (hw : Wf S n m t) (hf : f < m) : ∀ i, i ≤ m → mtF S' f i = mtF S f i := by
  have h10 := hw.2.2.2.2.1
  intro i
  induction i with
  | zero => intro _; rfl
  | succ i ih =>
    intro hi
    have ha := (hw.2.2.2.2.2.2.2 i (by omega)).1
    unfold mtF
    rw [ih (by omega), SG_fi h (f := i) (w := 5) (by omega) (by omega) (by omega) (by omega), SG_fi h (f := i) (w := 3) (by omega) (by omega) (by omega) (by omega), SG_fi h (f := f) (w := 3) (by omega) (by omega) (by omega) (by omega), SG_at h (by omega), SG_at h (by omega), SG_isB h hw ha]
theorem SG_iwF {S S' : SS} {n m t g : Nat} (h : SG S S') (hw : Wf S n m t) (hh : ∀ f, f < m → g ≤ at_ S f → fi S' f 4 = fi S f 4) : ∀ i, i ≤ m → iwF S' g i = iwF S g i := by
  have h8 := hw.2.2.2.1.2
  have h10 := hw.2.2.2.2.1
  have hp : ∀ c, 1 ≤ c → c < n → pa S c < c := fun c a b => (hw.2.2.2.2.2.2.1 c a b).1
  intro i
  induction i with
  | zero => intro _; rfl
  | succ i ih =>
    intro hi
    have ha := (hw.2.2.2.2.2.2.2 i (by omega)).1
    unfold iwF
    rw [ih (by omega), SG_at h (by omega), SG_isB h hw ha]
    by_cases hg : g ≤ at_ S i
    · unfold wt
      rw [hh i (by omega) hg, SG_fi h (f := i) (w := 1) (by omega) (by omega) (by omega) (by omega)]
    · have : (decide (at_ S i = g) || isB S false g (at_ S i)) = false := by
        rw [isB_le hp ha h8 (by omega), decide_eq_false (by omega)]; rfl
      rw [this, Bool.and_false, Bool.and_false]
theorem sub_sub' (a b : Int32) : a - (a - b) = b := by
  rw [Int32.sub_eq_add_neg a (a - b), Int32.neg_sub, Int32.add_comm, Int32.sub_add_cancel]
def VC (S : SS) (n : Nat) : Prop := ∀ c, c < n → (1 ≤ (ca S c 2).toInt ∧ (ca S c 2).toInt ≤ 500) ∧ (0 ≤ (ca S c 3).toInt ∧ (ca S c 3).toInt ≤ 500) ∧ (0 ≤ (ca S c 6).toInt ∧ (ca S c 6).toInt ≤ 500)
theorem VF_of {S S' : SS} {m : Nat} (h : VF S m) (hf : ∀ f w, f < m → w < 6 → fi S' f w = fi S f w) : VF S' m := by
  intro f hfm
  rw [hf f 1 hfm (by omega), hf f 2 hfm (by omega), hf f 3 hfm (by omega), hf f 4 hfm (by omega), hf f 5 hfm (by omega)]
  exact h f hfm
theorem VC_of {S S' : SS} {n : Nat} (h : VC S n) (hc : ∀ c w, c < n → w < 7 → ca S' c w = ca S c w) : VC S' n := by
  intro c hcn
  rw [hc c 2 hcn (by omega), hc c 3 hcn (by omega), hc c 6 hcn (by omega)]
  exact h c hcn
/-- what seeps -/
def lst (S : SS) (c : Nat) : Int32 := (ca S c 6 * ca S c 3 + 999) / 1000
theorem lst_rng {S : SS} {n c : Nat} (h : VC S n) (hc : c < n) : 0 ≤ (lst S c).toInt ∧ (lst S c).toInt ≤ (ca S c 6).toInt ∧ (ca S c 6 - lst S c).toInt = (ca S c 6).toInt - (lst S c).toInt := by
  obtain ⟨-, ⟨b1, b2⟩, ⟨c1, c2⟩⟩ := h c hc
  have m1 : 0 ≤ (ca S c 6).toInt * (ca S c 3).toInt := Int.mul_nonneg c1 b1
  have m2 : (ca S c 6).toInt * (ca S c 3).toInt ≤ (ca S c 6).toInt * 500 := Int.mul_le_mul_of_nonneg_left b2 c1
  have e9 : (999 : Int32).toInt = 999 := by decide
  have e10 : (1000 : Int32).toInt = 1000 := by decide
  have em : (ca S c 6 * ca S c 3).toInt = (ca S c 6).toInt * (ca S c 3).toInt := i_mul (by omega) (by omega)
  have ea : (ca S c 6 * ca S c 3 + 999).toInt = (ca S c 6).toInt * (ca S c 3).toInt + 999 := by rw [i_add (by omega) (by omega), em, e9]
  have el : (lst S c).toInt = ((ca S c 6).toInt * (ca S c 3).toInt + 999) / 1000 := by
    unfold lst
    rw [i_div (by omega) (by omega), ea, e10]
  have h1 : 0 ≤ (lst S c).toInt := by omega
  have h2 : (lst S c).toInt ≤ (ca S c 6).toInt := by omega
  exact ⟨h1, h2, i_sub (by omega) (by omega)⟩
theorem serveF_l {S : SS} {m c : Nat} {w : Int32} (hv : VF S m) (hw : 0 ≤ w.toInt) : VF (serveF S m c w).1 m ∧ 0 ≤ (serveF S m c w).2.toInt ∧ (serveF S m c w).2.toInt ≤ w.toInt := by
  have e : serveF S m c w = (upd (sA S m c w m).1 7 ((sA S m c w m).1 7 + (w - (sA S m c w m).2)), (sA S m c w m).2) := by
    unfold serveF; rw [← sA_end]
  obtain ⟨a, b, d⟩ := sA_inv (c := c) hv hw m (Nat.le_refl _)
  rw [e]
  exact ⟨VF_of a (fun f x _ _ => upd_o (by omega)), b, d⟩
theorem serveF_has {S : SS} {m c f : Nat} {w : Int32} (hf : at_ S f ≠ c) : fi (serveF S m c w).1 f 4 = fi S f 4 := by
  show upd _ 7 _ _ = _
  rw [upd_o (by omega)]
  refine srv_l _ _ _ _ (fun g hg => ?_)
  have := (List.mem_filter.mp hg).2
  unfold el at this
  rw [Bool.and_eq_true, Bool.and_eq_true] at this
  have hgc := of_decide_eq_true this.1.1
  have hne : g ≠ f := fun e => hf (e ▸ hgc)
  omega
theorem serveF_ca {S : SS} {m c c' x : Nat} {w : Int32} (hc : c' < 8) (hx : x < 9) : ca (serveF S m c w).1 c' x = ca S c' x :=
  serveF_o (fun f => by omega) (fun f => by omega) (by omega)
theorem pr_came {S0 : SS} {m c n : Nat} {q a b : Int32} (hv : VC S0 n) (h8 : n ≤ 8) (hq : 0 ≤ q.toInt ∧ q.toInt ≤ 500) : ∀ i, i ≤ n → VC (pr S0 m c q (S0, a, b) i).1 n := by
  intro i
  induction i with
  | zero => intro _; exact hv
  | succ g ih =>
    intro hi
    have hi' := ih (by omega)
    unfold pr
    split
    · intro k hk
      have hp : 0 ≤ (ptq q (pr S0 m c q (S0, a, b) g).2.2).toInt ∧ (ptq q (pr S0 m c q (S0, a, b) g).2.2).toInt ≤ 1000 := by
        have e1 : (1 : Int32).toInt = 1 := by decide
        unfold ptq
        split
        · rw [Int32.add_zero]; omega
        · rw [i_add (by omega) (by omega), e1]; omega
      obtain ⟨t1, t2, t3⟩ := thr_rng (S := S0) (g := g) hp.1 hp.2 (hv g (by omega)).1
      obtain ⟨x, y, z⟩ := hi' k hk
      have e : ∀ x, x < 9 → (k = g → x ≠ 6) → ca (upd (pr S0 m c q (S0, a, b) g).1 (10 + 9 * g + 6) (thr S0 g (ptq q (pr S0 m c q (S0, a, b) g).2.2))) k x = ca (pr S0 m c q (S0, a, b) g).1 k x := fun x hx hne => upd_o (by omega)
      show _ ∧ _ ∧ _
      refine ⟨?_, ?_, ?_⟩
      · rw [e 2 (by omega) (by omega)]; exact x
      · rw [e 3 (by omega) (by omega)]; exact y
      · by_cases hkg : k = g
        · subst hkg
          have : ca (upd (pr S0 m c q (S0, a, b) k).1 (10 + 9 * k + 6) (thr S0 k (ptq q (pr S0 m c q (S0, a, b) k).2.2))) k 6 = thr S0 k (ptq q (pr S0 m c q (S0, a, b) k).2.2) := upd_s
          rw [this]
          exact ⟨t1, t2⟩
        · rw [e 6 (by omega) (by omega)]; exact z
    · exact hi'
theorem partF_V {S : SS} {m n c : Nat} {w : Int32} (hv : VC S n) (h8 : n ≤ 8) (hw0 : 0 ≤ w.toInt) (hw5 : w.toInt ≤ 500) : VC (partF S m n c w).1 n := by
  by_cases hk : mn S m c n = 0
  · unfold partF
    rw [pr_none hk n (Nat.le_refl _)]
    exact hv
  · obtain ⟨r1, r2, -⟩ := mod_rng hw0 hw5 (Nat.pos_of_ne_zero hk) (show mn S m c n ≤ 8 by have := mn_le (S := S) (m := m) (c := c) n; omega)
    exact pr_came hv h8 ⟨r1, r2⟩ n (Nat.le_refl _)
theorem partF_fi {S : SS} {m n c f x : Nat} {w : Int32} (h8 : n ≤ 8) : fi (partF S m n c w).1 f x = fi S f x := partF_SA h8 _ (Or.inr (by omega))
theorem hC_V {S : SS} {m n c : Nat} (hf : VF S m) (hv : VC S n) (h8 : n ≤ 8) (hc : c < n) : VF (hC S m n c) m ∧ VC (hC S m n c) n ∧ (0 ≤ (hCc S m c).2.toInt ∧ (hCc S m c).2.toInt ≤ 500) := by
  obtain ⟨l1, l2, l3⟩ := lst_rng hv hc
  have hcc := (hv c hc).2.2
  have hVb : VF (hCb S c) m := VF_of hf (fun f w _ _ => hCb_o (by omega) (by omega))
  have hw : ca S c 6 - (ca S c 6 * ca S c 3 + 999) / 1000 = ca S c 6 - lst S c := rfl
  obtain ⟨s1, s2, s3⟩ := serveF_l (c := c) (w := ca S c 6 - lst S c) hVb (by omega)
  have hVcb : VC (hCb S c) n := VC_of hv (fun k w _ _ => hCb_o (by omega) (by omega))
  have hVcc : VC (hCc S m c).1 n := VC_of hVcb (fun k w _ _ => serveF_ca (by omega) (by omega))
  have s2' : 0 ≤ (hCc S m c).2.toInt := s2
  have s3' : (hCc S m c).2.toInt ≤ (ca S c 6 - lst S c).toInt := s3
  have hVd : VC (hCd S m n c).1 n := partF_V hVcc h8 s2' (by omega)
  refine ⟨?_, ?_, s2', by omega⟩
  · refine VF_of s1 (fun f w _ _ => ?_)
    unfold hC hCe
    show upd _ 9 _ _ = _
    rw [upd_o (by omega), upd_o (by omega)]
    exact partF_fi h8
  · refine VC_of hVd (fun k w _ _ => ?_)
    unfold hC hCe
    show upd _ 9 _ _ = _
    rw [upd_o (by omega), upd_o (by omega)]
    rfl
theorem hL_V {S : SS} {m n : Nat} (hf : VF S m) (hv : VC S n) (h8 : n ≤ 8) : ∀ i, i ≤ n → VF (hL S m n i) m ∧ VC (hL S m n i) n := by
  intro i
  induction i with
  | zero => intro _; exact ⟨hf, hv⟩
  | succ i ih =>
    intro hi
    obtain ⟨a, b⟩ := ih (by omega)
    obtain ⟨c, d, -⟩ := hC_V a b h8 (show i < n by omega)
    exact ⟨c, d⟩
theorem zC_s {S : SS} {g : Nat} : ∀ i, g < i → zC S i (10 + 9 * g + 6) = 0 := by
  intro i
  induction i with
  | zero => intro h; omega
  | succ c ih =>
    intro h
    unfold zC
    by_cases e : g = c
    · subst e; rw [upd_s]
    · rw [upd_o (by omega), ih (by omega)]
theorem f3_V {S : SS} {m n : Nat} {b : Int32} (hf : VF S m) (hv : VC S n) (h8 : n ≤ 8) (hn : 1 ≤ n) (hb : 0 ≤ b.toInt) : VF (f3 S n b) m ∧ VC (f3 S n b) n := by
  refine ⟨VF_of hf (fun f w _ _ => f3_o (by omega) (by omega) (by omega) (fun g _ => by omega)), fun c hc => ?_⟩
  obtain ⟨x, y, z⟩ := hv c hc
  have e2 : ca (f3 S n b) c 2 = ca S c 2 := f3_o (by omega) (by omega) (by omega) (fun g _ => by omega)
  have e3 : ca (f3 S n b) c 3 = ca S c 3 := f3_o (by omega) (by omega) (by omega) (fun g _ => by omega)
  rw [e2, e3]
  refine ⟨x, y, ?_⟩
  have e0 : (0 : Int32).toInt = 0 := by decide
  have ew : ca (f1 S n) 0 2 = ca S 0 2 := by
    unfold f1
    show zC _ n _ = _
    rw [zC_o n (fun g _ => by omega), upd_o (by omega)]; rfl
  by_cases hc0 : c = 0
  · subst hc0
    have e6 : ca (f3 S n b) 0 6 = fB (f1 S n) b := by
      unfold f3 f2
      show upd _ 6 _ 16 = _
      rw [upd_o (by omega), upd_s]
    rw [e6]
    unfold fB
    rw [ew]
    obtain ⟨x1, x2⟩ := x
    by_cases h : b ≤ ca S 0 2
    · rw [if_pos h]
      have := i_le.mp h
      omega
    · rw [if_neg h]
      omega
  · have e6 : ca (f3 S n b) c 6 = 0 := by
      unfold f3 f2 f1
      show upd _ 6 _ _ = _
      rw [upd_o (by omega), upd_o (by omega)]
      exact zC_s n hc
    rw [e6, e0]
    omega
theorem eC_s {S : SS} {f : Nat} : ∀ i, f < i → eC S i (82 + 7 * f + 5) = if wt S f = true then fi S f 5 else 0 := by
  intro i
  induction i with
  | zero => intro h; omega
  | succ k ih =>
    intro h
    have hw : ∀ j, j ≤ k → wt (eC S j) k = wt S k ∧ fi (eC S j) k 5 = fi S k 5 := by
      intro j hj
      unfold wt fi
      rw [eC_o j (fun f hf => by omega), eC_o j (fun f hf => by omega), eC_o j (fun f hf => by omega)]
      exact ⟨rfl, rfl⟩
    unfold eC
    by_cases e : f = k
    · subst e
      rw [upd_s, (hw f (Nat.le_refl _)).1, (hw f (Nat.le_refl _)).2]
    · rw [upd_o (by omega), ih (by omega)]
theorem flow_V {S : SS} {m n : Nat} {b : Int32} (hf : VF S m) (hv : VC S n) (h8 : n ≤ 8) (hn : 1 ≤ n) (hb : 0 ≤ b.toInt) : VF (flowF S n m b) m ∧ VC (flowF S n m b) n := by
  obtain ⟨a, c⟩ := f3_V hf hv h8 hn hb
  obtain ⟨d, e⟩ := hL_V a c h8 n (Nat.le_refl _)
  unfold flowF
  refine ⟨fun f hfm => ?_, VC_of e (fun k w _ _ => eC_o m (fun f _ => by omega))⟩
  obtain ⟨x1, x2, x3, x4, x5⟩ := d f hfm
  have o : ∀ w, w < 5 → fi (eC (hL (f3 S n b) m n n) m) f w = fi (hL (f3 S n b) m n n) f w := fun w hw => eC_o m (fun g _ => by omega)
  rw [o 1 (by omega), o 2 (by omega), o 3 (by omega), o 4 (by omega)]
  refine ⟨x1, x2, x3, x4, ?_⟩
  show eC _ m (82 + 7 * f + 5) = 0 ∨ eC _ m (82 + 7 * f + 5) = 1
  rw [eC_s m hfm]
  split
  · exact x5
  · exact Or.inl rfl
theorem hC_has {S : SS} {m n c f : Nat} (h8 : n ≤ 8) (hc8 : c < 8) (hf : at_ S f ≠ c) (hf10 : f < 10) : fi (hC S m n c) f 4 = fi S f 4 := by
  unfold hC hCe
  show upd _ 9 _ _ = _
  rw [upd_o (by omega), upd_o (by omega)]
  show fi (partF _ m n c _).1 f 4 = _
  rw [partF_fi h8]
  have : at_ (hCb S c) f = at_ S f := by unfold at_ fi; rw [hCb_o (by omega) (by omega)]
  show fi (serveF _ m c _).1 f 4 = _
  rw [serveF_has (by rw [this]; exact hf)]
  exact hCb_o (by omega) (by omega)
theorem hL_has {S : SS} {m n f : Nat} (h8 : n ≤ 8) (hf10 : f < 10) : ∀ i, i ≤ n → i ≤ at_ S f → fi (hL S m n i) f 4 = fi S f 4 := by
  intro i
  induction i with
  | zero => intro _ _; rfl
  | succ i ih =>
    intro hi ha
    have : at_ (hL S m n i) f = at_ S f := by
      unfold at_ fi
      rw [hL_o h8 (still_fi hf10 (by omega) (by omega) (by omega)) i (by omega)]
    unfold hL
    rw [hC_has h8 (by omega) (by rw [this]; omega) hf10, ih (by omega) (by omega)]
