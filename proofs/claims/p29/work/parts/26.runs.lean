/-! the reference: hours and runs -/
theorem srv_hi : ∀ (l : List Nat) (S : SS) (left : Int32) (k : Nat), (∀ f, f ∈ l → f < 10) → 152 ≤ k → (srv l S left).1 k = S k := by
  intro l
  induction l with
  | nil => intro S left k _ _; rfl
  | cons f l ih =>
    intro S left k hl hk
    have hf := hl f (List.mem_cons_self ..)
    show (srv l (sg S f (gv S f left)) (left - gv S f left)).1 k = S k
    rw [ih _ _ k (fun g hg => hl g (List.mem_cons_of_mem _ hg)) hk, sg_o (by omega) (by omega)]
theorem serveF_hi {S : SS} {m c : Nat} {w : Int32} {k : Nat} (hm : m ≤ 10) (hk : 152 ≤ k) : (serveF S m c w).1 k = S k := by
  show upd _ 7 _ k = _
  rw [upd_o (by omega), srv_hi _ _ _ k (fun f hf => by have := ord_mem.mp (List.mem_filter.mp hf).1; omega) hk]
theorem hC_hi {S : SS} {m n c k : Nat} (h8 : n ≤ 8) (hm : m ≤ 10) (hc : c < 8) (hk : 152 ≤ k) : hC S m n c k = S k := by
  unfold hC hCe hCd hCc
  rw [upd_o (by omega), upd_o (by omega), partF_SA h8 k (Or.inr (by omega)), serveF_hi hm hk, hCb_o (by omega) (by omega)]
theorem hL_hi {S : SS} {m n k : Nat} (h8 : n ≤ 8) (hm : m ≤ 10) (hk : 152 ≤ k) : ∀ i, i ≤ 8 → hL S m n i k = S k := by
  intro i
  induction i with
  | zero => intro _; rfl
  | succ c ih => intro h; unfold hL; rw [hC_hi h8 hm (by omega) hk, ih (by omega)]
theorem flowF_hi {S : SS} {n m : Nat} {b : Int32} {k : Nat} (h8 : n ≤ 8) (hm : m ≤ 10) (hk : 152 ≤ k) : flowF S n m b k = S k := by
  unfold flowF
  rw [eC_o m (fun f _ => by omega), hL_hi h8 hm hk n h8, f3_o (by omega) (by omega) (by omega) (fun g _ => by omega)]
theorem flowF_st {S : SS} {n m : Nat} {b : Int32} {k : Nat} (h8 : n ≤ 8) (hk : still k) (h5 : ∀ f, f < m → k ≠ 82 + 7 * f + 5) : flowF S n m b k = S k := by
  unfold flowF
  rw [eC_o m h5, hL_o h8 hk n h8, still_f3 h8 hk]
theorem still_lo {k : Nat} (h : k < 5) : still k := ⟨fun f => by omega, fun f => by omega, by omega, Or.inl fun g => by omega⟩
theorem still_ca {c w : Nat} (hc : c < 8) (hw : w < 6) : still (10 + 9 * c + w) := ⟨fun f => by omega, fun f => by omega, by omega, Or.inl fun g => by omega⟩
theorem still_fi {f w : Nat} (hf : f < 10) (hw : w < 7) (h4 : w ≠ 4) (h6 : w ≠ 6) : still (82 + 7 * f + w) := ⟨fun g => by omega, fun g => by omega, by omega, Or.inr (by omega)⟩
theorem Wf_flow {S : SS} {n m t : Nat} {b : Int32} (hw : Wf S n m t) : Wf (flowF S n m b) n m t := by
  have h8 := hw.2.2.2.1.2
  have hm := hw.2.2.2.2.1
  exact hw.of (flowF_st h8 (still_lo (by omega)) (fun f _ => by omega)) (flowF_st h8 (still_lo (by omega)) (fun f _ => by omega)) (flowF_st h8 (still_lo (by omega)) (fun f _ => by omega)) (fun c hc => flowF_st h8 (still_ca hc (by omega)) (fun f _ => by omega)) (fun f hf => flowF_st h8 (still_fi hf (by omega) (by omega) (by omega)) (fun g _ => by omega))
theorem setO_o {S : SS} {x : Int32} {k : Nat} : ∀ i, (∀ g, 1 ≤ g → g < i → k ≠ 10 + 9 * g + 4) → setO S x i k = S k := by
  intro i
  induction i with
  | zero => intro _; rfl
  | succ g ih =>
    intro h
    unfold setO
    by_cases hg : g = 0
    · rw [if_pos hg]
    · rw [if_neg hg, upd_o (h g (by omega) (by omega)), ih (fun g' h1 h2 => h g' h1 (by omega))]
theorem Wf_setO {S : SS} {n m t : Nat} {x : Int32} {i : Nat} (hw : Wf S n m t) (hi : i ≤ 8) : Wf (setO S x i) n m t :=
  hw.of (setO_o i (fun g _ _ => by omega)) (setO_o i (fun g _ _ => by omega)) (setO_o i (fun g _ _ => by omega)) (fun c hc => setO_o i (fun g _ _ => by omega)) (fun f hf => setO_o i (fun g _ _ => by omega))
def Tu (S : SS) (t : Nat) : Prop := (t = 0 → S 3 = 0 ∧ S 4 = 0) ∧ (0 < t → ∃ on gone h, on < t ∧ S 3 = nI on ∧ S 4 = nI gone ∧ S (153 + 2 * on) = nI h ∧ gone < h ∧ h ≤ 20) ∧ ∀ i, i < t → ∃ h, S (153 + 2 * i) = nI h ∧ 1 ≤ h ∧ h ≤ 20
theorem Tu.of {S S' : SS} {t : Nat} (h : Tu S t) (h3 : S' 3 = S 3) (h4 : S' 4 = S 4) (hh : ∀ i, i < t → S' (153 + 2 * i) = S (153 + 2 * i)) : Tu S' t := by
  obtain ⟨a, b, c⟩ := h
  refine ⟨fun e => by rw [h3, h4]; exact a e, fun e => ?_, fun i hi => ?_⟩
  · obtain ⟨on, gone, h, d1, d2, d3, d4, d5⟩ := b e
    exact ⟨on, gone, h, d1, by rw [h3, d2], by rw [h4, d3], by rw [hh on d1, d4], d5⟩
  · obtain ⟨h, e⟩ := c i hi
    exact ⟨h, by rw [hh i hi]; exact e⟩
theorem Tu_flow {S : SS} {n m t : Nat} {b : Int32} (hw : Wf S n m t) (h : Tu S t) : Tu (flowF S n m b) t := by
  have h8 := hw.2.2.2.1.2
  have hm := hw.2.2.2.2.1
  exact h.of (flowF_st h8 (still_lo (by omega)) (fun f _ => by omega)) (flowF_st h8 (still_lo (by omega)) (fun f _ => by omega)) (fun i _ => flowF_hi h8 hm (by omega))
theorem Tu_setO {S : SS} {t : Nat} {x : Int32} {i : Nat} (hi : i ≤ 8) (h : Tu S t) : Tu (setO S x i) t :=
  h.of (setO_o i (fun g _ _ => by omega)) (setO_o i (fun g _ _ => by omega)) (fun j _ => setO_o i (fun g _ _ => by omega))
theorem mod_on : ∀ t, t ≤ 8 → ∀ on, on < t → (nI on + 1) - (nI on + 1) / nI t * nI t = nI (if on + 1 < t then on + 1 else 0) := by decide +kernel
def r1a (S : SS) (n : Nat) : SS := if S 2 ≤ 0 then S else if S 4 = 0 then setO S (S (152 + 2 * ix (S 3))) n else S
def goF (S : SS) : SS := if S 2 ≤ 0 then S else if S 4 + 1 = S (153 + 2 * ix (S 3)) then upd (upd (upd S 4 (S 4 + 1)) 3 (nI (if ix (S 3) + 1 < ix (S 2) then ix (S 3) + 1 else 0))) 4 0 else upd S 4 (S 4 + 1)
def r1F (S : SS) (n m : Nat) (b : Int32) : SS × Int32 := (goF (flowF (r1a S n) n m b), flowF (r1a S n) n m b 7 - r1a S n 7)
theorem Wf_r1a {S : SS} {n m t : Nat} (hw : Wf S n m t) : Wf (r1a S n) n m t := by
  unfold r1a
  split
  · exact hw
  · split
    · exact Wf_setO hw hw.2.2.2.1.2
    · exact hw
theorem Tu_r1a {S : SS} {n m t : Nat} (hw : Wf S n m t) (h : Tu S t) : Tu (r1a S n) t := by
  unfold r1a
  split
  · exact h
  · split
    · exact Tu_setO hw.2.2.2.1.2 h
    · exact h
theorem goF_o {S : SS} {k : Nat} (h3 : k ≠ 3) (h4 : k ≠ 4) : goF S k = S k := by
  unfold goF
  split
  · rfl
  · split
    · rw [upd_o h4, upd_o h3, upd_o h4]
    · rw [upd_o h4]
theorem Wf_goF {S : SS} {n m t : Nat} (hw : Wf S n m t) : Wf (goF S) n m t :=
  hw.of (goF_o (by omega) (by omega)) (goF_o (by omega) (by omega)) (goF_o (by omega) (by omega)) (fun c hc => goF_o (by omega) (by omega)) (fun f hf => goF_o (by omega) (by omega))
theorem Tu_goF {S : SS} {n m t : Nat} (hw : Wf S n m t) (h : Tu S t) : Tu (goF S) t := by
  obtain ⟨a, b, c⟩ := h
  have w2 := hw.2.2.1
  have w6 := hw.2.2.2.2.2.1
  unfold goF
  by_cases h0 : t = 0
  · rw [if_pos (by rw [w2, h0]; decide)]
    exact ⟨a, b, c⟩
  · have hp : ¬ S 2 ≤ 0 := by rw [w2]; exact nI_ge (show 0 < t by omega) (by omega)
    rw [if_neg hp]
    obtain ⟨on, gone, h, d1, d2, d3, d4, d5, d6⟩ := b (by omega)
    rw [d2, ixn (by omega), d3, d4, w2, ixn (by omega), nI_1]
    by_cases he : gone + 1 = h
    · rw [if_pos (by rw [he])]
      refine ⟨fun e => absurd e h0, fun _ => ?_, fun i hi => ?_⟩
      · have hon : (if on + 1 < t then on + 1 else 0) < t := by split <;> omega
        obtain ⟨h', g1, g2, g3⟩ := c _ hon
        exact ⟨_, 0, h', hon, by rw [upd_o (by omega), upd_s], by rw [upd_s]; rfl, by rw [upd_o (by omega), upd_o (by omega), upd_o (by omega), g1], by omega, g3⟩
      · rw [upd_o (by omega), upd_o (by omega), upd_o (by omega)]
        exact c i hi
    · rw [if_neg (by intro z; exact he (nI_inj (by omega) (by omega) z))]
      refine ⟨fun e => absurd e h0, fun _ => ⟨on, gone + 1, h, d1, by rw [upd_o (by omega), d2], by rw [upd_s], by rw [upd_o (by omega), d4], by omega, d6⟩, fun i hi => ?_⟩
      rw [upd_o (by omega)]
      exact c i hi
theorem Wf_r1 {S : SS} {n m t : Nat} {b : Int32} (hw : Wf S n m t) : Wf (r1F S n m b).1 n m t := Wf_goF (Wf_flow (Wf_r1a hw))
theorem Tu_r1 {S : SS} {n m t : Nat} {b : Int32} (hw : Wf S n m t) (h : Tu S t) : Tu (r1F S n m b).1 t := Tu_goF (Wf_flow (Wf_r1a hw)) (Tu_flow (Wf_r1a hw) (Tu_r1a hw h))
theorem ix_tu {i : Nat} (hi : i < 8) : ix ((152 : Int32) + ((2 : Int32) * nI i)) = 152 + 2 * i ∧ vp_in ((152 : Int32) + ((2 : Int32) * nI i)) 168 ∧ ix (((152 : Int32) + ((2 : Int32) * nI i)) + 1) = 153 + 2 * i ∧ vp_in (((152 : Int32) + ((2 : Int32) * nI i)) + 1) 168 := by
  have e : (152 : Int32) + ((2 : Int32) * nI i) = nI (152 + 2 * i) := by
    show nI 152 + nI 2 * nI i = _
    rw [nI_mul, nI_add]
  have e1 : nI (152 + 2 * i) + 1 = nI (153 + 2 * i) := by rw [nI_1]; congr 1; omega
  rw [e, e1]
  exact ⟨ixn (by omega), vp_in_nI (by omega) (by omega), ixn (by omega), vp_in_nI (by omega) (by omega)⟩
def rsF (S : SS) (n m : Nat) (b : Int32) : Nat → SS × Int32
  | 0 => (S, 0)
  | k + 1 => ((r1F (rsF S n m b k).1 n m b).1, (rsF S n m b k).2 + (r1F (rsF S n m b k).1 n m b).2)
theorem rs_inv {S : SS} {n m t : Nat} {b : Int32} (hw : Wf S n m t) (ht : Tu S t) : ∀ k, Wf (rsF S n m b k).1 n m t ∧ Tu (rsF S n m b k).1 t := by
  intro k
  induction k with
  | zero => exact ⟨hw, ht⟩
  | succ k ih => exact ⟨Wf_r1 ih.1, Tu_r1 ih.1 ih.2⟩
def goesF (S : SS) (n m : Nat) (b : Int32) : SS × Int32 := if inr 0 1000 b = true then (if S 5 = 20000 then (S, -1000003) else (flowF S n m b, flowF S n m b 7 - S 7)) else (S, -1000001)
def runsF (S : SS) (n m most : Nat) (x b : Int32) : SS × Int32 := if inr 1 (most + 1) x = true ∧ inr 0 1000 b = true then (if S 5 + x ≤ 20000 then rsF S n m b (ix x) else (S, -1000003)) else (S, -1000001)
/-- what an acting call of the reference leaves -/
def Act (M M' : Mm) (s : Nat) (S' : SS) (r : Int32) : Prop :=
  (∀ a, a ≠ 143 → a ≠ 144 → a ≠ 145 → a ≠ 146 → M' a = M a) ∧ M' 144 = S' ∧ (r ≤ -1000001 → M' 143 = M 143 ∧ M' 145 = M 145) ∧
  (¬ r ≤ -1000001 → M' 143 = upd (M 143) 4 (nI (min s 3 + 1)) ∧ ∃ B : SS, (∀ j, j < 168 → B j = M 144 j) ∧ M' 145 = hi1 (M 145) B s)
theorem Act_none {M : Mm} {s : Nat} {r : Int32} (h : r ≤ -1000001) : Act M M s (M 144) r :=
  ⟨fun _ _ _ _ _ => rfl, rfl, fun _ => ⟨rfl, rfl⟩, fun z => absurd h z⟩
theorem mcpo {M : Mm} {js jd n a : Nat} (h : a ≠ jd) : mcp M js jd n a = M a := by simp [mcp, h]
theorem mcps {M : Mm} {js jd n i : Nat} (h : i < n) : mcp M js jd n jd i = M js i := by simp [mcp, h]
