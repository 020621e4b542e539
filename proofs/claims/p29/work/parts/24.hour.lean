/-! the reference: parts, flows -/
theorem bl_congr {S S' : SS} {o : Bool} {top : Nat} (h4 : ∀ c, ca S' c 4 = ca S c 4) (h0 : ∀ c, pa S' c = pa S c) : ∀ k c, bl S' o top k c = bl S o top k c := by
  intro k
  induction k with
  | zero => intro c; rfl
  | succ k ih => intro c; unfold bl; rw [h4, h0, ih]
theorem iwF_congr {S S' : SS} {c : Nat} (h4 : ∀ c, ca S' c 4 = ca S c 4) (h0 : ∀ c, pa S' c = pa S c) (hf : ∀ f w, w < 7 → fi S' f w = fi S f w) : ∀ i, iwF S' c i = iwF S c i := by
  intro i
  induction i with
  | zero => rfl
  | succ f ih =>
    unfold iwF wt at_ isB
    rw [ih, hf f 4 (by omega), hf f 1 (by omega), hf f 0 (by omega), bl_congr h4 h0]
def SA (S S' : SS) : Prop := ∀ k, ((∀ g, k ≠ 10 + 9 * g + 6) ∨ 82 ≤ k) → S' k = S k
theorem SA_ca {S S' : SS} (h : SA S S') {c w : Nat} (hw : w < 9) (hw6 : w ≠ 6) : ca S' c w = ca S c w := h _ (Or.inl (fun g => by omega))
theorem SA_fi {S S' : SS} (h : SA S S') (f w : Nat) : fi S' f w = fi S f w := h _ (Or.inr (by omega))
theorem SA_ltF {S S' : SS} (h : SA S S') {m c g : Nat} : ltF S' m c g = ltF S m c g := by
  have h4 : ∀ c, ca S' c 4 = ca S c 4 := fun c => SA_ca h (by omega) (by omega)
  have h0 : ∀ c, pa S' c = pa S c := fun c => by unfold pa; rw [SA_ca h (by omega) (by omega)]
  unfold ltF
  rw [h4, h0, SA_ca h (w := 1) (by omega) (by omega), iwF_congr h4 h0 (fun f w _ => SA_fi h f w)]
theorem SA_Wf {S S' : SS} {n m t : Nat} (h : SA S S') (hw : Wf S n m t) : Wf S' n m t :=
  hw.of (h 0 (Or.inl (fun g => by omega))) (h 1 (Or.inl (fun g => by omega))) (h 2 (Or.inl (fun g => by omega))) (fun c _ => SA_ca h (by omega) (by omega)) (fun f _ => SA_fi h f 0)
def mn (S : SS) (m c : Nat) : Nat → Nat
  | 0 => 0
  | g + 1 => mn S m c g + (if c < g ∧ ltF S m c g = true then 1 else 0)
theorem mn_le {S : SS} {m c : Nat} : ∀ i, mn S m c i ≤ i := by
  intro i
  induction i with
  | zero => exact Nat.le_refl 0
  | succ g ih => unfold mn; split <;> omega
theorem mn_init {S : SS} {m c : Nat} : ∀ i, i ≤ c + 1 → mn S m c i = 0 := by
  intro i
  induction i with
  | zero => intro _; rfl
  | succ g ih => intro h; unfold mn; rw [ih (by omega), if_neg (by omega)]
theorem mn_mono {S : SS} {m c : Nat} : ∀ i j, i ≤ j → mn S m c i ≤ mn S m c j := by
  intro i j
  induction j with
  | zero => intro h; rw [show i = 0 by omega]; exact Nat.le_refl _
  | succ j ih =>
    intro h
    by_cases he : i = j + 1
    · subst he; exact Nat.le_refl _
    · have := ih (by omega)
      conv => rhs; unfold mn
      omega
theorem mn_pos {S : SS} {m c g n : Nat} (hc : c < g) (hl : ltF S m c g = true) (hg : g < n) : 0 < mn S m c n := by
  have h1 := mn_mono (S := S) (m := m) (c := c) (g + 1) n hg
  have h2 : mn S m c (g + 1) = mn S m c g + 1 := by
    conv => lhs; unfold mn
    rw [if_pos ⟨hc, hl⟩]
  omega
def ptq (q more : Int32) : Int32 := if more ≤ 0 then q + 0 else q + 1
def mdec (more : Int32) : Int32 := if more ≤ 0 then more - 0 else more - 1
def thr (S : SS) (g : Nat) (p : Int32) : Int32 := if (if ca S g 1 = 1 then (p + 1) / 2 else p) ≤ ca S g 2 then (if ca S g 1 = 1 then (p + 1) / 2 else p) else ca S g 2
def pr (S0 : SS) (m c : Nat) (q : Int32) (init : SS × Int32 × Int32) : Nat → SS × Int32 × Int32
  | 0 => init
  | g + 1 => if c < g ∧ ltF S0 m c g = true then (upd (pr S0 m c q init g).1 (10 + 9 * g + 6) (thr S0 g (ptq q (pr S0 m c q init g).2.2)), (pr S0 m c q init g).2.1 - thr S0 g (ptq q (pr S0 m c q init g).2.2), mdec (pr S0 m c q init g).2.2) else pr S0 m c q init g
theorem pr_init {S0 : SS} {m c : Nat} {q : Int32} {init : SS × Int32 × Int32} : ∀ i, i ≤ c + 1 → pr S0 m c q init i = init := by
  intro i
  induction i with
  | zero => intro _; rfl
  | succ g ih => intro h; unfold pr; rw [if_neg (by omega)]; exact ih (by omega)
theorem pr_SA {S0 : SS} {m c : Nat} {q a b : Int32} : ∀ i, i ≤ 8 → SA S0 (pr S0 m c q (S0, a, b) i).1 := by
  intro i
  induction i with
  | zero => intro _ k _; rfl
  | succ g ih =>
    intro h k hk
    unfold pr
    split
    · show upd _ _ _ k = _
      rw [upd_o (by rcases hk with e | e; exact e g; omega)]
      exact ih (by omega) k hk
    · exact ih (by omega) k hk
def more0 (water : Int32) (k : Nat) : Int32 := if k = 0 then 0 else water - water / nI k * nI k
def partF (S : SS) (m n c : Nat) (water : Int32) : SS × Int32 := ((pr S m c (water / nI (mn S m c n)) (S, water, more0 water (mn S m c n)) n).1, (pr S m c (water / nI (mn S m c n)) (S, water, more0 water (mn S m c n)) n).2.1)
def hCa (S : SS) (c : Nat) : SS := upd S (10 + 9 * c + 7) (S (10 + 9 * c + 7) + (ca S c 6 * ca S c 3 + 999) / 1000)
def hCb (S : SS) (c : Nat) : SS := upd (hCa S c) 8 (hCa S c 8 + (ca S c 6 * ca S c 3 + 999) / 1000)
def hCc (S : SS) (m c : Nat) : SS × Int32 := serveF (hCb S c) m c (ca S c 6 - (ca S c 6 * ca S c 3 + 999) / 1000)
def hCd (S : SS) (m n c : Nat) : SS × Int32 := partF (hCc S m c).1 m n c (hCc S m c).2
def hCe (S : SS) (m n c : Nat) : SS := upd (hCd S m n c).1 (10 + 9 * c + 8) ((hCd S m n c).1 (10 + 9 * c + 8) + (hCd S m n c).2)
def hC (S : SS) (m n c : Nat) : SS := upd (hCe S m n c) 9 (hCe S m n c 9 + (hCd S m n c).2)
def hL (S : SS) (m n : Nat) : Nat → SS
  | 0 => S
  | c + 1 => hC (hL S m n c) m n c
def eC (S : SS) : Nat → SS
  | 0 => S
  | f + 1 => upd (eC S f) (82 + 7 * f + 5) (if wt (eC S f) f = true then fi (eC S f) f 5 else 0)
def zC (S : SS) : Nat → SS
  | 0 => S
  | c + 1 => upd (zC S c) (10 + 9 * c + 6) 0
def f1 (S : SS) (n : Nat) : SS := zC (upd S 5 (S 5 + 1)) n
def fB (S : SS) (b : Int32) : Int32 := if b ≤ ca S 0 2 then b else ca S 0 2
def f2 (S : SS) (n : Nat) (b : Int32) : SS := upd (f1 S n) 16 (fB (f1 S n) b)
def f3 (S : SS) (n : Nat) (b : Int32) : SS := upd (f2 S n b) 6 (f2 S n b 6 + fB (f1 S n) b)
def flowF (S : SS) (n m : Nat) (b : Int32) : SS := eC (hL (f3 S n b) m n n) m
theorem srv_o : ∀ (l : List Nat) (S : SS) (left : Int32) (k : Nat), (∀ f, k ≠ 82 + 7 * f + 4) → (∀ f, k ≠ 82 + 7 * f + 6) → (srv l S left).1 k = S k := by
  intro l
  induction l with
  | nil => intro S left k _ _; rfl
  | cons f l ih =>
    intro S left k h4 h6
    show (srv l (sg S f (gv S f left)) (left - gv S f left)).1 k = S k
    rw [ih _ _ k h4 h6, sg_o (h4 f) (h6 f)]
theorem serveF_o {S : SS} {m c : Nat} {w : Int32} {k : Nat} (h4 : ∀ f, k ≠ 82 + 7 * f + 4) (h6 : ∀ f, k ≠ 82 + 7 * f + 6) (h7 : k ≠ 7) : (serveF S m c w).1 k = S k := by
  show upd _ 7 _ k = _
  rw [upd_o h7, srv_o _ _ _ k h4 h6]
/-- slots that an hour's canals never write -/
def still (k : Nat) : Prop := (∀ f, k ≠ 82 + 7 * f + 4) ∧ (∀ f, k ≠ 82 + 7 * f + 6) ∧ (k < 5 ∨ 10 ≤ k) ∧ ((∀ g, k ≠ 10 + 9 * g + 6 ∧ k ≠ 10 + 9 * g + 7 ∧ k ≠ 10 + 9 * g + 8) ∨ 82 ≤ k)
theorem hCb_o {S : SS} {c k : Nat} (h7 : k ≠ 10 + 9 * c + 7) (h8 : k ≠ 8) : hCb S c k = S k := by
  unfold hCb hCa; rw [upd_o h8, upd_o h7]
theorem partF_SA {S : SS} {m n c : Nat} {w : Int32} (h8 : n ≤ 8) : SA S (partF S m n c w).1 := pr_SA n h8
theorem hC_o {S : SS} {m n c k : Nat} (h8 : n ≤ 8) (hc : c < 8) (hk : still k) : hC S m n c k = S k := by
  obtain ⟨k4, k6, k5, kg⟩ := hk
  have e7 : k ≠ 10 + 9 * c + 7 := by rcases kg with e | e; exact (e c).2.1; omega
  have e8 : k ≠ 10 + 9 * c + 8 := by rcases kg with e | e; exact (e c).2.2; omega
  unfold hC hCe hCd hCc
  rw [upd_o (by omega), upd_o e8, partF_SA h8 k (kg.imp (fun e g => (e g).1) id), serveF_o k4 k6 (by omega), hCb_o e7 (by omega)]
theorem hL_o {S : SS} {m n k : Nat} (h8 : n ≤ 8) (hk : still k) : ∀ i, i ≤ 8 → hL S m n i k = S k := by
  intro i
  induction i with
  | zero => intro _; rfl
  | succ c ih => intro h; unfold hL; rw [hC_o h8 (by omega) hk, ih (by omega)]
theorem Wf_still {S S' : SS} {n m t : Nat} (hw : Wf S n m t) (h : ∀ k, still k → S' k = S k) : Wf S' n m t :=
  hw.of (h 0 ⟨fun f => by omega, fun f => by omega, by omega, Or.inl fun g => by omega⟩) (h 1 ⟨fun f => by omega, fun f => by omega, by omega, Or.inl fun g => by omega⟩) (h 2 ⟨fun f => by omega, fun f => by omega, by omega, Or.inl fun g => by omega⟩) (fun c _ => h _ ⟨fun f => by omega, fun f => by omega, by omega, Or.inl fun g => by omega⟩) (fun f _ => h _ ⟨fun g => by omega, fun g => by omega, by omega, Or.inr (by omega)⟩)
theorem zC_o {S : SS} {k : Nat} : ∀ i, (∀ g, g < i → k ≠ 10 + 9 * g + 6) → zC S i k = S k := by
  intro i
  induction i with
  | zero => intro _; rfl
  | succ c ih => intro h; unfold zC; rw [upd_o (h c (by omega)), ih (fun g hg => h g (by omega))]
theorem eC_o {S : SS} {k : Nat} : ∀ i, (∀ f, f < i → k ≠ 82 + 7 * f + 5) → eC S i k = S k := by
  intro i
  induction i with
  | zero => intro _; rfl
  | succ c ih => intro h; unfold eC; rw [upd_o (h c (by omega)), ih (fun g hg => h g (by omega))]
theorem f3_o {S : SS} {n : Nat} {b : Int32} {k : Nat} (h5 : k ≠ 5) (h6 : k ≠ 6) (h16 : k ≠ 16) (hg : ∀ g, g < n → k ≠ 10 + 9 * g + 6) : f3 S n b k = S k := by
  unfold f3 f2 f1; rw [upd_o h6, upd_o h16, zC_o n hg, upd_o h5]
theorem still_f3 {S : SS} {n : Nat} {b : Int32} (h8 : n ≤ 8) {k : Nat} (hk : still k) : f3 S n b k = S k := by
  obtain ⟨k4, k6, k5, kg⟩ := hk
  refine f3_o (by omega) (by omega) ?_ ?_
  · rcases kg with e | e
    · have := (e 0).1; omega
    · omega
  · intro g hg
    rcases kg with e | e
    · exact (e g).1
    · omega
