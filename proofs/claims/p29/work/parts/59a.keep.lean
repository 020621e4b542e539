/-! what every state keeps, through hours and runs -/
theorem tdF_cg {S S' : SS} {x : Int32} : ∀ i, (∀ c, c < i → ca S' c 5 = ca S c 5) → tdF S' x i = tdF S x i := by
  intro i
  induction i with
  | zero => intro _; rfl
  | succ g ih =>
    intro h
    unfold tdF
    rw [h g (by omega), ih (fun c hc => h c (by omega))]
def VKC (S : SS) (n : Nat) : Prop := VK S n ∧ ∀ k, k < 3 → tdF S (nI k) n ≤ 2
theorem VKC_of {S S' : SS} {n : Nat} (h : VKC S n) (h1 : 1 ≤ n) (hc : ∀ c, c < n → ca S' c 5 = ca S c 5) : VKC S' n := by
  obtain ⟨⟨a, b⟩, c⟩ := h
  refine ⟨⟨by rw [hc 0 (by omega)]; exact a, fun k hk => by rw [hc k hk]; exact b k hk⟩, fun k hk => by rw [tdF_cg n hc]; exact c k hk⟩
/-- all that holds of every state -/
def VV (S : SS) (n m tt : Nat) : Prop := V0 S n m tt ∧ VKC S n ∧ VA S
theorem VA_of {S S' : SS} (h : VA S) (h2 : ca S' 0 2 = ca S 0 2) (hk : ∀ k, 5 ≤ k → k < 10 → S' k = S k) : VA S' := by
  obtain ⟨a, hr, b, c, d, e, f, g, x⟩ := h
  exact ⟨by rw [h2]; exact a, hr, by rw [hk 5 (by omega) (by omega)]; exact b, c, by rw [hk 7 (by omega) (by omega)]; exact d, by rw [hk 8 (by omega) (by omega)]; exact e, by rw [hk 9 (by omega) (by omega)]; exact f, by rw [hk 6 (by omega) (by omega), hk 7 (by omega) (by omega), hk 8 (by omega) (by omega), hk 9 (by omega) (by omega)]; exact g, by rw [hk 6 (by omega) (by omega)]; exact x⟩
theorem VV_flow {S : SS} {n m tt hr : Nat} {b : Int32} (h : VV S n m tt) (hb : 0 ≤ b.toInt) (hh : S 5 = nI hr) (hlt : hr < 20000) : VV (flowF S n m b) n m tt ∧ flowF S n m b 5 = nI (hr + 1) ∧ (S 7).toInt ≤ (flowF S n m b 7).toInt ∧ 0 ≤ (S 7).toInt ∧ (flowF S n m b 7).toInt ≤ 4000000 := by
  obtain ⟨h1, h2, h3⟩ := h
  have h8 := h1.1.2.2.2.1.2
  have hn := h1.1.2.2.2.1.1
  obtain ⟨a, c, d, e, f⟩ := flow_acc h1.2.2.1 h1.2.2.2.1 h8 hn hb h3 hh hlt
  exact ⟨⟨V0_flow h1 hb, VKC_of h2 hn (fun c hc => flowF_st h8 (still_ca (c := c) (w := 5) (by omega) (by omega)) (fun f _ => by omega)), a⟩, c, d, e, f⟩
theorem VV_open {S : SS} {n m tt : Nat} {x : Int32} (h : VV S n m tt) : VV (setO S x n) n m tt := by
  obtain ⟨h1, h2, h3⟩ := h
  have hn := h1.1.2.2.2.1.1
  exact ⟨V0_open h1, VKC_of h2 hn (fun c hc => setO_o n (fun g _ _ => by omega)), VA_of h3 (setO_o n (fun g _ _ => by omega)) (fun k k1 k2 => setO_o n (fun g _ _ => by omega))⟩
theorem VV_go {S : SS} {n m tt : Nat} (h : VV S n m tt) : VV (goF S) n m tt := by
  obtain ⟨h1, h2, h3⟩ := h
  have hn := h1.1.2.2.2.1.1
  exact ⟨V0_go h1, VKC_of h2 hn (fun c hc => goF_o (by omega) (by omega)), VA_of h3 (goF_o (by omega) (by omega)) (fun k k1 k2 => goF_o (by omega) (by omega))⟩
theorem VV_r1a {S : SS} {n m tt : Nat} (h : VV S n m tt) : VV (r1a S n) n m tt := by
  unfold r1a
  split
  · exact h
  · split
    · exact VV_open h
    · exact h
theorem r1a_k {S : SS} {n k : Nat} (hk : k < 10) : r1a S n k = S k := by
  unfold r1a
  split
  · rfl
  · split
    · exact setO_o n (fun g _ _ => by omega)
    · rfl
theorem VV_r1 {S : SS} {n m tt hr : Nat} {b : Int32} (h : VV S n m tt) (hb : 0 ≤ b.toInt) (hh : S 5 = nI hr) (hlt : hr < 20000) : VV (r1F S n m b).1 n m tt ∧ (r1F S n m b).1 5 = nI (hr + 1) ∧ (S 7).toInt ≤ ((r1F S n m b).1 7).toInt ∧ 0 ≤ (S 7).toInt ∧ ((r1F S n m b).1 7).toInt ≤ 4000000 := by
  obtain ⟨a, c, d, e, f⟩ := VV_flow (VV_r1a h) hb (by rw [r1a_k (by omega)]; exact hh) hlt
  rw [r1a_k (by omega)] at d e
  refine ⟨VV_go a, ?_, ?_, e, ?_⟩
  · show goF _ 5 = _
    rw [goF_o (by omega) (by omega), c]
  · show _ ≤ (goF _ 7).toInt
    rw [goF_o (by omega) (by omega)]; exact d
  · show (goF _ 7).toInt ≤ _
    rw [goF_o (by omega) (by omega)]; exact f
theorem VV_rs {S : SS} {n m tt hr : Nat} {b : Int32} (h : VV S n m tt) (hb : 0 ≤ b.toInt) (hh : S 5 = nI hr) : ∀ k, hr + k ≤ 20000 → VV (rsF S n m b k).1 n m tt ∧ (rsF S n m b k).1 5 = nI (hr + k) ∧ (S 7).toInt ≤ ((rsF S n m b k).1 7).toInt ∧ 0 ≤ (S 7).toInt ∧ ((rsF S n m b k).1 7).toInt ≤ 4000000 := by
  obtain ⟨-, hr', x1, x2, x3, x4, x5, x6, x7⟩ := h.2.2
  intro k
  induction k with
  | zero => intro _; exact ⟨h, hh, Int.le_refl _, x3, by show (S 7).toInt ≤ 4000000; omega⟩
  | succ k ih =>
    intro hk
    obtain ⟨a, c, d, e, f⟩ := ih (by omega)
    obtain ⟨a', c', d', e', f'⟩ := VV_r1 a hb c (by omega)
    exact ⟨a', by rw [show hr + (k + 1) = hr + k + 1 by omega]; exact c', by show _ ≤ ((r1F (rsF S n m b k).1 n m b).1 7).toInt; omega, e, f'⟩
theorem diff_nn {a b : Int32} (h1 : 0 ≤ b.toInt) (h2 : b.toInt ≤ a.toInt) (h3 : a.toInt ≤ 4000000) : (a - b).toInt = a.toInt - b.toInt ∧ ¬ a - b ≤ -1000001 := by
  have e : (a - b).toInt = a.toInt - b.toInt := i_sub (by omega) (by omega)
  refine ⟨e, fun z => ?_⟩
  have := i_le.mp z
  have e1 : (-1000001 : Int32).toInt = -1000001 := by decide
  omega
theorem hour_nn {S : SS} {n m tt hr : Nat} {b : Int32} (h : VV S n m tt) (hb : 0 ≤ b.toInt) (hh : S 5 = nI hr) (hlt : hr < 20000) : ¬ flowF S n m b 7 - S 7 ≤ -1000001 := by
  obtain ⟨-, -, d, e, f⟩ := VV_flow h hb hh hlt
  exact (diff_nn e d f).2
theorem run_nn {S : SS} {n m tt hr k : Nat} {b : Int32} (h : VV S n m tt) (hb : 0 ≤ b.toInt) (hh : S 5 = nI hr) (hk : hr + k ≤ 20000) : ¬ (rsF S n m b k).2 ≤ -1000001 := by
  obtain ⟨-, -, d, e, f⟩ := VV_rs h hb hh k hk
  rw [rs_sum h.1.1 h.1.2.1]
  exact (diff_nn e d f).2
