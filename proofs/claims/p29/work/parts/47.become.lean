/-! the class: a terrace becomes another -/
def Cp (M0 M : Mm) (a b : Nat) (L : Nat → Nat → Prop) : Prop := (∀ k j, L k j → M (a + k) j = M0 (b + k) j) ∧ ∀ r, (r < a ∨ a + 23 ≤ r) → M r = M0 r
def Rb (k j : Nat) : Prop := (k = 1 ∧ j < 2) ∨ (2 ≤ k ∧ k ≤ 9 ∧ j < 8) ∨ (k = 10 ∧ j < 2) ∨ (11 ≤ k ∧ k ≤ 17 ∧ j < 10) ∨ (k = 18 ∧ j < 3) ∨ (19 ≤ k ∧ k ≤ 20 ∧ j < 8)
def Cr (M0 M : Mm) (a b i : Nat) : Prop := Cp M0 M a b (fun k j => 1 ≤ k ∧ k < i ∧ Rb k j)
theorem cr_mcp {M0 M M' : Mm} {a b i : Nat} (hd : a + 23 ≤ b ∨ b + 23 ≤ a) (h : Cr M0 M a b i) (N : Nat) (hi : i < 23) (hN : ∀ j, Rb i j → j < N) (e : M' = mcp M (b + i) (a + i) N) : Cr M0 M' a b (i + 1) := by
  obtain ⟨h1, h2⟩ := h
  have hb : M (b + i) = M0 (b + i) := h2 _ (by omega)
  subst e
  refine ⟨fun k j ⟨k1, k2, k3⟩ => ?_, fun r hr => ?_⟩
  · by_cases e : k = i
    · subst e
      rw [mcps (hN j k3), hb]
    · rw [mcpo (by omega)]
      exact h1 k j ⟨k1, by omega, k3⟩
  · rw [mcpo (by omega)]
    exact h2 r hr
theorem cr_mu2 {M0 M M1 M2 : Mm} {a b i : Nat} (hd : a + 23 ≤ b ∨ b + 23 ≤ a) (h : Cr M0 M a b i) (hi : i < 23) (hN : ∀ j, Rb i j → j < 2) (e1 : M1 = mu M (a + i) 0 (M (b + i) 0)) (e2 : M2 = mu M1 (a + i) 1 (M1 (b + i) 1)) : Cr M0 M2 a b (i + 1) := by
  obtain ⟨h1, h2⟩ := h
  have hb : M (b + i) = M0 (b + i) := h2 _ (by omega)
  have hb1 : M1 (b + i) = M0 (b + i) := by rw [e1, mu_row (by omega), hb]
  refine ⟨fun k j ⟨k1, k2, k3⟩ => ?_, fun r hr => ?_⟩
  · by_cases e : k = i
    · subst e
      have hj := hN j k3
      by_cases j1 : j = 1
      · subst j1; rw [e2, mu_at, hb1]
      · have j0 : j = 0 := by omega
        subst j0
        rw [e2, mu_el (by omega), e1, mu_at, hb]
    · rw [e2, mu_row (by omega), e1, mu_row (by omega)]
      exact h1 k j ⟨k1, by omega, k3⟩
  · rw [e2, mu_row (by omega), e1, mu_row (by omega)]
    exact h2 r hr
theorem cr_mu3 {M0 M M1 M2 M3 : Mm} {a b i : Nat} (hd : a + 23 ≤ b ∨ b + 23 ≤ a) (h : Cr M0 M a b i) (hi : i < 23) (hN : ∀ j, Rb i j → j < 3) (e1 : M1 = mu M (a + i) 0 (M (b + i) 0)) (e2 : M2 = mu M1 (a + i) 1 (M1 (b + i) 1)) (e3 : M3 = mu M2 (a + i) 2 (M2 (b + i) 2)) : Cr M0 M3 a b (i + 1) := by
  obtain ⟨h1, h2⟩ := h
  have hb : M (b + i) = M0 (b + i) := h2 _ (by omega)
  have hb1 : M1 (b + i) = M0 (b + i) := by rw [e1, mu_row (by omega), hb]
  have hb2 : M2 (b + i) = M0 (b + i) := by rw [e2, mu_row (by omega), hb1]
  refine ⟨fun k j ⟨k1, k2, k3⟩ => ?_, fun r hr => ?_⟩
  · by_cases e : k = i
    · subst e
      have hj := hN j k3
      by_cases j2 : j = 2
      · subst j2; rw [e3, mu_at, hb2]
      · by_cases j1 : j = 1
        · subst j1; rw [e3, mu_el (by omega), e2, mu_at, hb1]
        · have j0 : j = 0 := by omega
          subst j0
          rw [e3, mu_el (by omega), e2, mu_el (by omega), e1, mu_at, hb]
    · rw [e3, mu_row (by omega), e2, mu_row (by omega), e1, mu_row (by omega)]
      exact h1 k j ⟨k1, by omega, k3⟩
  · rw [e3, mu_row (by omega), e2, mu_row (by omega), e1, mu_row (by omega)]
    exact h2 r hr
theorem sp4_becomeC {Post : Mm → Prop} {M : Mm} {a b : Nat} (hd : a + 23 ≤ b ∨ b + 23 ≤ a)
    (hP : ∀ M', (∀ k j, Rb k j → M' (a + k) j = M (b + k) j) → (∀ j, 3 ≤ j → j ≤ 7 → M' a j = M b j) → Fro M M' a → Post M') : wX4_become Post M a b := by
  have c0 : Cr M M a b 1 := ⟨fun k j z => absurd z.2.1 (by omega), fun _ _ => rfl⟩
  unfold wX4_become wX0_become
  intro A1 e1 A2 e2
  have c1 := cr_mu2 hd c0 (by omega) (fun j h => by unfold Rb at h; omega) e1 e2
  clear c0 e1 e2
  intro A3 e3
  have c2 := cr_mcp hd c1 8 (by omega) (fun j h => by unfold Rb at h; omega) e3
  clear c1 e3
  intro A4 e3
  have c1 := cr_mcp hd c2 8 (by omega) (fun j h => by unfold Rb at h; omega) e3
  clear c2 e3
  intro A5 e3
  have c2 := cr_mcp hd c1 8 (by omega) (fun j h => by unfold Rb at h; omega) e3
  clear c1 e3
  intro A6 e3
  have c1 := cr_mcp hd c2 8 (by omega) (fun j h => by unfold Rb at h; omega) e3
  clear c2 e3
  intro A7 e3
  have c2 := cr_mcp hd c1 8 (by omega) (fun j h => by unfold Rb at h; omega) e3
  clear c1 e3
  intro A8 e3
  have c1 := cr_mcp hd c2 8 (by omega) (fun j h => by unfold Rb at h; omega) e3
  clear c2 e3
  intro A9 e3
  have c2 := cr_mcp hd c1 8 (by omega) (fun j h => by unfold Rb at h; omega) e3
  clear c1 e3
  intro A10 e3
  have c1 := cr_mcp hd c2 8 (by omega) (fun j h => by unfold Rb at h; omega) e3
  clear c2 e3
  unfold wX1_become
  intro B1 e1 B2 e2
  have c2 := cr_mu2 hd c1 (by omega) (fun j h => by unfold Rb at h; omega) e1 e2
  clear c1 e1 e2
  intro B3 e3
  have c1 := cr_mcp hd c2 10 (by omega) (fun j h => by unfold Rb at h; omega) e3
  clear c2 e3
  intro B4 e3
  have c2 := cr_mcp hd c1 10 (by omega) (fun j h => by unfold Rb at h; omega) e3
  clear c1 e3
  intro B5 e3
  have c1 := cr_mcp hd c2 10 (by omega) (fun j h => by unfold Rb at h; omega) e3
  clear c2 e3
  intro B6 e3
  have c2 := cr_mcp hd c1 10 (by omega) (fun j h => by unfold Rb at h; omega) e3
  clear c1 e3
  intro B7 e3
  have c1 := cr_mcp hd c2 10 (by omega) (fun j h => by unfold Rb at h; omega) e3
  clear c2 e3
  intro B8 e3
  have c2 := cr_mcp hd c1 10 (by omega) (fun j h => by unfold Rb at h; omega) e3
  clear c1 e3
  intro B9 e3
  have c1 := cr_mcp hd c2 10 (by omega) (fun j h => by unfold Rb at h; omega) e3
  clear c2 e3
  unfold wX5_become
  intro C1 e1 C2 e2 C3 e3
  have c2 := cr_mu3 hd c1 (by omega) (fun j h => by unfold Rb at h; omega) e1 e2 e3
  clear c1 e1 e2 e3
  intro C4 e3
  have c1 := cr_mcp hd c2 8 (by omega) (fun j h => by unfold Rb at h; omega) e3
  clear c2 e3
  intro C5 e3
  have c2 := cr_mcp hd c1 8 (by omega) (fun j h => by unfold Rb at h; omega) e3
  clear c1 e3
  intro D1 g1 D2 g2 D3 g3 D4 g4 D5 g5
  obtain ⟨h1, h2⟩ := c2
  have hb : C5 b = M b := h2 _ (by omega)
  have o1 : ∀ r, r ≠ a → D1 r = C5 r := fun r hr => by rw [g1, mu_row hr]
  have o2 : ∀ r, r ≠ a → D2 r = C5 r := fun r hr => by rw [g2, mu_row hr, o1 r hr]
  have o3 : ∀ r, r ≠ a → D3 r = C5 r := fun r hr => by rw [g3, mu_row hr, o2 r hr]
  have o4 : ∀ r, r ≠ a → D4 r = C5 r := fun r hr => by rw [g4, mu_row hr, o3 r hr]
  have o5 : ∀ r, r ≠ a → D5 r = C5 r := fun r hr => by rw [g5, mu_row hr, o4 r hr]
  have b1 : D1 b = M b := by rw [o1 b (by omega), hb]
  have b2 : D2 b = M b := by rw [o2 b (by omega), hb]
  have b3 : D3 b = M b := by rw [o3 b (by omega), hb]
  have b4 : D4 b = M b := by rw [o4 b (by omega), hb]
  refine hP D5 (fun k j hk => ?_) (fun j j3 j7 => ?_) (fun r hr => ?_)
  · rw [o5 _ (by unfold Rb at hk; omega)]
    exact h1 k j ⟨by unfold Rb at hk; omega, by unfold Rb at hk; omega, hk⟩
  · have x1 : D1 a 3 = M b 3 := by rw [g1, mu_at, hb]
    have x2 : D2 a 4 = M b 4 := by rw [g2, mu_at, b1]
    have x3 : D3 a 5 = M b 5 := by rw [g3, mu_at, b2]
    have x4 : D4 a 6 = M b 6 := by rw [g4, mu_at, b3]
    have x5 : D5 a 7 = M b 7 := by rw [g5, mu_at, b4]
    have y2 : ∀ j, j ≠ 4 → D2 a j = D1 a j := fun j hj => by rw [g2, mu_el (by omega)]
    have y3 : ∀ j, j ≠ 5 → D3 a j = D2 a j := fun j hj => by rw [g3, mu_el (by omega)]
    have y4 : ∀ j, j ≠ 6 → D4 a j = D3 a j := fun j hj => by rw [g4, mu_el (by omega)]
    have y5 : ∀ j, j ≠ 7 → D5 a j = D4 a j := fun j hj => by rw [g5, mu_el (by omega)]
    have hj : j = 3 ∨ j = 4 ∨ j = 5 ∨ j = 6 ∨ j = 7 := by omega
    rcases hj with e | e | e | e | e
    · subst e; rw [y5 3 (by omega), y4 3 (by omega), y3 3 (by omega), y2 3 (by omega), x1]
    · subst e; rw [y5 4 (by omega), y4 4 (by omega), y3 4 (by omega), x2]
    · subst e; rw [y5 5 (by omega), y4 5 (by omega), x3]
    · subst e; rw [y5 6 (by omega), x4]
    · subst e; exact x5
  · rw [o5 r (by omega)]
    exact h2 r hr
theorem TR_cp {M0 M : Mm} {a b : Nat} {S : SS} {n m tt : Nat} (h1 : ∀ k j, Rb k j → M (a + k) j = M0 (b + k) j) (h0 : ∀ j, 3 ≤ j → j ≤ 7 → M a j = M0 b j) (h8 : n ≤ 8) (h10 : m ≤ 10) (ht : tt ≤ 8) (hT : TR M0 b S n m tt) : TR M a S n m tt := by
  obtain ⟨p, q, c, d, e, f, g, x, y⟩ := hT
  refine ⟨fun k j i hm => ?_, ?_, ?_, ?_, ?_, ?_, fun i hi => ?_, fun i i1 i2 => ?_, fun i i1 i2 => ?_⟩
  · by_cases hk : k = 0
    · subst hk
      have hj : 3 ≤ j ∧ j ≤ 7 := by unfold mp at hm; omega
      have := p 0 j i hm
      rw [Nat.add_zero] at this ⊢
      rw [h0 j hj.1 hj.2, this]
    · rw [h1 k j (by unfold Rb; unfold mp at hm; omega)]
      exact p k j i hm
  · rw [h1 1 0 (by unfold Rb; omega), q]
  · rw [h1 1 1 (by unfold Rb; omega), c]
  · rw [h1 10 0 (by unfold Rb; omega), d]
  · rw [h1 10 1 (by unfold Rb; omega), e]
  · rw [h1 18 0 (by unfold Rb; omega), f]
  · rw [h1 17 i (by unfold Rb; omega)]
    exact g i hi
  · rw [h1 6 i (by unfold Rb; omega), h1 7 i (by unfold Rb; omega), h1 8 i (by unfold Rb; omega), h1 9 i (by unfold Rb; omega)]
    exact x i i1 i2
  · rw [h1 15 i (by unfold Rb; omega), h1 16 i (by unfold Rb; omega)]
    exact y i i1 i2
theorem sp4_become {Post : Mm → Prop} {M : Mm} {a b : Nat} {S : SS} {n m tt : Nat} (hT : TR M b S n m tt) (h8 : n ≤ 8) (h10 : m ≤ 10) (ht : tt ≤ 8) (hd : a + 23 ≤ b ∨ b + 23 ≤ a)
    (hP : ∀ M', TR M' a S n m tt → Fro M M' a → Post M') : wX4_become Post M a b :=
  sp4_becomeC hd (fun M' h1 h0 hf => hP M' (TR_cp h1 h0 h8 h10 ht hT) hf)
