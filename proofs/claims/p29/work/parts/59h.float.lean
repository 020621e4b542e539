/-! floats: the nearest one to a ratio of two small whole numbers -/
theorem pw_cancel {a b k : Nat} : a * 2 ^ k ≤ b * 2 ^ k ↔ a ≤ b := Nat.mul_le_mul_right_iff (Nat.two_pow_pos k)
theorem least {p : Nat → Prop} : ∀ n, p n → ∃ k, k ≤ n ∧ p k ∧ ∀ j, j < k → ¬ p j := by
  intro n
  induction n using Nat.strongRecOn with
  | ind n ih =>
    intro h
    by_cases q : ∃ j, j < n ∧ p j
    · obtain ⟨j, hj, hp⟩ := q
      obtain ⟨k, k1, k2, k3⟩ := ih j hj hp
      exact ⟨k, by omega, k2, k3⟩
    · exact ⟨n, Nat.le_refl _, h, fun j hj z => q ⟨j, hj, z⟩⟩
/-- the significand of a share -/
def shc (P W s : Nat) : Nat := if 2 * (P * 2 ^ s % W) ≤ W then P * 2 ^ s / W else P * 2 ^ s / W + 1
theorem sh_rng {P W s : Nat} (hW : 0 < W) (h1 : W * 8388608 ≤ P * 2 ^ s) (h2 : P * 2 ^ s < W * 16777216) : 8388608 ≤ shc P W s ∧ shc P W s ≤ 16777216 := by
  have hfl : 8388608 ≤ P * 2 ^ s / W := (Nat.le_div_iff_mul_le hW).mpr (by rw [Nat.mul_comm]; exact h1)
  have hfu : P * 2 ^ s / W < 16777216 := (Nat.div_lt_iff_lt_mul hW).mpr (by rw [Nat.mul_comm 16777216]; exact h2)
  unfold shc
  split <;> omega
/-- the digits behind the point -/
theorem sh_s {P W : Nat} (h0 : 0 < P) (hPW : P ≤ W) (hW : W < 4194304) : ∃ s, 23 ≤ s ∧ s ≤ 45 ∧ W * 8388608 ≤ P * 2 ^ s ∧ P * 2 ^ s < W * 16777216 ∧ ∀ j, 23 ≤ j → j < s → P * 2 ^ j < W * 8388608 := by
  obtain ⟨k, k1, k2, k3⟩ := least (p := fun j => W * 8388608 ≤ P * 2 ^ (23 + j)) 22 (by show W * 8388608 ≤ P * 35184372088832; omega)
  refine ⟨23 + k, by omega, by omega, k2, ?_, fun j j1 j2 => ?_⟩
  · rcases Nat.eq_zero_or_pos k with z | z
    · subst z
      show P * 8388608 < _
      omega
    · obtain ⟨j, rfl⟩ : ∃ j, k = j + 1 := ⟨k - 1, by omega⟩
      have := k3 j (by omega)
      rw [show 23 + (j + 1) = 23 + j + 1 by omega, Nat.pow_succ, ← Nat.mul_assoc]
      omega
  · have := k3 (j - 23) (by omega)
    rw [show 23 + (j - 23) = j by omega] at this
    omega
