/-! the reference: below, may take, is wanted, lets through -/
def bl (S : SS) (o : Bool) (top : Nat) : Nat → Nat → Bool
  | 0, _ => false
  | n + 1, c => decide (top < c) && (!o || decide (ca S c 4 = 1)) && (decide (pa S c = top) || bl S o top n (pa S c))
def isB (S : SS) (o : Bool) (top c : Nat) : Bool := bl S o top 8 c
theorem bl_0 (S : SS) (o : Bool) (top n : Nat) : bl S o top n 0 = false := by
  cases n <;> simp [bl]
theorem bl_fuel {S : SS} {o : Bool} {top n : Nat} (hp : ∀ c, 1 ≤ c → c < n → pa S c < c) : ∀ k k' c, c < n → c ≤ k → c ≤ k' → bl S o top k c = bl S o top k' c := by
  intro k
  induction k with
  | zero => intro k' c hc h1 h2; rw [show c = 0 by omega, bl_0, bl_0]
  | succ k ih =>
    intro k' c hc h1 h2
    by_cases h0 : c = 0
    · rw [h0, bl_0, bl_0]
    · cases k' with
      | zero => omega
      | succ k' =>
        have hlt := hp c (by omega) hc
        unfold bl
        rw [ih k' (pa S c) (by omega) (by omega) (by omega)]
theorem isB_eq {S : SS} {o : Bool} {top n c : Nat} (hp : ∀ c, 1 ≤ c → c < n → pa S c < c) (hc : c < n) (h8 : n ≤ 8) : isB S o top c = (decide (top < c) && (!o || decide (ca S c 4 = 1)) && (decide (pa S c = top) || isB S o top (pa S c))) := by
  by_cases h0 : c = 0
  · subst h0
    unfold isB
    rw [bl_0]; simp
  · have hlt := hp c (by omega) hc
    unfold isB
    conv => lhs; unfold bl
    rw [bl_fuel hp 7 8 (pa S c) (by omega) (by omega) (by omega)]
def mtF (S : SS) (f : Nat) : Nat → Bool
  | 0 => true
  | k + 1 => mtF S f k && !(decide (fi S k 5 = 1) && decide (fi S k 3 < fi S f 3) && isB S true (at_ S f) (at_ S k))
def iwF (S : SS) (c : Nat) : Nat → Bool
  | 0 => false
  | f + 1 => iwF S c f || (wt S f && (decide (at_ S f = c) || isB S false c (at_ S f)))
def ltF (S : SS) (m c g : Nat) : Bool := decide (pa S g = c) && decide (ca S g 4 = 1) && (!decide (ca S g 1 = 2) || iwF S g m)
