/-! the reference: what is asked -/
def ofB (p : Nat → Bool) : Nat → Int32
  | 0 => 0
  | k + 1 => if p k = true then ofB p k ||| ((1 : Int32) <<< (nI k &&& 31)) else ofB p k
theorem ofB_bt {p : Nat → Bool} : ∀ i, i ≤ 32 → ∀ k, k < 32 → bt (ofB p i) k = (decide (k < i) && p k) := by
  intro i
  induction i with
  | zero => intro _ k _; unfold ofB; rw [b_0]; simp
  | succ i ih =>
    intro hi k hk
    unfold ofB
    by_cases h : p i = true
    · rw [if_pos h, b_or, ih (by omega) k hk, bt_shl1 (by omega) hk]
      by_cases e : k = i
      · subst e; simp [h]
      · have : decide (k < i + 1) = decide (k < i) := decide_eq_decide.mpr (by omega)
        rw [this]; simp [e]
    · rw [if_neg h, ih (by omega) k hk]
      by_cases e : k = i
      · subst e; simp [h]
      · have : decide (k < i + 1) = decide (k < i) := decide_eq_decide.mpr (by omega)
        rw [this]
theorem ofB_of {p : Nat → Bool} {i : Nat} {x : Int32} (hi : i ≤ 32) (h : ∀ k, k < 32 → bt x k = (decide (k < i) && p k)) : x = ofB p i :=
  b_ext (fun k hk => by rw [h k hk, ofB_bt i hi k hk])
theorem ofB_succ {p : Nat → Bool} {i : Nat} : ofB p (i + 1) = if p i = true then ofB p i ||| ((1 : Int32) <<< (nI i &&& 31)) else ofB p i := rfl
theorem or_0 (x : Int32) : x ||| 0 = x := b_ext (fun k _ => by rw [b_or, b_0, Bool.or_false])
theorem isB_le {S : SS} {o : Bool} {top c n : Nat} (hp : ∀ c, 1 ≤ c → c < n → pa S c < c) (hc : c < n) (h8 : n ≤ 8) (h : c ≤ top) : isB S o top c = false := by
  rw [isB_eq hp hc h8, decide_eq_false (by omega)]; rfl
def cofF (S : SS) (n : Nat) (x y : Int32) : Int32 :=
  if inr 0 n x = true ∧ inr 0 10 y = true then
    (if y = 0 ∨ y = 1 ∨ y = 4 then (if ix x = 0 then -1000004 else ca S (ix x) (ix y))
     else if y = 5 then (if ix x ≠ 0 ∧ 0 ≤ ca S (ix x) 5 then ca S (ix x) 5 else -1000004)
     else if y = 6 then ofB (isB S false (ix x)) n
     else if y = 7 ∨ y = 8 ∨ y = 9 then ca S (ix x) (ix y - 1)
     else ca S (ix x) (ix y))
  else -1000001
def fofF (S : SS) (m : Nat) (x y : Int32) : Int32 :=
  if inr 0 m x = true ∧ inr 0 8 y = true then
    (if y = 6 then b2i (mtF S (ix x) m) else if y = 7 then (if wt S (ix x) = true then -1000004 else fi S (ix x) 6) else fi S (ix x) (ix y))
  else -1000001
def tofF (S : SS) (t : Nat) (x y : Int32) : Int32 := if inr 0 t x = true ∧ inr 0 2 y = true then S (152 + 2 * ix x + ix y) else -1000001
