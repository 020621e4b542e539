/-! the reference: what would be -/
theorem rest {M : Mm} {S' : SS} (h : ∀ i, 168 ≤ i → S' i = M 144 i) : mcp (st (mcp M 144 147 168) S') 147 144 168 = mcp M 144 147 168 := by
  funext a
  by_cases ha : a = 144
  · subst ha
    funext i
    rw [mcpo (a := 144) (jd := 147) (by omega)]
    unfold mcp
    rw [if_pos rfl]
    by_cases hi : i < 168
    · show (if i < 168 then st _ S' 147 i else _) = _
      rw [if_pos hi, st_o (by omega)]
      show (if i < 168 then M 144 i else _) = _
      rw [if_pos hi]
    · show (if i < 168 then st _ S' 147 i else st _ S' 144 i) = _
      rw [if_neg hi, st_s]
      exact h i (by omega)
  · rw [mcpo ha, st_o ha]
def wdS (S : SS) (n m : Nat) (g b : Int32) : SS := flowF (setO S g n) n m b
def wdF (S : SS) (n m : Nat) (g b y : Int32) : Int32 :=
  if agF n g = true ∧ inr 0 1000 b = true ∧ (inr 0 3 y = true ∨ (10 ≤ y ∧ inr 0 m (y - 10) = true)) then
    (if 10 ≤ y then wdS S n m g b (86 + 7 * ix (y - 10)) - S (86 + 7 * ix (y - 10)) else wdS S n m g b (7 + ix y) - S (7 + ix y))
  else -1000001
theorem wdS_hi {S : SS} {n m t : Nat} {g b : Int32} (hw : Wf S n m t) {i : Nat} (hi : 152 ≤ i) : wdS S n m g b i = S i := by
  unfold wdS
  rw [flowF_hi hw.2.2.2.1.2 hw.2.2.2.2.1 hi, setO_o n (fun g' _ _ => by have := hw.2.2.2.1.2; omega)]
def hgF (S : SS) (x : Int32) : Nat → Bool
  | 0 => true
  | f + 1 => hgF S x f && (!bt x f || !wt S f)
def flN (S : SS) (n m : Nat) (b : Int32) : Nat → SS
  | 0 => S
  | k + 1 => flowF (flN S n m b k) n m b
theorem Wf_flN {S : SS} {n m t : Nat} {b : Int32} (hw : Wf S n m t) : ∀ k, Wf (flN S n m b k) n m t := by
  intro k
  induction k with
  | zero => exact hw
  | succ k ih => exact Wf_flow ih
theorem flN_hi {S : SS} {n m t : Nat} {b : Int32} (hw : Wf S n m t) {i : Nat} (hi : 152 ≤ i) : ∀ k, flN S n m b k i = S i := by
  intro k
  induction k with
  | zero => rfl
  | succ k ih =>
    show flowF _ n m b i = _
    rw [flowF_hi hw.2.2.2.1.2 hw.2.2.2.2.1 hi, ih]
def lgS (S : SS) (n m : Nat) (x b : Int32) (h g : Nat) : Bool := hgF (flN (setO S (nI g) n) n m b h) x m
def lgF (S : SS) (n m : Nat) (x b : Int32) (h : Nat) : Nat → Int32
  | 0 => -1000004
  | k + 1 => if (lgF S n m x b h k < 0 ∨ onF (nI (2 * k)) 10 < onF (lgF S n m x b h k) 10) ∧ lgS S n m x b h (2 * k) = true then nI (2 * k) else lgF S n m x b h k
def lstF (S : SS) (n m : Nat) (x b h : Int32) : Int32 := if inr 0 (2 ^ m) x = true ∧ inr 0 1000 b = true ∧ inr 1 6 h = true then lgF S n m x b (ix h) (2 ^ (n - 1)) else -1000001
theorem pow_le {a b : Nat} (h : a ≤ b) : 2 ^ a ≤ 2 ^ b := Nat.pow_le_pow_right (by omega) h
/-- the first that holds -/
def fst (P : Nat → Bool) : Nat → Option Nat
  | 0 => none
  | k + 1 => match fst P k with
    | some j => some j
    | none => if P k = true then some k else none
theorem fst_none {P : Nat → Bool} : ∀ {N : Nat}, (∀ j, j < N → P j = false) → fst P N = none := by
  intro N
  induction N with
  | zero => intro _; rfl
  | succ k ih => intro h; unfold fst; rw [ih (fun j hj => h j (by omega)), h k (by omega)]; rfl
theorem fst_some {P : Nat → Bool} {k : Nat} (h : ∀ j, j < k → P j = false) (hk : P k = true) : ∀ {N : Nat}, k < N → fst P N = some k := by
  intro N
  induction N with
  | zero => intro _; omega
  | succ i ih =>
    intro hi
    unfold fst
    by_cases e : i = k
    · subst e; rw [fst_none h, if_pos hk]
    · rw [ih (by omega)]
def o2n (r : Option Nat) : Int32 := match r with | none => -1000004 | some g => nI g
def moreB (S : SS) (n m f : Nat) (b : Nat) : Bool := decide (fi S f 4 < fi (flowF S n m (nI b)) f 4)
def fewF (S : SS) (n m : Nat) (x : Int32) : Int32 := if inr 0 m x = true then o2n (fst (moreB S n m (ix x)) 1000) else -1000001
def hasB (S : SS) (n m : Nat) (b : Int32) (k : Nat) : Bool := hgF (rsF S n m b k).1 (nI (2 ^ m) - 1) m
def hrsF (S : SS) (n m : Nat) (b : Int32) : Int32 := if inr 0 1000 b = true then o2n (fst (hasB S n m b) 101) else -1000001
theorem r1F_hi {S : SS} {n m t : Nat} {b : Int32} (hw : Wf S n m t) {i : Nat} (hi : 152 ≤ i) : (r1F S n m b).1 i = S i := by
  show goF _ i = _
  rw [goF_o (by omega) (by omega), flowF_hi hw.2.2.2.1.2 hw.2.2.2.2.1 hi]
  unfold r1a
  split
  · rfl
  · split
    · exact setO_o n (fun g' _ _ => by have := hw.2.2.2.1.2; omega)
    · rfl
theorem rsF_hi {S : SS} {n m t : Nat} {b : Int32} (hw : Wf S n m t) (ht : Tu S t) {i : Nat} (hi : 152 ≤ i) : ∀ k, (rsF S n m b k).1 i = S i := by
  intro k
  induction k with
  | zero => rfl
  | succ k ih =>
    show (r1F _ n m b).1 i = _
    rw [r1F_hi (rs_inv hw ht k).1 hi, ih]
