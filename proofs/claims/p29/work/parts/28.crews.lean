/-! the reference: crews, gates, calls -/
def tdF (S : SS) (x : Int32) : Nat → Nat
  | 0 => 0
  | g + 1 => if g = 0 then 0 else tdF S x g + (if ca S g 5 = x then 1 else 0)
theorem tdF_le {S : SS} {x : Int32} : ∀ i, tdF S x i ≤ i := by
  intro i
  induction i with
  | zero => exact Nat.le_refl 0
  | succ g ih =>
    unfold tdF
    split
    · omega
    · split <;> omega
def tndF (S : SS) (n : Nat) (x y : Int32) : SS × Int32 :=
  if inr 0 3 x = true ∧ inr 1 n y = true then
    (if 0 ≤ ca S (ix y) 5 ∨ (¬ 2 ≤ x ∧ ca S (ix y) 1 ≠ x) then (S, -1000002)
     else if tdF S x n = 2 then (S, -1000003)
     else (upd S (15 + 9 * ix y) x, nI (tdF (upd S (15 + 9 * ix y) x) x n)))
  else (S, -1000001)
def lvF (S : SS) (n : Nat) (y : Int32) : SS × Int32 :=
  if inr 1 n y = true then (if 0 ≤ ca S (ix y) 5 then (upd S (15 + 9 * ix y) (-1), ca S (ix y) 5) else (S, -1000002)) else (S, -1000001)
def mvF (S : SS) (n : Nat) (y o : Int32) : SS × Int32 :=
  if inr 1 n y = true then (if ca S (ix y) 4 = o ∨ ¬ 0 ≤ ca S (ix y) 5 then (S, -1000002) else (upd S (14 + 9 * ix y) o, oo (upd S (14 + 9 * ix y) o) n)) else (S, -1000001)
def clF (S : SS) (m : Nat) (y : Int32) : SS × Int32 :=
  if inr 0 m y = true then (if fi S (ix y) 5 = 1 ∨ wt S (ix y) = false then (S, -1000002) else (upd S (87 + 7 * ix y) 1, onF (cl (upd S (87 + 7 * ix y) 1) m) 10)) else (S, -1000001)
