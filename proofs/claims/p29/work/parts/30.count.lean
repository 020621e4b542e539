/-! the reference: counts, history back, text -/
def tnO (S : SS) (g : Nat) : Bool := decide (1 ≤ g) && decide (0 ≤ ca S g 5)
def wnF (S : SS) : Nat → Nat
  | 0 => 0
  | f + 1 => wnF S f + (if wt S f = true then 1 else 0)
def cntF (S : SS) (n m s L : Nat) (y : Int32) : Int32 :=
  if y = 0 then S 0 else if y = 1 then S 1 else if y = 2 then nI (wnF S m) else if y = 3 then cl S m else if y = 4 then oo S n else if y = 5 then ofB (tnO S) n
  else if y = 6 then S 5 else if y = 7 then S 6 else if y = 8 then S 7 else if y = 9 then S 8 else if y = 10 then S 9 else if y = 11 then S 2
  else if y = 12 then (if S 2 = 0 then -1000004 else S 3) else if y = 13 then S 4 else if y = 14 then nI s else if y = 15 then nI L else -1000001
def unS (S W : SS) (s i : Nat) : SS := fun j => if j < i then W (168 * s + j) else S j
theorem nar_char : ∀ c, c < 127 → vp_nar .char (((nI c).toUInt32 % 65536).toInt32) = nI c := by decide +kernel
