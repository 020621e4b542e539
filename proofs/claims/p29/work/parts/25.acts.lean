/-! the reference: what is acted goes into the history -/
def sr (M : Mm) (a : Nat) (R : SS) : Mm := fun b => if b = a then R else M b
theorem sr_s {M : Mm} {a : Nat} {R : SS} : sr M a R a = R := by simp [sr]
theorem sr_o {M : Mm} {a b : Nat} {R : SS} (h : b ≠ a) : sr M a R b = M b := by simp [sr, h]
theorem sr_sr {M : Mm} {a : Nat} {R R' : SS} : sr (sr M a R) a R' = sr M a R' := by funext b; by_cases h : b = a <;> simp [sr, h]
theorem sr_self {M : Mm} {a : Nat} : sr M a (M a) = M := by funext b; by_cases h : b = a <;> simp [sr, h]
theorem mu_sr {M : Mm} {a k : Nat} {v : Int32} : mu M a k v = sr M a (upd (M a) k v) := by funext b; by_cases h : b = a <;> simp [mu, sr, h]
theorem nI_mul (a b : Nat) : nI a * nI b = nI (a * b) := (Int32.ofNat_mul a b).symm
def shW (W : SS) (i : Nat) : SS := fun j => if j < i then W (j + 168) else W j
def cpW (W B : SS) (off i : Nat) : SS := fun j => if off ≤ j ∧ j < off + i then B (j - off) else W j
theorem shW_succ {W : SS} {i : Nat} : upd (shW W i) i (shW W i (i + 168)) = shW W (i + 1) := by
  funext j
  by_cases h : j = i
  · subst h
    rw [upd_s]
    unfold shW
    rw [if_neg (by omega), if_pos (by omega)]
  · rw [upd_o h]
    unfold shW
    by_cases h2 : j < i
    · rw [if_pos h2, if_pos (by omega)]
    · rw [if_neg h2, if_neg (by omega)]
theorem cpW_succ {W B : SS} {off i : Nat} : upd (cpW W B off i) (off + i) (B i) = cpW W B off (i + 1) := by
  funext j
  by_cases h : j = off + i
  · subst h
    rw [upd_s]
    unfold cpW
    rw [if_pos (by omega), Nat.add_sub_cancel_left]
  · rw [upd_o h]
    unfold cpW
    by_cases h2 : off ≤ j ∧ j < off + i
    · rw [if_pos h2, if_pos (by omega)]
    · rw [if_neg h2, if_neg (by omega)]
theorem cpW_0 {W B : SS} {off : Nat} : cpW W B off 0 = W := by
  funext j; unfold cpW; rw [if_neg (by omega)]
theorem shW_0 {W : SS} : shW W 0 = W := by
  funext j; unfold shW; rw [if_neg (by omega)]
/-- the history with one state more -/
def hi1 (W B : SS) (s : Nat) : SS := if s = 4 then cpW (shW W 504) B 504 168 else cpW W B (168 * s) 168
def acM (M : Mm) (s : Nat) : Mm := sr (sr M 145 (hi1 (M 145) (M 146) s)) 143 (upd (M 143) 4 (nI (min s 3 + 1)))
