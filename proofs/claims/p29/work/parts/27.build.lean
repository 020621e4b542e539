/-! the reference: what is built, opened, called, turned -/
theorem b_msb (x : Int32) : bt x 31 = decide (x < 0) := by
  have h : x.toBitVec.msb = decide (x.toBitVec.toInt < 0) := BitVec.msb_eq_toInt
  have h2 : x.toBitVec.msb = bt x 31 := BitVec.msb_eq_getLsbD_last x.toBitVec
  rw [← h2, h]
  refine decide_eq_decide.mpr ?_
  rw [i_lt]
  exact Iff.rfl
def agF (n : Nat) (x : Int32) : Bool := (List.range 32).all (fun k => !bt x k || (decide (1 ≤ k) && decide (k < n)))
theorem ag_of {n : Nat} {x : Int32} (h : agF n x = true) : ∀ k, k < 32 → bt x k = true → 1 ≤ k ∧ k < n := by
  intro k hk hb
  have := List.all_eq_true.mp h k (List.mem_range.mpr hk)
  rw [hb] at this
  simpa using this
theorem ag_mk {n : Nat} {x : Int32} (h : ∀ k, k < 32 → bt x k = true → 1 ≤ k ∧ k < n) : agF n x = true := by
  refine List.all_eq_true.mpr (fun k hk => ?_)
  cases hb : bt x k
  · rfl
  · have := h k (List.mem_range.mp hk) hb
    simpa using this
theorem ag_mask : ∀ n, n ≤ 8 → ∀ k, k < 32 → 1 ≤ n → bt (((1 : Int32) <<< (nI n &&& 31)) - 2) k = (decide (1 ≤ k) && decide (k < n)) := by decide +kernel
theorem ag_spec {n : Nat} (h1 : 1 ≤ n) (h8 : n ≤ 8) (x : Int32) : x &&& ((((1 : Int32) <<< (nI n &&& 31)) - 2) ^^^ (-1)) = 0 ↔ agF n x = true := by
  constructor
  · intro e
    refine ag_mk (fun k hk hb => ?_)
    have hz : bt (x &&& ((((1 : Int32) <<< (nI n &&& 31)) - 2) ^^^ (-1))) k = false := by rw [e]; exact b_0 k
    rw [b_and, bt_not _ hk, ag_mask n h8 k hk h1, hb] at hz
    by_cases a : 1 ≤ k
    · by_cases b : k < n
      · exact ⟨a, b⟩
      · rw [decide_eq_false b] at hz; simp at hz
    · rw [decide_eq_false a] at hz; simp at hz
  · intro e
    have h := ag_of e
    refine bt_eq0 (fun k hk => ?_)
    rw [b_and, bt_not _ hk, ag_mask n h8 k hk h1]
    cases hb : bt x k
    · rfl
    · obtain ⟨a, b⟩ := h k hk hb
      rw [decide_eq_true a, decide_eq_true b]; rfl
theorem ag_nonneg {n : Nat} (h8 : n ≤ 8) {x : Int32} (h : agF n x = true) : ¬ x < 0 := by
  intro hx
  have h2 : bt x 31 = true := by rw [b_msb]; exact decide_eq_true hx
  have := ag_of h 31 (by omega) h2
  omega
def zr (S : SS) (p : Nat) : Nat → SS
  | 0 => S
  | k + 1 => upd (zr S p k) (p + k) 0
theorem zr_o {S : SS} {p k : Nat} : ∀ i, (k < p ∨ p + i ≤ k) → zr S p i k = S k := by
  intro i
  induction i with
  | zero => intro _; rfl
  | succ i ih => intro h; unfold zr; rw [upd_o (by omega), ih (by omega)]
theorem zr_s {S : SS} {p k : Nat} : ∀ i, p ≤ k → k < p + i → zr S p i k = 0 := by
  intro i
  induction i with
  | zero => intro _ _; omega
  | succ i ih =>
    intro h1 h2
    unfold zr
    by_cases e : k = p + i
    · subst e; rw [upd_s]
    · rw [upd_o e, ih h1 (by omega)]
theorem nI_m1 (n : Nat) : nI (n + 1) - 1 = nI n := by rw [← nI_1, Int32.add_sub_cancel]
theorem st_self' {M : Mm} {S : SS} (h : M 144 = S) : M = st M S := by rw [← h, st_self]
def cnS (S : SS) (n : Nat) (p k w s : Int32) : SS := upd (upd (upd (upd (upd (upd (zr S (10 + 9 * n) 9) (10 + 9 * n) p) (11 + 9 * n) k) (12 + 9 * n) w) (13 + 9 * n) s) (15 + 9 * n) (-1)) 0 (nI (n + 1))
def canF (S : SS) (n : Nat) (p k w s : Int32) : SS × Int32 := if inr 0 n p = true ∧ inr 0 3 k = true ∧ inr 1 501 w = true ∧ inr 0 501 s = true then (if n = 8 then (S, -1000003) else (cnS S n p k w s, nI n)) else (S, -1000001)
def fdS (S : SS) (m : Nat) (c d o r : Int32) : SS := upd (upd (upd (upd (upd (zr S (82 + 7 * m) 7) (82 + 7 * m) c) (83 + 7 * m) d) (84 + 7 * m) o) (85 + 7 * m) r) 1 (nI (m + 1))
def fldF (S : SS) (n m : Nat) (c d o r : Int32) : SS × Int32 := if inr 0 n c = true ∧ inr 1 1000 d = true ∧ inr 1 201 o = true ∧ inr 0 100 r = true then (if m = 10 then (S, -1000003) else (fdS S m c d o r, nI m)) else (S, -1000001)
def tnS (S : SS) (t : Nat) (g h : Int32) : SS := upd (upd (upd (upd (upd S (152 + 2 * t) g) (153 + 2 * t) h) 2 (nI (t + 1))) 3 0) 4 0
def trnF (S : SS) (n t : Nat) (g h : Int32) : SS × Int32 := if agF n g = true ∧ inr 1 21 h = true then (if t = 8 then (S, -1000003) else (tnS S t g h, nI (t + 1))) else (S, -1000001)
def ntF (S : SS) (t : Nat) : SS × Int32 := (upd (upd (upd S 2 0) 3 0) 4 0, nI t)
