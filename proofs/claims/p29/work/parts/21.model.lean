/-! the reference: what its small methods do to its row s (place 144) -/
abbrev SS : Type := Nat → Int32
def ca (S : SS) (c w : Nat) : Int32 := S (10 + 9 * c + w)
def fi (S : SS) (f w : Nat) : Int32 := S (82 + 7 * f + w)
def pa (S : SS) (c : Nat) : Nat := ix (ca S c 0)
def at_ (S : SS) (f : Nat) : Nat := ix (fi S f 0)
def wt (S : SS) (f : Nat) : Bool := decide (fi S f 4 < fi S f 1)
def st (M : Mm) (S : SS) : Mm := fun a => if a = 144 then S else M a
theorem st_s {M : Mm} {S : SS} : st M S 144 = S := by simp [st]
theorem st_o {M : Mm} {S : SS} {a : Nat} (h : a ≠ 144) : st M S a = M a := by simp [st, h]
theorem mu_st {M : Mm} {S : SS} {k : Nat} {v : Int32} : mu (st M S) 144 k v = st M (upd S k v) := by
  funext a; by_cases h : a = 144 <;> simp [mu, st, h]
theorem st_self {M : Mm} : st M (M 144) = M := by funext a; by_cases h : a = 144 <;> simp [st, h]
theorem mu_144 {M : Mm} {k : Nat} {v : Int32} : mu M 144 k v = st M (upd (M 144) k v) := by funext a; by_cases h : a = 144 <;> simp [mu, st, h]
theorem st_st {M : Mm} {S T : SS} : st (st M S) T = st M T := by funext a; by_cases h : a = 144 <;> simp [st, h]
theorem upd_s {f : Nat → Int32} {k : Nat} {x : Int32} : upd f k x k = x := by simp [upd]
theorem upd_o {f : Nat → Int32} {k j : Nat} {x : Int32} (h : j ≠ k) : upd f k x j = f j := by simp [upd, h]
theorem ixn {n : Nat} (h : n < 2147483648) : ix (nI n) = n := nI_clamp h
def Wf (S : SS) (n m t : Nat) : Prop := S 0 = nI n ∧ S 1 = nI m ∧ S 2 = nI t ∧ (1 ≤ n ∧ n ≤ 8) ∧ m ≤ 10 ∧ t ≤ 8 ∧ (∀ c, 1 ≤ c → c < n → pa S c < c ∧ ca S c 0 = nI (pa S c)) ∧ (∀ f, f < m → at_ S f < n ∧ fi S f 0 = nI (at_ S f))
def inr (lo hi : Nat) (x : Int32) : Bool := decide ((lo : Int) ≤ x.toInt ∧ x.toInt < (hi : Int))
theorem inr_of {lo hi : Nat} {x : Int32} (h : inr lo hi x = true) : ∃ c : Nat, lo ≤ c ∧ c < hi ∧ x = nI c := by
  have h2 : (lo : Int) ≤ x.toInt ∧ x.toInt < (hi : Int) := of_decide_eq_true h
  exact ⟨x.toInt.toNat, by omega, by omega, i_of (by omega)⟩
theorem inr_nI {lo hi c : Nat} (h1 : lo ≤ c) (h2 : c < hi) (h3 : c < 2147483648) : inr lo hi (nI c) = true := by
  unfold inr; rw [nI_toInt h3]; exact decide_eq_true (by omega)
theorem sub1_toInt {n : Nat} (h : n ≤ 100) : (nI n - (1 : Int32)).toInt = (n : Int) - 1 := by
  rw [i_sub] <;> rw [nI_toInt (by omega)] <;> (have : (1 : Int32).toInt = 1 := rfl) <;> omega
theorem ix_ca {x y : Int32} {c w : Nat} (hx : x = nI c) (hy : y = nI w) (hc : c < 8) (hw : w < 9) : ix (((10 : Int32) + ((9 : Int32) * x)) + y) = 10 + 9 * c + w ∧ vp_in (((10 : Int32) + ((9 : Int32) * x)) + y) 168 := by
  subst hx hy
  have e : ((10 : Int32) + ((9 : Int32) * nI c)) + nI w = nI (10 + 9 * c + w) := by
    rw [show (10 : Int32) = nI 10 from rfl, show (9 : Int32) = nI 9 from rfl, pk_mul, nI_add, nI_add]
  rw [e]; exact ⟨nI_clamp (by omega), vp_in_nI (by omega) (by omega)⟩
theorem ix_fi {x y : Int32} {f w : Nat} (hx : x = nI f) (hy : y = nI w) (hf : f < 10) (hw : w < 7) : ix (((82 : Int32) + ((7 : Int32) * x)) + y) = 82 + 7 * f + w ∧ vp_in (((82 : Int32) + ((7 : Int32) * x)) + y) 168 := by
  subst hx hy
  have e : ((82 : Int32) + ((7 : Int32) * nI f)) + nI w = nI (82 + 7 * f + w) := by
    rw [show (82 : Int32) = nI 82 from rfl, show (7 : Int32) = nI 7 from rfl, pk_mul, nI_add, nI_add]
  rw [e]; exact ⟨nI_clamp (by omega), vp_in_nI (by omega) (by omega)⟩
theorem wt_le {S : SS} {f : Nat} (h : fi S f 1 ≤ fi S f 4) : wt S f = false := decide_eq_false (Int32.not_lt.mpr h)
theorem wt_nle {S : SS} {f : Nat} (h : ¬ fi S f 1 ≤ fi S f 4) : wt S f = true := decide_eq_true (Int32.not_le.mp h)
theorem mcp_0 {M : Mm} {js jd : Nat} : mcp M js jd 0 = M := by
  funext a; by_cases h : a = jd
  · subst h; funext i; simp [mcp]
  · simp [mcp, h]
theorem mcp_succ {M : Mm} {js jd i : Nat} (h : js ≠ jd) : mu (mcp M js jd i) jd i (mcp M js jd i js i) = mcp M js jd (i + 1) := by
  funext a
  by_cases ha : a = jd
  · subst ha
    rw [mu_s, mcp_s, mcp_s, mcp_o js h]
    funext k
    by_cases hk : k = i
    · subst hk; simp [upd]
    · simp only [upd, hk, if_false]
      by_cases h2 : k < i
      · rw [if_pos h2, if_pos (by omega)]
      · rw [if_neg h2, if_neg (by omega)]
  · rw [mu_o a ha, mcp_o a ha, mcp_o a ha]
/-- gates set by a set: those below i -/
def setO (S : SS) (x : Int32) : Nat → SS
  | 0 => S
  | g + 1 => if g = 0 then S else upd (setO S x g) (10 + 9 * g + 4) (b2i (bt x g))
def oo (S : SS) : Nat → Int32
  | 0 => 0
  | g + 1 => if g = 0 then 0 else oo S g ||| (ca S g 4 <<< (nI g &&& 31))
def cl (S : SS) : Nat → Int32
  | 0 => 0
  | f + 1 => cl S f ||| (fi S f 5 <<< (nI f &&& 31))
def onF (x : Int32) : Nat → Int32
  | 0 => 0
  | k + 1 => onF x k + b2i (bt x k)
