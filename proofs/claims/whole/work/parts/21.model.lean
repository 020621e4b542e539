/-! the reference: what its small methods do to its row s (place 144) -/
abbrev SS : Type := Nat → Int32
def ca (S : SS) (c w : Nat) : Int32 := S (10 + 9 * c + w)
def fi (S : SS) (f w : Nat) : Int32 := S (82 + 7 * f + w)
def pa (S : SS) (c : Nat) : Nat := ix (ca S c 0)
def at_ (S : SS) (f : Nat) : Nat := ix (fi S f 0)
def wt (S : SS) (f : Nat) : Bool := decide (fi S f 4 < fi S f 1)
def st (M : Mm) (S : SS) : Mm := fun a => if a = 144 then S else M a
theorem st_s {M : Mm} {S : SS} : st M S 144 = S := by simp [st]
theorem st_o {M : Mm} {S : SS} {a : Nat} (h : a ≠ 144) : st M S a = M a := by simp [st, h]
theorem mu_st {M : Mm} {S : SS} {k : Nat} {v : Int32} : mu (st M S) 144 k v = st M (upd S k v) := by
  funext a; by_cases h : a = 144 <;> simp [mu, st, h]
theorem st_self {M : Mm} : st M (M 144) = M := by funext a; by_cases h : a = 144 <;> simp [st, h]
theorem mu_144 {M : Mm} {k : Nat} {v : Int32} : mu M 144 k v = st M (upd (M 144) k v) := by funext a; by_cases h : a = 144 <;> simp [mu, st, h]
theorem st_st {M : Mm} {S T : SS} : st (st M S) T = st M T := by funext a; by_cases h : a = 144 <;> simp [st, h]
theorem upd_s {f : Nat → Int32} {k : Nat} {x : Int32} : upd f k x k = x := by simp [upd]
theorem upd_o {f : Nat → Int32} {k j : Nat} {x : Int32} (h : j ≠ k) : upd f k x j = f j := by simp [upd, h]
theorem ixn {n : Nat} (h : n < 2147483648) : ix (nI n) = n := nI_clamp h
def Wf (S : SS) (n m t : Nat) : Prop := S 0 = nI n ∧ S 1 = nI m ∧ S 2 = nI t ∧ (1 ≤ n ∧ n ≤ 8) ∧ m ≤ 10 ∧ t ≤ 8 ∧ (∀ c, 1 ≤ c → c < n → pa S c < c ∧ ca S c 0 = nI (pa S c)) ∧ (∀ f, f < m → at_ S f < n ∧ fi S f 0 = nI (at_ S f))
def inr (lo hi : Nat) (x : Int32) : Bool := decide ((lo : Int) ≤ x.toInt ∧ x.toInt < (hi : Int))
theorem inr_of {lo hi : Nat} {x : Int32} (h : inr lo hi x = true) : ∃ c : Nat, lo ≤ c ∧ c < hi ∧ x = nI c := by
  have h2 : (lo : Int) ≤ x.toInt ∧ x.toInt < (hi : Int) := of_decide_eq_true h
  exact ⟨x.toInt.toNat, by omega, by omega, i_of (by omega)⟩
theorem inr_nI {lo hi c : Nat} (h1 : lo ≤ c) (h2 : c < hi) (h3 : c < 2147483648) : inr lo hi (nI c) = true := by
  unfold inr; rw [nI_toInt h3]; exact decide_eq_true (by omega)
theorem sp7_in {Post : Mm → Int32 → Prop} {M : Mm} {x lo hi : Int32} (h : Post M (b2i (decide (lo.toInt ≤ x.toInt ∧ x.toInt ≤ hi.toInt)))) : wX7_in Post M x lo hi := by
  unfold wX7_in
  refine ⟨fun c => ?_, fun c => ⟨fun d => ?_, fun d => ?_⟩⟩
  · rw [i_lt] at c
    rw [decide_eq_false (by omega)] at h; exact h
  · rw [i_lt] at c d
    rw [decide_eq_false (by omega)] at h; exact h
  · rw [i_lt] at c d
    rw [decide_eq_true (by omega)] at h; exact h
theorem sp7_inr {Post : Mm → Int32 → Prop} {M : Mm} {x lo hi : Int32} {a b : Nat} (hl : lo.toInt = a) (hh : hi.toInt = (b : Int) - 1) (h : Post M (b2i (inr a b x))) : wX7_in Post M x lo hi := by
  refine sp7_in ?_
  have e : decide (lo.toInt ≤ x.toInt ∧ x.toInt ≤ hi.toInt) = inr a b x := by
    unfold inr; rw [hl, hh]; exact decide_eq_decide.mpr (by omega)
  rw [e]; exact h
theorem sub1_toInt {n : Nat} (h : n ≤ 100) : (nI n - (1 : Int32)).toInt = (n : Int) - 1 := by
  rw [i_sub] <;> rw [nI_toInt (by omega)] <;> (have : (1 : Int32).toInt = 1 := rfl) <;> omega
theorem sp7_isCanal {Post : Mm → Int32 → Prop} {M : Mm} {x : Int32} {n : Nat} (hn : M 144 0 = nI n) (h8 : n ≤ 8) (h : Post M (b2i (inr 0 n x))) : wX7_isCanal Post M 143 x := by
  unfold wX7_isCanal
  refine sp7_inr (a := 0) (b := n) rfl ?_ ⟨b2i_01 _, h⟩
  show (M 144 0 - 1).toInt = _
  rw [hn]; exact sub1_toInt (by omega)
theorem sp7_isGate {Post : Mm → Int32 → Prop} {M : Mm} {x : Int32} {n : Nat} (hn : M 144 0 = nI n) (h8 : n ≤ 8) (h : Post M (b2i (inr 1 n x))) : wX7_isGate Post M 143 x := by
  unfold wX7_isGate
  refine sp7_inr (a := 1) (b := n) rfl ?_ ⟨b2i_01 _, h⟩
  show (M 144 0 - 1).toInt = _
  rw [hn]; exact sub1_toInt (by omega)
theorem sp7_isField {Post : Mm → Int32 → Prop} {M : Mm} {x : Int32} {m : Nat} (hn : M 144 1 = nI m) (h8 : m ≤ 10) (h : Post M (b2i (inr 0 m x))) : wX7_isField Post M 143 x := by
  unfold wX7_isField
  refine sp7_inr (a := 0) (b := m) rfl ?_ ⟨b2i_01 _, h⟩
  show (M 144 1 - 1).toInt = _
  rw [hn]; exact sub1_toInt (by omega)
theorem ix_ca {x y : Int32} {c w : Nat} (hx : x = nI c) (hy : y = nI w) (hc : c < 8) (hw : w < 9) : ix (((10 : Int32) + ((9 : Int32) * x)) + y) = 10 + 9 * c + w ∧ vp_in (((10 : Int32) + ((9 : Int32) * x)) + y) 168 := by
  subst hx hy
  have e : ((10 : Int32) + ((9 : Int32) * nI c)) + nI w = nI (10 + 9 * c + w) := by
    rw [show (10 : Int32) = nI 10 from rfl, show (9 : Int32) = nI 9 from rfl, pk_mul, nI_add, nI_add]
  rw [e]; exact ⟨nI_clamp (by omega), vp_in_nI (by omega) (by omega)⟩
theorem ix_fi {x y : Int32} {f w : Nat} (hx : x = nI f) (hy : y = nI w) (hf : f < 10) (hw : w < 7) : ix (((82 : Int32) + ((7 : Int32) * x)) + y) = 82 + 7 * f + w ∧ vp_in (((82 : Int32) + ((7 : Int32) * x)) + y) 168 := by
  subst hx hy
  have e : ((82 : Int32) + ((7 : Int32) * nI f)) + nI w = nI (82 + 7 * f + w) := by
    rw [show (82 : Int32) = nI 82 from rfl, show (7 : Int32) = nI 7 from rfl, pk_mul, nI_add, nI_add]
  rw [e]; exact ⟨nI_clamp (by omega), vp_in_nI (by omega) (by omega)⟩
theorem sp7_ca {Post : Mm → Int32 → Prop} {M : Mm} {x y : Int32} {c w : Nat} (hx : x = nI c) (hy : y = nI w) (hc : c < 8) (hw : w < 9) (h : Post M (ca (M 144) c w)) : wX7_ca Post M 143 x y := by
  unfold wX7_ca
  obtain ⟨e1, e2⟩ := ix_ca hx hy hc hw
  exact ⟨e2, by rw [e1]; exact h⟩
theorem sp7_fi {Post : Mm → Int32 → Prop} {M : Mm} {x y : Int32} {f w : Nat} (hx : x = nI f) (hy : y = nI w) (hf : f < 10) (hw : w < 7) (h : Post M (fi (M 144) f w)) : wX7_fi Post M 143 x y := by
  unfold wX7_fi
  obtain ⟨e1, e2⟩ := ix_fi hx hy hf hw
  exact ⟨e2, by rw [e1]; exact h⟩
theorem wt_le {S : SS} {f : Nat} (h : fi S f 1 ≤ fi S f 4) : wt S f = false := decide_eq_false (Int32.not_lt.mpr h)
theorem wt_nle {S : SS} {f : Nat} (h : ¬ fi S f 1 ≤ fi S f 4) : wt S f = true := decide_eq_true (Int32.not_le.mp h)
theorem sp7_wants {Post : Mm → Int32 → Prop} {M : Mm} {x : Int32} {f : Nat} (hx : x = nI f) (hf : f < 10) (h : Post M (b2i (wt (M 144) f))) : wX7_wants Post M 143 x := by
  unfold wX7_wants
  refine sp7_fi hx (w := 4) rfl hf (by omega) (sp7_fi hx (w := 1) rfl hf (by omega) ⟨fun c => ?_, fun c => ?_⟩)
  · rw [wt_le c] at h; exact h
  · rw [wt_nle c] at h; exact h
theorem mcp_0 {M : Mm} {js jd : Nat} : mcp M js jd 0 = M := by
  funext a; by_cases h : a = jd
  · subst h; funext i; simp [mcp]
  · simp [mcp, h]
theorem mcp_succ {M : Mm} {js jd i : Nat} (h : js ≠ jd) : mu (mcp M js jd i) jd i (mcp M js jd i js i) = mcp M js jd (i + 1) := by
  funext a
  by_cases ha : a = jd
  · subst ha
    rw [mu_s, mcp_s, mcp_s, mcp_o js h]
    funext k
    by_cases hk : k = i
    · subst hk; simp [upd]
    · simp only [upd, hk, if_false]
      by_cases h2 : k < i
      · rw [if_pos h2, if_pos (by omega)]
      · rw [if_neg h2, if_neg (by omega)]
  · rw [mu_o a ha, mcp_o a ha, mcp_o a ha]
theorem sp7_keeps {Post : Mm → Prop} {M : Mm} (h : Post (mcp M 144 146 168)) : wX7_keeps Post M 143 := by
  show ∃ n : Nat, lX7_keeps_2 Post n M 143 (nI 0)
  refine pk_loop (fun n i (M' : Mm) => lX7_keeps_2 Post n M' 143 (nI i)) (fun i M' => M' = mcp M 144 146 i) 168 0 M (by omega) mcp_0.symm ?_ ?_
  · intro n M' e
    subst e
    exact ⟨fun _ => h, fun c => absurd (show (168 : Int32) ≤ nI 168 by decide) c⟩
  · intro n i M' hi e ih
    subst e
    refine ⟨fun c => absurd c (nI_ge (b := 168) hi (by decide)), fun _ => ⟨vp_in_nI hi (by omega), vp_in_nI hi (by omega), fun M3 e3 x4 e4 => ?_⟩⟩
    rw [e4, nI_1]
    refine ih _ ?_
    rw [e3, ixn (by omega)]
    exact mcp_succ (by omega)
theorem sp7_puts {Post : Mm → Prop} {M : Mm} (h : Post (mcp M 144 147 168)) : wX7_puts Post M 143 := by
  show ∃ n : Nat, lX7_puts_2 Post n M 143 (nI 0)
  refine pk_loop (fun n i (M' : Mm) => lX7_puts_2 Post n M' 143 (nI i)) (fun i M' => M' = mcp M 144 147 i) 168 0 M (by omega) mcp_0.symm ?_ ?_
  · intro n M' e
    subst e
    exact ⟨fun _ => h, fun c => absurd (show (168 : Int32) ≤ nI 168 by decide) c⟩
  · intro n i M' hi e ih
    subst e
    refine ⟨fun c => absurd c (nI_ge (b := 168) hi (by decide)), fun _ => ⟨vp_in_nI hi (by omega), vp_in_nI hi (by omega), fun M3 e3 x4 e4 => ?_⟩⟩
    rw [e4, nI_1]
    refine ih _ ?_
    rw [e3, ixn (by omega)]
    exact mcp_succ (by omega)
theorem sp7_restores {Post : Mm → Prop} {M : Mm} (h : Post (mcp M 147 144 168)) : wX7_restores Post M 143 := by
  show ∃ n : Nat, lX7_restores_2 Post n M 143 (nI 0)
  refine pk_loop (fun n i (M' : Mm) => lX7_restores_2 Post n M' 143 (nI i)) (fun i M' => M' = mcp M 147 144 i) 168 0 M (by omega) mcp_0.symm ?_ ?_
  · intro n M' e
    subst e
    exact ⟨fun _ => h, fun c => absurd (show (168 : Int32) ≤ nI 168 by decide) c⟩
  · intro n i M' hi e ih
    subst e
    refine ⟨fun c => absurd c (nI_ge (b := 168) hi (by decide)), fun _ => ⟨vp_in_nI hi (by omega), vp_in_nI hi (by omega), fun M3 e3 x4 e4 => ?_⟩⟩
    rw [e4, nI_1]
    refine ih _ ?_
    rw [e3, ixn (by omega)]
    exact mcp_succ (by omega)
/-- gates set by a set: those below i -/
def setO (S : SS) (x : Int32) : Nat → SS
  | 0 => S
  | g + 1 => if g = 0 then S else upd (setO S x g) (10 + 9 * g + 4) (b2i (bt x g))
theorem sp7_sets {Post : Mm → Prop} {M : Mm} {x : Int32} {n : Nat} (hn : M 144 0 = nI n) (h1 : 1 ≤ n) (h8 : n ≤ 8) (h : Post (st M (setO (M 144) x n))) : wX7_sets Post M 143 x := by
  have keep : ∀ i, setO (M 144) x i 0 = nI n := by
    intro i
    induction i with
    | zero => exact hn
    | succ g ih =>
      unfold setO
      by_cases hg : g = 0
      · rw [if_pos hg]; exact hn
      · rw [if_neg hg, upd_o (by omega)]; exact ih
  show ∃ n : Nat, lX7_sets_2 Post n M 143 x (nI 1)
  refine pk_loop (fun k i (M' : Mm) => lX7_sets_2 Post k M' 143 x (nI i)) (fun i M' => 1 ≤ i ∧ M' = st M (setO (M 144) x i)) n 1 M h1 ⟨Nat.le_refl 1, ?_⟩ ?_ ?_
  · show M = st M (setO (M 144) x 1)
    unfold setO
    rw [if_pos rfl, st_self]
  · rintro k M' ⟨-, e⟩
    subst e
    refine ⟨fun _ => h, fun c => absurd ?_ c⟩
    show st M _ 144 0 ≤ nI n
    rw [st_s, keep]
    exact nI_le (Nat.le_refl _) (by omega)
  · rintro k i M' hi ⟨h1i, e⟩ ih
    subst e
    obtain ⟨e1, e2⟩ := ix_ca (x := nI i) (y := 4) (c := i) (w := 4) rfl rfl (by omega) (by omega)
    refine ⟨fun c => absurd c ?_, fun _ => ⟨e2, fun M3 e3 x4 e4 => ?_⟩⟩
    · show ¬ st M _ 144 0 ≤ nI i
      rw [st_s, keep]
      exact nI_ge hi (by omega)
    · rw [e4, nI_1]
      refine ih _ ⟨by omega, ?_⟩
      rw [e3, e1, bit1 x (by omega)]
      show mu (st M _) 144 _ _ = _
      rw [mu_st]
      conv => rhs; unfold setO
      rw [if_neg (by omega)]
def oo (S : SS) : Nat → Int32
  | 0 => 0
  | g + 1 => if g = 0 then 0 else oo S g ||| (ca S g 4 <<< (nI g &&& 31))
theorem sp7_openOnes {Post : Mm → Int32 → Prop} {M : Mm} {n : Nat} (hn : M 144 0 = nI n) (h1 : 1 ≤ n) (h8 : n ≤ 8) (h : Post M (oo (M 144) n)) : wX7_openOnes Post M 143 := by
  show ∃ n : Nat, lX7_openOnes_4 Post n M 143 0 (nI 1)
  refine pk_loop (fun k i (x : Int32) => lX7_openOnes_4 Post k M 143 x (nI i)) (fun i x => 1 ≤ i ∧ x = oo (M 144) i) n 1 0 h1 ⟨Nat.le_refl 1, rfl⟩ ?_ ?_
  · rintro k x ⟨-, e⟩
    subst e
    refine ⟨fun _ => h, fun c => absurd ?_ c⟩
    show M 144 0 ≤ nI n
    rw [hn]
    exact nI_le (Nat.le_refl _) (by omega)
  · rintro k i x hi ⟨h1i, e⟩ ih
    subst e
    refine ⟨fun c => absurd c ?_, fun _ => sp7_ca (c := i) (w := 4) rfl rfl (by omega) (by omega) (fun x5 e5 x6 e6 => ?_)⟩
    · show ¬ M 144 0 ≤ nI i
      rw [hn]
      exact nI_ge hi (by omega)
    · rw [e6, nI_1]
      refine ih _ ⟨by omega, ?_⟩
      rw [e5]
      conv => rhs; unfold oo
      rw [if_neg (by omega)]
def cl (S : SS) : Nat → Int32
  | 0 => 0
  | f + 1 => cl S f ||| (fi S f 5 <<< (nI f &&& 31))
theorem sp7_calling {Post : Mm → Int32 → Prop} {M : Mm} {m : Nat} (hm : M 144 1 = nI m) (h10 : m ≤ 10) (h : Post M (cl (M 144) m)) : wX7_calling Post M 143 := by
  show ∃ n : Nat, lX7_calling_4 Post n M 143 0 (nI 0)
  refine pk_loop (fun k i (x : Int32) => lX7_calling_4 Post k M 143 x (nI i)) (fun i x => x = cl (M 144) i) m 0 0 (by omega) rfl ?_ ?_
  · rintro k x e
    subst e
    refine ⟨fun _ => h, fun c => absurd ?_ c⟩
    show M 144 1 ≤ nI m
    rw [hm]
    exact nI_le (Nat.le_refl _) (by omega)
  · rintro k i x hi e ih
    subst e
    refine ⟨fun c => absurd c ?_, fun _ => sp7_fi (f := i) (w := 5) rfl rfl (by omega) (by omega) (fun x5 e5 x6 e6 => ?_)⟩
    · show ¬ M 144 1 ≤ nI i
      rw [hm]
      exact nI_ge hi (by omega)
    · rw [e6, nI_1]
      exact ih _ (by rw [e5]; rfl)
def onF (x : Int32) : Nat → Int32
  | 0 => 0
  | k + 1 => onF x k + b2i (bt x k)
theorem sp7_ones {Post : Mm → Int32 → Prop} {M : Mm} {x : Int32} (h : Post M (onF x 10)) : wX7_ones Post M x := by
  show ∃ n : Nat, lX7_ones_4 Post n M x 0 (nI 0)
  refine pk_loop (fun k i (y : Int32) => lX7_ones_4 Post k M x y (nI i)) (fun i y => y = onF x i) 10 0 0 (by omega) rfl ?_ ?_
  · rintro k y e
    subst e
    exact ⟨fun _ => h, fun c => absurd (show (10 : Int32) ≤ nI 10 by decide) c⟩
  · rintro k i y hi e ih
    subst e
    refine ⟨fun c => absurd c (nI_ge (b := 10) hi (by decide)), fun _ x3 e3 x4 e4 => ?_⟩
    rw [e4, nI_1]
    exact ih _ (by rw [e3, bit1 x (by omega)]; rfl)
