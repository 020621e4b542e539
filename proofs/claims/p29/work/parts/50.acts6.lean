/-! the class: acting calls on the terrace of now -/
theorem ofB_nn {p : Nat → Bool} {i : Nat} (hi : i ≤ 31) : ¬ ofB p i < 0 := by
  intro h
  have : bt (ofB p i) 31 = true := by rw [b_msb]; exact decide_eq_true h
  rw [ofB_bt i (by omega) 31 (by omega), decide_eq_false (by omega)] at this
  cases this
theorem nn_not {x : Int32} (h : ¬ x < 0) : ¬ x ≤ -1000001 := by
  intro z
  refine h (i_lt.mpr ?_)
  have a := i_le.mp z
  have e : (-1000001 : Int32).toInt = -1000001 := by decide
  have e0 : (0 : Int32).toInt = 0 := by decide
  omega
theorem nI_not {k : Nat} (h : k < 2147483648) : ¬ nI k ≤ -1000001 := nn_not (nI_pos h)
theorem TR_opn {M : Mm} {t : Nat} {S S' : SS} {n m tt : Nat} {x : Int32} (h : TR M t S n m tt) (hS : ∀ k, ((∀ g, k ≠ 10 + 9 * g + 4) ∨ 82 ≤ k) → S' k = S k) (hx : x = ofB (opn S') n) (h8 : n ≤ 8) : TR (mu M (t + 1) 1 x) t S' n m tt := by
  obtain ⟨a, b, c, d, e, f, g, x1, y⟩ := h
  have ne : ∀ k, k ≠ 1 → mu M (t + 1) 1 x (t + k) = M (t + k) := fun k hk => mu_row (by omega)
  refine ⟨fun k j i hm => ?_, by rw [mu_el (by omega), b], by rw [mu_at, hx], by rw [ne 10 (by omega), d], ?_, by rw [ne 18 (by omega), f], fun i hi => ?_, fun i h1 h2 => ?_, fun i h1 h2 => ?_⟩
  · rw [ne k (by unfold mp at hm; omega), hS i ?_]
    · exact a k j i hm
    · by_cases hi : 82 ≤ i
      · exact Or.inr hi
      · exact Or.inl (fun g => by unfold mp at hm; omega)
  · rw [ne 10 (by omega), e]
    refine ofB_congr m (fun g hg => ?_)
    unfold cls fi
    rw [hS _ (Or.inr (by omega))]
  · rw [ne 17 (by omega), ord_congr (S := S) (S' := S') (fun f => hS _ (Or.inr (by omega)))]
    exact g i hi
  · rw [ne 6 (by omega), ne 7 (by omega), ne 8 (by omega), ne 9 (by omega)]
    exact x1 i h1 h2
  · rw [ne 15 (by omega), ne 16 (by omega)]
    exact y i h1 h2
theorem TR_cls {M : Mm} {t : Nat} {S S' : SS} {n m tt : Nat} {x : Int32} (h : TR M t S n m tt) (hS : ∀ k, ((∀ f, k ≠ 82 + 7 * f + 5) ∨ 152 ≤ k) → S' k = S k) (hx : x = ofB (cls S') m) (h8 : n ≤ 8) (h10 : m ≤ 10) : TR (mu M (t + 10) 1 x) t S' n m tt := by
  obtain ⟨a, b, c, d, e, f, g, x1, y⟩ := h
  have ne : ∀ k, k ≠ 10 → mu M (t + 10) 1 x (t + k) = M (t + k) := fun k hk => mu_row (by omega)
  refine ⟨fun k j i hm => ?_, by rw [ne 1 (by omega), b], ?_, by rw [mu_el (by omega), d], by rw [mu_at, hx], by rw [ne 18 (by omega), f], fun i hi => ?_, fun i h1 h2 => ?_, fun i h1 h2 => ?_⟩
  · rw [ne k (by unfold mp at hm; omega), hS i ?_]
    · exact a k j i hm
    · by_cases hi : 152 ≤ i
      · exact Or.inr hi
      · exact Or.inl (fun g => by unfold mp at hm; omega)
  · rw [ne 1 (by omega), c]
    refine ofB_congr n (fun g hg => ?_)
    unfold opn ca
    rw [hS _ (Or.inl (fun f => by omega))]
  · rw [ne 17 (by omega), ord_congr (S := S) (S' := S') (fun f => hS _ (Or.inl (fun f' => by omega)))]
    exact g i hi
  · rw [ne 6 (by omega), ne 7 (by omega), ne 8 (by omega), ne 9 (by omega)]
    exact x1 i h1 h2
  · rw [ne 15 (by omega), ne 16 (by omega)]
    exact y i h1 h2
/-- what an acting call leaves of the class -/
def CA (M M' : Mm) (P : Nat → Nat) (s : Nat) (S S' : SS) (n m tt n' m' tt' : Nat) (r : Int32) : Prop :=
  TR M' 1 S' n' m' tt' ∧ (∀ a, 141 ≤ a → M' a = M a) ∧
  (r ≤ -1000001 → M' 47 0 = M 47 0 ∧ HP M' P ∧ ∀ k, k < 4 → ∀ a, P k ≤ a → a < P k + 23 → M' a = M a) ∧
  (¬ r ≤ -1000001 → ∃ P', HP M' P' ∧ M' 47 0 = nI (min s 3 + 1) ∧ (∀ k, k < min s 3 → P' k = P (k + s / 4) ∧ ∀ a, P' k ≤ a → a < P' k + 23 → M' a = M a) ∧ TR M' (P' (min s 3)) S n m tt)
theorem CA_none {M : Mm} {P : Nat → Nat} {s : Nat} {S : SS} {n m tt : Nat} {r : Int32} (hT : TR M 1 S n m tt) (hp : HP M P) (hr : r ≤ -1000001) : CA M M P s S S n m tt n m tt r :=
  ⟨hT, fun _ _ => rfl, fun _ => ⟨rfl, hp, fun _ _ _ _ _ => rfl⟩, fun z => absurd hr z⟩
theorem sp_rec {Post : Mm → Prop} {M : Mm} {P : Nat → Nat} {S : SS} {n m tt s : Nat} (hp : HP M P) (hs : M 47 0 = nI s) (h4 : s ≤ 4) (hT : TR M 1 S n m tt) (hw : Wf S n m tt)
    (h : ∀ M1, TR M1 1 S n m tt → (∀ a, 141 ≤ a → M1 a = M a) → (∀ M2 S' n' m' tt' r, TR M2 1 S' n' m' tt' → (∀ a, (a < 1 ∨ 24 ≤ a) → M2 a = M1 a) → ¬ r ≤ -1000001 → CA M M2 P s S S' n m tt n' m' tt' r) → Post M1) : wX2_record Post M 47 1 := by
  refine sp2_record hp hs h4 hT hw (fun M1 P' a b c d e f => h M1 ?_ d (fun M2 S' n' m' tt' r hT2 hfr hr => ⟨hT2, fun x hx => by rw [hfr x (by omega), d x hx], fun z => absurd z hr, fun _ => ⟨P', a.of (hfr 48 (by omega)), by rw [hfr 47 (by omega), b], fun k hk => ⟨(e k hk).1, fun x x1 x2 => ?_⟩, ?_⟩⟩))
  · exact hT.of (fun j _ _ => by rw [c 1 (by omega)]) (fun k _ _ => by rw [c _ (by omega)])
  · have := a.lt (show k < 4 by omega)
    rw [hfr x (by omega), (e k hk).2 x x1 x2]
  · have := a.lt (show min s 3 < 4 by omega)
    exact f.of (fun j _ _ => by rw [hfr _ (by omega)]) (fun k _ _ => by rw [hfr _ (by omega)])
theorem sp_has {Post : Mm → Int32 → Prop} {M : Mm} {x : Int32} {n : Nat} (h8 : n ≤ 100) (h : Post M (b2i (inr 0 n x))) : (x < 0 → Post M 0) ∧ (¬ x < 0 → (nI n ≤ x → Post M 0) ∧ (¬ nI n ≤ x → Post M 1)) := by
  have en : (nI n).toInt = n := nI_toInt (by omega)
  have e0 : (0 : Int32).toInt = 0 := by decide
  refine ⟨fun d => ?_, fun d => ⟨fun c => ?_, fun c => ?_⟩⟩
  · have := i_lt.mp d
    rw [show inr 0 n x = false from decide_eq_false (by omega)] at h
    exact h
  · have := i_le.mp c
    rw [show inr 0 n x = false from decide_eq_false (by omega)] at h
    exact h
  · have a : ¬ x.toInt < (0 : Int32).toInt := fun z => d (i_lt.mpr z)
    have b : ¬ (nI n).toInt ≤ x.toInt := fun z => c (i_le.mpr z)
    rw [show inr 0 n x = true from decide_eq_true (by omega)] at h
    exact h
theorem sp_hasG {Post : Mm → Int32 → Prop} {M : Mm} {x : Int32} {n : Nat} (h8 : n ≤ 100) (h : Post M (b2i (inr 1 n x))) : (x ≤ 0 → Post M 0) ∧ (¬ x ≤ 0 → (nI n ≤ x → Post M 0) ∧ (¬ nI n ≤ x → Post M 1)) := by
  have en : (nI n).toInt = n := nI_toInt (by omega)
  have e0 : (0 : Int32).toInt = 0 := by decide
  refine ⟨fun d => ?_, fun d => ⟨fun c => ?_, fun c => ?_⟩⟩
  · have := i_le.mp d
    rw [show inr 1 n x = false from decide_eq_false (by omega)] at h
    exact h
  · have := i_le.mp c
    rw [show inr 1 n x = false from decide_eq_false (by omega)] at h
    exact h
  · have a : ¬ x.toInt ≤ (0 : Int32).toInt := fun z => d (i_le.mpr z)
    have b : ¬ (nI n).toInt ≤ x.toInt := fun z => c (i_le.mpr z)
    rw [show inr 1 n x = true from decide_eq_true (by omega)] at h
    exact h
theorem sp0_has {Post : Mm → Int32 → Prop} {M : Mm} {t : Nat} {S : SS} {n m tt : Nat} {x : Int32} (hT : TR M t S n m tt) (h8 : n ≤ 8) (h : Post M (b2i (inr 0 n x))) : wX0_has Post M (t + 1) x := by
  unfold wX0_has
  rw [hT.2.1]
  exact sp_has (by omega) h
theorem sp0_hasGate {Post : Mm → Int32 → Prop} {M : Mm} {t : Nat} {S : SS} {n m tt : Nat} {x : Int32} (hT : TR M t S n m tt) (h8 : n ≤ 8) (h : Post M (b2i (inr 1 n x))) : wX0_hasGate Post M (t + 1) x := by
  unfold wX0_hasGate
  rw [hT.2.1]
  exact sp_hasG (by omega) h
theorem sp1_has {Post : Mm → Int32 → Prop} {M : Mm} {t : Nat} {S : SS} {n m tt : Nat} {x : Int32} (hT : TR M t S n m tt) (h10 : m ≤ 10) (h : Post M (b2i (inr 0 m x))) : wX1_has Post M (t + 10) x := by
  unfold wX1_has
  rw [hT.2.2.2.1]
  exact sp_has (by omega) h
theorem sp5_has {Post : Mm → Int32 → Prop} {M : Mm} {t : Nat} {S : SS} {n m tt : Nat} {x : Int32} (hT : TR M t S n m tt) (h8 : tt ≤ 8) (h : Post M (b2i (inr 0 tt x))) : wX5_has Post M (t + 18) x := by
  unfold wX5_has
  rw [hT.2.2.2.2.2.1]
  exact sp_has (by omega) h
theorem sp6_isOutside {Post : Mm → Int32 → Prop} {M : Mm} {x lo hi : Int32} {a b : Nat} (hl : lo.toInt = a) (hh : hi.toInt = (b : Int) - 1) (h : Post M (b2i (!inr a b x))) : wX6_isOutside Post M x lo hi := by
  refine ⟨fun d => ?_, fun d => ⟨fun c => ?_, fun c => ?_⟩⟩
  · have := i_lt.mp d
    rw [show inr a b x = false from decide_eq_false (by omega)] at h
    exact h
  · have a1 : ¬ x.toInt < lo.toInt := fun z => d (i_lt.mpr z)
    have := i_le.mp c
    rw [show inr a b x = true from decide_eq_true (by omega)] at h
    exact h
  · have a1 : ¬ x.toInt ≤ hi.toInt := fun z => c (i_le.mpr z)
    rw [show inr a b x = false from decide_eq_false (by omega)] at h
    exact h
theorem sp0_isTended {Post : Mm → Int32 → Prop} {M : Mm} {t : Nat} {S : SS} {n m tt g : Nat} {x : Int32} (hT : TR M t S n m tt) (h8 : n ≤ 8) (hg : g < n) (hx : x = nI g) (h : Post M (b2i (decide (ca S g 5 ≠ -1)))) : wX0_isTended Post M (t + 1) x := by
  subst hx
  have e : M (t + 1 + 5) g = ca S g 5 := hT.rd (k := 6) (j := g) (i := 10 + 9 * g + 5) (by unfold mp; omega)
  unfold wX0_isTended
  rw [ixn (by omega), e]
  refine ⟨vp_in_nI (by omega) (by omega), fun d => ?_, fun d => ?_⟩
  · rw [show decide (ca S g 5 ≠ -1) = false from decide_eq_false (fun z => z d)] at h
    exact h
  · rw [show decide (ca S g 5 ≠ -1) = true from decide_eq_true d] at h
    exact h
def VK (S : SS) (n : Nat) : Prop := ca S 0 5 = -1 ∧ ∀ c, c < n → ca S c 5 = -1 ∨ (0 ≤ (ca S c 5).toInt ∧ (ca S c 5).toInt ≤ 2)
theorem VK.iff {S : SS} {n c : Nat} (h : VK S n) (hc : c < n) : ca S c 5 ≠ -1 ↔ 0 ≤ ca S c 5 := by
  have e0 : (0 : Int32).toInt = 0 := by decide
  have em : (-1 : Int32).toInt = -1 := by decide
  rw [i_le, e0, Ne, i_eq, em]
  rcases h.2 c hc with e | e
  · rw [e, em]; omega
  · omega
theorem shl_0 (x : Int32) : (0 : Int32) <<< (x &&& 31) = 0 := by
  have : ∀ y : Int32, (0 : Int32) <<< y = 0 := fun y => by
    refine Int32.toBitVec_inj.mp ?_
    rw [Int32.toBitVec_shiftLeft]
    exact BitVec.zero_shiftLeft _
  exact this _
theorem oo_ofB {S : SS} {n : Nat} (hv : VO S n) : ∀ i, i ≤ n → oo S i = ofB (opn S) i := by
  intro i
  induction i with
  | zero => intro _; rfl
  | succ g ih =>
    intro hi
    by_cases hg : g = 0
    · subst hg
      rw [ofB_succ, hv.1, if_neg (by decide)]
      rfl
    · have e : oo S (g + 1) = oo S g ||| (ca S g 4 <<< (nI g &&& 31)) := by
        show (if g = 0 then (0 : Int32) else _) = _
        rw [if_neg hg]
      rw [e, ofB_succ, ih (by omega)]
      rcases hv.2 g (by omega) with z | z
      · have : opn S g = false := by unfold opn; rw [z]; decide
        rw [this, if_neg (by decide), z]
        rw [shl_0, or_0]
      · have : opn S g = true := by unfold opn; rw [z]; decide
        rw [this, if_pos rfl, z]
