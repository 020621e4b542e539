/-! the law's own questions: what holds of the object, and what it answers -/
def HM (M : Mm) (S : SS) (n m tt : Nat) : Prop := VV S n m tt ∧ EX S n m ∧ TR M 1 S n m tt ∧ (∃ P s, HP M P ∧ M 47 0 = nI s ∧ s ≤ 4) ∧ ∃ L, M 141 0 = nI L
theorem CQ.trans {M M1 M2 : Mm} {S : SS} {n m tt : Nat} (h : CQ M M1 S n m tt) (h2 : CQ M1 M2 S n m tt) : CQ M M2 S n m tt :=
  ⟨h2.1, fun a a1 a2 => by rw [h2.2.1 a a1 a2, h.2.1 a a1 a2], by rw [h2.2.2, h.2.2]⟩
theorem HM.self {M : Mm} {S : SS} {n m tt : Nat} (h : HM M S n m tt) : CQ M M S n m tt := CQ_self h.2.2.1
theorem HM.to {M M1 : Mm} {S : SS} {n m tt : Nat} (h : HM M S n m tt) (c : CQ M M1 S n m tt) : HM M1 S n m tt := by
  obtain ⟨hV, hE, hT, ⟨P, s, hp, hs, h4⟩, ⟨L, hL⟩⟩ := h
  exact ⟨hV, hE, c.1, ⟨P, s, hp.of (c.2.1 48 (by omega) (by omega)), by rw [c.2.1 47 (by omega) (by omega)]; exact hs, h4⟩, ⟨L, by rw [c.2.2]; exact hL⟩⟩
theorem HM.act {M M1 : Mm} {P : Nat → Nat} {S S' : SS} {n m tt n' m' tt' s : Nat} {r : Int32} (h : HM M S n m tt) (hp : HP M P) (hs : M 47 0 = nI s) (h4 : s ≤ 4) (c : CA M M1 P s S S' n m tt n' m' tt' r) (hV : VV S' n' m' tt') (hE : EX S' n' m') : HM M1 S' n' m' tt' := by
  obtain ⟨-, -, hT, -, ⟨L, hL⟩⟩ := h
  obtain ⟨c1, c2, c3, c4⟩ := c
  refine ⟨hV, hE, c1, ?_, ⟨L, by rw [c2 141 (by omega)]; exact hL⟩⟩
  by_cases e : r ≤ -1000001
  · obtain ⟨x1, x2, -⟩ := c3 e
    exact ⟨P, s, x2, by rw [x1]; exact hs, h4⟩
  · obtain ⟨P', x1, x2, -⟩ := c4 e
    exact ⟨P', min s 3 + 1, x1, x2, by omega⟩
section QS
variable {Post : Mm → Int32 → Prop} {M M1 : Mm} {S : SS} {n m tt : Nat} {x y v : Int32}
theorem qC (h : HM M S n m tt) (c : CQ M M1 S n m tt) (hv : ∀ s L, cntF S n m s L y = v) (k : ∀ M2, CQ M M2 S n m tt → Post M2 v) : wX6_count Post M1 0 y := by
  obtain ⟨hV, -, hT, ⟨P, s, hp, hs, h4⟩, ⟨L, hL⟩⟩ := h.to c
  refine sp6_count hT hV hs hL (fun M2 c2 => ?_)
  rw [hv]
  exact k M2 (c.trans c2)
theorem qF (h : HM M S n m tt) (c : CQ M M1 S n m tt) (hv : fofF S m x y = v) (k : ∀ M2, CQ M M2 S n m tt → Post M2 v) : wX6_fieldOf Post M1 0 x y := by
  obtain ⟨hV, -, hT, -⟩ := h.to c
  refine sp6_fieldOf hT hV (fun M2 c2 => ?_)
  rw [hv]
  exact k M2 (c.trans c2)
theorem qK (h : HM M S n m tt) (c : CQ M M1 S n m tt) (hv : cofF S n x y = v) (k : ∀ M2, CQ M M2 S n m tt → Post M2 v) : wX6_canalOf Post M1 0 x y := by
  obtain ⟨hV, -, hT, -⟩ := h.to c
  refine sp6_canalOf hT hV (fun M2 c2 => ?_)
  rw [hv]
  exact k M2 (c.trans c2)
end QS
section CN
variable {S : SS} {n m s L : Nat}
theorem cnt0 : cntF S n m s L 0 = S 0 := rfl
theorem cnt1 : cntF S n m s L 1 = S 1 := rfl
theorem cnt2 : cntF S n m s L 2 = nI (wnF S m) := rfl
theorem cnt3 : cntF S n m s L 3 = cl S m := rfl
theorem cnt4 : cntF S n m s L 4 = oo S n := rfl
theorem cnt5 : cntF S n m s L 5 = ofB (tnO S) n := rfl
theorem cnt6 : cntF S n m s L 6 = S 5 := rfl
theorem cnt7 : cntF S n m s L 7 = S 6 := rfl
theorem cnt8 : cntF S n m s L 8 = S 7 := rfl
theorem cnt9 : cntF S n m s L 9 = S 8 := rfl
theorem cnt10 : cntF S n m s L 10 = S 9 := rfl
theorem cnt12 : cntF S n m s L 12 = (if S 2 = 0 then -1000004 else S 3) := rfl
theorem cnt13 : cntF S n m s L 13 = S 4 := rfl
end CN
section FN
variable {S : SS} {n m f c : Nat}
theorem fof (hf : f < m) (h10 : m ≤ 10) (y : Int32) : fofF S m (nI f) y = if inr 0 8 y = true then (if y = 6 then b2i (mtF S f m) else if y = 7 then (if wt S f = true then -1000004 else fi S f 6) else fi S f (ix y)) else -1000001 := by
  have g1 : inr 0 m (nI f) = true := inr_nI (by omega) hf (by omega)
  unfold fofF
  rw [ixn (by omega)]
  by_cases z : inr 0 8 y = true
  · rw [if_pos ⟨g1, z⟩, if_pos z]
  · rw [if_neg (fun w => z w.2), if_neg z]
theorem fof0 (hf : f < m) (h10 : m ≤ 10) : fofF S m (nI f) 0 = fi S f 0 := by rw [fof hf h10, if_pos (by decide), if_neg (by decide), if_neg (by decide)]; rfl
theorem fof1 (hf : f < m) (h10 : m ≤ 10) : fofF S m (nI f) 1 = fi S f 1 := by rw [fof hf h10, if_pos (by decide), if_neg (by decide), if_neg (by decide)]; rfl
theorem fof2 (hf : f < m) (h10 : m ≤ 10) : fofF S m (nI f) 2 = fi S f 2 := by rw [fof hf h10, if_pos (by decide), if_neg (by decide), if_neg (by decide)]; rfl
theorem fof4 (hf : f < m) (h10 : m ≤ 10) : fofF S m (nI f) 4 = fi S f 4 := by rw [fof hf h10, if_pos (by decide), if_neg (by decide), if_neg (by decide)]; rfl
theorem fof5 (hf : f < m) (h10 : m ≤ 10) : fofF S m (nI f) 5 = fi S f 5 := by rw [fof hf h10, if_pos (by decide), if_neg (by decide), if_neg (by decide)]; rfl
theorem fof6 (hf : f < m) (h10 : m ≤ 10) : fofF S m (nI f) 6 = b2i (mtF S f m) := by rw [fof hf h10, if_pos (by decide), if_pos rfl]
theorem fof7 (hf : f < m) (h10 : m ≤ 10) : fofF S m (nI f) 7 = if wt S f = true then -1000004 else fi S f 6 := by rw [fof hf h10, if_pos (by decide), if_neg (by decide), if_pos rfl]
theorem cof (hc : c < n) (h8 : n ≤ 8) (y : Int32) : cofF S n (nI c) y = if inr 0 10 y = true then
    (if y = 0 ∨ y = 1 ∨ y = 4 then (if c = 0 then -1000004 else ca S c (ix y))
     else if y = 5 then (if c ≠ 0 ∧ 0 ≤ ca S c 5 then ca S c 5 else -1000004)
     else if y = 6 then ofB (isB S false c) n
     else if y = 7 ∨ y = 8 ∨ y = 9 then ca S c (ix y - 1)
     else ca S c (ix y)) else -1000001 := by
  have g1 : inr 0 n (nI c) = true := inr_nI (by omega) hc (by omega)
  unfold cofF
  rw [ixn (by omega)]
  by_cases z : inr 0 10 y = true
  · rw [if_pos ⟨g1, z⟩, if_pos z]
  · rw [if_neg (fun w => z w.2), if_neg z]
theorem cof0 (hc : c < n) (h8 : n ≤ 8) (h0 : c ≠ 0) : cofF S n (nI c) 0 = ca S c 0 := by rw [cof hc h8, if_pos (by decide), if_pos (by decide), if_neg h0]; rfl
theorem cof2 (hc : c < n) (h8 : n ≤ 8) : cofF S n (nI c) 2 = ca S c 2 := by rw [cof hc h8, if_pos (by decide), if_neg (by decide), if_neg (by decide), if_neg (by decide), if_neg (by decide)]; rfl
theorem cof4 (hc : c < n) (h8 : n ≤ 8) (h0 : c ≠ 0) : cofF S n (nI c) 4 = ca S c 4 := by rw [cof hc h8, if_pos (by decide), if_pos (by decide), if_neg h0]; rfl
theorem cof5 (hc : c < n) (h8 : n ≤ 8) : cofF S n (nI c) 5 = if c ≠ 0 ∧ 0 ≤ ca S c 5 then ca S c 5 else -1000004 := by rw [cof hc h8, if_pos (by decide), if_neg (by decide), if_pos rfl]
theorem cof6 (hc : c < n) (h8 : n ≤ 8) : cofF S n (nI c) 6 = ofB (isB S false c) n := by rw [cof hc h8, if_pos (by decide), if_neg (by decide), if_neg (by decide), if_pos rfl]
theorem cof7 (hc : c < n) (h8 : n ≤ 8) : cofF S n (nI c) 7 = ca S c 6 := by rw [cof hc h8, if_pos (by decide), if_neg (by decide), if_neg (by decide), if_neg (by decide), if_pos (by decide)]; rfl
theorem cof8 (hc : c < n) (h8 : n ≤ 8) : cofF S n (nI c) 8 = ca S c 7 := by rw [cof hc h8, if_pos (by decide), if_neg (by decide), if_neg (by decide), if_neg (by decide), if_pos (by decide)]; rfl
theorem cof9 (hc : c < n) (h8 : n ≤ 8) : cofF S n (nI c) 9 = ca S c 8 := by rw [cof hc h8, if_pos (by decide), if_neg (by decide), if_neg (by decide), if_neg (by decide), if_pos (by decide)]; rfl
end FN
/-- where none calls, each may take -/
theorem mtF_all {S : SS} {m f : Nat} (hF : VF S m) (h10 : m ≤ 10) (h : cl S m = 0) : mtF S f m = true := by
  rw [cl_ofB hF m (Nat.le_refl _)] at h
  have hb : ∀ k, k < m → fi S k 5 ≠ 1 := fun k hk e => by
    have := ofB_bt (p := cls S) m (by omega) k (by omega)
    rw [h, b_0, decide_eq_true hk, Bool.true_and] at this
    unfold cls at this
    rw [decide_eq_true e] at this
    cases this
  have : ∀ i, i ≤ m → mtF S f i = true := by
    intro i
    induction i with
    | zero => intro _; rfl
    | succ i ih =>
      intro hi
      unfold mtF
      rw [ih (by omega), decide_eq_false (hb i (by omega))]
      rfl
  exact this m (Nat.le_refl _)
/-- what is below a canal is below its parent, and the canal itself too -/
theorem isB_par {S : SS} {n m t c : Nat} (hw : Wf S n m t) (h1 : 1 ≤ c) (hc : c < n) : isB S false (pa S c) c = true := by
  have hp : ∀ c, 1 ≤ c → c < n → pa S c < c := fun c a b => (hw.2.2.2.2.2.2.1 c a b).1
  rw [isB_eq hp hc hw.2.2.2.1.2, decide_eq_true (hp c h1 hc), decide_eq_true rfl]
  rfl
theorem isB_sub {S : SS} {n m t c : Nat} (hw : Wf S n m t) (h1 : 1 ≤ c) (hc : c < n) : ∀ x, x < n → isB S false c x = true → isB S false (pa S c) x = true := by
  have hp : ∀ c, 1 ≤ c → c < n → pa S c < c := fun c a b => (hw.2.2.2.2.2.2.1 c a b).1
  have h8 := hw.2.2.2.1.2
  intro x
  induction x using Nat.strongRecOn with
  | ind x ih =>
    intro hx h
    rw [isB_eq hp hx h8, Bool.and_eq_true, Bool.and_eq_true] at h
    have hcx := of_decide_eq_true h.1.1
    have hpx := hp x (by omega) hx
    have hpc := hp c h1 hc
    rw [isB_eq hp hx h8, decide_eq_true (show pa S c < x by omega)]
    have h2 := h.2
    rw [Bool.or_eq_true] at h2
    have : isB S false (pa S c) (pa S x) = true := by
      rcases h2 with e | e
      · rw [of_decide_eq_true e]; exact isB_par hw h1 hc
      · exact ih _ hpx (by omega) e
    rw [this]
    simp
theorem below_in {S : SS} {n m t c : Nat} (hw : Wf S n m t) (h1 : 1 ≤ c) (hc : c < n) : ((ofB (isB S false (pa S c)) n >>> (nI c &&& 31)) &&& 1) = 1 := by
  have h8 := hw.2.2.2.1.2
  rw [bit1 _ (by omega), ofB_bt n (by omega) c (by omega), decide_eq_true hc, isB_par hw h1 hc]
  rfl
theorem below_sub {S : SS} {n m t c : Nat} (hw : Wf S n m t) (h1 : 1 ≤ c) (hc : c < n) : (ofB (isB S false c) n &&& (ofB (isB S false (pa S c)) n ^^^ (-1 : Int32))) = 0 := by
  have h8 := hw.2.2.2.1.2
  refine bt_eq0 (fun k hk => ?_)
  rw [b_and, bt_not _ hk, ofB_bt n (by omega) k hk, ofB_bt n (by omega) k hk]
  by_cases e : k < n
  · rw [decide_eq_true e, Bool.true_and, Bool.true_and]
    cases h : isB S false c k
    · rfl
    · rw [isB_sub hw h1 hc k e h]; rfl
  · rw [decide_eq_false e]; rfl
