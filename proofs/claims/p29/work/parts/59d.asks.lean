/-! the class: what is asked of canals, fields, turns -/
/-- what an asking call leaves of the class -/
def CQ (M M' : Mm) (S : SS) (n m tt : Nat) : Prop := TR M' 1 S n m tt ∧ (∀ a, 47 ≤ a → a ≠ 141 → M' a = M a) ∧ M' 141 0 = M 141 0
theorem CQ_self {M : Mm} {S : SS} {n m tt : Nat} (h : TR M 1 S n m tt) : CQ M M S n m tt := ⟨h, fun _ _ _ => rfl, rfl⟩
theorem CQ_fro {M M' : Mm} {S : SS} {n m tt : Nat} (h : TR M 1 S n m tt) (hf : Fro M M' 24) : CQ M M' S n m tt :=
  ⟨h.of (fun j _ _ => by rw [hf 1 (by omega)]) (fun k _ _ => hf _ (by omega)), fun a h1 _ => hf a (by omega), by rw [hf 141 (by omega)]⟩
theorem sp0_below {Post : Mm → Int32 → Prop} {M : Mm} {t : Nat} {S : SS} {n m tt c : Nat} {x : Int32} (hT : TR M t S n m tt) (hw : Wf S n m tt) (hc : c < n) (hx : x = nI c) (h : Post M (ofB (isB S false c) n)) : wX0_below Post M (t + 1) x := by
  obtain ⟨w0, w1, w2, ⟨w3, w4⟩, w5, w6, w7, w8⟩ := hw
  have hp : ∀ c, 1 ≤ c → c < n → pa S c < c := fun c a b => (w7 c a b).1
  have e0 : M (t + 1) 0 = nI n := hT.2.1
  subst hx
  intro x2 e2 x3 e3
  subst e2
  rw [nI_1] at e3
  subst e3
  refine pk_loop (fun q i (y : Int32) => lX0_below_8 Post q M (t + 1) (nI c) y (nI i)) (fun i y => c + 1 ≤ i ∧ ∀ k, k < 32 → bt y k = (decide (k < i) && (decide (k = c) || isB S false c k))) n (c + 1) _ (by omega) ⟨Nat.le_refl _, fun k hk => ?_⟩ ?_ ?_
  · rw [bt_shl1 (by omega) hk]
    by_cases e : k = c
    · subst e; simp
    · rw [decide_eq_false e, Bool.false_or]
      by_cases l : k < c + 1
      · rw [isB_le hp (by omega) w4 (by omega), Bool.and_false]
      · rw [decide_eq_false l, Bool.false_and]
  · rintro q y ⟨-, hy⟩
    refine ⟨fun _ => ?_, fun z => absurd ?_ z⟩
    · have : y &&& (((1 : Int32) <<< (nI c &&& 31)) ^^^ (-1 : Int32)) = ofB (isB S false c) n := by
        refine ofB_of (by omega) (fun k hk => ?_)
        rw [b_and, bt_not _ hk, bt_shl1 (by omega) hk, hy k hk]
        by_cases e : k = c
        · subst e
          rw [isB_le hp hc w4 (Nat.le_refl _)]
          simp
        · rw [decide_eq_false e]; simp
      rw [this]; exact h
    · rw [e0]; exact nI_le (Nat.le_refl _) (by omega)
  · rintro q i y hi ⟨h1, hy⟩ ih
    have vi : vp_in (nI i) 8 := vp_in_nI (by omega) (by omega)
    have epar : M (t + 1 + 1) i = nI (pa S i) := by
      rw [← (w7 i (by omega) hi).2]
      exact hT.rd (k := 2) (j := i) (i := 10 + 9 * i + 0) (by unfold mp; omega)
    have hpi := hp i (by omega) hi
    refine ⟨fun z => absurd z ?_, fun _ => ⟨vi, ?_⟩⟩
    · rw [e0]; exact nI_ge hi (by omega)
    rw [ixn (by omega), epar]
    have eB : isB S false c i = bt y (pa S i) := by
      rw [isB_eq hp hi w4, hy _ (by omega), decide_eq_true (show c < i by omega), decide_eq_true hpi]
      rfl
    have stp : ∀ y', (∀ k, k < 32 → bt y' k = (bt y k || (isB S false c i && decide (k = i)))) → ∀ k, k < 32 → bt y' k = (decide (k < i + 1) && (decide (k = c) || isB S false c k)) := by
      intro y' hy' k hk
      rw [hy' k hk, hy k hk]
      by_cases e : k = i
      · subst e
        rw [decide_eq_false (show ¬ k < k by omega), decide_eq_true (show k < k + 1 by omega), decide_eq_false (show ¬ k = c by omega)]
        simp
      · rw [decide_eq_false e, Bool.and_false, Bool.or_false, decide_eq_decide.mpr (show k < i ↔ k < i + 1 by omega)]
    refine ⟨fun d x3 e3 => ?_, fun d x2 e2 x3 e3 => ?_⟩
    · rw [e3, nI_1]
      refine ih _ ⟨by omega, stp y (fun k hk => ?_)⟩
      rw [eB, (bt_and (by omega)).mp d]; simp
    · rw [e3, nI_1]
      refine ih _ ⟨by omega, stp x2 (fun k hk => ?_)⟩
      have : bt y (pa S i) = true := by
        cases hh : bt y (pa S i)
        · exact absurd ((bt_and (by omega)).mpr hh) d
        · rfl
      rw [e2, b_or, bt_shl1 (by omega) hk, eB, this, Bool.true_and]
theorem sp_num {Post : Mm → Int32 → Prop} {M : Mm} {b : Bool} (h : Post M (b2i b)) : wX6_asNumber Post M (b2i b) := by
  refine ⟨fun d => ?_, fun d => ?_⟩
  · rw [b2i_0.mp d] at h; exact h
  · rw [b2i_1.mp ((b2i_01 _).resolve_left d)] at h; exact h
theorem sp6_canalOf {Post : Mm → Int32 → Prop} {M : Mm} {S : SS} {n m tt : Nat} {x y : Int32} (hT : TR M 1 S n m tt) (hV : VV S n m tt) (h : ∀ M', CQ M M' S n m tt → Post M' (cofF S n x y)) : wX6_canalOf Post M 0 x y := by
  have q := h M (CQ_self hT)
  clear h
  obtain ⟨⟨hW, -, -, -, hO, -⟩, ⟨hK, -⟩, -⟩ := hV
  have h8 := hW.2.2.2.1.2
  have h1 := hW.2.2.2.1.1
  refine sp0_has (t := 1) hT h8 ⟨fun d => ?_, fun d => ?_⟩
  rotate_left
  · have : cofF S n x y = -1000001 := by unfold cofF; rw [if_neg (by rw [b2i_0.mp d]; rintro ⟨z, -⟩; cases z)]
    rw [this] at q; exact q
  have g1 := b2i_1.mp ((b2i_01 _).resolve_left d)
  obtain ⟨c, -, hc, ex⟩ := inr_of g1
  subst ex
  have vc : vp_in (nI c) 8 := vp_in_nI (by omega) (by omega)
  have hz : nI c = 0 ↔ c = 0 := ⟨fun z => nI_inj (by omega) (by omega) z, fun z => by rw [z]; rfl⟩
  have rd : ∀ k w, (2 ≤ k ∧ k ≤ 5 ∧ k = w + 2) ∨ (6 ≤ k ∧ k ≤ 9 ∧ k = w + 1) → M (1 + k) (ix (nI c)) = ca S c w := by
    intro k w hk
    rw [ixn (by omega)]
    rcases hk with hk | hk
    · exact hT.rd (k := k) (j := c) (i := 10 + 9 * c + w) (Or.inr (Or.inl ⟨hk.1, hk.2.1, hc, by omega⟩))
    · exact hT.rd (k := k) (j := c) (i := 10 + 9 * c + w) (Or.inr (Or.inr (Or.inl ⟨hk.1, hk.2.1, hc, by omega⟩)))
  unfold cofF at q
  rw [ixn (by omega)] at q
  have g : ∀ {P : Prop} [Decidable P] {a b : Int32}, P → (if inr 0 n (nI c) = true ∧ P then a else b) = a := fun p => if_pos ⟨g1, p⟩
  refine ⟨fun e => ?_, fun e0 => ⟨fun e => ?_, fun e1 => ⟨fun e => ?_, fun e2 => ⟨fun e => ?_, fun e3 => ⟨fun e => ?_, fun e4 => ⟨fun e => ?_, fun e5 => ⟨fun e => ?_, fun e6 => ⟨fun e => ?_, fun e7 => ⟨fun e => ?_, fun e8 => ⟨fun e => ?_, fun e9 => ?_⟩⟩⟩⟩⟩⟩⟩⟩⟩⟩
  · subst e
    rw [g (by decide), if_pos (by decide)] at q
    refine ⟨fun e => ⟨vc, ?_⟩, fun e => ?_⟩
    · rw [if_neg (fun z => e (hz.mpr z))] at q
      have := rd 2 0 (by omega)
      rw [show M (0 + 1 + 1 + 1) (ix (nI c)) = ca S c 0 from this]
      exact q
    · rw [if_pos (hz.mp e)] at q; exact q
  · subst e
    rw [g (by decide), if_pos (by decide)] at q
    refine ⟨fun e => ⟨vc, ?_⟩, fun e => ?_⟩
    · rw [if_neg (fun z => e (hz.mpr z))] at q
      have := rd 3 1 (by omega)
      rw [show M (0 + 1 + 1 + 2) (ix (nI c)) = ca S c 1 from this]
      exact q
    · rw [if_pos (hz.mp e)] at q; exact q
  · subst e
    rw [g (by decide), if_neg (by decide), if_neg (by decide), if_neg (by decide), if_neg (by decide)] at q
    rw [show M (0 + 1 + 1 + 3) (ix (nI c)) = ca S c 2 from rd 4 2 (by omega)]
    exact ⟨vc, q⟩
  · subst e
    rw [g (by decide), if_neg (by decide), if_neg (by decide), if_neg (by decide), if_neg (by decide)] at q
    rw [show M (0 + 1 + 1 + 4) (ix (nI c)) = ca S c 3 from rd 5 3 (by omega)]
    exact ⟨vc, q⟩
  · subst e
    rw [g (by decide), if_pos (by decide)] at q
    refine ⟨fun e => ?_, fun e => ?_⟩
    · rw [if_neg (fun z => e (hz.mpr z))] at q
      refine sp0_isOpen (t := 1) hT h8 hc rfl (sp_num ?_)
      have : ca S c (ix 4) = b2i (opn S c) := by
        show ca S c 4 = _
        unfold opn
        rcases hO.2 c hc with z | z
        · rw [z]; rfl
        · rw [z]; rfl
      rw [this] at q
      exact q
    · rw [if_pos (hz.mp e)] at q; exact q
  · subst e
    rw [g (by decide), if_neg (by decide), if_pos (by decide)] at q
    have r5 : M (0 + 1 + 1 + 5) (ix (nI c)) = ca S c 5 := rd 6 5 (by omega)
    have k5 := VK.iff hK hc
    refine sp0_isTended (t := 1) hT h8 hc rfl ⟨fun e => ?_, fun e => ⟨vc, ?_⟩⟩
    · rw [if_neg (fun z => of_decide_eq_false (b2i_0.mp e) (k5.mpr z.2))] at q
      exact q
    · have hne := of_decide_eq_true (b2i_1.mp ((b2i_01 _).resolve_left e))
      rw [if_pos ⟨fun z => by subst z; exact hne hK.1, k5.mp hne⟩] at q
      rw [r5]; exact q
  · subst e
    rw [g (by decide), if_neg (by decide), if_neg (by decide), if_pos (by decide)] at q
    exact sp0_below (t := 1) hT hW hc rfl q
  · subst e
    rw [g (by decide), if_neg (by decide), if_neg (by decide), if_neg (by decide), if_pos (by decide)] at q
    rw [show M (0 + 1 + 1 + 6) (ix (nI c)) = ca S c 6 from rd 7 6 (by omega)]
    exact ⟨vc, q⟩
  · subst e
    rw [g (by decide), if_neg (by decide), if_neg (by decide), if_neg (by decide), if_pos (by decide)] at q
    rw [show M (0 + 1 + 1 + 7) (ix (nI c)) = ca S c 7 from rd 8 7 (by omega)]
    exact ⟨vc, q⟩
  · subst e
    rw [g (by decide), if_neg (by decide), if_neg (by decide), if_neg (by decide), if_pos (by decide)] at q
    rw [show M (0 + 1 + 1 + 8) (ix (nI c)) = ca S c 8 from rd 9 8 (by omega)]
    exact ⟨vc, q⟩
  · rw [if_neg] at q
    · exact q
    · rintro ⟨-, z⟩
      obtain ⟨v, -, hv, ev⟩ := inr_of z
      have : v = 0 ∨ v = 1 ∨ v = 2 ∨ v = 3 ∨ v = 4 ∨ v = 5 ∨ v = 6 ∨ v = 7 ∨ v = 8 ∨ v = 9 := by omega
      rcases this with z | z | z | z | z | z | z | z | z | z <;> subst z
      · exact e0 ev
      · exact e1 ev
      · exact e2 ev
      · exact e3 ev
      · exact e4 ev
      · exact e5 ev
      · exact e6 ev
      · exact e7 ev
      · exact e8 ev
      · exact e9 ev
theorem sp6_turnOf {Post : Mm → Int32 → Prop} {M : Mm} {S : SS} {n m tt : Nat} {x y : Int32} (hT : TR M 1 S n m tt) (hV : VV S n m tt) (h : ∀ M', CQ M M' S n m tt → Post M' (tofF S tt x y)) : wX6_turnOf Post M 0 x y := by
  have q := h M (CQ_self hT)
  clear h
  have h8 := hV.1.le.2.2
  refine sp5_has (t := 1) hT h8 ⟨fun d => ?_, fun d => ?_⟩
  rotate_left
  · have : tofF S tt x y = -1000001 := by unfold tofF; rw [if_neg (by rw [b2i_0.mp d]; rintro ⟨z, -⟩; cases z)]
    rw [this] at q; exact q
  have g1 := b2i_1.mp ((b2i_01 _).resolve_left d)
  obtain ⟨c, -, hc, ex⟩ := inr_of g1
  subst ex
  have vc : vp_in (nI c) 8 := vp_in_nI (by omega) (by omega)
  unfold tofF at q
  rw [ixn (by omega)] at q
  refine ⟨fun e => ⟨vc, ?_⟩, fun e0 => ⟨fun e => ⟨vc, ?_⟩, fun e1 => ?_⟩⟩
  · subst e
    rw [if_pos ⟨g1, by decide⟩] at q
    have : M (0 + 1 + 18 + 1) (ix (nI c)) = S (152 + 2 * c) := by
      rw [ixn (by omega)]
      exact hT.rd (k := 19) (j := c) (i := 152 + 2 * c) (by unfold mp; omega)
    rw [this]; exact q
  · subst e
    rw [if_pos ⟨g1, by decide⟩] at q
    have : M (0 + 1 + 18 + 2) (ix (nI c)) = S (153 + 2 * c) := by
      rw [ixn (by omega)]
      exact hT.rd (k := 20) (j := c) (i := 153 + 2 * c) (by unfold mp; omega)
    rw [this, show 153 + 2 * c = 152 + 2 * c + 1 by omega]; exact q
  · rw [if_neg] at q
    · exact q
    · rintro ⟨-, z⟩
      obtain ⟨v, -, hv, ev⟩ := inr_of z
      have : v = 0 ∨ v = 1 := by omega
      rcases this with z | z <;> subst z
      · exact e0 ev
      · exact e1 ev
