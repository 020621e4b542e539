/-! the reference: what is asked -/
def ofB (p : Nat → Bool) : Nat → Int32
  | 0 => 0
  | k + 1 => if p k = true then ofB p k ||| ((1 : Int32) <<< (nI k &&& 31)) else ofB p k
theorem ofB_bt {p : Nat → Bool} : ∀ i, i ≤ 32 → ∀ k, k < 32 → bt (ofB p i) k = (decide (k < i) && p k) := by
  intro i
  induction i with
  | zero => intro _ k _; unfold ofB; rw [b_0]; simp
  | succ i ih =>
    intro hi k hk
    unfold ofB
    by_cases h : p i = true
    · rw [if_pos h, b_or, ih (by omega) k hk, bt_shl1 (by omega) hk]
      by_cases e : k = i
      · subst e; simp [h]
      · have : decide (k < i + 1) = decide (k < i) := decide_eq_decide.mpr (by omega)
        rw [this]; simp [e]
    · rw [if_neg h, ih (by omega) k hk]
      by_cases e : k = i
      · subst e; simp [h]
      · have : decide (k < i + 1) = decide (k < i) := decide_eq_decide.mpr (by omega)
        rw [this]
theorem ofB_of {p : Nat → Bool} {i : Nat} {x : Int32} (hi : i ≤ 32) (h : ∀ k, k < 32 → bt x k = (decide (k < i) && p k)) : x = ofB p i :=
  b_ext (fun k hk => by rw [h k hk, ofB_bt i hi k hk])
theorem ofB_succ {p : Nat → Bool} {i : Nat} : ofB p (i + 1) = if p i = true then ofB p i ||| ((1 : Int32) <<< (nI i &&& 31)) else ofB p i := rfl
theorem or_0 (x : Int32) : x ||| 0 = x := b_ext (fun k _ => by rw [b_or, b_0, Bool.or_false])
theorem isB_le {S : SS} {o : Bool} {top c n : Nat} (hp : ∀ c, 1 ≤ c → c < n → pa S c < c) (hc : c < n) (h8 : n ≤ 8) (h : c ≤ top) : isB S o top c = false := by
  rw [isB_eq hp hc h8, decide_eq_false (by omega)]; rfl
theorem sp7_below {Post : Mm → Int32 → Prop} {M : Mm} {n m t c : Nat} {x : Int32} (hw : Wf (M 144) n m t) (hc : c < n) (hx : x = nI c) (h : Post M (ofB (isB (M 144) false c) n)) : wX7_below Post M 143 x := by
  have hw0 := hw
  obtain ⟨w0, w1, w2, ⟨w3, w4⟩, w5, w6, w7, w8⟩ := hw
  subst hx
  intro x3 e3
  rw [e3, nI_1]
  have h0 : ∀ i, i ≤ c + 1 → ofB (isB (M 144) false c) i = 0 := by
    intro i
    induction i with
    | zero => intro _; rfl
    | succ k ih =>
      intro hk
      rw [ofB_succ, isB_le (n := n) (fun c h1 h2 => (w7 c h1 h2).1) (by omega) w4 (by omega), if_neg (by decide)]
      exact ih (by omega)
  refine pk_loop (fun q i (y : Int32) => lX7_below_6 Post q M 143 (nI c) y (nI i)) (fun i y => c + 1 ≤ i ∧ y = ofB (isB (M 144) false c) i) n (c + 1) 0 (by omega) ⟨Nat.le_refl _, (h0 _ (Nat.le_refl _)).symm⟩ ?_ ?_
  · rintro q y ⟨-, e⟩
    subst e
    refine ⟨fun _ => h, fun z => absurd ?_ z⟩
    show M 144 0 ≤ nI n
    rw [w0]; exact nI_le (Nat.le_refl _) (by omega)
  · rintro q i y hi ⟨hi1, e⟩ ih
    subst e
    refine ⟨fun z => absurd z ?_, fun _ => sp7_isBelow (c := i) (top := c) (o := false) hw0 hi hc rfl rfl rfl ⟨fun d x2 e2 x3 e3 => ?_, fun d x2 e2 x3 e3 => ?_⟩⟩
    · show ¬ M 144 0 ≤ nI i
      rw [w0]; exact nI_ge hi (by omega)
    · rw [e3, nI_1, e2, or_0]
      refine ih _ ⟨by omega, ?_⟩
      rw [ofB_succ, b2i_0.mp d, if_neg (by decide)]
    · rw [e3, nI_1, e2]
      refine ih _ ⟨by omega, ?_⟩
      rw [ofB_succ, b2i_1.mp ((b2i_01 _).resolve_left d), if_pos rfl]
def cofF (S : SS) (n : Nat) (x y : Int32) : Int32 :=
  if inr 0 n x = true ∧ inr 0 10 y = true then
    (if y = 0 ∨ y = 1 ∨ y = 4 then (if ix x = 0 then -1000004 else ca S (ix x) (ix y))
     else if y = 5 then (if ix x ≠ 0 ∧ 0 ≤ ca S (ix x) 5 then ca S (ix x) 5 else -1000004)
     else if y = 6 then ofB (isB S false (ix x)) n
     else if y = 7 ∨ y = 8 ∨ y = 9 then ca S (ix x) (ix y - 1)
     else ca S (ix x) (ix y))
  else -1000001
theorem sp7_canalOf {Post : Mm → Int32 → Prop} {M : Mm} {n m t : Nat} {x y : Int32} (hw : Wf (M 144) n m t) (h : Post M (cofF (M 144) n x y)) : wX7_canalOf Post M 143 x y := by
  have hw0 := hw
  obtain ⟨w0, w1, w2, ⟨w3, w4⟩, w5, w6, w7, w8⟩ := hw
  refine sp7_isCanal w0 w4 ⟨fun d => ?_, fun d => sp7_inr (a := 0) (b := 10) (by decide) (by decide) ⟨fun d2 => ?_, fun d2 => ?_⟩⟩
  · unfold cofF at h
    rw [if_neg (by rw [b2i_0.mp d]; rintro ⟨z, -⟩; cases z)] at h
    exact h
  · have g1 := b2i_1.mp ((b2i_01 _).resolve_left d)
    have g2 := b2i_1.mp ((b2i_01 _).resolve_left d2)
    unfold cofF at h
    rw [if_pos ⟨g1, g2⟩] at h
    obtain ⟨c, -, hc, ex⟩ := inr_of g1
    obtain ⟨v, -, hv, ey⟩ := inr_of g2
    subst ex
    subst ey
    rw [ixn (by omega), ixn (by omega)] at h
    have key : ∀ t0 : Int32, (t0 = 0 ↔ c = 0) → bX7_canalOf_30 Post M 143 (nI c) (nI v) t0 := by
      intro t0 ht
      have f88 : (nI v = 0 ∨ nI v = 1 ∨ nI v = 4) → bX7_canalOf_88 Post M 143 (nI c) (nI v) t0 := by
        intro z
        rw [if_pos z] at h
        refine ⟨fun e => ?_, fun e => sp7_ca (c := c) (w := v) rfl rfl (by omega) ?_ ?_⟩
        · rw [if_pos (ht.mp e)] at h
          exact h
        · have q0 : v = 0 ∨ v = 1 ∨ v = 4 := z.imp (fun e => nI_inj (by omega) (by omega) e) (fun z => z.imp (fun e => nI_inj (by omega) (by omega) e) (fun e => nI_inj (by omega) (by omega) e))
          omega
        · rw [if_neg (fun z => e (ht.mpr z))] at h
          exact h
      refine ⟨fun e => f88 (Or.inl e), fun n0 => ⟨fun e => f88 (Or.inr (Or.inl e)), fun n1 => ?_⟩⟩
      have f144 : v = 2 ∨ v = 3 → bX7_canalOf_144 Post M 143 (nI c) (nI v) := by
        intro z
        rw [if_neg (by rcases z with e | e <;> subst e <;> decide), if_neg (by rcases z with e | e <;> subst e <;> decide), if_neg (by rcases z with e | e <;> subst e <;> decide), if_neg (by rcases z with e | e <;> subst e <;> decide)] at h
        exact sp7_ca (c := c) (w := v) rfl rfl (by omega) (by omega) h
      have f135 : v = 7 ∨ v = 8 ∨ v = 9 → bX7_canalOf_135 Post M 143 (nI c) (nI v) := by
        intro z
        rw [if_neg (by rcases z with e | e | e <;> subst e <;> decide), if_neg (by rcases z with e | e | e <;> subst e <;> decide), if_neg (by rcases z with e | e | e <;> subst e <;> decide), if_pos (by rcases z with e | e | e <;> subst e <;> decide)] at h
        refine sp7_ca (c := c) (w := v - 1) rfl ?_ (by omega) (by omega) h
        rcases z with e | e | e <;> subst e <;> rfl
      have inj (k : Nat) (hk : k < 100) (e : nI v = nI k) : v = k := nI_inj (by omega) (by omega) e
      refine ⟨fun e => f144 (Or.inl (inj 2 (by omega) e)), fun n2 => ⟨fun e => f144 (Or.inr (inj 3 (by omega) e)), fun n3 => ⟨fun e => f88 (Or.inr (Or.inr e)), fun n4 => ⟨fun e => ?_, fun n5 => ⟨fun e => ?_, fun n6 => ⟨fun e => f135 (Or.inl (inj 7 (by omega) e)), fun n7 => ⟨fun e => f135 (Or.inr (Or.inl (inj 8 (by omega) e))), fun n8 => ⟨fun e => f135 (Or.inr (Or.inr (inj 9 (by omega) e))), fun n9 => ?_⟩⟩⟩⟩⟩⟩⟩⟩
      · have ev := inj 5 (by omega) e
        subst ev
        rw [if_neg (by decide), if_pos e] at h
        refine ⟨fun z => ?_, fun z => sp7_ca (c := c) (w := 5) rfl rfl (by omega) (by omega) ⟨fun z2 => ?_, fun z2 => sp7_ca (c := c) (w := 5) rfl rfl (by omega) (by omega) ?_⟩⟩
        · rw [if_neg (fun q => q.1 (ht.mp z))] at h
          exact h
        · rw [if_neg (fun q => absurd z2 (Int32.not_lt.mpr q.2))] at h
          exact h
        · rw [if_pos ⟨fun q => z (ht.mpr q), Int32.not_lt.mp z2⟩] at h
          exact h
      · have ev := inj 6 (by omega) e
        subst ev
        rw [if_neg (by decide), if_neg (by decide), if_pos e] at h
        exact sp7_below hw0 hc rfl h
      · exfalso
        have ne (k : Nat) (e : ¬ nI v = nI k) : v ≠ k := fun z => e (by rw [z])
        have a0 := ne 0 n0; have a1 := ne 1 n1; have a2 := ne 2 n2; have a3 := ne 3 n3; have a4 := ne 4 n4
        have a5 := ne 5 n5; have a6 := ne 6 n6; have a7 := ne 7 n7; have a8 := ne 8 n8; have a9 := ne 9 n9
        omega
    refine ⟨fun e => key 0 ⟨fun _ => ?_, fun _ => rfl⟩, fun e => key 1 ⟨fun z => absurd z (by decide), fun z => absurd ?_ e⟩⟩
    · rcases Nat.eq_zero_or_pos c with z | z
      · exact z
      · exact absurd e (nI_ge z (by omega))
    · subst z; decide
  · unfold cofF at h
    rw [if_neg (by rw [b2i_0.mp d2]; rintro ⟨-, z⟩; cases z)] at h
    exact h
def fofF (S : SS) (m : Nat) (x y : Int32) : Int32 :=
  if inr 0 m x = true ∧ inr 0 8 y = true then
    (if y = 6 then b2i (mtF S (ix x) m) else if y = 7 then (if wt S (ix x) = true then -1000004 else fi S (ix x) 6) else fi S (ix x) (ix y))
  else -1000001
theorem sp7_fieldOf {Post : Mm → Int32 → Prop} {M : Mm} {n m t : Nat} {x y : Int32} (hw : Wf (M 144) n m t) (h : Post M (fofF (M 144) m x y)) : wX7_fieldOf Post M 143 x y := by
  have hw0 := hw
  obtain ⟨w0, w1, w2, ⟨w3, w4⟩, w5, w6, w7, w8⟩ := hw
  refine sp7_isField w1 w5 ⟨fun d => ?_, fun d => sp7_inr (a := 0) (b := 8) (by decide) (by decide) ⟨fun d2 => ?_, fun d2 => ?_⟩⟩
  · unfold fofF at h
    rw [if_neg (by rw [b2i_0.mp d]; rintro ⟨z, -⟩; cases z)] at h
    exact h
  · have g1 := b2i_1.mp ((b2i_01 _).resolve_left d)
    have g2 := b2i_1.mp ((b2i_01 _).resolve_left d2)
    unfold fofF at h
    rw [if_pos ⟨g1, g2⟩] at h
    obtain ⟨f, -, hf, ex⟩ := inr_of g1
    obtain ⟨v, -, hv, ey⟩ := inr_of g2
    subst ex
    subst ey
    rw [ixn (by omega), ixn (by omega)] at h
    refine ⟨fun e => ?_, fun n6 => ⟨fun e => ?_, fun n7 => ?_⟩⟩
    · rw [if_pos e] at h
      refine sp7_mayTake hw0 hf rfl ⟨fun z => ?_, fun z => ?_⟩
      · rw [z] at h; exact h
      · rw [(b2i_01 _).resolve_left z] at h; exact h
    · rw [if_neg n6, if_pos e] at h
      refine sp7_wants (f := f) rfl (by omega) ⟨fun z => sp7_fi (f := f) (w := 6) rfl rfl (by omega) (by omega) ?_, fun z => ?_⟩
      · rw [b2i_0.mp z, if_neg (by decide)] at h; exact h
      · rw [b2i_1.mp ((b2i_01 _).resolve_left z), if_pos rfl] at h; exact h
    · rw [if_neg n6, if_neg n7] at h
      refine sp7_fi (f := f) (w := v) rfl rfl (by omega) ?_ h
      have a6 : v ≠ 6 := fun z => n6 (by rw [z]; rfl)
      have a7 : v ≠ 7 := fun z => n7 (by rw [z]; rfl)
      omega
  · unfold fofF at h
    rw [if_neg (by rw [b2i_0.mp d2]; rintro ⟨-, z⟩; cases z)] at h
    exact h
def tofF (S : SS) (t : Nat) (x y : Int32) : Int32 := if inr 0 t x = true ∧ inr 0 2 y = true then S (152 + 2 * ix x + ix y) else -1000001
theorem sp7_turnOf {Post : Mm → Int32 → Prop} {M : Mm} {n m t : Nat} {x y : Int32} (hw : Wf (M 144) n m t) (h : Post M (tofF (M 144) t x y)) : wX7_turnOf Post M 143 x y := by
  obtain ⟨w0, w1, w2, ⟨w3, w4⟩, w5, w6, w7, w8⟩ := hw
  have e2 : M (143 + 1) 2 = nI t := w2
  unfold wX7_turnOf
  rw [e2]
  refine sp7_inr (a := 0) (b := t) (by decide) (sub1_toInt (by omega)) ⟨fun d => ?_, fun d => sp7_inr (a := 0) (b := 2) (by decide) (by decide) ⟨fun d2 => ?_, fun d2 => ?_⟩⟩
  · unfold tofF at h
    rw [if_neg (by rw [b2i_0.mp d]; rintro ⟨z, -⟩; cases z)] at h
    exact h
  · unfold tofF at h
    rw [if_neg (by rw [b2i_0.mp d2]; rintro ⟨-, z⟩; cases z)] at h
    exact h
  · have g1 := b2i_1.mp ((b2i_01 _).resolve_left d)
    have g2 := b2i_1.mp ((b2i_01 _).resolve_left d2)
    unfold tofF at h
    rw [if_pos ⟨g1, g2⟩] at h
    obtain ⟨f, -, hf, ex⟩ := inr_of g1
    obtain ⟨v, -, hv, ey⟩ := inr_of g2
    subst ex
    subst ey
    rw [ixn (by omega), ixn (by omega)] at h
    have e : (152 : Int32) + 2 * nI f + nI v = nI (152 + 2 * f + v) := by
      show nI 152 + nI 2 * nI f + nI v = _
      rw [nI_mul, nI_add, nI_add]
    rw [e, ixn (by omega)]
    exact ⟨vp_in_nI (by omega) (by omega), h⟩
