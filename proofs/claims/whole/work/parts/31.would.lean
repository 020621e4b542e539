/-! the reference: what would be -/
theorem rest {M : Mm} {S' : SS} (h : ∀ i, 168 ≤ i → S' i = M 144 i) : mcp (st (mcp M 144 147 168) S') 147 144 168 = mcp M 144 147 168 := by
  funext a
  by_cases ha : a = 144
  · subst ha
    funext i
    rw [mcpo (a := 144) (jd := 147) (by omega)]
    unfold mcp
    rw [if_pos rfl]
    by_cases hi : i < 168
    · show (if i < 168 then st _ S' 147 i else _) = _
      rw [if_pos hi, st_o (by omega)]
      show (if i < 168 then M 144 i else _) = _
      rw [if_pos hi]
    · show (if i < 168 then st _ S' 147 i else st _ S' 144 i) = _
      rw [if_neg hi, st_s]
      exact h i (by omega)
  · rw [mcpo ha, st_o ha]
theorem sp7_rest {Post : Mm → Prop} {M : Mm} {S' : SS} (hi : ∀ i, 168 ≤ i → S' i = M 144 i) (h : Post (mcp M 144 147 168)) : wX7_restores Post (st (mcp M 144 147 168) S') 143 := by
  refine sp7_restores ?_
  rw [rest hi]
  exact h
def wdS (S : SS) (n m : Nat) (g b : Int32) : SS := flowF (setO S g n) n m b
def wdF (S : SS) (n m : Nat) (g b y : Int32) : Int32 :=
  if agF n g = true ∧ inr 0 1000 b = true ∧ (inr 0 3 y = true ∨ (10 ≤ y ∧ inr 0 m (y - 10) = true)) then
    (if 10 ≤ y then wdS S n m g b (86 + 7 * ix (y - 10)) - S (86 + 7 * ix (y - 10)) else wdS S n m g b (7 + ix y) - S (7 + ix y))
  else -1000001
theorem wdS_hi {S : SS} {n m t : Nat} {g b : Int32} (hw : Wf S n m t) {i : Nat} (hi : 152 ≤ i) : wdS S n m g b i = S i := by
  unfold wdS
  rw [flowF_hi hw.2.2.2.1.2 hw.2.2.2.2.1 hi, setO_o n (fun g' _ _ => by have := hw.2.2.2.1.2; omega)]
theorem sp7_would {Post : Mm → Int32 → Prop} {M : Mm} {n m t : Nat} {g b y : Int32} (hw : Wf (M 144) n m t) (h : ∀ M', (∀ a, a ≠ 147 → M' a = M a) → Post M' (wdF (M 144) n m g b y)) : wX7_would Post M 143 g b y := by
  have hw0 := hw
  obtain ⟨w0, w1, w2, ⟨w3, w4⟩, w5, w6, w7, w8⟩ := hw
  have bad : ¬ (agF n g = true ∧ inr 0 1000 b = true ∧ (inr 0 3 y = true ∨ (10 ≤ y ∧ inr 0 m (y - 10) = true))) → Post M (-1000001) := by
    intro z
    have := h M (fun _ _ => rfl)
    unfold wdF at this
    rw [if_neg z] at this
    exact this
  have good : (agF n g = true ∧ inr 0 1000 b = true ∧ (inr 0 3 y = true ∨ (10 ≤ y ∧ inr 0 m (y - 10) = true))) → bX7_would_48 Post M 143 g b y := by
    intro z
    have eP : mcp M 144 147 168 144 = M 144 := mcpo (by omega)
    refine sp7_puts (sp7_sets (n := n) (by rw [eP]; exact w0) w3 w4 ?_)
    rw [eP]
    refine sp7_flows (n := n) (m := m) (t := t) (by rw [st_s]; exact Wf_setO hw0 w4) ?_
    rw [st_s (M := mcp M 144 147 168) (S := setO (M 144) g n), st_st]
    show (10 ≤ y → bX7_would_88 Post (st (mcp M 144 147 168) (wdS (M 144) n m g b)) 143 _) ∧ (¬ 10 ≤ y → bX7_would_88 Post (st (mcp M 144 147 168) (wdS (M 144) n m g b)) 143 _)
    have hP := h (mcp M 144 147 168) (fun a ha => mcpo ha)
    unfold wdF at hP
    rw [if_pos z] at hP
    have f88 : ∀ (p : Nat) (x : Int32), p < 152 → x = nI p → (Post (mcp M 144 147 168) (wdS (M 144) n m g b p - M 144 p)) → bX7_would_88 Post (st (mcp M 144 147 168) (wdS (M 144) n m g b)) 143 x := by
      intro p x hp ex hh
      subst ex
      refine ⟨vp_in_nI (by omega) (by omega), vp_in_nI (by omega) (by omega), fun x5 e5 => sp7_rest (fun i hi => wdS_hi hw0 (by omega)) ?_⟩
      rw [ixn (by omega)] at e5
      rw [e5]
      show Post _ (st _ _ 144 p - st _ _ 147 p)
      rw [st_s, st_o (by omega), mcps (by omega)]
      exact hh
    refine ⟨fun d => ?_, fun d => ?_⟩
    · rw [if_pos d] at hP
      obtain ⟨f, -, hf, ef⟩ := inr_of (show inr 0 m (y - 10) = true by
        rcases z.2.2 with e | e
        · exfalso
          obtain ⟨k, -, k2, ek⟩ := inr_of e
          subst ek
          exact absurd d (nI_ge (b := 10) (show k < 10 by omega) (by decide))
        · exact e.2)
      rw [ef, ixn (by omega)] at hP
      rw [ef]
      refine f88 (86 + 7 * f) _ (by omega) ?_ hP
      show nI 82 + nI 7 * nI f + nI 4 = _
      rw [nI_mul, nI_add, nI_add]
      congr 1; omega
    · rw [if_neg d] at hP
      obtain ⟨k, -, k2, ek⟩ := inr_of (show inr 0 3 y = true from z.2.2.elim id (fun e => absurd e.1 d))
      subst ek
      rw [ixn (by omega)] at hP
      exact f88 (7 + k) _ (by omega) (nI_add 7 k) hP
  refine sp7_areGates w0 w3 w4 ⟨fun d => bad (by rw [b2i_0.mp d]; rintro ⟨z, -⟩; cases z), fun d => sp7_inr (a := 0) (b := 1000) (by decide) (by decide) ⟨fun d2 => bad (by rw [b2i_0.mp d2]; rintro ⟨-, z, -⟩; cases z), fun d2 => sp7_inr (a := 0) (b := 3) (by decide) (by decide) ⟨fun d3 => good ⟨b2i_1.mp ((b2i_01 _).resolve_left d), b2i_1.mp ((b2i_01 _).resolve_left d2), Or.inl (b2i_1.mp ((b2i_01 _).resolve_left d3))⟩, fun d3 => ⟨fun c => bad ?_, fun c => sp7_isField w1 w5 ⟨fun d4 => good ⟨b2i_1.mp ((b2i_01 _).resolve_left d), b2i_1.mp ((b2i_01 _).resolve_left d2), Or.inr ⟨Int32.not_lt.mp c, b2i_1.mp ((b2i_01 _).resolve_left d4)⟩⟩, fun d4 => bad ?_⟩⟩⟩⟩⟩
  · rintro ⟨-, -, z | z⟩
    · rw [b2i_0.mp d3] at z; cases z
    · exact absurd c (Int32.not_lt.mpr z.1)
  · rintro ⟨-, -, z | z⟩
    · rw [b2i_0.mp d3] at z; cases z
    · rw [b2i_0.mp d4] at z; cases z.2
def hgF (S : SS) (x : Int32) : Nat → Bool
  | 0 => true
  | f + 1 => hgF S x f && (!bt x f || !wt S f)
theorem sp7_haveGot {Post : Mm → Int32 → Prop} {M : Mm} {m : Nat} {x : Int32} (w1 : M 144 1 = nI m) (h10 : m ≤ 10) (h : Post M (b2i (hgF (M 144) x m))) : wX7_haveGot Post M 143 x := by
  show ∃ q : Nat, lX7_haveGot_4 Post q M 143 x 1 (nI 0)
  refine pk_loop (fun q i (y : Int32) => lX7_haveGot_4 Post q M 143 x y (nI i)) (fun i y => y = b2i (hgF (M 144) x i)) m 0 1 (by omega) rfl ?_ ?_
  · intro q y e
    subst e
    refine ⟨fun _ => ⟨b2i_01 _, h⟩, fun z => absurd ?_ z⟩
    show M 144 1 ≤ nI m
    rw [w1]; exact nI_le (Nat.le_refl _) (by omega)
  · intro q i y hi e ih
    subst e
    have es : hgF (M 144) x (i + 1) = (hgF (M 144) x i && (!bt x i || !wt (M 144) i)) := rfl
    refine ⟨fun z => absurd z ?_, fun _ => ⟨fun d x3 e3 => ?_, fun d => ⟨fun c x3 e3 => ?_, fun c => sp7_wants (f := i) rfl (by omega) ⟨fun d2 x3 e3 => ?_, fun d2 x3 e3 => ?_⟩⟩⟩⟩
    · show ¬ M 144 1 ≤ nI i
      rw [w1]; exact nI_ge hi (by omega)
    · rw [e3, nI_1]
      refine ih _ ?_
      rw [es, b2i_0.mp d]; rfl
    · rw [e3, nI_1]
      refine ih _ ?_
      rw [bit1 x (by omega)] at c
      rw [es, b2i_1.mp ((b2i_01 _).resolve_left d), b2i_0.mp c]; rfl
    · rw [e3, nI_1]
      refine ih _ ?_
      rw [bit1 x (by omega)] at c
      rw [es, b2i_1.mp ((b2i_01 _).resolve_left d), b2i_1.mp ((b2i_01 _).resolve_left c), b2i_1.mp ((b2i_01 _).resolve_left d2)]; rfl
    · rw [e3, nI_1]
      refine ih _ ?_
      rw [es, b2i_1.mp ((b2i_01 _).resolve_left d), b2i_0.mp d2]; simp [b2i]
def flN (S : SS) (n m : Nat) (b : Int32) : Nat → SS
  | 0 => S
  | k + 1 => flowF (flN S n m b k) n m b
theorem Wf_flN {S : SS} {n m t : Nat} {b : Int32} (hw : Wf S n m t) : ∀ k, Wf (flN S n m b k) n m t := by
  intro k
  induction k with
  | zero => exact hw
  | succ k ih => exact Wf_flow ih
theorem flN_hi {S : SS} {n m t : Nat} {b : Int32} (hw : Wf S n m t) {i : Nat} (hi : 152 ≤ i) : ∀ k, flN S n m b k i = S i := by
  intro k
  induction k with
  | zero => rfl
  | succ k ih =>
    show flowF _ n m b i = _
    rw [flowF_hi hw.2.2.2.1.2 hw.2.2.2.2.1 hi, ih]
def lgS (S : SS) (n m : Nat) (x b : Int32) (h g : Nat) : Bool := hgF (flN (setO S (nI g) n) n m b h) x m
def lgF (S : SS) (n m : Nat) (x b : Int32) (h : Nat) : Nat → Int32
  | 0 => -1000004
  | k + 1 => if (lgF S n m x b h k < 0 ∨ onF (nI (2 * k)) 10 < onF (lgF S n m x b h k) 10) ∧ lgS S n m x b h (2 * k) = true then nI (2 * k) else lgF S n m x b h k
def lstF (S : SS) (n m : Nat) (x b h : Int32) : Int32 := if inr 0 (2 ^ m) x = true ∧ inr 0 1000 b = true ∧ inr 1 6 h = true then lgF S n m x b (ix h) (2 ^ (n - 1)) else -1000001
theorem pow_le {a b : Nat} (h : a ≤ b) : 2 ^ a ≤ 2 ^ b := Nat.pow_le_pow_right (by omega) h
theorem sp7_leastGates {Post : Mm → Int32 → Prop} {M : Mm} {n m t : Nat} {x b h : Int32} (hw : Wf (M 144) n m t) (hP : ∀ M', (∀ a, a ≠ 147 → M' a = M a) → Post M' (lstF (M 144) n m x b h)) : wX7_leastGates Post M 143 x b h := by
  have hw0 := hw
  obtain ⟨w0, w1, w2, ⟨w3, w4⟩, w5, w6, w7, w8⟩ := hw
  have p10 : 2 ^ m ≤ 1024 := pow_le (b := 10) w5
  have bad : ¬ (inr 0 (2 ^ m) x = true ∧ inr 0 1000 b = true ∧ inr 1 6 h = true) → Post M (-1000001) := by
    intro z
    have := hP M (fun _ _ => rfl)
    unfold lstF at this
    rw [if_neg z] at this
    exact this
  have e1 : ((1 : Int32) <<< ((M (143 + 1) 1) &&& 31)) - 1 = nI (2 ^ m) - 1 := by
    rw [show M (143 + 1) 1 = nI m from w1, shl1 (by omega)]
  unfold wX7_leastGates
  rw [e1]
  have e2 : (nI (2 ^ m) - (1 : Int32)).toInt = ((2 ^ m : Nat) : Int) - 1 := by
    have hp : 0 < 2 ^ m := Nat.pow_pos (by omega)
    obtain ⟨k, hk⟩ : ∃ k, 2 ^ m = k + 1 := ⟨2 ^ m - 1, by omega⟩
    rw [hk, nI_m1, nI_toInt (by omega)]; omega
  refine sp7_inr (a := 0) (b := 2 ^ m) (by decide) e2 ⟨fun d => bad (by rw [b2i_0.mp d]; rintro ⟨z, -⟩; cases z), fun d => sp7_inr (a := 0) (b := 1000) (by decide) (by decide) ⟨fun d2 => bad (by rw [b2i_0.mp d2]; rintro ⟨-, z, -⟩; cases z), fun d2 => sp7_inr (a := 1) (b := 6) (by decide) (by decide) ⟨fun d3 => ?_, fun d3 => bad (by rw [b2i_0.mp d3]; rintro ⟨-, -, z⟩; cases z)⟩⟩⟩
  have g3 := b2i_1.mp ((b2i_01 _).resolve_left d3)
  have eP : mcp M 144 147 168 144 = M 144 := mcpo (by omega)
  have hh := hP (mcp M 144 147 168) (fun a ha => mcpo ha)
  unfold lstF at hh
  rw [if_pos ⟨b2i_1.mp ((b2i_01 _).resolve_left d), b2i_1.mp ((b2i_01 _).resolve_left d2), g3⟩] at hh
  obtain ⟨hr, hr1, hr2, ehr⟩ := inr_of g3
  subst ehr
  rw [ixn (by omega)] at hh
  refine sp7_puts ?_
  have p8 : 2 ^ (n - 1) ≤ 128 := pow_le (b := 7) (by omega)
  have en : (1 : Int32) <<< ((mcp M 144 147 168 (143 + 1) 0) &&& 31) = nI (2 * 2 ^ (n - 1)) := by
    rw [show mcp M 144 147 168 (143 + 1) 0 = nI n by show mcp M 144 147 168 144 0 = _; rw [eP, w0], shl1 (by omega)]
    congr 1
    obtain ⟨k, hk⟩ : ∃ k, n = k + 1 := ⟨n - 1, by omega⟩
    subst hk
    rw [Nat.pow_succ, Nat.add_sub_cancel, Nat.mul_comm]
  show ∃ q : Nat, lX7_leastGates_52 Post q (mcp M 144 147 168) 143 x b (nI hr) (-1000004) (nI (2 * 0))
  refine pk_loop (fun q i (y : Int32) => lX7_leastGates_52 Post q (mcp M 144 147 168) 143 x b (nI hr) y (nI (2 * i))) (fun i y => y = lgF (M 144) n m x b hr i) (2 ^ (n - 1)) 0 (-1000004) (Nat.zero_le _) rfl ?_ ?_
  · intro q y e
    subst e
    refine ⟨fun _ => hh, fun z => absurd ?_ z⟩
    rw [en]; exact nI_le (Nat.le_refl _) (by omega)
  · intro q i y hi e ih
    subst e
    have next : ∀ v, v = lgF (M 144) n m x b hr (i + 1) → ∀ x5, x5 = nI (2 * i) + 2 → lX7_leastGates_52 Post q (mcp M 144 147 168) 143 x b (nI hr) v x5 := by
      intro v ev x5 e5
      rw [e5, show nI (2 * i) + 2 = nI (2 * (i + 1)) from nI_add (2 * i) 2]
      exact ih v ev
    have es : lgF (M 144) n m x b hr (i + 1) = if (lgF (M 144) n m x b hr i < 0 ∨ onF (nI (2 * i)) 10 < onF (lgF (M 144) n m x b hr i) 10) ∧ lgS (M 144) n m x b hr (2 * i) = true then nI (2 * i) else lgF (M 144) n m x b hr i := rfl
    have f83 : (lgF (M 144) n m x b hr i < 0 ∨ onF (nI (2 * i)) 10 < onF (lgF (M 144) n m x b hr i) 10) → bX7_leastGates_83 Post (lX7_leastGates_52 Post q) (mcp M 144 147 168) 143 x b (nI hr) (lgF (M 144) n m x b hr i) (nI (2 * i)) := by
      intro hc
      refine sp7_sets (n := n) (by rw [eP]; exact w0) w3 w4 ?_
      rw [eP]
      have hws : Wf (setO (M 144) (nI (2 * i)) n) n m t := Wf_setO hw0 w4
      show ∃ q' : Nat, lX7_leastGates_92 Post (lX7_leastGates_52 Post q) q' (st (mcp M 144 147 168) (setO (M 144) (nI (2 * i)) n)) 143 x b (nI hr) (lgF (M 144) n m x b hr i) (nI (2 * i)) (nI 0)
      refine pk_loop (fun q' k (T : SS) => lX7_leastGates_92 Post (lX7_leastGates_52 Post q) q' (st (mcp M 144 147 168) T) 143 x b (nI hr) (lgF (M 144) n m x b hr i) (nI (2 * i)) (nI k)) (fun k T => T = flN (setO (M 144) (nI (2 * i)) n) n m b k) hr 0 _ (by omega) rfl ?_ ?_
      · intro q' T eT
        subst eT
        have hwT := Wf_flN (b := b) hws hr
        have hT : ∀ i', 168 ≤ i' → flN (setO (M 144) (nI (2 * i)) n) n m b hr i' = M 144 i' := by
          intro i' hi'
          rw [flN_hi hws (by omega), setO_o n (fun g' _ _ => by omega)]
        refine ⟨fun _ => sp7_haveGot (m := m) (by rw [st_s]; exact hwT.2.1) w5 ?_, fun z => absurd (nI_le (Nat.le_refl _) (by omega)) z⟩
        rw [st_s]
        refine ⟨fun d => ?_, fun d => ?_⟩
        · refine sp7_rest hT (fun x5 e5 => next _ ?_ _ e5)
          rw [es, if_neg]
          rintro ⟨-, z⟩
          unfold lgS at z
          rw [z] at d
          cases d
        · refine sp7_rest hT (fun x5 e5 => next _ ?_ _ e5)
          rw [es, if_pos ⟨hc, b2i_1.mp ((b2i_01 _).resolve_left d)⟩]
      · intro q' k T hk eT ih2
        subst eT
        have hwT := Wf_flN (b := b) hws k
        refine ⟨fun z => absurd z (nI_ge hk (by omega)), fun _ => sp7_flows (n := n) (m := m) (t := t) (by rw [st_s]; exact hwT) (fun x6 e6 => ?_)⟩
        rw [e6, nI_1, st_s, st_st]
        exact ih2 _ rfl
    refine ⟨fun z => absurd z ?_, fun _ => ⟨fun d => f83 (Or.inl d), fun d => sp7_ones (sp7_ones ⟨fun c x5 e5 => next _ ?_ _ e5, fun c => f83 (Or.inr (Int32.not_le.mp c))⟩)⟩⟩
    · rw [en]; exact nI_ge (by omega) (by omega)
    · rw [es, if_neg]
      rintro ⟨z | z, -⟩
      · exact d z
      · exact absurd z (Int32.not_lt.mpr c)
/-- the first that holds -/
def fst (P : Nat → Bool) : Nat → Option Nat
  | 0 => none
  | k + 1 => match fst P k with
    | some j => some j
    | none => if P k = true then some k else none
theorem fst_none {P : Nat → Bool} : ∀ {N : Nat}, (∀ j, j < N → P j = false) → fst P N = none := by
  intro N
  induction N with
  | zero => intro _; rfl
  | succ k ih => intro h; unfold fst; rw [ih (fun j hj => h j (by omega)), h k (by omega)]; rfl
theorem fst_some {P : Nat → Bool} {k : Nat} (h : ∀ j, j < k → P j = false) (hk : P k = true) : ∀ {N : Nat}, k < N → fst P N = some k := by
  intro N
  induction N with
  | zero => intro _; omega
  | succ i ih =>
    intro hi
    unfold fst
    by_cases e : i = k
    · subst e; rw [fst_none h, if_pos hk]
    · rw [ih (by omega)]
def o2n (r : Option Nat) : Int32 := match r with | none => -1000004 | some g => nI g
def moreB (S : SS) (n m f : Nat) (b : Nat) : Bool := decide (fi S f 4 < fi (flowF S n m (nI b)) f 4)
def fewF (S : SS) (n m : Nat) (x : Int32) : Int32 := if inr 0 m x = true then o2n (fst (moreB S n m (ix x)) 1000) else -1000001
theorem sp7_fewestBuckets {Post : Mm → Int32 → Prop} {M : Mm} {n m t : Nat} {x : Int32} (hw : Wf (M 144) n m t) (hP : ∀ M', (∀ a, a ≠ 147 → M' a = M a) → Post M' (fewF (M 144) n m x)) : wX7_fewestBuckets Post M 143 x := by
  have hw0 := hw
  obtain ⟨w0, w1, w2, ⟨w3, w4⟩, w5, w6, w7, w8⟩ := hw
  refine sp7_isField w1 w5 ⟨fun d => ?_, fun d => ?_⟩
  · have g := b2i_1.mp ((b2i_01 _).resolve_left d)
    have hh := hP (mcp M 144 147 168) (fun a ha => mcpo ha)
    unfold fewF at hh
    rw [if_pos g] at hh
    obtain ⟨f, -, hf, ef⟩ := inr_of g
    subst ef
    rw [ixn (by omega)] at hh
    have eP : mcp M 144 147 168 144 = M 144 := mcpo (by omega)
    refine sp7_puts ?_
    show ∃ q : Nat, lX7_fewestBuckets_20 Post q (mcp M 144 147 168) 143 (nI f) (-1000004) (nI 0)
    refine pk_loop (fun q i (y : Int32) => lX7_fewestBuckets_20 Post q (mcp M 144 147 168) 143 (nI f) y (nI i)) (fun i y => (y = -1000004 ∧ ∀ j, j < i → moreB (M 144) n m f j = false) ∨ (∃ k, k < i ∧ y = nI k ∧ (∀ j, j < k → moreB (M 144) n m f j = false) ∧ moreB (M 144) n m f k = true)) 1000 0 (-1000004) (by omega) (Or.inl ⟨rfl, fun j hj => absurd hj (by omega)⟩) ?_ ?_
    · rintro q y (⟨ey, hj⟩ | ⟨k, hk, ey, hj, hkt⟩)
      · subst ey
        rw [fst_none hj] at hh
        exact ⟨fun _ => hh, fun z => absurd (show (999 : Int32) < nI 1000 by decide) z⟩
      · subst ey
        rw [fst_some hj hkt hk] at hh
        exact ⟨fun _ => hh, fun z => absurd (show (999 : Int32) < nI 1000 by decide) z⟩
    · rintro q i y hi (⟨ey, hj⟩ | ⟨k, hk, ey, hj, hkt⟩) ih
      · subst ey
        refine ⟨fun z => ?_, fun _ => ⟨fun z => absurd z (by decide), fun _ => sp7_fi (f := f) (w := 4) rfl rfl (by omega) (by omega) (sp7_flows (n := n) (m := m) (t := t) (by rw [eP]; exact hw0) (sp7_fi (f := f) (w := 4) rfl rfl (by omega) (by omega) ?_))⟩⟩
        · exfalso
          have : nI i ≤ 999 := nI_le (b := 999) (by omega) (by omega)
          exact absurd z (Int32.not_lt.mpr this)
        · rw [st_s, eP]
          refine ⟨fun c => sp7_rest (fun i' hi' => flowF_hi w4 w5 (by omega)) (fun x3 e3 => ?_), fun c => sp7_rest (fun i' hi' => flowF_hi w4 w5 (by omega)) (fun x3 e3 => ?_)⟩
          · rw [e3, nI_1]
            refine ih _ (Or.inl ⟨rfl, fun j hj' => ?_⟩)
            by_cases e : j = i
            · subst e; exact decide_eq_false (Int32.not_lt.mpr c)
            · exact hj j (by omega)
          · rw [e3, nI_1]
            exact ih _ (Or.inr ⟨i, by omega, rfl, hj, decide_eq_true (Int32.not_le.mp c)⟩)
      · subst ey
        rw [fst_some hj hkt (show k < 1000 by omega)] at hh
        refine ⟨fun _ => hh, fun _ => ⟨fun _ => hh, fun z => absurd (nI_le (a := 0) (by omega) (by omega)) z⟩⟩
  · have hh := hP M (fun _ _ => rfl)
    unfold fewF at hh
    rw [if_neg (by rw [b2i_0.mp d]; decide)] at hh
    exact hh
def hasB (S : SS) (n m : Nat) (b : Int32) (k : Nat) : Bool := hgF (rsF S n m b k).1 (nI (2 ^ m) - 1) m
def hrsF (S : SS) (n m : Nat) (b : Int32) : Int32 := if inr 0 1000 b = true then o2n (fst (hasB S n m b) 101) else -1000001
theorem r1F_hi {S : SS} {n m t : Nat} {b : Int32} (hw : Wf S n m t) {i : Nat} (hi : 152 ≤ i) : (r1F S n m b).1 i = S i := by
  show goF _ i = _
  rw [goF_o (by omega) (by omega), flowF_hi hw.2.2.2.1.2 hw.2.2.2.2.1 hi]
  unfold r1a
  split
  · rfl
  · split
    · exact setO_o n (fun g' _ _ => by have := hw.2.2.2.1.2; omega)
    · rfl
theorem rsF_hi {S : SS} {n m t : Nat} {b : Int32} (hw : Wf S n m t) (ht : Tu S t) {i : Nat} (hi : 152 ≤ i) : ∀ k, (rsF S n m b k).1 i = S i := by
  intro k
  induction k with
  | zero => rfl
  | succ k ih =>
    show (r1F _ n m b).1 i = _
    rw [r1F_hi (rs_inv hw ht k).1 hi, ih]
theorem sp7_hoursFor {Post : Mm → Int32 → Prop} {M : Mm} {n m t : Nat} {b : Int32} (hw : Wf (M 144) n m t) (ht : Tu (M 144) t) (hP : ∀ M', (∀ a, a ≠ 147 → M' a = M a) → Post M' (hrsF (M 144) n m b)) : wX7_hoursFor Post M 143 b := by
  have hw0 := hw
  obtain ⟨w0, w1, w2, ⟨w3, w4⟩, w5, w6, w7, w8⟩ := hw
  refine sp7_inr (a := 0) (b := 1000) (by decide) (by decide) ⟨fun d => ?_, fun d => ?_⟩
  · have g := b2i_1.mp ((b2i_01 _).resolve_left d)
    have hh := hP (mcp M 144 147 168) (fun a ha => mcpo ha)
    unfold hrsF at hh
    rw [if_pos g] at hh
    have eP : mcp M 144 147 168 144 = M 144 := mcpo (by omega)
    refine sp7_puts (fun x3 e3 => ?_)
    have e3' : x3 = nI (2 ^ m) - 1 := by
      rw [e3, show mcp M 144 147 168 (143 + 1) 1 = nI m by show mcp M 144 147 168 144 1 = _; rw [eP, w1], shl1 (by omega)]
    subst e3'
    have hend : ∀ k, k ≤ 100 → (∀ j, j < k → hasB (M 144) n m b j = false) → (k = 100 ∨ hasB (M 144) n m b k = true) → bX7_hoursFor_57 Post (st (mcp M 144 147 168) (rsF (M 144) n m b k).1) 143 (nI k) (nI (2 ^ m) - 1) := by
      intro k hk hj hor
      obtain ⟨v1, v2⟩ := rs_inv (b := b) hw0 ht k
      refine sp7_haveGot (m := m) (by rw [st_s]; exact v1.2.1) w5 (sp7_rest (fun i hi => rsF_hi hw0 ht (by omega) k) ?_)
      rw [st_s]
      refine ⟨fun d => ?_, fun d => ?_⟩
      · have hb : hasB (M 144) n m b k = false := b2i_0.mp d
        have hk1 : k = 100 := hor.resolve_right (by rw [hb]; decide)
        rw [fst_none (fun j hj' => if e : j = k then e ▸ hb else hj j (by omega))] at hh
        exact hh
      · have hb : hasB (M 144) n m b k = true := b2i_1.mp ((b2i_01 _).resolve_left d)
        rw [fst_some hj hb (by omega)] at hh
        exact hh
    show ∃ q : Nat, lX7_hoursFor_31 Post q (mcp M 144 147 168) 143 b (nI 0) (nI (2 ^ m) - 1)
    have hl := pk_loop (fun q i (T : SS) => lX7_hoursFor_31 Post q (st (mcp M 144 147 168) T) 143 b (nI i) (nI (2 ^ m) - 1)) (fun i T => T = (rsF (M 144) n m b i).1 ∧ ∀ j, j < i → hasB (M 144) n m b j = false) 100 0 (M 144) (by omega) ⟨rfl, fun j hj => absurd hj (by omega)⟩ ?_ ?_
    · obtain ⟨q, hq⟩ := hl
      refine ⟨q, ?_⟩
      have e : st (mcp M 144 147 168) (M 144) = mcp M 144 147 168 := (st_self' eP).symm
      rw [e] at hq
      exact hq
    · rintro q T ⟨eT, hj⟩
      subst eT
      exact ⟨fun _ => hend 100 (by omega) hj (Or.inl rfl), fun z => absurd (show (100 : Int32) ≤ nI 100 by decide) z⟩
    · rintro q i T hi ⟨eT, hj⟩ ih
      subst eT
      obtain ⟨v1, v2⟩ := rs_inv (b := b) hw0 ht i
      refine ⟨fun z => absurd z (nI_ge (b := 100) hi (by decide)), fun _ => sp7_haveGot (m := m) (by rw [st_s]; exact v1.2.1) w5 ?_⟩
      rw [st_s]
      refine ⟨fun d => hend i (by omega) hj (Or.inr (b2i_1.mp ((b2i_01 _).resolve_left d))), fun d => sp7_runsOne (n := n) (m := m) (t := t) (by rw [st_s]; exact v1) (by rw [st_s]; exact v2) (fun x2 e2 => ?_)⟩
      rw [e2, nI_1, st_s, st_st]
      refine ih _ ⟨rfl, fun j hj' => ?_⟩
      by_cases e : j = i
      · subst e; exact b2i_0.mp d
      · exact hj j (by omega)
  · have hh := hP M (fun _ _ => rfl)
    unfold hrsF at hh
    rw [if_neg (by rw [b2i_0.mp d]; decide)] at hh
    exact hh
