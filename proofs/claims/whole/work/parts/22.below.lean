/-! the reference: below, may take, is wanted, lets through -/
def bl (S : SS) (o : Bool) (top : Nat) : Nat → Nat → Bool
  | 0, _ => false
  | n + 1, c => decide (top < c) && (!o || decide (ca S c 4 = 1)) && (decide (pa S c = top) || bl S o top n (pa S c))
def isB (S : SS) (o : Bool) (top c : Nat) : Bool := bl S o top 8 c
theorem bl_0 (S : SS) (o : Bool) (top n : Nat) : bl S o top n 0 = false := by
  cases n <;> simp [bl]
theorem bl_fuel {S : SS} {o : Bool} {top n : Nat} (hp : ∀ c, 1 ≤ c → c < n → pa S c < c) : ∀ k k' c, c < n → c ≤ k → c ≤ k' → bl S o top k c = bl S o top k' c := by
  intro k
  induction k with
  | zero => intro k' c hc h1 h2; rw [show c = 0 by omega, bl_0, bl_0]
  | succ k ih =>
    intro k' c hc h1 h2
    by_cases h0 : c = 0
    · rw [h0, bl_0, bl_0]
    · cases k' with
      | zero => omega
      | succ k' =>
        have hlt := hp c (by omega) hc
        unfold bl
        rw [ih k' (pa S c) (by omega) (by omega) (by omega)]
theorem isB_eq {S : SS} {o : Bool} {top n c : Nat} (hp : ∀ c, 1 ≤ c → c < n → pa S c < c) (hc : c < n) (h8 : n ≤ 8) : isB S o top c = (decide (top < c) && (!o || decide (ca S c 4 = 1)) && (decide (pa S c = top) || isB S o top (pa S c))) := by
  by_cases h0 : c = 0
  · subst h0
    unfold isB
    rw [bl_0]; simp
  · have hlt := hp c (by omega) hc
    unfold isB
    conv => lhs; unfold bl
    rw [bl_fuel hp 7 8 (pa S c) (by omega) (by omega) (by omega)]
theorem sp7_isBelow {Post : Mm → Int32 → Prop} {M : Mm} {n m t c top : Nat} {o : Bool} {x1 x2 x3 : Int32} (hw : Wf (M 144) n m t) (hc : c < n) (ht : top < n) (h1 : x1 = nI c) (h2 : x2 = nI top) (h3 : x3 = b2i o) (h : Post M (b2i (isB (M 144) o top c))) : wX7_isBelow Post M 143 x1 x2 x3 := by
  obtain ⟨w0, w1, w2, ⟨w3, w4⟩, w5, w6, w7, w8⟩ := hw
  have hp : ∀ c, 1 ≤ c → c < n → pa (M 144) c < c := fun c a b => (w7 c a b).1
  subst h1 h2 h3
  have key : ∀ k, k < n → Post M (b2i ((decide (k = top) || isB (M 144) o top k) && decide (c ≠ top))) → ∃ q : Nat, lX7_isBelow_3 Post q M 143 (nI c) (nI top) (b2i o) (nI k) := by
    intro k
    induction k using Nat.strongRecOn with
    | ind k ih =>
      intro hk hq
      have e := isB_eq (o := o) (top := top) hp hk w4
      have end36 : (k = top → c = top → Post M 0) → (k = top → c ≠ top → Post M 1) → (k ≠ top → Post M 0) → bX7_isBelow_36 Post M (nI c) (nI top) (nI k) := by
        intro a1 a2 a3
        refine ⟨fun z => a3 (fun y => z (by rw [y])), fun z => ⟨fun y => a1 (nI_inj (by omega) (by omega) z) (nI_inj (by omega) (by omega) y), fun y => a2 (nI_inj (by omega) (by omega) z) (fun yy => y (by rw [yy]))⟩⟩
      by_cases hkt : k ≤ top
      · refine ⟨1, fun _ => end36 ?_ ?_ ?_, fun z => absurd (nI_le hkt (by omega)) z⟩
        · intro a b; subst a; subst b; simpa [b2i] using hq
        · intro a b; subst a; simpa [b2i, b] using hq
        · intro a
          rw [e] at hq
          rw [show decide (top < k) = false from decide_eq_false (by omega), decide_eq_false a] at hq
          simpa [b2i] using hq
      · have hgt : top < k := by omega
        by_cases hgo : o = true → ca (M 144) k 4 = 1
        · have hpk := hp k (by omega) hk
          have epk := (w7 k (by omega) hk).2
          have e2 : isB (M 144) o top k = (decide (pa (M 144) k = top) || isB (M 144) o top (pa (M 144) k)) := by
            rw [e, decide_eq_true hgt]
            cases o
            · simp
            · rw [decide_eq_true (hgo rfl)]; simp
          obtain ⟨q, hq2⟩ := ih (pa (M 144) k) hpk (by omega) (by
            rw [e2, decide_eq_false (show ¬ k = top by omega), Bool.false_or] at hq
            exact hq)
          refine ⟨q + 1, fun z => absurd z (nI_ge hgt (by omega)), fun _ => ⟨fun _ => ?_, fun z => ?_⟩⟩
          · exact sp7_ca (c := k) (w := 0) rfl rfl (by omega) (by omega) (by rw [epk]; exact hq2)
          · refine sp7_ca (c := k) (w := 4) rfl rfl (by omega) (by omega) ⟨fun y => ?_, fun _ => ?_⟩
            · cases o
              · exact absurd rfl z
              · exact absurd (hgo rfl) y
            · exact sp7_ca (c := k) (w := 0) rfl rfl (by omega) (by omega) (by rw [epk]; exact hq2)
        · have ho : o = true := by
            cases o
            · exact absurd (fun z => by cases z) hgo
            · rfl
          subst ho
          have hno : ¬ ca (M 144) k 4 = 1 := fun z => hgo (fun _ => z)
          refine ⟨1, fun z => absurd z (nI_ge hgt (by omega)), fun _ => ⟨fun z => absurd z (by decide), fun _ => ?_⟩⟩
          refine sp7_ca (c := k) (w := 4) rfl rfl (by omega) (by omega) ⟨fun _ => end36 (fun a => by omega) (fun a => by omega) (fun _ => ?_), fun y => absurd y hno⟩
          rw [e, decide_eq_false hno, decide_eq_false (show ¬ k = top by omega)] at hq
          simpa [b2i] using hq
  refine key c hc ?_
  by_cases hct : c = top
  · subst hct
    rw [isB_eq hp hc w4, decide_eq_false (Nat.lt_irrefl c)] at h
    simpa [b2i] using h
  · rw [decide_eq_false hct, decide_eq_true (show c ≠ top from hct), Bool.false_or, Bool.and_true]
    exact h
def mtF (S : SS) (f : Nat) : Nat → Bool
  | 0 => true
  | k + 1 => mtF S f k && !(decide (fi S k 5 = 1) && decide (fi S k 3 < fi S f 3) && isB S true (at_ S f) (at_ S k))
theorem sp7_mayTake {Post : Mm → Int32 → Prop} {M : Mm} {n m t f : Nat} {x : Int32} (hw : Wf (M 144) n m t) (hf : f < m) (hx : x = nI f) (h : Post M (b2i (mtF (M 144) f m))) : wX7_mayTake Post M 143 x := by
  have hw0 := hw
  obtain ⟨w0, w1, w2, ⟨w3, w4⟩, w5, w6, w7, w8⟩ := hw
  subst hx
  show ∃ q : Nat, lX7_mayTake_4 Post q M 143 (nI f) 1 (nI 0)
  refine pk_loop (fun k i (y : Int32) => lX7_mayTake_4 Post k M 143 (nI f) y (nI i)) (fun i y => y = b2i (mtF (M 144) f i)) m 0 1 (by omega) rfl ?_ ?_
  · rintro k y e
    subst e
    refine ⟨fun _ => ⟨b2i_01 _, h⟩, fun c => absurd ?_ c⟩
    show M 144 1 ≤ nI m
    rw [w1]; exact nI_le (Nat.le_refl _) (by omega)
  · rintro k i y hi e ih
    subst e
    have stp : ∀ b : Bool, mtF (M 144) f (i + 1) = b → ∀ z : Int32, z = nI i + 1 → lX7_mayTake_4 Post k M 143 (nI f) (b2i b) z := by
      intro b hb z hz
      rw [hz, nI_1]
      exact ih _ (by rw [hb])
    refine ⟨fun c => absurd c ?_, fun _ => ⟨fun c => ?_, fun c => ?_⟩⟩
    · show ¬ M 144 1 ≤ nI i
      rw [w1]; exact nI_ge hi (by omega)
    · refine stp false ?_
      unfold mtF
      rw [b2i_0.mp c, Bool.false_and]
    · have hb : mtF (M 144) f i = true := by
        cases hh : mtF (M 144) f i
        · rw [hh] at c; exact absurd rfl c
        · rfl
      refine sp7_fi (f := i) (w := 5) rfl rfl (by omega) (by omega) ⟨fun d => ?_, fun d => ?_⟩
      · refine stp true ?_
        unfold mtF
        rw [hb, decide_eq_false d]; rfl
      · refine sp7_fi (f := i) (w := 3) rfl rfl (by omega) (by omega) (sp7_fi (f := f) (w := 3) rfl rfl (by omega) (by omega) ⟨fun d2 => ?_, fun d2 => ?_⟩)
        · refine stp true ?_
          unfold mtF
          rw [hb, decide_eq_false (show ¬ fi (M 144) i 3 < fi (M 144) f 3 from Int32.not_lt.mpr d2)]
          simp
        · refine sp7_fi (f := i) (w := 0) rfl rfl (by omega) (by omega) (sp7_fi (f := f) (w := 0) rfl rfl (by omega) (by omega) ?_)
          refine sp7_isBelow (o := true) hw0 (w8 i hi).1 (w8 f hf).1 (w8 i hi).2 (w8 f hf).2 rfl ⟨fun c1 => ?_, fun c1 => ?_⟩
          · refine stp false ?_
            unfold mtF
            have : isB (M 144) true (at_ (M 144) f) (at_ (M 144) i) = true := by
              cases hh : isB (M 144) true (at_ (M 144) f) (at_ (M 144) i)
              · rw [hh] at c1; exact absurd rfl c1
              · rfl
            rw [hb, decide_eq_true d, decide_eq_true (Int32.not_le.mp d2), this]
            rfl
          · refine stp true ?_
            unfold mtF
            rw [hb, b2i_0.mp c1]
            simp
def iwF (S : SS) (c : Nat) : Nat → Bool
  | 0 => false
  | f + 1 => iwF S c f || (wt S f && (decide (at_ S f = c) || isB S false c (at_ S f)))
theorem sp7_isWanted {Post : Mm → Int32 → Prop} {M : Mm} {n m t c : Nat} {x : Int32} (hw : Wf (M 144) n m t) (hc : c < n) (hx : x = nI c) (h : Post M (b2i (iwF (M 144) c m))) : wX7_isWanted Post M 143 x := by
  have hw0 := hw
  obtain ⟨w0, w1, w2, ⟨w3, w4⟩, w5, w6, w7, w8⟩ := hw
  subst hx
  show ∃ q : Nat, lX7_isWanted_4 Post q M 143 (nI c) 0 (nI 0)
  refine pk_loop (fun k i (y : Int32) => lX7_isWanted_4 Post k M 143 (nI c) y (nI i)) (fun i y => y = b2i (iwF (M 144) c i)) m 0 0 (by omega) rfl ?_ ?_
  · rintro k y e
    subst e
    refine ⟨fun _ => ⟨b2i_01 _, h⟩, fun c => absurd ?_ c⟩
    show M 144 1 ≤ nI m
    rw [w1]; exact nI_le (Nat.le_refl _) (by omega)
  · rintro k i y hi e ih
    subst e
    have stp : ∀ b : Bool, iwF (M 144) c (i + 1) = b → ∀ z : Int32, z = nI i + 1 → lX7_isWanted_4 Post k M 143 (nI c) (b2i b) z := by
      intro b hb z hz
      rw [hz, nI_1]
      exact ih _ (by rw [hb])
    refine ⟨fun d => absurd d ?_, fun _ => ⟨fun d => ?_, fun d => ?_⟩⟩
    · show ¬ M 144 1 ≤ nI i
      rw [w1]; exact nI_ge hi (by omega)
    · refine stp true ?_
      have hb : iwF (M 144) c i = true := by
        cases hh : iwF (M 144) c i
        · rw [hh] at d; exact absurd rfl d
        · rfl
      unfold iwF
      rw [hb, Bool.true_or]
    · have hb := b2i_0.mp d
      refine sp7_wants (f := i) rfl (by omega) ⟨fun d1 => ?_, fun d1 => ?_⟩
      · refine stp false ?_
        unfold iwF
        rw [hb, b2i_0.mp d1]; rfl
      · have hwt : wt (M 144) i = true := by
          cases hh : wt (M 144) i
          · rw [hh] at d1; exact absurd rfl d1
          · rfl
        obtain ⟨a1, a2⟩ := w8 i hi
        refine sp7_fi (f := i) (w := 0) rfl rfl (by omega) (by omega) ⟨fun d2 => ?_, fun d2 => ?_⟩
        · refine stp true ?_
          rw [a2] at d2
          unfold iwF
          rw [hwt, decide_eq_true (nI_inj (by omega) (by omega) d2)]
          simp
        · rw [a2] at d2
          refine sp7_fi (f := i) (w := 0) rfl rfl (by omega) (by omega) ?_
          refine sp7_isBelow (o := false) hw0 a1 hc a2 rfl rfl ⟨fun c1 => ?_, fun c1 => ?_⟩
          · refine stp false ?_
            unfold iwF
            rw [hb, b2i_0.mp c1, decide_eq_false (fun z => d2 (by rw [z]))]
            simp
          · refine stp true ?_
            have : isB (M 144) false c (at_ (M 144) i) = true := by
              cases hh : isB (M 144) false c (at_ (M 144) i)
              · rw [hh] at c1; exact absurd rfl c1
              · rfl
            unfold iwF
            rw [hwt, this]
            simp
def ltF (S : SS) (m c g : Nat) : Bool := decide (pa S g = c) && decide (ca S g 4 = 1) && (!decide (ca S g 1 = 2) || iwF S g m)
theorem sp7_lets {Post : Mm → Int32 → Prop} {M : Mm} {n m t c g : Nat} {x y : Int32} (hw : Wf (M 144) n m t) (hc : c < n) (hg1 : 1 ≤ g) (hg : g < n) (hx : x = nI g) (hy : y = nI c) (h : Post M (b2i (ltF (M 144) m c g))) : wX7_lets Post M 143 x y := by
  have hw0 := hw
  obtain ⟨w0, w1, w2, ⟨w3, w4⟩, w5, w6, w7, w8⟩ := hw
  obtain ⟨p1, p2⟩ := w7 g hg1 hg
  subst hx hy
  unfold ltF at h
  refine sp7_ca (c := g) (w := 0) rfl rfl (by omega) (by omega) ⟨fun d => ?_, fun d => ?_⟩
  · rw [p2] at d
    rw [decide_eq_false (fun z => d (by rw [z]))] at h
    exact h
  · rw [p2] at d
    rw [decide_eq_true (nI_inj (by omega) (by omega) d)] at h
    refine sp7_ca (c := g) (w := 4) rfl rfl (by omega) (by omega) ⟨fun d1 => ?_, fun d1 => ?_⟩
    · rw [decide_eq_false d1] at h
      exact h
    · rw [decide_eq_true d1] at h
      refine sp7_ca (c := g) (w := 1) rfl rfl (by omega) (by omega) ⟨fun d2 => ?_, fun d2 => ?_⟩
      · rw [decide_eq_false d2] at h
        exact h
      · rw [decide_eq_true d2] at h
        refine sp7_isWanted hw0 hg rfl ⟨fun d3 => ?_, fun d3 => ?_⟩
        · rw [b2i_0.mp d3] at h
          exact h
        · have : iwF (M 144) g m = true := by
            cases hh : iwF (M 144) g m
            · rw [hh] at d3; exact absurd rfl d3
            · rfl
          rw [this] at h
          exact h
