/-! the start: the invariant holds of what the constructors leave -/
theorem mf_1 : ∀ j, j < 8 → MF 1 j = 0 := by decide +kernel
theorem mf_2 : MF 2 0 = 1 ∧ MF 2 1 = 0 ∧ MF 3 0 = 0 ∧ MF 4 0 = 0 ∧ MF 5 0 = 200 ∧ MF 6 0 = 50 ∧ MF 11 0 = 0 ∧ MF 11 1 = 0 := by decide +kernel
theorem mf_7 : ∀ c, c < 8 → MF 7 c = -1 ∧ MF 8 c = 0 ∧ MF 9 c = 0 ∧ MF 10 c = 0 := by decide +kernel
theorem mf_16 : ∀ f, f < 10 → MF 16 f = 0 ∧ MF 17 f = 0 := by decide +kernel
theorem mf_19 : ∀ c, c < 3 → MF 19 c = 0 := by decide +kernel
theorem mf_h : ∀ i, i < 4 → MF 48 i = nI (49 + 23 * i) := by decide +kernel
theorem mf_o : MF 47 0 = nI 0 ∧ MF 141 0 = nI 0 := by decide +kernel
theorem VV_0 {S : SS} (h : ∀ i, i < 19 → S i = (if i = 0 then 1 else if i = 12 then 200 else if i = 13 then 50 else if i = 15 then -1 else 0)) : VV S 1 0 0 := by
  have z : (0 : Int32).toInt = 0 := by decide
  have z2 : (200 : Int32).toInt = 200 := by decide
  have z5 : (50 : Int32).toInt = 50 := by decide
  have c2 : ca S 0 2 = 200 := h 12 (by omega)
  have c3 : ca S 0 3 = 50 := h 13 (by omega)
  have c4 : ca S 0 4 = 0 := h 14 (by omega)
  have c5 : ca S 0 5 = -1 := h 15 (by omega)
  have c6 : ca S 0 6 = 0 := h 16 (by omega)
  refine ⟨⟨⟨h 0 (by omega), h 1 (by omega), h 2 (by omega), ⟨by omega, by omega⟩, by omega, by omega, fun c a b => by omega, fun f hf => by omega⟩, ⟨fun _ => ⟨h 3 (by omega), h 4 (by omega)⟩, fun y => by omega, fun i hi => by omega⟩, fun f hf => by omega, fun c hc => ?_, ⟨?_, fun g hg => ?_⟩, fun i hi => by omega⟩, ⟨⟨c5, fun c hc => ?_⟩, fun k hk => ?_⟩, ⟨c2, 0, h 5 (by omega), by omega, ?_, ?_, ?_, ?_, ?_⟩⟩
  · have : c = 0 := by omega
    subst this
    rw [c2, c3, c6]
    omega
  · unfold opn; rw [c4]; decide
  · have : g = 0 := by omega
    subst this
    exact Or.inl c4
  · have : c = 0 := by omega
    subst this
    exact Or.inl c5
  · show (if 0 = 0 then 0 else _) ≤ 2
    rw [if_pos rfl]; omega
  · rw [h 7 (by omega)]; decide
  · rw [h 8 (by omega)]; decide
  · rw [h 9 (by omega)]; decide
  · rw [h 6 (by omega), h 7 (by omega), h 8 (by omega), h 9 (by omega)]; decide
  · rw [h 6 (by omega)]; decide
theorem TR_0 {M : Mm} {S : SS} (hs : ∀ i, i < 19 → S i = (if i = 0 then 1 else if i = 12 then 200 else if i = 13 then 50 else if i = 15 then -1 else 0)) (h1 : ∀ j, j < 8 → M 1 j = 0) (h2 : M 2 0 = 1 ∧ M 2 1 = 0 ∧ M 3 0 = 0 ∧ M 4 0 = 0 ∧ M 5 0 = 200 ∧ M 6 0 = 50 ∧ M 11 0 = 0 ∧ M 11 1 = 0) (h7 : ∀ c, c < 8 → M 7 c = -1 ∧ M 8 c = 0 ∧ M 9 c = 0 ∧ M 10 c = 0) (h16 : ∀ f, f < 10 → M 16 f = 0 ∧ M 17 f = 0) (h19 : ∀ c, c < 3 → M 19 c = 0) : TR M 1 S 1 0 0 := by
  obtain ⟨a0, a1, a2, a3, a4, a5, a6, a7⟩ := h2
  obtain ⟨b0, b1, b2, b3⟩ := h7 0 (by omega)
  refine ⟨fun k j i hm => ?_, a0, ?_, a6, a7, h19 0 (by omega), fun i hi => by omega, fun c c1 c2 => h7 c c2, fun f _ hf => h16 f hf⟩
  · rcases hm with hm | hm | hm | hm | hm | hm | hm | hm
    · obtain ⟨k0, j1, j2, ei⟩ := hm
      subst k0
      rw [hs i (by omega), if_neg (by omega), if_neg (by omega), if_neg (by omega), if_neg (by omega)]
      exact h1 j (by omega)
    · obtain ⟨k1, k2, j0, ei⟩ := hm
      have hj : j = 0 := by omega
      subst hj
      have : k = 2 ∨ k = 3 ∨ k = 4 ∨ k = 5 := by omega
      rcases this with z | z | z | z <;> subst z
      · rw [hs i (by omega), show i = 10 by omega]; exact a2
      · rw [hs i (by omega), show i = 11 by omega]; exact a3
      · rw [hs i (by omega), show i = 12 by omega]; exact a4
      · rw [hs i (by omega), show i = 13 by omega]; exact a5
    · obtain ⟨k1, k2, j0, ei⟩ := hm
      have hj : j = 0 := by omega
      subst hj
      have : k = 6 ∨ k = 7 ∨ k = 8 ∨ k = 9 := by omega
      rcases this with z | z | z | z <;> subst z
      · rw [hs i (by omega), show i = 15 by omega]; exact b0
      · rw [hs i (by omega), show i = 16 by omega]; exact b1
      · rw [hs i (by omega), show i = 17 by omega]; exact b2
      · rw [hs i (by omega), show i = 18 by omega]; exact b3
    · omega
    · omega
    · obtain ⟨k1, j0, ei⟩ := hm
      subst k1
      rw [hs i (by omega), if_neg (by omega), if_neg (by omega), if_neg (by omega), if_neg (by omega)]
      exact h19 j (by omega)
    · omega
    · omega
  · show M 2 1 = _
    rw [a1, ofB_succ, if_neg]
    · rfl
    · unfold opn
      rw [show ca S 0 4 = 0 from hs 14 (by omega)]
      decide
/-- the state that a new object shows -/
def S00 : SS := fun i => if i = 0 then 1 else if i = 12 then 200 else if i = 13 then 50 else if i = 15 then -1 else 0
theorem hm_0 : HM MF S00 1 0 0 := by
  obtain ⟨o1, o2⟩ := mf_o
  have hs : ∀ i, i < 19 → S00 i = (if i = 0 then 1 else if i = 12 then 200 else if i = 13 then 50 else if i = 15 then -1 else 0) := fun i _ => rfl
  refine ⟨VV_0 hs, ⟨⟨by decide, by decide, by decide⟩, fun f hf => by omega, fun c hc => ?_⟩, TR_0 hs mf_1 mf_2 mf_7 mf_16 mf_19, ⟨fun i => 49 + 23 * i, 0, ⟨fun i hi => ⟨mf_h i hi, (by omega : 49 + 23 * i = 49 ∨ 49 + 23 * i = 72 ∨ 49 + 23 * i = 95 ∨ 49 + 23 * i = 118)⟩, fun i j hi hj e => by have e' : 49 + 23 * i = 49 + 23 * j := e; omega⟩, o1, by omega⟩, ⟨0, o2⟩⟩
  have : c = 0 := by omega
  subst this
  decide
theorem of_ok : ∀ j, j < 143 → kd j < 8 → ∀ k, k < nF (kd j) → fo (kd j) k ≠ 0 → OF j k = true := by decide +kernel
theorem of_48 : ∀ j, j < 143 → kd j = 11 → ∀ i, i < 4 → OF j i = true := by decide +kernel
theorem arrV_cg {cA : ClassId} {n : Nat} {V W : Nat → Value} (h : ∀ i, i < n → V i = W i) : arrV cA n V = arrV cA n W := by
  unfold arrV
  congr 2
  funext i
  exact h i.1 i.2
/-- the memory while it grows is the memory, once all is made and set -/
theorem rq_rp {G : Gp} {M : Mm} {ok : Okk} {H : Heap} (hok : ∀ j, j < 143 → kd j < 8 → ∀ k, k < nF (kd j) → fo (kd j) k ≠ 0 → ok j k = true) (h48 : ∀ j, j < 143 → kd j = 11 → ∀ i, i < 4 → ok j i = true) (h : Rq G 143 M ok H) : Rp G M H := by
  intro k q hq
  have hk : k < 143 := by
    have := (List.getElem?_eq_some_iff.mp hq).1
    simpa [rpW] using this
  rw [rpW_get hk] at hq
  cases hq
  have hat := h.1 k _ (rqW_get hk)
  by_cases h8 : kd k < 8
  · rw [rqE_obj rfl h8] at hat
    rw [rpE_obj rfl h8]
    have e : rqFs (kd k) (G.2.1 + k) (M k) (ok k) = rpFs (kd k) (G.2.1 + k) (M k) := by
      unfold rqFs rpFs
      refine List.map_congr_left (fun i hi => ?_)
      have hi' := List.mem_range.mp hi
      unfold rqV rpV
      by_cases hf : fo (kd k) i = 0
      · rw [if_pos hf, if_pos hf]
      · rw [if_neg hf, if_neg hf, if_pos (hok k hk h8 i hi' hf)]
    rw [e] at hat
    exact hat
  · by_cases h11 : kd k = 11
    · rw [rqE_ref h11] at hat
      rw [rpE_ref h11]
      have hat2 : H[G.2.1 + k]? = some (vp_cell G.2.2.2.2 (4, .inr (.inr (.inr (.inr (fun i => if ok k i = true then some (G.2.1 + (M k i).toNatClampNeg) else none)))))) := hat
      show H[G.2.1 + k]? = some (vp_cell G.2.2.2.2 (4, .inr (.inr (.inr (.inr (fun i => some (G.2.1 + (M k i).toNatClampNeg)))))))
      rw [hat2, vp_cell_q, vp_cell_q]
      congr 1
      refine arrV_cg (fun i hi => ?_)
      rw [if_pos (h48 k hk h11 i hi)]
    · have e : rqE G k (M k) (ok k) = rpE G k (M k) := by
        unfold rqE rpE
        rw [if_neg h8, if_neg h8, if_neg h11, if_neg h11]
      rw [e] at hat
      exact hat
