/-! the reference: a text's orders -/
theorem Wf_mv {S : SS} {n m t : Nat} {y o : Int32} (hw : Wf S n m t) : Wf (mvF S n y o).1 n m t := by
  unfold mvF
  split
  · split
    · exact hw
    · next h _ =>
      obtain ⟨g, g1, g2, eg⟩ := inr_of h
      subst eg
      rw [ixn (by have := hw.2.2.2.1.2; omega)]
      have := hw.2.2.2.1.2
      exact hw.of (upd_o (by omega)) (upd_o (by omega)) (upd_o (by omega)) (fun c hc => upd_o (by omega)) (fun f hf => upd_o (by omega))
  · exact hw
theorem mv_o {S : SS} {n k : Nat} {y o : Int32} (h8 : n ≤ 8) (hk : ∀ g, g < n → k ≠ 14 + 9 * g) : (mvF S n y o).1 k = S k := by
  unfold mvF
  split
  · split
    · rfl
    · next h _ =>
      obtain ⟨g, g1, g2, eg⟩ := inr_of h
      subst eg
      rw [ixn (by omega)]
      exact upd_o (hk g g2)
  · rfl
theorem Tu_mv {S : SS} {n t : Nat} {y o : Int32} (h8 : n ≤ 8) (h : Tu S t) : Tu (mvF S n y o).1 t :=
  h.of (mv_o h8 (fun g _ => by omega)) (mv_o h8 (fun g _ => by omega)) (fun i _ => mv_o h8 (fun g _ => by omega))
theorem cl_o {S : SS} {m k : Nat} {y : Int32} (h10 : m ≤ 10) (hk : ∀ f, f < m → k ≠ 87 + 7 * f) : (clF S m y).1 k = S k := by
  unfold clF
  split
  · split
    · rfl
    · next h _ =>
      obtain ⟨g, g1, g2, eg⟩ := inr_of h
      subst eg
      rw [ixn (by omega)]
      exact upd_o (hk g g2)
  · rfl
theorem Wf_cl {S : SS} {n m t : Nat} {y : Int32} (hw : Wf S n m t) : Wf (clF S m y).1 n m t := by
  have h10 := hw.2.2.2.2.1
  exact hw.of (cl_o h10 (fun g _ => by omega)) (cl_o h10 (fun g _ => by omega)) (cl_o h10 (fun g _ => by omega)) (fun c hc => cl_o h10 (fun g _ => by omega)) (fun f hf => cl_o h10 (fun g _ => by omega))
theorem Tu_cl {S : SS} {m t : Nat} {y : Int32} (h10 : m ≤ 10) (h : Tu S t) : Tu (clF S m y).1 t :=
  h.of (cl_o h10 (fun g _ => by omega)) (cl_o h10 (fun g _ => by omega)) (fun i _ => cl_o h10 (fun g _ => by omega))
theorem go_inv {S : SS} {n m t : Nat} {b : Int32} (hw : Wf S n m t) (ht : Tu S t) : Wf (goesF S n m b).1 n m t ∧ Tu (goesF S n m b).1 t ∧ ∀ i, 152 ≤ i → (goesF S n m b).1 i = S i := by
  unfold goesF
  split
  · split
    · exact ⟨hw, ht, fun _ _ => rfl⟩
    · exact ⟨Wf_flow hw, Tu_flow hw ht, fun i hi => flowF_hi hw.2.2.2.1.2 hw.2.2.2.2.1 hi⟩
  · exact ⟨hw, ht, fun _ _ => rfl⟩
theorem run_inv {S : SS} {n m t most : Nat} {x b : Int32} (hw : Wf S n m t) (ht : Tu S t) : Wf (runsF S n m most x b).1 n m t ∧ Tu (runsF S n m most x b).1 t ∧ ∀ i, 152 ≤ i → (runsF S n m most x b).1 i = S i := by
  unfold runsF
  split
  · split
    · obtain ⟨a, c⟩ := rs_inv (b := b) hw ht (ix x)
      exact ⟨a, c, fun i hi => rsF_hi hw ht hi _⟩
    · exact ⟨hw, ht, fun _ _ => rfl⟩
  · exact ⟨hw, ht, fun _ _ => rfl⟩
theorem ofN_sub {a b : Nat} (h : b ≤ a) : nI a - nI b = nI (a - b) := by
  obtain ⟨k, rfl⟩ : ∃ k, a = b + k := ⟨a - b, by omega⟩
  rw [Nat.add_sub_cancel_left, ← nI_add, Int32.add_comm, Int32.add_sub_cancel]
def flt (r : Option (Nat × Nat × Int32)) : Int32 := match r with | none => -1000004 | some z => nI z.1
theorem nI_nn {p : Nat} (h : p < 1000) : ¬ nI p = -1000004 := by
  intro z
  have := nI_pos (n := p) (by omega)
  rw [z] at this
  exact this (by decide)
/-- what an acting call leaves, a text's orders too -/
def ActO (M M' : Mm) (s : Nat) (S' : SS) (r : Int32) : Prop :=
  (∀ a, a ≠ 143 → a ≠ 144 → a ≠ 145 → a ≠ 146 → a ≠ 147 → a ≠ 149 → M' a = M a) ∧ M' 144 = S' ∧ M' 143 6 = M 143 6 ∧ (r ≤ -1000001 → M' 143 4 = M 143 4 ∧ M' 145 = M 145) ∧
  (¬ r ≤ -1000001 → M' 143 4 = nI (min s 3 + 1) ∧ ∃ B : SS, (∀ j, j < 168 → B j = M 144 j) ∧ M' 145 = hi1 (M 145) B s)
theorem Act_O {M M' : Mm} {s : Nat} {S' : SS} {r : Int32} (h : Act M M' s S' r) : ActO M M' s S' r := by
  obtain ⟨a, b, c, d⟩ := h
  refine ⟨fun x h1 h2 h3 h4 _ _ => a x h1 h2 h3 h4, b, ?_, fun hr => ⟨by rw [(c hr).1], (c hr).2⟩, fun hr => ⟨by rw [(d hr).1, upd_s], (d hr).2⟩⟩
  by_cases hr : r ≤ -1000001
  · rw [(c hr).1]
  · rw [(d hr).1, upd_o (by omega)]
