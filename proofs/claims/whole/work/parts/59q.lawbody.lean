/-! the law's body -/
def LwQ (A : Mm → Int32 → Prop) (x3 : Int32) (M' : Mm) (r1 r2 : Int32) : Prop := (r1 = r2 → ∀ y, y = x3 + (5 : Int32) → A M' y) ∧ (¬ r1 = r2 → False)
set_option maxHeartbeats 4000000 in
theorem law_cases {xs : Nat → Int32} {N : Nat} {A : Mm → Int32 → Prop} {M : Mm} {x3 : Int32} (hI : INV M) (v0 : vp_in x3 N) (v1 : vp_in (x3 + (1 : Int32)) N) (v2 : vp_in (x3 + (2 : Int32)) N) (v3 : vp_in (x3 + (3 : Int32)) N) (v4 : vp_in (x3 + (4 : Int32)) N) (hA : ∀ M', INV M' → A M' (x3 + (5 : Int32))) : bL_law xs N A M x3 := by
  have fin : ∀ M' r, INV M' → LwQ A x3 M' r r := by
    intro M' r h
    refine ⟨fun _ y ey => ?_, fun z => z rfl⟩
    rw [ey]
    exact hA M' h
  have hI2 := hI
  obtain ⟨n, m, tt, s, L, P, hI0⟩ := hI
  unfold bL_law
  refine ⟨fun _ => trivial, fun _ => ⟨v0, fun sw _ => ?_⟩⟩
  refine ⟨fun _ => ?_, fun _ => ?_⟩
  · exact ⟨v1, v2, v3, v4, law_canal (Post := LwQ A x3) v1 v2 v3 v4 hI0 fin⟩
  refine ⟨fun _ => ?_, fun _ => ?_⟩
  · exact ⟨v1, v2, v3, v4, law_field (Post := LwQ A x3) v1 v2 v3 v4 hI0 fin⟩
  refine ⟨fun _ => ?_, fun _ => ?_⟩
  · exact ⟨v1, v2, law_tend (Post := LwQ A x3) v1 v2 hI0 fin⟩
  refine ⟨fun _ => ?_, fun _ => ?_⟩
  · exact ⟨v1, law_leave (Post := LwQ A x3) v1 hI0 fin⟩
  refine ⟨fun _ => ?_, fun _ => ?_⟩
  · exact ⟨v1, law_open (Post := LwQ A x3) v1 hI0 fin⟩
  refine ⟨fun _ => ?_, fun _ => ?_⟩
  · exact ⟨v1, law_close (Post := LwQ A x3) v1 hI0 fin⟩
  refine ⟨fun _ => ?_, fun _ => ?_⟩
  · exact ⟨v1, law_call (Post := LwQ A x3) v1 hI0 fin⟩
  refine ⟨fun _ => ?_, fun _ => ?_⟩
  · exact ⟨v1, v2, law_turn (Post := LwQ A x3) v1 v2 hI0 fin⟩
  refine ⟨fun _ => ?_, fun _ => ?_⟩
  · exact law_noTurns (Post := LwQ A x3) hI0 fin
  refine ⟨fun _ => ?_, fun _ => ?_⟩
  · exact ⟨v1, law_hour (Post := LwQ A x3) v1 hI0 fin⟩
  refine ⟨fun _ => ?_, fun _ => ?_⟩
  · exact ⟨v1, v2, law_run (Post := LwQ A x3) v1 v2 hI0 fin⟩
  refine ⟨fun _ => ?_, fun _ => ?_⟩
  · exact ⟨v1, v2, law_canalOf (Post := LwQ A x3) v1 v2 hI0 fin⟩
  refine ⟨fun _ => ?_, fun _ => ?_⟩
  · exact ⟨v1, v2, law_fieldOf (Post := LwQ A x3) v1 v2 hI0 fin⟩
  refine ⟨fun _ => ?_, fun _ => ?_⟩
  · exact ⟨v1, v2, law_turnOf (Post := LwQ A x3) v1 v2 hI0 fin⟩
  refine ⟨fun _ => ?_, fun _ => ?_⟩
  · exact ⟨v1, law_share (Post := LwQ A x3) v1 hI0 fin⟩
  refine ⟨fun _ => ?_, fun _ => ?_⟩
  · exact ⟨v1, v2, v3, law_would (Post := LwQ A x3) v1 v2 v3 hI0 fin⟩
  refine ⟨fun _ => ?_, fun _ => ?_⟩
  · exact ⟨v1, v2, v3, law_leastGates (Post := LwQ A x3) v1 v2 v3 hI0 fin⟩
  refine ⟨fun _ => ?_, fun _ => ?_⟩
  · exact ⟨v1, law_fewestBuckets (Post := LwQ A x3) v1 hI0 fin⟩
  refine ⟨fun _ => ?_, fun _ => ?_⟩
  · exact ⟨v1, law_hoursFor (Post := LwQ A x3) v1 hI0 fin⟩
  refine ⟨fun _ => ?_, fun _ => ?_⟩
  · exact ⟨v1, law_rightAt (Post := LwQ A x3) v1 hI0 fin⟩
  refine ⟨fun _ => ?_, fun _ => ?_⟩
  · exact ⟨v1, law_count (Post := LwQ A x3) v1 hI0 fin⟩
  refine ⟨fun _ => ?_, fun _ => ?_⟩
  · exact law_undo (Post := LwQ A x3) hI0 fin
  refine ⟨fun _ => ?_, fun _ => ?_⟩
  · exact ⟨v1, law_type (Post := LwQ A x3) v1 hI0 fin⟩
  refine ⟨fun _ => ?_, fun _ => ?_⟩
  · exact law_clear (Post := LwQ A x3) hI0 fin
  refine ⟨fun _ => ?_, fun _ => ?_⟩
  · exact ⟨v1, law_fault (Post := LwQ A x3) v1 hI0 fin⟩
  refine ⟨fun _ => ?_, fun _ => ?_⟩
  · exact law_play (Post := LwQ A x3) hI0 fin
  intro y ey
  rw [ey]
  exact hA M hI2
theorem law_body {xs : Nat → Int32} {N : Nat} {A : Mm → Int32 → Prop} {M : Mm} {i : Nat} (hN : N ≤ 2560) (hi5 : i ≤ 1000) (hI : INV M) (hA : 5 * i + 5 ≤ N → ∀ M', INV M' → A M' (nI (5 * i + 5))) : bL_law xs N A M (nI (5 * i)) := by
  rcases Nat.lt_or_ge N (5 * i + 5) with q | q
  · have e5 : (5 : Int32).toInt = 5 := by decide
    have eN : (Int32.ofNat N).toInt = N := nI_toInt (n := N) (by omega)
    have c : (Int32.ofNat N) - (5 : Int32) < nI (5 * i) := by
      rw [i_lt, i_sub (by omega) (by omega), eN, e5, nI_toInt (by omega)]
      omega
    exact ⟨fun _ => trivial, fun d => absurd c d⟩
  · have e1 : nI (5 * i) + (1 : Int32) = nI (5 * i + 1) := nI_add (5 * i) 1
    have e2 : nI (5 * i) + (2 : Int32) = nI (5 * i + 2) := nI_add (5 * i) 2
    have e3 : nI (5 * i) + (3 : Int32) = nI (5 * i + 3) := nI_add (5 * i) 3
    have e4 : nI (5 * i) + (4 : Int32) = nI (5 * i + 4) := nI_add (5 * i) 4
    have e5 : nI (5 * i) + (5 : Int32) = nI (5 * i + 5) := nI_add (5 * i) 5
    have v0 : vp_in (nI (5 * i)) N := vp_in_nI (by omega) (by omega)
    have v1 : vp_in (nI (5 * i) + (1 : Int32)) N := by rw [e1]; exact vp_in_nI (by omega) (by omega)
    have v2 : vp_in (nI (5 * i) + (2 : Int32)) N := by rw [e2]; exact vp_in_nI (by omega) (by omega)
    have v3 : vp_in (nI (5 * i) + (3 : Int32)) N := by rw [e3]; exact vp_in_nI (by omega) (by omega)
    have v4 : vp_in (nI (5 * i) + (4 : Int32)) N := by rw [e4]; exact vp_in_nI (by omega) (by omega)
    have hA' : ∀ M', INV M' → A M' (nI (5 * i) + (5 : Int32)) := fun M' h => by rw [e5]; exact hA q M' h
    exact law_cases hI v0 v1 v2 v3 v4 hA'
theorem law_all {xs : Nat → Int32} {N : Nat} (hN : N ≤ 2560) : ∀ (f i : Nat) (M : Mm), N < 5 * (f + i) → i ≤ 513 → INV M → lL_law xs N (f + 1) M (nI (5 * i)) := by
  intro f
  induction f with
  | zero => intro i M h hi hI; exact law_body hN (by omega) hI (fun q => by omega)
  | succ f ih =>
    intro i M h hi hI
    exact law_body hN (by omega) hI (fun q M' hI' => ih (i + 1) M' (by omega) (by omega) hI')
