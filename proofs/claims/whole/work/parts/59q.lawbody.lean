/-! the law's body -/
def LP (A : Mm → Int32 → Prop) (y0 : Int32) (M' : Mm) (r1 r2 : Int32) : Prop := (r1 = r2 → ∀ y, y = y0 → A M' y) ∧ (¬ r1 = r2 → False)
set_option maxHeartbeats 4000000 in
theorem law_body {xs : Nat → Int32} {N : Nat} {A : Mm → Int32 → Prop} {M : Mm} {i : Nat} (hN : N ≤ 2560) (hi5 : i ≤ 1000) (hI : INV M) (hA : 5 * i + 5 ≤ N → ∀ M', INV M' → A M' (nI (5 * i + 5))) : bL_law xs N A M (nI (5 * i)) := by
  refine ⟨fun _ => trivial, fun d => ?_⟩
  have hlt : 5 * i + 5 ≤ N := by
    rcases Nat.lt_or_ge N (5 * i + 5) with q | q
    · refine absurd (i_lt.mpr ?_) d
      have e5 : (5 : Int32).toInt = 5 := by decide
      have eN : (Int32.ofNat N).toInt = N := nI_toInt (n := N) (by omega)
      rw [i_sub (by omega) (by omega), eN, e5, nI_toInt (by omega)]
      omega
    · exact q
  have v0 : vp_in (nI (5 * i)) N := vp_in_nI (by omega) (by omega)
  have v1 : vp_in (nI (5 * i) + 1) N := vp_in_nI (n := 5 * i + 1) (by omega) (by omega)
  have v2 : vp_in (nI (5 * i) + 2) N := vp_in_nI (n := 5 * i + 2) (by omega) (by omega)
  have v3 : vp_in (nI (5 * i) + 3) N := vp_in_nI (n := 5 * i + 3) (by omega) (by omega)
  have v4 : vp_in (nI (5 * i) + 4) N := vp_in_nI (n := 5 * i + 4) (by omega) (by omega)
  have hA' := hA hlt
  have e5 : nI (5 * i) + 5 = nI (5 * i + 5) := nI_add (5 * i) 5
  rw [← e5] at hA'
  clear hA e5 d hlt hN hi5
  generalize nI (5 * i) = x3 at v0 v1 v2 v3 v4 hA'
  have fin : ∀ M' r, INV M' → LP A (x3 + 5) M' r r := by
    intro M' r h
    refine ⟨fun _ y ey => ?_, fun z => z rfl⟩
    rw [ey]
    exact hA' M' h
  have hI2 := hI
  obtain ⟨n, m, tt, s, L, P, hI0⟩ := hI
  refine ⟨v0, fun sw _ => ?_⟩
  refine ⟨fun _ => ?_, fun _ => ?_⟩
  · exact ⟨v1, v2, v3, v4, law_canal (Post := LP A (x3 + 5)) v1 v2 v3 v4 hI0 fin⟩
  refine ⟨fun _ => ?_, fun _ => ?_⟩
  · exact ⟨v1, v2, v3, v4, law_field (Post := LP A (x3 + 5)) v1 v2 v3 v4 hI0 fin⟩
  refine ⟨fun _ => ?_, fun _ => ?_⟩
  · exact ⟨v1, v2, law_tend (Post := LP A (x3 + 5)) v1 v2 hI0 fin⟩
  refine ⟨fun _ => ?_, fun _ => ?_⟩
  · exact ⟨v1, law_leave (Post := LP A (x3 + 5)) v1 hI0 fin⟩
  refine ⟨fun _ => ?_, fun _ => ?_⟩
  · exact ⟨v1, law_open (Post := LP A (x3 + 5)) v1 hI0 fin⟩
  refine ⟨fun _ => ?_, fun _ => ?_⟩
  · exact ⟨v1, law_close (Post := LP A (x3 + 5)) v1 hI0 fin⟩
  refine ⟨fun _ => ?_, fun _ => ?_⟩
  · exact ⟨v1, law_call (Post := LP A (x3 + 5)) v1 hI0 fin⟩
  refine ⟨fun _ => ?_, fun _ => ?_⟩
  · exact ⟨v1, v2, law_turn (Post := LP A (x3 + 5)) v1 v2 hI0 fin⟩
  refine ⟨fun _ => ?_, fun _ => ?_⟩
  · exact law_noTurns (Post := LP A (x3 + 5)) hI0 fin
  refine ⟨fun _ => ?_, fun _ => ?_⟩
  · exact ⟨v1, law_hour (Post := LP A (x3 + 5)) v1 hI0 fin⟩
  refine ⟨fun _ => ?_, fun _ => ?_⟩
  · exact ⟨v1, v2, law_run (Post := LP A (x3 + 5)) v1 v2 hI0 fin⟩
  refine ⟨fun _ => ?_, fun _ => ?_⟩
  · exact ⟨v1, v2, law_canalOf (Post := LP A (x3 + 5)) v1 v2 hI0 fin⟩
  refine ⟨fun _ => ?_, fun _ => ?_⟩
  · exact ⟨v1, v2, law_fieldOf (Post := LP A (x3 + 5)) v1 v2 hI0 fin⟩
  refine ⟨fun _ => ?_, fun _ => ?_⟩
  · exact ⟨v1, v2, law_turnOf (Post := LP A (x3 + 5)) v1 v2 hI0 fin⟩
  refine ⟨fun _ => ?_, fun _ => ?_⟩
  · exact ⟨v1, law_share (Post := LP A (x3 + 5)) v1 hI0 fin⟩
  refine ⟨fun _ => ?_, fun _ => ?_⟩
  · exact ⟨v1, v2, v3, law_would (Post := LP A (x3 + 5)) v1 v2 v3 hI0 fin⟩
  refine ⟨fun _ => ?_, fun _ => ?_⟩
  · exact ⟨v1, v2, v3, law_leastGates (Post := LP A (x3 + 5)) v1 v2 v3 hI0 fin⟩
  refine ⟨fun _ => ?_, fun _ => ?_⟩
  · exact ⟨v1, law_fewestBuckets (Post := LP A (x3 + 5)) v1 hI0 fin⟩
  refine ⟨fun _ => ?_, fun _ => ?_⟩
  · exact ⟨v1, law_hoursFor (Post := LP A (x3 + 5)) v1 hI0 fin⟩
  refine ⟨fun _ => ?_, fun _ => ?_⟩
  · exact ⟨v1, law_rightAt (Post := LP A (x3 + 5)) v1 hI0 fin⟩
  refine ⟨fun _ => ?_, fun _ => ?_⟩
  · exact ⟨v1, law_count (Post := LP A (x3 + 5)) v1 hI0 fin⟩
  refine ⟨fun _ => ?_, fun _ => ?_⟩
  · exact law_undo (Post := LP A (x3 + 5)) hI0 fin
  refine ⟨fun _ => ?_, fun _ => ?_⟩
  · exact ⟨v1, law_type (Post := LP A (x3 + 5)) v1 hI0 fin⟩
  refine ⟨fun _ => ?_, fun _ => ?_⟩
  · exact law_clear (Post := LP A (x3 + 5)) hI0 fin
  refine ⟨fun _ => ?_, fun _ => ?_⟩
  · exact ⟨v1, law_fault (Post := LP A (x3 + 5)) v1 hI0 fin⟩
  refine ⟨fun _ => ?_, fun _ => ?_⟩
  · exact law_play (Post := LP A (x3 + 5)) hI0 fin
  intro y ey
  rw [ey]
  exact hA' M hI2
theorem law_all {xs : Nat → Int32} {N : Nat} (hN : N ≤ 2560) : ∀ (f i : Nat) (M : Mm), N < 5 * (f + i) → i ≤ 513 → INV M → lL_law xs N (f + 1) M (nI (5 * i)) := by
  intro f
  induction f with
  | zero => intro i M h hi hI; exact law_body hN (by omega) hI (fun q => by omega)
  | succ f ih =>
    intro i M h hi hI
    exact law_body hN (by omega) hI (fun q M' hI' => ih (i + 1) M' (by omega) (by omega) hI')
