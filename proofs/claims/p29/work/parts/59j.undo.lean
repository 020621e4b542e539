/-! states by their first 168 slots; the history back; the text -/
theorem VV_eq {S S' : SS} {n m tt : Nat} (h : VV S n m tt) (e : ∀ j, j < 168 → S' j = S j) : VV S' n m tt := by
  obtain ⟨⟨hW, hTu, hF, hC, hO, hG⟩, hK, hA⟩ := h
  have h8 := hW.2.2.2.1
  have h10 := hW.2.2.2.2.1
  have ht := hW.2.2.2.2.2.1
  have oc : ∀ c w, c < 8 → w < 9 → ca S' c w = ca S c w := fun c w hc hw => e _ (by omega)
  have of : ∀ f w, f < 10 → w < 7 → fi S' f w = fi S f w := fun f w hf hw => e _ (by omega)
  refine ⟨⟨hW.of (e 0 (by omega)) (e 1 (by omega)) (e 2 (by omega)) (fun c hc => oc c 0 hc (by omega)) (fun f hf => of f 0 hf (by omega)), ?_, VF_of hF (fun f w hf hw => of f w (by omega) (by omega)), VC_of hC (fun c w hc hw => oc c w (by omega) (by omega)), ⟨?_, fun g hg => ?_⟩, fun i hi => ?_⟩, VKC_of hK h8.1 (fun c hc => oc c 5 (by omega) (by omega)), VA_of hA (oc 0 2 (by omega) (by omega)) (fun k k1 k2 => e k (by omega))⟩
  · obtain ⟨a, b, c⟩ := hTu
    refine Tu.of ⟨a, b, c⟩ (e 3 (by omega)) (e 4 (by omega)) (fun i hi => e _ (by omega))
  · unfold opn; rw [oc 0 4 (by omega) (by omega)]; exact hO.1
  · rw [oc g 4 (by omega) (by omega)]; exact hO.2 g hg
  · rw [e _ (by omega)]; exact hG i hi
theorem TR_eq {M : Mm} {t : Nat} {S S' : SS} {n m tt : Nat} (h : TR M t S n m tt) (h8 : n ≤ 8) (h10 : m ≤ 10) (ht : tt ≤ 8) (e : ∀ j, j < 168 → S' j = S j) : TR M t S' n m tt := by
  obtain ⟨a, b, c, d, e1, f, g, x, y⟩ := h
  refine ⟨fun k j i hm => ?_, b, ?_, d, ?_, f, fun i hi => ?_, x, y⟩
  · have : i < 168 := by
      rcases hm with hm | hm | hm | hm | hm | hm | hm | hm <;> omega
    rw [e i this]
    exact a k j i hm
  · rw [c]
    refine ofB_congr n (fun k hk => ?_)
    unfold opn ca
    rw [e _ (by omega)]
  · rw [e1]
    refine ofB_congr m (fun k hk => ?_)
    unfold cls fi
    rw [e _ (by omega)]
  · rw [ord_low (S := S) (S' := S') (fun f hf => e _ (by omega))]
    exact g i hi
theorem sp6_undo {Post : Mm → Int32 → Prop} {M : Mm} {P : Nat → Nat} {s : Nat} (hp : HP M P) (hs : M 47 0 = nI s) (h4 : s ≤ 4) (hT : ∀ k, s = k + 1 → ∃ Z n m tt, TR M (P k) Z n m tt ∧ n ≤ 8 ∧ m ≤ 10 ∧ tt ≤ 8)
    (h0 : s = 0 → Post M (-1000002)) (h : ∀ k M', s = k + 1 → (∀ Z n m tt, TR M (P k) Z n m tt → n ≤ 8 → m ≤ 10 → tt ≤ 8 → TR M' 1 Z n m tt) → M' 47 0 = nI k → (∀ a, 24 ≤ a → a ≠ 47 → M' a = M a) → Post M' (nI k)) : wX6_undo Post M 0 := by
  have hs' : M (0 + 47) 0 = nI s := hs
  unfold wX6_undo
  rw [hs']
  refine ⟨fun d => ?_, fun d => h0 ?_⟩
  · have hs0 : s ≠ 0 := fun z => d (by rw [z]; rfl)
    obtain ⟨k, rfl⟩ : ∃ k, s = k + 1 := ⟨s - 1, by omega⟩
    unfold wX2_restoreLatest
    rw [hs']
    refine ⟨fun z => absurd ((nI_leI (a := k + 1) (b := 0) (by omega) (by omega)).mp z) (by omega), fun _ M2 e2 => ?_⟩
    have e2' : M2 = mu M 47 0 (nI k) := by rw [e2, nI_m1]
    have r0 : M2 (0 + 47) 0 = nI k := by rw [e2']; exact mu_at
    have r48 : M2 48 = M 48 := by rw [e2', mu_row (by omega)]
    have eP : ix (M2 (0 + 47 + 1) (ix (nI k))) = P k := by
      show ix (M2 48 (ix (nI k))) = _
      rw [r48, ixn (by omega)]
      exact hp.ix (by omega)
    rw [r0, eP]
    have hl := hp.lt (i := k) (by omega)
    refine ⟨vp_in_nI (by omega) (by omega), hp.kd (by omega), ?_⟩
    refine sp4_becomeC (a := 0 + 1) (b := P k) (by omega) (fun M' h1 h0 hf => ?_)
    have r47 : M' (0 + 47) 0 = nI k := by rw [hf (0 + 47) (by omega), r0]
    rw [r47]
    refine h k M' rfl (fun Z n m tt hZ z8 z10 zt => ?_) r47 (fun a a1 a2 => ?_)
    · refine TR_cp (M0 := M2) (a := 0 + 1) (b := P k) h1 h0 z8 z10 zt ?_
      exact hZ.of (fun j _ _ => by rw [e2', mu_row (by omega)]) (fun q _ _ => by rw [e2', mu_row (by omega)])
    · rw [hf a (by omega), e2', mu_row a2]
  · exact nI_inj (by omega) (by omega) d
