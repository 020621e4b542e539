/-! states by their first 168 slots; the history back; the text -/
theorem VV_eq {S S' : SS} {n m tt : Nat} (h : VV S n m tt) (e : ∀ j, j < 168 → S' j = S j) : VV S' n m tt := by
  obtain ⟨⟨hW, hTu, hF, hC, hO, hG⟩, hK, hA⟩ := h
  have h8 := hW.2.2.2.1
  have h10 := hW.2.2.2.2.1
  have ht := hW.2.2.2.2.2.1
  have oc : ∀ c w, c < 8 → w < 9 → ca S' c w = ca S c w := fun c w hc hw => e _ (by omega)
  have of : ∀ f w, f < 10 → w < 7 → fi S' f w = fi S f w := fun f w hf hw => e _ (by omega)
  refine ⟨⟨hW.of (e 0 (by omega)) (e 1 (by omega)) (e 2 (by omega)) (fun c hc => oc c 0 hc (by omega)) (fun f hf => of f 0 hf (by omega)), ?_, VF_of hF (fun f w hf hw => of f w (by omega) (by omega)), VC_of hC (fun c w hc hw => oc c w (by omega) (by omega)), ⟨?_, fun g hg => ?_⟩, fun i hi => ?_⟩, VKC_of hK h8.1 (fun c hc => oc c 5 (by omega) (by omega)), VA_of hA (oc 0 2 (by omega) (by omega)) (fun k k1 k2 => e k (by omega))⟩
  · obtain ⟨a, b, c⟩ := hTu
    refine Tu.of ⟨a, b, c⟩ (e 3 (by omega)) (e 4 (by omega)) (fun i hi => e _ (by omega))
  · unfold opn; rw [oc 0 4 (by omega) (by omega)]; exact hO.1
  · rw [oc g 4 (by omega) (by omega)]; exact hO.2 g hg
  · rw [e _ (by omega)]; exact hG i hi
theorem TR_eq {M : Mm} {t : Nat} {S S' : SS} {n m tt : Nat} (h : TR M t S n m tt) (h8 : n ≤ 8) (h10 : m ≤ 10) (ht : tt ≤ 8) (e : ∀ j, j < 168 → S' j = S j) : TR M t S' n m tt := by
  obtain ⟨a, b, c, d, e1, f, g, x, y⟩ := h
  refine ⟨fun k j i hm => ?_, b, ?_, d, ?_, f, fun i hi => ?_, x, y⟩
  · have : i < 168 := by
      rcases hm with hm | hm | hm | hm | hm | hm | hm | hm <;> omega
    rw [e i this]
    exact a k j i hm
  · rw [c]
    refine ofB_congr n (fun k hk => ?_)
    unfold opn ca
    rw [e _ (by omega)]
  · rw [e1]
    refine ofB_congr m (fun k hk => ?_)
    unfold cls fi
    rw [e _ (by omega)]
  · rw [ord_low (S := S) (S' := S') (fun f hf => e _ (by omega))]
    exact g i hi
theorem sp6_undo {Post : Mm → Int32 → Prop} {M : Mm} {P : Nat → Nat} {s : Nat} (hp : HP M P) (hs : M 47 0 = nI s) (h4 : s ≤ 4) (hT : ∀ k, s = k + 1 → ∃ Z n m tt, TR M (P k) Z n m tt ∧ n ≤ 8 ∧ m ≤ 10 ∧ tt ≤ 8)
    (h0 : s = 0 → Post M (-1000002)) (h : ∀ k M', s = k + 1 → (∀ Z n m tt, TR M (P k) Z n m tt → n ≤ 8 → m ≤ 10 → tt ≤ 8 → TR M' 1 Z n m tt) → M' 47 0 = nI k → (∀ a, 24 ≤ a → a ≠ 47 → M' a = M a) → Post M' (nI k)) : wX6_undo Post M 0 := by
  have hs' : M (0 + 47) 0 = nI s := hs
  unfold wX6_undo
  rw [hs']
  refine ⟨fun d => ?_, fun d => h0 ?_⟩
  · have hs0 : s ≠ 0 := fun z => d (by rw [z]; rfl)
    obtain ⟨k, rfl⟩ : ∃ k, s = k + 1 := ⟨s - 1, by omega⟩
    unfold wX2_restoreLatest
    rw [hs']
    refine ⟨fun z => absurd ((nI_leI (a := k + 1) (b := 0) (by omega) (by omega)).mp z) (by omega), fun _ M2 e2 => ?_⟩
    have e2' : M2 = mu M 47 0 (nI k) := by rw [e2, nI_m1]
    have r0 : M2 (0 + 47) 0 = nI k := by rw [e2']; exact mu_at
    have r48 : M2 48 = M 48 := by rw [e2', mu_row (by omega)]
    have eP : ix (M2 (0 + 47 + 1) (ix (nI k))) = P k := by
      show ix (M2 48 (ix (nI k))) = _
      rw [r48, ixn (by omega)]
      exact hp.ix (by omega)
    rw [r0, eP]
    have hl := hp.lt (i := k) (by omega)
    refine ⟨vp_in_nI (by omega) (by omega), hp.kd (by omega), ?_⟩
    refine sp4_becomeC (a := 0 + 1) (b := P k) (by omega) (fun M' h1 h0 hf => ?_)
    have r47 : M' (0 + 47) 0 = nI k := by rw [hf (0 + 47) (by omega), r0]
    rw [r47]
    refine h k M' rfl (fun Z n m tt hZ z8 z10 zt => ?_) r47 (fun a a1 a2 => ?_)
    · refine TR_cp (M0 := M2) (a := 0 + 1) (b := P k) h1 h0 z8 z10 zt ?_
      exact hZ.of (fun j _ _ => by rw [e2', mu_row (by omega)]) (fun q _ _ => by rw [e2', mu_row (by omega)])
    · rw [hf a (by omega), e2', mu_row a2]
  · exact nI_inj (by omega) (by omega) d
theorem sp6_type {Post : Mm → Int32 → Prop} {M : Mm} {L : Nat} {x : Int32} (hL : M 141 0 = nI L) (h60 : L ≤ 60) (h1 : inr 32 127 x = false → Post M (-1000001)) (h2 : inr 32 127 x = true → L = 60 → Post M (-1000003)) (h3 : inr 32 127 x = true → L < 60 → Post (sr (sr M 142 (upd (M 142) L x)) 141 (upd (M 141) 0 (nI (L + 1)))) (nI (L + 1))) : wX6_type Post M 0 x := by
  have hL' : M (0 + 141) 0 = nI L := hL
  refine sp6_isOutside (a := 32) (b := 127) (by decide) (by decide) ⟨fun d => ?_, fun d => h1 ?_⟩
  · have g := b_sw.mp d
    rw [hL']
    refine ⟨fun c => ?_, fun c => h2 g ?_⟩
    · have hlt : L < 60 := (nI_ltI (b := 60) (by omega) (by omega)).mp c
      unfold wX3_append
      rw [hL']
      refine ⟨vp_in_nI hlt (by omega), fun M1 e1 M2 e2 => ?_⟩
      rw [ixn (by omega)] at e1
      have e1' : M1 = sr M 142 (upd (M 142) L x) := by rw [e1, mu_sr]
      have r : M1 (0 + 141) = M 141 := by rw [e1']; exact sr_o (by omega)
      have e2' : M2 = sr M1 141 (upd (M 141) 0 (nI (L + 1))) := by
        rw [e2, mu_sr, r, hL, nI_1]
      have rr : M2 (0 + 141) 0 = nI (L + 1) := by rw [e2']; show sr M1 141 _ 141 0 = _; rw [sr_s, upd_s]
      rw [rr, e2', e1']
      exact h3 g hlt
    · have : ¬ L < 60 := fun z => c (nI_lt (b := 60) z (by decide))
      omega
  · cases hh : inr 32 127 x
    · rfl
    · exact absurd hh (b_sw'.mp d)
theorem sp6_clearText {Post : Mm → Int32 → Prop} {M : Mm} {L : Nat} (hL : M 141 0 = nI L) (h : Post (sr M 141 (upd (M 141) 0 0)) (nI L)) : wX6_clearText Post M 0 := by
  intro x1 e1 M2 e2
  have e1' : x1 = nI L := e1.trans hL
  rw [e1', e2]
  show Post (mu M 141 0 0) _
  rw [mu_sr]
  exact h
