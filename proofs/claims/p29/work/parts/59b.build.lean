/-! what every state keeps: canals, fields, turns -/
theorem ag_mono {n n' : Nat} {x : Int32} (h : agF n x = true) (hn : n ≤ n') : agF n' x = true := ag_mk (fun k hk hb => by have := ag_of h k hk hb; omega)
theorem V0.le {S : SS} {n m tt : Nat} (h : V0 S n m tt) : (1 ≤ n ∧ n ≤ 8) ∧ m ≤ 10 ∧ tt ≤ 8 := ⟨h.1.2.2.2.1, h.1.2.2.2.2.1, h.1.2.2.2.2.2.1⟩
theorem i_rg {a b : Nat} {x : Int32} (h : inr a b x = true) : (a : Int) ≤ x.toInt ∧ x.toInt ≤ (b : Int) - 1 := by
  have := of_decide_eq_true h
  omega
theorem tdF_z {S : SS} {x : Int32} {i g : Nat} (hg : g = i) (h : ca S g 5 ≠ x) : tdF S x (i + 1) = tdF S x i ∨ i = 0 := by
  subst hg
  by_cases e : g = 0
  · exact Or.inr e
  · left
    conv => lhs; unfold tdF
    rw [if_neg e, if_neg h, Nat.add_zero]
theorem nI_nm1 {k : Nat} (h : k < 3) : (-1 : Int32) ≠ nI k := by
  intro z
  have : (nI k).toInt = k := nI_toInt (by omega)
  rw [← z] at this
  have e1 : (-1 : Int32).toInt = -1 := by decide
  omega
theorem VV_cn {S : SS} {n m tt : Nat} {p k w s : Int32} (h : VV S n m tt) (h8 : n < 8) (hp : inr 0 n p = true) (hw : inr 1 501 w = true) (hs : inr 0 501 s = true) : VV (cnS S n p k w s) (n + 1) m tt := by
  obtain ⟨⟨hW, hTu, hF, hC, hO, hG⟩, ⟨⟨hK0, hK⟩, hK2⟩, hA⟩ := h
  obtain ⟨s0, s1, s2, s3, s4, s5, s6, s7, s8⟩ := cnS_s (S := S) (n := n) (p := p) (k := k) (w := w) (s := s)
  have hn1 := hW.2.2.2.1.1
  have hm := hW.2.2.2.2.1
  have oc : ∀ c w', c < n → w' < 9 → ca (cnS S n p k w s) c w' = ca S c w' := fun c w' hc hw' => cnS_o (by omega) (by omega)
  have of : ∀ f w', fi (cnS S n p k w s) f w' = fi S f w' := fun f w' => cnS_o (by omega) (by omega)
  obtain ⟨pn, -, pl, ep⟩ := inr_of hp
  have e0 : cnS S n p k w s 0 = nI (n + 1) := upd_s
  obtain ⟨w0, w1, w2, -, w5, w6, w7, w8⟩ := hW
  refine ⟨⟨⟨e0, by rw [cnS_o (by omega) (by omega)]; exact w1, by rw [cnS_o (by omega) (by omega)]; exact w2, ⟨by omega, by omega⟩, w5, w6, fun c c1 c2 => ?_, fun f hf => ?_⟩, ?_, ?_, fun c hc => ?_, ⟨?_, fun g hg => ?_⟩, fun i hi => ?_⟩, ⟨⟨?_, fun c hc => ?_⟩, fun x hx => ?_⟩, ?_⟩
  · by_cases e : c = n
    · subst e
      unfold pa
      rw [s0, ep, ixn (by omega)]
      exact ⟨pl, rfl⟩
    · unfold pa
      rw [oc c 0 (by omega) (by omega)]
      exact w7 c c1 (by omega)
  · unfold at_
    rw [of]
    have := w8 f hf
    exact ⟨by have := this.1; unfold at_ at this; omega, this.2⟩
  · exact hTu.of (cnS_o (by omega) (by omega)) (cnS_o (by omega) (by omega)) (fun i _ => cnS_o (by omega) (by omega))
  · exact VF_of hF (fun f w _ _ => of f w)
  · by_cases e : c = n
    · subst e
      rw [s2, s3, s6]
      have a := i_rg hw
      have b := i_rg hs
      refine ⟨⟨by omega, by omega⟩, ⟨by omega, by omega⟩, ⟨by decide, by decide⟩⟩
    · rw [oc c 2 (by omega) (by omega), oc c 3 (by omega) (by omega), oc c 6 (by omega) (by omega)]
      exact hC c (by omega)
  · unfold opn
    rw [oc 0 4 (by omega) (by omega)]
    exact hO.1
  · by_cases e : g = n
    · subst e; exact Or.inl s4
    · rw [oc g 4 (by omega) (by omega)]
      exact hO.2 g (by omega)
  · rw [cnS_o (by omega) (by omega)]
    exact ag_mono (hG i hi) (by omega)
  · rw [oc 0 5 (by omega) (by omega)]; exact hK0
  · by_cases e : c = n
    · subst e; exact Or.inl s5
    · rw [oc c 5 (by omega) (by omega)]; exact hK c (by omega)
  · have a := tdF_z (S := cnS S n p k w s) (x := nI x) (i := n) rfl (by rw [s5]; exact nI_nm1 hx)
    rcases a with a | a
    · rw [a, tdF_cg (S := S) n (fun c hc => oc c 5 hc (by omega))]
      exact hK2 x hx
    · omega
  · exact VA_of hA (oc 0 2 (by omega) (by omega)) (fun k h5 h9 => cnS_o (by omega) (by omega))
theorem VV_can {S : SS} {n m tt n' : Nat} {p k w s : Int32} (h : VV S n m tt) (hn : n' = (if (canF S n p k w s).2 ≤ -1000001 then n else n + 1)) : VV (canF S n p k w s).1 n' m tt := by
  have hle := h.1.le
  by_cases g : inr 0 n p = true ∧ inr 0 3 k = true ∧ inr 1 501 w = true ∧ inr 0 501 s = true
  · by_cases e : n = 8
    · have hF : canF S n p k w s = (S, -1000003) := by unfold canF; rw [if_pos g, if_pos e]
      rw [hF] at hn ⊢
      rw [if_pos (show (-1000003 : Int32) ≤ -1000001 by decide)] at hn
      rw [hn]; exact h
    · have hF : canF S n p k w s = (cnS S n p k w s, nI n) := by unfold canF; rw [if_pos g, if_neg e]
      rw [hF] at hn ⊢
      rw [if_neg (show ¬ nI n ≤ -1000001 from nI_not (by omega))] at hn
      rw [hn]
      exact VV_cn h (by omega) g.1 g.2.2.1 g.2.2.2
  · have hF : canF S n p k w s = (S, -1000001) := by unfold canF; rw [if_neg g]
    rw [hF] at hn ⊢
    rw [if_pos (show (-1000001 : Int32) ≤ -1000001 by decide)] at hn
    rw [hn]; exact h
theorem VV_fd {S : SS} {n m tt : Nat} {c d o r : Int32} (h : VV S n m tt) (h10 : m < 10) (hc : inr 0 n c = true) (hd : inr 1 1000 d = true) (ho : inr 1 201 o = true) (hr : inr 0 100 r = true) : VV (fdS S m c d o r) n (m + 1) tt := by
  obtain ⟨⟨hW, hTu, hF, hC, hO, hG⟩, hK, hA⟩ := h
  obtain ⟨s0, s1, s2, s3, s4, s5, s6⟩ := fdS_s (S := S) (m := m) (c := c) (d := d) (o := o) (r := r)
  have hn1 := hW.2.2.2.1
  have oc : ∀ c' w', c' < 8 → w' < 9 → ca (fdS S m c d o r) c' w' = ca S c' w' := fun c' w' hc hw' => fdS_o (by omega) (by omega)
  have of : ∀ f w', f < m → w' < 7 → fi (fdS S m c d o r) f w' = fi S f w' := fun f w' hf hw => fdS_o (by omega) (by omega)
  obtain ⟨pn, -, pl, ep⟩ := inr_of hc
  have e1 : fdS S m c d o r 1 = nI (m + 1) := upd_s
  obtain ⟨w0, w1, w2, w3, w5, w6, w7, w8⟩ := hW
  refine ⟨⟨⟨by rw [fdS_o (by omega) (by omega)]; exact w0, e1, by rw [fdS_o (by omega) (by omega)]; exact w2, w3, by omega, w6, fun c c1 c2 => ?_, fun f hf => ?_⟩, ?_, fun f hf => ?_, VC_of hC (fun c w _ _ => oc c w (by omega) (by omega)), ⟨?_, fun g hg => ?_⟩, fun i hi => ?_⟩, VKC_of hK (by omega) (fun c hc => oc c 5 (by omega) (by omega)), ?_⟩
  · unfold pa
    rw [oc c 0 (by omega) (by omega)]
    exact w7 c c1 c2
  · by_cases e : f = m
    · subst e
      unfold at_
      rw [s0, ep, ixn (by omega)]
      exact ⟨pl, rfl⟩
    · unfold at_
      rw [of f 0 (by omega) (by omega)]
      exact w8 f (by omega)
  · exact hTu.of (fdS_o (by omega) (by omega)) (fdS_o (by omega) (by omega)) (fun i _ => fdS_o (by omega) (by omega))
  · by_cases e : f = m
    · subst e
      rw [s1, s2, s3, s4, s5]
      have a := i_rg hd
      have b := i_rg ho
      have x := i_rg hr
      have z : (0 : Int32).toInt = 0 := by decide
      refine ⟨⟨by omega, by omega⟩, ⟨by omega, by omega⟩, ⟨by omega, by omega⟩, ⟨by omega, by omega⟩, Or.inl rfl⟩
    · rw [of f 1 (by omega) (by omega), of f 2 (by omega) (by omega), of f 3 (by omega) (by omega), of f 4 (by omega) (by omega), of f 5 (by omega) (by omega)]
      exact hF f (by omega)
  · unfold opn
    rw [oc 0 4 (by omega) (by omega)]
    exact hO.1
  · rw [oc g 4 (by omega) (by omega)]
    exact hO.2 g hg
  · rw [fdS_o (by omega) (by omega)]
    exact hG i hi
  · exact VA_of hA (oc 0 2 (by omega) (by omega)) (fun k h5 h9 => fdS_o (by omega) (by omega))
theorem VV_fld {S : SS} {n m tt m' : Nat} {c d o r : Int32} (h : VV S n m tt) (hn : m' = (if (fldF S n m c d o r).2 ≤ -1000001 then m else m + 1)) : VV (fldF S n m c d o r).1 n m' tt := by
  have hle := h.1.le
  by_cases g : inr 0 n c = true ∧ inr 1 1000 d = true ∧ inr 1 201 o = true ∧ inr 0 100 r = true
  · by_cases e : m = 10
    · have hF : fldF S n m c d o r = (S, -1000003) := by unfold fldF; rw [if_pos g, if_pos e]
      rw [hF] at hn ⊢
      rw [if_pos (show (-1000003 : Int32) ≤ -1000001 by decide)] at hn
      rw [hn]; exact h
    · have hF : fldF S n m c d o r = (fdS S m c d o r, nI m) := by unfold fldF; rw [if_pos g, if_neg e]
      rw [hF] at hn ⊢
      rw [if_neg (show ¬ nI m ≤ -1000001 from nI_not (by omega))] at hn
      rw [hn]
      exact VV_fd h (by omega) g.1 g.2.1 g.2.2.1 g.2.2.2
  · have hF : fldF S n m c d o r = (S, -1000001) := by unfold fldF; rw [if_neg g]
    rw [hF] at hn ⊢
    rw [if_pos (show (-1000001 : Int32) ≤ -1000001 by decide)] at hn
    rw [hn]; exact h
theorem VF_as {S S' : SS} {m : Nat} (h : VF S m) (h' : ∀ k, 5 ≤ k → k < 152 → S' k = S k) (hm : m ≤ 10) : VF S' m := VF_of h (fun f w hf hw => h' _ (by omega) (by omega))
/-- turns alone are changed -/
theorem VV_tu {S S' : SS} {n m tt tt' : Nat} (h : VV S n m tt) (h' : ∀ k, 5 ≤ k → k < 152 → S' k = S k) (h0 : S' 0 = S 0) (h1 : S' 1 = S 1) (h2 : S' 2 = nI tt') (ht : tt' ≤ 8) (hu : Tu S' tt') (hg : TG S' n tt') : VV S' n m tt' := by
  obtain ⟨⟨hW, hTu, hF, hC, hO, hG⟩, hK, hA⟩ := h
  obtain ⟨w0, w1, w2, w3, w5, w6, w7, w8⟩ := hW
  have oc : ∀ c' w', c' < n → w' < 9 → ca S' c' w' = ca S c' w' := fun c' w' hc hw' => h' _ (by omega) (by omega)
  refine ⟨⟨⟨by rw [h0]; exact w0, by rw [h1]; exact w1, h2, w3, w5, ht, fun c c1 c2 => ?_, fun f hf => ?_⟩, hu, VF_as hF h' w5, VC_of hC (fun c w _ _ => oc c w (by omega) (by omega)), ⟨?_, fun g hg => ?_⟩, hg⟩, VKC_of hK (by omega) (fun c hc => oc c 5 (by omega) (by omega)), ?_⟩
  · unfold pa
    rw [oc c 0 (by omega) (by omega)]
    exact w7 c c1 c2
  · unfold at_ fi
    rw [h' _ (by omega) (by omega)]
    exact w8 f hf
  · unfold opn
    rw [oc 0 4 (by omega) (by omega)]
    exact hO.1
  · rw [oc g 4 (by omega) (by omega)]
    exact hO.2 g hg
  · exact VA_of hA (oc 0 2 (by omega) (by omega)) (fun k h5 h9 => h' k h5 (by omega))
theorem VV_tn {S : SS} {n m tt : Nat} {g x : Int32} (h : VV S n m tt) (ht : tt < 8) (hg : agF n g = true) (hx : inr 1 21 x = true) : VV (tnS S tt g x) n m (tt + 1) := by
  have hTu := h.1.2.1
  have hG := h.1.2.2.2.2.2
  obtain ⟨k, k1, k2, ek⟩ := inr_of hx
  have o : ∀ i, i ≠ 2 → i ≠ 3 → i ≠ 4 → i ≠ 152 + 2 * tt → i ≠ 153 + 2 * tt → tnS S tt g x i = S i := fun i a b c d e => by unfold tnS; rw [upd_o c, upd_o b, upd_o a, upd_o e, upd_o d]
  have x0 : tnS S tt g x (152 + 2 * tt) = g := by unfold tnS; rw [upd_o (by omega), upd_o (by omega), upd_o (by omega), upd_o (by omega), upd_s]
  have x1 : tnS S tt g x (153 + 2 * tt) = x := by unfold tnS; rw [upd_o (by omega), upd_o (by omega), upd_o (by omega), upd_s]
  have hh : ∀ i, i < tt + 1 → ∃ h, tnS S tt g x (153 + 2 * i) = nI h ∧ 1 ≤ h ∧ h ≤ 20 := by
    intro i hi
    by_cases e : i = tt
    · subst e; exact ⟨k, by rw [x1, ek], k1, by omega⟩
    · rw [o _ (by omega) (by omega) (by omega) (by omega) (by omega)]
      exact hTu.2.2 i (by omega)
  refine VV_tu h (fun k k1 k2 => o k (by omega) (by omega) (by omega) (by omega) (by omega)) (o 0 (by omega) (by omega) (by omega) (by omega) (by omega)) (o 1 (by omega) (by omega) (by omega) (by omega) (by omega)) ?_ (by omega) ⟨fun z => by omega, fun _ => ?_, hh⟩ (fun i hi => ?_)
  · unfold tnS; rw [upd_o (by omega), upd_o (by omega), upd_s]
  · obtain ⟨y, y1, y2, y3⟩ := hh 0 (by omega)
    refine ⟨0, 0, y, by omega, ?_, upd_s, y1, by omega, y3⟩
    unfold tnS; rw [upd_o (by omega), upd_s]; rfl
  · by_cases e : i = tt
    · subst e; rw [x0]; exact hg
    · rw [o _ (by omega) (by omega) (by omega) (by omega) (by omega)]
      exact hG i (by omega)
theorem VV_trn {S : SS} {n m tt tt' : Nat} {g x : Int32} (h : VV S n m tt) (hn : tt' = (if (trnF S n tt g x).2 ≤ -1000001 then tt else tt + 1)) : VV (trnF S n tt g x).1 n m tt' := by
  have hle := h.1.le
  by_cases y : agF n g = true ∧ inr 1 21 x = true
  · by_cases e : tt = 8
    · have hF : trnF S n tt g x = (S, -1000003) := by unfold trnF; rw [if_pos y, if_pos e]
      rw [hF] at hn ⊢
      rw [if_pos (show (-1000003 : Int32) ≤ -1000001 by decide)] at hn
      rw [hn]; exact h
    · have hF : trnF S n tt g x = (tnS S tt g x, nI (tt + 1)) := by unfold trnF; rw [if_pos y, if_neg e]
      rw [hF] at hn ⊢
      rw [if_neg (show ¬ nI (tt + 1) ≤ -1000001 from nI_not (by omega))] at hn
      rw [hn]
      exact VV_tn h (by omega) y.1 y.2
  · have hF : trnF S n tt g x = (S, -1000001) := by unfold trnF; rw [if_neg y]
    rw [hF] at hn ⊢
    rw [if_pos (show (-1000001 : Int32) ≤ -1000001 by decide)] at hn
    rw [hn]; exact h
theorem nt_eq {S : SS} {t : Nat} : (ntF S t).1 = upd (upd (upd S 2 0) 3 0) 4 0 := rfl
theorem VV_nt {S : SS} {n m tt : Nat} (h : VV S n m tt) : VV (ntF S tt).1 n m 0 := by
  rw [nt_eq]
  have o : ∀ i, i ≠ 2 → i ≠ 3 → i ≠ 4 → upd (upd (upd S 2 0) 3 0) 4 0 i = S i := fun i a b c => by rw [upd_o c, upd_o b, upd_o a]
  refine VV_tu h (fun k k1 k2 => o k (by omega) (by omega) (by omega)) (o 0 (by omega) (by omega) (by omega)) (o 1 (by omega) (by omega) (by omega)) ?_ (by omega) ⟨fun _ => ⟨?_, upd_s⟩, fun z => by omega, fun i hi => by omega⟩ (fun i hi => by omega)
  · rw [upd_o (by omega), upd_o (by omega), upd_s]; rfl
  · rw [upd_o (by omega), upd_s]
