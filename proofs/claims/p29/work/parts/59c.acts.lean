/-! what every state keeps: crews, gates, calls, orders -/
theorem tdF_up {S : SS} {g : Nat} {v x : Int32} : ∀ i, tdF (upd S (15 + 9 * g) v) x i ≤ tdF S x i + (if v = x ∧ g < i then 1 else 0) := by
  intro i
  induction i with
  | zero => exact Nat.zero_le _
  | succ i ih =>
    conv => lhs; unfold tdF
    conv => rhs; unfold tdF
    by_cases e0 : i = 0
    · rw [if_pos e0]; exact Nat.zero_le _
    · rw [if_neg e0, if_neg e0]
      by_cases e : g = i
      · subst e
        have e5 : ca (upd S (15 + 9 * g) v) g 5 = v := by unfold ca; rw [show 10 + 9 * g + 5 = 15 + 9 * g by omega, upd_s]
        rw [e5]
        have hz : ¬ (v = x ∧ g < g) := fun z => by omega
        rw [if_neg hz] at ih
        by_cases ev : v = x
        · rw [if_pos ev, if_pos (show v = x ∧ g < g + 1 from ⟨ev, by omega⟩)]; split <;> omega
        · rw [if_neg ev, if_neg (show ¬ (v = x ∧ g < g + 1) from fun z => ev z.1)]; split <;> omega
      · have e5 : ca (upd S (15 + 9 * g) v) i 5 = ca S i 5 := by unfold ca; rw [upd_o (by omega)]
        rw [e5]
        by_cases ev : v = x ∧ g < i
        · rw [if_pos ev] at ih
          rw [if_pos (show v = x ∧ g < i + 1 from ⟨ev.1, by omega⟩)]
          omega
        · rw [if_neg ev] at ih
          rw [if_neg (show ¬ (v = x ∧ g < i + 1) from fun z => ev ⟨z.1, by omega⟩)]
          omega
/-- a crew alone is changed -/
theorem VV_cw {S : SS} {n m tt g : Nat} {v : Int32} (h : VV S n m tt) (h1 : 1 ≤ g) (hg : g < n) (hv : v = -1 ∨ (0 ≤ v.toInt ∧ v.toInt ≤ 2)) (h2 : ∀ k, k < 3 → tdF (upd S (15 + 9 * g) v) (nI k) n ≤ 2) : VV (upd S (15 + 9 * g) v) n m tt := by
  obtain ⟨⟨hW, hTu, hF, hC, hO, hG⟩, ⟨⟨hK0, hK⟩, hK2⟩, hA⟩ := h
  have h8 := hW.2.2.2.1.2
  have o : ∀ i, i ≠ 15 + 9 * g → upd S (15 + 9 * g) v i = S i := fun i hi => upd_o hi
  have oc : ∀ c w, w < 9 → w ≠ 5 → ca (upd S (15 + 9 * g) v) c w = ca S c w := fun c w hw h5 => o _ (by omega)
  have of : ∀ f w, fi (upd S (15 + 9 * g) v) f w = fi S f w := fun f w => o _ (by omega)
  refine ⟨⟨hW.of (o 0 (by omega)) (o 1 (by omega)) (o 2 (by omega)) (fun c _ => oc c 0 (by omega) (by omega)) (fun f _ => of f 0), hTu.of (o 3 (by omega)) (o 4 (by omega)) (fun i _ => o _ (by omega)), VF_of hF (fun f w _ _ => of f w), fun c hc => ?_, ⟨?_, fun c hc => ?_⟩, fun i hi => ?_⟩, ⟨⟨?_, fun c hc => ?_⟩, h2⟩, VA_of hA (oc 0 2 (by omega) (by omega)) (fun k h5 h9 => o k (by omega))⟩
  · rw [oc c 2 (by omega) (by omega), oc c 3 (by omega) (by omega), oc c 6 (by omega) (by omega)]
    exact hC c hc
  · unfold opn
    rw [oc 0 4 (by omega) (by omega)]
    exact hO.1
  · rw [oc c 4 (by omega) (by omega)]
    exact hO.2 c hc
  · rw [o _ (by omega)]
    exact hG i hi
  · unfold ca
    rw [o _ (by omega)]
    exact hK0
  · by_cases e : c = g
    · subst e
      have e5 : ca (upd S (15 + 9 * c) v) c 5 = v := by unfold ca; rw [show 10 + 9 * c + 5 = 15 + 9 * c by omega, upd_s]
      rw [e5]
      exact hv
    · unfold ca
      rw [o _ (by omega)]
      exact hK c hc
theorem VV_tnd {S : SS} {n m tt : Nat} {x y : Int32} (h : VV S n m tt) : VV (tndF S n x y).1 n m tt := by
  have hle := h.1.le
  unfold tndF
  split
  · next g =>
    split
    · exact h
    · next e =>
      split
      · exact h
      · next e2 =>
        obtain ⟨k, -, k2, ek⟩ := inr_of g.1
        obtain ⟨c, c1, c2, ec⟩ := inr_of g.2
        subst ek
        subst ec
        rw [ixn (by omega)] at e ⊢
        have et : (nI k).toInt = k := nI_toInt (by omega)
        refine VV_cw h c1 c2 (Or.inr (by omega)) (fun j hj => ?_)
        have a := tdF_up (S := S) (g := c) (v := nI k) (x := nI j) n
        have b := h.2.1.2 j hj
        by_cases ej : nI k = nI j
        · rw [if_pos ⟨ej, c2⟩] at a
          rw [ej] at e2
          rw [ej] at a ⊢
          omega
        · rw [if_neg (fun z => ej z.1)] at a
          omega
  · exact h
theorem VV_lv {S : SS} {n m tt : Nat} {y : Int32} (h : VV S n m tt) : VV (lvF S n y).1 n m tt := by
  have hle := h.1.le
  unfold lvF
  split
  · next g =>
    split
    · obtain ⟨c, c1, c2, ec⟩ := inr_of g
      subst ec
      rw [ixn (by omega)]
      refine VV_cw h c1 c2 (Or.inl rfl) (fun j hj => ?_)
      have a := tdF_up (S := S) (g := c) (v := -1) (x := nI j) n
      have b := h.2.1.2 j hj
      rw [if_neg (fun z => nI_nm1 hj z.1)] at a
      omega
    · exact h
  · exact h
theorem VV_mv {S : SS} {n m tt : Nat} {y o : Int32} (h : VV S n m tt) (ho : o = 0 ∨ o = 1) : VV (mvF S n y o).1 n m tt := by
  obtain ⟨⟨hW, hTu, hF, hC, hO, hG⟩, hK, hA⟩ := h
  have h8 := hW.2.2.2.1.2
  have h1 := hW.2.2.2.1.1
  have oo : ∀ i, (∀ g, g < n → i ≠ 14 + 9 * g) → (mvF S n y o).1 i = S i := fun i hi => mv_o h8 hi
  have oc : ∀ c w, w < 9 → w ≠ 4 → ca (mvF S n y o).1 c w = ca S c w := fun c w hw h5 => oo _ (fun g _ => by omega)
  refine ⟨⟨Wf_mv hW, Tu_mv h8 hTu, VF_of hF (fun f w _ _ => oo _ (fun g _ => by omega)), fun c hc => ?_, ?_, fun i hi => ?_⟩, VKC_of hK h1 (fun c _ => oc c 5 (by omega) (by omega)), VA_of hA (oc 0 2 (by omega) (by omega)) (fun k h5 h9 => oo k (fun g _ => by omega))⟩
  · rw [oc c 2 (by omega) (by omega), oc c 3 (by omega) (by omega), oc c 6 (by omega) (by omega)]
    exact hC c hc
  · unfold mvF
    split
    · next g =>
      split
      · exact hO
      · obtain ⟨c, c1, c2, ec⟩ := inr_of g
        subst ec
        rw [ixn (by omega)]
        exact VO_mv hO c1 ho
    · exact hO
  · rw [oo _ (fun g _ => by omega)]
    exact hG i hi
theorem VV_cl {S : SS} {n m tt : Nat} {y : Int32} (h : VV S n m tt) : VV (clF S m y).1 n m tt := by
  obtain ⟨⟨hW, hTu, hF, hC, hO, hG⟩, hK, hA⟩ := h
  have h8 := hW.2.2.2.1.2
  have h1 := hW.2.2.2.1.1
  have h10 := hW.2.2.2.2.1
  have oo : ∀ i, (∀ f, f < m → i ≠ 87 + 7 * f) → (clF S m y).1 i = S i := fun i hi => cl_o h10 hi
  have oc : ∀ c w, c < n → w < 9 → ca (clF S m y).1 c w = ca S c w := fun c w hc hw => oo _ (fun g _ => by omega)
  refine ⟨⟨Wf_cl hW, Tu_cl h10 hTu, ?_, VC_of hC (fun c w hc _ => oc c w hc (by omega)), ⟨?_, fun c hc => ?_⟩, fun i hi => ?_⟩, VKC_of hK h1 (fun c hc => oc c 5 hc (by omega)), VA_of hA (oc 0 2 (by omega) (by omega)) (fun k h5 h9 => oo k (fun g _ => by omega))⟩
  · unfold clF
    split
    · split
      · exact hF
      · exact VF_cl hF
    · exact hF
  · unfold opn
    rw [oc 0 4 (by omega) (by omega)]
    exact hO.1
  · rw [oc c 4 hc (by omega)]
    exact hO.2 c hc
  · rw [oo _ (fun g _ => by omega)]
    exact hG i hi
theorem VA_hr {S : SS} (h : VA S) : ∃ hr : Nat, S 5 = nI hr ∧ hr ≤ 20000 ∧ 0 ≤ (S 7).toInt ∧ (S 7).toInt ≤ 4000000 := by
  obtain ⟨a, hr, b, c, d, e, f, g, x⟩ := h
  exact ⟨hr, b, c, d, by omega⟩
/-- an act on a text's way: what is added is what is got -/
def gt (S S' : SS) (r : Int32) : Prop := ¬ r ≤ -1000001 → r = S' 7 - S 7 ∧ (S 7).toInt ≤ (S' 7).toInt
theorem VV_goes {S : SS} {n m tt : Nat} {b : Int32} (h : VV S n m tt) : VV (goesF S n m b).1 n m tt ∧ gt S (goesF S n m b).1 (goesF S n m b).2 := by
  obtain ⟨hr, e5, h2, h70, h74⟩ := VA_hr h.2.2
  unfold goesF
  split
  · next g =>
    split
    · exact ⟨h, fun z => absurd (show (-1000003 : Int32) ≤ -1000001 by decide) z⟩
    · next e =>
      have hlt : hr < 20000 := by
        rcases Nat.lt_or_ge hr 20000 with q | q
        · exact q
        · exact absurd (by rw [e5, show hr = 20000 by omega]; rfl) e
      have hb : 0 ≤ b.toInt := by have := i_rg g; omega
      obtain ⟨a, c, d, -, -⟩ := VV_flow h hb e5 hlt
      exact ⟨a, fun _ => ⟨rfl, d⟩⟩
  · exact ⟨h, fun z => absurd (show (-1000001 : Int32) ≤ -1000001 by decide) z⟩
theorem VV_runs {S : SS} {n m tt most : Nat} {x b : Int32} (h : VV S n m tt) (hm : most ≤ 100) : VV (runsF S n m most x b).1 n m tt ∧ gt S (runsF S n m most x b).1 (runsF S n m most x b).2 := by
  obtain ⟨hr, e5, h2, h70, h74⟩ := VA_hr h.2.2
  unfold runsF
  split
  · next g =>
    obtain ⟨k, k1, k2, ek⟩ := inr_of g.1
    subst ek
    have ekk : (nI k).toInt = k := nI_toInt (by omega)
    have er : (nI hr).toInt = hr := nI_toInt (by omega)
    have e20 : (20000 : Int32).toInt = 20000 := by decide
    split
    · next e =>
      have hle : hr + k ≤ 20000 := by
        have := i_le.mp e
        rw [e5, i_add (by omega) (by omega), er, ekk] at this
        omega
      have hb : 0 ≤ b.toInt := by have := i_rg g.2; omega
      rw [ixn (by omega)]
      obtain ⟨a, c, d, -, -⟩ := VV_rs h hb e5 k hle
      exact ⟨a, fun _ => ⟨rs_sum h.1.1 h.1.2.1 k, d⟩⟩
    · exact ⟨h, fun z => absurd (show (-1000003 : Int32) ≤ -1000001 by decide) z⟩
  · exact ⟨h, fun z => absurd (show (-1000001 : Int32) ≤ -1000001 by decide) z⟩
theorem clF_7 {S : SS} {m : Nat} {y : Int32} (h10 : m ≤ 10) : (clF S m y).1 7 = S 7 := cl_o h10 (fun f _ => by omega)
theorem mvF_7 {S : SS} {n : Nat} {y o : Int32} (h8 : n ≤ 8) : (mvF S n y o).1 7 = S 7 := mv_o h8 (fun f _ => by omega)
theorem sub_tel (a b c : Int32) : (a - b) + (c - a) = c - b := by
  rw [Int32.sub_eq_add_neg a b, Int32.sub_eq_add_neg c a, Int32.sub_eq_add_neg c b, Int32.add_comm c (-a), ← Int32.add_assoc, Int32.add_comm a (-b), Int32.add_assoc (-b) a (-a), Int32.add_right_neg, Int32.add_zero, Int32.add_comm]
