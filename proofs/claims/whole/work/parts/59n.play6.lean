/-! the class: a text played -/
def CAO (M M' : Mm) (P : Nat → Nat) (s : Nat) (S S' : SS) (n m tt n' m' tt' : Nat) (r : Int32) : Prop :=
  TR M' 1 S' n' m' tt' ∧ (∀ a, 142 ≤ a → M' a = M a) ∧ M' 141 0 = M 141 0 ∧
  (r ≤ -1000001 → M' 47 0 = M 47 0 ∧ HP M' P ∧ ∀ k, k < 4 → ∀ a, P k ≤ a → a < P k + 23 → M' a = M a) ∧
  (¬ r ≤ -1000001 → ∃ P', HP M' P' ∧ M' 47 0 = nI (min s 3 + 1) ∧ (∀ k, k < min s 3 → P' k = P (k + s / 4) ∧ ∀ a, P' k ≤ a → a < P' k + 23 → M' a = M a) ∧ TR M' (P' (min s 3)) S n m tt)
theorem CA.o {M M' : Mm} {P : Nat → Nat} {s : Nat} {S S' : SS} {n m tt n' m' tt' : Nat} {r : Int32} (h : CA M M' P s S S' n m tt n' m' tt' r) : CAO M M' P s S S' n m tt n' m' tt' r :=
  ⟨h.1, fun a ha => h.2.1 a (by omega), by rw [h.2.1 141 (by omega)], h.2.2.1, h.2.2.2⟩
theorem sp6_play {Post : Mm → Int32 → Prop} {M : Mm} {P : Nat → Nat} {T S : SS} {n m tt s L : Nat} (hp : HP M P) (hs : M 47 0 = nI s) (h4 : s ≤ 4) (hT : TR M 1 S n m tt) (hV : VV S n m tt) (hX : TX M T L) (hL : M 141 0 = nI L)
    (h : ∀ M', CAO M M' P s S (plyF T S n m L).1 n m tt n m tt (plyF T S n m L).2 → Post M' (plyF T S n m L).2) : wX6_play Post M 0 := by
  have hle := hV.1.le
  have hnn := (VV_ply (T := T) (L := L) hV).2
  refine sp4_become (a := 24) (b := 1) hT hle.1.2 hle.2.1 hle.2.2 (by omega) (fun M1 hT1 hf1 => ?_)
  have hO1 := OM_fro hf1
  refine sp3_carryOutAll (OM_X hO1 hX) (by rw [hO1.2]; exact hL) hV hT1 (fun M3 hO3 hn h7 hT3 => ?_) (fun M3 x z hO3 hz h2 h7 z1 z4 h8 h3 => ?_)
  · have hO := OM_tr hO1 hO3
    have eF : plyF T S n m L = ((ro T n m L 60 0 S 0).2.1, (ro T n m L 60 0 S 0).2.2) := by
      unfold plyF
      rw [hn]
    have hno := hnn hn
    rw [eF] at h hno
    refine ⟨fun _ => ?_, fun z => absurd h7 z⟩
    have hT31 := (CQ_om hT hO).1
    have hp3 : HP M3 P := hp.of (hO.1 48 (by omega) (by omega))
    have hs3 : M3 47 0 = nI s := by rw [hO.1 47 (by omega) (by omega)]; exact hs
    refine sp2_record hp3 hs3 h4 hT31 hV.1.1 (fun M6 P' hp6 h47 hlo hhi hk hTs => ?_)
    have hT6 : TR M6 24 (ro T n m L 60 0 S 0).2.1 n m tt := hT3.of (fun j _ _ => by rw [hlo 24 (by omega)]) (fun k _ _ => hlo _ (by omega))
    refine sp4_become (a := 1) (b := 24) hT6 hle.1.2 hle.2.1 hle.2.2 (by omega) (fun M8 hT8 hf8 => ?_)
    have hl : ∀ k, k < 4 → 49 ≤ P' k ∧ P' k ≤ 118 := fun k hk => hp6.lt hk
    refine h M8 ⟨hT8, fun a ha => by rw [hf8 a (by omega), hhi a (by omega), hO.1 a (by omega) (by omega)], by rw [hf8 141 (by omega), hhi 141 (by omega), hO.2], fun y => absurd y hno, fun _ => ⟨P', hp6.of (hf8 48 (by omega)), by rw [hf8 47 (by omega)]; exact h47, fun k hk3 => ⟨(hk k hk3).1, fun a a1 a2 => ?_⟩, ?_⟩⟩
    · have := hl k (by omega)
      rw [hf8 a (by omega), (hk k hk3).2 a a1 a2, hO.1 a (by omega) (by omega)]
    · have := hl (min s 3) (by omega)
      exact hTs.of (fun j _ _ => by rw [hf8 _ (by omega)]) (fun k _ _ => hf8 _ (by omega))
  · have hO := OM_tr hO1 hO3
    have eF : plyF T S n m L = (S, -1000002) := by
      unfold plyF
      rw [hz]
    rw [eF] at h
    have h7' : M3 (0 + 141) 7 = nI z.2.1 := h7
    rw [h7']
    refine ⟨fun e => absurd ((nI_z (by omega)).mp e) (by omega), fun _ => ?_⟩
    refine h M3 ⟨(CQ_om hT hO).1, fun a ha => hO.1 a (by omega) (by omega), hO.2, fun _ => ⟨by rw [hO.1 47 (by omega) (by omega)], hp.of (hO.1 48 (by omega) (by omega)), fun k hk a a1 a2 => ?_⟩, fun y => absurd (show (-1000002 : Int32) ≤ -1000001 by decide) y⟩
    have := hp.lt hk
    exact hO.1 a (by omega) (by omega)
/-! the invariant of the law -/
def row (W : SS) (k : Nat) : SS := fun j => W (168 * k + j)
def INVd (M : Mm) (n m tt s L : Nat) (P : Nat → Nat) : Prop := s ≤ 4 ∧ VV (M 144) n m tt ∧ TR M 1 (M 144) n m tt ∧ HP M P ∧ M 47 0 = nI s ∧ M 143 4 = nI s ∧ M 141 0 = nI L ∧ M 143 6 = nI L ∧ TX M (M 148) L ∧
  ∀ k, k < s → ∃ n' m' t', VV (row (M 145) k) n' m' t' ∧ TR M (P k) (row (M 145) k) n' m' t'
def INV (M : Mm) : Prop := ∃ n m tt s L P, INVd M n m tt s L P
theorem TR_rows {M M' : Mm} {t : Nat} {S : SS} {n m tt : Nat} (h : TR M t S n m tt) (e : ∀ a, t ≤ a → a < t + 23 → M' a = M a) : TR M' t S n m tt :=
  h.of (fun j _ _ => by rw [e t (by omega) (by omega)]) (fun k _ _ => e _ (by omega) (by omega))
theorem hi1_old {W B : SS} {s k : Nat} (h4 : s ≤ 4) (hk : k < min s 3) : ∀ j, j < 168 → row (hi1 W B s) k j = row W (k + s / 4) j := by
  intro j hj
  unfold row hi1
  by_cases e : s = 4
  · subst e
    rw [if_pos rfl]
    unfold cpW shW
    rw [if_neg (by omega), if_pos (by omega), show 168 * k + j + 168 = 168 * (k + 4 / 4) + j by omega]
  · rw [if_neg e]
    unfold cpW
    rw [if_neg (by omega), show k + s / 4 = k by omega]
theorem hi1_new {W B : SS} {s : Nat} (h4 : s ≤ 4) : ∀ j, j < 168 → row (hi1 W B s) (min s 3) j = B j := by
  intro j hj
  unfold row hi1
  by_cases e : s = 4
  · subst e
    rw [if_pos rfl]
    unfold cpW
    rw [if_pos (by omega), show 168 * min 4 3 + j - 504 = j by omega]
  · rw [if_neg e]
    unfold cpW
    rw [if_pos (by omega), show 168 * min s 3 + j - 168 * s = j by omega]
theorem inv_act {M M1 M2 : Mm} {n m tt s L : Nat} {P : Nat → Nat} {S' : SS} {n' m' tt' : Nat} {r : Int32} (h : INVd M n m tt s L P) (hc : CAO M M1 P s (M 144) S' n m tt n' m' tt' r) (ha : ActO M1 M2 s S' r) (hv : VV S' n' m' tt') : INV M2 := by
  obtain ⟨h4, hV, hT, hp, h47, h43, h41, h46, hX, hh⟩ := h
  obtain ⟨c1, c2, c3, c4, c5⟩ := hc
  obtain ⟨a1, a2, a3, a4, a5⟩ := ha
  have lo : ∀ a, a < 143 → M2 a = M1 a := fun a h => a1 a (by omega) (by omega) (by omega) (by omega) (by omega) (by omega)
  have hX2 : TX M2 (M2 148) L := ⟨hX.1, fun i hi => by rw [lo 142 (by omega), a1 148 (by omega) (by omega) (by omega) (by omega) (by omega) (by omega), c2 142 (by omega), c2 148 (by omega)]; exact hX.2 i hi⟩
  have hT2 : TR M2 1 (M2 144) n' m' tt' := by rw [a2]; exact TR_rows c1 (fun a _ _ => lo a (by omega))
  by_cases hr : r ≤ -1000001
  · obtain ⟨b1, b2, b3⟩ := c4 hr
    obtain ⟨d1, d2⟩ := a4 hr
    refine ⟨n', m', tt', s, L, P, h4, by rw [a2]; exact hv, hT2, b2.of (lo 48 (by omega)), by rw [lo 47 (by omega), b1]; exact h47, by rw [d1, c2 143 (by omega)]; exact h43, by rw [lo 141 (by omega), c3]; exact h41, by rw [a3, c2 143 (by omega)]; exact h46, hX2, fun k hk => ?_⟩
    obtain ⟨nk, mk, tk, e1, e2⟩ := hh k hk
    have hl := hp.lt (i := k) (by omega)
    have er : M2 145 = M 145 := by rw [d2, c2 145 (by omega)]
    rw [er]
    exact ⟨nk, mk, tk, e1, TR_rows e2 (fun a x1 x2 => by rw [lo a (by omega), b3 k (by omega) a x1 x2])⟩
  · obtain ⟨P', b1, b2, b3, b4⟩ := c5 hr
    obtain ⟨d1, B, d2, d3⟩ := a5 hr
    refine ⟨n', m', tt', min s 3 + 1, L, P', by omega, by rw [a2]; exact hv, hT2, b1.of (lo 48 (by omega)), by rw [lo 47 (by omega), b2], d1, by rw [lo 141 (by omega), c3]; exact h41, by rw [a3, c2 143 (by omega)]; exact h46, hX2, fun k hk => ?_⟩
    have hl := b1.lt (i := k) (by omega)
    have er : M2 145 = hi1 (M 145) B s := by rw [d3, c2 145 (by omega)]
    rw [er]
    by_cases e : k = min s 3
    · subst e
      have hB : ∀ j, j < 168 → row (hi1 (M 145) B s) (min s 3) j = M 144 j := fun j hj => by rw [hi1_new h4 j hj, d2 j hj, c2 144 (by omega)]
      have hle := hV.1.le
      exact ⟨n, m, tt, VV_eq hV hB, TR_eq (TR_rows b4 (fun a x1 x2 => lo a (by omega))) hle.1.2 hle.2.1 hle.2.2 hB⟩
    · have hk3 : k < min s 3 := by omega
      obtain ⟨nk, mk, tk, e1, e2⟩ := hh (k + s / 4) (by omega)
      obtain ⟨f1, f2⟩ := b3 k hk3
      have hB := hi1_old (W := M 145) (B := B) h4 hk3
      have hle := e1.1.le
      rw [← f1] at e2
      exact ⟨nk, mk, tk, VV_eq e1 hB, TR_eq (TR_rows e2 (fun a x1 x2 => by rw [lo a (by omega), f2 a x1 x2])) hle.1.2 hle.2.1 hle.2.2 hB⟩
def RQ (M M' : Mm) : Prop := (∀ a, a ≠ 143 → a ≠ 147 → a ≠ 149 → M' a = M a) ∧ M' 143 4 = M 143 4 ∧ M' 143 6 = M 143 6
theorem RQ_self {M : Mm} : RQ M M := ⟨fun _ _ _ _ => rfl, rfl, rfl⟩
theorem RQ_147 {M M' : Mm} (h : ∀ a, a ≠ 147 → M' a = M a) : RQ M M' := ⟨fun a _ b _ => h a b, by rw [h 143 (by omega)], by rw [h 143 (by omega)]⟩
theorem inv_ask {M M1 M2 : Mm} {n m tt s L : Nat} {P : Nat → Nat} (h : INVd M n m tt s L P) (hc : CQ M M1 (M 144) n m tt) (ha : RQ M1 M2) : INV M2 := by
  obtain ⟨h4, hV, hT, hp, h47, h43, h41, h46, hX, hh⟩ := h
  obtain ⟨c1, c2, c3⟩ := hc
  obtain ⟨a1, a2, a3⟩ := ha
  have lo : ∀ a, a < 143 → M2 a = M1 a := fun a h => a1 a (by omega) (by omega) (by omega)
  have e144 : M2 144 = M 144 := by rw [a1 144 (by omega) (by omega) (by omega), c2 144 (by omega) (by omega)]
  have e145 : M2 145 = M 145 := by rw [a1 145 (by omega) (by omega) (by omega), c2 145 (by omega) (by omega)]
  have e148 : M2 148 = M 148 := by rw [a1 148 (by omega) (by omega) (by omega), c2 148 (by omega) (by omega)]
  refine ⟨n, m, tt, s, L, P, h4, by rw [e144]; exact hV, by rw [e144]; exact TR_rows c1 (fun a _ _ => lo a (by omega)), hp.of (by rw [lo 48 (by omega), c2 48 (by omega) (by omega)]), by rw [lo 47 (by omega), c2 47 (by omega) (by omega)]; exact h47, by rw [a2, c2 143 (by omega) (by omega)]; exact h43, by rw [lo 141 (by omega), c3]; exact h41, by rw [a3, c2 143 (by omega) (by omega)]; exact h46, ⟨hX.1, fun i hi => by rw [e148, lo 142 (by omega), c2 142 (by omega) (by omega)]; exact hX.2 i hi⟩, fun k hk => ?_⟩
  obtain ⟨nk, mk, tk, e1, e2⟩ := hh k hk
  have hl := hp.lt (i := k) (by omega)
  rw [e145]
  exact ⟨nk, mk, tk, e1, TR_rows e2 (fun a x1 x2 => by rw [lo a (by omega), c2 a (by omega) (by omega)])⟩
