/-! the law: each call keeps the invariant and answers alike -/
theorem sp6_tend' {Post : Mm → Int32 → Prop} {M : Mm} {P : Nat → Nat} {S : SS} {n m tt s : Nat} {x y : Int32} (hp : HP M P) (hs : M 47 0 = nI s) (h4 : s ≤ 4) (hT : TR M 1 S n m tt) (hV : VV S n m tt)
    (h : ∀ M', CA M M' P s S (tndF S n x y).1 n m tt n m tt (tndF S n x y).2 → Post M' (tndF S n x y).2) : wX6_tend Post M 0 x y := by
  by_cases g : inr 0 3 x = true
  · refine sp6_tend hp hs h4 hT hV.1.1 hV.2.1.1 ?_ h
    obtain ⟨k, -, k3, ek⟩ := inr_of g
    rw [ek]
    exact hV.2.1.2 k k3
  · have e : tndF S n x y = (S, -1000001) := by unfold tndF; rw [if_neg (fun z => g z.1)]
    rw [e] at h
    exact sp6_isOutside (a := 0) (b := 3) (by decide) (by decide) ⟨fun _ => h M (CA_none hT hp (show (-1000001 : Int32) ≤ -1000001 by decide)), fun d => absurd (b_sw.mp d) g⟩
theorem law_undo {Post : Mm → Int32 → Int32 → Prop} {M : Mm} {n m tt s L : Nat} {P : Nat → Nat} (hI : INVd M n m tt s L P) (h : ∀ M' r, INV M' → Post M' r r) : wX6_undo (fun M1 r1 => wX7_undo (fun M2 r2 => Post M2 r1 r2) M1 143) M 0 := by
  have hI0 := hI
  obtain ⟨h4, hV, hT, hp, h47, h43, h41, h46, hX, hh⟩ := hI
  refine sp6_undo hp h47 h4 (fun k hk => ?_) (fun h0 => ?_) (fun k M1 hk hT1 h47' hr => ?_)
  · obtain ⟨n', m', t', e1, e2⟩ := hh k (by omega)
    have hle := e1.1.le
    exact ⟨_, n', m', t', e2, hle.1.2, hle.2.1, hle.2.2⟩
  · exact sp7_undo h43 h4 (fun _ => h M _ ⟨n, m, tt, s, L, P, hI0⟩) (fun k hk => by omega)
  · have e43 : M1 143 = M 143 := hr 143 (by omega) (by omega)
    refine sp7_undo (s := s) (by rw [e43]; exact h43) h4 (fun z => by omega) (fun k' hk' => ?_)
    have ek : k' = k := by omega
    subst ek
    refine h _ _ ?_
    obtain ⟨n', m', t', e1, e2⟩ := hh k' (by omega)
    have hle := e1.1.le
    have r144 : st (sr M1 143 (upd (M1 143) 4 (nI k'))) (unS (M1 144) (M1 145) k' 168) 144 = unS (M1 144) (M1 145) k' 168 := st_s
    have ro : ∀ a, a ≠ 143 → a ≠ 144 → st (sr M1 143 (upd (M1 143) 4 (nI k'))) (unS (M1 144) (M1 145) k' 168) a = M1 a := fun a a1 a2 => by rw [st_o a2, sr_o a1]
    have r143 : st (sr M1 143 (upd (M1 143) 4 (nI k'))) (unS (M1 144) (M1 145) k' 168) 143 = upd (M1 143) 4 (nI k') := by rw [st_o (by omega), sr_s]
    have hj : ∀ j, j < 168 → unS (M1 144) (M1 145) k' 168 j = row (M 145) k' j := by
      intro j hj
      unfold unS row
      rw [if_pos hj, hr 145 (by omega) (by omega)]
    generalize st (sr M1 143 (upd (M1 143) 4 (nI k'))) (unS (M1 144) (M1 145) k' 168) = M2 at r144 ro r143
    have lo : ∀ a, 24 ≤ a → a ≠ 47 → a ≠ 143 → a ≠ 144 → M2 a = M a := fun a b1 b2 b3 b4 => by rw [ro a b3 b4, hr a b1 b2]
    refine ⟨n', m', t', k', L, P, by omega, by rw [r144]; exact VV_eq e1 hj, ?_, hp.of (lo 48 (by omega) (by omega) (by omega) (by omega)), by rw [ro 47 (by omega) (by omega)]; exact h47', by rw [r143]; exact upd_s, by rw [lo 141 (by omega) (by omega) (by omega) (by omega)]; exact h41, by rw [r143, upd_o (by omega), e43]; exact h46, ⟨hX.1, fun i hi => by rw [lo 142 (by omega) (by omega) (by omega) (by omega), lo 148 (by omega) (by omega) (by omega) (by omega)]; exact hX.2 i hi⟩, fun q hq => ?_⟩
    · rw [r144]
      have t1 := hT1 _ n' m' t' e2 hle.1.2 hle.2.1 hle.2.2
      exact TR_eq (TR_rows t1 (fun a x1 x2 => ro a (by omega) (by omega))) hle.1.2 hle.2.1 hle.2.2 hj
    · obtain ⟨nq, mq, tq, f1, f2⟩ := hh q (by omega)
      have hl := hp.lt (i := q) (by omega)
      rw [lo 145 (by omega) (by omega) (by omega) (by omega)]
      exact ⟨nq, mq, tq, f1, TR_rows f2 (fun a x1 x2 => lo a (by omega) (by omega) (by omega) (by omega))⟩
/-- the text is changed alone -/
theorem inv_text {M M2 : Mm} {n m tt s L L' : Nat} {P : Nat → Nat} (hI : INVd M n m tt s L P) (lo : ∀ a, a ≠ 141 → a ≠ 142 → a ≠ 143 → a ≠ 148 → M2 a = M a) (e41 : M2 141 0 = nI L') (e43 : M2 143 4 = M 143 4) (e46 : M2 143 6 = nI L') (hX' : TX M2 (M2 148) L') : INV M2 := by
  obtain ⟨h4, hV, hT, hp, h47, h43, h41, h46, hX, hh⟩ := hI
  have e144 : M2 144 = M 144 := lo 144 (by omega) (by omega) (by omega) (by omega)
  have e145 : M2 145 = M 145 := lo 145 (by omega) (by omega) (by omega) (by omega)
  refine ⟨n, m, tt, s, L', P, h4, by rw [e144]; exact hV, by rw [e144]; exact TR_rows hT (fun a _ _ => lo a (by omega) (by omega) (by omega) (by omega)), hp.of (lo 48 (by omega) (by omega) (by omega) (by omega)), by rw [lo 47 (by omega) (by omega) (by omega) (by omega)]; exact h47, by rw [e43]; exact h43, e41, e46, hX', fun q hq => ?_⟩
  obtain ⟨nq, mq, tq, f1, f2⟩ := hh q hq
  have hl := hp.lt (i := q) (by omega)
  rw [e145]
  exact ⟨nq, mq, tq, f1, TR_rows f2 (fun a x1 x2 => lo a (by omega) (by omega) (by omega) (by omega))⟩
theorem law_type {Post : Mm → Int32 → Int32 → Prop} {V : Prop} {M : Mm} {n m tt s L : Nat} {P : Nat → Nat} {x : Int32} (hv : V) (hI : INVd M n m tt s L P) (h : ∀ M' r, INV M' → Post M' r r) : wX6_type (fun M1 r1 => V ∧ wX7_type (fun M2 r2 => Post M2 r1 r2) M1 143 x) M 0 x := by
  have hI0 := hI
  obtain ⟨h4, hV, hT, hp, h47, h43, h41, h46, hX, hh⟩ := hI
  have same : INV M := ⟨n, m, tt, s, L, P, hI0⟩
  refine sp6_type h41 hX.1 (fun g => ?_) (fun g e => ?_) (fun g e => ?_)
  · exact ⟨hv, sp7_type h46 hX.1 (fun _ => h M _ same) (fun g' => by rw [g] at g'; cases g') (fun g' => by rw [g] at g'; cases g')⟩
  · exact ⟨hv, sp7_type h46 hX.1 (fun g' => by rw [g] at g'; cases g') (fun _ _ => h M _ same) (fun _ z => by omega)⟩
  · have r : ∀ a, a ≠ 141 → a ≠ 142 → sr (sr M 142 (upd (M 142) L x)) 141 (upd (M 141) 0 (nI (L + 1))) a = M a := fun a a1 a2 => by rw [sr_o a1, sr_o a2]
    have r142 : sr (sr M 142 (upd (M 142) L x)) 141 (upd (M 141) 0 (nI (L + 1))) 142 = upd (M 142) L x := by rw [sr_o (by omega), sr_s]
    have r141 : sr (sr M 142 (upd (M 142) L x)) 141 (upd (M 141) 0 (nI (L + 1))) 141 = upd (M 141) 0 (nI (L + 1)) := sr_s
    generalize sr (sr M 142 (upd (M 142) L x)) 141 (upd (M 141) 0 (nI (L + 1))) = M1 at r r142 r141
    refine ⟨hv, sp7_type (L := L) (by rw [r 143 (by omega) (by omega)]; exact h46) hX.1 (fun g' => by rw [g] at g'; cases g') (fun _ z => by omega) (fun _ _ => h _ _ ?_)⟩
    have q143 : sr (sr M1 148 (upd (M1 148) L x)) 143 (upd (M1 143) 6 (nI (L + 1))) 143 = upd (M1 143) 6 (nI (L + 1)) := sr_s
    have q148 : sr (sr M1 148 (upd (M1 148) L x)) 143 (upd (M1 143) 6 (nI (L + 1))) 148 = upd (M1 148) L x := by rw [sr_o (by omega), sr_s]
    have q : ∀ a, a ≠ 143 → a ≠ 148 → sr (sr M1 148 (upd (M1 148) L x)) 143 (upd (M1 143) 6 (nI (L + 1))) a = M1 a := fun a a1 a2 => by rw [sr_o a1, sr_o a2]
    generalize sr (sr M1 148 (upd (M1 148) L x)) 143 (upd (M1 143) 6 (nI (L + 1))) = M2 at q q143 q148
    refine inv_text (L' := L + 1) hI0 (fun a a1 a2 a3 a4 => by rw [q a a3 a4, r a a1 a2]) ?_ ?_ ?_ ⟨by omega, fun i hi => ?_⟩
    · rw [q 141 (by omega) (by omega), r141, upd_s]
    · rw [q143, upd_o (by omega), r 143 (by omega) (by omega)]
    · rw [q143, upd_s]
    · rw [q 142 (by omega) (by omega), r142, q148]
      by_cases ei : i = L
      · subst ei; rw [upd_s, upd_s]
      · rw [upd_o ei, upd_o ei, r 148 (by omega) (by omega)]
        exact hX.2 i (by omega)
theorem law_clear {Post : Mm → Int32 → Int32 → Prop} {M : Mm} {n m tt s L : Nat} {P : Nat → Nat} (hI : INVd M n m tt s L P) (h : ∀ M' r, INV M' → Post M' r r) : wX6_clearText (fun M1 r1 => wX7_clearText (fun M2 r2 => Post M2 r1 r2) M1 143) M 0 := by
  have hI0 := hI
  obtain ⟨h4, hV, hT, hp, h47, h43, h41, h46, hX, hh⟩ := hI
  refine sp6_clearText h41 ?_
  have r : ∀ a, a ≠ 141 → sr M 141 (upd (M 141) 0 0) a = M a := fun a a1 => sr_o a1
  have r141 : sr M 141 (upd (M 141) 0 0) 141 = upd (M 141) 0 0 := sr_s
  generalize sr M 141 (upd (M 141) 0 0) = M1 at r r141
  refine sp7_clearText (L := L) (by rw [r 143 (by omega)]; exact h46) (h _ _ ?_)
  have q143 : sr M1 143 (upd (M1 143) 6 0) 143 = upd (M1 143) 6 0 := sr_s
  have q : ∀ a, a ≠ 143 → sr M1 143 (upd (M1 143) 6 0) a = M1 a := fun a a1 => sr_o a1
  generalize sr M1 143 (upd (M1 143) 6 0) = M2 at q q143
  refine inv_text (L' := 0) hI0 (fun a a1 a2 a3 a4 => by rw [q a a3, r a a1]) ?_ ?_ ?_ ⟨by omega, fun i hi => by omega⟩
  · rw [q 141 (by omega), r141, upd_s]; rfl
  · rw [q143, upd_o (by omega), r 143 (by omega)]
  · rw [q143, upd_s]; rfl
