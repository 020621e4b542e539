/-! the class: a text's orders -/
theorem frm_rng {T : SS} {L p : Nat} : (∃ k : Nat, k ≤ 999 ∧ (frm T L p).2.2.1 = nI k) ∧ (∃ k : Nat, k ≤ 999 ∧ (frm T L p).2.2.2 = nI k) := by
  obtain ⟨w, hw, ew⟩ := rdN_nn (T := T) (L := L) (p := p + 1)
  obtain ⟨u, hu, eu⟩ := rdN_nn (T := T) (L := L) (p := (rdN T L 3 (p + 1) 0).1 + 1)
  have z : ∃ k : Nat, k ≤ 999 ∧ (0 : Int32) = nI k := ⟨0, by omega, rfl⟩
  have a : ∃ k : Nat, k ≤ 999 ∧ (rdN T L 3 (p + 1) 0).2 = nI k := ⟨w, hw, ew⟩
  have b : ∃ k : Nat, k ≤ 999 ∧ (rdN T L 3 ((rdN T L 3 (p + 1) 0).1 + 1) 0).2 = nI k := ⟨u, hu, eu⟩
  unfold frm
  split
  · unfold frA
    split
    · exact ⟨a, z⟩
    · split
      · unfold frB
        split
        · split
          · exact ⟨a, b⟩
          · split
            · exact ⟨a, b⟩
            · exact ⟨a, b⟩
        · exact ⟨a, z⟩
      · split
        · exact ⟨a, z⟩
        · exact ⟨a, z⟩
  · exact ⟨z, z⟩
theorem frm_ltr {T : SS} {L p : Nat} (h : (frm T L p).1 = true) : ltr (sgn T L p) := by
  by_cases q : ltr (sgn T L p)
  · exact q
  · unfold frm at h
    rw [if_neg q] at h
    cases h
theorem sp3_reason {Post : Mm → Int32 → Prop} {M : Mm} {T H S : SS} {n m tt L p : Nat} (hX : TX M T L) (hT : TR M 24 S n m tt) (hV : VV S n m tt) (h0 : H 0 = nI L) (h2 : H 2 = nI p) (h3 : H 3 = nI p) (hp : p ≤ L)
    (h : ∀ H', H' 0 = nI L → H' 2 = nI p → H' 3 = nI (frm T L p).2.1 → ((dnF T S n m L p).1 = 1 ∨ (dnF T S n m L p).1 = 2 → H' 8 = (dnF T S n m L p).2.1) →
      ((dnF T S n m L p).1 = 0 → H' 4 = sgn T L p ∧ H' 5 = (frm T L p).2.2.1 ∧ (sgn T L p = 114 → H' 6 = (frm T L p).2.2.2)) → Post (sr M 141 H') (nI (dnF T S n m L p).1)) : wX3_reasonAgainst Post (sr M 141 H) 141 24 := by
  have hle := hV.1.le
  refine sp3_readOrder hX h0 h3 hp (fun H1 a3 ao aok => ?_)
  have b0 : H1 0 = nI L := by rw [ao 0 (by omega)]; exact h0
  have b2 : H1 2 = nI p := by rw [ao 2 (by omega)]; exact h2
  have hfl := (frm_le (T := T) hp).2.1
  unfold dnF at h
  refine ⟨fun d => ?_, fun d M11 e11 => ?_⟩
  · have hf : (frm T L p).1 = true := b2i_1.mp ((b2i_01 _).resolve_left d)
    have hl := frm_ltr hf
    obtain ⟨k4, k5, k6⟩ := aok hf
    obtain ⟨hv, hw⟩ := frm_rng (T := T) (L := L) (p := p)
    rw [if_pos hf] at h
    refine sp3_isInRange hT hle.1.2 hle.2.1 k4 k5 ⟨fun e => ?_, fun e M10 e10 => ?_⟩
    · have hr := b2i_1.mp ((b2i_01 _).resolve_left e)
      rw [if_pos hr] at h
      refine sp3_isPossible (w := (frm T L p).2.2.2) hT hV k4 k5 hl hr hv hw ?_
      by_cases q : (doF S n m (sgn T L p) (frm T L p).2.2.1 (frm T L p).2.2.2).2 ≤ -1000001
      · rw [if_pos q] at h ⊢
        exact ⟨fun _ => h H1 b0 b2 a3 (fun z => by rcases z with z | z <;> cases z) (fun z => by cases z), fun y => absurd rfl y⟩
      · rw [if_neg q] at h ⊢
        exact ⟨fun y => absurd y (by decide), fun _ => h H1 b0 b2 a3 (fun z => by rcases z with z | z <;> cases z) (fun _ => ⟨k4, k5, k6⟩)⟩
    · have hr : ¬ rngF n m (sgn T L p) (frm T L p).2.2.1 = true := by rw [b2i_0.mp e]; decide
      rw [if_neg hr] at h
      rw [sr_mu] at e10
      rw [e10]
      exact h (upd H1 8 0) (by rw [upd_o (by omega)]; exact b0) (by rw [upd_o (by omega)]; exact b2) (by rw [upd_o (by omega)]; exact a3) (fun _ => upd_s) (fun z => by cases z)
  · have hf : ¬ (frm T L p).1 = true := by rw [b2i_0.mp d]; decide
    rw [if_neg hf] at h
    have r3 : sr M 141 H1 141 3 = nI (frm T L p).2.1 := by rw [sr_s]; exact a3
    have r2 : sr M 141 H1 141 2 = nI p := by rw [sr_s]; exact b2
    rw [r3, r2, ofN_sub hfl, sr_mu] at e11
    rw [e11]
    exact h (upd H1 8 (nI ((frm T L p).2.1 - p))) (by rw [upd_o (by omega)]; exact b0) (by rw [upd_o (by omega)]; exact b2) (by rw [upd_o (by omega)]; exact a3) (fun _ => upd_s) (fun z => by cases z)
/-- what orders leave of the class but the trial -/
def OM (M M' : Mm) : Prop := (∀ a, (a < 24 ∨ 47 ≤ a) → a ≠ 141 → M' a = M a) ∧ M' 141 0 = M 141 0
theorem OM_tr {M M' M'' : Mm} (h : OM M M') (h' : OM M' M'') : OM M M'' := ⟨fun a a1 a2 => by rw [h'.1 a a1 a2, h.1 a a1 a2], by rw [h'.2, h.2]⟩
theorem OM_fro {M M' : Mm} (h : Fro M M' 24) : OM M M' := ⟨fun a a1 _ => h a (by omega), by rw [h 141 (by omega)]⟩
theorem OM_sr {M : Mm} {H : SS} (h : H 0 = M 141 0) : OM M (sr M 141 H) := ⟨fun a _ a2 => sr_o a2, by rw [sr_s]; exact h⟩
theorem OM_X {M M' : Mm} {T : SS} {L : Nat} (h : OM M M') (hX : TX M T L) : TX M' T L := ⟨hX.1, fun i hi => by rw [h.1 142 (by omega) (by omega)]; exact hX.2 i hi⟩
theorem sr_self' {M : Mm} {a : Nat} : M = sr M a (M a) := sr_self.symm
theorem nI_z {r : Nat} (h : r < 1000) : nI r = 0 ↔ r = 0 := ⟨fun z => nI_inj (b := 0) (by omega) (by omega) z, fun z => by rw [z]; rfl⟩
theorem dn_4 {T S : SS} {n m L p : Nat} : (dnF T S n m L p).1 < 4 := by
  unfold dnF
  split
  · split
    · split
      · show 3 < 4; omega
      · show 0 < 4; omega
    · show 2 < 4; omega
  · show 1 < 4; omega
theorem dn_ok {T S : SS} {n m L p : Nat} (h : (dnF T S n m L p).1 = 0) : (frm T L p).1 = true ∧ rngF n m (sgn T L p) (frm T L p).2.2.1 = true ∧ ¬ (doF S n m (sgn T L p) (frm T L p).2.2.1 (frm T L p).2.2.2).2 ≤ -1000001 ∧
    (dnF T S n m L p).2.2.1 = (if sgn T L p = 104 ∨ sgn T L p = 114 then (doF S n m (sgn T L p) (frm T L p).2.2.1 (frm T L p).2.2.2).2 else 0) ∧ (dnF T S n m L p).2.2.2 = (doF S n m (sgn T L p) (frm T L p).2.2.1 (frm T L p).2.2.2).1 := by
  unfold dnF at h ⊢
  by_cases a : (frm T L p).1 = true
  · rw [if_pos a] at h ⊢
    by_cases b : rngF n m (sgn T L p) (frm T L p).2.2.1 = true
    · rw [if_pos b] at h ⊢
      by_cases c : (doF S n m (sgn T L p) (frm T L p).2.2.1 (frm T L p).2.2.2).2 ≤ -1000001
      · rw [if_pos c] at h; cases h
      · rw [if_neg c]
        exact ⟨a, b, c, rfl, rfl⟩
    · rw [if_neg b] at h; cases h
  · rw [if_neg a] at h; cases h
theorem co_loop {Post : Mm → Int32 → Prop} {M0 : Mm} {T : SS} {n m tt L : Nat} (hX : TX M0 T L) (hL : M0 141 0 = nI L) : ∀ (f p i : Nat) (S : SS) (a : Int32) (M : Mm), f + i = 60 → p ≤ L → VV S n m tt → TR M 24 S n m tt → OM M0 M → M 141 3 = nI p → M 141 7 = 0 →
    (∀ M', OM M0 M' → (ro T n m L f p S a).1 = none → M' 141 7 = 0 → TR M' 24 (ro T n m L f p S a).2.1 n m tt → Post M' (ro T n m L f p S a).2.2) →
    (∀ M' x z, OM M0 M' → (ro T n m L f p S a).1 = some z → M' 141 2 = nI z.1 → M' 141 7 = nI z.2.1 → 1 ≤ z.2.1 → z.2.1 < 4 → (z.2.1 = 1 ∨ z.2.1 = 2 → M' 141 8 = z.2.2) → (z.2.1 = 3 → z.2.2 = -1000004) → Post M' x) →
    lX3_carryOutAll_14 Post (f + 1) M 141 24 a (nI i) := by
  intro f
  induction f with
  | zero =>
    intro p i S a M hf hp hV hT hO h3 h7 hn hs
    refine ⟨fun _ => hn M hO rfl h7 hT, fun z => absurd (show (60 : Int32) ≤ nI i by rw [show i = 60 by omega]; decide) z⟩
  | succ f ih =>
    intro p i S a M hf hp hV hT hO h3 h7 hn hs
    have h60 := hX.1
    have hL' : M 141 0 = nI L := by rw [hO.2]; exact hL
    have hX' := OM_X hO hX
    refine ⟨fun z => absurd ((nI_leI (a := 60) (by omega) (by omega)).mp z) (by omega), fun _ => ⟨fun z => ?_, fun z M6 e6 => ?_⟩⟩
    · rw [hL', h3] at z
      have hle := (nI_leI (by omega) (by omega)).mp z
      have er : ro T n m L (f + 1) p S a = (none, S, a) := if_neg (by omega)
      rw [er] at hn
      exact hn M hO rfl h7 hT
    · have hlt : p < L := by
        rcases Nat.lt_or_ge p L with q | q
        · exact q
        · exact absurd (by rw [hL', h3]; exact nI_le q (by omega)) z
      have er : ro T n m L (f + 1) p S a = (if (dnF T S n m L p).1 = 0 then ro T n m L f (frm T L p).2.1 (dnF T S n m L p).2.2.2 (a + (dnF T S n m L p).2.2.1)
       else (some (p, (dnF T S n m L p).1, (dnF T S n m L p).2.1), (dnF T S n m L p).2.2.2, a + (dnF T S n m L p).2.2.1)) := if_pos hlt
      have e6' : M6 = sr M 141 (upd (M 141) 2 (nI p)) := by rw [e6, h3, mu_sr]
      subst e6'
      clear e6
      refine sp3_reason (T := T) (S := S) (p := p) hX' hT hV (by rw [upd_o (by omega)]; exact hL') upd_s (by rw [upd_o (by omega)]; exact h3) hp (fun H b0 b2 b3 b8 bok M9 e9 => ?_)
      rw [sr_mu] at e9
      subst e9
      have hO9 : OM M0 (sr M 141 (upd H 7 (nI (dnF T S n m L p).1))) := OM_tr hO (OM_sr (by rw [upd_o (by omega), b0, hL']))
      have r7 : sr M 141 (upd H 7 (nI (dnF T S n m L p).1)) 141 7 = nI (dnF T S n m L p).1 := by rw [sr_s]; exact upd_s
      have h4 := dn_4 (T := T) (S := S) (n := n) (m := m) (L := L) (p := p)
      rw [r7]
      refine ⟨fun e => ?_, fun e => ?_⟩
      · have e0 := (nI_z (by omega)).mp e
        rw [if_pos e0] at er
        rw [er] at hn hs
        obtain ⟨k4, k5, k6⟩ := bok e0
        obtain ⟨o1, o2, o3, o4, o5⟩ := dn_ok e0
        obtain ⟨hv, hw⟩ := frm_rng (T := T) (L := L) (p := p)
        refine sp3_carryOut (w := (frm T L p).2.2.2) hT hV (by rw [upd_o (by omega)]; exact k4) (by rw [upd_o (by omega)]; exact k5) (fun y => by rw [upd_o (by omega)]; exact k6 y) (frm_ltr o1) o2 hv hw o3 (fun M11 hT11 hf11 x2 e2 x3 e3 => ?_)
        rw [← o4] at e2
        rw [← o5] at hT11
        rw [e3, nI_1, e2]
        have r141 : M11 141 = upd H 7 (nI (dnF T S n m L p).1) := by rw [hf11 141 (by omega), sr_s]
        refine ih (frm T L p).2.1 (i + 1) _ _ M11 (by omega) (frm_le hp).1 (VV_dn hV).1 hT11 (OM_tr hO9 (OM_fro hf11)) ?_ ?_ hn hs
        · rw [r141, upd_o (by omega)]; exact b3
        · rw [r141, upd_s, e0]; rfl
      · have e0 : ¬ (dnF T S n m L p).1 = 0 := fun y => e ((nI_z (by omega)).mpr y)
        rw [if_neg e0] at er
        rw [er] at hs
        refine hs _ _ _ hO9 rfl ?_ r7 ?_ h4 (fun y => ?_) (fun y => ?_)
        · rw [sr_s, upd_o (by omega)]; exact b2
        · show 1 ≤ (dnF T S n m L p).1
          omega
        · rw [sr_s, upd_o (by omega)]; exact b8 y
        · have y' : (dnF T S n m L p).1 = 3 := y
          show (dnF T S n m L p).2.1 = -1000004
          unfold dnF at y' ⊢
          split
          · next a1 =>
            rw [if_pos a1] at y'
            split
            · next a2 =>
              rw [if_pos a2] at y'
              split
              · rfl
              · rfl
            · next a2 =>
              rw [if_neg a2] at y'
              cases y'
          · next a1 =>
            rw [if_neg a1] at y'
            cases y'
theorem sp3_carryOutAll {Post : Mm → Int32 → Prop} {M : Mm} {T S : SS} {n m tt L : Nat} (hX : TX M T L) (hL : M 141 0 = nI L) (hV : VV S n m tt) (hT : TR M 24 S n m tt)
    (hn : ∀ M', OM M M' → (ro T n m L 60 0 S 0).1 = none → M' 141 7 = 0 → TR M' 24 (ro T n m L 60 0 S 0).2.1 n m tt → Post M' (ro T n m L 60 0 S 0).2.2)
    (hs : ∀ M' x z, OM M M' → (ro T n m L 60 0 S 0).1 = some z → M' 141 2 = nI z.1 → M' 141 7 = nI z.2.1 → 1 ≤ z.2.1 → z.2.1 < 4 → (z.2.1 = 1 ∨ z.2.1 = 2 → M' 141 8 = z.2.2) → (z.2.1 = 3 → z.2.2 = -1000004) → Post M' x) : wX3_carryOutAll Post M 141 24 := by
  intro M1 e1 M2 e2
  have e2' : M2 = sr M 141 (upd (upd (M 141) 3 0) 7 0) := by rw [e2, e1, mu_sr, mu_sr, sr_s, sr_sr]
  have hO : OM M M2 := by rw [e2']; exact OM_sr (by rw [upd_o (by omega), upd_o (by omega)])
  refine ⟨61, co_loop hX hL 60 0 0 S 0 M2 rfl (Nat.zero_le _) hV ?_ hO ?_ ?_ hn hs⟩
  · rw [e2']; exact TR_sr hT
  · rw [e2', sr_s, upd_o (by omega), upd_s]; rfl
  · rw [e2', sr_s, upd_s]
theorem CQ_om {M M' : Mm} {S : SS} {n m tt : Nat} (h : TR M 1 S n m tt) (hf : OM M M') : CQ M M' S n m tt :=
  ⟨h.of (fun j _ _ => by rw [hf.1 1 (by omega) (by omega)]) (fun k _ _ => hf.1 _ (by omega) (by omega)), fun a h1 h2 => hf.1 a (by omega) h2, hf.2⟩
theorem sp6_fault {Post : Mm → Int32 → Prop} {M : Mm} {T S : SS} {n m tt L : Nat} {y : Int32} (hT : TR M 1 S n m tt) (hV : VV S n m tt) (hX : TX M T L) (hL : M 141 0 = nI L)
    (h : ∀ M', CQ M M' S n m tt → Post M' (fltF T S n m L y)) : wX6_fault Post M 0 y := by
  have hle := hV.1.le
  unfold fltF at h
  refine sp6_isOutside (a := 0) (b := 3) (by decide) (by decide) ⟨fun d => ?_, fun d => ?_⟩
  rotate_left
  · have q := h M (CQ_self hT)
    rw [if_neg (b_sw'.mp d)] at q
    exact q
  have g := b_sw.mp d
  rw [if_pos g] at h
  refine sp4_become (a := 24) (b := 1) hT hle.1.2 hle.2.1 hle.2.2 (by omega) (fun M1 hT1 hf1 => ?_)
  have hO1 := OM_fro hf1
  refine sp3_carryOutAll (OM_X hO1 hX) (by rw [hO1.2]; exact hL) hV hT1 (fun M2 hO2 hn h7 _ => ?_) (fun M2 x z hO2 hz h2 h7 z1 z4 h8 h3 => ?_)
  · have q := h M2 (CQ_om hT (OM_tr hO1 hO2))
    rw [hn] at q
    refine ⟨fun z => absurd h7 z, fun _ => q⟩
  · have q := h M2 (CQ_om hT (OM_tr hO1 hO2))
    rw [hz] at q
    have h7' : M2 (0 + 141) 7 = nI z.2.1 := h7
    have h2' : M2 (0 + 141) 2 = nI z.1 := h2
    rw [h7', h2']
    refine ⟨fun _ => ⟨fun e => ?_, fun e0 => ⟨fun e => ?_, fun e1 => ⟨fun e => ?_, fun e => ?_⟩⟩⟩, fun e => absurd ((nI_z (by omega)).mp e) (by omega)⟩
    · have q' : Post M2 (if y = 0 then nI z.1 else if y = 1 then nI z.2.1 else z.2.2) := q
      rw [if_pos e] at q'; exact q'
    · have q' : Post M2 (if y = 0 then nI z.1 else if y = 1 then nI z.2.1 else z.2.2) := q
      rw [if_neg e0, if_pos e] at q'; exact q'
    · have q' : Post M2 (if y = 0 then nI z.1 else if y = 1 then nI z.2.1 else z.2.2) := q
      rw [if_neg e0, if_neg e1] at q'
      have hne : z.2.1 ≠ 3 := fun w => e (by rw [w]; rfl)
      rw [← h8 (by omega)] at q'
      exact q'
    · have q' : Post M2 (if y = 0 then nI z.1 else if y = 1 then nI z.2.1 else z.2.2) := q
      rw [if_neg e0, if_neg e1] at q'
      have heq : z.2.1 = 3 := nI_inj (b := 3) (by omega) (by omega) e
      rw [h3 heq] at q'
      exact q'
