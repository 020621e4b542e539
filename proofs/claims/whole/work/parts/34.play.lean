/-! the reference: a text's orders -/
theorem Wf_mv {S : SS} {n m t : Nat} {y o : Int32} (hw : Wf S n m t) : Wf (mvF S n y o).1 n m t := by
  unfold mvF
  split
  · split
    · exact hw
    · next h _ =>
      obtain ⟨g, g1, g2, eg⟩ := inr_of h
      subst eg
      rw [ixn (by have := hw.2.2.2.1.2; omega)]
      have := hw.2.2.2.1.2
      exact hw.of (upd_o (by omega)) (upd_o (by omega)) (upd_o (by omega)) (fun c hc => upd_o (by omega)) (fun f hf => upd_o (by omega))
  · exact hw
theorem mv_o {S : SS} {n k : Nat} {y o : Int32} (h8 : n ≤ 8) (hk : ∀ g, g < n → k ≠ 14 + 9 * g) : (mvF S n y o).1 k = S k := by
  unfold mvF
  split
  · split
    · rfl
    · next h _ =>
      obtain ⟨g, g1, g2, eg⟩ := inr_of h
      subst eg
      rw [ixn (by omega)]
      exact upd_o (hk g g2)
  · rfl
theorem Tu_mv {S : SS} {n t : Nat} {y o : Int32} (h8 : n ≤ 8) (h : Tu S t) : Tu (mvF S n y o).1 t :=
  h.of (mv_o h8 (fun g _ => by omega)) (mv_o h8 (fun g _ => by omega)) (fun i _ => mv_o h8 (fun g _ => by omega))
theorem cl_o {S : SS} {m k : Nat} {y : Int32} (h10 : m ≤ 10) (hk : ∀ f, f < m → k ≠ 87 + 7 * f) : (clF S m y).1 k = S k := by
  unfold clF
  split
  · split
    · rfl
    · next h _ =>
      obtain ⟨g, g1, g2, eg⟩ := inr_of h
      subst eg
      rw [ixn (by omega)]
      exact upd_o (hk g g2)
  · rfl
theorem Wf_cl {S : SS} {n m t : Nat} {y : Int32} (hw : Wf S n m t) : Wf (clF S m y).1 n m t := by
  have h10 := hw.2.2.2.2.1
  exact hw.of (cl_o h10 (fun g _ => by omega)) (cl_o h10 (fun g _ => by omega)) (cl_o h10 (fun g _ => by omega)) (fun c hc => cl_o h10 (fun g _ => by omega)) (fun f hf => cl_o h10 (fun g _ => by omega))
theorem Tu_cl {S : SS} {m t : Nat} {y : Int32} (h10 : m ≤ 10) (h : Tu S t) : Tu (clF S m y).1 t :=
  h.of (cl_o h10 (fun g _ => by omega)) (cl_o h10 (fun g _ => by omega)) (fun i _ => cl_o h10 (fun g _ => by omega))
theorem go_inv {S : SS} {n m t : Nat} {b : Int32} (hw : Wf S n m t) (ht : Tu S t) : Wf (goesF S n m b).1 n m t ∧ Tu (goesF S n m b).1 t ∧ ∀ i, 152 ≤ i → (goesF S n m b).1 i = S i := by
  unfold goesF
  split
  · split
    · exact ⟨hw, ht, fun _ _ => rfl⟩
    · exact ⟨Wf_flow hw, Tu_flow hw ht, fun i hi => flowF_hi hw.2.2.2.1.2 hw.2.2.2.2.1 hi⟩
  · exact ⟨hw, ht, fun _ _ => rfl⟩
theorem run_inv {S : SS} {n m t most : Nat} {x b : Int32} (hw : Wf S n m t) (ht : Tu S t) : Wf (runsF S n m most x b).1 n m t ∧ Tu (runsF S n m most x b).1 t ∧ ∀ i, 152 ≤ i → (runsF S n m most x b).1 i = S i := by
  unfold runsF
  split
  · split
    · obtain ⟨a, c⟩ := rs_inv (b := b) hw ht (ix x)
      exact ⟨a, c, fun i hi => rsF_hi hw ht hi _⟩
    · exact ⟨hw, ht, fun _ _ => rfl⟩
  · exact ⟨hw, ht, fun _ _ => rfl⟩
theorem do_inv {S : SS} {n m t : Nat} {c v w : Int32} (hw : Wf S n m t) (ht : Tu S t) : Wf (doF S n m c v w).1 n m t ∧ Tu (doF S n m c v w).1 t ∧ ∀ i, 152 ≤ i → (doF S n m c v w).1 i = S i := by
  have h8 := hw.2.2.2.1.2
  have h10 := hw.2.2.2.2.1
  unfold doF
  split
  · exact ⟨Wf_mv hw, Tu_mv h8 ht, fun i hi => mv_o h8 (fun g _ => by omega)⟩
  · split
    · exact go_inv hw ht
    · split
      · exact ⟨Wf_mv hw, Tu_mv h8 ht, fun i hi => mv_o h8 (fun g _ => by omega)⟩
      · split
        · exact ⟨Wf_cl hw, Tu_cl h10 ht, fun i hi => cl_o h10 (fun g _ => by omega)⟩
        · exact run_inv hw ht
/-- the next order: reason, cause, what is added, the state behind it -/
def dnF (T S : SS) (n m L p : Nat) : Nat × Int32 × Int32 × SS :=
  if (frm T L p).1 = true then
    (if rngF n m (sgn T L p) (frm T L p).2.2.1 = true then
      (if (doF S n m (sgn T L p) (frm T L p).2.2.1 (frm T L p).2.2.2).2 ≤ -1000001 then (3, -1000004, 0, (doF S n m (sgn T L p) (frm T L p).2.2.1 (frm T L p).2.2.2).1)
       else (0, -1000004, if sgn T L p = 104 ∨ sgn T L p = 114 then (doF S n m (sgn T L p) (frm T L p).2.2.1 (frm T L p).2.2.2).2 else 0, (doF S n m (sgn T L p) (frm T L p).2.2.1 (frm T L p).2.2.2).1))
     else (2, 0, 0, S))
  else (1, nI ((frm T L p).2.1 - p), 0, S)
theorem dn_inv {T S : SS} {n m t L p : Nat} (hw : Wf S n m t) (ht : Tu S t) : Wf (dnF T S n m L p).2.2.2 n m t ∧ Tu (dnF T S n m L p).2.2.2 t ∧ ∀ i, 152 ≤ i → (dnF T S n m L p).2.2.2 i = S i := by
  unfold dnF
  split
  · split
    · split
      · exact do_inv hw ht
      · exact do_inv hw ht
    · exact ⟨hw, ht, fun _ _ => rfl⟩
  · exact ⟨hw, ht, fun _ _ => rfl⟩
theorem st_gm {M : Mm} {H N S : SS} : st (gm M H N) S = gm (st M S) H N := by
  funext a
  by_cases h1 : a = 143
  · subst h1; rw [st_o (by omega), gm_h, gm_h]
  · by_cases h2 : a = 149
    · subst h2; rw [st_o (by omega), gm_n, gm_n]
    · by_cases h3 : a = 144
      · subst h3; rw [st_s, gm_o h1 h2, st_s]
      · rw [st_o h3, gm_o h1 h2, gm_o h1 h2, st_o h3]
theorem gm_gm {M : Mm} {H N H' N' : SS} : gm (gm M H N) H' N' = gm M H' N' := by
  funext a
  by_cases h1 : a = 143
  · subst h1; rw [gm_h, gm_h]
  · by_cases h2 : a = 149
    · subst h2; rw [gm_n, gm_n]
    · rw [gm_o h1 h2, gm_o h1 h2, gm_o h1 h2]
theorem ofN_sub {a b : Nat} (h : b ≤ a) : nI a - nI b = nI (a - b) := by
  obtain ⟨k, rfl⟩ : ∃ k, a = b + k := ⟨a - b, by omega⟩
  rw [Nat.add_sub_cancel_left, ← nI_add, Int32.add_comm, Int32.add_sub_cancel]
theorem sp7_doesNext {Post : Mm → Int32 → Prop} {M : Mm} {S H N : SS} {n m t L p : Nat} (hw : Wf S n m t) (ht : Tu S t) (hL : H 6 = nI L) (hp : H 7 = nI p) (h60 : L ≤ 60) (hpl : p < L)
    (h : ∀ H' N', H' 7 = nI (frm (M 148) L p).2.1 → H' 11 = (dnF (M 148) S n m L p).2.1 → H' 12 = H 12 + (dnF (M 148) S n m L p).2.2.1 → (∀ k, k ≠ 7 → k ≠ 9 → k ≠ 11 → k ≠ 12 → H' k = H k) → Post (gm (st M (dnF (M 148) S n m L p).2.2.2) H' N') (nI (dnF (M 148) S n m L p).1)) : wX7_doesNext Post (gm (st M S) H N) 143 := by
  intro x1 e1
  rw [gm_h, hp] at e1
  subst e1
  have e8 : ∀ T : SS, st M T 148 = M 148 := fun T => st_o (by omega)
  have e8' : gm (st M S) H N 148 = M 148 := by rw [gm_o (by omega) (by omega), e8]
  refine sp7_sign (L := L) (p := p) (by rw [gm_h, hL]) (by rw [gm_h, hp]) h60 (by omega) ?_
  rw [e8']
  refine sp7_readsForm (L := L) (p := p) hL hp h60 (by omega) ?_
  rw [e8]
  obtain ⟨l1, l2, l3⟩ := frm_le (T := M 148) (L := L) (p := p) (by omega)
  unfold dnF at h
  intro H1 N1 h7 hk hN
  refine ⟨fun d => ?_, fun d M17 e17 => ?_⟩
  · have ok := b2i_1.mp ((b2i_01 _).resolve_left d)
    obtain ⟨v0, v1⟩ := hN ok
    rw [if_pos ok] at h
    have hl : ltr (sgn (M 148) L p) := by
      refine Decidable.byContradiction (fun z => ?_)
      unfold frm at ok
      rw [if_neg z] at ok
      cases ok
    refine sp7_isInRange (n := n) (m := m) (t := t) (by rw [gm_o (by omega) (by omega), st_s]; exact hw) ?_
    rw [gm_n, v0]
    refine ⟨fun d2 M10 e10 => ?_, fun d2 M16 e16 => ?_⟩
    · rw [if_pos (b2i_1.mp ((b2i_01 _).resolve_left d2))] at h
      have e : M10 = gm (st M S) (upd H1 11 (-1000004)) N1 := by rw [e10, mu_gh]
      subst e
      refine sp7_does (n := n) (m := m) (t := t) (v := (frm (M 148) L p).2.2.1) (w := (frm (M 148) L p).2.2.2) (by rw [gm_o (by omega) (by omega), st_s]; exact hw) (by rw [gm_o (by omega) (by omega), st_s]; exact ht) (by rw [gm_n, v0]) (fun e => by rw [gm_n, v1 e]) hl ?_
      rw [st_gm, st_st, gm_o (M := st M S) (by omega) (by omega), st_s]
      have f84 : ∀ (M1 : Mm) (r x t1 : Int32), M1 = gm (st M (doF S n m (sgn (M 148) L p) (frm (M 148) L p).2.2.1 (frm (M 148) L p).2.2.2).1) (upd H1 11 (-1000004)) N1 → r = (doF S n m (sgn (M 148) L p) (frm (M 148) L p).2.2.1 (frm (M 148) L p).2.2.2).2 → t1 = H 12 → (r ≤ -1000001 → x = 0) → (¬ r ≤ -1000001 → x = if sgn (M 148) L p = 104 ∨ sgn (M 148) L p = 114 then (doF S n m (sgn (M 148) L p) (frm (M 148) L p).2.2.1 (frm (M 148) L p).2.2.2).2 else 0) → bX7_doesNext_84 Post M1 r x t1 143 := by
        intro M1 r x t1 eM er et1 hx1 hx2 M18 e18
        subst er
        subst et1
        have e : M18 = gm (st M (doF S n m (sgn (M 148) L p) (frm (M 148) L p).2.2.1 (frm (M 148) L p).2.2.2).1) (upd (upd H1 11 (-1000004)) 12 (H 12 + x)) N1 := by rw [e18, eM, mu_gh]
        subst e
        refine ⟨fun c => ?_, fun c => ?_⟩
        · rw [if_pos c] at h
          refine h _ _ (by rw [upd_o (by omega), upd_o (by omega), h7]) (by rw [upd_o (by omega), upd_s]) (by rw [upd_s, hx1 c]) (fun k k7 k9 k11 k12 => by rw [upd_o k12, upd_o k11, hk k k7 k9])
        · rw [if_neg c] at h
          refine h _ _ (by rw [upd_o (by omega), upd_o (by omega), h7]) (by rw [upd_o (by omega), upd_s]) (by rw [upd_s, hx2 c]) (fun k k7 k9 k11 k12 => by rw [upd_o k12, upd_o k11, hk k k7 k9])
      have e12 : gm (st M (doF S n m (sgn (M 148) L p) (frm (M 148) L p).2.2.1 (frm (M 148) L p).2.2.2).1) (upd H1 11 (-1000004)) N1 143 12 = H 12 := by
        rw [gm_h, upd_o (by omega), hk 12 (by omega) (by omega)]
      refine ⟨fun c => f84 _ _ _ _ rfl rfl e12 (fun _ => rfl) (fun z => absurd c z), fun c => ⟨fun c2 => f84 _ _ _ _ rfl rfl e12 (fun z => absurd z c) (fun _ => by rw [if_pos (Or.inl c2)]), fun c2 => ⟨fun c3 => f84 _ _ _ _ rfl rfl e12 (fun z => absurd z c) (fun _ => by rw [if_neg (by rintro (z | z); exact c2 z; exact c3 z)]), fun c3 => f84 _ _ _ _ rfl rfl e12 (fun z => absurd z c) (fun _ => by rw [if_pos (Or.inr c3)])⟩⟩⟩
    · rw [if_neg (by rw [b2i_0.mp d2]; decide)] at h
      have e : M16 = gm (st M S) (upd H1 11 0) N1 := by rw [e16, mu_gh]
      subst e
      exact h _ _ (by rw [upd_o (by omega), h7]) (by rw [upd_s]) (by rw [upd_o (by omega), hk 12 (by omega) (by omega), Int32.add_zero]) (fun k k7 k9 k11 k12 => by rw [upd_o k11, hk k k7 k9])
  · rw [if_neg (by rw [b2i_0.mp d]; decide)] at h
    have e : M17 = gm (st M S) (upd H1 11 (nI ((frm (M 148) L p).2.1 - p))) N1 := by
      rw [e17, mu_gh, gm_h, h7, ofN_sub l2]
    subst e
    exact h _ _ (by rw [upd_o (by omega), h7]) (by rw [upd_s]) (by rw [upd_o (by omega), hk 12 (by omega) (by omega), Int32.add_zero]) (fun k k7 k9 k11 k12 => by rw [upd_o k11, hk k k7 k9])
def ro (T : SS) (n m L : Nat) : Nat → Nat → SS → Int32 → Option (Nat × Nat × Int32) × SS × Int32
  | 0, _, S, a => (none, S, a)
  | f + 1, p, S, a => if p < L then
      (if (dnF T S n m L p).1 = 0 then ro T n m L f (frm T L p).2.1 (dnF T S n m L p).2.2.2 (a + (dnF T S n m L p).2.2.1)
       else (some (p, (dnF T S n m L p).1, (dnF T S n m L p).2.1), (dnF T S n m L p).2.2.2, a + (dnF T S n m L p).2.2.1))
    else (none, S, a)
theorem ro_fst {T : SS} {n m L : Nat} : ∀ f p S a b, (ro T n m L f p S a).1 = (ro T n m L f p S b).1 ∧ (ro T n m L f p S a).2.1 = (ro T n m L f p S b).2.1 := by
  intro f
  induction f with
  | zero => intro p S a b; exact ⟨rfl, rfl⟩
  | succ f ih =>
    intro p S a b
    unfold ro
    split
    · split
      · exact ih _ _ _ _
      · exact ⟨rfl, rfl⟩
    · exact ⟨rfl, rfl⟩
def flt (r : Option (Nat × Nat × Int32)) : Int32 := match r with | none => -1000004 | some z => nI z.1
theorem rest_gm {Post : Mm → Prop} {M : Mm} {S H N : SS} (hi : ∀ i, 168 ≤ i → S i = M 144 i) (h : Post (gm (mcp M 144 147 168) H N)) : wX7_restores Post (gm (st (mcp M 144 147 168) S) H N) 143 := by
  have e : gm (mcp M 144 147 168) H N = mcp (gm M H N) 144 147 168 := by
    funext a
    by_cases h7 : a = 147
    · subst h7
      rw [gm_o (by omega) (by omega)]
      funext i
      unfold mcp
      rw [if_pos rfl, if_pos rfl, gm_o (by omega) (by omega), gm_o (by omega) (by omega)]
    · rw [mcpo h7]
      unfold gm
      rw [mcpo h7]
  rw [← st_gm, e]
  refine sp7_rest (fun i h1 => by rw [gm_o (by omega) (by omega)]; exact hi i h1) ?_
  rw [← e]
  exact h
theorem faulty_loop {Post : Mm → Int32 → Prop} {M : Mm} {n m t L : Nat} {H0 : SS} (hL : H0 6 = nI L) (h60 : L ≤ 60) : ∀ (f p : Nat) (S H N : SS), L - p ≤ f → p ≤ L → H 7 = nI p → (∀ k, k ≠ 7 → k ≠ 9 → k ≠ 10 → k ≠ 11 → k ≠ 12 → H k = H0 k) → Wf S n m t → Tu S t → (∀ i, 168 ≤ i → S i = M 144 i) →
    (∀ H' N', (∀ k, k ≠ 7 → k ≠ 9 → k ≠ 10 → k ≠ 11 → k ≠ 12 → H' k = H0 k) → (∀ s r c, (ro (M 148) n m L f p S 0).1 = some (s, r, c) → H' 10 = nI r ∧ H' 11 = c) → Post (gm (mcp M 144 147 168) H' N') (flt (ro (M 148) n m L f p S 0).1)) →
    lX7_faulty_12 Post (f + 2) (gm (st (mcp M 144 147 168) S) H N) 143 (-1000004) := by
  intro f
  induction f with
  | zero =>
    intro p S H N hf hp h7 hk hw ht hi h
    have e7 : gm (st (mcp M 144 147 168) S) H N 143 7 = nI p := by rw [gm_h, h7]
    have e6 : gm (st (mcp M 144 147 168) S) H N 143 6 = nI L := by rw [gm_h, hk 6 (by omega) (by omega) (by omega) (by omega) (by omega), hL]
    show bX7_faulty_12 Post _ _ 143 _
    unfold bX7_faulty_12
    rw [e7, e6]
    exact ⟨fun _ => rest_gm hi (h H N hk (fun s r c z => by cases z)), fun z => absurd (nI_le (by omega) (by omega)) z⟩
  | succ f ih =>
    intro p S H N hf hp h7 hk hw ht hi h
    have e7 : gm (st (mcp M 144 147 168) S) H N 143 7 = nI p := by rw [gm_h, h7]
    have h6 : H 6 = nI L := by rw [hk 6 (by omega) (by omega) (by omega) (by omega) (by omega), hL]
    have e6 : gm (st (mcp M 144 147 168) S) H N 143 6 = nI L := by rw [gm_h, h6]
    show bX7_faulty_12 Post (lX7_faulty_12 Post (f + 2)) _ 143 _
    unfold bX7_faulty_12
    rw [e7, e6]
    unfold ro at h
    by_cases hpl : p < L
    · obtain ⟨l1, l2, l3⟩ := frm_le (T := M 148) (L := L) (p := p) (by omega)
      obtain ⟨i1, i2, i3⟩ := dn_inv (T := M 148) (L := L) (p := p) hw ht
      have eM : mcp M 144 147 168 148 = M 148 := mcpo (by omega)
      rw [if_pos hpl] at h
      refine ⟨fun z => absurd z (nI_ge hpl (by omega)), fun _ => ⟨fun z => absurd rfl z, fun _ x2 e2 => ?_⟩⟩
      subst e2
      refine sp7_doesNext (M := mcp M 144 147 168) hw ht h6 h7 h60 hpl ?_
      rw [eM]
      intro H' N' g7 g11 g12 gk M10 e10
      rw [mu_gh] at e10
      subst e10
      rw [gm_h, upd_s]
      have gk' : ∀ k, k ≠ 7 → k ≠ 9 → k ≠ 10 → k ≠ 11 → k ≠ 12 → upd H' 10 (nI (dnF (M 148) S n m L p).1) k = H0 k := fun k k7 k9 k10 k11 k12 => by rw [upd_o k10, gk k k7 k9 k11 k12, hk k k7 k9 k10 k11 k12]
      by_cases hd : (dnF (M 148) S n m L p).1 = 0
      · have ok : (frm (M 148) L p).1 = true := by
          cases hh : (frm (M 148) L p).1
          · unfold dnF at hd
            rw [if_neg (by rw [hh]; decide)] at hd
            cases hd
          · rfl
        rw [if_pos hd, (ro_fst f (frm (M 148) L p).2.1 (dnF (M 148) S n m L p).2.2.2 (0 + (dnF (M 148) S n m L p).2.2.1) 0).1] at h
        have next := ih _ _ _ N' (by have := l3 ok; omega) l1 (by rw [upd_o (by omega), g7]) gk' i1 i2 (fun i hi' => by rw [i3 i (by omega), hi i hi']) h
        refine ⟨fun _ => next, fun z => absurd ?_ z⟩
        rw [hd]; decide
      · rw [if_neg hd] at h
        have hd3 : (dnF (M 148) S n m L p).1 ≤ 3 := by
          unfold dnF
          split
          · split
            · split
              · exact Nat.le_refl _
              · exact Nat.zero_le _
            · show 2 ≤ 3; omega
          · show 1 ≤ 3; omega
        refine ⟨fun z => absurd z (nI_ge (Nat.pos_of_ne_zero hd) (by omega)), fun _ => ?_⟩
        -- the fault is found: the loop ends
        have hh := h _ N' gk' (fun s r c z => by
          cases z
          exact ⟨upd_s, by rw [upd_o (by omega), g11]⟩)
        have hne : ¬ nI p = -1000004 := by
          intro z
          have := nI_pos (n := p) (by omega)
          rw [z] at this
          exact this (by decide)
        have hiS : ∀ i, 168 ≤ i → (dnF (M 148) S n m L p).2.2.2 i = M 144 i := fun i hi' => by rw [i3 i (by omega), hi i hi']
        show bX7_faulty_12 Post (lX7_faulty_12 Post (f + 1)) _ 143 _
        exact ⟨fun _ => rest_gm hiS hh, fun _ => ⟨fun _ => rest_gm hiS hh, fun z => absurd z hne⟩⟩
    · rw [if_neg hpl] at h
      exact ⟨fun _ => rest_gm hi (h H N hk (fun s r c z => by cases z)), fun z => absurd (nI_le (by omega) (by omega)) z⟩
/-- what a fault's search gives -/
theorem sp7_faulty {Post : Mm → Int32 → Prop} {M : Mm} {n m t L : Nat} (hw : Wf (M 144) n m t) (ht : Tu (M 144) t) (hL : M 143 6 = nI L) (h60 : L ≤ 60)
    (h : ∀ H' N', (∀ k, k ≠ 7 → k ≠ 9 → k ≠ 10 → k ≠ 11 → k ≠ 12 → H' k = M 143 k) → (∀ s r c, (ro (M 148) n m L 60 0 (M 144) 0).1 = some (s, r, c) → H' 10 = nI r ∧ H' 11 = c) → Post (gm (mcp M 144 147 168) H' N') (flt (ro (M 148) n m L 60 0 (M 144) 0).1)) : wX7_faulty Post M 143 := by
  refine sp7_puts (fun M3 e3 => ?_)
  have e : M3 = gm (st (mcp M 144 147 168) (M 144)) (upd (M 143) 7 (nI 0)) (M 149) := by
    rw [e3, mu_sr]
    funext a
    by_cases h1 : a = 143
    · subst h1; rw [sr_s, gm_h, mcpo (by omega)]; rfl
    · rw [sr_o h1]
      by_cases h2 : a = 149
      · subst h2; rw [gm_n, mcpo (by omega)]
      · rw [gm_o h1 h2]
        by_cases h3 : a = 144
        · subst h3; rw [st_s, mcpo (by omega)]
        · rw [st_o h3]
  subst e
  exact ⟨62, faulty_loop (H0 := M 143) hL h60 60 0 (M 144) _ _ (by omega) (by omega) upd_s (fun k k7 _ _ _ _ => by rw [upd_o k7]) hw ht (fun _ _ => rfl) h⟩
def fltF (T S : SS) (n m L : Nat) (y : Int32) : Int32 := if inr 0 3 y = true then (match (ro T n m L 60 0 S 0).1 with | none => -1000004 | some z => if y = 0 then nI z.1 else if y = 1 then nI z.2.1 else z.2.2) else -1000001
theorem ro_at {T : SS} {n m L : Nat} : ∀ f p S a z, p ≤ L → (ro T n m L f p S a).1 = some z → z.1 < L := by
  intro f
  induction f with
  | zero => intro p S a z _ h; cases h
  | succ f ih =>
    intro p S a z hp h
    unfold ro at h
    by_cases hpl : p < L
    · rw [if_pos hpl] at h
      by_cases hd : (dnF T S n m L p).1 = 0
      · rw [if_pos hd] at h
        exact ih _ _ _ z (frm_le hp).1 h
      · rw [if_neg hd] at h
        cases h
        exact hpl
    · rw [if_neg hpl] at h
      cases h
theorem nI_nn {p : Nat} (h : p < 1000) : ¬ nI p = -1000004 := by
  intro z
  have := nI_pos (n := p) (by omega)
  rw [z] at this
  exact this (by decide)
theorem sp7_fault {Post : Mm → Int32 → Prop} {M : Mm} {n m t L : Nat} {y : Int32} (hw : Wf (M 144) n m t) (ht : Tu (M 144) t) (hL : M 143 6 = nI L) (h60 : L ≤ 60)
    (h : ∀ M', (∀ a, a ≠ 143 → a ≠ 147 → a ≠ 149 → M' a = M a) → (∀ k, k ≠ 7 → k ≠ 9 → k ≠ 10 → k ≠ 11 → k ≠ 12 → M' 143 k = M 143 k) → Post M' (fltF (M 148) (M 144) n m L y)) : wX7_fault Post M 143 y := by
  unfold fltF at h
  refine sp7_inr (a := 0) (b := 3) (by decide) (by decide) ⟨fun d => sp7_faulty hw ht hL h60 (fun H' N' hk hr => ?_), fun d => ?_⟩
  · have g := b2i_1.mp ((b2i_01 _).resolve_left d)
    rw [if_pos g] at h
    have hM := h (gm (mcp M 144 147 168) H' N') (fun a h1 h2 h3 => by rw [gm_o h1 h3, mcpo h2]) (fun k k7 k9 k10 k11 k12 => by rw [gm_h, hk k k7 k9 k10 k11 k12])
    revert hr hM
    cases er : (ro (M 148) n m L 60 0 (M 144) 0).1 with
    | none => exact fun _ hM => ⟨fun _ => hM, fun z => absurd rfl z⟩
    | some z =>
      intro hr hM
      have hz := ro_at 60 0 (M 144) 0 z (Nat.zero_le _) er
      obtain ⟨r1, r2⟩ := hr z.1 z.2.1 z.2.2 rfl
      refine ⟨fun q => absurd q (nI_nn (by omega)), fun _ => ⟨fun y0 => ⟨fun y1 => ?_, fun y1 => ?_⟩, fun y0 => ?_⟩⟩
      · rw [gm_h, r2]
        dsimp only at hM
        rw [if_neg y0, if_neg y1] at hM
        exact hM
      · rw [gm_h, r1]
        dsimp only at hM
        rw [if_neg y0, if_pos y1] at hM
        exact hM
      · dsimp only at hM
        rw [if_pos y0] at hM
        exact hM
  · rw [if_neg (by rw [b2i_0.mp d]; decide)] at h
    exact h M (fun _ _ _ _ => rfl) (fun _ _ _ _ _ _ => rfl)
theorem play_loop {Post : Mm → Int32 → Prop} {M : Mm} {n m t L : Nat} {H0 : SS} (hL : H0 6 = nI L) (h60 : L ≤ 60) : ∀ (f p : Nat) (S H N : SS), L - p ≤ f → p ≤ L → H 7 = nI p → (∀ k, k ≠ 7 → k ≠ 9 → k ≠ 10 → k ≠ 11 → k ≠ 12 → H k = H0 k) → Wf S n m t → Tu S t → (ro (M 148) n m L f p S (H 12)).1 = none →
    (∀ H' N', (∀ k, k ≠ 7 → k ≠ 9 → k ≠ 10 → k ≠ 11 → k ≠ 12 → H' k = H0 k) → H' 12 = (ro (M 148) n m L f p S (H 12)).2.2 → wX7_acted Post (gm (st M (ro (M 148) n m L f p S (H 12)).2.1) H' N') 143 (H' 12)) →
    lX7_play_26 Post (f + 1) (gm (st M S) H N) 143 := by
  intro f
  induction f with
  | zero =>
    intro p S H N hf hp h7 hk hw ht hr h
    have e7 : gm (st M S) H N 143 7 = nI p := by rw [gm_h, h7]
    have e6 : gm (st M S) H N 143 6 = nI L := by rw [gm_h, hk 6 (by omega) (by omega) (by omega) (by omega) (by omega), hL]
    show bX7_play_26 Post _ _ 143
    unfold bX7_play_26
    rw [e7, e6, gm_h]
    exact ⟨fun _ => h H N hk rfl, fun z => absurd (nI_le (by omega) (by omega)) z⟩
  | succ f ih =>
    intro p S H N hf hp h7 hk hw ht hr h
    have e7 : gm (st M S) H N 143 7 = nI p := by rw [gm_h, h7]
    have h6 : H 6 = nI L := by rw [hk 6 (by omega) (by omega) (by omega) (by omega) (by omega), hL]
    have e6 : gm (st M S) H N 143 6 = nI L := by rw [gm_h, h6]
    show bX7_play_26 Post (lX7_play_26 Post (f + 1)) _ 143
    unfold bX7_play_26
    rw [e7, e6, gm_h]
    unfold ro at h hr
    by_cases hpl : p < L
    · obtain ⟨l1, l2, l3⟩ := frm_le (T := M 148) (L := L) (p := p) (by omega)
      obtain ⟨i1, i2, i3⟩ := dn_inv (T := M 148) (L := L) (p := p) hw ht
      rw [if_pos hpl] at h hr
      refine ⟨fun z => absurd z (nI_ge hpl (by omega)), fun _ => sp7_doesNext hw ht h6 h7 h60 hpl (fun H' N' g7 g11 g12 gk => ?_)⟩
      have hd : (dnF (M 148) S n m L p).1 = 0 := by
        refine Decidable.byContradiction (fun z => ?_)
        rw [if_neg z] at hr
        cases hr
      have ok : (frm (M 148) L p).1 = true := by
        cases hh : (frm (M 148) L p).1
        · unfold dnF at hd
          rw [if_neg (by rw [hh]; decide)] at hd
          cases hd
        · rfl
      rw [if_pos hd, ← g12] at h hr
      exact ih _ _ H' N' (by have := l3 ok; omega) l1 g7 (fun k k7 k9 k10 k11 k12 => by rw [gk k k7 k9 k11 k12, hk k k7 k9 k10 k11 k12]) i1 i2 hr h
    · rw [if_neg hpl] at h
      exact ⟨fun _ => h H N hk rfl, fun z => absurd (nI_le (by omega) (by omega)) z⟩
/-- what an acting call leaves, a text's orders too -/
def ActO (M M' : Mm) (s : Nat) (S' : SS) (r : Int32) : Prop :=
  (∀ a, a ≠ 143 → a ≠ 144 → a ≠ 145 → a ≠ 146 → a ≠ 147 → a ≠ 149 → M' a = M a) ∧ M' 144 = S' ∧ M' 143 6 = M 143 6 ∧ (r ≤ -1000001 → M' 143 4 = M 143 4 ∧ M' 145 = M 145) ∧
  (¬ r ≤ -1000001 → M' 143 4 = nI (min s 3 + 1) ∧ ∃ B : SS, (∀ j, j < 168 → B j = M 144 j) ∧ M' 145 = hi1 (M 145) B s)
theorem Act_O {M M' : Mm} {s : Nat} {S' : SS} {r : Int32} (h : Act M M' s S' r) : ActO M M' s S' r := by
  obtain ⟨a, b, c, d⟩ := h
  refine ⟨fun x h1 h2 h3 h4 _ _ => a x h1 h2 h3 h4, b, ?_, fun hr => ⟨by rw [(c hr).1], (c hr).2⟩, fun hr => ⟨by rw [(d hr).1, upd_s], (d hr).2⟩⟩
  by_cases hr : r ≤ -1000001
  · rw [(c hr).1]
  · rw [(d hr).1, upd_o (by omega)]
def plyF (T S : SS) (n m L : Nat) : SS × Int32 := match (ro T n m L 60 0 S 0).1 with | none => ((ro T n m L 60 0 S 0).2.1, (ro T n m L 60 0 S 0).2.2) | some _ => (S, -1000002)
theorem sp7_play {Post : Mm → Int32 → Prop} {M : Mm} {n m t s L : Nat} (hw : Wf (M 144) n m t) (ht : Tu (M 144) t) (hs : M 143 4 = nI s) (h4 : s ≤ 4) (hL : M 143 6 = nI L) (h60 : L ≤ 60)
    (h : ∀ M', ActO M M' s (plyF (M 148) (M 144) n m L).1 (plyF (M 148) (M 144) n m L).2 → Post M' (plyF (M 148) (M 144) n m L).2) : wX7_play Post M 143 := by
  refine sp7_faulty hw ht hL h60 (fun H0 N0 hk hr => ?_)
  unfold plyF at h
  cases er : (ro (M 148) n m L 60 0 (M 144) 0).1 with
  | some z =>
    rw [er] at h
    have hz := ro_at 60 0 (M 144) 0 z (Nat.zero_le _) er
    refine ⟨fun q => absurd q (nI_nn (by omega)), fun _ => h _ ⟨fun a h1 h2 h3 h4 h5 h6 => by rw [gm_o h1 h6, mcpo h5], by rw [gm_o (by omega) (by omega), mcpo (by omega)], by rw [gm_h, hk 6 (by omega) (by omega) (by omega) (by omega) (by omega)], fun _ => ⟨by rw [gm_h, hk 4 (by omega) (by omega) (by omega) (by omega) (by omega)], by rw [gm_o (by omega) (by omega), mcpo (by omega)]⟩, fun z => absurd (show (-1000002 : Int32) ≤ -1000001 by decide) z⟩⟩
  | none =>
    rw [er] at h
    refine ⟨fun _ => sp7_keeps (fun M6 e6 M7 e7 => ?_), fun q => absurd rfl q⟩
    have eK : mcp (gm (mcp M 144 147 168) H0 N0) 144 146 168 = gm (mcp (mcp M 144 147 168) 144 146 168) H0 N0 := by
      funext a
      by_cases h6 : a = 146
      · subst h6
        rw [gm_o (by omega) (by omega)]
        funext i
        unfold mcp
        rw [if_pos rfl, if_pos rfl, gm_o (by omega) (by omega), gm_o (by omega) (by omega)]
      · rw [mcpo h6]
        unfold gm
        rw [mcpo h6]
    have eS : mcp (mcp M 144 147 168) 144 146 168 144 = M 144 := by rw [mcpo (by omega), mcpo (by omega)]
    have e : M7 = gm (st (mcp (mcp M 144 147 168) 144 146 168) (M 144)) (upd (upd H0 12 0) 7 (nI 0)) N0 := by
      rw [e7, e6, eK, mu_gh, mu_gh, ← st_self' eS]; rfl
    subst e
    have e8 : mcp (mcp M 144 147 168) 144 146 168 148 = M 148 := by rw [mcpo (by omega), mcpo (by omega)]
    have e12 : upd (upd H0 12 0) 7 (nI 0) 12 = 0 := by rw [upd_o (by omega), upd_s]
    refine ⟨61, play_loop (M := mcp (mcp M 144 147 168) 144 146 168) (H0 := H0) (n := n) (m := m) (t := t) (L := L) (by rw [hk 6 (by omega) (by omega) (by omega) (by omega) (by omega), hL]) h60 60 0 (M 144) _ _ (by omega) (by omega) upd_s (fun k k7 _ _ _ k12 => by rw [upd_o k7, upd_o k12]) hw ht (by rw [e8, e12]; exact er) ?_⟩
    rw [e8, e12]
    intro H' N' hk' h12
    rw [h12]
    have o (a : Nat) (h2 : a ≠ 144) (h6 : a ≠ 146) (h7 : a ≠ 147) (h1 : a ≠ 143) (h9 : a ≠ 149) : gm (st (mcp (mcp M 144 147 168) 144 146 168) (ro (M 148) n m L 60 0 (M 144) 0).2.1) H' N' a = M a := by
      rw [gm_o h1 h9, st_o h2, mcpo h6, mcpo h7]
    have h43 : H' 4 = M 143 4 := by rw [hk' 4 (by omega) (by omega) (by omega) (by omega) (by omega), hk 4 (by omega) (by omega) (by omega) (by omega) (by omega)]
    have h63 : H' 6 = M 143 6 := by rw [hk' 6 (by omega) (by omega) (by omega) (by omega) (by omega), hk 6 (by omega) (by omega) (by omega) (by omega) (by omega)]
    refine sp7_acted (s := s) (by rw [gm_h, h43, hs]) h4 (fun c => h _ ⟨fun a h1 h2 h3 h4 h5 h6 => o a h2 h4 h5 h1 h6, by rw [gm_o (by omega) (by omega), st_s], by rw [gm_h, h63], fun _ => ⟨by rw [gm_h, h43], o 145 (by omega) (by omega) (by omega) (by omega) (by omega)⟩, fun z => absurd c z⟩) (fun c => h _ ⟨fun a h1 h2 h3 h4 h5 h6 => ?_, ?_, ?_, fun z => absurd z c, fun _ => ⟨?_, mcp (mcp M 144 147 168) 144 146 168 146, fun j hj => by rw [mcps hj, mcpo (by omega)], ?_⟩⟩)
    · unfold acM
      rw [sr_o h1, sr_o h3, o a h2 h4 h5 h1 h6]
    · unfold acM
      rw [sr_o (by omega), sr_o (by omega), gm_o (by omega) (by omega), st_s]
    · unfold acM
      rw [sr_s, upd_o (by omega), gm_h, h63]
    · unfold acM
      rw [sr_s, upd_s]
    · unfold acM
      rw [sr_o (by omega), sr_s, o 145 (by omega) (by omega) (by omega) (by omega) (by omega), gm_o (by omega) (by omega), st_o (by omega)]
