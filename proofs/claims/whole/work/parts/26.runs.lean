/-! the reference: hours and runs -/
theorem srv_hi : ∀ (l : List Nat) (S : SS) (left : Int32) (k : Nat), (∀ f, f ∈ l → f < 10) → 152 ≤ k → (srv l S left).1 k = S k := by
  intro l
  induction l with
  | nil => intro S left k _ _; rfl
  | cons f l ih =>
    intro S left k hl hk
    have hf := hl f (List.mem_cons_self ..)
    show (srv l (sg S f (gv S f left)) (left - gv S f left)).1 k = S k
    rw [ih _ _ k (fun g hg => hl g (List.mem_cons_of_mem _ hg)) hk, sg_o (by omega) (by omega)]
theorem serveF_hi {S : SS} {m c : Nat} {w : Int32} {k : Nat} (hm : m ≤ 10) (hk : 152 ≤ k) : (serveF S m c w).1 k = S k := by
  show upd _ 7 _ k = _
  rw [upd_o (by omega), srv_hi _ _ _ k (fun f hf => by have := ord_mem.mp (List.mem_filter.mp hf).1; omega) hk]
theorem hC_hi {S : SS} {m n c k : Nat} (h8 : n ≤ 8) (hm : m ≤ 10) (hc : c < 8) (hk : 152 ≤ k) : hC S m n c k = S k := by
  unfold hC hCe hCd hCc
  rw [upd_o (by omega), upd_o (by omega), partF_SA h8 k (Or.inr (by omega)), serveF_hi hm hk, hCb_o (by omega) (by omega)]
theorem hL_hi {S : SS} {m n k : Nat} (h8 : n ≤ 8) (hm : m ≤ 10) (hk : 152 ≤ k) : ∀ i, i ≤ 8 → hL S m n i k = S k := by
  intro i
  induction i with
  | zero => intro _; rfl
  | succ c ih => intro h; unfold hL; rw [hC_hi h8 hm (by omega) hk, ih (by omega)]
theorem flowF_hi {S : SS} {n m : Nat} {b : Int32} {k : Nat} (h8 : n ≤ 8) (hm : m ≤ 10) (hk : 152 ≤ k) : flowF S n m b k = S k := by
  unfold flowF
  rw [eC_o m (fun f _ => by omega), hL_hi h8 hm hk n h8, f3_o (by omega) (by omega) (by omega) (fun g _ => by omega)]
theorem flowF_st {S : SS} {n m : Nat} {b : Int32} {k : Nat} (h8 : n ≤ 8) (hk : still k) (h5 : ∀ f, f < m → k ≠ 82 + 7 * f + 5) : flowF S n m b k = S k := by
  unfold flowF
  rw [eC_o m h5, hL_o h8 hk n h8, still_f3 h8 hk]
theorem still_lo {k : Nat} (h : k < 5) : still k := ⟨fun f => by omega, fun f => by omega, by omega, Or.inl fun g => by omega⟩
theorem still_ca {c w : Nat} (hc : c < 8) (hw : w < 6) : still (10 + 9 * c + w) := ⟨fun f => by omega, fun f => by omega, by omega, Or.inl fun g => by omega⟩
theorem still_fi {f w : Nat} (hf : f < 10) (hw : w < 7) (h4 : w ≠ 4) (h6 : w ≠ 6) : still (82 + 7 * f + w) := ⟨fun g => by omega, fun g => by omega, by omega, Or.inr (by omega)⟩
theorem Wf_flow {S : SS} {n m t : Nat} {b : Int32} (hw : Wf S n m t) : Wf (flowF S n m b) n m t := by
  have h8 := hw.2.2.2.1.2
  have hm := hw.2.2.2.2.1
  exact hw.of (flowF_st h8 (still_lo (by omega)) (fun f _ => by omega)) (flowF_st h8 (still_lo (by omega)) (fun f _ => by omega)) (flowF_st h8 (still_lo (by omega)) (fun f _ => by omega)) (fun c hc => flowF_st h8 (still_ca hc (by omega)) (fun f _ => by omega)) (fun f hf => flowF_st h8 (still_fi hf (by omega) (by omega) (by omega)) (fun g _ => by omega))
theorem setO_o {S : SS} {x : Int32} {k : Nat} : ∀ i, (∀ g, 1 ≤ g → g < i → k ≠ 10 + 9 * g + 4) → setO S x i k = S k := by
  intro i
  induction i with
  | zero => intro _; rfl
  | succ g ih =>
    intro h
    unfold setO
    by_cases hg : g = 0
    · rw [if_pos hg]
    · rw [if_neg hg, upd_o (h g (by omega) (by omega)), ih (fun g' h1 h2 => h g' h1 (by omega))]
theorem Wf_setO {S : SS} {n m t : Nat} {x : Int32} {i : Nat} (hw : Wf S n m t) (hi : i ≤ 8) : Wf (setO S x i) n m t :=
  hw.of (setO_o i (fun g _ _ => by omega)) (setO_o i (fun g _ _ => by omega)) (setO_o i (fun g _ _ => by omega)) (fun c hc => setO_o i (fun g _ _ => by omega)) (fun f hf => setO_o i (fun g _ _ => by omega))
def Tu (S : SS) (t : Nat) : Prop := (t = 0 → S 3 = 0 ∧ S 4 = 0) ∧ (0 < t → ∃ on gone h, on < t ∧ S 3 = nI on ∧ S 4 = nI gone ∧ S (153 + 2 * on) = nI h ∧ gone < h ∧ h ≤ 20) ∧ ∀ i, i < t → ∃ h, S (153 + 2 * i) = nI h ∧ 1 ≤ h ∧ h ≤ 20
theorem Tu.of {S S' : SS} {t : Nat} (h : Tu S t) (h3 : S' 3 = S 3) (h4 : S' 4 = S 4) (hh : ∀ i, i < t → S' (153 + 2 * i) = S (153 + 2 * i)) : Tu S' t := by
  obtain ⟨a, b, c⟩ := h
  refine ⟨fun e => by rw [h3, h4]; exact a e, fun e => ?_, fun i hi => ?_⟩
  · obtain ⟨on, gone, h, d1, d2, d3, d4, d5⟩ := b e
    exact ⟨on, gone, h, d1, by rw [h3, d2], by rw [h4, d3], by rw [hh on d1, d4], d5⟩
  · obtain ⟨h, e⟩ := c i hi
    exact ⟨h, by rw [hh i hi]; exact e⟩
theorem Tu_flow {S : SS} {n m t : Nat} {b : Int32} (hw : Wf S n m t) (h : Tu S t) : Tu (flowF S n m b) t := by
  have h8 := hw.2.2.2.1.2
  have hm := hw.2.2.2.2.1
  exact h.of (flowF_st h8 (still_lo (by omega)) (fun f _ => by omega)) (flowF_st h8 (still_lo (by omega)) (fun f _ => by omega)) (fun i _ => flowF_hi h8 hm (by omega))
theorem Tu_setO {S : SS} {t : Nat} {x : Int32} {i : Nat} (hi : i ≤ 8) (h : Tu S t) : Tu (setO S x i) t :=
  h.of (setO_o i (fun g _ _ => by omega)) (setO_o i (fun g _ _ => by omega)) (fun j _ => setO_o i (fun g _ _ => by omega))
theorem mod_on : ∀ t, t ≤ 8 → ∀ on, on < t → (nI on + 1) - (nI on + 1) / nI t * nI t = nI (if on + 1 < t then on + 1 else 0) := by decide +kernel
def r1a (S : SS) (n : Nat) : SS := if S 2 ≤ 0 then S else if S 4 = 0 then setO S (S (152 + 2 * ix (S 3))) n else S
def goF (S : SS) : SS := if S 2 ≤ 0 then S else if S 4 + 1 = S (153 + 2 * ix (S 3)) then upd (upd (upd S 4 (S 4 + 1)) 3 (nI (if ix (S 3) + 1 < ix (S 2) then ix (S 3) + 1 else 0))) 4 0 else upd S 4 (S 4 + 1)
def r1F (S : SS) (n m : Nat) (b : Int32) : SS × Int32 := (goF (flowF (r1a S n) n m b), flowF (r1a S n) n m b 7 - r1a S n 7)
theorem Wf_r1a {S : SS} {n m t : Nat} (hw : Wf S n m t) : Wf (r1a S n) n m t := by
  unfold r1a
  split
  · exact hw
  · split
    · exact Wf_setO hw hw.2.2.2.1.2
    · exact hw
theorem Tu_r1a {S : SS} {n m t : Nat} (hw : Wf S n m t) (h : Tu S t) : Tu (r1a S n) t := by
  unfold r1a
  split
  · exact h
  · split
    · exact Tu_setO hw.2.2.2.1.2 h
    · exact h
theorem goF_o {S : SS} {k : Nat} (h3 : k ≠ 3) (h4 : k ≠ 4) : goF S k = S k := by
  unfold goF
  split
  · rfl
  · split
    · rw [upd_o h4, upd_o h3, upd_o h4]
    · rw [upd_o h4]
theorem Wf_goF {S : SS} {n m t : Nat} (hw : Wf S n m t) : Wf (goF S) n m t :=
  hw.of (goF_o (by omega) (by omega)) (goF_o (by omega) (by omega)) (goF_o (by omega) (by omega)) (fun c hc => goF_o (by omega) (by omega)) (fun f hf => goF_o (by omega) (by omega))
theorem Tu_goF {S : SS} {n m t : Nat} (hw : Wf S n m t) (h : Tu S t) : Tu (goF S) t := by
  obtain ⟨a, b, c⟩ := h
  have w2 := hw.2.2.1
  have w6 := hw.2.2.2.2.2.1
  unfold goF
  by_cases h0 : t = 0
  · rw [if_pos (by rw [w2, h0]; decide)]
    exact ⟨a, b, c⟩
  · have hp : ¬ S 2 ≤ 0 := by rw [w2]; exact nI_ge (show 0 < t by omega) (by omega)
    rw [if_neg hp]
    obtain ⟨on, gone, h, d1, d2, d3, d4, d5, d6⟩ := b (by omega)
    rw [d2, ixn (by omega), d3, d4, w2, ixn (by omega), nI_1]
    by_cases he : gone + 1 = h
    · rw [if_pos (by rw [he])]
      refine ⟨fun e => absurd e h0, fun _ => ?_, fun i hi => ?_⟩
      · have hon : (if on + 1 < t then on + 1 else 0) < t := by split <;> omega
        obtain ⟨h', g1, g2, g3⟩ := c _ hon
        exact ⟨_, 0, h', hon, by rw [upd_o (by omega), upd_s], by rw [upd_s]; rfl, by rw [upd_o (by omega), upd_o (by omega), upd_o (by omega), g1], by omega, g3⟩
      · rw [upd_o (by omega), upd_o (by omega), upd_o (by omega)]
        exact c i hi
    · rw [if_neg (by intro z; exact he (nI_inj (by omega) (by omega) z))]
      refine ⟨fun e => absurd e h0, fun _ => ⟨on, gone + 1, h, d1, by rw [upd_o (by omega), d2], by rw [upd_s], by rw [upd_o (by omega), d4], by omega, d6⟩, fun i hi => ?_⟩
      rw [upd_o (by omega)]
      exact c i hi
theorem Wf_r1 {S : SS} {n m t : Nat} {b : Int32} (hw : Wf S n m t) : Wf (r1F S n m b).1 n m t := Wf_goF (Wf_flow (Wf_r1a hw))
theorem Tu_r1 {S : SS} {n m t : Nat} {b : Int32} (hw : Wf S n m t) (h : Tu S t) : Tu (r1F S n m b).1 t := Tu_goF (Wf_flow (Wf_r1a hw)) (Tu_flow (Wf_r1a hw) (Tu_r1a hw h))
theorem ix_tu {i : Nat} (hi : i < 8) : ix ((152 : Int32) + ((2 : Int32) * nI i)) = 152 + 2 * i ∧ vp_in ((152 : Int32) + ((2 : Int32) * nI i)) 168 ∧ ix (((152 : Int32) + ((2 : Int32) * nI i)) + 1) = 153 + 2 * i ∧ vp_in (((152 : Int32) + ((2 : Int32) * nI i)) + 1) 168 := by
  have e : (152 : Int32) + ((2 : Int32) * nI i) = nI (152 + 2 * i) := by
    show nI 152 + nI 2 * nI i = _
    rw [nI_mul, nI_add]
  have e1 : nI (152 + 2 * i) + 1 = nI (153 + 2 * i) := by rw [nI_1]; congr 1; omega
  rw [e, e1]
  exact ⟨ixn (by omega), vp_in_nI (by omega) (by omega), ixn (by omega), vp_in_nI (by omega) (by omega)⟩
theorem sp7_runsOne {Post : Mm → Int32 → Prop} {M : Mm} {n m t : Nat} {b : Int32} (hw : Wf (M 144) n m t) (ht : Tu (M 144) t) (h : Post (st M (r1F (M 144) n m b).1) (r1F (M 144) n m b).2) : wX7_runsOne Post M 143 b := by
  have hwa := Wf_r1a hw
  have hta := Tu_r1a hw ht
  have w6 := hw.2.2.2.2.2.1
  have main : bX7_runsOne_39 Post (st M (r1a (M 144) n)) 143 b := by
    refine sp7_flows (n := n) (m := m) (t := t) (by rw [st_s]; exact hwa) ?_
    rw [st_s (M := M) (S := r1a (M 144) n), st_st]
    have hwf : Wf (flowF (r1a (M 144) n) n m b) n m t := Wf_flow hwa
    have htf : Tu (flowF (r1a (M 144) n) n m b) t := Tu_flow hwa hta
    have h' : Post (st M (goF (flowF (r1a (M 144) n) n m b))) (flowF (r1a (M 144) n) n m b 7 - r1a (M 144) n 7) := h
    revert h'
    generalize flowF (r1a (M 144) n) n m b 7 - r1a (M 144) n 7 = r
    revert hwf htf
    generalize flowF (r1a (M 144) n) n m b = F
    intro hwf htf h'
    refine ⟨fun d => ?_, fun d M8 e8 => ?_⟩
    · have d' : F 2 ≤ 0 := by have d2 : st M F 144 2 ≤ 0 := d; rw [st_s] at d2; exact d2
      unfold goF at h'
      rw [if_pos d'] at h'
      exact h'
    · have d' : ¬ F 2 ≤ 0 := by have d2 : ¬ st M F 144 2 ≤ 0 := d; rw [st_s] at d2; exact d2
      have ht0 : 0 < t := by
        rcases Nat.eq_zero_or_pos t with z | z
        · exact absurd (show F 2 ≤ 0 by rw [hwf.2.2.1, z]; decide) d'
        · exact z
      have e : M8 = st M (upd F 4 (F 4 + 1)) := by
        rw [e8]
        show mu (st M F) 144 4 (st M F 144 4 + 1) = _
        rw [mu_st, st_s]
      subst e
      obtain ⟨on, gone, hh, d1, d2, d3, d4, d5, d6⟩ := htf.2.1 ht0
      have e3 : st M (upd F 4 (F 4 + 1)) (143 + 1) 3 = nI on := by
        show st M _ 144 3 = _
        rw [st_s, upd_o (by omega), d2]
      rw [e3]
      obtain ⟨i1, i2, i3, i4⟩ := ix_tu (i := on) (by omega)
      rw [i3]
      have e2 : st M (upd F 4 (F 4 + 1)) (143 + 1) 2 = nI t := by
        show st M _ 144 2 = _
        rw [st_s, upd_o (by omega), hwf.2.2.1]
      have e4 : st M (upd F 4 (F 4 + 1)) (143 + 1) 4 = F 4 + 1 := by
        show st M _ 144 4 = _
        rw [st_s, upd_s]
      have e5 : st M (upd F 4 (F 4 + 1)) (143 + 1) (153 + 2 * on) = F (153 + 2 * on) := by
        show st M _ 144 _ = _
        rw [st_s, upd_o (by omega)]
      rw [e2, e4, e5]
      unfold goF at h'
      rw [if_neg d', d2, ixn (by omega), hwf.2.2.1, ixn (by omega)] at h'
      refine ⟨i4, fun c => ?_, fun c => ⟨nI_ne0 ht0 (by omega), fun M10 e10 M11 e11 => ?_⟩⟩
      · rw [if_neg c] at h'
        exact h'
      · rw [if_pos c] at h'
        have e : M11 = st M (upd (upd (upd F 4 (F 4 + 1)) 3 (nI (if on + 1 < t then on + 1 else 0))) 4 0) := by
          rw [e11, e10, mod_on t (by omega) on d1]
          show mu (mu (st M _) 144 3 _) 144 4 _ = _
          rw [mu_st, mu_st]
        rw [e]
        exact h'
  refine ⟨fun d => ?_, fun d => ⟨fun c => ?_, fun c => ?_⟩⟩
  · have e : r1a (M 144) n = M 144 := by unfold r1a; rw [if_pos d]
    rw [e, st_self] at main
    exact main
  · have e : r1a (M 144) n = M 144 := by unfold r1a; rw [if_neg d, if_neg c]
    rw [e, st_self] at main
    exact main
  · have d' : ¬ M 144 2 ≤ 0 := d
    have ht0 : 0 < t := by
      rcases Nat.eq_zero_or_pos t with z | z
      · exact absurd (show M 144 2 ≤ 0 by rw [hw.2.2.1, z]; decide) d'
      · exact z
    obtain ⟨on, gone, hh, d1, d2, d3, d4, d5, d6⟩ := ht.2.1 ht0
    obtain ⟨i1, i2, i3, i4⟩ := ix_tu (i := on) (by omega)
    have e3 : M (143 + 1) 3 = nI on := d2
    rw [e3, i1]
    refine ⟨i2, sp7_sets hw.1 hw.2.2.2.1.1 hw.2.2.2.1.2 ?_⟩
    have e : r1a (M 144) n = setO (M 144) (M 144 (152 + 2 * on)) n := by
      unfold r1a
      rw [if_neg d', if_pos c, d2, ixn (by omega)]
    rw [e] at main
    exact main
def rsF (S : SS) (n m : Nat) (b : Int32) : Nat → SS × Int32
  | 0 => (S, 0)
  | k + 1 => ((r1F (rsF S n m b k).1 n m b).1, (rsF S n m b k).2 + (r1F (rsF S n m b k).1 n m b).2)
theorem rs_inv {S : SS} {n m t : Nat} {b : Int32} (hw : Wf S n m t) (ht : Tu S t) : ∀ k, Wf (rsF S n m b k).1 n m t ∧ Tu (rsF S n m b k).1 t := by
  intro k
  induction k with
  | zero => exact ⟨hw, ht⟩
  | succ k ih => exact ⟨Wf_r1 ih.1, Tu_r1 ih.1 ih.2⟩
def goesF (S : SS) (n m : Nat) (b : Int32) : SS × Int32 := if inr 0 1000 b = true then (if S 5 = 20000 then (S, -1000003) else (flowF S n m b, flowF S n m b 7 - S 7)) else (S, -1000001)
theorem sp7_goes {Post : Mm → Int32 → Prop} {M : Mm} {n m t : Nat} {b : Int32} (hw : Wf (M 144) n m t) (h : Post (st M (goesF (M 144) n m b).1) (goesF (M 144) n m b).2) : wX7_goes Post M 143 b := by
  refine sp7_inr (a := 0) (b := 1000) (by decide) (by decide) ⟨fun d => ⟨fun c => sp7_flows hw ?_, fun c => ?_⟩, fun d => ?_⟩
  · have e : inr 0 1000 b = true := b2i_1.mp ((b2i_01 _).resolve_left d)
    have c' : ¬ M 144 5 = 20000 := c
    unfold goesF at h
    rw [if_pos e, if_neg c'] at h
    exact h
  · have e : inr 0 1000 b = true := b2i_1.mp ((b2i_01 _).resolve_left d)
    have c' : M 144 5 = 20000 := c
    unfold goesF at h
    rw [if_pos e, if_pos c', st_self] at h
    exact h
  · have e : inr 0 1000 b = false := b2i_0.mp d
    unfold goesF at h
    rw [if_neg (by rw [e]; decide), st_self] at h
    exact h
def runsF (S : SS) (n m most : Nat) (x b : Int32) : SS × Int32 := if inr 1 (most + 1) x = true ∧ inr 0 1000 b = true then (if S 5 + x ≤ 20000 then rsF S n m b (ix x) else (S, -1000003)) else (S, -1000001)
theorem sp7_runs {Post : Mm → Int32 → Prop} {M : Mm} {n m t most : Nat} {x y b : Int32} (hw : Wf (M 144) n m t) (ht : Tu (M 144) t) (hy : y = nI most) (hm : most ≤ 100) (h : Post (st M (runsF (M 144) n m most x b).1) (runsF (M 144) n m most x b).2) : wX7_runs Post M 143 x y b := by
  subst hy
  refine sp7_inr (a := 1) (b := most + 1) (by decide) (by rw [nI_toInt (by omega)]; omega) ⟨fun d => ?_, fun d => sp7_inr (a := 0) (b := 1000) (by decide) (by decide) ⟨fun d2 => ⟨fun c => ?_, fun c => ?_⟩, fun d2 => ?_⟩⟩
  · have e := b2i_0.mp d
    unfold runsF at h
    rw [if_neg (by rw [e]; rintro ⟨z, -⟩; cases z), st_self] at h
    exact h
  · have e := b2i_1.mp ((b2i_01 _).resolve_left d)
    have e2 := b2i_1.mp ((b2i_01 _).resolve_left d2)
    have c' : M 144 5 + x ≤ 20000 := c
    unfold runsF at h
    rw [if_pos ⟨e, e2⟩, if_pos c'] at h
    obtain ⟨k, k1, k2, ek⟩ := inr_of e
    subst ek
    rw [ixn (by omega)] at h
    show ∃ q : Nat, lX7_runs_46 Post q M 143 (nI k) b 0 (nI 0)
    have hl := pk_loop (σ := SS × Int32) (fun q i s => lX7_runs_46 Post q (st M s.1) 143 (nI k) b s.2 (nI i)) (fun i s => s = rsF (M 144) n m b i) k 0 (M 144, 0) (by omega) rfl ?_ ?_
    · obtain ⟨q, hq⟩ := hl
      refine ⟨q, ?_⟩
      have e : lX7_runs_46 Post q (st M (M 144)) 143 (nI k) b 0 (nI 0) := hq
      rw [st_self] at e
      exact e
    · intro q s e
      subst e
      exact ⟨fun _ => h, fun z => absurd (nI_le (Nat.le_refl _) (by omega)) z⟩
    · intro q i s hi e ih
      subst e
      obtain ⟨v1, v2⟩ := rs_inv (b := b) hw ht i
      refine ⟨fun z => absurd z (nI_ge hi (by omega)), fun _ => sp7_runsOne (n := n) (m := m) (t := t) (by rw [st_s]; exact v1) (by rw [st_s]; exact v2) (fun x4 e4 x5 e5 => ?_)⟩
      rw [e4, e5, nI_1, st_s, st_st]
      exact ih _ rfl
  · have e := b2i_1.mp ((b2i_01 _).resolve_left d)
    have e2 := b2i_1.mp ((b2i_01 _).resolve_left d2)
    have c' : ¬ M 144 5 + x ≤ 20000 := c
    unfold runsF at h
    rw [if_pos ⟨e, e2⟩, if_neg c', st_self] at h
    exact h
  · have e2 := b2i_0.mp d2
    unfold runsF at h
    rw [if_neg (by rw [e2]; rintro ⟨-, z⟩; cases z), st_self] at h
    exact h
/-- what an acting call of the reference leaves -/
def Act (M M' : Mm) (s : Nat) (S' : SS) (r : Int32) : Prop :=
  (∀ a, a ≠ 143 → a ≠ 144 → a ≠ 145 → a ≠ 146 → M' a = M a) ∧ M' 144 = S' ∧ (r ≤ -1000001 → M' 143 = M 143 ∧ M' 145 = M 145) ∧
  (¬ r ≤ -1000001 → M' 143 = upd (M 143) 4 (nI (min s 3 + 1)) ∧ ∃ B : SS, (∀ j, j < 168 → B j = M 144 j) ∧ M' 145 = hi1 (M 145) B s)
theorem Act_none {M : Mm} {s : Nat} {r : Int32} (h : r ≤ -1000001) : Act M M s (M 144) r :=
  ⟨fun _ _ _ _ _ => rfl, rfl, fun _ => ⟨rfl, rfl⟩, fun z => absurd h z⟩
theorem mcpo {M : Mm} {js jd n a : Nat} (h : a ≠ jd) : mcp M js jd n a = M a := by simp [mcp, h]
theorem mcps {M : Mm} {js jd n i : Nat} (h : i < n) : mcp M js jd n jd i = M js i := by simp [mcp, h]
theorem sp7_act {Post : Mm → Int32 → Prop} {M : Mm} {s : Nat} {S' : SS} {r : Int32} (hs : M 143 4 = nI s) (h4 : s ≤ 4) (h : ∀ M', Act M M' s S' r → Post M' r) : wX7_acted Post (st (mcp M 144 146 168) S') 143 r := by
  refine sp7_acted (s := s) (by rw [st_o (by omega), mcpo (by omega)]; exact hs) h4 (fun hr => h _ ⟨fun a h3 h4 h5 h6 => ?_, st_s, fun _ => ⟨?_, ?_⟩, fun z => absurd hr z⟩) (fun hr => h _ ⟨fun a h3 h4 h5 h6 => ?_, ?_, fun z => absurd z hr, fun _ => ⟨?_, mcp M 144 146 168 146, fun j hj => mcps hj, ?_⟩⟩)
  · rw [st_o h4, mcpo h6]
  · rw [st_o (by omega), mcpo (by omega)]
  · rw [st_o (by omega), mcpo (by omega)]
  · unfold acM
    rw [sr_o h3, sr_o h5, st_o h4, mcpo h6]
  · unfold acM
    rw [sr_o (by omega), sr_o (by omega), st_s]
  · unfold acM
    rw [sr_s, st_o (by omega), mcpo (by omega)]
  · unfold acM
    rw [sr_o (by omega), sr_s, st_o (by omega), st_o (by omega), mcpo (by omega)]
theorem sp7_hour {Post : Mm → Int32 → Prop} {M : Mm} {n m t s : Nat} {b : Int32} (hw : Wf (M 144) n m t) (hs : M 143 4 = nI s) (h4 : s ≤ 4) (h : ∀ M', Act M M' s (goesF (M 144) n m b).1 (goesF (M 144) n m b).2 → Post M' (goesF (M 144) n m b).2) : wX7_hour Post M 143 b := by
  have e : mcp M 144 146 168 144 = M 144 := mcpo (by omega)
  refine sp7_keeps (sp7_goes (n := n) (m := m) (t := t) (by rw [e]; exact hw) ?_)
  rw [e]
  exact sp7_act hs h4 h
theorem sp7_run {Post : Mm → Int32 → Prop} {M : Mm} {n m t s : Nat} {x b : Int32} (hw : Wf (M 144) n m t) (ht : Tu (M 144) t) (hs : M 143 4 = nI s) (h4 : s ≤ 4) (h : ∀ M', Act M M' s (runsF (M 144) n m 100 x b).1 (runsF (M 144) n m 100 x b).2 → Post M' (runsF (M 144) n m 100 x b).2) : wX7_run Post M 143 x b := by
  have e : mcp M 144 146 168 144 = M 144 := mcpo (by omega)
  refine sp7_keeps (sp7_runs (n := n) (m := m) (t := t) (most := 100) (by rw [e]; exact hw) (by rw [e]; exact ht) rfl (by omega) ?_)
  rw [e]
  exact sp7_act hs h4 h
