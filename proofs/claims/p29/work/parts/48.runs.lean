/-! the class: gates set, turns, runs -/
def VO (S : SS) (n : Nat) : Prop := opn S 0 = false ∧ ∀ g, g < n → ca S g 4 = 0 ∨ ca S g 4 = 1
def TG (S : SS) (n tt : Nat) : Prop := ∀ i, i < tt → agF n (S (152 + 2 * i)) = true
theorem setO_s {S : SS} {x : Int32} {g : Nat} (h1 : 1 ≤ g) : ∀ i, g < i → setO S x i (10 + 9 * g + 4) = b2i (bt x g) := by
  intro i
  induction i with
  | zero => intro h; omega
  | succ k ih =>
    intro h
    unfold setO
    rw [if_neg (by omega)]
    by_cases e : g = k
    · subst e; rw [upd_s]
    · rw [upd_o (by omega), ih (by omega)]
theorem TR_open {M : Mm} {t : Nat} {S : SS} {n m tt : Nat} {x : Int32} (h8 : n ≤ 8) (h : TR M t S n m tt) (hx : agF n x = true) (h0 : opn S 0 = false) : TR (mu M (t + 1) 1 x) t (setO S x n) n m tt := by
  obtain ⟨a, b, c, d, e, f, g, x1, y⟩ := h
  have ne : ∀ k, k ≠ 1 → mu M (t + 1) 1 x (t + k) = M (t + k) := fun k hk => mu_row (by omega)
  have hx0 : bt x 0 = false := by
    cases hh : bt x 0
    · rfl
    · have := ag_of hx 0 (by omega) hh; omega
  refine ⟨fun k j i hm => ?_, by rw [mu_el (by omega), b], ?_, by rw [ne 10 (by omega), d], ?_, by rw [ne 18 (by omega), f], fun i hi => ?_, fun i h1 h2 => ?_, fun i h1 h2 => ?_⟩
  · rw [ne k (by unfold mp at hm; omega), setO_o n (fun g _ _ => by unfold mp at hm; omega)]
    exact a k j i hm
  · rw [mu_at]
    refine ofB_of (by omega) (fun k hk => ?_)
    by_cases hkn : k < n
    · rw [decide_eq_true hkn, Bool.true_and]
      by_cases hk0 : k = 0
      · subst hk0
        rw [hx0]
        have : opn (setO S x n) 0 = opn S 0 := by unfold opn ca; rw [setO_o n (fun g _ _ => by omega)]
        rw [this, h0]
      · have : ca (setO S x n) k 4 = b2i (bt x k) := setO_s (by omega) n hkn
        unfold opn
        rw [this]
        cases bt x k <;> rfl
    · rw [decide_eq_false hkn, Bool.false_and]
      cases hh : bt x k
      · rfl
      · have := ag_of hx k hk hh; omega
  · rw [ne 10 (by omega), e]
    refine ofB_congr m (fun g hg => ?_)
    unfold cls fi
    rw [setO_o n (fun g _ _ => by omega)]
  · rw [ne 17 (by omega), ord_congr (S := S) (S' := setO S x n) (fun f => setO_o n (fun g _ _ => by omega))]
    exact g i hi
  · rw [ne 6 (by omega), ne 7 (by omega), ne 8 (by omega), ne 9 (by omega)]
    exact x1 i h1 h2
  · rw [ne 15 (by omega), ne 16 (by omega)]
    exact y i h1 h2
def V0 (S : SS) (n m tt : Nat) : Prop := Wf S n m tt ∧ Tu S tt ∧ VF S m ∧ VC S n ∧ VO S n ∧ TG S n tt
theorem V0_flow {S : SS} {n m tt : Nat} {b : Int32} (h : V0 S n m tt) (hb : 0 ≤ b.toInt) : V0 (flowF S n m b) n m tt := by
  obtain ⟨h1, h2, h3, h4, ⟨h5, h5'⟩, h6⟩ := h
  have h8 := h1.2.2.2.1.2
  have hn := h1.2.2.2.1.1
  have h10 := h1.2.2.2.2.1
  obtain ⟨a, c⟩ := flow_V h3 h4 h8 hn hb
  have e4 : ∀ g, g < 8 → ca (flowF S n m b) g 4 = ca S g 4 := fun g hg => flowF_st h8 (still_ca hg (by omega)) (fun f _ => by omega)
  refine ⟨Wf_flow h1, Tu_flow h1 h2, a, c, ⟨?_, fun g hg => ?_⟩, fun i hi => ?_⟩
  · unfold opn; rw [e4 0 (by omega)]; exact h5
  · rw [e4 g (by omega)]; exact h5' g hg
  · rw [flowF_hi h8 h10 (by omega)]; exact h6 i hi
theorem V0_open {S : SS} {n m tt : Nat} {x : Int32} (h : V0 S n m tt) : V0 (setO S x n) n m tt := by
  obtain ⟨h1, h2, h3, h4, ⟨h5, h5'⟩, h6⟩ := h
  have h8 := h1.2.2.2.1.2
  refine ⟨Wf_setO h1 h8, Tu_setO h8 h2, VF_of h3 (fun f w _ _ => setO_o n (fun g _ _ => by omega)), ?_, ⟨?_, fun g hg => ?_⟩, fun i hi => ?_⟩
  · intro c hc
    have o : ∀ w, w < 9 → w ≠ 4 → ca (setO S x n) c w = ca S c w := fun w hw h4 => setO_o n (fun g _ _ => by omega)
    rw [o 2 (by omega) (by omega), o 3 (by omega) (by omega), o 6 (by omega) (by omega)]
    exact h4 c hc
  · unfold opn ca; rw [setO_o n (fun g _ _ => by omega)]; exact h5
  · by_cases e : g = 0
    · subst e
      have : ca (setO S x n) 0 4 = ca S 0 4 := setO_o n (fun g _ _ => by omega)
      rw [this]; exact h5' 0 hg
    · have : ca (setO S x n) g 4 = b2i (bt x g) := setO_s (by omega) n hg
      rw [this]; exact b2i_01 _
  · rw [setO_o n (fun g _ _ => by omega)]; exact h6 i hi
theorem V0_go {S : SS} {n m tt : Nat} (h : V0 S n m tt) : V0 (goF S) n m tt := by
  obtain ⟨h1, h2, h3, h4, ⟨h5, h5'⟩, h6⟩ := h
  refine ⟨Wf_goF h1, Tu_goF h1 h2, VF_of h3 (fun f w _ _ => goF_o (by omega) (by omega)), VC_of h4 (fun c w _ _ => goF_o (by omega) (by omega)), ⟨?_, fun g hg => ?_⟩, fun i hi => ?_⟩
  · unfold opn ca; rw [goF_o (by omega) (by omega)]; exact h5
  · have : ca (goF S) g 4 = ca S g 4 := goF_o (by omega) (by omega)
    rw [this]; exact h5' g hg
  · rw [goF_o (by omega) (by omega)]; exact h6 i hi
theorem V0_r1a {S : SS} {n m tt : Nat} (h : V0 S n m tt) : V0 (r1a S n) n m tt := by
  unfold r1a
  split
  · exact h
  · split
    · exact V0_open h
    · exact h
theorem V0_r1 {S : SS} {n m tt : Nat} {b : Int32} (h : V0 S n m tt) (hb : 0 ≤ b.toInt) : V0 (r1F S n m b).1 n m tt := V0_go (V0_flow (V0_r1a h) hb)
theorem V0_rs {S : SS} {n m tt : Nat} {b : Int32} (h : V0 S n m tt) (hb : 0 ≤ b.toInt) : ∀ k, V0 (rsF S n m b k).1 n m tt := by
  intro k
  induction k with
  | zero => exact h
  | succ k ih => exact V0_r1 ih hb
theorem rs_sum {S : SS} {n m tt : Nat} {b : Int32} (hw : Wf S n m tt) (ht : Tu S tt) : ∀ k, (rsF S n m b k).2 = (rsF S n m b k).1 7 - S 7 := by
  intro k
  induction k with
  | zero => exact (Int32.sub_self _).symm
  | succ k ih =>
    show (rsF S n m b k).2 + (flowF (r1a (rsF S n m b k).1 n) n m b 7 - r1a (rsF S n m b k).1 n 7) = goF (flowF (r1a (rsF S n m b k).1 n) n m b) 7 - S 7
    have h8 := hw.2.2.2.1.2
    have e1 : r1a (rsF S n m b k).1 n 7 = (rsF S n m b k).1 7 := by
      unfold r1a
      split
      · rfl
      · split
        · exact setO_o n (fun g _ _ => by omega)
        · rfl
    rw [goF_o (by omega) (by omega), e1, ih]
    generalize (rsF S n m b k).1 7 = p
    generalize flowF _ n m b 7 = q
    rw [Int32.sub_eq_add_neg, Int32.sub_eq_add_neg, Int32.sub_eq_add_neg, Int32.add_comm (p + -S 7) (q + -p), Int32.add_assoc, ← Int32.add_assoc (-p) p, Int32.add_left_neg, Int32.zero_add]
theorem sp5_goOn {Post : Mm → Prop} {M : Mm} {t : Nat} {S : SS} {n m tt : Nat} (h : TR M t S n m tt) (hw : Wf S n m tt) (ht : Tu S tt)
    (hP : ∀ M', TR M' t (goF S) n m tt → (∀ a, a ≠ t + 18 → M' a = M a) → Post M') : wX5_goOn Post M (t + 18) := by
  obtain ⟨w0, w1, w2, ⟨w3, w4⟩, w5, w6, w7, w8⟩ := hw
  unfold goF at hP
  rw [w2] at hP
  unfold wX5_goOn
  rw [h.2.2.2.2.2.1]
  have egone : M (t + 18) 2 = S 4 := h.rd (k := 18) (j := 2) (i := 4) (by unfold mp; omega)
  refine ⟨fun d M2 e2 => ?_, fun d => ?_⟩
  · have ht0 : 0 < tt := Nat.pos_of_ne_zero (fun z => d (by rw [z]; rfl))
    rw [if_neg (by exact nI_nle ht0 (by omega))] at hP
    obtain ⟨on, gone, hh, d1, d2, d3, d4, d5, d6⟩ := ht.2.1 ht0
    rw [d2, ixn (by omega), d4, d3, ixn (by omega), nI_1] at hP
    rw [egone, d3, nI_1] at e2
    have hT2 : TR M2 t (upd S 4 (nI (gone + 1))) n m tt := by
      rw [e2]
      exact TR_upd w4 w5 h (k0 := 18) (j0 := 2) (i0 := 4) (by unfold mp; omega) (by omega)
    have eon : M2 (t + 18) 1 = nI on := by
      have := hT2.rd (k := 18) (j := 1) (i := 3) (by unfold mp; omega)
      rw [this, upd_o (by omega), d2]
    have eg : M2 (t + 18) 2 = nI (gone + 1) := by rw [e2, mu_at]
    have ehr : M2 (t + 18 + 2) on = nI hh := by
      have := hT2.rd (k := 20) (j := on) (i := 153 + 2 * on) (by unfold mp; omega)
      rw [upd_o (by omega), d4] at this
      exact this
    rw [eon, ixn (by omega), ehr, eg]
    refine ⟨vp_in_nI (by omega) (by omega), fun c => ?_, fun c M4 e4 => ?_⟩
    · have hlt : gone + 1 < hh := (nI_ltI (by omega) (by omega)).mp c
      rw [if_neg (fun z => by have := nI_inj (by omega) (by omega) z; omega)] at hP
      exact hP M2 hT2 (fun a ha => by rw [e2, mu_row ha])
    · have hge : gone + 1 = hh := by
        have : ¬ gone + 1 < hh := fun z => c (nI_lt z (by omega))
        omega
      rw [if_pos (by rw [hge])] at hP
      have hT4 : TR M4 t (upd (upd S 4 (nI (gone + 1))) 4 0) n m tt := by
        rw [e4]
        exact TR_upd w4 w5 hT2 (k0 := 18) (j0 := 2) (i0 := 4) (by unfold mp; omega) (by omega)
      have eon4 : M4 (t + 18) 1 = nI on := by rw [e4, mu_el (by omega), eon]
      have esz : M4 (t + 18) 0 = nI tt := hT4.2.2.2.2.2.1
      have comm : ∀ v : Int32, upd (upd (upd S 4 (nI (gone + 1))) 4 0) 3 v = upd (upd (upd S 4 (nI (gone + 1))) 3 v) 4 0 := by
        intro v
        funext j
        by_cases j3 : j = 3
        · subst j3; rw [upd_s, upd_o (by omega), upd_s]
        · rw [upd_o j3]
          by_cases j4 : j = 4
          · subst j4; rw [upd_s, upd_s]
          · rw [upd_o j4, upd_o j4, upd_o j4, upd_o j3, upd_o j4]
      rw [esz, eon4, nI_1]
      refine ⟨fun c2 M6 e6 => ?_, fun c2 M6 e6 => ?_⟩
      · have : ¬ on + 1 < tt := fun z => absurd c2 (nI_ge z (by omega))
        rw [if_neg this] at hP
        refine hP M6 ?_ (fun a ha => by rw [e6, mu_row ha, e4, mu_row ha, e2, mu_row ha])
        rw [← comm, e6]
        exact TR_upd w4 w5 hT4 (k0 := 18) (j0 := 1) (i0 := 3) (by unfold mp; omega) (by omega)
      · have : on + 1 < tt := Nat.lt_of_not_le (fun z => c2 (nI_le z (by omega)))
        rw [if_pos this] at hP
        refine hP M6 ?_ (fun a ha => by rw [e6, mu_row ha, e4, mu_row ha, e2, mu_row ha])
        rw [← comm, e6]
        exact TR_upd w4 w5 hT4 (k0 := 18) (j0 := 1) (i0 := 3) (by unfold mp; omega) (by omega)
  · have ht0 : tt = 0 := nI_inj (by omega) (by omega) d
    rw [if_pos (by rw [ht0]; decide)] at hP
    exact hP M h (fun _ _ => rfl)
theorem sp4_runHours {Post : Mm → Int32 → Prop} {M : Mm} {t : Nat} {S : SS} {n m tt k : Nat} {x b : Int32} (h : TR M t S n m tt) (hV : V0 S n m tt) (hx : x = nI k) (hk : k ≤ 100) (hb : 0 ≤ b.toInt)
    (hP : ∀ M', TR M' t (rsF S n m b k).1 n m tt → Fro M M' t → Post M' (rsF S n m b k).2) : wX4_runHours Post M t x b := by
  have hw := hV.1
  obtain ⟨w0, w1, w2, ⟨w3, w4⟩, w5, w6, w7, w8⟩ := hw
  subst hx
  intro x3 e3
  have e7 : M t 5 = S 7 := h.rd (k := 0) (j := 5) (i := 7) (by unfold mp; omega)
  rw [e7] at e3
  subst e3
  show ∃ q : Nat, lX4_runHours_8 Post q M t (nI k) b (S 7) (nI 0)
  refine pk_loop (fun q i (M' : Mm) => lX4_runHours_8 Post q M' t (nI k) b (S 7) (nI i)) (fun i M' => TR M' t (rsF S n m b i).1 n m tt ∧ Fro M M' t) k 0 M (Nat.zero_le _) ⟨h, fun _ _ => rfl⟩ ?_ ?_
  · rintro q M' ⟨hT, hfr⟩
    refine ⟨fun _ => ?_, fun z => absurd (nI_le (Nat.le_refl _) (by omega)) z⟩
    have e : M' t 5 = (rsF S n m b k).1 7 := hT.rd (k := 0) (j := 5) (i := 7) (by unfold mp; omega)
    rw [e, ← rs_sum hV.1 hV.2.1]
    exact hP M' hT hfr
  · rintro q i M' hi ⟨hT, hfr⟩ ih
    have hVi := V0_rs (b := b) hV hb i
    have es : (rsF S n m b (i + 1)).1 = goF (flowF (r1a (rsF S n m b i).1 n) n m b) := rfl
    rw [es] at ih
    revert hT hVi ih
    generalize (rsF S n m b i).1 = T
    intro hT ih hVi
    have hw2 := hVi.1.2.2.1
    have hVa := V0_r1a hVi
    have step : ∀ M6 : Mm, TR M6 t (r1a T n) n m tt → (∀ a, a ≠ t + 1 → M6 a = M' a) → wX4_passHour (fun M7 r8 => wX5_goOn (fun M9 => ∀ x4_11 : Int32, x4_11 = nI i + (1 : Int32) → (lX4_runHours_8 Post q M9 t (nI k) b (S 7) x4_11)) M7 (t + 18)) M6 t b := by
      intro M6 hT6 hfr6
      refine sp4_passHour hT6 hVa.1 hVa.2.2.1 hVa.2.2.2.1 hb (fun M7 hT7 hfr7 => sp5_goOn hT7 (Wf_flow hVa.1) (Tu_flow hVa.1 hVa.2.1) (fun M9 hT9 hfr9 x4 e4 => ?_))
      rw [e4, nI_1]
      exact ih M9 ⟨hT9, fun a ha => by rw [hfr9 a (by omega), hfr7 a ha, hfr6 a (by omega), hfr a ha]⟩
    have keep : ∀ r : Int32, r = M' (t + 1) 1 → r1a T n = T → ∀ M6 : Mm, M6 = mu M' (t + 1) 1 r → TR M6 t (r1a T n) n m tt ∧ (∀ a, a ≠ t + 1 → M6 a = M' a) := by
      intro r er e1 M6 e6
      have : M6 = M' := by rw [e6, er, mu_sr, upd_self rfl, sr_self]
      rw [this, e1]
      exact ⟨hT, fun _ _ => rfl⟩
    refine ⟨fun z => absurd z (nI_ge hi (by omega)), fun _ => ?_⟩
    unfold wX5_gatesInNextHour
    rw [hT.2.2.2.2.2.1]
    have egone : M' (t + 18) 2 = T 4 := hT.rd (k := 18) (j := 2) (i := 4) (by unfold mp; omega)
    have eon : M' (t + 18) 1 = T 3 := hT.rd (k := 18) (j := 1) (i := 3) (by unfold mp; omega)
    rw [egone, eon]
    refine ⟨fun d M6 e6 => ?_, fun d => ⟨fun c M6 e6 => ?_, fun c => ?_⟩⟩
    · obtain ⟨a1, a2⟩ := keep _ rfl (by unfold r1a; rw [if_pos (by rw [hw2]; exact d)]) M6 e6
      exact step M6 a1 a2
    · obtain ⟨a1, a2⟩ := keep _ rfl (by unfold r1a; rw [if_neg (by rw [hw2]; exact d), if_neg c]) M6 e6
      exact step M6 a1 a2
    · have ht0 : 0 < tt := by
        rcases Nat.eq_zero_or_pos tt with z | z
        · exact absurd (show nI tt ≤ 0 by rw [z]; decide) d
        · exact z
      obtain ⟨on, gone, hh, d1, d2, d3, d4, d5, d6⟩ := hVi.2.1.2.1 ht0
      have er : r1a T n = setO T (T (152 + 2 * on)) n := by
        unfold r1a
        rw [if_neg (by rw [hw2]; exact d), if_pos c, d2, ixn (by omega)]
      have eg : M' (t + 18 + 1) on = T (152 + 2 * on) := hT.rd (k := 19) (j := on) (i := 152 + 2 * on) (by unfold mp; omega)
      rw [d2, ixn (by omega), eg]
      refine ⟨vp_in_nI (by omega) (by omega), fun M6 e6 => step M6 ?_ (fun a ha => by rw [e6, mu_row ha])⟩
      rw [er, e6]
      exact TR_open w4 hT (hVi.2.2.2.2.2 on d1) hVi.2.2.2.2.1.1
