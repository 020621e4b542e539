/-! the class: what would be -/
theorem CQ_of {M M' M0 : Mm} {S : SS} {n m tt : Nat} (h : CQ M0 M S n m tt) (hf : Fro M M' 24) : CQ M0 M' S n m tt := by
  obtain ⟨a, b, c⟩ := CQ_fro h.1 hf
  exact ⟨a, fun r r1 r2 => by rw [b r r1 r2, h.2.1 r r1 r2], by rw [c, h.2.2]⟩
theorem Fro_tr {M M' M'' : Mm} {t : Nat} (h : Fro M M' t) (h' : Fro M' M'' t) : Fro M M'' t := fun a ha => by rw [h' a ha, h a ha]
theorem b_sw {a b : Nat} {x : Int32} : b2i (!inr a b x) = 0 ↔ inr a b x = true := by
  cases inr a b x <;> decide
theorem b_sw' {a b : Nat} {x : Int32} : ¬ b2i (!inr a b x) = 0 ↔ ¬ inr a b x = true := by
  rw [b_sw]
/-- the trial becomes the state of now, with a set of gates open -/
theorem sp_trial {Post : Mm → Prop} {M : Mm} {S : SS} {n m tt : Nat} {g : Int32} (hT : TR M 1 S n m tt) (hV : VV S n m tt) (hg : agF n g = true)
    (h : ∀ M', TR M' 24 (setO S g n) n m tt → Fro M M' 24 → Post M') : wX4_become (fun M1 => ∀ M3 : Mm, M3 = mu M1 ((0 + 24) + 1) 1 g → Post M3) M (0 + 24) (0 + 1) := by
  have hle := hV.1.le
  refine sp4_become (a := 24) (b := 1) hT hle.1.2 hle.2.1 hle.2.2 (by omega) (fun M1 hT1 hf M3 e3 => ?_)
  refine h M3 ?_ (fun a ha => ?_)
  · rw [e3]; exact TR_open hle.1.2 hT1 hg hV.1.2.2.2.2.1.1
  · rw [e3, mu_row (by omega), hf a ha]
theorem would_72 {Post : Mm → Int32 → Prop} {M : Mm} {S : SS} {n m tt : Nat} {g b y : Int32} (hT : TR M 1 S n m tt) (hV : VV S n m tt) (hg : agF n g = true) (hb : inr 0 1000 b = true) (hy : inr 0 3 y = true ∨ (10 ≤ y ∧ inr 0 m (y - 10) = true))
    (h : ∀ M', CQ M M' S n m tt → Post M' (wdF S n m g b y)) : bX6_would_72 Post M 0 g b y := by
  have hle := hV.1.le
  have hb0 : 0 ≤ b.toInt := by have := i_rg hb; omega
  have hVo := V0_open (x := g) hV.1
  unfold wdF at h
  rw [if_pos ⟨hg, hb, hy⟩] at h
  refine sp_trial hT hV hg (fun M2 hT2 hf2 => ?_)
  refine sp4_passHour (t := 24) hT2 hVo.1 hVo.2.2.1 hVo.2.2.2.1 hb0 (fun M3 hT3 hf3 => ?_)
  have hf := Fro_tr hf2 hf3
  have q := h M3 (CQ_fro hT hf)
  have r1 : M3 1 = M 1 := hf 1 (by omega)
  have r0 : ∀ j i, 3 ≤ j → j ≤ 7 → i = j + 2 → M3 (0 + 24) j = wdS S n m g b i ∧ M3 (0 + 1) j = S i := fun j i a b' c =>
    ⟨hT3.rd (k := 0) (j := j) (i := i) (Or.inl ⟨rfl, a, b', c⟩), by show M3 1 j = _; rw [r1]; exact hT.rd (k := 0) (j := j) (i := i) (Or.inl ⟨rfl, a, b', c⟩)⟩
  refine ⟨fun e => ?_, fun e0 => ⟨fun e => ?_, fun e1 => ⟨fun e => ?_, fun e2 => ?_⟩⟩⟩
  · subst e
    rw [if_neg (by decide)] at q
    obtain ⟨a, b'⟩ := r0 5 7 (by omega) (by omega) rfl
    rw [a, b']; exact q
  · subst e
    rw [if_neg (by decide)] at q
    obtain ⟨a, b'⟩ := r0 6 8 (by omega) (by omega) rfl
    rw [a, b']; exact q
  · subst e
    rw [if_neg (by decide)] at q
    obtain ⟨a, b'⟩ := r0 7 9 (by omega) (by omega) rfl
    rw [a, b']; exact q
  · rcases hy with z | ⟨z1, z2⟩
    · obtain ⟨v, -, hv, ev⟩ := inr_of z
      have : v = 0 ∨ v = 1 ∨ v = 2 := by omega
      rcases this with z | z | z <;> subst z
      · exact absurd ev e0
      · exact absurd ev e1
      · exact absurd ev e2
    · rw [if_pos z1] at q
      obtain ⟨f, -, hf', ef⟩ := inr_of z2
      rw [ef, ixn (by omega)] at q
      have vf : vp_in (nI f) 10 := vp_in_nI (by omega) (by omega)
      unfold wX6_gain
      rw [ef, ixn (by omega)]
      refine ⟨vf, vf, ?_⟩
      have a1 : M3 (0 + 24 + 10 + 5) f = wdS S n m g b (86 + 7 * f) := hT3.rd (k := 15) (j := f) (i := 86 + 7 * f) (Or.inr (Or.inr (Or.inr (Or.inl ⟨by omega, by omega, hf', by omega⟩))))
      have a2 : M3 (0 + 1 + 10 + 5) f = S (86 + 7 * f) := by
        rw [hf (0 + 1 + 10 + 5) (by omega)]
        exact hT.rd (k := 15) (j := f) (i := 86 + 7 * f) (Or.inr (Or.inr (Or.inr (Or.inl ⟨by omega, by omega, hf', by omega⟩))))
      rw [a1, a2]; exact q
theorem would_28 {Post : Mm → Int32 → Prop} {M : Mm} {S : SS} {n m tt : Nat} {g b y t0 : Int32} (hT : TR M 1 S n m tt) (hV : VV S n m tt) (ht : t0 = 0 ↔ ¬ (10 ≤ y ∧ inr 0 m (y - 10) = true))
    (h : ∀ M', CQ M M' S n m tt → Post M' (wdF S n m g b y)) : bX6_would_28 Post M 0 g b y t0 := by
  have hle := hV.1.le
  have bad : ¬ (agF n g = true ∧ inr 0 1000 b = true ∧ (inr 0 3 y = true ∨ (10 ≤ y ∧ inr 0 m (y - 10) = true))) → Post M (-1000001) := by
    intro z
    have := h M (CQ_self hT)
    unfold wdF at this
    rw [if_neg z] at this
    exact this
  refine sp0_areGates (t := 1) hT hle.1.1 hle.1.2 ⟨fun d => bad (fun z => by rw [z.1] at d; cases d), fun d => ?_⟩
  have g1 := b2i_1.mp ((b2i_01 _).resolve_left d)
  refine sp6_isOutside (a := 0) (b := 1000) (by decide) (by decide) ⟨fun d2 => bad (fun z => b_sw'.mp d2 z.2.1), fun d2 => ?_⟩
  have g2 := b_sw.mp d2
  refine sp6_isOutside (a := 0) (b := 3) (by decide) (by decide) ⟨fun d3 => would_72 hT hV g1 g2 (Or.inl (b_sw.mp d3)) h, fun d3 => ⟨fun d4 => would_72 hT hV g1 g2 (Or.inr (Classical.byContradiction (fun z => d4 (ht.mpr z)))) h, fun d4 => bad ?_⟩⟩
  rintro ⟨-, -, z | z⟩
  · exact b_sw'.mp d3 z
  · exact ht.mp d4 z
theorem sp6_would {Post : Mm → Int32 → Prop} {M : Mm} {S : SS} {n m tt : Nat} {g b y : Int32} (hT : TR M 1 S n m tt) (hV : VV S n m tt)
    (h : ∀ M', CQ M M' S n m tt → Post M' (wdF S n m g b y)) : wX6_would Post M 0 g b y := by
  have hle := hV.1.le
  refine ⟨fun d => would_28 hT hV ⟨fun _ z => absurd d (Int32.not_lt.mpr z.1), fun _ => rfl⟩ h, fun d => ?_⟩
  refine sp1_has (t := 1) hT hle.2.1 ⟨fun e => would_28 hT hV ⟨fun _ z => (by rw [z.2] at e; cases e), fun _ => rfl⟩ h, fun e => would_28 hT hV ⟨fun z => absurd z (by decide), fun z => absurd ⟨Int32.not_lt.mp d, b2i_1.mp ((b2i_01 _).resolve_left e)⟩ z⟩ h⟩
/-- who wants nothing gets nothing -/
theorem srv_wt {S : SS} {m c f : Nat} {w : Int32} (hf : wt S f = false) : fi (serveF S m c w).1 f 4 = fi S f 4 := by
  show upd _ 7 _ (82 + 7 * f + 4) = _
  rw [upd_o (by omega)]
  refine srv_l _ _ _ _ (fun g hg => ?_)
  have := (List.mem_filter.mp hg).2
  have hne : g ≠ f := by
    intro z
    subst z
    unfold el at this
    rw [hf] at this
    simp at this
  omega
theorem hC_wt {S : SS} {m n c f : Nat} (h8 : n ≤ 8) (hc8 : c < 8) (hf10 : f < 10) (hf : wt S f = false) : fi (hC S m n c) f 4 = fi S f 4 := by
  have e1 : wt (hCb S c) f = false := by
    have : wt (hCb S c) f = wt S f := by
      unfold wt fi
      rw [hCb_o (by omega) (by omega), hCb_o (by omega) (by omega)]
    rw [this]; exact hf
  have e2 : fi (hC S m n c) f 4 = fi (hCd S m n c).1 f 4 := by
    unfold hC hCe fi
    rw [upd_o (by omega), upd_o (by omega)]
  rw [e2]
  show fi (partF _ _ _ _ _).1 f 4 = _
  rw [partF_fi h8]
  show fi (serveF _ _ _ _).1 f 4 = _
  rw [srv_wt e1]
  exact hCb_o (by omega) (by omega)
theorem hL_wt {S : SS} {m n f : Nat} (h8 : n ≤ 8) (hf10 : f < 10) (hf : wt S f = false) : ∀ i, i ≤ n → wt (hL S m n i) f = false := by
  intro i
  induction i with
  | zero => intro _; exact hf
  | succ i ih =>
    intro hi
    have := ih (by omega)
    have e4 := hC_wt (m := m) h8 (c := i) (by omega) hf10 this
    have e1 : fi (hL S m n (i + 1)) f 1 = fi (hL S m n i) f 1 := by
      show fi (hC _ _ _ _) f 1 = _
      exact hC_o h8 (by omega) (still_fi hf10 (by omega) (by omega) (by omega))
    unfold wt
    rw [e1]
    show decide (fi (hC (hL S m n i) m n i) f 4 < _) = false
    rw [e4]
    exact this
theorem flow_wt {S : SS} {m n f : Nat} {b : Int32} (h8 : n ≤ 8) (hf10 : f < 10) (hf : wt S f = false) : wt (flowF S n m b) f = false := by
  have e0 : wt (f3 S n b) f = wt S f := by
    unfold wt fi
    rw [f3_o (by omega) (by omega) (by omega) (fun g _ => by omega), f3_o (by omega) (by omega) (by omega) (fun g _ => by omega)]
  have e1 := hL_wt (m := m) h8 hf10 (by rw [e0]; exact hf) n (Nat.le_refl _)
  have e2 : wt (flowF S n m b) f = wt (hL (f3 S n b) m n n) f := by
    unfold wt fi flowF
    rw [eC_o m (fun g _ => by omega), eC_o m (fun g _ => by omega)]
  rw [e2]; exact e1
theorem hgF_iff {S : SS} {x : Int32} : ∀ i, hgF S x i = true ↔ ∀ f, f < i → bt x f = true → wt S f = false := by
  intro i
  induction i with
  | zero => exact ⟨fun _ f hf => by omega, fun _ => rfl⟩
  | succ i ih =>
    unfold hgF
    rw [Bool.and_eq_true, ih]
    constructor
    · rintro ⟨a, b⟩ f hf hb
      by_cases e : f = i
      · subst e
        rw [hb] at b
        simpa using b
      · exact a f (by omega) hb
    · intro h
      refine ⟨fun f hf => h f (by omega), ?_⟩
      cases hb : bt x i
      · rfl
      · rw [h i (by omega) hb]; rfl
theorem hg_mono {S : SS} {n m : Nat} {x b : Int32} (h8 : n ≤ 8) (h10 : m ≤ 10) {i : Nat} (h : hgF (flN S n m b i) x m = true) : ∀ j, i ≤ j → hgF (flN S n m b j) x m = true := by
  intro j
  induction j with
  | zero => intro hj; rw [show i = 0 by omega] at h; exact h
  | succ j ih =>
    intro hj
    by_cases e : i = j + 1
    · rw [← e]; exact h
    · have := (hgF_iff m).mp (ih (by omega))
      exact (hgF_iff m).mpr (fun f hf hb => flow_wt h8 (by omega) (this f hf hb))
theorem want_hg {S : SS} {m : Nat} {x : Int32} (h10 : m ≤ 10) : ofB (wt S) m &&& x = 0 ↔ hgF S x m = true := by
  rw [hgF_iff]
  constructor
  · intro e f hf hb
    have : bt (ofB (wt S) m &&& x) f = false := by rw [e, b_0]
    rw [b_and, ofB_bt m (by omega) f (by omega), decide_eq_true hf, hb] at this
    simpa using this
  · intro h
    refine bt_eq0 (fun k hk => ?_)
    rw [b_and, ofB_bt m (by omega) k hk]
    by_cases e : k < m
    · rw [decide_eq_true e, Bool.true_and]
      cases hb : bt x k
      · rw [Bool.and_false]
      · rw [h k e hb]; rfl
    · rw [decide_eq_false e]; rfl
theorem serve_62 {Post : Mm → Int32 → Prop} {M : Mm} {S : SS} {n m tt : Nat} {x : Int32} {v : Bool} (hT : TR M 24 S n m tt) (h10 : m ≤ 10) (hv : hgF S x m = v) (h : Post M (b2i v)) : bX6_wouldServe_62 Post M 0 x := by
  subst hv
  refine sp1_wanting (t := 24) hT h10 ⟨fun d => ?_, fun d => ?_⟩
  · have : hgF S x m = false := by
      cases hh : hgF S x m
      · rfl
      · exact absurd ((want_hg h10).mpr hh) d
    rw [this] at h; exact h
  · rw [(want_hg h10).mp d] at h; exact h
theorem sp6_wouldServe {Post : Mm → Int32 → Prop} {M : Mm} {S : SS} {n m tt k g : Nat} {x b : Int32} (hT : TR M 1 S n m tt) (hV : VV S n m tt) (hg : agF n (nI g) = true) (hb : 0 ≤ b.toInt) (hk : k ≤ 5)
    (h : ∀ M', Fro M M' 24 → Post M' (b2i (lgS S n m x b k g))) : wX6_wouldServe Post M 0 x (nI g) b (nI k) := by
  have hle := hV.1.le
  have hVo := V0_open (x := nI g) hV.1
  have hVn : ∀ i, V0 (flN (setO S (nI g) n) n m b i) n m tt := by
    intro i
    induction i with
    | zero => exact hVo
    | succ i ih => exact V0_flow ih hb
  unfold lgS at h
  unfold wX6_wouldServe
  refine sp_trial (Post := fun M3 => ∃ n4 : Nat, lX6_wouldServe_25 Post n4 M3 0 x b (nI k) (0 : Int32)) hT hV hg (fun M3 hT3 hf3 => ?_)
  show ∃ q : Nat, lX6_wouldServe_25 Post q M3 0 x b (nI k) (nI 0)
  refine pk_loop (fun q i (M' : Mm) => lX6_wouldServe_25 Post q M' 0 x b (nI k) (nI i)) (fun i M' => TR M' 24 (flN (setO S (nI g) n) n m b i) n m tt ∧ Fro M M' 24) k 0 M3 (Nat.zero_le _) ⟨hT3, hf3⟩ ?_ ?_
  · rintro q M' ⟨hT', hf'⟩
    exact ⟨fun _ => serve_62 hT' hle.2.1 rfl (h M' hf'), fun z => absurd (nI_le (Nat.le_refl _) (by omega)) z⟩
  · rintro q i M' hi ⟨hT', hf'⟩ ih
    refine ⟨fun z => absurd z (nI_ge hi (by omega)), fun _ => sp1_wanting (t := 24) hT' hle.2.1 ⟨fun d => ?_, fun d => ?_⟩⟩
    · have e := (want_hg hle.2.1).mp d
      refine serve_62 hT' hle.2.1 e ?_
      have := h M' hf'
      rw [hg_mono hle.1.2 hle.2.1 e k (by omega)] at this
      exact this
    · refine sp4_passHour (t := 24) hT' (hVn i).1 (hVn i).2.2.1 (hVn i).2.2.2.1 hb (fun M2 hT2 hf2 x5 e5 => ?_)
      rw [e5, nI_1]
      exact ih M2 ⟨hT2, Fro_tr hf' hf2⟩
theorem af_bits : ∀ m, m ≤ 10 → ∀ k, k < 32 → bt (-((1 : Int32) <<< (nI m &&& 31))) k = decide (m ≤ k) := by decide +kernel
theorem af_in : ∀ m, m ≤ 10 → ∀ v, v < 2 ^ m → nI v &&& (-((1 : Int32) <<< (nI m &&& 31))) = 0 := by decide +kernel
theorem sp1_areFields {Post : Mm → Int32 → Prop} {M : Mm} {t : Nat} {S : SS} {n m tt : Nat} {x : Int32} (hT : TR M t S n m tt) (h10 : m ≤ 10) (h : Post M (b2i (inr 0 (2 ^ m) x))) : wX1_areFields Post M (t + 10) x := by
  have e0 : M (t + 10) 0 = nI m := hT.2.2.2.1
  unfold wX1_areFields
  rw [e0]
  refine ⟨fun d => ?_, fun d => ?_⟩
  · have : inr 0 (2 ^ m) x = false := by
      cases hh : inr 0 (2 ^ m) x
      · rfl
      · obtain ⟨v, -, hv, ev⟩ := inr_of hh
        subst ev
        exact absurd (af_in m h10 v hv) d
    rw [this] at h; exact h
  · have e : x = ofB (bt x) m := by
      refine ofB_of (by omega) (fun k hk => ?_)
      by_cases l : k < m
      · rw [decide_eq_true l, Bool.true_and]
      · have : bt (x &&& (-((1 : Int32) <<< (nI m &&& 31)))) k = false := by rw [d, b_0]
        rw [b_and, af_bits m h10 k hk, decide_eq_true (show m ≤ k by omega), Bool.and_true] at this
        rw [this, decide_eq_false l]; rfl
    obtain ⟨v, hv, ev⟩ := ofB_nat (p := bt x) m h10
    have p10 : 2 ^ m ≤ 1024 := pow_le (b := 10) h10
    have : inr 0 (2 ^ m) x = true := by rw [e, ev]; exact inr_nI (Nat.zero_le _) hv (by omega)
    rw [this] at h; exact h
theorem ag_even : ∀ n, n ≤ 8 → 1 ≤ n → ∀ k, k < 2 ^ (n - 1) → agF n (nI (2 * k)) = true := by decide +kernel
theorem lg_rng {S : SS} {n m : Nat} {x b : Int32} {h : Nat} : ∀ i, lgF S n m x b h i = -1000004 ∨ ∃ v, v < 2 * i ∧ lgF S n m x b h i = nI v := by
  intro i
  induction i with
  | zero => exact Or.inl rfl
  | succ i ih =>
    unfold lgF
    split
    · exact Or.inr ⟨2 * i, by omega, rfl⟩
    · rcases ih with z | ⟨v, hv, z⟩
      · exact Or.inl z
      · exact Or.inr ⟨v, by omega, z⟩
theorem sp6_leastGates {Post : Mm → Int32 → Prop} {M : Mm} {S : SS} {n m tt : Nat} {x b h : Int32} (hT : TR M 1 S n m tt) (hV : VV S n m tt)
    (hP : ∀ M', CQ M M' S n m tt → Post M' (lstF S n m x b h)) : wX6_leastGates Post M 0 x b h := by
  have hle := hV.1.le
  have bad : ¬ (inr 0 (2 ^ m) x = true ∧ inr 0 1000 b = true ∧ inr 1 6 h = true) → Post M (-1000001) := by
    intro z
    have := hP M (CQ_self hT)
    unfold lstF at this
    rw [if_neg z] at this
    exact this
  refine sp1_areFields (t := 1) hT hle.2.1 ⟨fun d => bad (fun z => by rw [z.1] at d; cases d), fun d => ?_⟩
  have g1 := b2i_1.mp ((b2i_01 _).resolve_left d)
  refine sp6_isOutside (a := 0) (b := 1000) (by decide) (by decide) ⟨fun d2 => bad (fun z => b_sw'.mp d2 z.2.1), fun d2 => ?_⟩
  have g2 := b_sw.mp d2
  refine sp6_isOutside (a := 1) (b := 6) (by decide) (by decide) ⟨fun d3 => ?_, fun d3 => bad (fun z => b_sw'.mp d3 z.2.2)⟩
  have g3 := b_sw.mp d3
  unfold lstF at hP
  rw [if_pos ⟨g1, g2, g3⟩] at hP
  obtain ⟨k, k1, k2, ek⟩ := inr_of g3
  subst ek
  rw [ixn (by omega)] at hP
  have hb0 : 0 ≤ b.toInt := by have := i_rg g2; omega
  have p8 : 2 ^ (n - 1) ≤ 128 := pow_le (b := 7) (by omega)
  have p0 : 0 < 2 ^ (n - 1) := Nat.pow_pos (by omega)
  have en : (1 : Int32) <<< ((M (0 + 1 + 1) 0) &&& 31) - 2 = nI (2 * 2 ^ (n - 1) - 2) := by
    rw [show M (0 + 1 + 1) 0 = nI n from hT.2.1, shl1 (by omega)]
    obtain ⟨k, hk⟩ : ∃ k, n = k + 1 := ⟨n - 1, by omega⟩
    subst hk
    have : 2 ^ (k + 1) = 2 * 2 ^ (k + 1 - 1) := by rw [Nat.pow_succ, Nat.add_sub_cancel, Nat.mul_comm]
    rw [this]
    exact ofN_sub (b := 2) (by omega)
  unfold wX0_allGates
  show ∃ q : Nat, lX6_leastGates_56 Post q M 0 x b (nI k) (-1000004) ((1 : Int32) <<< ((M (0 + 1 + 1) 0) &&& 31) - 2) (nI (2 * 0))
  rw [en]
  refine pk_loop (fun q i (z : Mm × Int32) => lX6_leastGates_56 Post q z.1 0 x b (nI k) z.2 (nI (2 * 2 ^ (n - 1) - 2)) (nI (2 * i))) (fun i z => Fro M z.1 24 ∧ z.2 = lgF S n m x b k i) (2 ^ (n - 1)) 0 (M, -1000004) (Nat.zero_le _) ⟨fun _ _ => rfl, rfl⟩ ?_ ?_
  · rintro q ⟨M', y⟩ ⟨hf, e⟩
    refine ⟨fun _ => ?_, fun z => absurd ?_ z⟩
    · show Post M' y
      rw [show y = _ from e]
      exact hP M' (CQ_fro hT hf)
    · exact (nI_ltI (by omega) (by omega)).mpr (by omega)
  · rintro q i ⟨M', y⟩ hi ⟨hf, e⟩ ih
    have e : y = lgF S n m x b k i := e
    have hf : Fro M M' 24 := hf
    have hT' := (CQ_fro hT hf).1
    have next : ∀ M'' v, Fro M M'' 24 → v = lgF S n m x b k (i + 1) → ∀ x6, x6 = nI (2 * i) + 2 → lX6_leastGates_56 Post q M'' 0 x b (nI k) v (nI (2 * 2 ^ (n - 1) - 2)) x6 := by
      intro M'' v hf' ev x6 e6
      rw [e6, show nI (2 * i) + 2 = nI (2 * (i + 1)) from nI_add (2 * i) 2]
      exact ih (M'', v) ⟨hf', ev⟩
    have es : lgF S n m x b k (i + 1) = if (lgF S n m x b k i < 0 ∨ onF (nI (2 * i)) 10 < onF (lgF S n m x b k i) 10) ∧ lgS S n m x b k (2 * i) = true then nI (2 * i) else lgF S n m x b k i := rfl
    have fewer : (lgF S n m x b k i < 0 ∨ onF (nI (2 * i)) 10 < onF (lgF S n m x b k i) 10) → bX6_leastGates_88 Post (lX6_leastGates_56 Post q) M' 0 x b (nI k) y (nI (2 * 2 ^ (n - 1) - 2)) (nI (2 * i)) 1 := by
      intro hc
      refine ⟨fun z => absurd z (by decide), fun _ => ?_⟩
      refine sp6_wouldServe hT' hV (ag_even n hle.1.2 hle.1.1 i hi) hb0 (by omega) (fun M2 hf2 => ⟨fun d x6 e6 => ?_, fun d x6 e6 => ?_⟩)
      · refine next M2 y (Fro_tr hf hf2) ?_ x6 e6
        rw [es, if_neg, e]
        rintro ⟨-, z⟩
        rw [z] at d; cases d
      · refine next M2 _ (Fro_tr hf hf2) ?_ x6 e6
        rw [es, if_pos ⟨hc, b2i_1.mp ((b2i_01 _).resolve_left d)⟩]
    have same : ¬ (lgF S n m x b k i < 0 ∨ onF (nI (2 * i)) 10 < onF (lgF S n m x b k i) 10) → bX6_leastGates_88 Post (lX6_leastGates_56 Post q) M' 0 x b (nI k) y (nI (2 * 2 ^ (n - 1) - 2)) (nI (2 * i)) 0 := by
      intro hc
      refine ⟨fun _ x6 e6 => next M' y hf ?_ x6 e6, fun z => absurd rfl z⟩
      rw [es, if_neg (fun z => hc z.1), e]
    refine ⟨fun z => absurd z ?_, fun _ => ⟨fun d => fewer ?_, fun d => ?_⟩⟩
    · intro z
      have := (nI_ltI (by omega) (by omega)).mp z
      omega
    · left
      rw [← e, show y = -1000004 from d]; decide
    · rcases lg_rng (S := S) (n := n) (m := m) (x := x) (b := b) (h := k) i with z | ⟨v, hv, z⟩
      · exact absurd (e.trans z) d
      · have ey : y = nI v := e.trans z
        have hn0 : ¬ lgF S n m x b k i < 0 := by rw [z]; exact nI_pos (by omega)
        refine sp_bitCount (v := 2 * i) (by omega) ?_
        show wJ6_bitCount_0f7a4 _ M' y
        rw [ey]
        refine sp_bitCount (v := v) (by omega) ?_
        rw [← ey]
        refine ⟨fun c => same ?_, fun c => fewer ?_⟩
        · rintro (z' | z')
          · exact hn0 z'
          · rw [z] at z'
            rw [ey] at c
            exact absurd z' (Int32.not_lt.mpr c)
        · right
          rw [z]
          rw [ey] at c
          exact Int32.not_le.mp c
