/-! the class: the fewest buckets, hours needed -/
theorem sub_pos {a b : Int32} (ha : 0 ≤ a.toInt ∧ a.toInt ≤ 999) (hb : 0 ≤ b.toInt ∧ b.toInt ≤ 999) : a - b ≤ 0 ↔ ¬ b < a := by
  have e : (a - b).toInt = a.toInt - b.toInt := i_sub (by omega) (by omega)
  have z : (0 : Int32).toInt = 0 := by decide
  rw [i_le, i_lt, e, z]
  omega
theorem flow_200 {S : SS} {n m b : Nat} (h : VA S) (h1 : 1 ≤ n) (h200 : 200 ≤ b) (hb : b < 1000) : flowF S n m (nI b) = flowF S n m (nI 200) := by
  have e : ∀ c, 200 ≤ c → c < 1000 → fB (f1 S n) (nI c) = 200 := by
    intro c c1 c2
    have ew : ca (f1 S n) 0 2 = 200 := by
      unfold f1
      have : ca (zC (upd S 5 (S 5 + 1)) n) 0 2 = ca S 0 2 := by
        unfold ca
        rw [zC_o n (fun g _ => by omega), upd_o (by omega)]
      rw [this]; exact h.1
    unfold fB
    rw [ew]
    split
    · next z =>
      have := i_le.mp z
      have z2 : (200 : Int32).toInt = 200 := by decide
      have z3 : (nI c).toInt = c := nI_toInt (by omega)
      rw [i_eq]
      omega
    · rfl
  have e2 : f2 S n (nI b) = f2 S n (nI 200) := by unfold f2; rw [e b h200 hb, e 200 (by omega) (by omega)]
  have e3 : f3 S n (nI b) = f3 S n (nI 200) := by unfold f3; rw [e2, e b h200 hb, e 200 (by omega) (by omega)]
  unfold flowF
  rw [e3]
theorem sp6_fewestBuckets {Post : Mm → Int32 → Prop} {M : Mm} {S : SS} {n m tt : Nat} {x : Int32} (hT : TR M 1 S n m tt) (hV : VV S n m tt)
    (hP : ∀ M', CQ M M' S n m tt → Post M' (fewF S n m x)) : wX6_fewestBuckets Post M 0 x := by
  have hle := hV.1.le
  unfold fewF at hP
  refine sp1_has (t := 1) hT hle.2.1 ⟨fun d => ?_, fun d => ?_⟩
  rotate_left
  · have := hP M (CQ_self hT)
    rw [if_neg (by rw [b2i_0.mp d]; decide)] at this
    exact this
  have g1 := b2i_1.mp ((b2i_01 _).resolve_left d)
  rw [if_pos g1] at hP
  obtain ⟨f, -, hf, ex⟩ := inr_of g1
  subst ex
  rw [ixn (by omega)] at hP
  have vf : vp_in (nI f) 10 := vp_in_nI (by omega) (by omega)
  show ∃ q : Nat, lX6_fewestBuckets_19 Post q M 0 (nI f) (nI 0)
  refine pk_loop (fun q i (M' : Mm) => lX6_fewestBuckets_19 Post q M' 0 (nI f) (nI i)) (fun i M' => Fro M M' 24 ∧ ∀ j, j < i → moreB S n m f j = false) 201 0 M (Nat.zero_le _) ⟨fun _ _ => rfl, fun j hj => by omega⟩ ?_ ?_
  · rintro q M' ⟨hfr, hno⟩
    refine ⟨fun _ => ?_, fun z => absurd (show (200 : Int32) < nI 201 by decide) z⟩
    have : fst (moreB S n m f) 1000 = none := by
      refine fst_none (fun j hj => ?_)
      by_cases l : j < 201
      · exact hno j l
      · have a := hno 200 (by omega)
        unfold moreB at a ⊢
        rw [flow_200 hV.2.2 hle.1.1 (by omega) hj]
        exact a
    have q := hP M' (CQ_fro hT hfr)
    rw [this] at q
    exact q
  · rintro q i M' hi ⟨hfr, hno⟩ ih
    have hT' := (CQ_fro hT hfr).1
    have hb : 0 ≤ (nI i).toInt := by rw [nI_toInt (by omega)]; omega
    refine ⟨fun z => absurd ((nI_ltI (a := 200) (by omega) (by omega)).mp z) (by omega), fun _ => ?_⟩
    refine sp4_become (a := 24) (b := 1) hT' hle.1.2 hle.2.1 hle.2.2 (by omega) (fun M1 hT1 hf1 => ?_)
    refine sp4_passHour (t := 24) hT1 hV.1.1 hV.1.2.2.1 hV.1.2.2.2.1 hb (fun M2 hT2 hf2 => ?_)
    have hfr2 := Fro_tr hfr (Fro_tr hf1 hf2)
    have a1 : M2 (0 + 24 + 10 + 5) f = fi (flowF S n m (nI i)) f 4 := hT2.rd (k := 15) (j := f) (i := 82 + 7 * f + 4) (Or.inr (Or.inr (Or.inr (Or.inl ⟨by omega, by omega, hf, by omega⟩))))
    have a2 : M2 (0 + 1 + 10 + 5) f = fi S f 4 := by
      rw [hfr2 (0 + 1 + 10 + 5) (by omega)]
      exact hT.rd (k := 15) (j := f) (i := 82 + 7 * f + 4) (Or.inr (Or.inr (Or.inr (Or.inl ⟨by omega, by omega, hf, by omega⟩))))
    obtain ⟨F1, -⟩ := flow_V (n := n) hV.1.2.2.1 hV.1.2.2.2.1 hle.1.2 hle.1.1 hb
    have b1 := F1 f hf
    have b2 := hV.1.2.2.1 f hf
    unfold wX6_gain
    rw [ixn (by omega), a1, a2]
    have hs := sub_pos (a := fi (flowF S n m (nI i)) f 4) (b := fi S f 4) (by omega) (by omega)
    refine ⟨vf, vf, fun c x2 e2 => ?_, fun c => ?_⟩
    · rw [e2, nI_1]
      refine ih M2 ⟨hfr2, fun j hj => ?_⟩
      by_cases e : j = i
      · subst e
        exact decide_eq_false (hs.mp c)
      · exact hno j (by omega)
    · have : fst (moreB S n m f) 1000 = some i := fst_some hno (decide_eq_true (Classical.byContradiction (fun z => c (hs.mpr z)))) (by omega)
      have q := hP M2 (CQ_fro hT hfr2)
      rw [this] at q
      exact q
theorem all_bits : ∀ m, m ≤ 10 → ∀ f, f < m → bt (nI (2 ^ m) - 1) f = true := by decide +kernel
theorem sp6_hoursFor {Post : Mm → Int32 → Prop} {M : Mm} {S : SS} {n m tt : Nat} {b : Int32} (hT : TR M 1 S n m tt) (hV : VV S n m tt)
    (hP : ∀ M', CQ M M' S n m tt → Post M' (hrsF S n m b)) : wX6_hoursFor Post M 0 b := by
  have hle := hV.1.le
  unfold hrsF at hP
  refine sp6_isOutside (a := 0) (b := 1000) (by decide) (by decide) ⟨fun d => ?_, fun d => ?_⟩
  rotate_left
  · have := hP M (CQ_self hT)
    rw [if_neg (b_sw'.mp d)] at this
    exact this
  have g1 := b_sw.mp d
  rw [if_pos g1] at hP
  have hb0 : 0 ≤ b.toInt := by have := i_rg g1; omega
  refine sp4_become (a := 24) (b := 1) hT hle.1.2 hle.2.1 hle.2.2 (by omega) (fun M1 hT1 hf1 => ?_)
  have hz : ∀ T : SS, ofB (wt T) m = 0 ↔ hgF T (nI (2 ^ m) - 1) m = true := by
    intro T
    rw [hgF_iff]
    constructor
    · intro e f hf _
      have : bt (ofB (wt T) m) f = false := by rw [e, b_0]
      rw [ofB_bt m (by omega) f (by omega), decide_eq_true hf, Bool.true_and] at this
      exact this
    · intro h
      refine bt_eq0 (fun k hk => ?_)
      rw [ofB_bt m (by omega) k hk]
      by_cases e : k < m
      · rw [h k e (all_bits m hle.2.1 k e), Bool.and_false]
      · rw [decide_eq_false e]; rfl
  show ∃ q : Nat, lX6_hoursFor_27 Post q M1 0 b (nI 0)
  refine pk_loop (fun q i (M' : Mm) => lX6_hoursFor_27 Post q M' 0 b (nI i)) (fun i M' => TR M' 24 (rsF S n m b i).1 n m tt ∧ Fro M M' 24 ∧ ∀ j, j < i → hasB S n m b j = false) 101 0 M1 (Nat.zero_le _) ⟨hT1, hf1, fun j hj => by omega⟩ ?_ ?_
  · rintro q M' ⟨-, hfr, hno⟩
    refine ⟨fun _ => ?_, fun z => absurd (show (100 : Int32) < nI 101 by decide) z⟩
    have q := hP M' (CQ_fro hT hfr)
    rw [fst_none hno] at q
    exact q
  · rintro q i M' hi ⟨hT', hfr, hno⟩ ih
    refine ⟨fun z => absurd ((nI_ltI (a := 100) (by omega) (by omega)).mp z) (by omega), fun _ => ?_⟩
    refine sp1_wanting (t := 24) hT' hle.2.1 ⟨fun c => ?_, fun c => ?_⟩
    · refine sp4_runHours (t := 24) (k := 1) hT' (V0_rs hV.1 hb0 i) rfl (by omega) hb0 (fun M2 hT2 hf2 x2 e2 => ?_)
      rw [e2, nI_1]
      refine ih M2 ⟨hT2, Fro_tr hfr hf2, fun j hj => ?_⟩
      by_cases e : j = i
      · subst e
        unfold hasB
        cases hh : hgF (rsF S n m b j).1 (nI (2 ^ m) - 1) m
        · rfl
        · exact absurd ((hz _).mpr hh) c
      · exact hno j (by omega)
    · have : fst (hasB S n m b) 101 = some i := fst_some hno ((hz _).mp c) hi
      have q := hP M' (CQ_fro hT hfr)
      rw [this] at q
      exact q
