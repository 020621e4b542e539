/-! the class: what is asked of fields, counts, rights -/
theorem VV.bits {S : SS} {n m tt : Nat} (h : VV S n m tt) : VF S m ∧ VO S n ∧ VK S n ∧ Wf S n m tt := ⟨h.1.2.2.1, h.1.2.2.2.2.1, h.2.1.1, h.1.1⟩
theorem sp6_fieldOf {Post : Mm → Int32 → Prop} {M : Mm} {S : SS} {n m tt : Nat} {x y : Int32} (hT : TR M 1 S n m tt) (hV : VV S n m tt) (h : ∀ M', CQ M M' S n m tt → Post M' (fofF S m x y)) : wX6_fieldOf Post M 0 x y := by
  have q := h M (CQ_self hT)
  obtain ⟨hF, hO, hK, hW⟩ := hV.bits
  have h10 := hW.2.2.2.2.1
  have h8 := hW.2.2.2.1
  refine sp1_has (t := 1) hT h10 ⟨fun d => ?_, fun d => ?_⟩
  rotate_left
  · have : fofF S m x y = -1000001 := by unfold fofF; rw [if_neg (by rw [b2i_0.mp d]; rintro ⟨z, -⟩; cases z)]
    rw [this] at q; exact q
  have g1 := b2i_1.mp ((b2i_01 _).resolve_left d)
  obtain ⟨f, -, hf, ex⟩ := inr_of g1
  subst ex
  have vf : vp_in (nI f) 10 := vp_in_nI (by omega) (by omega)
  have rd : ∀ k w, 11 ≤ k ∧ k ≤ 15 ∧ k = w + 11 → M (1 + k) (ix (nI f)) = fi S f w := by
    intro k w hk
    rw [ixn (by omega)]
    exact hT.rd (k := k) (j := f) (i := 82 + 7 * f + w) (Or.inr (Or.inr (Or.inr (Or.inl ⟨hk.1, hk.2.1, hf, by omega⟩))))
  have eF : ∀ y, fofF S m (nI f) y = if inr 0 8 y = true then (if y = 6 then b2i (mtF S f m) else if y = 7 then (if wt S f = true then -1000004 else fi S f 6) else fi S f (ix y)) else -1000001 := by
    intro y
    unfold fofF
    rw [ixn (by omega)]
    by_cases z : inr 0 8 y = true
    · rw [if_pos ⟨g1, z⟩, if_pos z]
    · rw [if_neg (fun w => z w.2), if_neg z]
  rw [eF] at q h
  refine ⟨fun e => ⟨vf, ?_⟩, fun e0 => ⟨fun e => ⟨vf, ?_⟩, fun e1 => ⟨fun e => ⟨vf, ?_⟩, fun e2 => ⟨fun e => ⟨vf, ?_⟩, fun e3 => ⟨fun e => ⟨vf, ?_⟩, fun e4 => ⟨fun e => ?_, fun e5 => ⟨fun e => ?_, fun e6 => ⟨fun e => ?_, fun e7 => ?_⟩⟩⟩⟩⟩⟩⟩⟩
  · subst e
    rw [if_pos (by decide), if_neg (by decide), if_neg (by decide)] at q
    rw [show M (0 + 1 + 10 + 1) (ix (nI f)) = fi S f 0 from rd 11 0 (by omega)]
    exact q
  · subst e
    rw [if_pos (by decide), if_neg (by decide), if_neg (by decide)] at q
    rw [show M (0 + 1 + 10 + 2) (ix (nI f)) = fi S f 1 from rd 12 1 (by omega)]
    exact q
  · subst e
    rw [if_pos (by decide), if_neg (by decide), if_neg (by decide)] at q
    rw [show M (0 + 1 + 10 + 3) (ix (nI f)) = fi S f 2 from rd 13 2 (by omega)]
    exact q
  · subst e
    rw [if_pos (by decide), if_neg (by decide), if_neg (by decide)] at q
    rw [show M (0 + 1 + 10 + 4) (ix (nI f)) = fi S f 3 from rd 14 3 (by omega)]
    exact q
  · subst e
    rw [if_pos (by decide), if_neg (by decide), if_neg (by decide)] at q
    rw [show M (0 + 1 + 10 + 5) (ix (nI f)) = fi S f 4 from rd 15 4 (by omega)]
    exact q
  · subst e
    rw [if_pos (by decide), if_neg (by decide), if_neg (by decide)] at q
    refine sp1_calls (t := 1) hT h10 hf rfl (sp_num ?_)
    have : fi S f (ix 5) = b2i (cls S f) := by
      show fi S f 5 = _
      unfold cls
      rcases (hF f hf).2.2.2.2 with z | z
      · rw [z]; rfl
      · rw [z]; rfl
    rw [this] at q
    exact q
  · subst e
    rw [if_pos (by decide), if_pos (by decide)] at h
    refine sp4_findCallsBelow (t := 1) hT hW (fun R1 R2 hlo => ?_)
    have hT' : TR (sr (sr M (1 + 21) R1) (1 + 22) R2) 1 S n m tt := TR_sc hT (fun a a1 a2 => by rw [sr_o a2, sr_o a1])
    have q' := h _ ⟨hT', fun a a1 a2 => by rw [sr_o (by omega), sr_o (by omega)], by rw [sr_o (by omega), sr_o (by omega)]⟩
    have hat : sr (sr M (1 + 21) R1) (1 + 22) R2 (0 + 1 + 10 + 1) (ix (nI f)) = nI (at_ S f) := by
      rw [ixn (by omega), ← (hW.2.2.2.2.2.2.2 f hf).2]
      exact hT'.rd (k := 11) (j := f) (i := 82 + 7 * f + 0) (Or.inr (Or.inr (Or.inr (Or.inl ⟨by omega, by omega, hf, by omega⟩))))
    have hrt : sr (sr M (1 + 21) R1) (1 + 22) R2 (0 + 1 + 10 + 4) (ix (nI f)) = fi S f 3 := by
      rw [ixn (by omega)]
      exact hT'.rd (k := 14) (j := f) (i := 82 + 7 * f + 3) (Or.inr (Or.inr (Or.inr (Or.inl ⟨by omega, by omega, hf, by omega⟩))))
    have hr2 : sr (sr M (1 + 21) R1) (1 + 22) R2 (0 + 1 + 22) = R2 := sr_s
    have hatn := (hW.2.2.2.2.2.2.2 f hf).1
    have hl := hlo (at_ S f) hatn (fi S f 3) (i_le.mpr (by have := (hF f hf).2.2.1; have e100 : (100 : Int32).toInt = 100 := by decide
                                                           omega))
    show wX4_mayTake _ (sr (sr M (1 + 21) R1) (1 + 22) R2) (0 + 1) (nI f)
    unfold wX4_mayTake
    rw [hat, hrt, hr2, ixn (by omega)]
    refine ⟨vf, vp_in_nI (by omega) (by omega), vf, fun d => ?_, fun d => ?_⟩
    · have : mtF S f m = false := by
        cases hh : mtF S f m
        · rfl
        · obtain ⟨k, hk, k1, k3, k2⟩ := hl.mp d
          exact absurd ⟨k1, k2, k3⟩ ((mtF_iff m).mp hh k hk)
      rw [this] at q'
      exact sp_num (b := false) q'
    · have : mtF S f m = true := by
        refine (mtF_iff m).mpr (fun k hk ⟨k1, k2, k3⟩ => d (hl.mpr ⟨k, hk, k1, k3, k2⟩))
      rw [this] at q'
      exact sp_num (b := true) q'
  · subst e
    rw [if_pos (by decide), if_neg (by decide), if_pos (by decide)] at q
    refine sp1_wants (t := 1) hT h10 hf rfl ⟨fun e => ⟨vf, ?_⟩, fun e => ?_⟩
    · rw [b2i_0.mp e, if_neg (by decide)] at q
      have : M (0 + 1 + 10 + 6) (ix (nI f)) = fi S f 6 := by
        rw [ixn (by omega)]
        exact hT.rd (k := 16) (j := f) (i := 82 + 7 * f + 6) (Or.inr (Or.inr (Or.inr (Or.inr (Or.inl ⟨by omega, hf, by omega⟩)))))
      rw [this]; exact q
    · rw [b2i_1.mp ((b2i_01 _).resolve_left e), if_pos rfl] at q
      exact q
  · rw [if_neg] at q
    · exact q
    · intro z
      obtain ⟨v, -, hv, ev⟩ := inr_of z
      have : v = 0 ∨ v = 1 ∨ v = 2 ∨ v = 3 ∨ v = 4 ∨ v = 5 ∨ v = 6 ∨ v = 7 := by omega
      rcases this with z | z | z | z | z | z | z | z <;> subst z
      · exact e0 ev
      · exact e1 ev
      · exact e2 ev
      · exact e3 ev
      · exact e4 ev
      · exact e5 ev
      · exact e6 ev
      · exact e7 ev
theorem sp0_tended {Post : Mm → Int32 → Prop} {M : Mm} {t : Nat} {S : SS} {n m tt : Nat} (hT : TR M t S n m tt) (hK : VK S n) (h1 : 1 ≤ n) (h8 : n ≤ 8) (hP : Post M (ofB (tnO S) n)) : wX0_tended Post M (t + 1) := by
  have e0 : M (t + 1) 0 = nI n := hT.2.1
  show ∃ q : Nat, lX0_tended_4 Post q M (t + 1) 0 (nI 1)
  refine pk_loop (fun q i (y : Int32) => lX0_tended_4 Post q M (t + 1) y (nI i)) (fun i y => 1 ≤ i ∧ y = ofB (tnO S) i) n 1 0 h1 ⟨Nat.le_refl _, ?_⟩ ?_ ?_
  · rw [ofB_succ, if_neg (by unfold tnO; rw [decide_eq_false (show ¬ 1 ≤ 0 by omega)]; simp)]; rfl
  · rintro q y ⟨-, e⟩
    subst e
    refine ⟨fun _ => hP, fun z => absurd ?_ z⟩
    rw [e0]; exact nI_le (Nat.le_refl _) (by omega)
  · rintro q i y hi ⟨h1i, e⟩ ih
    subst e
    have k5 := VK.iff hK hi
    refine ⟨fun z => absurd z ?_, fun _ => sp0_isTended hT h8 hi rfl ⟨fun d x2 e2 => ?_, fun d x1 e1 x2 e2 => ?_⟩⟩
    · rw [e0]; exact nI_ge hi (by omega)
    · rw [e2, nI_1]
      refine ih _ ⟨by omega, ?_⟩
      rw [ofB_succ, if_neg]
      unfold tnO
      rw [decide_eq_false (fun z => of_decide_eq_false (b2i_0.mp d) (k5.mpr z)), Bool.and_false]
      decide
    · rw [e2, nI_1, e1]
      refine ih _ ⟨by omega, ?_⟩
      rw [ofB_succ, if_pos]
      unfold tnO
      rw [decide_eq_true h1i, decide_eq_true (k5.mp (of_decide_eq_true (b2i_1.mp ((b2i_01 _).resolve_left d))))]
      rfl
theorem onF_wn {S : SS} {m : Nat} (hm : m ≤ 32) : ∀ i, i ≤ 32 → onF (ofB (wt S) m) i = nI (wnF S (min i m)) := by
  intro i
  induction i with
  | zero => intro _; rw [Nat.zero_min]; rfl
  | succ i ih =>
    intro h
    show onF (ofB (wt S) m) i + b2i (bt (ofB (wt S) m) i) = _
    rw [ih (by omega), ofB_bt m hm i (by omega)]
    by_cases e : i < m
    · rw [decide_eq_true e, Bool.true_and, Nat.min_eq_left (by omega), Nat.min_eq_left (by omega)]
      show _ = nI (wnF S i + _)
      cases hh : wt S i
      · rw [if_neg (by decide)]; exact Int32.add_zero _
      · rw [if_pos rfl]; exact nI_1 _
    · rw [decide_eq_false e, Bool.false_and, Nat.min_eq_right (by omega), Nat.min_eq_right (by omega)]
      exact Int32.add_zero _
theorem sp6_count {Post : Mm → Int32 → Prop} {M : Mm} {S : SS} {n m tt s L : Nat} {y : Int32} (hT : TR M 1 S n m tt) (hV : VV S n m tt) (hs : M 47 0 = nI s) (hL : M 141 0 = nI L) (h : ∀ M', CQ M M' S n m tt → Post M' (cntF S n m s L y)) : wX6_count Post M 0 y := by
  have q := h M (CQ_self hT)
  clear h
  obtain ⟨hF, hO, hK, hW⟩ := hV.bits
  have h10 := hW.2.2.2.2.1
  have h8 := hW.2.2.2.1
  have r0 : ∀ j i, 3 ≤ j → j ≤ 7 → i = j + 2 → M (0 + 1) j = S i := fun j i a b c => hT.rd (k := 0) (j := j) (i := i) (Or.inl ⟨rfl, a, b, c⟩)
  have r18 : ∀ j i, (j = 1 ∨ j = 2) → i = j + 2 → M (0 + 1 + 18) j = S i := fun j i a c => hT.rd (k := 18) (j := j) (i := i) (Or.inr (Or.inr (Or.inr (Or.inr (Or.inr (Or.inl ⟨rfl, a, c⟩))))))
  have e2 : M (0 + 1 + 18) 0 = S 2 := by rw [hW.2.2.1]; exact hT.2.2.2.2.2.1
  unfold cntF at q
  unfold wX6_count
  refine ⟨fun e => ?_, fun e0 => ?_⟩
  · rw [if_pos e] at q
    rw [show M (0 + 1 + 1) 0 = S 0 by rw [hW.1]; exact hT.2.1]; exact q
  rw [if_neg e0] at q
  refine ⟨fun e => ?_, fun e0 => ?_⟩
  · rw [if_pos e] at q
    rw [show M (0 + 1 + 10) 0 = S 1 by rw [hW.2.1]; exact hT.2.2.2.1]; exact q
  rw [if_neg e0] at q
  refine ⟨fun e => ?_, fun e0 => ?_⟩
  · rw [if_pos e] at q
    refine sp1_wanting (t := 1) hT h10 (sp_bitsB h10 ?_)
    rw [onF_wn (by omega) 10 (by omega), Nat.min_eq_right h10]; exact q
  rw [if_neg e0] at q
  refine ⟨fun e => ?_, fun e0 => ?_⟩
  · rw [if_pos e, cl_ofB hF m (Nat.le_refl _)] at q
    rw [show M (0 + 1 + 10) 1 = ofB (cls S) m from hT.2.2.2.2.1]; exact q
  rw [if_neg e0] at q
  refine ⟨fun e => ?_, fun e0 => ?_⟩
  · rw [if_pos e, oo_ofB hO n (Nat.le_refl _)] at q
    rw [show M (0 + 1 + 1) 1 = ofB (opn S) n from hT.2.2.1]; exact q
  rw [if_neg e0] at q
  refine ⟨fun e => ?_, fun e0 => ?_⟩
  · rw [if_pos e] at q
    exact sp0_tended (t := 1) hT hK h8.1 h8.2 q
  rw [if_neg e0] at q
  refine ⟨fun e => ?_, fun e0 => ?_⟩
  · rw [if_pos e] at q
    rw [r0 3 5 (by omega) (by omega) rfl]; exact q
  rw [if_neg e0] at q
  refine ⟨fun e => ?_, fun e0 => ?_⟩
  · rw [if_pos e] at q
    rw [r0 4 6 (by omega) (by omega) rfl]; exact q
  rw [if_neg e0] at q
  refine ⟨fun e => ?_, fun e0 => ?_⟩
  · rw [if_pos e] at q
    rw [r0 5 7 (by omega) (by omega) rfl]; exact q
  rw [if_neg e0] at q
  refine ⟨fun e => ?_, fun e0 => ?_⟩
  · rw [if_pos e] at q
    rw [r0 6 8 (by omega) (by omega) rfl]; exact q
  rw [if_neg e0] at q
  refine ⟨fun e => ?_, fun e0 => ?_⟩
  · rw [if_pos e] at q
    rw [r0 7 9 (by omega) (by omega) rfl]; exact q
  rw [if_neg e0] at q
  refine ⟨fun e => ?_, fun e0 => ?_⟩
  · rw [if_pos e] at q
    rw [e2]; exact q
  rw [if_neg e0] at q
  refine ⟨fun e => ?_, fun e0 => ?_⟩
  · rw [if_pos e] at q
    rw [e2, r18 1 3 (Or.inl rfl) rfl]
    refine ⟨fun z => ?_, fun z => ?_⟩
    · rw [if_neg z] at q; exact q
    · rw [if_pos z] at q; exact q
  rw [if_neg e0] at q
  refine ⟨fun e => ?_, fun e0 => ?_⟩
  · rw [if_pos e] at q
    rw [r18 2 4 (Or.inr rfl) rfl]; exact q
  rw [if_neg e0] at q
  refine ⟨fun e => ?_, fun e0 => ?_⟩
  · rw [if_pos e] at q
    rw [show M (0 + 47) 0 = nI s from hs]; exact q
  rw [if_neg e0] at q
  refine ⟨fun e => ?_, fun e0 => ?_⟩
  · rw [if_pos e] at q
    rw [show M (0 + 141) 0 = nI L from hL]; exact q
  rw [if_neg e0] at q
  exact q
theorem flt_at {P : Nat → Bool} : ∀ (l : List Nat) (i f : Nat), l[i]? = some f → P f = true → (l.filter P)[((l.take i).filter P).length]? = some f
  | [], i, f, h, _ => by simp at h
  | a :: l, 0, f, h, hp => by
    simp at h
    subst h
    simp [hp]
  | a :: l, i + 1, f, h, hp => by
    have ih := flt_at l i f (by simpa using h) hp
    by_cases ha : P a = true
    · simp [ha, ih]
    · simp [ha, ih]
