/-! the class: turns, crews -/
theorem sp5_add {Post : Mm → Int32 → Prop} {M : Mm} {t : Nat} {S : SS} {n m tt : Nat} {g x : Int32} (hT : TR M t S n m tt) (h8 : n ≤ 8) (h10 : m ≤ 10) (ht : tt < 8)
    (hP : ∀ M', TR M' t (tnS S tt g x) n m (tt + 1) → (∀ a, a ≠ t + 18 → a ≠ t + 19 → a ≠ t + 20 → M' a = M a) → Post M' (nI (tt + 1))) : wX5_add Post M (t + 18) g x := by
  have e0 : M (t + 18) 0 = nI tt := hT.2.2.2.2.2.1
  unfold wX5_add
  rw [e0, ixn (by omega)]
  refine ⟨vp_in_nI ht (by omega), fun M1 e1 => ?_⟩
  have z1 : M1 (t + 18) 0 = nI tt := by rw [e1, mu_row (by omega), e0]
  rw [z1, ixn (by omega)]
  refine ⟨vp_in_nI ht (by omega), fun M2 e2 M3 e3 M4 e4 M5 e5 => ?_⟩
  have z2 : M2 (t + 18) 0 = nI tt := by rw [e2, mu_row (by omega), z1]
  rw [z2, nI_1] at e3
  have r18 : ∀ j, M5 (t + 18) j = if j = 2 then 0 else if j = 1 then 0 else if j = 0 then nI (tt + 1) else M (t + 18) j := by
    intro j
    rw [e5, mu_s]
    by_cases j2 : j = 2
    · subst j2; rw [upd_s, if_pos rfl]
    · rw [upd_o j2, if_neg j2, e4, mu_s]
      by_cases j1 : j = 1
      · subst j1; rw [upd_s, if_pos rfl]
      · rw [upd_o j1, if_neg j1, e3, mu_s]
        by_cases j0 : j = 0
        · subst j0; rw [upd_s, if_pos rfl]
        · rw [upd_o j0, if_neg j0, e2, mu_row (by omega), e1, mu_row (by omega)]
  have r19 : M5 (t + 19) = upd (M (t + 19)) tt g := by
    rw [e5, mu_row (by omega), e4, mu_row (by omega), e3, mu_row (by omega), e2, mu_row (by omega), e1]
    show mu M (t + 19) tt g (t + 19) = _
    rw [mu_s]
  have r20 : M5 (t + 20) = upd (M (t + 20)) tt x := by
    rw [e5, mu_row (by omega), e4, mu_row (by omega), e3, mu_row (by omega), e2]
    show mu M1 (t + 20) tt x (t + 20) = _
    rw [mu_s, e1, mu_row (by omega)]
  have fr : ∀ a, a ≠ t + 18 → a ≠ t + 19 → a ≠ t + 20 → M5 a = M a := by
    intro a a1 a2 a3
    rw [e5, mu_row a1, e4, mu_row a1, e3, mu_row a1, e2, mu_row (by omega), e1, mu_row (by omega)]
  have es : M5 (t + 18) 0 = nI (tt + 1) := by rw [r18, if_neg (by omega), if_neg (by omega), if_pos rfl]
  show Post M5 (M5 (t + 18) 0)
  rw [es]
  refine hP M5 (TR_tn hT (fun k hk => fr _ (by omega) (by omega) (by omega)) (fun i hi => ?_) es ?_ ?_ (fun j hj => ?_) h8 h10) fr
  · unfold tnS
    rw [upd_o (by omega), upd_o (by omega), upd_o (by omega), upd_o (by omega), upd_o (by omega)]
  · rw [r18, if_neg (by omega), if_pos rfl]
    unfold tnS
    rw [upd_o (by omega), upd_s]
  · rw [r18, if_pos rfl]
    unfold tnS
    rw [upd_s]
  · rw [r19, r20]
    unfold tnS
    by_cases e : j = tt
    · subst e
      rw [upd_s, upd_s]
      refine ⟨?_, ?_⟩
      · rw [upd_o (by omega), upd_o (by omega), upd_o (by omega), upd_o (by omega), upd_s]
      · rw [upd_o (by omega), upd_o (by omega), upd_o (by omega), upd_s]
    · rw [upd_o e, upd_o e]
      refine ⟨?_, ?_⟩
      · rw [upd_o (by omega), upd_o (by omega), upd_o (by omega), upd_o (by omega), upd_o (by omega)]
        exact hT.rd (k := 19) (j := j) (i := 152 + 2 * j) (Or.inr (Or.inr (Or.inr (Or.inr (Or.inr (Or.inr (Or.inl ⟨rfl, by omega, rfl⟩)))))))
      · rw [upd_o (by omega), upd_o (by omega), upd_o (by omega), upd_o (by omega), upd_o (by omega)]
        exact hT.rd (k := 20) (j := j) (i := 153 + 2 * j) (Or.inr (Or.inr (Or.inr (Or.inr (Or.inr (Or.inr (Or.inr ⟨rfl, by omega, rfl⟩)))))))
theorem sp6_turn {Post : Mm → Int32 → Prop} {M : Mm} {P : Nat → Nat} {S : SS} {n m tt s : Nat} {g x : Int32} (hp : HP M P) (hs : M 47 0 = nI s) (h4 : s ≤ 4) (hT : TR M 1 S n m tt) (hw : Wf S n m tt)
    (h : ∀ M' tt', tt' = (if (trnF S n tt g x).2 ≤ -1000001 then tt else tt + 1) → CA M M' P s S (trnF S n tt g x).1 n m tt n m tt' (trnF S n tt g x).2 → Post M' (trnF S n tt g x).2) : wX6_turn Post M 0 g x := by
  have h8 := hw.2.2.2.1.2
  have h1 := hw.2.2.2.1.1
  have h10 := hw.2.2.2.2.1
  have ht8 := hw.2.2.2.2.2.1
  have bad : ¬ (agF n g = true ∧ inr 1 21 x = true) → Post M (-1000001) := by
    intro z
    have hF : trnF S n tt g x = (S, -1000001) := by unfold trnF; rw [if_neg z]
    rw [hF] at h
    exact h M tt (by rw [if_pos (show (-1000001 : Int32) ≤ -1000001 by decide)]) (CA_none hT hp (show (-1000001 : Int32) ≤ -1000001 by decide))
  refine sp0_areGates (t := 1) hT h1 h8 ⟨fun d => bad (by rw [b2i_0.mp d]; rintro ⟨z, -⟩; cases z), fun d => sp6_isOutside (a := 1) (b := 21) (by decide) (by decide) ⟨fun d2 => ?_, fun d2 => bad ?_⟩⟩
  · have g2 : inr 1 21 x = true := by
      have := b2i_0.mp d2
      cases hh : inr 1 21 x
      · rw [hh] at this; cases this
      · rfl
    have gg : agF n g = true ∧ inr 1 21 x = true := ⟨b2i_1.mp ((b2i_01 _).resolve_left d), g2⟩
    have e0 : M (0 + 1 + 18) 0 = nI tt := hT.2.2.2.2.2.1
    rw [e0]
    refine ⟨fun c => ?_, fun c => ?_⟩
    · have hlt : tt < 8 := (nI_ltI (by omega) (by omega)).mp c
      have hF : trnF S n tt g x = (tnS S tt g x, nI (tt + 1)) := by unfold trnF; rw [if_pos gg, if_neg (by omega)]
      rw [hF] at h
      refine sp_rec hp hs h4 hT hw (fun M1 hT1 h141 mk => sp5_add (t := 1) hT1 h8 h10 hlt (fun M2 hT2 hfr => ?_))
      refine h M2 (tt + 1) ?_ (mk M2 _ _ _ _ _ hT2 (fun a ha => hfr a (by omega) (by omega) (by omega)) ?_)
      · show _ = if nI (tt + 1) ≤ -1000001 then _ else _
        rw [if_neg (nI_not (by omega))]
      · exact nI_not (by omega)
    · have : tt = 8 := by
        have : ¬ tt < 8 := fun z => c (nI_lt (b := 8) z (by decide))
        omega
      have hF : trnF S n tt g x = (S, -1000003) := by unfold trnF; rw [if_pos gg, if_pos this]
      rw [hF] at h
      exact h M tt (by rw [if_pos (show (-1000003 : Int32) ≤ -1000001 by decide)]) (CA_none hT hp (show (-1000003 : Int32) ≤ -1000001 by decide))
  · rintro ⟨-, z⟩
    rw [z] at d2
    exact d2 rfl
theorem sp6_noTurns {Post : Mm → Int32 → Prop} {M : Mm} {P : Nat → Nat} {S : SS} {n m tt s : Nat} (hp : HP M P) (hs : M 47 0 = nI s) (h4 : s ≤ 4) (hT : TR M 1 S n m tt) (hw : Wf S n m tt)
    (h : ∀ M', CA M M' P s S (ntF S tt).1 n m tt n m 0 (ntF S tt).2 → Post M' (ntF S tt).2) : wX6_noTurns Post M 0 := by
  have h8 := hw.2.2.2.1.2
  have h10 := hw.2.2.2.2.1
  have ht8 := hw.2.2.2.2.2.1
  refine sp_rec hp hs h4 hT hw (fun M1 hT1 h141 mk x1 e1 M2 e2 M3 e3 M4 e4 => ?_)
  have e0 : M1 (0 + 1 + 18) 0 = nI tt := hT1.2.2.2.2.2.1
  rw [e0] at e1
  subst e1
  have r18 : ∀ j, j < 3 → M4 (1 + 18) j = 0 := by
    intro j hj
    rw [e4]
    show mu M3 (1 + 18) 2 0 (1 + 18) j = 0
    rw [mu_s]
    by_cases j2 : j = 2
    · subst j2; rw [upd_s]
    · rw [upd_o j2, e3]
      show mu M2 (1 + 18) 1 0 (1 + 18) j = 0
      rw [mu_s]
      by_cases j1 : j = 1
      · subst j1; rw [upd_s]
      · rw [upd_o j1, e2]
        have : j = 0 := by omega
        subst this
        exact mu_at
  have fr : ∀ a, a ≠ 19 → M4 a = M1 a := by
    intro a ha
    rw [e4, mu_row (by omega), e3, mu_row (by omega), e2, mu_row (by omega)]
  refine h M4 (mk M4 _ _ _ _ _ (TR_tn hT1 (fun k hk => fr _ (by omega)) (fun i hi => ?_) (r18 0 (by omega)) ?_ ?_ (fun j hj => absurd hj (by omega)) h8 h10) (fun a ha => fr a (by omega)) (nI_not (by omega)))
  · unfold ntF
    show upd (upd (upd S 2 0) 3 0) 4 0 i = _
    rw [upd_o (by omega), upd_o (by omega), upd_o (by omega)]
  · rw [r18 1 (by omega)]
    unfold ntF
    show (0 : Int32) = upd (upd (upd S 2 0) 3 0) 4 0 3
    rw [upd_o (by omega), upd_s]
  · rw [r18 2 (by omega)]
    unfold ntF
    show (0 : Int32) = upd (upd (upd S 2 0) 3 0) 4 0 4
    rw [upd_s]
theorem sp0_gatesOf {Post : Mm → Int32 → Prop} {M : Mm} {t : Nat} {S : SS} {n m tt : Nat} {x : Int32} (hT : TR M t S n m tt) (h1 : 1 ≤ n) (h8 : n ≤ 8) (h : Post M (nI (tdF S x n))) : wX0_gatesOf Post M (t + 1) x := by
  show ∃ q : Nat, lX0_gatesOf_4 Post q M (t + 1) x 0 (nI 1)
  refine pk_loop (fun q i (y : Int32) => lX0_gatesOf_4 Post q M (t + 1) x y (nI i)) (fun i y => 1 ≤ i ∧ y = nI (tdF S x i)) n 1 0 h1 ⟨Nat.le_refl 1, rfl⟩ ?_ ?_
  · rintro q y ⟨-, e⟩
    subst e
    refine ⟨fun _ => h, fun z => absurd ?_ z⟩
    rw [hT.2.1]; exact nI_le (Nat.le_refl _) (by omega)
  · rintro q i y hi ⟨hi1, e⟩ ih
    subst e
    have es : tdF S x (i + 1) = tdF S x i + (if ca S i 5 = x then 1 else 0) := by
      conv => lhs; unfold tdF
      rw [if_neg (by omega)]
    have e5 : M (t + 1 + 5) i = ca S i 5 := hT.rd (k := 6) (j := i) (i := 10 + 9 * i + 5) (Or.inr (Or.inr (Or.inl ⟨by omega, by omega, hi, by omega⟩)))
    refine ⟨fun z => absurd z ?_, fun _ => ⟨vp_in_nI (by omega) (by omega), ?_⟩⟩
    · rw [hT.2.1]; exact nI_ge hi (by omega)
    · rw [ixn (by omega), e5]
      refine ⟨fun d x3 e3 => ?_, fun d x2 e2 x3 e3 => ?_⟩
      · rw [e3, nI_1]
        refine ih _ ⟨by omega, ?_⟩
        rw [es, if_neg d, Nat.add_zero]
      · rw [e3, nI_1, e2, nI_1]
        refine ih _ ⟨by omega, ?_⟩
        rw [es, if_pos d]
