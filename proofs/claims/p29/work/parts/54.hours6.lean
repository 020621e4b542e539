/-! the class: tending, hours -/
theorem sp6_tendsKind {Post : Mm → Int32 → Prop} {M : Mm} {x y : Int32} (h1 : (x = 2 ∨ x = y) → Post M 1) (h0 : ¬ (x = 2 ∨ x = y) → Post M 0) : wX6_tendsKind Post M x y :=
  ⟨fun d => h1 (Or.inl d), fun d => ⟨fun c => h0 (by rintro (z | z); exact d z; exact c z), fun c => h1 (Or.inr c)⟩⟩
theorem sp6_tend {Post : Mm → Int32 → Prop} {M : Mm} {P : Nat → Nat} {S : SS} {n m tt s : Nat} {x y : Int32} (hp : HP M P) (hs : M 47 0 = nI s) (h4 : s ≤ 4) (hT : TR M 1 S n m tt) (hw : Wf S n m tt) (hk : VK S n) (h2 : tdF S x n ≤ 2)
    (h : ∀ M', CA M M' P s S (tndF S n x y).1 n m tt n m tt (tndF S n x y).2 → Post M' (tndF S n x y).2) : wX6_tend Post M 0 x y := by
  have h8 := hw.2.2.2.1.2
  have h1 := hw.2.2.2.1.1
  have h10 := hw.2.2.2.2.1
  unfold tndF at h
  have bad : ¬ (inr 0 3 x = true ∧ inr 1 n y = true) → Post M (-1000001) := by
    intro z
    rw [if_neg z] at h
    exact h M (CA_none hT hp (show (-1000001 : Int32) ≤ -1000001 by decide))
  refine sp6_isOutside (a := 0) (b := 3) (by decide) (by decide) ⟨fun d => bad ?_, fun d => sp0_hasGate (t := 1) hT h8 ⟨fun d2 => ?_, fun d2 => bad (by rw [b2i_0.mp d2]; rintro ⟨-, z⟩; cases z)⟩⟩
  · rintro ⟨z, -⟩
    rw [z] at d
    exact d rfl
  have g1 : inr 0 3 x = true := by
    have := b2i_0.mp d
    cases hh : inr 0 3 x
    · rw [hh] at this; cases this
    · rfl
  have g2 := b2i_1.mp ((b2i_01 _).resolve_left d2)
  rw [if_pos ⟨g1, g2⟩] at h
  obtain ⟨g, gl, gh, ey⟩ := inr_of g2
  obtain ⟨c, -, c3, ec⟩ := inr_of g1
  subst ey
  subst ec
  rw [ixn (by omega)] at h
  have vg : vp_in (nI g) 8 := vp_in_nI (by omega) (by omega)
  have hc2 : ¬ (2 : Int32) ≤ nI c ↔ c ≠ 2 := by
    constructor
    · intro z e; subst e; exact z (by decide)
    · intro z y
      exact absurd y (nI_ge (b := 2) (show c < 2 by omega) (by decide))
  have no : (0 ≤ ca S g 5 ∨ (¬ 2 ≤ nI c ∧ ca S g 1 ≠ nI c)) → Post M (-1000002) := by
    intro z
    rw [if_pos z] at h
    exact h M (CA_none hT hp (show (-1000002 : Int32) ≤ -1000001 by decide))
  refine sp0_isTended (t := 1) hT h8 gh rfl ⟨fun e => no (Or.inl ((VK.iff hk gh).mp (of_decide_eq_true (b2i_1.mp ((b2i_01 _).resolve_left e))))), fun e => ⟨vg, ?_⟩⟩
  have hnt : ¬ 0 ≤ ca S g 5 := fun y => of_decide_eq_false (b2i_0.mp e) ((VK.iff hk gh).mpr y)
  have ek : M (0 + 1 + 1 + 2) g = ca S g 1 := hT.rd (k := 3) (j := g) (i := 10 + 9 * g + 1) (Or.inr (Or.inl ⟨by omega, by omega, gh, by omega⟩))
  rw [ixn (by omega), ek]
  refine sp6_tendsKind (fun z => ⟨fun _ => sp0_gatesOf (t := 1) hT h1 h8 ?_, fun y => absurd y (by decide)⟩) (fun z => ⟨fun y => absurd rfl y, fun _ => no (Or.inr ⟨hc2.mpr (fun y => z (Or.inl (by rw [y]; rfl))), fun y => z (Or.inr y.symm)⟩)⟩)
  have hcond : ¬ (0 ≤ ca S g 5 ∨ (¬ 2 ≤ nI c ∧ ca S g 1 ≠ nI c)) := by
    rintro (y | ⟨y1, y2⟩)
    · exact hnt y
    · rcases z with z | z
      · exact hc2.mp y1 (nI_inj (by omega) (by omega) z)
      · exact y2 z.symm
  rw [if_neg hcond] at h
  refine ⟨fun q => ?_, fun q => ?_⟩
  · have hlt : tdF S (nI c) n < 2 := (nI_ltI (by omega) (by omega)).mp q
    rw [if_neg (show ¬ tdF S (nI c) n = 2 by omega)] at h
    refine sp_rec hp hs h4 hT hw (fun M1 hT1 h141 mk => ⟨vg, fun M2 eM => ?_⟩)
    have hm : mp n m tt 6 g (15 + 9 * g) := Or.inr (Or.inr (Or.inl ⟨by omega, by omega, gh, by omega⟩))
    have eM' : M2 = mu M1 (1 + 6) g (nI c) := eM
    have hT2 : TR M2 1 (upd S (15 + 9 * g) (nI c)) n m tt := by rw [eM']; exact TR_upd h8 h10 hT1 hm (by omega)
    refine sp0_gatesOf (t := 1) hT2 h1 h8 ?_
    refine h M2 (mk M2 _ _ _ _ _ hT2 (fun a ha => by rw [eM', mu_row (by omega)]) ?_)
    exact nI_not (by have := tdF_le (S := upd S (15 + 9 * g) (nI c)) (x := nI c) n; omega)
  · have : tdF S (nI c) n = 2 := by
      have : ¬ tdF S (nI c) n < 2 := fun z => q (nI_lt (b := 2) z (by decide))
      omega
    rw [if_pos this] at h
    exact h M (CA_none hT hp (show (-1000003 : Int32) ≤ -1000001 by decide))
theorem sp4_hasHoursLeft {Post : Mm → Int32 → Prop} {M : Mm} {t : Nat} {S : SS} {n m tt hr : Nat} {x : Int32} (hT : TR M t S n m tt) (hh : S 5 = nI hr) (h2 : hr ≤ 20000) (hx : 0 ≤ x.toInt) (hx2 : x.toInt ≤ 1000) (h1 : S 5 + x ≤ 20000 → Post M 1) (h0 : ¬ S 5 + x ≤ 20000 → Post M 0) : wX4_hasHoursLeft Post M t x := by
  have e3 : M t 3 = nI hr := by
    rw [← hh]
    exact hT.rd (k := 0) (j := 3) (i := 5) (Or.inl ⟨rfl, by omega, by omega, rfl⟩)
  have e20 : (20000 : Int32).toInt = 20000 := by decide
  have er : (nI hr).toInt = hr := nI_toInt (by omega)
  have es : ((20000 : Int32) - nI hr).toInt = 20000 - hr := by rw [i_sub (by omega) (by omega), e20, er]
  have ea : (S 5 + x).toInt = hr + x.toInt := by rw [hh, i_add (by omega) (by omega), er]
  unfold wX4_hasHoursLeft
  rw [e3]
  refine ⟨fun d => h0 (fun z => ?_), fun d => h1 (i_le.mpr ?_)⟩
  · have a := i_lt.mp d
    have b := i_le.mp z
    omega
  · have : ¬ ((20000 : Int32) - nI hr).toInt < x.toInt := fun z => d (i_lt.mpr z)
    omega
theorem sp6_hour {Post : Mm → Int32 → Prop} {M : Mm} {P : Nat → Nat} {S : SS} {n m tt s hr : Nat} {b : Int32} (hp : HP M P) (hs : M 47 0 = nI s) (h4 : s ≤ 4) (hT : TR M 1 S n m tt) (hw : Wf S n m tt) (hf : VF S m) (hv : VC S n) (hh : S 5 = nI hr) (h2 : hr ≤ 20000)
    (hnn : inr 0 1000 b = true → hr < 20000 → ¬ flowF S n m b 7 - S 7 ≤ -1000001)
    (h : ∀ M', CA M M' P s S (goesF S n m b).1 n m tt n m tt (goesF S n m b).2 → Post M' (goesF S n m b).2) : wX6_hour Post M 0 b := by
  have e1 : (1 : Int32).toInt = 1 := by decide
  have e20 : (20000 : Int32).toInt = 20000 := by decide
  have er : (nI hr).toInt = hr := nI_toInt (by omega)
  have ea : (S 5 + 1).toInt = hr + 1 := by rw [hh, i_add (by omega) (by omega), er, e1]
  unfold goesF at h
  refine sp6_isOutside (a := 0) (b := 1000) (by decide) (by decide) ⟨fun d => ?_, fun d => ?_⟩
  · have g1 : inr 0 1000 b = true := by
      have := b2i_0.mp d
      cases hh : inr 0 1000 b
      · rw [hh] at this; cases this
      · rfl
    rw [if_pos g1] at h
    have hb : 0 ≤ b.toInt := by have := of_decide_eq_true g1; omega
    refine sp4_hasHoursLeft (t := 1) hT hh h2 (by omega) (by omega) (fun c => ⟨fun _ => ?_, fun y => absurd y (by decide)⟩) (fun c => ⟨fun y => absurd rfl y, fun _ => ?_⟩)
    · have hlt : hr < 20000 := by have := i_le.mp c; omega
      rw [if_neg (by rw [hh]; intro z; have := nI_inj (b := 20000) (by omega) (by omega) z; omega)] at h
      refine sp_rec hp hs h4 hT hw (fun M1 hT1 h141 mk => sp4_passHour (t := 1) hT1 hw hf hv hb (fun M2 hT2 hfr => ?_))
      exact h M2 (mk M2 _ _ _ _ _ hT2 (fun a ha => hfr a (by omega)) (hnn g1 hlt))
    · have heq : hr = 20000 := by
        have : ¬ (S 5 + 1).toInt ≤ (20000 : Int32).toInt := fun z => c (i_le.mpr z)
        omega
      rw [if_pos (by rw [hh, heq]; rfl)] at h
      exact h M (CA_none hT hp (show (-1000003 : Int32) ≤ -1000001 by decide))
  · rw [if_neg (fun z => by rw [z] at d; exact d rfl)] at h
    exact h M (CA_none hT hp (show (-1000001 : Int32) ≤ -1000001 by decide))
theorem sp6_run {Post : Mm → Int32 → Prop} {M : Mm} {P : Nat → Nat} {S : SS} {n m tt s hr : Nat} {x b : Int32} (hp : HP M P) (hs : M 47 0 = nI s) (h4 : s ≤ 4) (hT : TR M 1 S n m tt) (hV : V0 S n m tt) (hh : S 5 = nI hr) (h2 : hr ≤ 20000)
    (hnn : ∀ k, k ≤ 100 → hr + k ≤ 20000 → inr 0 1000 b = true → ¬ (rsF S n m b k).2 ≤ -1000001)
    (h : ∀ M', CA M M' P s S (runsF S n m 100 x b).1 n m tt n m tt (runsF S n m 100 x b).2 → Post M' (runsF S n m 100 x b).2) : wX6_run Post M 0 x b := by
  have e20 : (20000 : Int32).toInt = 20000 := by decide
  have er : (nI hr).toInt = hr := nI_toInt (by omega)
  unfold runsF at h
  have bad : ¬ (inr 1 (100 + 1) x = true ∧ inr 0 1000 b = true) → Post M (-1000001) := by
    intro z
    rw [if_neg z] at h
    exact h M (CA_none hT hp (show (-1000001 : Int32) ≤ -1000001 by decide))
  refine sp6_isOutside (a := 1) (b := 101) (by decide) (by decide) ⟨fun d => bad (by rintro ⟨z, -⟩; rw [z] at d; exact d rfl), fun d => sp6_isOutside (a := 0) (b := 1000) (by decide) (by decide) ⟨fun d2 => ?_, fun d2 => bad (by rintro ⟨-, z⟩; rw [z] at d2; exact d2 rfl)⟩⟩
  have g1 : inr 1 101 x = true := by
    have := b2i_0.mp d
    cases hh : inr 1 101 x
    · rw [hh] at this; cases this
    · rfl
  have g2 : inr 0 1000 b = true := by
    have := b2i_0.mp d2
    cases hh : inr 0 1000 b
    · rw [hh] at this; cases this
    · rfl
  rw [if_pos ⟨g1, g2⟩] at h
  obtain ⟨k, k1, k2, ek⟩ := inr_of g1
  subst ek
  have ekk : (nI k).toInt = k := nI_toInt (by omega)
  have hb : 0 ≤ b.toInt := by have := of_decide_eq_true g2; omega
  have ea : (S 5 + nI k).toInt = hr + k := by rw [hh, i_add (by omega) (by omega), er, ekk]
  rw [ixn (by omega)] at h
  refine sp4_hasHoursLeft (t := 1) hT hh h2 (by omega) (by omega) (fun c => ⟨fun _ => ?_, fun y => absurd y (by decide)⟩) (fun c => ⟨fun y => absurd rfl y, fun _ => ?_⟩)
  · rw [if_pos c] at h
    have hle : hr + k ≤ 20000 := by have := i_le.mp c; omega
    refine sp_rec hp hs h4 hT hV.1 (fun M1 hT1 h141 mk => sp4_runHours (t := 1) hT1 hV rfl (by omega) hb (fun M2 hT2 hfr => ?_))
    exact h M2 (mk M2 _ _ _ _ _ hT2 (fun a ha => hfr a (by omega)) (hnn k (by omega) hle g2))
  · rw [if_neg c] at h
    exact h M (CA_none hT hp (show (-1000003 : Int32) ≤ -1000001 by decide))
