/-! 'hour': one hour, looked at field by field and gate by gate -/
theorem HM.low {M M' : Mm} {S : SS} {n m tt : Nat} (h : HM M S n m tt) (e : ∀ a, a < 143 → M' a = M a) : HM M' S n m tt := by
  obtain ⟨hV, hE, hT, ⟨P, s, hp, hs, h4⟩, ⟨L, hL⟩⟩ := h
  exact ⟨hV, hE, hT.of (fun j _ _ => by rw [e 1 (by omega)]) (fun k _ _ => by rw [e (1 + k) (by omega)]), ⟨P, s, hp.of (e 48 (by omega)), by rw [e 47 (by omega)]; exact hs, h4⟩, ⟨L, by rw [e 141 (by omega)]; exact hL⟩⟩
def HR (M : Mm) (S : SS) (n m tt ja jb : Nat) (A B : SS) : Prop := HM M S n m tt ∧ M ja = A ∧ M jb = B
section HQ
variable {P : Mm → Int32 → Prop} {M : Mm} {S : SS} {n m tt ja jb : Nat} {A B : SS} {x y v : Int32}
theorem HR.to (ha : 143 ≤ ja) (hb : 143 ≤ jb) (h : HR M S n m tt ja jb A B) {M2 : Mm} (c : CQ M M2 S n m tt) : (M2 ja = M ja ∧ M2 jb = M jb) ∧ HR M2 S n m tt ja jb A B := by
  have e1 := c.2.1 ja (by omega) (by omega)
  have e2 := c.2.1 jb (by omega) (by omega)
  exact ⟨⟨e1, e2⟩, h.1.to c, by rw [e1]; exact h.2.1, by rw [e2]; exact h.2.2⟩
theorem rC (ha : 143 ≤ ja) (hb : 143 ≤ jb) (h : HR M S n m tt ja jb A B) (hv : ∀ s L, cntF S n m s L y = v) (k : ∀ M2, HR M2 S n m tt ja jb A B → P M2 v) : wX6_count (fun M2 r => (M2 ja = M ja ∧ M2 jb = M jb) ∧ P M2 r) M 0 y :=
  qC h.1 h.1.self hv (fun M2 c => ⟨(h.to ha hb c).1, k M2 (h.to ha hb c).2⟩)
theorem rF (ha : 143 ≤ ja) (hb : 143 ≤ jb) (h : HR M S n m tt ja jb A B) (hv : fofF S m x y = v) (k : ∀ M2, HR M2 S n m tt ja jb A B → P M2 v) : wX6_fieldOf (fun M2 r => (M2 ja = M ja ∧ M2 jb = M jb) ∧ P M2 r) M 0 x y :=
  qF h.1 h.1.self hv (fun M2 c => ⟨(h.to ha hb c).1, k M2 (h.to ha hb c).2⟩)
theorem rK (ha : 143 ≤ ja) (hb : 143 ≤ jb) (h : HR M S n m tt ja jb A B) (hv : cofF S n x y = v) (k : ∀ M2, HR M2 S n m tt ja jb A B → P M2 v) : wX6_canalOf (fun M2 r => (M2 ja = M ja ∧ M2 jb = M jb) ∧ P M2 r) M 0 x y :=
  qK h.1 h.1.self hv (fun M2 c => ⟨(h.to ha hb c).1, k M2 (h.to ha hb c).2⟩)
end HQ
theorem oo_cg {S S' : SS} : ∀ i, (∀ g, 1 ≤ g → g < i → ca S' g 4 = ca S g 4) → oo S' i = oo S i := by
  intro i
  induction i with
  | zero => intro _; rfl
  | succ i ih =>
    intro h
    unfold oo
    by_cases e : i = 0
    · rw [if_pos e, if_pos e]
    · rw [if_neg e, if_neg e, ih (fun g g1 g2 => h g g1 (by omega)), h i (by omega) (by omega)]
/-- what is known of the hour that went by -/
def HF (S F : SS) (n m tt : Nat) (x : Int32) : Prop := VV F n m tt ∧ HRS S F n m x ∧ (∀ c, c < n → pa F c = pa S c) ∧ (∀ f, f < m → at_ F f = at_ S f) ∧ (∀ f, f < m → fi F f 2 = fi S f 2) ∧ oo F n = oo S n ∧ VO S n ∧ VF S m
section HO2
variable {Post : Mm → Int32 → Prop} {M : Mm} {S F : SS} {n m tt ja jb : Nat} {A B : SS} {x : Int32}
/-- the gates, from the first one on -/
theorem hr_gates (ha : 143 ≤ ja) (hb : 143 ≤ jb) (hF : HF S F n m tt x) (h : HR M F n m tt ja jb A B) (k : ∀ M2, HM M2 F n m tt → Post M2 1) : ∃ q : Nat, lL_hour_335 ja jb Post q M 0 (oo S n) 1 1 := by
  obtain ⟨hV, ⟨-, -, -, hG⟩, hpa, -, -, -, hO, -⟩ := id hF
  obtain ⟨⟨hW, -, -, hC, -, -⟩, -, -⟩ := id hV
  have h8 := hW.2.2.2.1.2
  have h1n := hW.2.2.2.1.1
  have w0 := hW.1
  refine pk_loop (fun q i (y : Mm) => lL_hour_335 ja jb Post q y 0 (oo S n) 1 (nI i)) (fun i y => 1 ≤ i ∧ HR y F n m tt ja jb A B) n 1 M h1n ⟨Nat.le_refl _, h⟩ ?_ ?_
  · rintro q M2 ⟨-, h⟩
    show bL_hour_335 ja jb Post (lL_hour_335 ja jb Post q) M2 0 _ 1 (nI n)
    unfold bL_hour_335
    refine rC ha hb h (v := F 0) (fun _ _ => rfl) (fun M3 h => ⟨fun _ => ⟨Or.inr rfl, k M3 h.1⟩, fun d => absurd ?_ d⟩)
    rw [w0]
    exact nI_le (Nat.le_refl _) (by omega)
  · rintro q i M2 hi ⟨hi1, h⟩ ih
    show bL_hour_335 ja jb Post (lL_hour_335 ja jb Post q) M2 0 _ 1 (nI i)
    have fin : ∀ M7, HR M7 F n m tt ja jb A B → ∀ x9, x9 = nI i + 1 → lL_hour_335 ja jb Post q M7 0 (oo S n) 1 x9 := by
      intro M7 c7 x9 e9
      rw [e9, nI_1]
      exact ih M7 ⟨by omega, c7⟩
    have hpi := (hW.2.2.2.2.2.2.1 i hi1 hi).1
    have epa : cofF F n (nI i) 0 = nI (pa F i) := (cof0 hi h8 (by omega)).trans (hW.2.2.2.2.2.2.1 i hi1 hi).2
    unfold bL_hour_335
    refine rC ha hb h (v := F 0) (fun _ _ => rfl) (fun M3 h => ⟨fun d => absurd d (by rw [w0]; exact nI_ge hi (by omega)), fun _ => ⟨fun d => absurd d (by decide), fun _ => ?_⟩⟩)
    refine rK ha hb h (cof7 hi h8) (fun M3 h => ⟨fun _ => fin M3 h, fun d => ?_⟩)
    obtain ⟨y1, y2⟩ := (hG i hi1 hi).resolve_left d
    rw [← hpa i hi] at y2
    have eb : ((oo S n >>> (nI i &&& 31)) &&& (1 : Int32)) = 1 := by
      rw [bit1 _ (by omega), oo_ofB hO n (Nat.le_refl _), ofB_bt n (by omega) i (by omega), decide_eq_true hi]
      unfold opn
      rw [decide_eq_true y1]; rfl
    refine ⟨fun d => absurd eb d, fun _ => ?_⟩
    refine rK ha hb h (cof7 hi h8) (fun M3 h => ?_)
    refine rK ha hb h epa (fun M3 h => ?_)
    exact rK ha hb h (cof7 (by omega) h8) (fun M3 h => ⟨fun d => absurd (i_lt.mp d) (by omega), fun _ => fin M3 h⟩)
/-- the way up from a field's canal -/
theorem hr_path (ha : 143 ≤ ja) (hb : 143 ≤ jb) (hF : HF S F n m tt x) {f : Nat} (hf : f < m) {g : Int32} {A187 : Mm → Nat → Int32 → Int32 → Int32 → Prop} (hB : B f = b2i (mtF S f m)) (hg0 : 0 ≤ g.toInt) (hg1 : g.toInt ≤ (fi S f 2).toInt) (hg2 : g = 0 ∨ (mtF S f m = true ∧ g.toInt ≤ (ca F (at_ S f) 6).toInt))
    (k : ∀ M2, HR M2 F n m tt ja jb A B → ∀ y, y = nI f + 1 → A187 M2 0 (oo S n) 1 y) : ∀ c, c < n → ∀ q, c < q → ∀ (M : Mm) (x12 : Int32), HR M F n m tt ja jb A B → (x12 = 0 ∨ x12 = 1) → (g ≠ 0 → x12 = 1 ∧ 0 < (ca F c 6).toInt) → lL_hour_228 ja jb Post A187 q M 0 (oo S n) (nI f) g x12 (nI c) := by
  obtain ⟨hV, ⟨-, -, -, hG⟩, hpa, hat, hmo, -, hO, -⟩ := id hF
  obtain ⟨⟨hW, -, -, hC, -, -⟩, -, -⟩ := id hV
  have h8 := hW.2.2.2.1.2
  have h10 := hW.2.2.2.2.1
  have z0 : (0 : Int32).toInt = 0 := by decide
  intro c
  induction c using Nat.strongRecOn with
  | ind c ih =>
    intro hc q hq M x12 h h01 hx
    obtain ⟨q, rfl⟩ : ∃ q', q = q' + 1 := ⟨q - 1, by omega⟩
    by_cases c0 : c = 0
    · subst c0
      show bL_hour_228 ja jb Post A187 (lL_hour_228 ja jb Post A187 q) M 0 _ (nI f) g x12 (nI 0)
      unfold bL_hour_228
      refine ⟨fun _ => ⟨fun d => absurd (i_lt.mp d) (by omega), fun _ => ?_⟩, fun d => absurd (by decide) d⟩
      refine rF ha hb h ((fof2 hf h10).trans (hmo f hf)) (fun M3 h => ⟨fun d => absurd (i_lt.mp d) (by omega), fun _ => ⟨fun _ => k M3 h, fun hg => ?_⟩⟩)
      obtain ⟨mt, gc⟩ := hg2.resolve_left hg
      refine ⟨vp_in_nI (by omega) (by omega), ?_⟩
      have eM : M3 jb (ix (nI f)) = 1 := by rw [ixn (by omega), h.2.2, hB, mt]; rfl
      refine ⟨fun d => absurd eM d, fun _ => ⟨fun d => ?_, fun _ => ?_⟩⟩
      · rw [(hx hg).1] at d; exact absurd d (by decide)
      · have e0 : fofF F m (nI f) 0 = nI (at_ F f) := (fof0 hf h10).trans (hW.2.2.2.2.2.2.2 f hf).2
        refine rF ha hb h e0 (fun M3 h => ?_)
        refine rK ha hb h (cof7 (hW.2.2.2.2.2.2.2 f hf).1 h8) (fun M3 h => ⟨fun d => absurd (i_lt.mp d) ?_, fun _ => k M3 h⟩)
        rw [hat f hf]
        omega
    · have hpc := (hW.2.2.2.2.2.2.1 c (by omega) hc).1
      have epa : cofF F n (nI c) 0 = nI (pa F c) := (cof0 hc h8 c0).trans (hW.2.2.2.2.2.2.1 c (by omega) hc).2
      have eb : ((oo S n >>> (nI c &&& 31)) &&& (1 : Int32)) = b2i (opn S c) := by
        rw [bit1 _ (by omega), oo_ofB hO n (Nat.le_refl _), ofB_bt n (by omega) c (by omega), decide_eq_true hc, Bool.true_and]
      have hup : g ≠ 0 → opn S c = true ∧ 0 < (ca F (pa F c) 6).toInt := by
        intro hg
        have hpos := (hx hg).2
        obtain ⟨y1, y2⟩ := (hG c (by omega) hc).resolve_left (fun z => by rw [z, z0] at hpos; omega)
        rw [← hpa c hc] at y2
        refine ⟨?_, by omega⟩
        unfold opn
        exact decide_eq_true y1
      have h00 : ∀ y : Int32, (y = 0 ∨ y = 1) → (y &&& 0 = 0) ∧ (y &&& 1 = y) := by
        rintro y (rfl | rfl) <;> decide
      have hQ : ∀ M x', HR M F n m tt ja jb A B → (x' = 0 ∨ x' = 1) → (g ≠ 0 → x' = 1 ∧ 0 < (ca F (pa F c) 6).toInt) → lL_hour_228 ja jb Post A187 q M 0 (oo S n) (nI f) g x' (nI (pa F c)) := fun M x' h a b => ih (pa F c) hpc (by omega) q (by omega) M x' h a b
      show bL_hour_228 ja jb Post A187 (lL_hour_228 ja jb Post A187 q) M 0 _ (nI f) g x12 (nI c)
      unfold bL_hour_228
      refine ⟨fun d => absurd ((nI_leI (a := c) (b := 0) (by omega) (by omega)).mp d) (by omega), fun _ => ?_⟩
      rw [eb]
      refine ⟨fun d => ?_, fun d => ?_⟩
      · have e0 : opn S c = false := by
          cases z : opn S c
          · rfl
          · rw [z] at d; exact absurd rfl d
        intro x' e'
        rw [(h00 x12 h01).1] at e'
        subst e'
        refine rK ha hb h epa (fun M3 h => hQ M3 0 h (Or.inl rfl) (fun hg => ?_))
        rw [e0] at hup
        exact absurd (hup hg).1 (by decide)
      · intro x' e'
        rw [(h00 x12 h01).2] at e'
        subst e'
        exact rK ha hb h epa (fun M3 h => hQ M3 x' h h01 (fun hg => ⟨(hx hg).1, (hup hg).2⟩))
/-- the fields, one by one -/
theorem hr_fields (ha : 143 ≤ ja) (hb : 143 ≤ jb) (hF : HF S F n m tt x) (hA : ∀ f, f < m → A f = fi S f 4) (hB : ∀ f, f < m → B f = b2i (mtF S f m)) (h : HR M F n m tt ja jb A B) (k : ∀ M2, HM M2 F n m tt → Post M2 1) : ∃ q : Nat, lL_hour_187 ja jb Post q M 0 (oo S n) 1 0 := by
  obtain ⟨hV, ⟨-, -, hf, -⟩, hpa, hat, hmo, -, hO, hVF⟩ := id hF
  obtain ⟨⟨hW, -, -, hC, -, -⟩, -, -⟩ := id hV
  have h8 := hW.2.2.2.1.2
  have h10 := hW.2.2.2.2.1
  have w1 := hW.2.1
  refine pk_loop (fun q i (y : Mm) => lL_hour_187 ja jb Post q y 0 (oo S n) 1 (nI i)) (fun i y => HR y F n m tt ja jb A B) m 0 M (Nat.zero_le _) h ?_ ?_
  · intro q M2 h
    show bL_hour_187 ja jb Post (lL_hour_187 ja jb Post q) M2 0 _ 1 (nI m)
    unfold bL_hour_187
    refine rC ha hb h (v := F 1) (fun _ _ => rfl) (fun M3 h => ⟨fun _ => hr_gates ha hb hF h k, fun d => absurd ?_ d⟩)
    rw [w1]
    exact nI_le (Nat.le_refl _) (by omega)
  · intro q i M2 hi h ih
    show bL_hour_187 ja jb Post (lL_hour_187 ja jb Post q) M2 0 _ 1 (nI i)
    obtain ⟨g, c1, c2, c3, c4⟩ := hf i hi
    have e0 : fofF F m (nI i) 0 = nI (at_ F i) := (fof0 hi h10).trans (hW.2.2.2.2.2.2.2 i hi).2
    unfold bL_hour_187
    refine rC ha hb h (v := F 1) (fun _ _ => rfl) (fun M3 h => ⟨fun d => absurd d (by rw [w1]; exact nI_ge hi (by omega)), fun _ => ⟨fun d => absurd d (by decide), fun _ => ?_⟩⟩)
    refine rF ha hb h (fof4 hi h10) (fun M3 h => ⟨vp_in_nI (by omega) (by omega), ?_⟩)
    intro x11 e11
    have e11' : x11 = g := by
      rw [e11, ixn (by omega), h.2.1, hA i hi, c1, Int32.add_comm, Int32.add_sub_cancel]
    subst e11'
    refine rF ha hb h e0 (fun M3 h => ⟨at_ F i + 1, ?_⟩)
    refine hr_path ha hb hF hi (hB i hi) c2 c3 c4 (fun M7 h7 y ey => ?_) (at_ F i) (hW.2.2.2.2.2.2.2 i hi).1 (at_ F i + 1) (by omega) M3 1 h (Or.inr rfl) (fun hg => ⟨rfl, ?_⟩)
    · rw [ey, nI_1]
      exact ih M7 h7
    · rw [hat i hi]
      have := (c4.resolve_left hg).2
      have hne : x11.toInt ≠ 0 := fun z => hg (i_eq.mpr (by rw [z]; rfl))
      omega
theorem in_200 {x : Int32} : (200 ≤ x → inB x = 200) ∧ (¬ 200 ≤ x → inB x = x) := by
  have e : (200 : Int32).toInt = 200 := by decide
  unfold inB
  refine ⟨fun h => ?_, fun h => ?_⟩
  · by_cases z : x ≤ 200
    · rw [if_pos z]
      have := i_le.mp h
      have := i_le.mp z
      exact i_eq.mpr (by omega)
    · rw [if_neg z]
  · have : ¬ (200 : Int32).toInt ≤ x.toInt := fun z => h (i_le.mpr z)
    rw [if_pos (i_le.mpr (by omega))]
theorem sp_lhour {hr : Nat} (h : HM M S n m tt) (hh : S 5 = nI hr) (hlt : hr < 20000) (hx : inr 0 1000 x = true) (k : ∀ M2, HM M2 (flowF S n m x) n m tt → (flowF S n m x) 5 = nI (hr + 1) → Post M2 1) : wL_hour Post M 0 x := by
  intro ja jb ha hab
  have hb : 143 ≤ jb := by omega
  obtain ⟨hV, hE, -⟩ := id h
  obtain ⟨⟨hW, -, hF, hC, hO, -⟩, -, hA⟩ := id hV
  have h8 := hW.2.2.2.1.2
  have h10 := hW.2.2.2.2.1
  have w1 := hW.2.1
  have hx0 : 0 ≤ x.toInt := by have := i_rg hx; omega
  obtain ⟨V1, V2, -, -, -⟩ := VV_flow hV hx0 hh hlt
  obtain ⟨E1, R1⟩ := flow_all hV hE hx0 hh hlt
  have hS0 : HR (mz (mz M ja) jb) S n m tt ja jb (mz (mz M ja) jb ja) (mz (mz M ja) jb jb) := ⟨h.low (fun a ha' => by rw [mz_o a (by omega), mz_o a (by omega)]), rfl, rfl⟩
  have hHF : HF S (flowF S n m x) n m tt x := by
    refine ⟨V1, R1, fun c hc => ?_, fun f hf => ?_, fun f hf => ?_, oo_cg n (fun g g1 g2 => ?_), hO, hF⟩
    · unfold pa ca
      rw [flowF_st h8 (still_ca (c := c) (w := 0) (by omega) (by omega)) (fun f _ => by omega)]
    · unfold at_ fi
      rw [flowF_st h8 (still_fi (f := f) (w := 0) (by omega) (by omega) (by omega) (by omega)) (fun f _ => by omega)]
    · exact flowF_st h8 (still_fi (f := f) (w := 2) (by omega) (by omega) (by omega) (by omega)) (fun f _ => by omega)
    · exact flowF_st h8 (still_ca (c := g) (w := 4) (by omega) (by omega)) (fun f _ => by omega)
  have w0F := V1.1.1.1
  have h1n := hW.2.2.2.1.1
  -- behind the hour
  have fields : ∀ M A B, HR M (flowF S n m x) n m tt ja jb A B → (∀ f, f < m → A f = fi S f 4) → (∀ f, f < m → B f = b2i (mtF S f m)) → ∃ q : Nat, lL_hour_187 ja jb Post q M 0 (oo S n) 1 0 := fun M A B h' a b => hr_fields ha hb hHF a b h' (fun M2 h2 => k M2 h2 V2)
  have e174 : ∀ M A B, HR M (flowF S n m x) n m tt ja jb A B → (∀ f, f < m → A f = fi S f 4) → (∀ f, f < m → B f = b2i (mtF S f m)) → ∀ t0, t0 = inB x → bL_hour_174 ja jb Post M 0 (oo S n) t0 (inB x) := by
    intro M A B h' a b t0 e
    subst e
    exact ⟨fun d => absurd rfl d, fun _ => fields M A B h' a b⟩
  have e139 : ∀ M A B, HR M (flowF S n m x) n m tt ja jb A B → (∀ f, f < m → A f = fi S f 4) → (∀ f, f < m → B f = b2i (mtF S f m)) → ∀ t0, t0 = inB x → bL_hour_139 ja jb Post M 0 x (oo S n) t0 (S 6) (flowF S n m x 6) := by
    intro M A B h' a b t0 e
    subst e
    refine ⟨fun d => absurd R1.1 d, fun _ => ?_⟩
    refine rC ha hb h' (v := oo S n) (fun _ _ => hHF.2.2.2.2.2.1) (fun M3 h' => ⟨fun d => absurd rfl d, fun _ => ?_⟩)
    have e7 : cofF (flowF S n m x) n (nI 0) 7 = inB x := (cof7 (by omega) h8).trans R1.2.1
    exact rK ha hb h' e7 (fun M3 h' => ⟨fun d => e174 M3 A B h' a b _ (in_200.1 d).symm, fun d => e174 M3 A B h' a b _ (in_200.2 d).symm⟩)
  unfold bL_hour_m
  refine rC ha hb hS0 (v := oo S n) (fun _ _ => rfl) (fun M2 h2 => ?_)
  refine rC ha hb h2 (v := S 5) (fun _ _ => rfl) (fun M2 h2 => ?_)
  refine rC ha hb h2 (v := S 6) (fun _ _ => rfl) (fun M2 h2 => ?_)
  refine rC ha hb h2 (v := S 7) (fun _ _ => rfl) (fun M2 h2 => ?_)
  refine pk_loop (fun q i (y : Mm × SS × SS) => lL_hour_44 ja jb Post q y.1 0 x (oo S n) (S 5) (S 6) (S 7) (nI i)) (fun i y => HR y.1 S n m tt ja jb y.2.1 y.2.2 ∧ ∀ f, f < i → y.2.1 f = fi S f 4 ∧ y.2.2 f = b2i (mtF S f m)) m 0 (M2, _, _) (Nat.zero_le _) ⟨h2, fun f hf => by omega⟩ ?_ ?_
  · rintro q ⟨M3, A, B⟩ ⟨h3, hAB⟩
    dsimp only at h3 hAB
    show bL_hour_44 ja jb Post (lL_hour_44 ja jb Post q) M3 0 x _ _ _ _ (nI m)
    unfold bL_hour_44
    refine rC ha hb h3 (v := S 1) (fun _ _ => rfl) (fun M3 h3 => ⟨fun _ => ?_, fun d => absurd (by rw [w1]; exact nI_le (Nat.le_refl _) (by omega)) d⟩)
    obtain ⟨-, -, hT, ⟨P, s, hp, hs, h4⟩, -⟩ := id h3.1
    have hne : ¬ S 5 = 20000 := fun z => by rw [hh] at z; have := nI_inj (b := 20000) (by omega) (by omega) z; omega
    have eg : goesF S n m x = (flowF S n m x, flowF S n m x 7 - S 7) := by unfold goesF; rw [if_pos hx, if_neg hne]
    refine sp6_hour hp hs h4 hT hW hF hC hh (by omega) (fun _ _ => hour_nn hV hx0 hh hlt) (fun M4 c4 => ?_)
    rw [eg] at c4 ⊢
    have h4' : HM M4 (flowF S n m x) n m tt := h3.1.act hp hs h4 c4 V1 E1
    have ea : M4 ja = M3 ja := c4.2.1 ja (by omega)
    have eb : M4 jb = M3 jb := c4.2.1 jb (by omega)
    refine ⟨⟨ea, eb⟩, ?_⟩
    have h4r : HR M4 (flowF S n m x) n m tt ja jb A B := ⟨h4', by rw [ea]; exact h3.2.1, by rw [eb]; exact h3.2.2⟩
    refine rC ha hb h4r (v := flowF S n m x 7) (fun _ _ => rfl) (fun M5 h5 => ⟨fun d => absurd rfl d, fun _ => ?_⟩)
    refine rC ha hb h5 (v := flowF S n m x 5) (fun _ _ => rfl) (fun M5 h5 => ⟨fun d => absurd (by rw [V2, hh, nI_1]) d, fun _ => ?_⟩)
    exact rC ha hb h5 (v := flowF S n m x 6) (fun _ _ => rfl) (fun M5 h5 => ⟨fun d => e139 M5 A B h5 (fun f hf => (hAB f hf).1) (fun f hf => (hAB f hf).2) _ (in_200.1 d).symm, fun d => e139 M5 A B h5 (fun f hf => (hAB f hf).1) (fun f hf => (hAB f hf).2) _ (in_200.2 d).symm⟩)
  · rintro q i ⟨M3, A, B⟩ hi ⟨h3, hAB⟩ ih
    dsimp only at h3 hAB
    show bL_hour_44 ja jb Post (lL_hour_44 ja jb Post q) M3 0 x _ _ _ _ (nI i)
    unfold bL_hour_44
    refine rC ha hb h3 (v := S 1) (fun _ _ => rfl) (fun M3 h3 => ⟨fun d => absurd d (by rw [w1]; exact nI_ge hi (by omega)), fun _ => ?_⟩)
    refine rF ha hb h3 (fof4 hi h10) (fun M3 h3 => ⟨vp_in_nI (by omega) (by omega), fun M5 e5 => ?_⟩)
    rw [ixn (by omega)] at e5
    have h5 : HR M5 S n m tt ja jb (upd A i (fi S i 4)) B := ⟨h3.1.low (fun a ha' => by rw [e5]; exact mu_o a (by omega)), by rw [e5, mu_s, h3.2.1], by rw [e5, mu_o jb (by omega), h3.2.2]⟩
    refine rF ha hb h5 (fof6 hi h10) (fun M6 h6 => ⟨vp_in_nI (by omega) (by omega), fun M7 e7 x8 e8 => ?_⟩)
    rw [ixn (by omega)] at e7
    have h7 : HR M7 S n m tt ja jb (upd A i (fi S i 4)) (upd B i (b2i (mtF S i m))) := ⟨h6.1.low (fun a ha' => by rw [e7]; exact mu_o a (by omega)), by rw [e7, mu_o ja (by omega), h6.2.1], by rw [e7, mu_s, h6.2.2]⟩
    rw [e8, nI_1]
    refine ih (M7, _, _) ⟨h7, fun f hf => ?_⟩
    by_cases ef : f = i
    · subst ef
      exact ⟨upd_s, upd_s⟩
    · show upd A i _ f = _ ∧ upd B i _ f = _
      rw [upd_o ef, upd_o ef]
      exact hAB f (by omega)
end HO2
