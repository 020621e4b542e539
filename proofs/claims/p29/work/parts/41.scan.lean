/-! the class: calls below, gates that let through -/
def ch (S : SS) (n : Nat) (o : Bool) (c g x : Nat) : Prop := ∃ d, g < d ∧ d < n ∧ pa S d = c ∧ (o = true → ca S d 4 = 1) ∧ (x = d ∨ isB S o d x = true)
theorem isB_up {S : SS} {o : Bool} {n c : Nat} (hp : ∀ c, 1 ≤ c → c < n → pa S c < c) (h8 : n ≤ 8) : ∀ x, x < n → (isB S o c x = true ↔ ch S n o c 0 x) := by
  intro x
  induction x using Nat.strongRecOn with
  | ind x ih =>
    intro hx
    rw [isB_eq hp hx h8]
    constructor
    · intro h
      rw [Bool.and_eq_true, Bool.and_eq_true, Bool.or_eq_true, Bool.or_eq_true] at h
      obtain ⟨⟨h1, h2⟩, h3⟩ := h
      have hcx := of_decide_eq_true h1
      have hop : o = true → ca S x 4 = 1 := by
        intro ho
        rcases h2 with h2 | h2
        · rw [ho] at h2; cases h2
        · exact of_decide_eq_true h2
      have hpx := hp x (by omega) hx
      rcases h3 with h3 | h3
      · exact ⟨x, by omega, hx, of_decide_eq_true h3, hop, Or.inl rfl⟩
      · obtain ⟨d, d1, d2, d3, d4, d5⟩ := (ih (pa S x) hpx (by omega)).mp h3
        refine ⟨d, d1, d2, d3, d4, Or.inr ?_⟩
        rw [isB_eq hp hx h8]
        have hdx : d < x := by
          rcases d5 with e | e
          · omega
          · have := isB_eq (o := o) (top := d) hp (show pa S x < n by omega) h8
            rw [e] at this
            have h4 := this.symm
            rw [Bool.and_eq_true, Bool.and_eq_true] at h4
            have := of_decide_eq_true h4.1.1
            omega
        rw [decide_eq_true hdx]
        rcases d5 with e | e
        · rw [decide_eq_true e]
          rcases h2 with h2 | h2
          · rw [h2]; rfl
          · rw [h2]; simp
        · rw [e]
          rcases h2 with h2 | h2
          · rw [h2]; simp
          · rw [h2]; simp
    · rintro ⟨d, d1, d2, d3, d4, d5⟩
      have hpd := hp d (by omega) d2
      rcases d5 with e | e
      · subst e
        rw [decide_eq_true (show c < x by omega), decide_eq_true d3]
        cases o
        · rfl
        · rw [decide_eq_true (d4 rfl)]; rfl
      · rw [isB_eq hp hx h8, Bool.and_eq_true, Bool.and_eq_true] at e
        obtain ⟨⟨e1, e2⟩, e3⟩ := e
        have hdx := of_decide_eq_true e1
        have hpx := hp x (by omega) hx
        rw [decide_eq_true (show c < x by omega), e2]
        have : isB S o c (pa S x) = true := by
          refine (ih (pa S x) hpx (by omega)).mpr ⟨d, d1, d2, d3, d4, ?_⟩
          rw [Bool.or_eq_true] at e3
          exact e3.imp (fun z => of_decide_eq_true z) id
        rw [this]; simp
theorem ch_own {S : SS} {o : Bool} {n c x : Nat} (hp : ∀ c, 1 ≤ c → c < n → pa S c < c) (h8 : n ≤ 8) (hx : x < n) : ch S n o c c x ↔ isB S o c x = true := by
  rw [isB_up hp h8 x hx]
  constructor
  · rintro ⟨d, d1, d2, d3, d4, d5⟩
    exact ⟨d, by omega, d2, d3, d4, d5⟩
  · rintro ⟨d, d1, d2, d3, d4, d5⟩
    have := hp d (by omega) d2
    exact ⟨d, by omega, d2, d3, d4, d5⟩
theorem ch_step {S : SS} {o : Bool} {n c i x : Nat} (hi : i + 1 < n) : ch S n o c i x ↔ (ch S n o c (i + 1) x ∨ (pa S (i + 1) = c ∧ (o = true → ca S (i + 1) 4 = 1) ∧ (x = i + 1 ∨ isB S o (i + 1) x = true))) := by
  constructor
  · rintro ⟨d, d1, d2, d3, d4, d5⟩
    by_cases e : d = i + 1
    · subst e; exact Or.inr ⟨d3, d4, d5⟩
    · exact Or.inl ⟨d, by omega, d2, d3, d4, d5⟩
  · rintro (⟨d, d1, d2, d3, d4, d5⟩ | ⟨d3, d4, d5⟩)
    · exact ⟨d, by omega, d2, d3, d4, d5⟩
    · exact ⟨i + 1, by omega, hi, d3, d4, d5⟩
theorem mtF_iff {S : SS} {f : Nat} : ∀ i, mtF S f i = true ↔ ∀ k, k < i → ¬ (fi S k 5 = 1 ∧ fi S k 3 < fi S f 3 ∧ isB S true (at_ S f) (at_ S k) = true) := by
  intro i
  induction i with
  | zero => exact ⟨fun _ k hk => absurd hk (by omega), fun _ => rfl⟩
  | succ i ih =>
    unfold mtF
    rw [Bool.and_eq_true, ih]
    constructor
    · rintro ⟨a, b⟩ k hk
      by_cases e : k = i
      · subst e
        rintro ⟨p, q, r⟩
        rw [decide_eq_true p, decide_eq_true q, r] at b
        cases b
      · exact a k (by omega)
    · intro h
      refine ⟨fun k hk => h k (by omega), ?_⟩
      have := h i (by omega)
      cases hh : (decide (fi S i 5 = 1) && decide (fi S i 3 < fi S f 3) && isB S true (at_ S f) (at_ S i))
      · rfl
      · rw [Bool.and_eq_true, Bool.and_eq_true] at hh
        exact absurd ⟨of_decide_eq_true hh.1.1, of_decide_eq_true hh.1.2, hh.2⟩ this
theorem iwF_iff {S : SS} {c : Nat} : ∀ i, iwF S c i = true ↔ ∃ k, k < i ∧ wt S k = true ∧ (at_ S k = c ∨ isB S false c (at_ S k) = true) := by
  intro i
  induction i with
  | zero => exact ⟨fun h => (by cases h), fun ⟨k, hk, _⟩ => absurd hk (by omega)⟩
  | succ i ih =>
    unfold iwF
    rw [Bool.or_eq_true, ih, Bool.and_eq_true, Bool.or_eq_true]
    constructor
    · rintro (⟨k, a, b, c⟩ | ⟨b, c⟩)
      · exact ⟨k, by omega, b, c⟩
      · exact ⟨i, by omega, b, c.imp (fun z => of_decide_eq_true z) id⟩
    · rintro ⟨k, a, b, c⟩
      by_cases e : k = i
      · subst e; exact Or.inr ⟨b, c.imp (fun z => decide_eq_true z) id⟩
      · exact Or.inl ⟨k, by omega, b, c⟩
theorem imn_lt {a b r : Int32} : imn a b < r ↔ a < r ∨ b < r := by
  unfold imn
  by_cases h : b < a
  · rw [if_pos h, i_lt, i_lt]
    have := i_lt.mp h
    omega
  · rw [if_neg h, i_lt, i_lt]
    have : ¬ b.toInt < a.toInt := fun z => h (i_lt.mpr z)
    omega
def fil (R : SS) (x : Int32) (i : Nat) : SS := fun j => if j < i then x else R j
theorem sp_fill {Post : Mm → Prop} {M : Mm} {a : Nat} {x : Int32} (h : Post (sr M a (fil (M a) x 8))) : wJ7_fill_53178 Post M a x := by
  show ∃ q : Nat, lJ7_fill_53178_5 Post q M a x (nI 0) (nI 8)
  refine pk_loop (fun q i (M' : Mm) => lJ7_fill_53178_5 Post q M' a x (nI i) (nI 8)) (fun i M' => M' = sr M a (fil (M a) x i)) 8 0 M (by omega) ?_ ?_ ?_
  · have : fil (M a) x 0 = M a := by funext j; unfold fil; rw [if_neg (by omega)]
    rw [this, sr_self]
  · intro q M' e
    subst e
    exact ⟨fun _ => h, fun z => absurd (show nI 8 ≤ nI 8 by decide) z⟩
  · intro q i M' hi e ih
    subst e
    refine ⟨fun z => absurd z (nI_ge hi (by decide)), fun _ => ⟨vp_in_nI hi (by omega), fun M3 e3 x2 e2 => ?_⟩⟩
    rw [e2, nI_1]
    refine ih _ ?_
    rw [e3, ixn (by omega), mu_sr, sr_sr, sr_s]
    congr 1
    funext j
    by_cases e : j = i
    · subst e; rw [upd_s]; unfold fil; rw [if_pos (by omega)]
    · rw [upd_o e]; unfold fil
      by_cases h2 : j < i
      · rw [if_pos h2, if_pos (by omega)]
      · rw [if_neg h2, if_neg (by omega)]
/-- the oldest right that calls by a way -/
def lo (S : SS) (n m : Nat) (R : SS) (P : Nat → Nat → Prop) : Prop := ∀ c, c < n → ∀ r : Int32, r ≤ 100 → (R c < r ↔ ∃ k, k < m ∧ fi S k 5 = 1 ∧ P c (at_ S k) ∧ fi S k 3 < r)
theorem TR_sc {M M' : Mm} {t : Nat} {S : SS} {n m tt : Nat} (h : TR M t S n m tt) (hM : ∀ a, a ≠ t + 21 → a ≠ t + 22 → M' a = M a) : TR M' t S n m tt :=
  h.of (fun j _ _ => by rw [hM t (by omega) (by omega)]) (fun k h1 h2 => hM _ (by omega) (by omega))
/-- the gates that let through -/
theorem sp4_findCallsBelow {Post : Mm → Prop} {M : Mm} {t : Nat} {S : SS} {n m tt : Nat} (h : TR M t S n m tt) (hw : Wf S n m tt)
    (hP : ∀ R1 R2, lo S n m R2 (fun c x => isB S true c x = true) → Post (sr (sr M (t + 21) R1) (t + 22) R2)) : wX4_findCallsBelow Post M t := by
  obtain ⟨w0, w1, w2, ⟨w3, w4⟩, w5, w6, w7, w8⟩ := hw
  have hp : ∀ c, 1 ≤ c → c < n → pa S c < c := fun c a b => (w7 c a b).1
  refine sp_fill (sp_fill ?_)
  rw [sr_o (by omega)]
  -- over the gates, from the last one down
  have gates : ∀ R1, lo S n m R1 (fun c x => x = c) → ∀ x1, x1 = nI (n - 1) → ∃ q : Nat, lX4_findCallsBelow_92 Post q (sr (sr M (t + 21) R1) (t + 22) (fil (M (t + 22)) 100 8)) t x1 := by
    intro R1 h1 x1 e1
    subst e1
    refine ⟨n - 1 + 1, pk_loopD (fun q i (R : SS) => lX4_findCallsBelow_92 Post q (sr (sr M (t + 21) R1) (t + 22) R) t (nI i)) (fun i R => i < n ∧ lo S n m R (fun c x => ch S n true c i x)) ?_ ?_ (n - 1) _ ⟨by omega, ?_⟩⟩
    · rintro q R ⟨-, hR⟩
      refine ⟨fun _ => hP R1 R (fun c hc r hr => ?_), fun z => absurd (show nI 0 ≤ 0 by decide) z⟩
      rw [hR c hc r hr]
      constructor
      · rintro ⟨k, k1, k2, k3, k4⟩
        exact ⟨k, k1, k2, (isB_up hp w4 _ (w8 k k1).1).mpr k3, k4⟩
      · rintro ⟨k, k1, k2, k3, k4⟩
        exact ⟨k, k1, k2, (isB_up hp w4 _ (w8 k k1).1).mp k3, k4⟩
    · rintro q i R ⟨hi, hR⟩ ih
      have hT : TR (sr (sr M (t + 21) R1) (t + 22) R) t S n m tt := TR_sc h (fun a a1 a2 => by rw [sr_o a2, sr_o a1])
      have em1 : nI (i + 1) + -1 = nI i := by
        show nI (i + 1) + -1 = nI i
        rw [← nI_1, Int32.add_assoc]
        show nI i + (1 + -1) = nI i
        rw [show (1 : Int32) + -1 = 0 by decide, Int32.add_zero]
      have hpi := hp (i + 1) (by omega) hi
      refine ⟨fun z => absurd z (nI_ge (show 0 < i + 1 by omega) (by omega)), fun _ => sp0_isOpen hT w4 hi rfl ⟨fun d x1 e1 => ?_, fun d => ?_⟩⟩
      · rw [e1, em1]
        refine ih R ⟨by omega, fun c hc r hr => ?_⟩
        have hno : ¬ ca S (i + 1) 4 = 1 := of_decide_eq_false (b2i_0.mp d)
        rw [hR c hc r hr]
        constructor
        · rintro ⟨k, k1, k2, k3, k4⟩
          exact ⟨k, k1, k2, (ch_step hi).mpr (Or.inl k3), k4⟩
        · rintro ⟨k, k1, k2, k3, k4⟩
          rcases (ch_step hi).mp k3 with z | z
          · exact ⟨k, k1, k2, z, k4⟩
          · exact absurd (z.2.1 rfl) hno
      · have hop : ca S (i + 1) 4 = 1 := of_decide_eq_true (b2i_1.mp ((b2i_01 _).resolve_left d))
        have hv : vp_in (nI (i + 1)) 8 := vp_in_nI (by omega) (by omega)
        have epar : sr (sr M (t + 21) R1) (t + 22) R (t + 1 + 1) (i + 1) = nI (pa S (i + 1)) := by
          have e := hT.rd (k := 2) (j := i + 1) (i := 10 + 9 * (i + 1)) (by unfold mp; omega)
          have e2 : S (10 + 9 * (i + 1)) = nI (pa S (i + 1)) := (w7 (i + 1) (by omega) hi).2
          rw [← e2]
          exact e
        refine ⟨hv, fun x2 e2 => ?_⟩
        rw [ixn (by omega), epar] at e2
        subst e2
        refine ⟨vp_in_nI (by omega) (by omega), hv, hv, vp_in_nI (by omega) (by omega), fun M22 e22 x1 e1 => ?_⟩
        rw [e1, em1]
        rw [ixn (by omega), ixn (by omega)] at e22
        have e : M22 = sr (sr M (t + 21) R1) (t + 22) (upd R (pa S (i + 1)) (imn (R (pa S (i + 1))) (imn (R1 (i + 1)) (R (i + 1))))) := by
          rw [e22, mu_sr, sr_sr, sr_s, sr_o (by omega), sr_s]
        rw [e]
        refine ih _ ⟨by omega, fun c hc r hr => ?_⟩
        have hown := hR (i + 1) hi r hr
        by_cases ec : c = pa S (i + 1)
        · subst ec
          rw [upd_s, imn_lt, imn_lt, h1 (i + 1) hi r hr, hown, hR _ hc r hr]
          constructor
          · rintro (⟨k, k1, k2, k3, k4⟩ | ⟨k, k1, k2, k3, k4⟩ | ⟨k, k1, k2, k3, k4⟩)
            · exact ⟨k, k1, k2, (ch_step hi).mpr (Or.inl k3), k4⟩
            · exact ⟨k, k1, k2, (ch_step hi).mpr (Or.inr ⟨rfl, fun _ => hop, Or.inl k3⟩), k4⟩
            · exact ⟨k, k1, k2, (ch_step hi).mpr (Or.inr ⟨rfl, fun _ => hop, Or.inr ((ch_own hp w4 (w8 k k1).1).mp k3)⟩), k4⟩
          · rintro ⟨k, k1, k2, k3, k4⟩
            rcases (ch_step hi).mp k3 with z | ⟨-, -, z | z⟩
            · exact Or.inl ⟨k, k1, k2, z, k4⟩
            · exact Or.inr (Or.inl ⟨k, k1, k2, z, k4⟩)
            · exact Or.inr (Or.inr ⟨k, k1, k2, (ch_own hp w4 (w8 k k1).1).mpr z, k4⟩)
        · rw [upd_o ec, hR c hc r hr]
          constructor
          · rintro ⟨k, k1, k2, k3, k4⟩
            exact ⟨k, k1, k2, (ch_step hi).mpr (Or.inl k3), k4⟩
          · rintro ⟨k, k1, k2, k3, k4⟩
            rcases (ch_step hi).mp k3 with z | z
            · exact ⟨k, k1, k2, z, k4⟩
            · exact absurd z.1.symm ec
    · intro c hc r hr
      unfold fil
      rw [if_pos (by omega)]
      constructor
      · intro z
        have a := i_lt.mp z
        have b := i_le.mp hr
        omega
      · rintro ⟨k, -, -, ⟨d, d1, d2, -⟩, -⟩
        omega
  -- over the fields
  show ∃ q : Nat, lX4_findCallsBelow_20 Post q (sr (sr M (t + 21) (fil (M (t + 21)) 100 8)) (t + 22) (fil (M (t + 22)) 100 8)) t (nI 0)
  refine pk_loop (fun q i (R : SS) => lX4_findCallsBelow_20 Post q (sr (sr M (t + 21) R) (t + 22) (fil (M (t + 22)) 100 8)) t (nI i)) (fun i R => lo S n i R (fun c x => x = c)) m 0 (fil (M (t + 21)) 100 8) (Nat.zero_le _) ?_ ?_ ?_
  · intro c hc r hr
    unfold fil
    rw [if_pos (by omega)]
    constructor
    · intro z
      have a := i_lt.mp z
      have b := i_le.mp hr
      omega
    · rintro ⟨k, k1, -⟩
      omega
  · intro q R hR
    have hT : TR (sr (sr M (t + 21) R) (t + 22) (fil (M (t + 22)) 100 8)) t S n m tt := TR_sc h (fun a a1 a2 => by rw [sr_o a2, sr_o a1])
    refine ⟨fun _ x1 e1 => gates R hR x1 ?_, fun z => absurd ?_ z⟩
    · rw [e1, hT.2.1]
      obtain ⟨k, hk⟩ : ∃ k, n = k + 1 := ⟨n - 1, by omega⟩
      rw [hk, nI_m1]; rfl
    · rw [hT.2.2.2.1]; exact nI_le (Nat.le_refl _) (by omega)
  · intro q i R hi hR ih
    have hT : TR (sr (sr M (t + 21) R) (t + 22) (fil (M (t + 22)) 100 8)) t S n m tt := TR_sc h (fun a a1 a2 => by rw [sr_o a2, sr_o a1])
    refine ⟨fun z => absurd z ?_, fun _ => sp1_calls hT w5 hi rfl ⟨fun d x1 e1 => ?_, fun d => ?_⟩⟩
    · rw [hT.2.2.2.1]; exact nI_ge hi (by omega)
    · rw [e1, nI_1]
      refine ih R (fun c hc r hr => ?_)
      have hno : ¬ fi S i 5 = 1 := of_decide_eq_false (b2i_0.mp d)
      rw [hR c hc r hr]
      constructor
      · rintro ⟨k, k1, k2⟩; exact ⟨k, by omega, k2⟩
      · rintro ⟨k, k1, k2, k3⟩
        by_cases e : k = i
        · subst e; exact absurd k2 hno
        · exact ⟨k, by omega, k2, k3⟩
    · have hcl : fi S i 5 = 1 := of_decide_eq_true (b2i_1.mp ((b2i_01 _).resolve_left d))
      have hv : vp_in (nI i) 10 := vp_in_nI (by omega) (by omega)
      obtain ⟨a1, a2⟩ := w8 i hi
      have eat : sr (sr M (t + 21) R) (t + 22) (fil (M (t + 22)) 100 8) (t + 10 + 1) i = nI (at_ S i) := by
        rw [← a2]
        exact hT.rd (k := 11) (j := i) (i := 82 + 7 * i) (by unfold mp; omega)
      have ert : sr (sr M (t + 21) R) (t + 22) (fil (M (t + 22)) 100 8) (t + 10 + 4) i = fi S i 3 := hT.rd (k := 14) (j := i) (i := 82 + 7 * i + 3) (by unfold mp; omega)
      refine ⟨hv, fun x2 e2 => ?_⟩
      rw [ixn (by omega), eat] at e2
      subst e2
      have hv2 : vp_in (nI (at_ S i)) 8 := vp_in_nI (by omega) (by omega)
      refine ⟨hv2, hv, hv2, fun M14 e14 x1 e1 => ?_⟩
      rw [e1, nI_1]
      rw [ixn (by omega), ixn (by omega), ert] at e14
      have e : M14 = sr (sr M (t + 21) (upd R (at_ S i) (imn (R (at_ S i)) (fi S i 3)))) (t + 22) (fil (M (t + 22)) 100 8) := by
        rw [e14, mu_sr, sr_o (by omega), sr_s]
        funext a
        by_cases q1 : a = t + 21
        · subst q1; rw [sr_s, sr_o (by omega), sr_s]
        · rw [sr_o q1]
          by_cases q2 : a = t + 22
          · subst q2; rw [sr_s, sr_s]
          · rw [sr_o q2, sr_o q2, sr_o q1, sr_o q1]
      rw [e]
      refine ih _ (fun c hc r hr => ?_)
      by_cases ec : c = at_ S i
      · subst ec
        rw [upd_s, imn_lt, hR _ hc r hr]
        constructor
        · rintro (⟨k, k1, k2⟩ | z)
          · exact ⟨k, by omega, k2⟩
          · exact ⟨i, by omega, hcl, rfl, z⟩
        · rintro ⟨k, k1, k2, k3, k4⟩
          by_cases e : k = i
          · subst e; exact Or.inr k4
          · exact Or.inl ⟨k, by omega, k2, k3, k4⟩
      · rw [upd_o ec, hR c hc r hr]
        constructor
        · rintro ⟨k, k1, k2⟩; exact ⟨k, by omega, k2⟩
        · rintro ⟨k, k1, k2, k3, k4⟩
          by_cases e : k = i
          · subst e; exact absurd k3.symm ec
          · exact ⟨k, by omega, k2, k3, k4⟩
