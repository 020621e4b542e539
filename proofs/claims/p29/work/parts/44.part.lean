/-! the class: water parted among gates -/
theorem i_div {x y : Int32} (hx : 0 ≤ x.toInt) (hy : 0 < y.toInt) : (x / y).toInt = x.toInt / y.toInt := by
  have hr := i_rng x
  have h0 : x.toInt / y.toInt ≤ x.toInt := Int.ediv_le_self _ hx
  have h1 : 0 ≤ x.toInt / y.toInt := Int.ediv_nonneg hx (Int.le_of_lt hy)
  rw [Int32.toInt_div, Int.tdiv_eq_ediv_of_nonneg hx]
  exact i_bmod (by omega) (by omega)
theorem sub_add' (a b c : Int32) : a - (b + c) = a - b - c := by
  rw [Int32.sub_eq_add_neg, Int32.neg_add, Int32.sub_eq_add_neg, Int32.sub_eq_add_neg, Int32.sub_eq_add_neg, Int32.add_assoc]
theorem imn_le {x y : Int32} : imn x y = if x ≤ y then x else y := by
  unfold imn
  by_cases h : y < x
  · rw [if_pos h]
    have a := i_lt.mp h
    have : ¬ x ≤ y := fun z => by have := i_le.mp z; omega
    rw [if_neg this]
  · rw [if_neg h]
    have a : ¬ y.toInt < x.toInt := fun z => h (i_lt.mpr z)
    rw [if_pos (i_le.mpr (by omega))]
theorem thr_imn {S : SS} {g : Nat} {p : Int32} : imn (if ca S g 1 = 1 then (p + 1) / 2 else p) (ca S g 2) = thr S g p := by
  rw [imn_le]; rfl
theorem thr_rng {S : SS} {g : Nat} {p : Int32} (hp : 0 ≤ p.toInt) (hp2 : p.toInt ≤ 1000) (hw : 1 ≤ (ca S g 2).toInt ∧ (ca S g 2).toInt ≤ 500) : 0 ≤ (thr S g p).toInt ∧ (thr S g p).toInt ≤ 500 ∧ (thr S g p).toInt ≤ p.toInt := by
  have e1 : (1 : Int32).toInt = 1 := by decide
  have e2 : (2 : Int32).toInt = 2 := by decide
  have hX : 0 ≤ (if ca S g 1 = 1 then (p + 1) / 2 else p).toInt ∧ (if ca S g 1 = 1 then (p + 1) / 2 else p).toInt ≤ p.toInt := by
    split
    · have a : (p + 1).toInt = p.toInt + 1 := by rw [i_add (by omega) (by omega), e1]
      rw [i_div (by omega) (by omega), a, e2]
      omega
    · omega
  unfold thr
  revert hX
  generalize (if ca S g 1 = 1 then (p + 1) / 2 else p) = X
  intro hX
  by_cases h : X ≤ ca S g 2
  · rw [if_pos h]
    have := i_le.mp h
    omega
  · rw [if_neg h]
    have : ¬ X.toInt ≤ (ca S g 2).toInt := fun z => h (i_le.mpr z)
    omega
theorem mod_rng {w : Int32} {k : Nat} (h0 : 0 ≤ w.toInt) (h1 : w.toInt ≤ 500) (hk : 1 ≤ k) (hk8 : k ≤ 8) : 0 ≤ (w / nI k).toInt ∧ (w / nI k).toInt ≤ 500 ∧ (w - w / nI k * nI k).toInt = w.toInt - (w / nI k).toInt * k ∧ 0 ≤ w.toInt - (w / nI k).toInt * k ∧ w.toInt - (w / nI k).toInt * k < k := by
  have ek : (nI k).toInt = k := nI_toInt (by omega)
  have ed : (w / nI k).toInt = w.toInt / k := by rw [i_div h0 (by omega), ek]
  have a1 : 0 ≤ w.toInt / k := Int.ediv_nonneg h0 (by omega)
  have a2 : w.toInt / k ≤ w.toInt := Int.ediv_le_self _ h0
  have a3 : w.toInt / k * k ≤ w.toInt := Int.ediv_mul_le _ (by omega)
  have a4 : w.toInt < (w.toInt / k + 1) * k := Int.lt_ediv_add_one_mul_self _ (by omega)
  have a5 : (w.toInt / k + 1) * k = w.toInt / k * k + k := by rw [Int.add_mul, Int.one_mul]
  have a6 : 0 ≤ w.toInt / k * k := Int.mul_nonneg a1 (by omega)
  have em : (w / nI k * nI k).toInt = w.toInt / k * k := by rw [i_mul (by rw [ed, ek]; omega) (by rw [ed, ek]; omega), ed, ek]
  refine ⟨by omega, by omega, ?_, by rw [ed]; omega, by rw [ed]; omega⟩
  rw [i_sub (by rw [em]; omega) (by rw [em]; omega), em, ed]
theorem pr_none {S0 : SS} {m c n : Nat} {q : Int32} {init : SS × Int32 × Int32} (h : mn S0 m c n = 0) : ∀ i, i ≤ n → pr S0 m c q init i = init := by
  intro i
  induction i with
  | zero => intro _; rfl
  | succ g ih =>
    intro hi
    unfold pr
    rw [if_neg, ih (by omega)]
    rintro ⟨a, b⟩
    have := mn_pos a b (show g < n by omega)
    omega
/-- what passes is as the state says -/
def pok (M : Mm) (t : Nat) (S : SS) (n m c : Nat) : Prop := ∀ g, c < g → g < n → pa S g = c → bt (M t 10) g = ltF S m c g
theorem sp4_isPassingFrom {Post : Mm → Int32 → Prop} {M : Mm} {t : Nat} {S : SS} {n m tt c g : Nat} {x y : Int32} (hpar : M (t + 1 + 1) g = nI (pa S g)) (hpl : pa S g < n) (hb : pa S g = c → bt (M t 10) g = ltF S m c g) (h8 : n ≤ 8) (hc : c < n) (hg : g < n) (hx : x = nI c) (hy : y = nI g) (hP : Post M (b2i (ltF S m c g))) : wX4_isPassingFrom Post M t x y := by
  subst hx
  subst hy
  unfold wX4_isPassingFrom
  rw [ixn (by omega), hpar]
  refine ⟨vp_in_nI (by omega) (by omega), fun d => ?_, fun d => ?_⟩
  · have : ltF S m c g = false := by
      unfold ltF
      rw [decide_eq_false (fun z => d (by rw [z]))]; rfl
    rw [this] at hP
    exact hP
  · have hpc : pa S g = c := nI_inj (by omega) (by omega) d
    exact bool_and (P := fun r => Post M r) (by omega) (hb hpc) hP
/-- over and more: the same while there is more -/
def om (i : Nat) (o r : Int32) : Prop := 0 ≤ r.toInt ∧ r.toInt ≤ 8 ∧ ((o.toInt = r.toInt) ∨ (r.toInt = 0 ∧ -(i : Int) ≤ o.toInt ∧ o.toInt ≤ 0))
theorem om_step {i : Nat} {o r : Int32} (hi : i ≤ 8) (h : om i o r) : (o ≤ 0 ↔ r ≤ 0) ∧ om (i + 1) (o + -1) (mdec r) ∧ om (i + 1) o r := by
  obtain ⟨a, b, c⟩ := h
  have e0 : (0 : Int32).toInt = 0 := by decide
  have e1 : (-1 : Int32).toInt = -1 := by decide
  have e2 : (1 : Int32).toInt = 1 := by decide
  have em : (o + -1).toInt = o.toInt - 1 := by rw [i_add (by omega) (by omega), e1]; omega
  refine ⟨?_, ?_, ⟨a, b, by omega⟩⟩
  · rw [i_le, i_le, e0]
    omega
  · unfold mdec
    by_cases h : r ≤ 0
    · rw [if_pos h]
      have := i_le.mp h
      have e : (r - 0).toInt = r.toInt := by rw [i_sub (by omega) (by omega), e0]; omega
      unfold om
      rw [e, em]
      omega
    · rw [if_neg h]
      have : ¬ r.toInt ≤ (0 : Int32).toInt := fun z => h (i_le.mpr z)
      have e : (r - 1).toInt = r.toInt - 1 := by rw [i_sub (by omega) (by omega), e2]
      unfold om
      rw [e, em]
      omega
theorem sp4_partAmongGates {Post : Mm → Int32 → Prop} {M : Mm} {t : Nat} {S : SS} {n m tt c : Nat} {x w : Int32} (h : TR M t S n m tt) (hw : Wf S n m tt) (hp : pok M t S n m c) (hc : c < n) (hx : x = nI c) (hw0 : 0 ≤ w.toInt) (hw5 : w.toInt ≤ 500)
    (hP : ∀ M', TR M' t (partF S m n c w).1 n m tt → (∀ a, a ≠ t + 7 → M' a = M a) → Post M' (w - (partF S m n c w).2)) : wX4_partAmongGates Post M t x w := by
  obtain ⟨q0, q1, q2, ⟨q3, q4⟩, q5, q6, q7, q8⟩ := hw
  subst hx
  intro x4 e4
  rw [e4, nI_1]
  have epar : ∀ g, 1 ≤ g → g < n → M (t + 1 + 1) g = nI (pa S g) := by
    intro g g1 g2
    rw [← (q7 g g1 g2).2]
    exact h.rd (k := 2) (j := g) (i := 10 + 9 * g) (by unfold mp; omega)
  have esz : M (t + 1) 0 = nI n := h.2.1
  have hmn := mn_le (S := S) (m := m) (c := c) n
  have mnc : ∀ i, i ≤ n → mn S m c i ≤ n := fun i hi => Nat.le_trans (mn_le i) hi
  refine pk_loop (fun q i (y : Int32) => lX4_partAmongGates_7 Post q M t (nI c) w y (nI i)) (fun i y => c + 1 ≤ i ∧ y = nI (mn S m c i)) n (c + 1) 0 (by omega) ⟨Nat.le_refl _, by rw [mn_init _ (Nat.le_refl _)]; rfl⟩ ?_ ?_
  · rintro q y ⟨-, e⟩
    subst e
    refine ⟨fun _ => ⟨fun d => ⟨d, fun x4 e4 => ⟨d, fun x5 e5 x7 e7 => ?_⟩⟩, fun d => ?_⟩, fun z => absurd ?_ z⟩
    · have hk : 1 ≤ mn S m c n := Nat.pos_of_ne_zero (fun z => d (by rw [z]; rfl))
      rw [e7, nI_1]
      subst e4
      have hm0 : more0 w (mn S m c n) = w - w / nI (mn S m c n) * nI (mn S m c n) := by
        unfold more0; rw [if_neg (by omega)]
      obtain ⟨r1, r2, r3, r4, r5⟩ := mod_rng hw0 hw5 hk (show mn S m c n ≤ 8 by omega)
      have hin : pr S m c (w / nI (mn S m c n)) (S, w, more0 w (mn S m c n)) (c + 1) = (S, w, more0 w (mn S m c n)) := pr_init _ (Nat.le_refl _)
      refine pk_loop (σ := Mm × Int32 × Int32) (fun q i s => lX4_partAmongGates_62 Post q s.1 t (nI c) (w / nI (mn S m c n)) s.2.1 s.2.2 (nI i)) (fun i s => c + 1 ≤ i ∧ TR s.1 t (pr S m c (w / nI (mn S m c n)) (S, w, more0 w (mn S m c n)) i).1 n m tt ∧ om i s.2.1 (pr S m c (w / nI (mn S m c n)) (S, w, more0 w (mn S m c n)) i).2.2 ∧ w - s.2.2 = (pr S m c (w / nI (mn S m c n)) (S, w, more0 w (mn S m c n)) i).2.1 ∧ ∀ a, a ≠ t + 7 → s.1 a = M a) n (c + 1) (M, x5, 0) (by omega) ⟨Nat.le_refl _, by rw [hin]; exact h, by rw [hin, e5]; exact ⟨by show 0 ≤ (more0 w (mn S m c n)).toInt; rw [hm0, r3]; omega, by show (more0 w (mn S m c n)).toInt ≤ 8; rw [hm0, r3]; omega, Or.inl (by show _ = (more0 w (mn S m c n)).toInt; rw [hm0])⟩, by rw [hin, Int32.sub_zero], fun _ _ => rfl⟩ ?_ ?_
      · rintro q ⟨M', o, th⟩ ⟨-, hT, ho, ht, hfr⟩
        dsimp only at hT ho ht hfr ⊢
        refine ⟨fun _ => ?_, fun z => absurd ?_ z⟩
        · have := hP M' hT hfr
          have e2 : w - (partF S m n c w).2 = th := by
            show w - (pr S m c (w / nI (mn S m c n)) (S, w, more0 w (mn S m c n)) n).2.1 = th
            rw [← ht, Int32.sub_eq_add_neg w (w - th), Int32.neg_sub, Int32.add_comm, Int32.sub_add_cancel]
          rw [e2] at this
          exact this
        · rw [hT.2.1]; exact nI_le (Nat.le_refl _) (by omega)
      · rintro q i ⟨M', o, th⟩ hi ⟨hci, hT, ho, ht, hfr⟩ ih
        dsimp only at hT ho ht hfr ⊢
        have hSA := pr_SA (S0 := S) (m := m) (c := c) (q := w / nI (mn S m c n)) (a := w) (b := more0 w (mn S m c n)) i (by omega)
        obtain ⟨o1, o2, o3⟩ := om_step (show i ≤ 8 by omega) ho
        have epi : pr S m c (w / nI (mn S m c n)) (S, w, more0 w (mn S m c n)) (i + 1) = if c < i ∧ ltF S m c i = true then (upd (pr S m c (w / nI (mn S m c n)) (S, w, more0 w (mn S m c n)) i).1 (10 + 9 * i + 6) (thr S i (ptq (w / nI (mn S m c n)) (pr S m c (w / nI (mn S m c n)) (S, w, more0 w (mn S m c n)) i).2.2)), (pr S m c (w / nI (mn S m c n)) (S, w, more0 w (mn S m c n)) i).2.1 - thr S i (ptq (w / nI (mn S m c n)) (pr S m c (w / nI (mn S m c n)) (S, w, more0 w (mn S m c n)) i).2.2), mdec (pr S m c (w / nI (mn S m c n)) (S, w, more0 w (mn S m c n)) i).2.2) else pr S m c (w / nI (mn S m c n)) (S, w, more0 w (mn S m c n)) i := rfl
        revert hT ho ht hSA epi o1 o2 o3 ih
        generalize pr S m c (w / nI (mn S m c n)) (S, w, more0 w (mn S m c n)) i = P
        intro hT ho ht ih hSA o1 o2 o3 epi
        have vi : vp_in (nI i) 8 := vp_in_nI (by omega) (by omega)
        refine ⟨fun z => absurd z ?_, fun _ => sp4_isPassingFrom (S := S) (n := n) (m := m) (tt := tt) (c := c) (g := i) (by rw [hfr _ (by omega)]; exact epar i (by omega) hi) (by have := (q7 i (by omega) hi).1; omega) (fun z => by rw [hfr _ (by omega)]; exact hp i (by omega) hi z) q4 hc hi rfl rfl ⟨fun d x7 e7 => ?_, fun d => ?_⟩⟩
        · rw [hT.2.1]; exact nI_ge hi (by omega)
        · rw [e7, nI_1]
          rw [if_neg (by rw [b2i_0.mp d]; rintro ⟨-, z⟩; cases z)] at epi
          exact ih (M', o, th) ⟨by omega, by rw [epi]; exact hT, by rw [epi]; exact o3, by rw [epi]; exact ht, hfr⟩
        · rw [if_pos ⟨by omega, b2i_1.mp ((b2i_01 _).resolve_left d)⟩] at epi
          have rk : M' (t + 1 + 2) i = ca S i 1 := by
            rw [hfr _ (by omega)]
            exact h.rd (k := 3) (j := i) (i := 10 + 9 * i + 1) (by unfold mp; omega)
          have rw3 : M' (t + 1 + 3) i = ca S i 2 := by
            rw [hfr _ (by omega)]
            exact h.rd (k := 4) (j := i) (i := 10 + 9 * i + 2) (by unfold mp; omega)
          have f110 : ∀ pt, pt = ptq (w / nI (mn S m c n)) P.2.2 → bX4_partAmongGates_110 Post (lX4_partAmongGates_62 Post q) M' t (nI c) (w / nI (mn S m c n)) o th (nI i) pt (nI i) t (nI i) (t + 1 + 6) := by
            intro pt ept
            have f22 : ∀ X, X = (if ca S i 1 = 1 then (pt + 1) / 2 else pt) → bX4_throughGate_22 (fun M21 r22 => vp_in (nI i) 8 ∧ (∀ M23 : Mm, M23 = mu M21 (t + 1 + 6) (ix (nI i)) r22 → (vp_in (nI i) 8 ∧ (∀ x6_24 : Int32, x6_24 = (th + (M23 ((t + 1) + 6) (ix (nI i)))) → (∀ x5_25 : Int32, x5_25 = o + (-1 : Int32) → (∀ x7_26 : Int32, x7_26 = nI i + (1 : Int32) → (lX4_partAmongGates_62 Post q M23 t (nI c) (w / nI (mn S m c n)) x5_25 x6_24 x7_26))))))) M' t (nI i) X := by
              intro X eX
              unfold bX4_throughGate_22
              rw [ixn (by omega), rw3, eX, thr_imn]
              refine ⟨vi, vi, fun M23 e23 => ⟨vi, fun x6 e6 x5' e5' x7 e7 => ?_⟩⟩
              rw [e7, nI_1, e5']
              have eM : M23 = mu M' (t + 7) i (thr S i pt) := e23
              have e6' : x6 = th + thr S i pt := by
                rw [e6, e23, mu_at]
              rw [e6']
              refine ih (M23, o + -1, th + thr S i pt) ⟨by omega, ?_, ?_, ?_, fun a ha => ?_⟩
              · rw [epi, eM, ept]
                exact TR_upd q4 q5 hT (k0 := 7) (j0 := i) (i0 := 10 + 9 * i + 6) (by unfold mp; omega) (by omega)
              · rw [epi]; exact o2
              · rw [epi, ept]
                show w - (th + _) = _ - _
                rw [sub_add', ht]
              · show M23 a = M a
                rw [eM, mu_row (by omega), hfr a ha]
            unfold bX4_partAmongGates_110 wX4_throughGate
            rw [ixn (by omega), rk]
            refine ⟨vi, fun d2 => ?_, fun d2 => ?_⟩
            · have := f22 pt (by rw [if_neg d2])
              rw [ixn (by omega)] at this
              exact this
            · have := f22 ((pt + 1) / 2) (by rw [if_pos d2])
              rw [ixn (by omega)] at this
              exact this
          refine ⟨fun d2 => f110 _ ?_, fun d2 => f110 _ ?_⟩
          · unfold ptq; rw [if_pos (o1.mp d2), Int32.add_zero]
          · unfold ptq; rw [if_neg (fun z => d2 (o1.mpr z))]
    · have h0 : mn S m c n = 0 := nI_inj (by omega) (by omega) d
      have e : partF S m n c w = (S, w) := by
        unfold partF
        rw [pr_none h0 n (Nat.le_refl _)]
      have := hP M (by rw [e]; exact h) (fun _ _ => rfl)
      rw [e, Int32.sub_self] at this
      exact this
    · rw [esz]; exact nI_le (Nat.le_refl _) (by omega)
  · rintro q i y hi ⟨hci, e⟩ ih
    subst e
    have es : mn S m c (i + 1) = mn S m c i + (if c < i ∧ ltF S m c i = true then 1 else 0) := rfl
    refine ⟨fun z => absurd z ?_, fun _ => sp4_isPassingFrom (S := S) (n := n) (m := m) (tt := tt) (c := c) (g := i) (epar i (by omega) hi) (by have := (q7 i (by omega) hi).1; omega) (fun z => hp i (by omega) hi z) q4 hc hi rfl rfl ⟨fun d x4 e4 => ?_, fun d x3 e3 x4 e4 => ?_⟩⟩
    · rw [esz]; exact nI_ge hi (by omega)
    · rw [e4, nI_1]
      refine ih _ ⟨by omega, ?_⟩
      rw [es, if_neg (by rw [b2i_0.mp d]; rintro ⟨-, z⟩; cases z), Nat.add_zero]
    · rw [e4, nI_1, e3, nI_1]
      refine ih _ ⟨by omega, ?_⟩
      rw [es, if_pos ⟨by omega, b2i_1.mp ((b2i_01 _).resolve_left d)⟩]
