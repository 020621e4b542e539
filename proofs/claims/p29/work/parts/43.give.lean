/-! the class: fields served -/
def VF (S : SS) (m : Nat) : Prop := ∀ f, f < m → (1 ≤ (fi S f 1).toInt ∧ (fi S f 1).toInt ≤ 999) ∧ (1 ≤ (fi S f 2).toInt ∧ (fi S f 2).toInt ≤ 200) ∧ (0 ≤ (fi S f 3).toInt ∧ (fi S f 3).toInt ≤ 99) ∧ (0 ≤ (fi S f 4).toInt ∧ (fi S f 4).toInt ≤ (fi S f 1).toInt) ∧ (fi S f 5 = 0 ∨ fi S f 5 = 1)
theorem gv_imn {S : SS} {f : Nat} {left : Int32} : imn left (imn (fi S f 2) (fi S f 1 - fi S f 4)) = gv S f left := by
  have e : imn (fi S f 2) (fi S f 1 - fi S f 4) = if fi S f 1 - fi S f 4 ≤ fi S f 2 then fi S f 1 - fi S f 4 else fi S f 2 := by
    unfold imn
    by_cases h : fi S f 1 - fi S f 4 < fi S f 2
    · rw [if_pos h, if_pos (Int32.le_of_lt h)]
    · rw [if_neg h]
      by_cases h2 : fi S f 1 - fi S f 4 ≤ fi S f 2
      · rw [if_pos h2]
        have a : ¬ (fi S f 1 - fi S f 4).toInt < (fi S f 2).toInt := fun z => h (i_lt.mpr z)
        have b := i_le.mp h2
        exact i_eq.mpr (by omega)
      · rw [if_neg h2]
  rw [e]
  unfold gv
  generalize (if fi S f 1 - fi S f 4 ≤ fi S f 2 then fi S f 1 - fi S f 4 else fi S f 2) = d
  unfold imn
  by_cases h : d < left
  · rw [if_pos h, if_pos (Int32.le_of_lt h)]
  · rw [if_neg h]
    by_cases h2 : d ≤ left
    · rw [if_pos h2]
      have a : ¬ d.toInt < left.toInt := fun z => h (i_lt.mpr z)
      have b := i_le.mp h2
      exact i_eq.mpr (by omega)
    · rw [if_neg h2]
theorem gv_rng {S : SS} {m f : Nat} {left : Int32} (hv : VF S m) (hf : f < m) (hl : 0 ≤ left.toInt) (hw : wt S f = true) : 0 ≤ (gv S f left).toInt ∧ (gv S f left).toInt ≤ left.toInt ∧ (gv S f left).toInt ≤ (fi S f 1).toInt - (fi S f 4).toInt ∧ (gv S f left).toInt ≤ 200 := by
  obtain ⟨⟨a1, a2⟩, ⟨b1, b2⟩, -, ⟨d1, d2⟩, -⟩ := hv f hf
  have hlt := i_lt.mp (of_decide_eq_true hw)
  have es : (fi S f 1 - fi S f 4).toInt = (fi S f 1).toInt - (fi S f 4).toInt := i_sub (by omega) (by omega)
  unfold gv
  by_cases h1 : fi S f 1 - fi S f 4 ≤ fi S f 2
  · rw [if_pos h1]
    have := i_le.mp h1
    by_cases h2 : fi S f 1 - fi S f 4 ≤ left
    · rw [if_pos h2]
      have := i_le.mp h2
      omega
    · rw [if_neg h2]
      have : ¬ (fi S f 1 - fi S f 4).toInt ≤ left.toInt := fun z => h2 (i_le.mpr z)
      omega
  · rw [if_neg h1]
    have : ¬ (fi S f 1 - fi S f 4).toInt ≤ (fi S f 2).toInt := fun z => h1 (i_le.mpr z)
    by_cases h2 : fi S f 2 ≤ left
    · rw [if_pos h2]
      have := i_le.mp h2
      omega
    · rw [if_neg h2]
      have : ¬ (fi S f 2).toInt ≤ left.toInt := fun z => h2 (i_le.mpr z)
      omega
theorem sg_got {S : SS} {f : Nat} {g : Int32} : fi (sg S f g) f 4 = fi S f 4 + g := by
  unfold sg sg1
  show upd _ _ _ (82 + 7 * f + 4) = _
  rw [upd_o (by omega), upd_s]
theorem sg_fi {S : SS} {f f' w : Nat} {g : Int32} (hw : w < 7) (h4 : ¬ (f' = f ∧ w = 4)) (h6 : ¬ (f' = f ∧ w = 6)) : fi (sg S f g) f' w = fi S f' w := sg_o (by omega) (by omega)
theorem VF_sg {S : SS} {m f : Nat} {left : Int32} (hv : VF S m) (hf : f < m) (hl : 0 ≤ left.toInt) (hw : wt S f = true) : VF (sg S f (gv S f left)) m := by
  intro k hk
  obtain ⟨a, b, c, d, e⟩ := hv k hk
  rw [sg_fi (by omega) (by omega) (by omega), sg_fi (by omega) (by omega) (by omega), sg_fi (by omega) (by omega) (by omega), sg_fi (w := 5) (by omega) (by omega) (by omega)]
  refine ⟨a, b, c, ?_, e⟩
  by_cases hkf : k = f
  · subst hkf
    rw [sg_got]
    obtain ⟨g1, g2, g3, g4⟩ := gv_rng hv hk hl hw
    rw [i_add (by omega) (by omega)]
    omega
  · rw [sg_fi (by omega) (by omega) (by omega)]
    exact d
theorem srv_app : ∀ (l : List Nat) (S : SS) (w : Int32) (f : Nat), srv (l ++ [f]) S w = (sg (srv l S w).1 f (gv (srv l S w).1 f (srv l S w).2), (srv l S w).2 - gv (srv l S w).1 f (srv l S w).2) := by
  intro l
  induction l with
  | nil => intro S w f; rfl
  | cons a l ih => intro S w f; exact ih _ _ _
theorem srv_l : ∀ (l : List Nat) (S : SS) (left : Int32) (k : Nat), (∀ f, f ∈ l → k ≠ 82 + 7 * f + 4 ∧ k ≠ 82 + 7 * f + 6) → (srv l S left).1 k = S k := by
  intro l
  induction l with
  | nil => intro S left k _; rfl
  | cons f l ih =>
    intro S left k hl
    obtain ⟨a, b⟩ := hl f List.mem_cons_self
    show (srv l (sg S f (gv S f left)) (left - gv S f left)).1 k = S k
    rw [ih _ _ k (fun g hg => hl g (List.mem_cons_of_mem _ hg)), sg_o a b]
theorem upd_self {S : SS} {k : Nat} {v : Int32} (h : v = S k) : upd S k v = S := by
  funext j
  by_cases e : j = k
  · subst e; rw [upd_s, h]
  · rw [upd_o e]
/-- the fields served of the first i in the row of rights -/
def sA (S : SS) (m c : Nat) (w : Int32) (i : Nat) : SS × Int32 := srv (((ord S m).take i).filter (el S m c)) S w
theorem sA_end {S : SS} {m c : Nat} {w : Int32} : sA S m c w m = srv ((ord S m).filter (el S m c)) S w := by
  have : (ord S m).length = m := by
    have hi : ∀ (f : Nat) (l : List Nat), (ins S f l).length = l.length + 1 := by
      intro f l
      induction l with
      | nil => rfl
      | cons a l ih =>
        unfold ins
        split
        · rfl
        · simp [ih]
    have : ∀ i, (ord S i).length = i := by
      intro i
      induction i with
      | zero => rfl
      | succ i ih => unfold ord; rw [hi, ih]
    exact this m
  unfold sA
  rw [List.take_of_length_le (by omega)]
theorem sA_succ {S : SS} {m c f i : Nat} {w : Int32} (hf : (ord S m)[i]? = some f) : sA S m c w (i + 1) = if el S m c f = true then (sg (sA S m c w i).1 f (gv (sA S m c w i).1 f (sA S m c w i).2), (sA S m c w i).2 - gv (sA S m c w i).1 f (sA S m c w i).2) else sA S m c w i := by
  unfold sA
  rw [List.take_succ, hf, List.filter_append]
  show srv (_ ++ List.filter (el S m c) [f]) S w = _
  by_cases h : el S m c f = true
  · rw [if_pos h, List.filter_cons_of_pos h, List.filter_nil, srv_app]
  · rw [if_neg h, List.filter_cons_of_neg h, List.filter_nil, List.append_nil]
theorem sA_o {S : SS} {m c i k : Nat} {w : Int32} (h4 : ∀ f, f < m → k ≠ 82 + 7 * f + 4) (h6 : ∀ f, f < m → k ≠ 82 + 7 * f + 6) : (sA S m c w i).1 k = S k := by
  refine srv_l _ _ _ k (fun f hf => ?_)
  have := ord_mem.mp (List.mem_of_mem_take (List.mem_filter.mp hf).1)
  exact ⟨h4 f this, h6 f this⟩
theorem nodup_at {l : List Nat} (h : l.Pairwise (fun a b => a ≠ b)) {i f : Nat} (hf : l[i]? = some f) : f ∉ l.take i := by
  intro hm
  obtain ⟨j, hj⟩ := List.getElem?_of_mem hm
  have hji : j < i := by
    refine Decidable.byContradiction (fun z => ?_)
    rw [List.getElem?_take, if_neg z] at hj
    cases hj
  rw [List.getElem?_take, if_pos hji] at hj
  obtain ⟨h1, e1⟩ := List.getElem?_eq_some_iff.mp hj
  obtain ⟨h2, e2⟩ := List.getElem?_eq_some_iff.mp hf
  exact (List.pairwise_iff_getElem.mp h) j i h1 h2 hji (e1.trans e2.symm)
theorem sA_f {S : SS} {m c i f x : Nat} {w : Int32} (hf : (ord S m)[i]? = some f) (hx : x < 7) : fi (sA S m c w i).1 f x = fi S f x := by
  refine srv_l _ _ _ _ (fun g hg => ?_)
  have hn : f ∉ (ord S m).take i := nodup_at (ord_sorted.imp (fun {a b} h e => by subst e; exact bef_asymm h h)) hf
  have hne : g ≠ f := fun e => hn (e ▸ (List.mem_filter.mp hg).1)
  omega
theorem sA_inv {S : SS} {m c : Nat} {w : Int32} (hv : VF S m) (hw : 0 ≤ w.toInt) : ∀ i, i ≤ m → VF (sA S m c w i).1 m ∧ 0 ≤ (sA S m c w i).2.toInt ∧ (sA S m c w i).2.toInt ≤ w.toInt := by
  intro i
  induction i with
  | zero => intro _; exact ⟨hv, hw, Int.le_refl _⟩
  | succ i ih =>
    intro hi
    obtain ⟨i1, i2, i3⟩ := ih (by omega)
    have hlen : (ord S m).length = m := by
      have := @sA_end S m c w
      have hi2 : ∀ (f : Nat) (l : List Nat), (ins S f l).length = l.length + 1 := by
        intro f l
        induction l with
        | nil => rfl
        | cons a l ih =>
          unfold ins
          split
          · rfl
          · simp [ih]
      have : ∀ i, (ord S i).length = i := by
        intro i
        induction i with
        | zero => rfl
        | succ i ih => unfold ord; rw [hi2, ih]
      exact this m
    have hf : (ord S m)[i]? = some ((ord S m)[i]'(by omega)) := List.getElem?_eq_getElem _
    revert hf
    generalize (ord S m)[i]'(by omega) = f
    intro hf
    have hfm : f < m := ord_mem.mp (List.mem_of_getElem? hf)
    rw [sA_succ hf]
    by_cases h : el S m c f = true
    · rw [if_pos h]
      have hwt : wt (sA S m c w i).1 f = true := by
        unfold wt
        rw [sA_f hf (by omega), sA_f hf (by omega)]
        unfold el at h
        rw [Bool.and_eq_true, Bool.and_eq_true] at h
        exact h.1.2
      obtain ⟨g1, g2, g3, g4⟩ := gv_rng i1 hfm i2 hwt
      refine ⟨VF_sg i1 hfm i2 hwt, ?_, ?_⟩
      · show 0 ≤ ((sA S m c w i).2 - gv (sA S m c w i).1 f (sA S m c w i).2).toInt
        rw [i_sub (by have := i_rng w; omega) (by have := i_rng w; omega)]
        omega
      · show ((sA S m c w i).2 - gv (sA S m c w i).1 f (sA S m c w i).2).toInt ≤ _
        rw [i_sub (by have := i_rng w; omega) (by have := i_rng w; omega)]
        omega
    · rw [if_neg h]
      exact ⟨i1, i2, i3⟩
/-- what lies below decides as the state says -/
def mok (M : Mm) (t : Nat) (S : SS) (m : Nat) : Prop := ∀ f, f < m → (fi S f 3 ≤ M (t + 22) (at_ S f) ↔ mtF S f m = true)
theorem sp4_giveToFields {Post : Mm → Int32 → Prop} {M : Mm} {t : Nat} {S : SS} {n m tt c : Nat} {x w : Int32} (h : TR M t S n m tt) (hw : Wf S n m tt) (hv : VF S m) (hm : mok M t S m) (hc : c < n) (hx : x = nI c) (hw0 : 0 ≤ w.toInt)
    (hP : ∀ M', TR M' t (serveF S m c w).1 n m tt → (∀ a, a ≠ t → a ≠ t + 15 → a ≠ t + 16 → M' a = M a) → M' t 10 = M t 10 → M' t 3 = M t 3 → Post M' (w - (serveF S m c w).2)) : wX4_giveToFields Post M t x w := by
  obtain ⟨q0, q1, q2, ⟨q3, q4⟩, q5, q6, q7, q8⟩ := hw
  subst hx
  show ∃ q : Nat, lX4_giveToFields_5 Post q M t (nI c) w w (nI 0)
  refine pk_loop (σ := Mm × Int32) (fun q i s => lX4_giveToFields_5 Post q s.1 t (nI c) w s.2 (nI i)) (fun i s => TR s.1 t (sA S m c w i).1 n m tt ∧ s.2 = (sA S m c w i).2 ∧ ∀ a, a ≠ t + 15 → a ≠ t + 16 → s.1 a = M a) m 0 (M, w) (Nat.zero_le _) ⟨h, rfl, fun _ _ _ => rfl⟩ ?_ ?_
  · rintro q ⟨M', l⟩ ⟨hT, hl, hfr⟩
    dsimp only at hT hl hfr ⊢
    subst hl
    refine ⟨fun _ M3 e3 => ?_, fun z => absurd ?_ z⟩
    · have er : srv ((ord S m).filter (el S m c)) S w = sA S m c w m := sA_end.symm
      have es : serveF S m c w = (upd (sA S m c w m).1 7 ((sA S m c w m).1 7 + (w - (sA S m c w m).2)), (sA S m c w m).2) := by
        unfold serveF
        rw [er]
      have e7 : M' (t + 0) 5 = (sA S m c w m).1 7 := hT.rd (k := 0) (j := 5) (i := 7) (by unfold mp; omega)
      have e : M3 = mu M' (t + 0) 5 ((sA S m c w m).1 7 + (w - (sA S m c w m).2)) := by rw [e3, ← e7]; rfl
      have := hP M3 (by rw [e, es]; exact TR_upd q4 q5 hT (by unfold mp; omega) (by omega)) (fun a a0 a1 a2 => by rw [e, mu_row (by omega), hfr a a1 a2]) (by rw [e, mu_el (by omega), hfr t (by omega) (by omega)]) (by rw [e, mu_el (by omega), hfr t (by omega) (by omega)])
      rw [es] at this
      exact this
    · show M' (t + 10) 0 ≤ nI m
      rw [hT.2.2.2.1]; exact nI_le (Nat.le_refl _) (by omega)
  · rintro q i ⟨M', l⟩ hi ⟨hT, hl, hfr⟩ ih
    dsimp only at hT hl hfr ⊢
    subst hl
    obtain ⟨i1, i2, i3⟩ := sA_inv (c := c) hv hw0 i (by omega)
    obtain ⟨f, hf, ef⟩ := h.2.2.2.2.2.2.1 i hi
    have hfm : f < m := ord_mem.mp (List.mem_of_getElem? hf)
    have eby : M' (t + 10 + 7) i = nI f := by
      rw [hfr _ (by omega) (by omega)]
      exact ef
    have hvf : vp_in (nI f) 10 := vp_in_nI (by omega) (by omega)
    have eat : M' (t + 10 + 1) f = nI (at_ S f) := by
      rw [← (q8 f hfm).2, hfr _ (by omega) (by omega)]
      exact h.rd (k := 11) (j := f) (i := 82 + 7 * f) (by unfold mp; omega)
    have ert : M' (t + 10 + 4) f = fi S f 3 := by
      rw [hfr _ (by omega) (by omega)]
      exact h.rd (k := 14) (j := f) (i := 82 + 7 * f + 3) (by unfold mp; omega)
    have hal := (q8 f hfm).1
    have hwt : wt (sA S m c w i).1 f = wt S f := by
      unfold wt
      rw [sA_f hf (by omega), sA_f hf (by omega)]
    have es := sA_succ (c := c) (w := w) hf
    have skip : el S m c f = false → ∀ x4, x4 = nI i + 1 → lX4_giveToFields_5 Post q M' t (nI c) w (sA S m c w i).2 x4 := by
      intro he x4 e4
      rw [e4, nI_1]
      rw [if_neg (by rw [he]; decide)] at es
      exact ih (M', _) ⟨by rw [es]; exact hT, by rw [es], hfr⟩
    refine ⟨fun z => absurd z ?_, fun _ => ⟨vp_in_nI (by omega) (by omega), fun x5 e5 => ?_⟩⟩
    · show ¬ M' (t + 10) 0 ≤ nI i
      rw [hT.2.2.2.1]; exact nI_ge hi (by omega)
    · rw [ixn (by omega), eby] at e5
      subst e5
      rw [ixn (by omega), eat]
      refine ⟨hvf, fun d => skip ?_, fun d => sp1_wants hT q5 hfm rfl ?_⟩
      · have : at_ S f ≠ c := fun z => d (by rw [z])
        unfold el
        rw [decide_eq_false this]; rfl
      · have hatc : at_ S f = c := nI_inj (by omega) (by omega) d
        rw [hwt]
        refine ⟨fun d2 => skip ?_, fun d2 => ?_⟩
        · unfold el
          rw [b2i_0.mp d2, Bool.and_false]; rfl
        · have hw1 := b2i_1.mp ((b2i_01 _).resolve_left d2)
          have e22 : M' (t + 22) (at_ S f) = M (t + 22) (at_ S f) := by rw [hfr _ (by omega) (by omega)]
          unfold wX4_mayTake
          rw [ixn (by omega), eat, ixn (by omega), ert, e22]
          have hno : ∀ x4, x4 = nI i + 1 → mtF S f m = false → lX4_giveToFields_5 Post q M' t (nI c) w (sA S m c w i).2 x4 := by
            intro x4 e4 hz
            refine skip ?_ x4 e4
            unfold el
            rw [hz, Bool.and_false]
          have hyes : mtF S f m = true → wX1_give (fun M15 r16 => ∀ x3_17 : Int32, x3_17 = ((sA S m c w i).2 - r16) → (∀ x4_18 : Int32, x4_18 = nI i + (1 : Int32) → (lX4_giveToFields_5 Post q M15 t (nI c) w x3_17 x4_18))) M' (t + 10) (nI f) (sA S m c w i).2 (M' t 3) := by
            intro hmt
            have hel : el S m c f = true := by
              unfold el
              rw [decide_eq_true hatc, hw1, hmt]; rfl
            rw [if_pos hel] at es
            obtain ⟨g1, g2, g3, g4⟩ := gv_rng i1 hfm i2 (by rw [hwt]; exact hw1)
            have r3 : M' (t + 10 + 3) f = fi (sA S m c w i).1 f 2 := hT.rd (k := 13) (j := f) (i := 82 + 7 * f + 2) (by unfold mp; omega)
            have r2 : M' (t + 10 + 2) f = fi (sA S m c w i).1 f 1 := hT.rd (k := 12) (j := f) (i := 82 + 7 * f + 1) (by unfold mp; omega)
            have r5 : M' (t + 10 + 5) f = fi (sA S m c w i).1 f 4 := hT.rd (k := 15) (j := f) (i := 82 + 7 * f + 4) (by unfold mp; omega)
            have r0 : M' t 3 = (sA S m c w i).1 5 := hT.rd (k := 0) (j := 3) (i := 5) (by unfold mp; omega)
            obtain ⟨v1, v2, v3, v4, v5⟩ := i1 f hfm
            unfold wX1_give
            rw [ixn (by omega), r3, r2, r5, gv_imn, r0]
            revert g1 g2 g3 g4 es
            generalize hg : gv (sA S m c w i).1 f (sA S m c w i).2 = g
            intro es g1 g2 g3 g4
            refine ⟨hvf, hvf, hvf, fun x4 e4 => ⟨hvf, hvf, fun M2 e2 => ⟨hvf, hvf, ?_⟩⟩⟩
            subst e4
            have eM2 : M2 = mu M' (t + 15) f (fi (sA S m c w i).1 f 4 + x4) := e2
            have hT2 : TR M2 t (sg1 (sA S m c w i).1 f x4) n m tt := by
              rw [eM2]
              exact TR_upd q4 q5 hT (k0 := 15) (j0 := f) (i0 := 82 + 7 * f + 4) (by unfold mp; omega) (by omega)
            have s5 : M2 (t + 10 + 5) f = fi (sg1 (sA S m c w i).1 f x4) f 4 := hT2.rd (k := 15) (j := f) (i := 82 + 7 * f + 4) (by unfold mp; omega)
            have s2 : M2 (t + 10 + 2) f = fi (sg1 (sA S m c w i).1 f x4) f 1 := hT2.rd (k := 12) (j := f) (i := 82 + 7 * f + 1) (by unfold mp; omega)
            rw [s5, s2]
            refine ⟨fun d3 x3 e3 x4' e4' => ?_, fun d3 => ⟨hvf, fun M4 e4 x3 e3 x4' e4' => ?_⟩⟩
            · rw [e4', nI_1, e3]
              refine ih (M2, _) ⟨?_, by rw [es], fun a a1 a2 => by show M2 a = M a; rw [eM2, mu_row (by omega), hfr a a1 a2]⟩
              rw [es]
              show TR M2 t (sg (sA S m c w i).1 f x4) n m tt
              have : sg (sA S m c w i).1 f x4 = sg1 (sA S m c w i).1 f x4 := by
                unfold sg
                refine upd_self ?_
                have hwt1 : wt (sg1 (sA S m c w i).1 f x4) f = true := decide_eq_true d3
                rw [if_neg (by rintro ⟨-, z⟩; rw [hwt1] at z; cases z)]
                show fi _ f 6 = upd _ (82 + 7 * f + 4) _ (82 + 7 * f + 6)
                rw [upd_o (by omega)]
                rfl
              rw [this]
              exact hT2
            · rw [e4', nI_1, e3]
              have hgp : 0 < x4 := by
                refine i_lt.mpr ?_
                have h0 : (0 : Int32).toInt = 0 := by decide
                have e4i : (fi (sA S m c w i).1 f 4 + x4).toInt = (fi (sA S m c w i).1 f 4).toInt + x4.toInt := i_add (by omega) (by omega)
                have s4 : fi (sg1 (sA S m c w i).1 f x4) f 4 = fi (sA S m c w i).1 f 4 + x4 := upd_s
                have s1 : fi (sg1 (sA S m c w i).1 f x4) f 1 = fi (sA S m c w i).1 f 1 := upd_o (by omega)
                have d4 : ¬ (fi (sA S m c w i).1 f 4 + x4).toInt < (fi (sA S m c w i).1 f 1).toInt := by
                  intro z
                  refine d3 ?_
                  rw [s4, s1]
                  exact i_lt.mpr z
                have hlt : (fi (sA S m c w i).1 f 4).toInt < (fi (sA S m c w i).1 f 1).toInt := by
                  have := hwt.trans hw1
                  exact i_lt.mp (of_decide_eq_true this)
                omega
              have eM4 : M4 = mu M2 (t + 16) f ((sA S m c w i).1 5) := e4
              refine ih (M4, _) ⟨?_, by rw [es], fun a a1 a2 => by show M4 a = M a; rw [eM4, mu_row (by omega), eM2, mu_row (by omega), hfr a a1 a2]⟩
              rw [es]
              show TR M4 t (sg (sA S m c w i).1 f x4) n m tt
              have hwt1 : wt (sg1 (sA S m c w i).1 f x4) f = false := decide_eq_false d3
              have : sg (sA S m c w i).1 f x4 = upd (sg1 (sA S m c w i).1 f x4) (82 + 7 * f + 6) ((sA S m c w i).1 5) := by
                unfold sg
                rw [if_pos ⟨hgp, hwt1⟩]
              rw [this, eM4]
              exact TR_upd q4 q5 hT2 (k0 := 16) (j0 := f) (i0 := 82 + 7 * f + 6) (by unfold mp; omega) (by omega)
          refine ⟨hvf, vp_in_nI (by omega) (by omega), hvf, fun d3 => ⟨fun _ x4 e4 => hno x4 e4 ?_, fun z => absurd rfl z⟩, fun d3 => ⟨fun z => absurd z (by decide), fun _ => hyes ?_⟩⟩
          · cases hh : mtF S f m
            · rfl
            · exact absurd d3 (Int32.not_lt.mpr ((hm f hfm).mpr hh))
          · exact (hm f hfm).mp (Int32.not_lt.mp d3)
