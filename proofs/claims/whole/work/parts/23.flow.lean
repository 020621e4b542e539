/-! the reference: an hour -/
def nx (S : SS) (x : Int32) : Nat → Option Nat
  | 0 => none
  | f + 1 => if (bt x f && (match nx S x f with | none => true | some g => decide (fi S f 3 < fi S g 3))) = true then some f else nx S x f
def o2i (r : Option Nat) : Int32 := match r with | none => -1 | some g => nI g
theorem nx_lt {S : SS} {x : Int32} : ∀ {i g : Nat}, nx S x i = some g → g < i := by
  intro i
  induction i with
  | zero => intro g h; cases h
  | succ f ih =>
    intro g h
    unfold nx at h
    by_cases hc : (bt x f && (match nx S x f with | none => true | some g => decide (fi S f 3 < fi S g 3))) = true
    · rw [if_pos hc] at h; cases h; omega
    · rw [if_neg hc] at h; have := ih h; omega
theorem sp7_next {Post : Mm → Int32 → Prop} {M : Mm} {m : Nat} {x : Int32} (w1 : M 144 1 = nI m) (h10 : m ≤ 10) (h : Post M (o2i (nx (M 144) x m))) : wX7_next Post M 143 x := by
  show ∃ q : Nat, lX7_next_4 Post q M 143 x (-1) (nI 0)
  refine pk_loop (fun k i (y : Int32) => lX7_next_4 Post k M 143 x y (nI i)) (fun i y => y = o2i (nx (M 144) x i)) m 0 (-1) (by omega) rfl ?_ ?_
  · rintro k y e
    subst e
    refine ⟨fun _ => h, fun c => absurd ?_ c⟩
    show M 144 1 ≤ nI m
    rw [w1]; exact nI_le (Nat.le_refl _) (by omega)
  · rintro k i y hi e ih
    subst e
    have no : (bt x i && (match nx (M 144) x i with | none => true | some g => decide (fi (M 144) i 3 < fi (M 144) g 3))) = false → bX7_next_46 Post (lX7_next_4 Post k) M 143 x (o2i (nx (M 144) x i)) (nI i) := by
      intro hf
      refine ⟨fun _ z hz => ?_, fun d => absurd rfl d⟩
      rw [hz, nI_1]
      refine ih _ ?_
      conv => rhs; unfold nx
      rw [hf]; rfl
    have yes : (bt x i && (match nx (M 144) x i with | none => true | some g => decide (fi (M 144) i 3 < fi (M 144) g 3))) = true → bX7_next_47 Post (lX7_next_4 Post k) M 143 x (o2i (nx (M 144) x i)) (nI i) 1 := by
      intro hf
      refine ⟨fun d => absurd d (by decide), fun _ z hz => ?_⟩
      rw [hz, nI_1]
      refine ih _ ?_
      conv => rhs; unfold nx
      rw [if_pos hf]; rfl
    refine ⟨fun c => absurd c ?_, fun _ => ⟨fun d => no ?_, fun d => ?_⟩⟩
    · show ¬ M 144 1 ≤ nI i
      rw [w1]; exact nI_ge hi (by omega)
    · rw [bit1 x (by omega), b2i_1] at d
      rw [Bool.eq_false_iff.mpr d]; rfl
    · rw [bit1 x (by omega), b2i_1] at d
      cases hn : nx (M 144) x i with
      | none =>
        rw [hn] at yes
        exact ⟨fun _ => yes (by rw [d]; rfl), fun z => absurd (show o2i none < 0 by decide) z⟩
      | some g =>
        have hg := nx_lt hn
        rw [hn] at yes no
        refine ⟨fun z => absurd z (nI_pos (by omega)), fun _ => ?_⟩
        refine sp7_fi (f := i) (w := 3) rfl rfl (by omega) (by omega) (sp7_fi (f := g) (w := 3) rfl rfl (by omega) (by omega) ⟨fun d1 => no ?_, fun d1 => yes ?_⟩)
        · show (bt x i && decide (fi (M 144) i 3 < fi (M 144) g 3)) = false
          rw [decide_eq_false (Int32.not_lt.mpr d1), Bool.and_false]
        · show (bt x i && decide (fi (M 144) i 3 < fi (M 144) g 3)) = true
          rw [d, decide_eq_true (Int32.not_le.mp d1)]; rfl
def el (S : SS) (m c f : Nat) : Bool := decide (at_ S f = c) && wt S f && mtF S f m
def sv (S : SS) (m c : Nat) : Nat → Int32
  | 0 => 0
  | f + 1 => sv S m c f ||| (if el S m c f = true then (1 : Int32) <<< (nI f &&& 31) else 0)
theorem sv_bt {S : SS} {m c : Nat} : ∀ i, i ≤ 31 → ∀ k, k < 32 → bt (sv S m c i) k = (decide (k < i) && el S m c k) := by
  intro i
  induction i with
  | zero => intro _ k _; rw [show sv S m c 0 = 0 from rfl, b_0]; simp
  | succ f ih =>
    intro hf k hk
    unfold sv
    rw [b_or, ih (by omega) k hk]
    by_cases h : el S m c f = true
    · rw [if_pos h, bt_shl1 (by omega) hk]
      by_cases hkf : k = f
      · subst hkf; simp [h]
      · by_cases h2 : k < f
        · simp [h2, hkf, show k < f + 1 by omega]
        · simp [h2, hkf, show ¬ k < f + 1 by omega]
    · rw [if_neg h, b_0]
      by_cases hkf : k = f
      · subst hkf; simp [h]
      · by_cases h2 : k < f
        · simp [h2, show k < f + 1 by omega]
        · simp [h2, show ¬ k < f + 1 by omega]
def bef (S : SS) (f g : Nat) : Prop := fi S f 3 < fi S g 3 ∨ (fi S f 3 = fi S g 3 ∧ f < g)
theorem bef_asymm {S : SS} {f g : Nat} (h : bef S f g) (h2 : bef S g f) : False := by
  unfold bef at h h2
  rw [i_lt, i_eq] at h h2
  omega
theorem nx_spec {S : SS} {x : Int32} : ∀ i, (nx S x i = none → ∀ k, k < i → bt x k = false) ∧ (∀ g, nx S x i = some g → bt x g = true ∧ ∀ k, k < i → bt x k = true → k = g ∨ bef S g k) := by
  intro i
  induction i with
  | zero => exact ⟨fun _ k h => by omega, fun g h => by cases h⟩
  | succ f ih =>
    obtain ⟨ih1, ih2⟩ := ih
    unfold nx
    by_cases hb : bt x f = true
    · cases hn : nx S x f with
      | none =>
        simp only [hn, hb, Bool.and_self, if_true]
        refine ⟨fun h => (by cases h), fun g h => ?_⟩
        cases h
        refine ⟨hb, fun k hk hkb => ?_⟩
        by_cases hkf : k = f
        · exact Or.inl hkf
        · rw [ih1 hn k (by omega)] at hkb; cases hkb
      | some g0 =>
        obtain ⟨a1, a2⟩ := ih2 g0 hn
        have hg0 := nx_lt hn
        by_cases hl : fi S f 3 < fi S g0 3
        · simp only [hn, hb, Bool.true_and, decide_eq_true hl, if_true]
          refine ⟨fun h => (by cases h), fun g h => ?_⟩
          cases h
          refine ⟨hb, fun k hk hkb => ?_⟩
          by_cases hkf : k = f
          · exact Or.inl hkf
          · rcases a2 k (by omega) hkb with e | e
            · subst e; exact Or.inr (Or.inl hl)
            · refine Or.inr (Or.inl ?_)
              unfold bef at e
              rw [i_lt, i_eq] at e
              rw [i_lt] at hl ⊢
              omega
        · simp only [hn, hb, Bool.true_and, decide_eq_false hl, Bool.false_eq_true, if_false]
          refine ⟨fun h => (by cases h), fun g h => ?_⟩
          cases h
          refine ⟨a1, fun k hk hkb => ?_⟩
          by_cases hkf : k = f
          · subst hkf
            refine Or.inr ?_
            unfold bef
            rw [i_lt, i_eq]
            rw [i_lt] at hl
            omega
          · exact a2 k (by omega) hkb
    · simp only [Bool.eq_false_iff.mpr hb, Bool.false_and, Bool.false_eq_true, if_false]
      refine ⟨fun h k hk => ?_, fun g h => ?_⟩
      · by_cases hkf : k = f
        · subst hkf; exact Bool.eq_false_iff.mpr hb
        · exact ih1 h k (by omega)
      · obtain ⟨a1, a2⟩ := ih2 g h
        refine ⟨a1, fun k hk hkb => ?_⟩
        by_cases hkf : k = f
        · subst hkf; exact absurd hkb hb
        · exact a2 k (by omega) hkb
theorem nx_head {S : SS} {x : Int32} {m : Nat} {l : List Nat} (hs : l.Pairwise (bef S)) (hm : ∀ f, f ∈ l ↔ (f < m ∧ bt x f = true)) : nx S x m = l.head? := by
  obtain ⟨h1, h2⟩ := nx_spec (S := S) (x := x) m
  cases l with
  | nil =>
    cases hn : nx S x m with
    | none => rfl
    | some g =>
      have := (hm g).mpr ⟨nx_lt hn, (h2 g hn).1⟩
      cases this
  | cons a l =>
    have ha := (hm a).mp List.mem_cons_self
    cases hn : nx S x m with
    | none => rw [h1 hn a ha.1] at ha; cases ha.2
    | some g =>
      obtain ⟨b1, b2⟩ := h2 g hn
      have hg := (hm g).mpr ⟨nx_lt hn, b1⟩
      have : g = a := by
        rcases List.mem_cons.mp hg with e | e
        · exact e
        · have hag := (List.pairwise_cons.mp hs).1 g e
          rcases b2 a ha.1 ha.2 with e2 | e2
          · exact e2.symm
          · exact (bef_asymm hag e2).elim
      subst this
      rfl
def gv (S : SS) (f : Nat) (left : Int32) : Int32 :=
  if (if fi S f 1 - fi S f 4 ≤ fi S f 2 then fi S f 1 - fi S f 4 else fi S f 2) ≤ left then (if fi S f 1 - fi S f 4 ≤ fi S f 2 then fi S f 1 - fi S f 4 else fi S f 2) else left
def sg1 (S : SS) (f : Nat) (g : Int32) : SS := upd S (82 + 7 * f + 4) (fi S f 4 + g)
def sg (S : SS) (f : Nat) (g : Int32) : SS := upd (sg1 S f g) (82 + 7 * f + 6) (if 0 < g ∧ wt (sg1 S f g) f = false then S 5 else fi S f 6)
def srv : List Nat → SS → Int32 → SS × Int32
  | [], S, left => (S, left)
  | f :: l, S, left => srv l (sg S f (gv S f left)) (left - gv S f left)
theorem Wf.of {S S' : SS} {n m t : Nat} (hw : Wf S n m t) (h0 : S' 0 = S 0) (h1 : S' 1 = S 1) (h2 : S' 2 = S 2) (hc : ∀ c, c < 8 → ca S' c 0 = ca S c 0) (hf : ∀ f, f < 10 → fi S' f 0 = fi S f 0) : Wf S' n m t := by
  obtain ⟨w0, w1, w2, ⟨w3, w4⟩, w5, w6, w7, w8⟩ := hw
  refine ⟨h0.trans w0, h1.trans w1, h2.trans w2, ⟨w3, w4⟩, w5, w6, fun c a b => ?_, fun f a => ?_⟩
  · have := w7 c a b
    unfold pa at this ⊢
    rw [hc c (by omega)]; exact this
  · have := w8 f a
    unfold at_ at this ⊢
    rw [hf f (by omega)]; exact this
theorem sg_o {S : SS} {f : Nat} {g : Int32} {k : Nat} (h4 : k ≠ 82 + 7 * f + 4) (h6 : k ≠ 82 + 7 * f + 6) : sg S f g k = S k := by
  unfold sg sg1
  rw [upd_o h6, upd_o h4]
theorem Wf.sg {S : SS} {n m t f : Nat} {g : Int32} (hw : Wf S n m t) : Wf (sg S f g) n m t :=
  hw.of (sg_o (by omega) (by omega)) (sg_o (by omega) (by omega)) (sg_o (by omega) (by omega)) (fun c hc => sg_o (by omega) (by omega)) (fun f' hf => sg_o (by omega) (by omega))
theorem serve_loop {Post : Mm → Int32 → Prop} {M : Mm} {n m t : Nat} {water : Int32} : ∀ (l : List Nat) (S : SS) (x left : Int32), Wf S n m t → l.Pairwise (bef S) → (∀ f, f ∈ l ↔ (f < m ∧ bt x f = true)) → Post (st M (upd (srv l S left).1 7 ((srv l S left).1 7 + (water - (srv l S left).2)))) (srv l S left).2 → ∃ q : Nat, lX7_serves_72 Post q (st M S) 143 water x left (o2i (nx S x m)) := by
  intro l
  induction l with
  | nil =>
    intro S x left hw hs hm h
    refine ⟨1, fun _ M24 e24 => ?_, fun c => absurd ?_ c⟩
    · have e : M24 = st M (upd S 7 (S 7 + (water - left))) := by
        rw [e24]
        show mu (st M S) 144 7 (st M S 144 7 + (water - left)) = _
        rw [mu_st, st_s]
      rw [e]; exact h
    · rw [nx_head hs hm]; decide
  | cons f l ih =>
    intro S x left hw hs hm h
    have hw0 := hw
    obtain ⟨w0, w1, w2, ⟨w3, w4⟩, w5, w6, w7, w8⟩ := hw
    have hf := (hm f).mp List.mem_cons_self
    rw [nx_head hs hm]
    show ∃ q : Nat, lX7_serves_72 Post q (st M S) 143 water x left (nI f)
    let S' := sg S f (gv S f left)
    let x' := x &&& (((1 : Int32) <<< (nI f &&& 31)) ^^^ (-1 : Int32))
    have hs' : l.Pairwise (bef S') := by
      refine (List.pairwise_cons.mp hs).2.imp ?_
      intro a b hab
      have e : ∀ z, fi S' z 3 = fi S z 3 := fun z => sg_o (by omega) (by omega)
      unfold bef at hab ⊢
      rw [e, e]; exact hab
    have hb' : ∀ k, k < 32 → bt x' k = (bt x k && !decide (k = f)) := fun k hk => by
      show bt (x &&& (((1 : Int32) <<< (nI f &&& 31)) ^^^ (-1 : Int32))) k = _
      rw [b_and, bt_not _ hk, bt_shl1 (by omega) hk]
    have hm' : ∀ g, g ∈ l ↔ (g < m ∧ bt x' g = true) := by
      intro g
      have hnf : f ∉ l := fun hz => by
        have := (List.pairwise_cons.mp hs).1 f hz
        exact bef_asymm this this
      constructor
      · intro hg
        have a := (hm g).mp (List.mem_cons_of_mem _ hg)
        have hne : g ≠ f := fun z => hnf (z ▸ hg)
        exact ⟨a.1, by rw [hb' g (by omega), a.2, decide_eq_false hne]; rfl⟩
      · rintro ⟨a, b⟩
        rw [hb' g (by omega), Bool.and_eq_true] at b
        have hne : g ≠ f := by
          intro z
          rw [decide_eq_true z] at b
          cases b.2
        rcases List.mem_cons.mp ((hm g).mpr ⟨a, b.1⟩) with e | e
        · exact absurd e hne
        · exact e
    obtain ⟨q, hq⟩ := ih S' x' (left - gv S f left) hw0.sg hs' hm' h
    have fin218 : ∀ (S1 : SS) (v : Int32), S1 = sg1 S f (gv S f left) → v = (if 0 < gv S f left ∧ wt (sg1 S f (gv S f left)) f = false then S 5 else fi S f 6) → ∀ idx : Int32, idx = (((82 : Int32) + ((7 : Int32) * nI f)) + (6 : Int32)) → ∀ x3 lf : Int32, x3 = x' → lf = left - gv S f left → bX7_serves_218 Post (lX7_serves_72 Post q) (st M S1) 143 water x3 lf v idx 144 := by
      intro S1 v e1 ev idx ei x3 lf e3 ef
      obtain ⟨i1, i2⟩ := ix_fi (x := nI f) (y := 6) (f := f) (w := 6) rfl rfl (by omega) (by omega)
      subst ei e3 ef
      refine ⟨i2, fun M45 e45 => ?_⟩
      have e : M45 = st M S' := by
        rw [e45, i1, mu_st, e1, ev]
        rfl
      rw [e]
      refine sp7_next (m := m) (by rw [st_s]; exact (hw0.sg (f := f) (g := gv S f left)).2.1) w5 ?_
      rw [st_s]
      exact hq
    have fin143 : ∀ t0 : Int32, t0 = gv S f left → ∀ x3 : Int32, x3 = x' → bX7_serves_143 Post (lX7_serves_72 Post q) (st M S) 143 water x3 left (nI f) t0 := by
      intro t0 e0 x3 e3
      obtain ⟨i1, i2⟩ := ix_fi (x := nI f) (y := 4) (f := f) (w := 4) rfl rfl (by omega) (by omega)
      intro x4 e4
      refine ⟨i2, i2, fun M38 e38 => ?_⟩
      have e : M38 = st M (sg1 S f (gv S f left)) := by
        rw [e38, i1]
        show mu (st M S) 144 _ (st M S 144 _ + t0) = _
        rw [mu_st, st_s, e0]
        rfl
      rw [e]
      have e6 : fi (sg1 S f (gv S f left)) f 6 = fi S f 6 := upd_o (by omega)
      have e5 : sg1 S f (gv S f left) 5 = S 5 := upd_o (by omega)
      have to210 : (¬ (0 < gv S f left ∧ wt (sg1 S f (gv S f left)) f = false)) → bX7_serves_210 Post (lX7_serves_72 Post q) (st M (sg1 S f (gv S f left))) 143 water x3 x4 (nI f) (((82 : Int32) + ((7 : Int32) * nI f)) + (6 : Int32)) 144 := by
        intro hno
        refine sp7_fi (f := f) (w := 6) rfl rfl (by omega) (by omega) ?_
        rw [st_s, e6]
        exact fin218 _ _ rfl (by rw [if_neg hno]) _ rfl _ _ e3 (by rw [e4, e0])
      refine ⟨fun d => to210 ?_, fun d => ?_⟩
      · rintro ⟨z, -⟩
        rw [e0] at d
        exact absurd z (Int32.not_lt.mpr d)
      · rw [e0] at d
        refine sp7_wants (f := f) rfl (by omega) ⟨fun d1 => to210 ?_, fun d1 => ?_⟩
        · rw [st_s] at d1
          rintro ⟨-, z⟩
          rw [z] at d1
          exact d1 rfl
        · rw [st_s] at d1
          refine fin218 _ _ rfl ?_ _ rfl _ _ e3 (by rw [e4, e0])
          show st M _ 144 5 = _
          rw [st_s, e5, if_pos ⟨Int32.not_le.mp d, b2i_0.mp d1⟩]
    refine ⟨q + 1, fun c => absurd c (nI_pos (by omega)), fun _ x3 e3 => ?_⟩
    refine sp7_fi (f := f) (w := 1) rfl rfl (by omega) (by omega) (sp7_fi (f := f) (w := 4) rfl rfl (by omega) (by omega) (fun x6 e6 => ?_))
    rw [st_s] at e6
    have fin127 : ∀ t0 : Int32, t0 = (if fi S f 1 - fi S f 4 ≤ fi S f 2 then fi S f 1 - fi S f 4 else fi S f 2) → bX7_serves_127 Post (lX7_serves_72 Post q) (st M S) 143 water x3 left (nI f) t0 := by
      intro t0 e0
      refine ⟨fun d => fin143 _ ?_ _ e3, fun d => fin143 _ ?_ _ e3⟩
      · unfold gv
        rw [← e0, if_pos d]
      · unfold gv
        rw [← e0, if_neg d]
    refine sp7_fi (f := f) (w := 2) rfl rfl (by omega) (by omega) ⟨fun d => fin127 _ ?_, fun d => ?_⟩
    · rw [st_s, e6] at d
      rw [e6, if_pos d]
    · rw [st_s, e6] at d
      refine sp7_fi (f := f) (w := 2) rfl rfl (by omega) (by omega) (fin127 _ ?_)
      rw [st_s, if_neg d]
def ins (S : SS) (f : Nat) : List Nat → List Nat
  | [] => [f]
  | g :: l => if fi S f 3 < fi S g 3 then f :: g :: l else g :: ins S f l
def ord (S : SS) : Nat → List Nat
  | 0 => []
  | f + 1 => ins S f (ord S f)
theorem ins_mem {S : SS} {f : Nat} : ∀ {l : List Nat} {z : Nat}, z ∈ ins S f l ↔ z = f ∨ z ∈ l := by
  intro l
  induction l with
  | nil => intro z; simp [ins]
  | cons g l ih =>
    intro z
    unfold ins
    split
    · simp
    · simp only [List.mem_cons, ih]
      constructor <;> rintro (h | h | h) <;> simp [h]
theorem ord_mem {S : SS} : ∀ {m z : Nat}, z ∈ ord S m ↔ z < m := by
  intro m
  induction m with
  | zero => intro z; simp [ord]
  | succ f ih =>
    intro z
    unfold ord
    rw [ins_mem, ih]
    omega
theorem ins_sorted {S : SS} {f : Nat} : ∀ {l : List Nat}, l.Pairwise (bef S) → (∀ z, z ∈ l → z < f) → (ins S f l).Pairwise (bef S) := by
  intro l
  induction l with
  | nil => intro _ _; simp [ins]
  | cons g l ih =>
    intro hs hlt
    obtain ⟨h1, h2⟩ := List.pairwise_cons.mp hs
    unfold ins
    split
    · rename_i hl
      refine List.pairwise_cons.mpr ⟨fun z hz => ?_, hs⟩
      rcases List.mem_cons.mp hz with e | e
      · subst e; exact Or.inl hl
      · have := h1 z e
        refine Or.inl ?_
        unfold bef at this
        rw [i_lt, i_eq] at this
        rw [i_lt] at hl ⊢
        omega
    · rename_i hl
      refine List.pairwise_cons.mpr ⟨fun z hz => ?_, ih h2 (fun z hz => hlt z (List.mem_cons_of_mem _ hz))⟩
      rcases ins_mem.mp hz with e | e
      · subst e
        have := hlt g List.mem_cons_self
        unfold bef
        rw [i_lt, i_eq]
        rw [i_lt] at hl
        omega
      · exact h1 z e
theorem ord_sorted {S : SS} : ∀ {m : Nat}, (ord S m).Pairwise (bef S) := by
  intro m
  induction m with
  | zero => exact List.Pairwise.nil
  | succ f ih => exact ins_sorted ih (fun z hz => ord_mem.mp hz)
def serveF (S : SS) (m c : Nat) (w : Int32) : SS × Int32 := (upd (srv ((ord S m).filter (el S m c)) S w).1 7 ((srv ((ord S m).filter (el S m c)) S w).1 7 + (w - (srv ((ord S m).filter (el S m c)) S w).2)), (srv ((ord S m).filter (el S m c)) S w).2)
theorem sp7_serves {Post : Mm → Int32 → Prop} {M : Mm} {n m t c : Nat} {x water : Int32} (hw : Wf (M 144) n m t) (hc : c < n) (hx : x = nI c) (h : Post (st M (serveF (M 144) m c water).1) (serveF (M 144) m c water).2) : wX7_serves Post M 143 x water := by
  have hw0 := hw
  obtain ⟨w0, w1, w2, ⟨w3, w4⟩, w5, w6, w7, w8⟩ := hw
  subst hx
  show ∃ q : Nat, lX7_serves_5 Post q M 143 (nI c) water 0 (nI 0)
  refine pk_loop (fun k i (y : Int32) => lX7_serves_5 Post k M 143 (nI c) water y (nI i)) (fun i y => y = sv (M 144) m c i) m 0 0 (by omega) rfl ?_ ?_
  · rintro k y e
    subst e
    refine ⟨fun _ => sp7_next w1 w5 ?_, fun c => absurd ?_ c⟩
    · have hl := serve_loop (Post := Post) (M := M) (n := n) (m := m) (t := t) (water := water) ((ord (M 144) m).filter (el (M 144) m c)) (M 144) (sv (M 144) m c m) water hw0 (ord_sorted.filter _) (fun f => by
        rw [List.mem_filter, ord_mem]
        constructor
        · rintro ⟨a, b⟩
          exact ⟨a, by rw [sv_bt m (by omega) f (by omega), decide_eq_true a, b]; rfl⟩
        · rintro ⟨a, b⟩
          rw [sv_bt m (by omega) f (by omega), decide_eq_true a, Bool.true_and] at b
          exact ⟨a, b⟩) h
      rw [st_self] at hl
      exact hl
    · show M 144 1 ≤ nI m
      rw [w1]; exact nI_le (Nat.le_refl _) (by omega)
  · rintro k i y hi e ih
    subst e
    obtain ⟨a1, a2⟩ := w8 i hi
    have no : el (M 144) m c i = false → ∀ z, z = (sv (M 144) m c i ||| (0 : Int32)) → ∀ u, u = nI i + 1 → lX7_serves_5 Post k M 143 (nI c) water z u := by
      intro he z hz u hu
      rw [hu, nI_1]
      refine ih _ ?_
      rw [hz]
      conv => rhs; unfold sv
      rw [he]; rfl
    refine ⟨fun d => absurd d ?_, fun _ => sp7_fi (f := i) (w := 0) rfl rfl (by omega) (by omega) ⟨fun d => no ?_, fun d => ?_⟩⟩
    · show ¬ M 144 1 ≤ nI i
      rw [w1]; exact nI_ge hi (by omega)
    · rw [a2] at d
      unfold el
      rw [decide_eq_false (fun z => d (by rw [z]))]; rfl
    · rw [a2] at d
      have hat := nI_inj (by omega) (by omega) d
      refine sp7_wants (f := i) rfl (by omega) ⟨fun d1 => no ?_, fun d1 => ?_⟩
      · unfold el
        rw [b2i_0.mp d1]; simp
      · have hwt : wt (M 144) i = true := by
          cases hh : wt (M 144) i
          · rw [hh] at d1; exact absurd rfl d1
          · rfl
        refine sp7_mayTake hw0 hi rfl ⟨fun d2 => no ?_, fun d2 z hz u hu => ?_⟩
        · unfold el
          rw [b2i_0.mp d2]; simp
        · have hmt : mtF (M 144) i m = true := by
            cases hh : mtF (M 144) i m
            · rw [hh] at d2; exact absurd rfl d2
            · rfl
          rw [hu, nI_1]
          refine ih _ ?_
          rw [hz]
          conv => rhs; unfold sv
          rw [if_pos (by unfold el; rw [decide_eq_true hat, hwt, hmt]; rfl)]
