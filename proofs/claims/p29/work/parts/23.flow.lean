/-! the reference: an hour -/
def nx (S : SS) (x : Int32) : Nat → Option Nat
  | 0 => none
  | f + 1 => if (bt x f && (match nx S x f with | none => true | some g => decide (fi S f 3 < fi S g 3))) = true then some f else nx S x f
def o2i (r : Option Nat) : Int32 := match r with | none => -1 | some g => nI g
theorem nx_lt {S : SS} {x : Int32} : ∀ {i g : Nat}, nx S x i = some g → g < i := by
  intro i
  induction i with
  | zero => intro g h; cases h
  | succ f ih =>
    intro g h
    unfold nx at h
    by_cases hc : (bt x f && (match nx S x f with | none => true | some g => decide (fi S f 3 < fi S g 3))) = true
    · rw [if_pos hc] at h; cases h; omega
    · rw [if_neg hc] at h; have := ih h; omega
def el (S : SS) (m c f : Nat) : Bool := decide (at_ S f = c) && wt S f && mtF S f m
def sv (S : SS) (m c : Nat) : Nat → Int32
  | 0 => 0
  | f + 1 => sv S m c f ||| (if el S m c f = true then (1 : Int32) <<< (nI f &&& 31) else 0)
theorem sv_bt {S : SS} {m c : Nat} : ∀ i, i ≤ 31 → ∀ k, k < 32 → bt (sv S m c i) k = (decide (k < i) && el S m c k) := by
  intro i
  induction i with
  | zero => intro _ k _; rw [show sv S m c 0 = 0 from rfl, b_0]; simp
  | succ f ih =>
    intro hf k hk
    unfold sv
    rw [b_or, ih (by omega) k hk]
    by_cases h : el S m c f = true
    · rw [if_pos h, bt_shl1 (by omega) hk]
      by_cases hkf : k = f
      · subst hkf; simp [h]
      · by_cases h2 : k < f
        · simp [h2, hkf, show k < f + 1 by omega]
        · simp [h2, hkf, show ¬ k < f + 1 by omega]
    · rw [if_neg h, b_0]
      by_cases hkf : k = f
      · subst hkf; simp [h]
      · by_cases h2 : k < f
        · simp [h2, show k < f + 1 by omega]
        · simp [h2, show ¬ k < f + 1 by omega]
def bef (S : SS) (f g : Nat) : Prop := fi S f 3 < fi S g 3 ∨ (fi S f 3 = fi S g 3 ∧ f < g)
theorem bef_asymm {S : SS} {f g : Nat} (h : bef S f g) (h2 : bef S g f) : False := by
  unfold bef at h h2
  rw [i_lt, i_eq] at h h2
  omega
theorem nx_spec {S : SS} {x : Int32} : ∀ i, (nx S x i = none → ∀ k, k < i → bt x k = false) ∧ (∀ g, nx S x i = some g → bt x g = true ∧ ∀ k, k < i → bt x k = true → k = g ∨ bef S g k) := by
  intro i
  induction i with
  | zero => exact ⟨fun _ k h => by omega, fun g h => by cases h⟩
  | succ f ih =>
    obtain ⟨ih1, ih2⟩ := ih
    unfold nx
    by_cases hb : bt x f = true
    · cases hn : nx S x f with
      | none =>
        simp only [hn, hb, Bool.and_self, if_true]
        refine ⟨fun h => (by cases h), fun g h => ?_⟩
        cases h
        refine ⟨hb, fun k hk hkb => ?_⟩
        by_cases hkf : k = f
        · exact Or.inl hkf
        · rw [ih1 hn k (by omega)] at hkb; cases hkb
      | some g0 =>
        obtain ⟨a1, a2⟩ := ih2 g0 hn
        have hg0 := nx_lt hn
        by_cases hl : fi S f 3 < fi S g0 3
        · simp only [hn, hb, Bool.true_and, decide_eq_true hl, if_true]
          refine ⟨fun h => (by cases h), fun g h => ?_⟩
          cases h
          refine ⟨hb, fun k hk hkb => ?_⟩
          by_cases hkf : k = f
          · exact Or.inl hkf
          · rcases a2 k (by omega) hkb with e | e
            · subst e; exact Or.inr (Or.inl hl)
            · refine Or.inr (Or.inl ?_)
              unfold bef at e
              rw [i_lt, i_eq] at e
              rw [i_lt] at hl ⊢
              omega
        · simp only [hn, hb, Bool.true_and, decide_eq_false hl, Bool.false_eq_true, if_false]
          refine ⟨fun h => (by cases h), fun g h => ?_⟩
          cases h
          refine ⟨a1, fun k hk hkb => ?_⟩
          by_cases hkf : k = f
          · subst hkf
            refine Or.inr ?_
            unfold bef
            rw [i_lt, i_eq]
            rw [i_lt] at hl
            omega
          · exact a2 k (by omega) hkb
    · simp only [Bool.eq_false_iff.mpr hb, Bool.false_and, Bool.false_eq_true, if_false]
      refine ⟨fun h k hk => ?_, fun g h => ?_⟩
      · by_cases hkf : k = f
        · subst hkf; exact Bool.eq_false_iff.mpr hb
        · exact ih1 h k (by omega)
      · obtain ⟨a1, a2⟩ := ih2 g h
        refine ⟨a1, fun k hk hkb => ?_⟩
        by_cases hkf : k = f
        · subst hkf; exact absurd hkb hb
        · exact a2 k (by omega) hkb
theorem nx_head {S : SS} {x : Int32} {m : Nat} {l : List Nat} (hs : l.Pairwise (bef S)) (hm : ∀ f, f ∈ l ↔ (f < m ∧ bt x f = true)) : nx S x m = l.head? := by
  obtain ⟨h1, h2⟩ := nx_spec (S := S) (x := x) m
  cases l with
  | nil =>
    cases hn : nx S x m with
    | none => rfl
    | some g =>
      have := (hm g).mpr ⟨nx_lt hn, (h2 g hn).1⟩
      cases this
  | cons a l =>
    have ha := (hm a).mp List.mem_cons_self
    cases hn : nx S x m with
    | none => rw [h1 hn a ha.1] at ha; cases ha.2
    | some g =>
      obtain ⟨b1, b2⟩ := h2 g hn
      have hg := (hm g).mpr ⟨nx_lt hn, b1⟩
      have : g = a := by
        rcases List.mem_cons.mp hg with e | e
        · exact e
        · have hag := (List.pairwise_cons.mp hs).1 g e
          rcases b2 a ha.1 ha.2 with e2 | e2
          · exact e2.symm
          · exact (bef_asymm hag e2).elim
      subst this
      rfl
def gv (S : SS) (f : Nat) (left : Int32) : Int32 :=
  if (if fi S f 1 - fi S f 4 ≤ fi S f 2 then fi S f 1 - fi S f 4 else fi S f 2) ≤ left then (if fi S f 1 - fi S f 4 ≤ fi S f 2 then fi S f 1 - fi S f 4 else fi S f 2) else left
def sg1 (S : SS) (f : Nat) (g : Int32) : SS := upd S (82 + 7 * f + 4) (fi S f 4 + g)
def sg (S : SS) (f : Nat) (g : Int32) : SS := upd (sg1 S f g) (82 + 7 * f + 6) (if 0 < g ∧ wt (sg1 S f g) f = false then S 5 else fi S f 6)
def srv : List Nat → SS → Int32 → SS × Int32
  | [], S, left => (S, left)
  | f :: l, S, left => srv l (sg S f (gv S f left)) (left - gv S f left)
theorem Wf.of {S S' : SS} {n m t : Nat} (hw : Wf S n m t) (h0 : S' 0 = S 0) (h1 : S' 1 = S 1) (h2 : S' 2 = S 2) (hc : ∀ c, c < 8 → ca S' c 0 = ca S c 0) (hf : ∀ f, f < 10 → fi S' f 0 = fi S f 0) : Wf S' n m t := by
  obtain ⟨w0, w1, w2, ⟨w3, w4⟩, w5, w6, w7, w8⟩ := hw
  refine ⟨h0.trans w0, h1.trans w1, h2.trans w2, ⟨w3, w4⟩, w5, w6, fun c a b => ?_, fun f a => ?_⟩
  · have := w7 c a b
    unfold pa at this ⊢
    rw [hc c (by omega)]; exact this
  · have := w8 f a
    unfold at_ at this ⊢
    rw [hf f (by omega)]; exact this
theorem sg_o {S : SS} {f : Nat} {g : Int32} {k : Nat} (h4 : k ≠ 82 + 7 * f + 4) (h6 : k ≠ 82 + 7 * f + 6) : sg S f g k = S k := by
  unfold sg sg1
  rw [upd_o h6, upd_o h4]
theorem Wf.sg {S : SS} {n m t f : Nat} {g : Int32} (hw : Wf S n m t) : Wf (sg S f g) n m t :=
  hw.of (sg_o (by omega) (by omega)) (sg_o (by omega) (by omega)) (sg_o (by omega) (by omega)) (fun c hc => sg_o (by omega) (by omega)) (fun f' hf => sg_o (by omega) (by omega))
def ins (S : SS) (f : Nat) : List Nat → List Nat
  | [] => [f]
  | g :: l => if fi S f 3 < fi S g 3 then f :: g :: l else g :: ins S f l
def ord (S : SS) : Nat → List Nat
  | 0 => []
  | f + 1 => ins S f (ord S f)
theorem ins_mem {S : SS} {f : Nat} : ∀ {l : List Nat} {z : Nat}, z ∈ ins S f l ↔ z = f ∨ z ∈ l := by
  intro l
  induction l with
  | nil => intro z; simp [ins]
  | cons g l ih =>
    intro z
    unfold ins
    split
    · simp
    · simp only [List.mem_cons, ih]
      constructor <;> rintro (h | h | h) <;> simp [h]
theorem ord_mem {S : SS} : ∀ {m z : Nat}, z ∈ ord S m ↔ z < m := by
  intro m
  induction m with
  | zero => intro z; simp [ord]
  | succ f ih =>
    intro z
    unfold ord
    rw [ins_mem, ih]
    omega
theorem ins_sorted {S : SS} {f : Nat} : ∀ {l : List Nat}, l.Pairwise (bef S) → (∀ z, z ∈ l → z < f) → (ins S f l).Pairwise (bef S) := by
  intro l
  induction l with
  | nil => intro _ _; simp [ins]
  | cons g l ih =>
    intro hs hlt
    obtain ⟨h1, h2⟩ := List.pairwise_cons.mp hs
    unfold ins
    split
    · rename_i hl
      refine List.pairwise_cons.mpr ⟨fun z hz => ?_, hs⟩
      rcases List.mem_cons.mp hz with e | e
      · subst e; exact Or.inl hl
      · have := h1 z e
        refine Or.inl ?_
        unfold bef at this
        rw [i_lt, i_eq] at this
        rw [i_lt] at hl ⊢
        omega
    · rename_i hl
      refine List.pairwise_cons.mpr ⟨fun z hz => ?_, ih h2 (fun z hz => hlt z (List.mem_cons_of_mem _ hz))⟩
      rcases ins_mem.mp hz with e | e
      · subst e
        have := hlt g List.mem_cons_self
        unfold bef
        rw [i_lt, i_eq]
        rw [i_lt] at hl
        omega
      · exact h1 z e
theorem ord_sorted {S : SS} : ∀ {m : Nat}, (ord S m).Pairwise (bef S) := by
  intro m
  induction m with
  | zero => exact List.Pairwise.nil
  | succ f ih => exact ins_sorted ih (fun z hz => ord_mem.mp hz)
def serveF (S : SS) (m c : Nat) (w : Int32) : SS × Int32 := (upd (srv ((ord S m).filter (el S m c)) S w).1 7 ((srv ((ord S m).filter (el S m c)) S w).1 7 + (w - (srv ((ord S m).filter (el S m c)) S w).2)), (srv ((ord S m).filter (el S m c)) S w).2)
