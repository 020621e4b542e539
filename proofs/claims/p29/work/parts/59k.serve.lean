/-! sums of what is told canal by canal and field by field; what the fields of one canal get -/
def sm (p : Nat → Int32) : Nat → Int32
  | 0 => 0
  | i + 1 => sm p i + p i
theorem sm_cg {p q : Nat → Int32} : ∀ i, (∀ k, k < i → p k = q k) → sm p i = sm q i := by
  intro i
  induction i with
  | zero => intro _; rfl
  | succ i ih => intro h; unfold sm; rw [h i (by omega), ih (fun k hk => h k (by omega))]
theorem i_ac (a b c : Int32) : a + b + c = a + c + b := by rw [Int32.add_assoc, Int32.add_comm b c, ← Int32.add_assoc]
theorem sm_up {p q : Nat → Int32} {f : Nat} {v : Int32} (hf : p f = q f + v) (ho : ∀ k, k ≠ f → p k = q k) : ∀ i, sm p i = if f < i then sm q i + v else sm q i := by
  intro i
  induction i with
  | zero => rw [if_neg (by omega)]; rfl
  | succ i ih =>
    unfold sm
    rw [ih]
    by_cases e : i = f
    · subst e
      rw [if_neg (by omega), if_pos (by omega), hf, ← Int32.add_assoc]
    · rw [ho i e]
      by_cases h : f < i
      · rw [if_pos h, if_pos (by omega), i_ac]
      · rw [if_neg h, if_neg (by omega)]
theorem i_tel (a g l : Int32) : a + g + (l - g) = a + l := by
  rw [Int32.sub_eq_add_neg, Int32.add_comm l (-g), Int32.add_assoc, ← Int32.add_assoc g, Int32.add_right_neg, Int32.zero_add]
theorem i_tel2 (a b c : Int32) (h : a + c = b) : a = b - c := by rw [← h, Int32.add_sub_cancel]
theorem gv_mouth {S : SS} {f : Nat} {left : Int32} : (gv S f left).toInt ≤ (fi S f 2).toInt := by
  have key : ∀ d : Int32, d.toInt ≤ (fi S f 2).toInt → (if d ≤ left then d else left).toInt ≤ (fi S f 2).toInt := by
    intro d hd
    by_cases h : d ≤ left
    · rw [if_pos h]; exact hd
    · rw [if_neg h]
      have : ¬ d.toInt ≤ left.toInt := fun z => h (i_le.mpr z)
      omega
  unfold gv
  by_cases h : fi S f 1 - fi S f 4 ≤ fi S f 2
  · rw [if_pos h]
    exact key _ (i_le.mp h)
  · rw [if_neg h]
    exact key _ (Int.le_refl _)
theorem srv_sum {m : Nat} : ∀ (l : List Nat) (S : SS) (left : Int32), (∀ f, f ∈ l → f < m) → sm (fun f => fi (srv l S left).1 f 4) m + (srv l S left).2 = sm (fun f => fi S f 4) m + left := by
  intro l
  induction l with
  | nil => intro S left _; rfl
  | cons f l ih =>
    intro S left hl
    show sm (fun k => fi (srv l (sg S f (gv S f left)) (left - gv S f left)).1 k 4) m + (srv l (sg S f (gv S f left)) (left - gv S f left)).2 = _
    rw [ih _ _ (fun g hg => hl g (List.mem_cons_of_mem _ hg))]
    rw [sm_up (p := fun k => fi (sg S f (gv S f left)) k 4) (q := fun k => fi S k 4) (f := f) (v := gv S f left) sg_got (fun k hk => sg_fi (by omega) (by omega) (by omega)) m]
    rw [if_pos (hl f List.mem_cons_self), i_tel]
theorem wt_cg {S S' : SS} {f : Nat} (h1 : fi S' f 1 = fi S f 1) (h4 : fi S' f 4 = fi S f 4) : wt S' f = wt S f := by unfold wt; rw [h1, h4]
theorem srv_in {m : Nat} : ∀ (l : List Nat) (S : SS) (left : Int32), l.Pairwise (fun a b => a ≠ b) → VF S m → (∀ f, f ∈ l → f < m ∧ wt S f = true) → 0 ≤ left.toInt → ∀ f, f ∈ l →
    ∃ g : Int32, fi (srv l S left).1 f 4 = fi S f 4 + g ∧ 0 ≤ g.toInt ∧ g.toInt ≤ (fi S f 2).toInt ∧ g.toInt ≤ left.toInt ∧ fi (srv l S left).1 f 6 = (if 0 < g ∧ wt (srv l S left).1 f = false then S 5 else fi S f 6) := by
  intro l
  induction l with
  | nil => intro S left _ _ _ _ f hf; cases hf
  | cons a l ih =>
    intro S left hn hv hl h0 f hf
    obtain ⟨hn1, hn2⟩ := List.pairwise_cons.mp hn
    obtain ⟨ha, hwa⟩ := hl a List.mem_cons_self
    obtain ⟨g1, g2, g3, g4⟩ := gv_rng hv ha h0 hwa
    have e2 : srv (a :: l) S left = srv l (sg S a (gv S a left)) (left - gv S a left) := rfl
    rw [e2]
    have hle : (left - gv S a left).toInt = left.toInt - (gv S a left).toInt := by
      have hb := Int32.toInt_lt left
      have := i_sub (x := left) (y := gv S a left) (by omega) (by omega)
      exact this
    rcases List.mem_cons.mp hf with e | e
    · subst e
      have st : ∀ w, w < 7 → fi (srv l (sg S f (gv S f left)) (left - gv S f left)).1 f w = fi (sg S f (gv S f left)) f w := fun w hw => srv_l _ _ _ _ (fun k hk => by
        have := hn1 k hk
        omega)
      refine ⟨gv S f left, by rw [st 4 (by omega), sg_got], g1, gv_mouth, g2, ?_⟩
      rw [st 6 (by omega)]
      have hw : wt (srv l (sg S f (gv S f left)) (left - gv S f left)).1 f = wt (sg1 S f (gv S f left)) f := by
        refine wt_cg ?_ ?_
        · rw [st 1 (by omega)]
          show upd _ _ _ _ = _
          exact upd_o (by omega)
        · rw [st 4 (by omega)]
          show upd _ _ _ _ = _
          exact upd_o (by omega)
      rw [hw]
      show upd _ _ _ _ = _
      rw [upd_s]
    · have hne : f ≠ a := fun z => hn1 f e z.symm
      have o : ∀ w, w < 7 → fi (sg S a (gv S a left)) f w = fi S f w := fun w hw => sg_fi hw (by omega) (by omega)
      obtain ⟨g, b1, b2, b3, b4, b5⟩ := ih (sg S a (gv S a left)) (left - gv S a left) hn2 (VF_sg hv ha h0 hwa) (fun k hk => by
        have hka : k ≠ a := fun z => hn1 k hk z.symm
        refine ⟨(hl k (List.mem_cons_of_mem _ hk)).1, ?_⟩
        rw [wt_cg (S := S) (sg_fi (by omega) (by omega) (by omega)) (sg_fi (by omega) (by omega) (by omega))]
        exact (hl k (List.mem_cons_of_mem _ hk)).2) (by omega) f e
      refine ⟨g, by rw [b1, o 4 (by omega)], b2, by rw [← o 2 (by omega)]; exact b3, by omega, ?_⟩
      rw [b5, o 6 (by omega), show sg S a (gv S a left) 5 = S 5 from sg_o (by omega) (by omega)]
/-- what one canal's serving does to a field -/
def Got (S S' : SS) (f : Nat) (w : Int32) (P : Prop) : Prop := ∃ g : Int32, fi S' f 4 = fi S f 4 + g ∧ 0 ≤ g.toInt ∧ g.toInt ≤ (fi S f 2).toInt ∧ g.toInt ≤ w.toInt ∧ (g = 0 ∨ P) ∧ fi S' f 6 = (if 0 < g ∧ wt S' f = false then S 5 else fi S f 6)
theorem serve_in {S : SS} {m c f : Nat} {w : Int32} (hv : VF S m) (hw : 0 ≤ w.toInt) (hf : f < m) : Got S (serveF S m c w).1 f w (at_ S f = c ∧ mtF S f m = true) := by
  have hn : ((ord S m).filter (el S m c)).Pairwise (fun a b => a ≠ b) := ((ord_sorted (S := S) (m := m)).imp (fun {a b} h e => by subst e; exact bef_asymm h h)).filter _
  have o7 : ∀ w', w' < 7 → fi (serveF S m c w).1 f w' = fi (srv ((ord S m).filter (el S m c)) S w).1 f w' := fun w' _ => by
    show upd _ 7 _ _ = _
    exact upd_o (by omega)
  have hz : (0 : Int32).toInt = 0 := by decide
  obtain ⟨⟨-, -⟩, ⟨mo, -⟩, -⟩ := hv f hf
  by_cases h : f ∈ (ord S m).filter (el S m c)
  · obtain ⟨g, b1, b2, b3, b4, b5⟩ := srv_in (m := m) _ S w hn hv (fun k hk => by
      obtain ⟨k1, k2⟩ := List.mem_filter.mp hk
      unfold el at k2
      rw [Bool.and_eq_true, Bool.and_eq_true] at k2
      exact ⟨ord_mem.mp k1, k2.1.2⟩) hw f h
    have k2 := (List.mem_filter.mp h).2
    unfold el at k2
    rw [Bool.and_eq_true, Bool.and_eq_true] at k2
    refine ⟨g, by rw [o7 4 (by omega)]; exact b1, b2, b3, b4, Or.inr ⟨of_decide_eq_true k2.1.1, k2.2⟩, ?_⟩
    rw [o7 6 (by omega), wt_cg (S := (srv ((ord S m).filter (el S m c)) S w).1) (o7 1 (by omega)) (o7 4 (by omega))]
    exact b5
  · have st : ∀ w', w' < 7 → fi (srv ((ord S m).filter (el S m c)) S w).1 f w' = fi S f w' := fun w' hw' => srv_l _ _ _ _ (fun k hk => by
      have : k ≠ f := fun z => h (z ▸ hk)
      omega)
    refine ⟨0, by rw [o7 4 (by omega), st 4 (by omega), Int32.add_zero], by omega, by omega, by omega, Or.inl rfl, ?_⟩
    rw [if_neg (fun z => absurd z.1 (by decide)), o7 6 (by omega), st 6 (by omega)]
theorem serve_sum {S : SS} {m c : Nat} {w : Int32} : sm (fun f => fi (serveF S m c w).1 f 4) m + (serveF S m c w).2 = sm (fun f => fi S f 4) m + w := by
  have := srv_sum (m := m) ((ord S m).filter (el S m c)) S w (fun f hf => ord_mem.mp (List.mem_filter.mp hf).1)
  rw [← this]
  show sm (fun f => fi (upd _ 7 _) f 4) m + _ = _
  congr 1
  exact sm_cg m (fun k _ => upd_o (by omega))
