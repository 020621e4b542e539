/-! the class: what a terrace shows -/
def mp (n m tt k j i : Nat) : Prop :=
  (k = 0 ∧ 3 ≤ j ∧ j ≤ 7 ∧ i = j + 2) ∨ (2 ≤ k ∧ k ≤ 5 ∧ j < n ∧ i + 2 = 10 + 9 * j + k) ∨ (6 ≤ k ∧ k ≤ 9 ∧ j < n ∧ i + 1 = 10 + 9 * j + k) ∨
  (11 ≤ k ∧ k ≤ 15 ∧ j < m ∧ i + 11 = 82 + 7 * j + k) ∨ (k = 16 ∧ j < m ∧ i = 82 + 7 * j + 6) ∨ (k = 18 ∧ (j = 1 ∨ j = 2) ∧ i = j + 2) ∨
  (k = 19 ∧ j < tt ∧ i = 152 + 2 * j) ∨ (k = 20 ∧ j < tt ∧ i = 153 + 2 * j)
theorem mp_i {n m tt k j i k' j' : Nat} (h8 : n ≤ 8) (h10 : m ≤ 10) (h : mp n m tt k j i) (h' : mp n m tt k' j' i) : k = k' ∧ j = j' := by
  unfold mp at h h'
  rcases h with h | h | h | h | h | h | h | h <;> rcases h' with h' | h' | h' | h' | h' | h' | h' | h' <;> omega
theorem mp_k {n m tt k j i i' : Nat} (h : mp n m tt k j i) (h' : mp n m tt k j i') : i = i' := by
  unfold mp at h h'
  rcases h with h | h | h | h | h | h | h | h <;> rcases h' with h' | h' | h' | h' | h' | h' | h' | h' <;> omega
def opn (S : SS) (g : Nat) : Bool := decide (ca S g 4 = 1)
def cls (S : SS) (f : Nat) : Bool := decide (fi S f 5 = 1)
def TR (M : Mm) (t : Nat) (S : SS) (n m tt : Nat) : Prop :=
  (∀ k j i, mp n m tt k j i → M (t + k) j = S i) ∧ M (t + 1) 0 = nI n ∧ M (t + 1) 1 = ofB (opn S) n ∧ M (t + 10) 0 = nI m ∧ M (t + 10) 1 = ofB (cls S) m ∧ M (t + 18) 0 = nI tt ∧
  (∀ i, i < m → ∃ f, (ord S m)[i]? = some f ∧ M (t + 17) i = nI f) ∧
  (∀ c, n ≤ c → c < 8 → M (t + 6) c = -1 ∧ M (t + 7) c = 0 ∧ M (t + 8) c = 0 ∧ M (t + 9) c = 0) ∧
  (∀ f, m ≤ f → f < 10 → M (t + 15) f = 0 ∧ M (t + 16) f = 0)
theorem TR.of {M M' : Mm} {t : Nat} {S : SS} {n m tt : Nat} (h : TR M t S n m tt) (h0 : ∀ j, 3 ≤ j → j ≤ 7 → M' t j = M t j) (hk : ∀ k, 1 ≤ k → k ≤ 20 → M' (t + k) = M (t + k)) : TR M' t S n m tt := by
  obtain ⟨a, b, c, d, e, f, g, x, y⟩ := h
  refine ⟨fun k j i hm => ?_, by rw [hk 1 (by omega) (by omega), b], by rw [hk 1 (by omega) (by omega), c], by rw [hk 10 (by omega) (by omega), d], by rw [hk 10 (by omega) (by omega), e], by rw [hk 18 (by omega) (by omega), f], fun i hi => ?_, fun i h1 h2 => ?_, fun i h1 h2 => ?_⟩
  · by_cases hk0 : k = 0
    · subst hk0
      have : 3 ≤ j ∧ j ≤ 7 := by unfold mp at hm; omega
      have e0 := a 0 j i hm
      rw [Nat.add_zero] at e0 ⊢
      rw [h0 j this.1 this.2, e0]
    · have : k ≤ 20 := by unfold mp at hm; omega
      rw [hk k (by omega) this]
      exact a k j i hm
  · rw [hk 17 (by omega) (by omega)]
    exact g i hi
  · rw [hk 6 (by omega) (by omega), hk 7 (by omega) (by omega), hk 8 (by omega) (by omega), hk 9 (by omega) (by omega)]
    exact x i h1 h2
  · rw [hk 15 (by omega) (by omega), hk 16 (by omega) (by omega)]
    exact y i h1 h2
theorem ins_congr {S S' : SS} (h : ∀ f, fi S' f 3 = fi S f 3) {f : Nat} : ∀ l, ins S' f l = ins S f l := by
  intro l
  induction l with
  | nil => rfl
  | cons a l ih => unfold ins; rw [h, h, ih]
theorem ord_congr {S S' : SS} (h : ∀ f, fi S' f 3 = fi S f 3) : ∀ m, ord S' m = ord S m := by
  intro m
  induction m with
  | zero => rfl
  | succ m ih => unfold ord; rw [ih, ins_congr h]
theorem ofB_congr {p q : Nat → Bool} : ∀ i, (∀ k, k < i → p k = q k) → ofB p i = ofB q i := by
  intro i
  induction i with
  | zero => intro _; rfl
  | succ i ih => intro h; rw [ofB_succ, ofB_succ, h i (by omega), ih (fun k hk => h k (by omega))]
theorem mu_row {M : Mm} {a b k : Nat} {v : Int32} (h : b ≠ a) : mu M a k v b = M b := by rw [mu_sr, sr_o h]
theorem mu_at {M : Mm} {a k : Nat} {v : Int32} : mu M a k v a k = v := by rw [mu_sr, sr_s, upd_s]
theorem mu_el {M : Mm} {a b k j : Nat} {v : Int32} (h : ¬ (b = a ∧ j = k)) : mu M a k v b j = M b j := by
  by_cases e : b = a
  · subst e
    rw [mu_sr, sr_s, upd_o (fun z => h ⟨rfl, z⟩)]
  · rw [mu_row e]
/-- one slot of the terrace and the slot of the state that it stands for -/
theorem TR_upd {M : Mm} {t : Nat} {S : SS} {n m tt k0 j0 i0 : Nat} {v : Int32} (h8 : n ≤ 8) (h10 : m ≤ 10) (h : TR M t S n m tt) (hm : mp n m tt k0 j0 i0) (h14 : k0 ≠ 14) : TR (mu M (t + k0) j0 v) t (upd S i0 v) n m tt := by
  obtain ⟨a, b, c, d, e, f, g, x, y⟩ := h
  have ne : ∀ k j, ¬ (k = k0 ∧ j = j0) → mu M (t + k0) j0 v (t + k) j = M (t + k) j := fun k j z => mu_el (fun q => z ⟨by omega, q.2⟩)
  have iS : ∀ i, i ≠ i0 → upd S i0 v i = S i := fun i z => upd_o z
  have i4 : ∀ g, i0 ≠ 10 + 9 * g + 4 ∨ n ≤ g := by intro g; unfold mp at hm; omega
  have i5 : ∀ f, i0 ≠ 82 + 7 * f + 5 ∨ m ≤ f := by intro f; unfold mp at hm; omega
  have i3 : ∀ f, i0 ≠ 82 + 7 * f + 3 ∨ m ≤ f := by intro f; unfold mp at hm; omega
  refine ⟨fun k j i hk => ?_, ?_, ?_, ?_, ?_, ?_, fun i hi => ?_, fun i h1 h2 => ?_, fun i h1 h2 => ?_⟩
  · by_cases z : k = k0 ∧ j = j0
    · obtain ⟨rfl, rfl⟩ := z
      have := mp_k hk hm
      subst this
      rw [mu_at, upd_s]
    · rw [ne k j z, iS i (fun q => z (mp_i h8 h10 (q ▸ hk) hm))]
      exact a k j i hk
  · rw [ne 1 0 (by unfold mp at hm; omega), b]
  · rw [ne 1 1 (by unfold mp at hm; omega), c]
    refine ofB_congr n (fun g hg => ?_)
    unfold opn ca
    rw [iS _ (by have := i4 g; omega)]
  · rw [ne 10 0 (by unfold mp at hm; omega), d]
  · rw [ne 10 1 (by unfold mp at hm; omega), e]
    refine ofB_congr m (fun g hg => ?_)
    unfold cls fi
    rw [iS _ (by have := i5 g; omega)]
  · rw [ne 18 0 (by unfold mp at hm; omega), f]
  · obtain ⟨f, q1, q2⟩ := g i hi
    refine ⟨f, ?_, ?_⟩
    · have : ord (upd S i0 v) m = ord S m := by
        have hh : ∀ k, k ≤ m → ord (upd S i0 v) k = ord S k := by
          intro k
          induction k with
          | zero => intro _; rfl
          | succ k ih =>
            intro hk
            have e1 : ∀ f, f < m → fi (upd S i0 v) f 3 = fi S f 3 := fun f hf => iS _ (by have := i3 f; omega)
            have e2 : ∀ l : List Nat, (∀ z, z ∈ l → z < m) → ins (upd S i0 v) k l = ins S k l := by
              intro l
              induction l with
              | nil => intro _; rfl
              | cons z l ih2 =>
                intro hl
                unfold ins
                rw [e1 k (by omega), e1 z (hl z List.mem_cons_self), ih2 (fun w hw => hl w (List.mem_cons_of_mem _ hw))]
            unfold ord
            rw [ih (by omega), e2 _ (fun z hz => by have := ord_mem.mp hz; omega)]
        exact hh m (Nat.le_refl _)
      rw [this, q1]
    · rw [ne 17 i (by unfold mp at hm; omega), q2]
  · rw [ne 6 i (by unfold mp at hm; omega), ne 7 i (by unfold mp at hm; omega), ne 8 i (by unfold mp at hm; omega), ne 9 i (by unfold mp at hm; omega)]
    exact x i h1 h2
  · rw [ne 15 i (by unfold mp at hm; omega), ne 16 i (by unfold mp at hm; omega)]
    exact y i h1 h2
theorem bt_and {x : Int32} {g : Nat} (hg : g < 32) : x &&& ((1 : Int32) <<< (nI g &&& 31)) = 0 ↔ bt x g = false := by
  constructor
  · intro h
    have : bt (x &&& ((1 : Int32) <<< (nI g &&& 31))) g = false := by rw [h, b_0]
    rw [b_and, bt_shl1 hg hg] at this
    simpa using this
  · intro h
    refine bt_eq0 (fun k hk => ?_)
    rw [b_and, bt_shl1 hg hk]
    by_cases e : k = g
    · subst e; rw [h]; rfl
    · rw [decide_eq_false e, Bool.and_false]
theorem TR.rd {M : Mm} {t : Nat} {S : SS} {n m tt : Nat} (h : TR M t S n m tt) {k j i : Nat} (hm : mp n m tt k j i) : M (t + k) j = S i := h.1 k j i hm
theorem TR.opn {M : Mm} {t : Nat} {S : SS} {n m tt : Nat} (h : TR M t S n m tt) (h8 : n ≤ 8) {g : Nat} (hg : g < n) : bt (M (t + 1) 1) g = opn S g := by
  rw [h.2.2.1, ofB_bt n (by omega) g (by omega), decide_eq_true hg, Bool.true_and]
theorem TR.cls {M : Mm} {t : Nat} {S : SS} {n m tt : Nat} (h : TR M t S n m tt) (h10 : m ≤ 10) {f : Nat} (hf : f < m) : bt (M (t + 10) 1) f = cls S f := by
  rw [h.2.2.2.2.1, ofB_bt m (by omega) f (by omega), decide_eq_true hf, Bool.true_and]
theorem bool_and {P : Int32 → Prop} {b : Bool} {x : Int32} {g : Nat} (hg : g < 32) (hb : bt x g = b) (h : P (b2i b)) : (x &&& ((1 : Int32) <<< (nI g &&& 31)) = 0 → P 0) ∧ (¬ x &&& ((1 : Int32) <<< (nI g &&& 31)) = 0 → P 1) := by
  subst hb
  refine ⟨fun d => ?_, fun d => ?_⟩
  · rw [(bt_and hg).mp d] at h; exact h
  · cases hh : bt x g
    · exact absurd ((bt_and hg).mpr hh) d
    · rw [hh] at h; exact h
theorem sp0_isOpen {Post : Mm → Int32 → Prop} {M : Mm} {t : Nat} {S : SS} {n m tt g : Nat} {x : Int32} (h : TR M t S n m tt) (h8 : n ≤ 8) (hg : g < n) (hx : x = nI g) (hP : Post M (b2i (opn S g))) : wX0_isOpen Post M (t + 1) x := by
  subst hx
  exact bool_and (P := fun r => Post M r) (by omega) (h.opn h8 hg) hP
theorem sp1_calls {Post : Mm → Int32 → Prop} {M : Mm} {t : Nat} {S : SS} {n m tt f : Nat} {x : Int32} (h : TR M t S n m tt) (h10 : m ≤ 10) (hf : f < m) (hx : x = nI f) (hP : Post M (b2i (cls S f))) : wX1_calls Post M (t + 10) x := by
  subst hx
  exact bool_and (P := fun r => Post M r) (by omega) (h.cls h10 hf) hP
theorem sp1_wants {Post : Mm → Int32 → Prop} {M : Mm} {t : Nat} {S : SS} {n m tt f : Nat} {x : Int32} (h : TR M t S n m tt) (h10 : m ≤ 10) (hf : f < m) (hx : x = nI f) (hP : Post M (b2i (wt S f))) : wX1_wants Post M (t + 10) x := by
  subst hx
  have e2 : M (t + 10 + 2) f = fi S f 1 := h.rd (k := 12) (j := f) (i := 82 + 7 * f + 1) (by unfold mp; omega)
  have e5 : M (t + 10 + 5) f = fi S f 4 := h.rd (k := 15) (j := f) (i := 82 + 7 * f + 4) (by unfold mp; omega)
  have hv : vp_in (nI f) 10 := vp_in_nI (by omega) (by omega)
  unfold wX1_wants
  rw [ixn (by omega), e2, e5]
  refine ⟨hv, hv, fun d => ?_, fun d => ?_⟩
  · rw [wt_le d] at hP; exact hP
  · rw [wt_nle d] at hP; exact hP
theorem sp1_wanting {Post : Mm → Int32 → Prop} {M : Mm} {t : Nat} {S : SS} {n m tt : Nat} (h : TR M t S n m tt) (h10 : m ≤ 10) (hP : Post M (ofB (wt S) m)) : wX1_wanting Post M (t + 10) := by
  have e0 : M (t + 10) 0 = nI m := h.2.2.2.1
  show ∃ q : Nat, lX1_wanting_4 Post q M (t + 10) 0 (nI 0)
  refine pk_loop (fun q i (y : Int32) => lX1_wanting_4 Post q M (t + 10) y (nI i)) (fun i y => y = ofB (wt S) i) m 0 0 (Nat.zero_le _) rfl ?_ ?_
  · intro q y e
    subst e
    refine ⟨fun _ => hP, fun z => absurd ?_ z⟩
    rw [e0]; exact nI_le (Nat.le_refl _) (by omega)
  · intro q i y hi e ih
    subst e
    refine ⟨fun z => absurd z ?_, fun _ => sp1_wants h h10 hi rfl ⟨fun d x2 e2 => ?_, fun d x1 e1 x2 e2 => ?_⟩⟩
    · rw [e0]; exact nI_ge hi (by omega)
    · rw [e2, nI_1]
      refine ih _ ?_
      rw [ofB_succ, b2i_0.mp d, if_neg (by decide)]
    · rw [e2, nI_1, e1]
      refine ih _ ?_
      rw [ofB_succ, b2i_1.mp ((b2i_01 _).resolve_left d), if_pos rfl]
