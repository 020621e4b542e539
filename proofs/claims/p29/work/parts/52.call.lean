/-! the class: calls, turns -/
theorem or_2k : ∀ k, k < 10 → ∀ v, v < 2 ^ k → nI v ||| ((1 : Int32) <<< (nI k &&& 31)) = nI (v + 2 ^ k) := by decide +kernel
theorem ofB_nat {p : Nat → Bool} : ∀ i, i ≤ 10 → ∃ v, v < 2 ^ i ∧ ofB p i = nI v := by
  intro i
  induction i with
  | zero => intro _; exact ⟨0, by decide, rfl⟩
  | succ k ih =>
    intro hi
    obtain ⟨v, hv, e⟩ := ih (by omega)
    rw [ofB_succ]
    have hp : 2 ^ (k + 1) = 2 ^ k + 2 ^ k := by rw [Nat.pow_succ]; omega
    by_cases h : p k = true
    · rw [if_pos h, e, or_2k k (by omega) v hv]
      exact ⟨v + 2 ^ k, by omega, rfl⟩
    · rw [if_neg h]
      exact ⟨v, by omega, e⟩
def bc1 (x : Int32) : Int32 := x - (((x.toUInt32 >>> ((1 : Int32).toUInt32 &&& Int32.toUInt32 31)).toInt32) &&& (1431655765 : Int32))
def bc2 (x : Int32) : Int32 := (x &&& (858993459 : Int32)) + (((x.toUInt32 >>> ((2 : Int32).toUInt32 &&& Int32.toUInt32 31)).toInt32) &&& (858993459 : Int32))
def bc3 (x : Int32) : Int32 := (x + ((x.toUInt32 >>> ((4 : Int32).toUInt32 &&& Int32.toUInt32 31)).toInt32)) &&& (252645135 : Int32)
def bc4 (x : Int32) : Int32 := x + ((x.toUInt32 >>> ((8 : Int32).toUInt32 &&& Int32.toUInt32 31)).toInt32)
def bc5 (x : Int32) : Int32 := x + ((x.toUInt32 >>> ((16 : Int32).toUInt32 &&& Int32.toUInt32 31)).toInt32)
theorem bc_eq : ∀ v, v < 1024 → bc5 (bc4 (bc3 (bc2 (bc1 (nI v))))) &&& 63 = onF (nI v) 10 := by decide +kernel
theorem sp_bitCount {Post : Mm → Int32 → Prop} {M : Mm} {v : Nat} (hv : v < 1024) (h : Post M (onF (nI v) 10)) : wJ6_bitCount_0f7a4 Post M (nI v) := by
  intro x1 e1 x2 e2 x3 e3 x4 e4 x5 e5
  have e : x5 &&& 63 = onF (nI v) 10 := by
    rw [← bc_eq v hv, e5, e4, e3, e2, e1]; rfl
  rw [e]
  exact h
theorem sp_bitsB {Post : Mm → Int32 → Prop} {M : Mm} {p : Nat → Bool} {i : Nat} (hi : i ≤ 10) (h : Post M (onF (ofB p i) 10)) : wJ6_bitCount_0f7a4 Post M (ofB p i) := by
  obtain ⟨v, hv, e⟩ := ofB_nat (p := p) i hi
  rw [e] at h ⊢
  exact sp_bitCount (by have := pow_le hi; omega) h
theorem onF_nat {x : Int32} : ∀ i, i ≤ 32 → ∃ v, v ≤ i ∧ onF x i = nI v := by
  intro i
  induction i with
  | zero => intro _; exact ⟨0, Nat.le_refl _, rfl⟩
  | succ k ih =>
    intro hi
    obtain ⟨v, hv, e⟩ := ih (by omega)
    have es : onF x (k + 1) = onF x k + b2i (bt x k) := rfl
    rw [es, e]
    cases bt x k
    · exact ⟨v, by omega, Int32.add_zero _⟩
    · exact ⟨v + 1, by omega, nI_1 v⟩
theorem cl_bits {S : SS} {m f : Nat} (h10 : m ≤ 10) (hf : f < m) : ofB (cls S) m ||| ((1 : Int32) <<< (nI f &&& 31)) = ofB (cls (upd S (87 + 7 * f) 1)) m := by
  refine ofB_of (by omega) (fun k hk => ?_)
  rw [b_or, ofB_bt m (by omega) k hk, bt_shl1 (by omega) hk]
  by_cases e : k = f
  · subst e
    have e2 : fi (upd S (87 + 7 * k) 1) k 5 = 1 := by
      unfold fi; rw [show 82 + 7 * k + 5 = 87 + 7 * k by omega, upd_s]
    unfold cls
    rw [e2, decide_eq_true hf, decide_eq_true (rfl : k = k), Bool.or_true]; decide
  · have e2 : fi (upd S (87 + 7 * f) 1) k 5 = fi S k 5 := upd_o (by omega)
    unfold cls
    rw [e2, decide_eq_false e, Bool.or_false]
theorem VF_cl {S : SS} {m f : Nat} (hv : VF S m) : VF (upd S (87 + 7 * f) 1) m := by
  intro k hk
  obtain ⟨a, b, c, d, e⟩ := hv k hk
  have o : ∀ w, w < 5 → fi (upd S (87 + 7 * f) 1) k w = fi S k w := fun w hw => upd_o (by omega)
  rw [o 1 (by omega), o 2 (by omega), o 3 (by omega), o 4 (by omega)]
  refine ⟨a, b, c, d, ?_⟩
  by_cases e2 : k = f
  · subst e2
    have : fi (upd S (87 + 7 * k) 1) k 5 = 1 := by
      unfold fi; rw [show 82 + 7 * k + 5 = 87 + 7 * k by omega, upd_s]
    exact Or.inr this
  · have : fi (upd S (87 + 7 * f) 1) k 5 = fi S k 5 := upd_o (by omega)
    rw [this]; exact e
theorem sp1_beginCall {Post : Mm → Int32 → Prop} {M : Mm} {t : Nat} {S : SS} {n m tt f : Nat} {x : Int32} (hT : TR M t S n m tt) (h8 : n ≤ 8) (h10 : m ≤ 10) (hv : VF S m) (hf : f < m) (hx : x = nI f)
    (hP : ∀ M', TR M' t (upd S (87 + 7 * f) 1) n m tt → (∀ a, a ≠ t + 10 → M' a = M a) → Post M' (onF (cl (upd S (87 + 7 * f) 1) m) 10)) : wX1_beginCall Post M (t + 10) x := by
  subst hx
  intro M1 e1
  rw [hT.2.2.2.2.1, cl_bits h10 hf] at e1
  have e : M1 (t + 10) 1 = ofB (cls (upd S (87 + 7 * f) 1)) m := by rw [e1, mu_at]
  rw [e]
  refine sp_bitsB h10 ?_
  rw [← cl_ofB (VF_cl hv) m (Nat.le_refl _)]
  refine hP M1 ?_ (fun a ha => by rw [e1, mu_row ha])
  rw [e1]
  refine TR_cls hT (fun k hk => ?_) rfl h8 h10
  rw [upd_o]
  rcases hk with z | z
  · have := z f; omega
  · omega
theorem sp1_canCall {Post : Mm → Int32 → Prop} {M : Mm} {t : Nat} {S : SS} {n m tt f : Nat} {x : Int32} (hT : TR M t S n m tt) (h10 : m ≤ 10) (hf : f < m) (hx : x = nI f) (h1 : (¬ (fi S f 5 = 1 ∨ wt S f = false)) → Post M 1) (h0 : (fi S f 5 = 1 ∨ wt S f = false) → Post M 0) : wX1_canCall Post M (t + 10) x := by
  refine sp1_wants hT h10 hf hx ⟨fun d => h0 (Or.inr (b2i_0.mp d)), fun d => sp1_calls hT h10 hf hx ⟨fun c => h0 (Or.inl ?_), fun c => h1 ?_⟩⟩
  · exact of_decide_eq_true (b2i_1.mp ((b2i_01 _).resolve_left c))
  · have a := b2i_1.mp ((b2i_01 _).resolve_left d)
    have b := of_decide_eq_false (b2i_0.mp c)
    rintro (z | z)
    · exact b z
    · rw [a] at z; cases z
theorem sp6_call {Post : Mm → Int32 → Prop} {M : Mm} {P : Nat → Nat} {S : SS} {n m tt s : Nat} {x : Int32} (hp : HP M P) (hs : M 47 0 = nI s) (h4 : s ≤ 4) (hT : TR M 1 S n m tt) (hw : Wf S n m tt) (hv : VF S m)
    (h : ∀ M', CA M M' P s S (clF S m x).1 n m tt n m tt (clF S m x).2 → Post M' (clF S m x).2) : wX6_call Post M 0 x := by
  have h8 := hw.2.2.2.1.2
  have h10 := hw.2.2.2.2.1
  unfold clF at h
  refine sp1_has (t := 1) hT h10 ⟨fun d => ?_, fun d => ?_⟩
  · have g1 := b2i_1.mp ((b2i_01 _).resolve_left d)
    rw [if_pos g1] at h
    obtain ⟨g, gl, gh, ey⟩ := inr_of g1
    subst ey
    rw [ixn (by omega)] at h
    refine sp1_canCall (t := 1) hT h10 gh rfl (fun z => ⟨fun _ => ?_, fun y => absurd y (by decide)⟩) (fun z => ⟨fun y => absurd rfl y, fun _ => ?_⟩)
    · rw [if_neg z] at h
      refine sp_rec hp hs h4 hT hw (fun M1 hT1 h141 mk => sp1_beginCall (t := 1) hT1 h8 h10 hv gh rfl (fun M2 hT2 hfr => ?_))
      refine h M2 (mk M2 _ _ _ _ _ hT2 (fun a ha => hfr a (by omega)) ?_)
      obtain ⟨v, hv2, e⟩ := onF_nat (x := cl (upd S (87 + 7 * g) 1) m) 10 (by omega)
      show ¬ onF _ 10 ≤ -1000001
      rw [e]
      exact nI_not (by omega)
    · rw [if_pos z] at h
      exact h M (CA_none hT hp (show (-1000002 : Int32) ≤ -1000001 by decide))
  · rw [if_neg (by rw [b2i_0.mp d]; decide)] at h
    exact h M (CA_none hT hp (show (-1000001 : Int32) ≤ -1000001 by decide))
theorem sp0_areGates {Post : Mm → Int32 → Prop} {M : Mm} {t : Nat} {S : SS} {n m tt : Nat} {x : Int32} (hT : TR M t S n m tt) (h1 : 1 ≤ n) (h8 : n ≤ 8) (h : Post M (b2i (agF n x))) : wX0_areGates Post M (t + 1) x := by
  unfold wX0_areGates wX0_allGates
  rw [hT.2.1]
  refine ⟨fun c => ?_, fun c => ?_⟩
  · have : agF n x = false := by
      cases hh : agF n x
      · rfl
      · exact absurd ((ag_spec h1 h8 x).mpr hh) c
    rw [this] at h
    exact h
  · rw [(ag_spec h1 h8 x).mp c] at h
    exact h
theorem mp_lo {n m tt tt' k j i : Nat} (h8 : n ≤ 8) (h10 : m ≤ 10) (hm : mp n m tt' k j i) (hk : k < 18) : mp n m tt k j i ∧ 5 ≤ i ∧ i < 152 := by
  unfold mp at hm
  rcases hm with h | h | h | h | h | h | h | h
  · exact ⟨Or.inl h, by omega, by omega⟩
  · exact ⟨Or.inr (Or.inl h), by omega, by omega⟩
  · exact ⟨Or.inr (Or.inr (Or.inl h)), by omega, by omega⟩
  · exact ⟨Or.inr (Or.inr (Or.inr (Or.inl h))), by omega, by omega⟩
  · exact ⟨Or.inr (Or.inr (Or.inr (Or.inr (Or.inl h)))), by omega, by omega⟩
  · exact absurd hk (by omega)
  · exact absurd hk (by omega)
  · exact absurd hk (by omega)
theorem mp_hi {n m tt k j i : Nat} (hm : mp n m tt k j i) (hk : ¬ k < 18) : (k = 18 ∧ (j = 1 ∨ j = 2) ∧ i = j + 2) ∨ (k = 19 ∧ j < tt ∧ i = 152 + 2 * j) ∨ (k = 20 ∧ j < tt ∧ i = 153 + 2 * j) := by
  unfold mp at hm
  rcases hm with h | h | h | h | h | h | h | h
  · exact absurd hk (by omega)
  · exact absurd hk (by omega)
  · exact absurd hk (by omega)
  · exact absurd hk (by omega)
  · exact absurd hk (by omega)
  · exact Or.inl h
  · exact Or.inr (Or.inl h)
  · exact Or.inr (Or.inr h)
/-- turns added, turns taken away -/
theorem TR_tn {M : Mm} {t : Nat} {S : SS} {n m tt : Nat} {M' : Mm} {S' : SS} {tt' : Nat} (hT : TR M t S n m tt) (hr : ∀ k, k < 18 → M' (t + k) = M (t + k)) (hS : ∀ i, (5 ≤ i ∧ i < 152) → S' i = S i)
    (h0 : M' (t + 18) 0 = nI tt') (h1 : M' (t + 18) 1 = S' 3) (h2 : M' (t + 18) 2 = S' 4) (h19 : ∀ j, j < tt' → M' (t + 19) j = S' (152 + 2 * j) ∧ M' (t + 20) j = S' (153 + 2 * j)) (h8 : n ≤ 8) (h10 : m ≤ 10) : TR M' t S' n m tt' := by
  obtain ⟨a, b, c, d, e, f, g, x, y⟩ := hT
  refine ⟨fun k j i hm => ?_, by rw [hr 1 (by omega), b], ?_, by rw [hr 10 (by omega), d], ?_, h0, fun i hi => ?_, fun i h1 h2 => ?_, fun i h1 h2 => ?_⟩
  · by_cases hk : k < 18
    · have hm' : mp n m tt k j i ∧ 5 ≤ i ∧ i < 152 := mp_lo h8 h10 hm hk
      rw [hr k hk, hS i hm'.2]
      exact a k j i hm'.1
    · rcases mp_hi hm hk with ⟨q1, q2 | q2, q3⟩ | ⟨q1, q2, q3⟩ | ⟨q1, q2, q3⟩
      · subst q1 q2 q3; exact h1
      · subst q1 q2 q3; exact h2
      · subst q1 q3; exact (h19 j q2).1
      · subst q1 q3; exact (h19 j q2).2
  · rw [hr 1 (by omega), c]
    refine ofB_congr n (fun g hg => ?_)
    unfold opn ca
    rw [hS _ (by omega)]
  · rw [hr 10 (by omega), e]
    refine ofB_congr m (fun g hg => ?_)
    unfold cls fi
    rw [hS _ (by omega)]
  · have : ord S' m = ord S m := by
      have hh : ∀ k, k ≤ m → ord S' k = ord S k := by
        intro k
        induction k with
        | zero => intro _; rfl
        | succ k ih =>
          intro hk
          have e1 : ∀ f, f < m → fi S' f 3 = fi S f 3 := fun f hf => hS _ (by omega)
          have e2 : ∀ l : List Nat, (∀ z, z ∈ l → z < m) → ins S' k l = ins S k l := by
            intro l
            induction l with
            | nil => intro _; rfl
            | cons z l ih2 =>
              intro hl
              unfold ins
              rw [e1 k (by omega), e1 z (hl z List.mem_cons_self), ih2 (fun w hw => hl w (List.mem_cons_of_mem _ hw))]
          unfold ord
          rw [ih (by omega), e2 _ (fun z hz => by have := ord_mem.mp hz; omega)]
      exact hh m (Nat.le_refl _)
    rw [this, hr 17 (by omega)]
    exact g i hi
  · rw [hr 6 (by omega), hr 7 (by omega), hr 8 (by omega), hr 9 (by omega)]
    exact x i h1 h2
  · rw [hr 15 (by omega), hr 16 (by omega)]
    exact y i h1 h2
