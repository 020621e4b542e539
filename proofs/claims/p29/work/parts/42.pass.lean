/-! the class: gates that let through -/
def psB (S : SS) (m g : Nat) : Bool := decide (1 ≤ g) && (opn S g && (!decide (ca S g 1 = 2) || iwF S g m))
/-- the thirsty canals, when the gates above i have been seen -/
def th (S : SS) (n m : Nat) (x : Int32) (i : Nat) : Prop := ∀ c, c < n → (bt x c = true ↔ ∃ k, k < m ∧ wt S k = true ∧ (at_ S k = c ∨ ch S n false c i (at_ S k)))
theorem sp4_findPassingGates {Post : Mm → Prop} {M : Mm} {t : Nat} {S : SS} {n m tt : Nat} (h : TR M t S n m tt) (hw : Wf S n m tt)
    (hP : ∀ v, (∀ g, g < n → bt v g = psB S m g) → Post (mu M t 10 v)) : wX4_findPassingGates Post M t := by
  obtain ⟨w0, w1, w2, ⟨w3, w4⟩, w5, w6, w7, w8⟩ := hw
  have hp : ∀ c, 1 ≤ c → c < n → pa S c < c := fun c a b => (w7 c a b).1
  have hT : ∀ v, TR (mu M t 10 v) t S n m tt := fun v => h.of (fun j j1 j2 => mu_el (by omega)) (fun k k1 k2 => mu_row (by omega))
  have muu : ∀ v w, mu (mu M t 10 v) t 10 w = mu M t 10 w := by
    intro v w
    rw [mu_sr, mu_sr, mu_sr, sr_s, sr_sr]
    congr 1
    funext j
    by_cases e : j = 10
    · subst e; rw [upd_s, upd_s]
    · rw [upd_o e, upd_o e, upd_o e]
  have em1 : ∀ i, nI (i + 1) + -1 = nI i := by
    intro i
    rw [← nI_1, Int32.add_assoc]
    show nI i + (1 + -1) = nI i
    rw [show (1 : Int32) + -1 = 0 by decide, Int32.add_zero]
  have gates : ∀ x1, th S n m x1 (n - 1) → ∀ x2, x2 = nI (n - 1) → ∃ q : Nat, lX4_findPassingGates_61 Post q (mu M t 10 0) t x1 x2 := by
    intro x1 h1 x2 e2
    subst e2
    refine ⟨n - 1 + 1, pk_loopD (σ := Int32 × Int32) (fun q i s => lX4_findPassingGates_61 Post q (mu M t 10 s.2) t s.1 (nI i)) (fun i s => i < n ∧ th S n m s.1 i ∧ ∀ g, g < n → bt s.2 g = (decide (i < g) && psB S m g)) ?_ ?_ (n - 1) (x1, 0) ⟨by omega, h1, fun g hg => by rw [b_0, decide_eq_false (by omega)]; rfl⟩⟩
    · rintro q s ⟨-, -, hs⟩
      refine ⟨fun _ => hP s.2 (fun g hg => ?_), fun z => absurd (show nI 0 ≤ 0 by decide) z⟩
      rw [hs g hg]
      unfold psB
      by_cases e : 1 ≤ g
      · rw [decide_eq_true e, decide_eq_true (show 0 < g by omega)]; rfl
      · rw [decide_eq_false e]; simp
    · rintro q i ⟨x, v⟩ ⟨hi, hx, hv⟩ ih
      dsimp only at hx hv ⊢
      have hpi := hp (i + 1) (by omega) hi
      have hvp : vp_in (nI (i + 1)) 8 := vp_in_nI (by omega) (by omega)
      have own : bt x (i + 1) = iwF S (i + 1) m := by
        have a := hx (i + 1) hi
        have b := iwF_iff (S := S) (c := i + 1) m
        have c : (∃ k, k < m ∧ wt S k = true ∧ (at_ S k = i + 1 ∨ ch S n false (i + 1) (i + 1) (at_ S k))) ↔ (∃ k, k < m ∧ wt S k = true ∧ (at_ S k = i + 1 ∨ isB S false (i + 1) (at_ S k) = true)) := by
          constructor
          · rintro ⟨k, k1, k2, k3⟩
            exact ⟨k, k1, k2, k3.imp id (fun z => (ch_own hp w4 (w8 k k1).1).mp z)⟩
          · rintro ⟨k, k1, k2, k3⟩
            exact ⟨k, k1, k2, k3.imp id (fun z => (ch_own hp w4 (w8 k k1).1).mpr z)⟩
        rw [c, ← b] at a
        cases h1 : bt x (i + 1) <;> cases h2 : iwF S (i + 1) m
        · rfl
        · rw [h1, h2] at a; exact absurd (a.mpr rfl) (by decide)
        · rw [h1, h2] at a; exact absurd (a.mp rfl) (by decide)
        · rfl
      have epar : mu M t 10 v (t + 1 + 1) (i + 1) = nI (pa S (i + 1)) := by
        rw [← (w7 (i + 1) (by omega) hi).2]
        exact (hT v).rd (k := 2) (j := i + 1) (i := 10 + 9 * (i + 1)) (by unfold mp; omega)
      have ekind : mu M t 10 v (t + 1 + 2) (i + 1) = ca S (i + 1) 1 := (hT v).rd (k := 3) (j := i + 1) (i := 10 + 9 * (i + 1) + 1) (by unfold mp; omega)
      -- the passing bit
      have pass : ∀ x', th S n m x' i → ∀ b : Bool, b = psB S m (i + 1) → (b = false → lX4_findPassingGates_61 Post q (mu M t 10 v) t x' (nI i)) ∧ (b = true → bX4_findPassingGates_125 Post (lX4_findPassingGates_61 Post q) (mu M t 10 v) t x' (nI (i + 1))) := by
        intro x' hx' b eb
        refine ⟨fun hb => ih (x', v) ⟨by omega, hx', fun g hg => ?_⟩, fun hb M23 e23 x2 e2 => ?_⟩
        · rw [hv g hg]
          by_cases e : g = i + 1
          · subst e; rw [← eb, hb]; simp
          · have : decide (i < g) = decide (i + 1 < g) := decide_eq_decide.mpr (by omega)
            rw [this]
        · rw [e2, em1]
          have e : M23 = mu M t 10 (v ||| (1 <<< (nI (i + 1) &&& 31))) := by
            rw [e23, muu, mu_at]
          rw [e]
          refine ih (x', _) ⟨by omega, hx', fun g hg => ?_⟩
          show bt (v ||| (1 <<< (nI (i + 1) &&& 31))) g = _
          rw [b_or, hv g hg, bt_shl1 (by omega) (by omega)]
          by_cases e : g = i + 1
          · subst e; rw [← eb, hb]; simp
          · have : decide (i < g) = decide (i + 1 < g) := decide_eq_decide.mpr (by omega)
            rw [this, decide_eq_false e]; simp
      have f97 : ∀ x', th S n m x' i → bX4_findPassingGates_97 Post (lX4_findPassingGates_61 Post q) (mu M t 10 v) t x' (nI (i + 1)) (b2i (iwF S (i + 1) m)) := by
        intro x' hx'
        obtain ⟨p1, p2⟩ := pass x' hx' _ rfl
        have e0 : psB S m (i + 1) = (opn S (i + 1) && (!decide (ca S (i + 1) 1 = 2) || iwF S (i + 1) m)) := by
          unfold psB; rw [decide_eq_true (show 1 ≤ i + 1 by omega)]; rfl
        rw [e0] at p1 p2
        refine sp0_isOpen (hT v) w4 hi rfl ⟨fun d x2 e2 => ?_, fun d => ⟨hvp, ?_⟩⟩
        · rw [e2, em1]
          exact p1 (by rw [b2i_0.mp d]; rfl)
        · have ho := b2i_1.mp ((b2i_01 _).resolve_left d)
          rw [ho] at p1 p2
          rw [ixn (by omega), ekind]
          refine ⟨fun d2 => p2 (by rw [decide_eq_false d2]; rfl), fun d2 => ⟨fun d3 x2 e2 => ?_, fun d3 => p2 (by rw [b2i_1.mp ((b2i_01 _).resolve_left d3)]; simp)⟩⟩
          rw [e2, em1]
          exact p1 (by rw [decide_eq_true d2, b2i_0.mp d3]; rfl)
      have f78 : ∀ t0, t0 = b2i (iwF S (i + 1) m) → bX4_findPassingGates_78 Post (lX4_findPassingGates_61 Post q) (mu M t 10 v) t x (nI (i + 1)) t0 := by
        intro t0 et
        subst et
        refine ⟨fun d => f97 x (fun c hc => ?_), fun d => ⟨hvp, fun x1 e1 => ?_⟩⟩
        · have hno := b2i_0.mp d
          rw [hx c hc]
          constructor
          · rintro ⟨k, k1, k2, k3⟩
            exact ⟨k, k1, k2, k3.imp id (fun z => (ch_step hi).mpr (Or.inl z))⟩
          · rintro ⟨k, k1, k2, k3 | k3⟩
            · exact ⟨k, k1, k2, Or.inl k3⟩
            · rcases (ch_step hi).mp k3 with z | ⟨-, -, z⟩
              · exact ⟨k, k1, k2, Or.inr z⟩
              · exfalso
                have := (iwF_iff (S := S) (c := i + 1) m).mpr ⟨k, k1, k2, z⟩
                rw [hno] at this
                cases this
        · have hyes := b2i_1.mp ((b2i_01 _).resolve_left d)
          obtain ⟨k0, q1, q2, q3⟩ := (iwF_iff (S := S) (c := i + 1) m).mp hyes
          rw [ixn (by omega), epar] at e1
          subst e1
          refine f97 _ (fun c hc => ?_)
          rw [b_or, bt_shl1 (by omega) (by omega), Bool.or_eq_true, hx c hc]
          constructor
          · rintro (⟨k, k1, k2, k3⟩ | z)
            · exact ⟨k, k1, k2, k3.imp id (fun z => (ch_step hi).mpr (Or.inl z))⟩
            · have := of_decide_eq_true z
              exact ⟨k0, q1, q2, Or.inr ((ch_step hi).mpr (Or.inr ⟨this.symm, fun z => Bool.noConfusion z, q3⟩))⟩
          · rintro ⟨k, k1, k2, k3 | k3⟩
            · exact Or.inl ⟨k, k1, k2, Or.inl k3⟩
            · rcases (ch_step hi).mp k3 with z | ⟨z, -, -⟩
              · exact Or.inl ⟨k, k1, k2, Or.inr z⟩
              · exact Or.inr (decide_eq_true z.symm)
      refine ⟨fun z => absurd z (nI_ge (show 0 < i + 1 by omega) (by omega)), fun _ => ⟨fun d => f78 0 ?_, fun d => f78 1 ?_⟩⟩
      · rw [← own, (bt_and (by omega)).mp d]; rfl
      · rw [← own]
        cases hh : bt x (i + 1)
        · exact absurd ((bt_and (by omega)).mpr hh) d
        · rfl
  show ∃ q : Nat, lX4_findPassingGates_4 Post q M t 0 (nI 0)
  refine pk_loop (fun q i (x : Int32) => lX4_findPassingGates_4 Post q M t x (nI i)) (fun i x => ∀ c, c < n → (bt x c = true ↔ ∃ k, k < i ∧ wt S k = true ∧ at_ S k = c)) m 0 0 (Nat.zero_le _) ?_ ?_ ?_
  · intro c hc
    rw [b_0]
    exact ⟨fun z => (by cases z), fun ⟨k, hk, _⟩ => absurd hk (by omega)⟩
  · intro q x hx
    refine ⟨fun _ M3 e3 x2 e2 => ?_, fun z => absurd ?_ z⟩
    · subst e3
      refine gates x (fun c hc => ?_) x2 ?_
      · rw [hx c hc]
        constructor
        · rintro ⟨k, k1, k2, k3⟩; exact ⟨k, k1, k2, Or.inl k3⟩
        · rintro ⟨k, k1, k2, k3 | ⟨d, d1, d2, -⟩⟩
          · exact ⟨k, k1, k2, k3⟩
          · omega
      · rw [e2, (hT 0).2.1]
        obtain ⟨k, hk⟩ : ∃ k, n = k + 1 := ⟨n - 1, by omega⟩
        rw [hk, nI_m1]; rfl
    · rw [h.2.2.2.1]; exact nI_le (Nat.le_refl _) (by omega)
  · intro q i x hi hx ih
    refine ⟨fun z => absurd z ?_, fun _ => sp1_wants h w5 hi rfl ⟨fun d x2 e2 => ?_, fun d => ⟨vp_in_nI (by omega) (by omega), fun x1 e1 x2 e2 => ?_⟩⟩⟩
    · rw [h.2.2.2.1]; exact nI_ge hi (by omega)
    · rw [e2, nI_1]
      have hno := b2i_0.mp d
      refine ih x (fun c hc => ?_)
      rw [hx c hc]
      constructor
      · rintro ⟨k, k1, k2⟩; exact ⟨k, by omega, k2⟩
      · rintro ⟨k, k1, k2, k3⟩
        by_cases e : k = i
        · subst e; rw [hno] at k2; cases k2
        · exact ⟨k, by omega, k2, k3⟩
    · have hyes := b2i_1.mp ((b2i_01 _).resolve_left d)
      obtain ⟨a1, a2⟩ := w8 i hi
      have eat : M (t + 10 + 1) i = nI (at_ S i) := by
        rw [← a2]
        exact h.rd (k := 11) (j := i) (i := 82 + 7 * i) (by unfold mp; omega)
      rw [ixn (by omega), eat] at e1
      rw [e2, nI_1, e1]
      refine ih _ (fun c hc => ?_)
      rw [b_or, bt_shl1 (by omega) (by omega), Bool.or_eq_true, hx c hc]
      constructor
      · rintro (⟨k, k1, k2⟩ | z)
        · exact ⟨k, by omega, k2⟩
        · exact ⟨i, by omega, hyes, (of_decide_eq_true z).symm⟩
      · rintro ⟨k, k1, k2, k3⟩
        by_cases e : k = i
        · subst e; exact Or.inr (decide_eq_true k3.symm)
        · exact Or.inl ⟨k, by omega, k2, k3⟩
