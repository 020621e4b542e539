/-! the class: gates, calls, hours -/
theorem cl_ofB {S : SS} {m : Nat} (hv : VF S m) : ∀ i, i ≤ m → cl S i = ofB (cls S) i := by
  intro i
  induction i with
  | zero => intro _; rfl
  | succ f ih =>
    intro hi
    have e : cl S (f + 1) = cl S f ||| (fi S f 5 <<< (nI f &&& 31)) := rfl
    rw [e, ofB_succ, ih (by omega)]
    rcases (hv f (by omega)).2.2.2.2 with z | z
    · have : cls S f = false := by unfold cls; rw [z]; decide
      rw [this, if_neg (by decide), z, shl_0, or_0]
    · have : cls S f = true := by unfold cls; rw [z]; decide
      rw [this, if_pos rfl, z]
theorem VO_mv {S : SS} {n g : Nat} {o : Int32} (hv : VO S n) (h1 : 1 ≤ g) (ho : o = 0 ∨ o = 1) : VO (upd S (14 + 9 * g) o) n := by
  refine ⟨?_, fun k hk => ?_⟩
  · unfold opn ca; rw [upd_o (by omega)]; exact hv.1
  · by_cases e : k = g
    · subst e
      have : ca (upd S (14 + 9 * k) o) k 4 = o := by
        unfold ca; rw [show 10 + 9 * k + 4 = 14 + 9 * k by omega, upd_s]
      rw [this]; exact ho
    · have : ca (upd S (14 + 9 * g) o) k 4 = ca S k 4 := upd_o (by omega)
      rw [this]; exact hv.2 k hk
theorem mv_bits {S : SS} {n g : Nat} {o : Int32} (hv : VO S n) (h8 : n ≤ 8) (h1 : 1 ≤ g) (hg : g < n) (ho : o = 0 ∨ o = 1) (hne : ca S g 4 ≠ o) : ofB (opn S) n ^^^ ((1 : Int32) <<< (nI g &&& 31)) = ofB (opn (upd S (14 + 9 * g) o)) n := by
  refine ofB_of (by omega) (fun k hk => ?_)
  rw [b_xor, ofB_bt n (by omega) k hk, bt_shl1 (by omega) hk]
  by_cases e : k = g
  · subst e
    have e2 : ca (upd S (14 + 9 * k) o) k 4 = o := by
      unfold ca; rw [show 10 + 9 * k + 4 = 14 + 9 * k by omega, upd_s]
    rw [decide_eq_true hg, decide_eq_true (rfl : k = k)]
    unfold opn
    rw [e2]
    rcases hv.2 k hg with z | z <;> rcases ho with y | y
    · exact absurd (z.trans y.symm) hne
    · rw [z, y]; decide
    · rw [z, y]; decide
    · exact absurd (z.trans y.symm) hne
  · have e2 : ca (upd S (14 + 9 * g) o) k 4 = ca S k 4 := upd_o (by omega)
    unfold opn
    rw [e2, decide_eq_false e, Bool.xor_false]
theorem sp0_flipGate {Post : Mm → Int32 → Prop} {M : Mm} {t : Nat} {S : SS} {n m tt g : Nat} {x o : Int32} (hT : TR M t S n m tt) (h8 : n ≤ 8) (hv : VO S n) (h1 : 1 ≤ g) (hg : g < n) (hx : x = nI g) (ho : o = 0 ∨ o = 1) (hne : ca S g 4 ≠ o)
    (hP : ∀ M', TR M' t (upd S (14 + 9 * g) o) n m tt → (∀ a, a ≠ t + 1 → M' a = M a) → Post M' (oo (upd S (14 + 9 * g) o) n)) : wX0_flipGate Post M (t + 1) x := by
  subst hx
  intro M1 e1
  rw [hT.2.2.1, mv_bits hv h8 h1 hg ho hne] at e1
  have e : M1 (t + 1) 1 = oo (upd S (14 + 9 * g) o) n := by rw [e1, mu_at, oo_ofB (VO_mv hv h1 ho) n (Nat.le_refl _)]
  rw [e]
  refine hP M1 ?_ (fun a ha => by rw [e1, mu_row ha])
  rw [e1]
  refine TR_opn hT (fun k hk => ?_) rfl h8
  rw [upd_o]
  rcases hk with z | z
  · have := z g; omega
  · omega
theorem sp0_canBeOpened {Post : Mm → Int32 → Prop} {M : Mm} {t : Nat} {S : SS} {n m tt g : Nat} {x : Int32} (hT : TR M t S n m tt) (h8 : n ≤ 8) (hv : VO S n) (hk : VK S n) (hg : g < n) (hx : x = nI g) (h1 : (¬ (ca S g 4 = 1 ∨ ¬ 0 ≤ ca S g 5)) → Post M 1) (h0 : (ca S g 4 = 1 ∨ ¬ 0 ≤ ca S g 5) → Post M 0) : wX0_canBeOpened Post M (t + 1) x := by
  refine sp0_isTended hT h8 hg hx ⟨fun d => h0 (Or.inr (fun z => ?_)), fun d => sp0_isOpen hT h8 hg hx ⟨fun c => h0 (Or.inl ?_), fun c => h1 ?_⟩⟩
  · exact of_decide_eq_false (b2i_0.mp d) ((VK.iff hk hg).mpr z)
  · exact of_decide_eq_true (b2i_1.mp ((b2i_01 _).resolve_left c))
  · have a := of_decide_eq_true (b2i_1.mp ((b2i_01 _).resolve_left d))
    have b := of_decide_eq_false (b2i_0.mp c)
    rintro (z | z)
    · exact b z
    · exact z ((VK.iff hk hg).mp a)
theorem sp6_open {Post : Mm → Int32 → Prop} {M : Mm} {P : Nat → Nat} {S : SS} {n m tt s : Nat} {x : Int32} (hp : HP M P) (hs : M 47 0 = nI s) (h4 : s ≤ 4) (hT : TR M 1 S n m tt) (hw : Wf S n m tt) (hv : VO S n) (hk : VK S n)
    (h : ∀ M', CA M M' P s S (mvF S n x 1).1 n m tt n m tt (mvF S n x 1).2 → Post M' (mvF S n x 1).2) : wX6_open Post M 0 x := by
  have h8 := hw.2.2.2.1.2
  unfold mvF at h
  refine sp0_hasGate (t := 1) hT h8 ⟨fun d => ?_, fun d => ?_⟩
  · have g1 := b2i_1.mp ((b2i_01 _).resolve_left d)
    rw [if_pos g1] at h
    obtain ⟨g, gl, gh, ey⟩ := inr_of g1
    subst ey
    rw [ixn (by omega)] at h
    refine sp0_canBeOpened (t := 1) hT h8 hv hk gh rfl (fun z => ⟨fun _ => ?_, fun y => absurd y (by decide)⟩) (fun z => ⟨fun y => absurd rfl y, fun _ => ?_⟩)
    · rw [if_neg z] at h
      refine sp_rec hp hs h4 hT hw (fun M1 hT1 h141 mk => sp0_flipGate (t := 1) (o := 1) hT1 h8 hv gl gh rfl (Or.inr rfl) (fun y => z (Or.inl y)) (fun M2 hT2 hfr => ?_))
      refine h M2 (mk M2 _ _ _ _ _ hT2 (fun a ha => hfr a (by omega)) ?_)
      show ¬ oo (upd S (14 + 9 * g) 1) n ≤ -1000001
      rw [oo_ofB (VO_mv hv gl (Or.inr rfl)) n (Nat.le_refl _)]
      exact nn_not (ofB_nn (by omega))
    · rw [if_pos z] at h
      exact h M (CA_none hT hp (show (-1000002 : Int32) ≤ -1000001 by decide))
  · rw [if_neg (by rw [b2i_0.mp d]; decide)] at h
    exact h M (CA_none hT hp (show (-1000001 : Int32) ≤ -1000001 by decide))
