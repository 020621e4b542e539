/-! the reference: what is built, opened, called, turned -/
theorem b_msb (x : Int32) : bt x 31 = decide (x < 0) := by
  have h : x.toBitVec.msb = decide (x.toBitVec.toInt < 0) := BitVec.msb_eq_toInt
  have h2 : x.toBitVec.msb = bt x 31 := BitVec.msb_eq_getLsbD_last x.toBitVec
  rw [← h2, h]
  refine decide_eq_decide.mpr ?_
  rw [i_lt]
  exact Iff.rfl
def agF (n : Nat) (x : Int32) : Bool := (List.range 32).all (fun k => !bt x k || (decide (1 ≤ k) && decide (k < n)))
theorem ag_of {n : Nat} {x : Int32} (h : agF n x = true) : ∀ k, k < 32 → bt x k = true → 1 ≤ k ∧ k < n := by
  intro k hk hb
  have := List.all_eq_true.mp h k (List.mem_range.mpr hk)
  rw [hb] at this
  simpa using this
theorem ag_mk {n : Nat} {x : Int32} (h : ∀ k, k < 32 → bt x k = true → 1 ≤ k ∧ k < n) : agF n x = true := by
  refine List.all_eq_true.mpr (fun k hk => ?_)
  cases hb : bt x k
  · rfl
  · have := h k (List.mem_range.mp hk) hb
    simpa using this
theorem ag_mask : ∀ n, n ≤ 8 → ∀ k, k < 32 → 1 ≤ n → bt (((1 : Int32) <<< (nI n &&& 31)) - 2) k = (decide (1 ≤ k) && decide (k < n)) := by decide +kernel
theorem ag_spec {n : Nat} (h1 : 1 ≤ n) (h8 : n ≤ 8) (x : Int32) : x &&& ((((1 : Int32) <<< (nI n &&& 31)) - 2) ^^^ (-1)) = 0 ↔ agF n x = true := by
  constructor
  · intro e
    refine ag_mk (fun k hk hb => ?_)
    have hz : bt (x &&& ((((1 : Int32) <<< (nI n &&& 31)) - 2) ^^^ (-1))) k = false := by rw [e]; exact b_0 k
    rw [b_and, bt_not _ hk, ag_mask n h8 k hk h1, hb] at hz
    by_cases a : 1 ≤ k
    · by_cases b : k < n
      · exact ⟨a, b⟩
      · rw [decide_eq_false b] at hz; simp at hz
    · rw [decide_eq_false a] at hz; simp at hz
  · intro e
    have h := ag_of e
    refine bt_eq0 (fun k hk => ?_)
    rw [b_and, bt_not _ hk, ag_mask n h8 k hk h1]
    cases hb : bt x k
    · rfl
    · obtain ⟨a, b⟩ := h k hk hb
      rw [decide_eq_true a, decide_eq_true b]; rfl
theorem ag_nonneg {n : Nat} (h8 : n ≤ 8) {x : Int32} (h : agF n x = true) : ¬ x < 0 := by
  intro hx
  have h2 : bt x 31 = true := by rw [b_msb]; exact decide_eq_true hx
  have := ag_of h 31 (by omega) h2
  omega
theorem sp7_areGates {Post : Mm → Int32 → Prop} {M : Mm} {n : Nat} {x : Int32} (hn : M 144 0 = nI n) (h1 : 1 ≤ n) (h8 : n ≤ 8) (h : Post M (b2i (agF n x))) : wX7_areGates Post M 143 x := by
  have e : M (143 + 1) 0 = nI n := hn
  unfold wX7_areGates
  rw [e]
  refine ⟨fun d => ?_, fun d => ⟨fun c => ?_, fun c => ?_⟩⟩
  · have : agF n x = false := by
      cases hh : agF n x
      · rfl
      · exact absurd d (ag_nonneg h8 hh)
    rw [this] at h
    exact h
  · have : agF n x = false := by
      cases hh : agF n x
      · rfl
      · exact absurd ((ag_spec h1 h8 x).mpr hh) c
    rw [this] at h
    exact h
  · rw [(ag_spec h1 h8 x).mp c] at h
    exact h
def zr (S : SS) (p : Nat) : Nat → SS
  | 0 => S
  | k + 1 => upd (zr S p k) (p + k) 0
theorem zr_o {S : SS} {p k : Nat} : ∀ i, (k < p ∨ p + i ≤ k) → zr S p i k = S k := by
  intro i
  induction i with
  | zero => intro _; rfl
  | succ i ih => intro h; unfold zr; rw [upd_o (by omega), ih (by omega)]
theorem zr_s {S : SS} {p k : Nat} : ∀ i, p ≤ k → k < p + i → zr S p i k = 0 := by
  intro i
  induction i with
  | zero => intro _ _; omega
  | succ i ih =>
    intro h1 h2
    unfold zr
    by_cases e : k = p + i
    · subst e; rw [upd_s]
    · rw [upd_o e, ih h1 (by omega)]
theorem nI_m1 (n : Nat) : nI (n + 1) - 1 = nI n := by rw [← nI_1, Int32.add_sub_cancel]
theorem st_self' {M : Mm} {S : SS} (h : M 144 = S) : M = st M S := by rw [← h, st_self]
def cnS (S : SS) (n : Nat) (p k w s : Int32) : SS := upd (upd (upd (upd (upd (upd (zr S (10 + 9 * n) 9) (10 + 9 * n) p) (11 + 9 * n) k) (12 + 9 * n) w) (13 + 9 * n) s) (15 + 9 * n) (-1)) 0 (nI (n + 1))
def canF (S : SS) (n : Nat) (p k w s : Int32) : SS × Int32 := if inr 0 n p = true ∧ inr 0 3 k = true ∧ inr 1 501 w = true ∧ inr 0 501 s = true then (if n = 8 then (S, -1000003) else (cnS S n p k w s, nI n)) else (S, -1000001)
theorem sp7_canal {Post : Mm → Int32 → Prop} {M : Mm} {n m t s : Nat} {p k w v : Int32} (hw : Wf (M 144) n m t) (hs : M 143 4 = nI s) (h4 : s ≤ 4) (h : ∀ M', Act M M' s (canF (M 144) n p k w v).1 (canF (M 144) n p k w v).2 → Post M' (canF (M 144) n p k w v).2) : wX7_canal Post M 143 p k w v := by
  have w0 := hw.1
  have w4 := hw.2.2.2.1.2
  have bad : ¬ (inr 0 n p = true ∧ inr 0 3 k = true ∧ inr 1 501 w = true ∧ inr 0 501 v = true) → Post M (-1000001) := by
    intro z
    unfold canF at h
    rw [if_neg z] at h
    exact h M (Act_none (show (-1000001 : Int32) ≤ -1000001 by decide))
  refine sp7_isCanal w0 w4 ⟨fun d => bad (by rw [b2i_0.mp d]; rintro ⟨z, -⟩; cases z), fun d => sp7_inr (a := 0) (b := 3) (by decide) (by decide) ⟨fun d2 => bad (by rw [b2i_0.mp d2]; rintro ⟨-, z, -⟩; cases z), fun d2 => sp7_inr (a := 1) (b := 501) (by decide) (by decide) ⟨fun d3 => bad (by rw [b2i_0.mp d3]; rintro ⟨-, -, z, -⟩; cases z), fun d3 => sp7_inr (a := 0) (b := 501) (by decide) (by decide) ⟨fun d4 => ?_, fun d4 => bad (by rw [b2i_0.mp d4]; rintro ⟨-, -, -, z⟩; cases z)⟩⟩⟩⟩
  have good : inr 0 n p = true ∧ inr 0 3 k = true ∧ inr 1 501 w = true ∧ inr 0 501 v = true := ⟨b2i_1.mp ((b2i_01 _).resolve_left d), b2i_1.mp ((b2i_01 _).resolve_left d2), b2i_1.mp ((b2i_01 _).resolve_left d3), b2i_1.mp ((b2i_01 _).resolve_left d4)⟩
  unfold canF at h
  rw [if_pos good] at h
  refine ⟨fun c => ?_, fun c => ?_⟩
  · have hn8 : n ≠ 8 := fun z => c (by show M 144 0 = 8; rw [w0, z]; rfl)
    rw [if_neg hn8] at h
    refine sp7_keeps (fun x5 e5 => ?_)
    have eK : mcp M 144 146 168 144 = M 144 := mcpo (by omega)
    have e5' : x5 = nI (10 + 9 * n) := by
      rw [e5]
      show (10 : Int32) + 9 * (mcp M 144 146 168 144 0) = _
      rw [eK, w0]
      show nI 10 + nI 9 * nI n = _
      rw [nI_mul, nI_add]
    subst e5'
    show ∃ q : Nat, lX7_canal_78 Post q (mcp M 144 146 168) 143 p k w v (nI (10 + 9 * n)) (nI 0)
    refine pk_loop (fun q i (M' : Mm) => lX7_canal_78 Post q M' 143 p k w v (nI (10 + 9 * n)) (nI i)) (fun i M' => M' = st (mcp M 144 146 168) (zr (M 144) (10 + 9 * n) i)) 9 0 _ (by omega) (st_self' eK) ?_ ?_
    · intro q M' e
      subst e
      refine ⟨fun _ => ?_, fun z => absurd (show (9 : Int32) ≤ nI 9 by decide) z⟩
      have j (i : Nat) (hi : i < 9) : ix (nI (10 + 9 * n) + nI i) = 10 + 9 * n + i ∧ vp_in (nI (10 + 9 * n) + nI i) 168 := by
        rw [nI_add]
        exact ⟨ixn (by omega), vp_in_nI (by omega) (by omega)⟩
      refine ⟨vp_in_nI (by omega) (by omega), fun M19 e19 => ⟨(j 1 (by omega)).2, fun M20 e20 => ⟨(j 2 (by omega)).2, fun M21 e21 => ⟨(j 3 (by omega)).2, fun M22 e22 => ⟨(j 5 (by omega)).2, fun M23 e23 M24 e24 => ?_⟩⟩⟩⟩⟩
      have e : M24 = st (mcp M 144 146 168) (cnS (M 144) n p k w v) := by
        rw [e24, e23, e22, e21, e20, e19]
        rw [ixn (by omega)]
        rw [show ix (nI (10 + 9 * n) + 1) = 11 + 9 * n by rw [show (1 : Int32) = nI 1 from rfl, (j 1 (by omega)).1]; omega, show ix (nI (10 + 9 * n) + 2) = 12 + 9 * n by rw [show (2 : Int32) = nI 2 from rfl, (j 2 (by omega)).1]; omega, show ix (nI (10 + 9 * n) + 3) = 13 + 9 * n by rw [show (3 : Int32) = nI 3 from rfl, (j 3 (by omega)).1]; omega, show ix (nI (10 + 9 * n) + 5) = 15 + 9 * n by rw [show (5 : Int32) = nI 5 from rfl, (j 5 (by omega)).1]; omega]
        show mu (mu (mu (mu (mu (mu (st _ _) 144 _ _) 144 _ _) 144 _ _) 144 _ _) 144 _ _) 144 0 ((mu (mu (mu (mu (mu (st _ _) 144 _ _) 144 _ _) 144 _ _) 144 _ _) 144 _ _) 144 0 + 1) = _
        rw [mu_st, mu_st, mu_st, mu_st, mu_st, mu_st, st_s, upd_o (by omega), upd_o (by omega), upd_o (by omega), upd_o (by omega), upd_o (by omega), zr_o 9 (by omega), w0, nI_1]
        rfl
      subst e
      have er : st (mcp M 144 146 168) (cnS (M 144) n p k w v) (143 + 1) 0 - 1 = nI n := by
        show st _ _ 144 0 - 1 = _
        rw [st_s]
        show upd _ 0 _ 0 - 1 = _
        rw [upd_s, nI_m1]
      rw [er]
      exact sp7_act hs h4 h
    · intro q i M' hi e ih
      subst e
      have j : nI (10 + 9 * n) + nI i = nI (10 + 9 * n + i) := nI_add _ _
      refine ⟨fun c => absurd c (nI_ge (b := 9) hi (by decide)), fun _ => ⟨by rw [j]; exact vp_in_nI (by omega) (by omega), fun M3 e3 x4 e4 => ?_⟩⟩
      rw [e4, nI_1]
      refine ih _ ?_
      rw [e3, j, ixn (by omega)]
      exact mu_st
  · have hn8 : n = 8 := nI_inj (by omega) (by omega) (w0.symm.trans c)
    rw [if_pos hn8] at h
    exact h M (Act_none (show (-1000001 : Int32) ≤ -1000001 by decide))
def fdS (S : SS) (m : Nat) (c d o r : Int32) : SS := upd (upd (upd (upd (upd (zr S (82 + 7 * m) 7) (82 + 7 * m) c) (83 + 7 * m) d) (84 + 7 * m) o) (85 + 7 * m) r) 1 (nI (m + 1))
def fldF (S : SS) (n m : Nat) (c d o r : Int32) : SS × Int32 := if inr 0 n c = true ∧ inr 1 1000 d = true ∧ inr 1 201 o = true ∧ inr 0 100 r = true then (if m = 10 then (S, -1000003) else (fdS S m c d o r, nI m)) else (S, -1000001)
theorem sp7_field {Post : Mm → Int32 → Prop} {M : Mm} {n m t s : Nat} {p k w v : Int32} (hw : Wf (M 144) n m t) (hs : M 143 4 = nI s) (h4 : s ≤ 4) (h : ∀ M', Act M M' s (fldF (M 144) n m p k w v).1 (fldF (M 144) n m p k w v).2 → Post M' (fldF (M 144) n m p k w v).2) : wX7_field Post M 143 p k w v := by
  have w0 := hw.1
  have w1 := hw.2.1
  have w4 := hw.2.2.2.1.2
  have w5 := hw.2.2.2.2.1
  have bad : ¬ (inr 0 n p = true ∧ inr 1 1000 k = true ∧ inr 1 201 w = true ∧ inr 0 100 v = true) → Post M (-1000001) := by
    intro z
    unfold fldF at h
    rw [if_neg z] at h
    exact h M (Act_none (show (-1000001 : Int32) ≤ -1000001 by decide))
  refine sp7_isCanal w0 w4 ⟨fun d => bad (by rw [b2i_0.mp d]; rintro ⟨z, -⟩; cases z), fun d => sp7_inr (a := 1) (b := 1000) (by decide) (by decide) ⟨fun d2 => bad (by rw [b2i_0.mp d2]; rintro ⟨-, z, -⟩; cases z), fun d2 => sp7_inr (a := 1) (b := 201) (by decide) (by decide) ⟨fun d3 => bad (by rw [b2i_0.mp d3]; rintro ⟨-, -, z, -⟩; cases z), fun d3 => sp7_inr (a := 0) (b := 100) (by decide) (by decide) ⟨fun d4 => ?_, fun d4 => bad (by rw [b2i_0.mp d4]; rintro ⟨-, -, -, z⟩; cases z)⟩⟩⟩⟩
  have good : inr 0 n p = true ∧ inr 1 1000 k = true ∧ inr 1 201 w = true ∧ inr 0 100 v = true := ⟨b2i_1.mp ((b2i_01 _).resolve_left d), b2i_1.mp ((b2i_01 _).resolve_left d2), b2i_1.mp ((b2i_01 _).resolve_left d3), b2i_1.mp ((b2i_01 _).resolve_left d4)⟩
  unfold fldF at h
  rw [if_pos good] at h
  refine ⟨fun c => ?_, fun c => ?_⟩
  · have hn8 : m ≠ 10 := fun z => c (by show M 144 1 = 10; rw [w1, z]; rfl)
    rw [if_neg hn8] at h
    refine sp7_keeps (fun x5 e5 => ?_)
    have eK : mcp M 144 146 168 144 = M 144 := mcpo (by omega)
    have e5' : x5 = nI (82 + 7 * m) := by
      rw [e5]
      show (82 : Int32) + 7 * (mcp M 144 146 168 144 1) = _
      rw [eK, w1]
      show nI 82 + nI 7 * nI m = _
      rw [nI_mul, nI_add]
    subst e5'
    show ∃ q : Nat, lX7_field_79 Post q (mcp M 144 146 168) 143 p k w v (nI (82 + 7 * m)) (nI 0)
    refine pk_loop (fun q i (M' : Mm) => lX7_field_79 Post q M' 143 p k w v (nI (82 + 7 * m)) (nI i)) (fun i M' => M' = st (mcp M 144 146 168) (zr (M 144) (82 + 7 * m) i)) 7 0 _ (by omega) (st_self' eK) ?_ ?_
    · intro q M' e
      subst e
      refine ⟨fun _ => ?_, fun z => absurd (show (7 : Int32) ≤ nI 7 by decide) z⟩
      have j (i : Nat) (hi : i < 7) : ix (nI (82 + 7 * m) + nI i) = 82 + 7 * m + i ∧ vp_in (nI (82 + 7 * m) + nI i) 168 := by
        rw [nI_add]
        exact ⟨ixn (by omega), vp_in_nI (by omega) (by omega)⟩
      refine ⟨vp_in_nI (by omega) (by omega), fun M19 e19 => ⟨(j 1 (by omega)).2, fun M20 e20 => ⟨(j 2 (by omega)).2, fun M21 e21 => ⟨(j 3 (by omega)).2, fun M22 e22 M23 e23 => ?_⟩⟩⟩⟩
      have e : M23 = st (mcp M 144 146 168) (fdS (M 144) m p k w v) := by
        rw [e23, e22, e21, e20, e19]
        rw [ixn (by omega)]
        rw [show ix (nI (82 + 7 * m) + 1) = 83 + 7 * m by rw [show (1 : Int32) = nI 1 from rfl, (j 1 (by omega)).1]; omega, show ix (nI (82 + 7 * m) + 2) = 84 + 7 * m by rw [show (2 : Int32) = nI 2 from rfl, (j 2 (by omega)).1]; omega, show ix (nI (82 + 7 * m) + 3) = 85 + 7 * m by rw [show (3 : Int32) = nI 3 from rfl, (j 3 (by omega)).1]; omega]
        show mu (mu (mu (mu (mu (st _ _) 144 _ _) 144 _ _) 144 _ _) 144 _ _) 144 1 ((mu (mu (mu (mu (st _ _) 144 _ _) 144 _ _) 144 _ _) 144 _ _) 144 1 + 1) = _
        rw [mu_st, mu_st, mu_st, mu_st, mu_st, st_s, upd_o (by omega), upd_o (by omega), upd_o (by omega), upd_o (by omega), zr_o 7 (by omega), w1, nI_1]
        rfl
      subst e
      have er : st (mcp M 144 146 168) (fdS (M 144) m p k w v) (143 + 1) 1 - 1 = nI m := by
        show st _ _ 144 1 - 1 = _
        rw [st_s]
        show upd _ 1 _ 1 - 1 = _
        rw [upd_s, nI_m1]
      rw [er]
      exact sp7_act hs h4 h
    · intro q i M' hi e ih
      subst e
      have j : nI (82 + 7 * m) + nI i = nI (82 + 7 * m + i) := nI_add _ _
      refine ⟨fun c => absurd c (nI_ge (b := 7) hi (by decide)), fun _ => ⟨by rw [j]; exact vp_in_nI (by omega) (by omega), fun M3 e3 x4 e4 => ?_⟩⟩
      rw [e4, nI_1]
      refine ih _ ?_
      rw [e3, j, ixn (by omega)]
      exact mu_st
  · have hn8 : m = 10 := nI_inj (by omega) (by omega) (w1.symm.trans c)
    rw [if_pos hn8] at h
    exact h M (Act_none (show (-1000001 : Int32) ≤ -1000001 by decide))
def tnS (S : SS) (t : Nat) (g h : Int32) : SS := upd (upd (upd (upd (upd S (152 + 2 * t) g) (153 + 2 * t) h) 2 (nI (t + 1))) 3 0) 4 0
def trnF (S : SS) (n t : Nat) (g h : Int32) : SS × Int32 := if agF n g = true ∧ inr 1 21 h = true then (if t = 8 then (S, -1000003) else (tnS S t g h, nI (t + 1))) else (S, -1000001)
theorem sp7_turn {Post : Mm → Int32 → Prop} {M : Mm} {n m t s : Nat} {g x : Int32} (hw : Wf (M 144) n m t) (hs : M 143 4 = nI s) (h4 : s ≤ 4) (h : ∀ M', Act M M' s (trnF (M 144) n t g x).1 (trnF (M 144) n t g x).2 → Post M' (trnF (M 144) n t g x).2) : wX7_turn Post M 143 g x := by
  obtain ⟨w0, w1, w2, ⟨w3, w4⟩, w5, w6, -⟩ := hw
  have bad : ¬ (agF n g = true ∧ inr 1 21 x = true) → Post M (-1000001) := by
    intro z
    unfold trnF at h
    rw [if_neg z] at h
    exact h M (Act_none (show (-1000001 : Int32) ≤ -1000001 by decide))
  refine sp7_areGates w0 w3 w4 ⟨fun d => bad (by rw [b2i_0.mp d]; rintro ⟨z, -⟩; cases z), fun d => sp7_inr (a := 1) (b := 21) (by decide) (by decide) ⟨fun d2 => ?_, fun d2 => bad (by rw [b2i_0.mp d2]; rintro ⟨-, z⟩; cases z)⟩⟩
  unfold trnF at h
  rw [if_pos ⟨b2i_1.mp ((b2i_01 _).resolve_left d), b2i_1.mp ((b2i_01 _).resolve_left d2)⟩] at h
  refine ⟨fun c => ?_, fun c => ?_⟩
  · have ht8 : t ≠ 8 := fun z => c (by show M 144 2 = 8; rw [w2, z]; rfl)
    rw [if_neg ht8] at h
    have eK : mcp M 144 146 168 144 = M 144 := mcpo (by omega)
    obtain ⟨i1, i2, i3, i4⟩ := ix_tu (i := t) (by omega)
    have eK2 : mcp M 144 146 168 (143 + 1) 2 = nI t := by show mcp M 144 146 168 144 2 = _; rw [eK, w2]
    refine sp7_keeps ?_
    show vp_in ((152 : Int32) + 2 * (mcp M 144 146 168 (143 + 1) 2)) 168 ∧ _
    rw [eK2, i1]
    refine ⟨i2, fun M10 e10 => ?_⟩
    have e10' : M10 = st (mcp M 144 146 168) (upd (M 144) (152 + 2 * t) g) := by
      rw [e10]
      show mu _ 144 _ _ = _
      rw [mu_144, eK]
    have e2' : M10 (143 + 1) 2 = nI t := by
      rw [e10']; show st _ _ 144 2 = _
      rw [st_s, upd_o (by omega), w2]
    rw [e2', i3]
    refine ⟨i4, fun M11 e11 M12 e12 M13 e13 M14 e14 => ?_⟩
    have e : M14 = st (mcp M 144 146 168) (tnS (M 144) t g x) := by
      rw [e14, e13, e12, e11, e10']
      show mu (mu (mu (mu (st _ _) 144 _ _) 144 2 (mu (st _ _) 144 _ _ 144 2 + 1)) 144 _ _) 144 _ _ = _
      rw [mu_st, mu_st, mu_st, mu_st, st_s, upd_o (by omega), upd_o (by omega), w2, nI_1]
      rfl
    subst e
    have er : st (mcp M 144 146 168) (tnS (M 144) t g x) (143 + 1) 2 = nI (t + 1) := by
      show st _ _ 144 2 = _
      rw [st_s]
      unfold tnS
      rw [upd_o (by omega), upd_o (by omega), upd_s]
    rw [er]
    exact sp7_act hs h4 h
  · have ht8 : t = 8 := nI_inj (by omega) (by omega) (w2.symm.trans c)
    rw [if_pos ht8] at h
    exact h M (Act_none (show (-1000001 : Int32) ≤ -1000001 by decide))
def ntF (S : SS) (t : Nat) : SS × Int32 := (upd (upd (upd S 2 0) 3 0) 4 0, nI t)
theorem sp7_noTurns {Post : Mm → Int32 → Prop} {M : Mm} {n m t s : Nat} (hw : Wf (M 144) n m t) (hs : M 143 4 = nI s) (h4 : s ≤ 4) (h : ∀ M', Act M M' s (ntF (M 144) t).1 (ntF (M 144) t).2 → Post M' (ntF (M 144) t).2) : wX7_noTurns Post M 143 := by
  have eK : mcp M 144 146 168 144 = M 144 := mcpo (by omega)
  refine sp7_keeps (fun x1 e1 M4 e4 M5 e5 M6 e6 => ?_)
  have ex : x1 = nI t := by rw [e1]; show mcp M 144 146 168 144 2 = _; rw [eK, hw.2.2.1]
  have e : M6 = st (mcp M 144 146 168) (ntF (M 144) t).1 := by
    rw [e6, e5, e4]
    show mu (mu (mu _ 144 _ _) 144 _ _) 144 _ _ = _
    rw [mu_144 (M := mcp M 144 146 168), mu_st, mu_st, eK]
    rfl
  rw [e, ex]
  exact sp7_act hs h4 h
