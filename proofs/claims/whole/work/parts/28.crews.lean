/-! the reference: crews, gates, calls -/
def tdF (S : SS) (x : Int32) : Nat → Nat
  | 0 => 0
  | g + 1 => if g = 0 then 0 else tdF S x g + (if ca S g 5 = x then 1 else 0)
theorem tdF_le {S : SS} {x : Int32} : ∀ i, tdF S x i ≤ i := by
  intro i
  induction i with
  | zero => exact Nat.le_refl 0
  | succ g ih =>
    unfold tdF
    split
    · omega
    · split <;> omega
theorem sp7_tended {Post : Mm → Int32 → Prop} {M : Mm} {n : Nat} {x : Int32} (hn : M 144 0 = nI n) (h1 : 1 ≤ n) (h8 : n ≤ 8) (h : Post M (nI (tdF (M 144) x n))) : wX7_tended Post M 143 x := by
  show ∃ q : Nat, lX7_tended_4 Post q M 143 x 0 (nI 1)
  refine pk_loop (fun q i (y : Int32) => lX7_tended_4 Post q M 143 x y (nI i)) (fun i y => 1 ≤ i ∧ y = nI (tdF (M 144) x i)) n 1 0 h1 ⟨Nat.le_refl 1, rfl⟩ ?_ ?_
  · rintro q y ⟨-, e⟩
    subst e
    refine ⟨fun _ => h, fun z => absurd ?_ z⟩
    show M 144 0 ≤ nI n
    rw [hn]; exact nI_le (Nat.le_refl _) (by omega)
  · rintro q i y hi ⟨hi1, e⟩ ih
    subst e
    have es : tdF (M 144) x (i + 1) = tdF (M 144) x i + (if ca (M 144) i 5 = x then 1 else 0) := by
      conv => lhs; unfold tdF
      rw [if_neg (by omega)]
    refine ⟨fun z => absurd z ?_, fun _ => sp7_ca (c := i) (w := 5) rfl rfl (by omega) (by omega) ⟨fun d x2 e2 x3 e3 => ?_, fun d x2 e2 x3 e3 => ?_⟩⟩
    · show ¬ M 144 0 ≤ nI i
      rw [hn]; exact nI_ge hi (by omega)
    · rw [e3, nI_1, e2]
      refine ih _ ⟨by omega, ?_⟩
      rw [es, if_neg d]
      show nI _ + nI 0 = _
      rw [nI_add]
    · rw [e3, nI_1, e2]
      refine ih _ ⟨by omega, ?_⟩
      rw [es, if_pos d, nI_1]
def tndF (S : SS) (n : Nat) (x y : Int32) : SS × Int32 :=
  if inr 0 3 x = true ∧ inr 1 n y = true then
    (if 0 ≤ ca S (ix y) 5 ∨ (¬ 2 ≤ x ∧ ca S (ix y) 1 ≠ x) then (S, -1000002)
     else if tdF S x n = 2 then (S, -1000003)
     else (upd S (15 + 9 * ix y) x, nI (tdF (upd S (15 + 9 * ix y) x) x n)))
  else (S, -1000001)
theorem sp7_tend {Post : Mm → Int32 → Prop} {M : Mm} {n m t s : Nat} {x y : Int32} (hw : Wf (M 144) n m t) (hs : M 143 4 = nI s) (h4 : s ≤ 4) (h : ∀ M', Act M M' s (tndF (M 144) n x y).1 (tndF (M 144) n x y).2 → Post M' (tndF (M 144) n x y).2) : wX7_tend Post M 143 x y := by
  obtain ⟨w0, w1, w2, ⟨w3, w4⟩, -⟩ := hw
  have bad : ¬ (inr 0 3 x = true ∧ inr 1 n y = true) → Post M (-1000001) := by
    intro z
    unfold tndF at h
    rw [if_neg z] at h
    exact h M (Act_none (show (-1000001 : Int32) ≤ -1000001 by decide))
  refine sp7_inr (a := 0) (b := 3) (by decide) (by decide) ⟨fun d => bad (by rw [b2i_0.mp d]; rintro ⟨z, -⟩; cases z), fun d => sp7_isGate w0 w4 ⟨fun d2 => ?_, fun d2 => bad (by rw [b2i_0.mp d2]; rintro ⟨-, z⟩; cases z)⟩⟩
  have g1 := b2i_1.mp ((b2i_01 _).resolve_left d)
  have g2 := b2i_1.mp ((b2i_01 _).resolve_left d2)
  unfold tndF at h
  rw [if_pos ⟨g1, g2⟩] at h
  obtain ⟨g, gl, gh, ey⟩ := inr_of g2
  subst ey
  rw [ixn (by omega)] at h
  have no : (0 ≤ ca (M 144) g 5 ∨ (¬ 2 ≤ x ∧ ca (M 144) g 1 ≠ x)) → Post M (-1000002) := by
    intro z
    rw [if_pos z] at h
    exact h M (Act_none (show (-1000002 : Int32) ≤ -1000001 by decide))
  refine sp7_ca (c := g) (w := 5) rfl rfl (by omega) (by omega) ⟨fun c => no (Or.inl c), fun c => ?_⟩
  have fin : (¬ (0 ≤ ca (M 144) g 5 ∨ (¬ 2 ≤ x ∧ ca (M 144) g 1 ≠ x))) → bX7_tend_47 Post M 143 x (nI g) := by
    intro z
    rw [if_neg z] at h
    refine sp7_tended w0 w3 w4 ⟨fun c2 => ?_, fun c2 => ?_⟩
    · have ht : tdF (M 144) x n ≠ 2 := fun e => c2 (by rw [e]; rfl)
      rw [if_neg ht] at h
      have eK : mcp M 144 146 168 144 = M 144 := mcpo (by omega)
      obtain ⟨i1, i2⟩ := ix_ca (x := nI g) (y := 5) (c := g) (w := 5) rfl rfl (by omega) (by omega)
      refine sp7_keeps ⟨i2, fun M19 e19 => ?_⟩
      have e : M19 = st (mcp M 144 146 168) (upd (M 144) (15 + 9 * g) x) := by
        rw [e19, i1, show 10 + 9 * g + 5 = 15 + 9 * g by omega]
        show mu _ 144 _ _ = _
        rw [mu_144, eK]
      subst e
      refine sp7_tended (n := n) (by rw [st_s, upd_o (by omega), w0]) w3 w4 ?_
      rw [st_s]
      exact sp7_act hs h4 h
    · have ht : tdF (M 144) x n = 2 := nI_inj (by have := tdF_le (S := M 144) (x := x) n; omega) (by omega) c2
      rw [if_pos ht] at h
      exact h M (Act_none (show (-1000003 : Int32) ≤ -1000001 by decide))
  refine ⟨fun c2 => fin (by rintro (z | ⟨z, -⟩); exact c z; exact z c2), fun c2 => sp7_ca (c := g) (w := 1) rfl rfl (by omega) (by omega) ⟨fun c3 => fin (by rintro (z | ⟨-, z⟩); exact c z; exact z c3), fun c3 => no (Or.inr ⟨c2, c3⟩)⟩⟩
def lvF (S : SS) (n : Nat) (y : Int32) : SS × Int32 :=
  if inr 1 n y = true then (if 0 ≤ ca S (ix y) 5 then (upd S (15 + 9 * ix y) (-1), ca S (ix y) 5) else (S, -1000002)) else (S, -1000001)
theorem sp7_leave {Post : Mm → Int32 → Prop} {M : Mm} {n m t s : Nat} {y : Int32} (hw : Wf (M 144) n m t) (hs : M 143 4 = nI s) (h4 : s ≤ 4) (h : ∀ M', Act M M' s (lvF (M 144) n y).1 (lvF (M 144) n y).2 → Post M' (lvF (M 144) n y).2) : wX7_leave Post M 143 y := by
  obtain ⟨w0, w1, w2, ⟨w3, w4⟩, -⟩ := hw
  refine sp7_isGate w0 w4 ⟨fun d => ?_, fun d => ?_⟩
  · have g2 := b2i_1.mp ((b2i_01 _).resolve_left d)
    unfold lvF at h
    rw [if_pos g2] at h
    obtain ⟨g, gl, gh, ey⟩ := inr_of g2
    subst ey
    rw [ixn (by omega)] at h
    refine sp7_ca (c := g) (w := 5) rfl rfl (by omega) (by omega) ⟨fun c => ?_, fun c => ?_⟩
    · rw [if_pos c] at h
      have eK : mcp M 144 146 168 144 = M 144 := mcpo (by omega)
      obtain ⟨i1, i2⟩ := ix_ca (x := nI g) (y := 5) (c := g) (w := 5) rfl rfl (by omega) (by omega)
      refine sp7_keeps ⟨i2, fun M19 e19 => ?_⟩
      have e : M19 = st (mcp M 144 146 168) (upd (M 144) (15 + 9 * g) (-1)) := by
        rw [e19, i1, show 10 + 9 * g + 5 = 15 + 9 * g by omega]
        show mu _ 144 _ _ = _
        rw [mu_144, eK]
      subst e
      exact sp7_act hs h4 h
    · rw [if_neg c] at h
      exact h M (Act_none (show (-1000002 : Int32) ≤ -1000001 by decide))
  · unfold lvF at h
    rw [if_neg (by rw [b2i_0.mp d]; decide)] at h
    exact h M (Act_none (show (-1000001 : Int32) ≤ -1000001 by decide))
def mvF (S : SS) (n : Nat) (y o : Int32) : SS × Int32 :=
  if inr 1 n y = true then (if ca S (ix y) 4 = o ∨ ¬ 0 ≤ ca S (ix y) 5 then (S, -1000002) else (upd S (14 + 9 * ix y) o, oo (upd S (14 + 9 * ix y) o) n)) else (S, -1000001)
theorem sp7_moves {Post : Mm → Int32 → Prop} {M : Mm} {n m t : Nat} {y o : Int32} (hw : Wf (M 144) n m t) (h : Post (st M (mvF (M 144) n y o).1) (mvF (M 144) n y o).2) : wX7_moves Post M 143 y o := by
  obtain ⟨w0, w1, w2, ⟨w3, w4⟩, -⟩ := hw
  refine sp7_isGate w0 w4 ⟨fun d => ?_, fun d => ?_⟩
  · have g2 := b2i_1.mp ((b2i_01 _).resolve_left d)
    unfold mvF at h
    rw [if_pos g2] at h
    obtain ⟨g, gl, gh, ey⟩ := inr_of g2
    subst ey
    rw [ixn (by omega)] at h
    have no : (ca (M 144) g 4 = o ∨ ¬ 0 ≤ ca (M 144) g 5) → Post M (-1000002) := by
      intro z
      rw [if_pos z, st_self] at h
      exact h
    refine sp7_ca (c := g) (w := 4) rfl rfl (by omega) (by omega) ⟨fun c => no (Or.inl c), fun c => sp7_ca (c := g) (w := 5) rfl rfl (by omega) (by omega) ⟨fun c2 => ?_, fun c2 => no (Or.inr c2)⟩⟩
    rw [if_neg (by rintro (z | z); exact c z; exact z c2)] at h
    obtain ⟨i1, i2⟩ := ix_ca (x := nI g) (y := 4) (c := g) (w := 4) rfl rfl (by omega) (by omega)
    refine ⟨i2, fun M19 e19 => ?_⟩
    have e : M19 = st M (upd (M 144) (14 + 9 * g) o) := by
      rw [e19, i1, show 10 + 9 * g + 4 = 14 + 9 * g by omega]
      exact mu_144
    subst e
    refine sp7_openOnes (n := n) (by rw [st_s, upd_o (by omega), w0]) w3 w4 ?_
    rw [st_s]
    exact h
  · unfold mvF at h
    rw [if_neg (by rw [b2i_0.mp d]; decide), st_self] at h
    exact h
theorem sp7_open {Post : Mm → Int32 → Prop} {M : Mm} {n m t s : Nat} {y : Int32} (hw : Wf (M 144) n m t) (hs : M 143 4 = nI s) (h4 : s ≤ 4) (h : ∀ M', Act M M' s (mvF (M 144) n y 1).1 (mvF (M 144) n y 1).2 → Post M' (mvF (M 144) n y 1).2) : wX7_open Post M 143 y := by
  have e : mcp M 144 146 168 144 = M 144 := mcpo (by omega)
  refine sp7_keeps (sp7_moves (n := n) (m := m) (t := t) (by rw [e]; exact hw) ?_)
  rw [e]
  exact sp7_act hs h4 h
theorem sp7_close {Post : Mm → Int32 → Prop} {M : Mm} {n m t s : Nat} {y : Int32} (hw : Wf (M 144) n m t) (hs : M 143 4 = nI s) (h4 : s ≤ 4) (h : ∀ M', Act M M' s (mvF (M 144) n y 0).1 (mvF (M 144) n y 0).2 → Post M' (mvF (M 144) n y 0).2) : wX7_close Post M 143 y := by
  have e : mcp M 144 146 168 144 = M 144 := mcpo (by omega)
  refine sp7_keeps (sp7_moves (n := n) (m := m) (t := t) (by rw [e]; exact hw) ?_)
  rw [e]
  exact sp7_act hs h4 h
def clF (S : SS) (m : Nat) (y : Int32) : SS × Int32 :=
  if inr 0 m y = true then (if fi S (ix y) 5 = 1 ∨ wt S (ix y) = false then (S, -1000002) else (upd S (87 + 7 * ix y) 1, onF (cl (upd S (87 + 7 * ix y) 1) m) 10)) else (S, -1000001)
theorem sp7_calls {Post : Mm → Int32 → Prop} {M : Mm} {n m t : Nat} {y : Int32} (hw : Wf (M 144) n m t) (h : Post (st M (clF (M 144) m y).1) (clF (M 144) m y).2) : wX7_calls Post M 143 y := by
  obtain ⟨w0, w1, w2, ⟨w3, w4⟩, w5, -⟩ := hw
  refine sp7_isField w1 w5 ⟨fun d => ?_, fun d => ?_⟩
  · have g2 := b2i_1.mp ((b2i_01 _).resolve_left d)
    unfold clF at h
    rw [if_pos g2] at h
    obtain ⟨g, gl, gh, ey⟩ := inr_of g2
    subst ey
    rw [ixn (by omega)] at h
    have no : (fi (M 144) g 5 = 1 ∨ wt (M 144) g = false) → Post M (-1000002) := by
      intro z
      rw [if_pos z, st_self] at h
      exact h
    refine sp7_fi (f := g) (w := 5) rfl rfl (by omega) (by omega) ⟨fun c => no (Or.inl c), fun c => sp7_wants (f := g) rfl (by omega) ⟨fun c2 => ?_, fun c2 => no (Or.inr (b2i_0.mp c2))⟩⟩
    rw [if_neg (by rintro (z | z); exact c z; exact c2 (b2i_0.mpr z))] at h
    obtain ⟨i1, i2⟩ := ix_fi (x := nI g) (y := 5) (f := g) (w := 5) rfl rfl (by omega) (by omega)
    refine ⟨i2, fun M19 e19 => ?_⟩
    have e : M19 = st M (upd (M 144) (87 + 7 * g) 1) := by
      rw [e19, i1, show 82 + 7 * g + 5 = 87 + 7 * g by omega]
      exact mu_144
    subst e
    refine sp7_calling (m := m) (by rw [st_s, upd_o (by omega), w1]) w5 ?_
    rw [st_s]
    exact sp7_ones h
  · unfold clF at h
    rw [if_neg (by rw [b2i_0.mp d]; decide), st_self] at h
    exact h
theorem sp7_call {Post : Mm → Int32 → Prop} {M : Mm} {n m t s : Nat} {y : Int32} (hw : Wf (M 144) n m t) (hs : M 143 4 = nI s) (h4 : s ≤ 4) (h : ∀ M', Act M M' s (clF (M 144) m y).1 (clF (M 144) m y).2 → Post M' (clF (M 144) m y).2) : wX7_call Post M 143 y := by
  have e : mcp M 144 146 168 144 = M 144 := mcpo (by omega)
  refine sp7_keeps (sp7_calls (n := n) (m := m) (t := t) (by rw [e]; exact hw) ?_)
  rw [e]
  exact sp7_act hs h4 h
