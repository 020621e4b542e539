/-! the reference: orders read and done -/
abbrev ltr (c : Int32) : Prop := c = 111 ∨ c = 99 ∨ c = 121 ∨ c = 104 ∨ c = 114
/-- behind the first number: it stands at q -/
def frB (T : SS) (L q : Nat) (v : Int32) : Bool × Nat × Int32 × Int32 :=
  if sgn T L q = 44 then
    (if (rdN T L 3 (q + 1) 0).1 = q + 1 then (false, (rdN T L 3 (q + 1) 0).1, v, (rdN T L 3 (q + 1) 0).2)
     else if sgn T L (rdN T L 3 (q + 1) 0).1 = 59 then (true, (rdN T L 3 (q + 1) 0).1 + 1, v, (rdN T L 3 (q + 1) 0).2) else (false, (rdN T L 3 (q + 1) 0).1, v, (rdN T L 3 (q + 1) 0).2))
  else (false, q, v, 0)
def frA (T : SS) (L p q : Nat) (v : Int32) : Bool × Nat × Int32 × Int32 :=
  if q = p + 1 then (false, q, v, 0) else if sgn T L p = 114 then frB T L q v else if sgn T L q = 59 then (true, q + 1, v, 0) else (false, q, v, 0)
def frm (T : SS) (L p : Nat) : Bool × Nat × Int32 × Int32 := if ltr (sgn T L p) then frA T L p (rdN T L 3 (p + 1) 0).1 (rdN T L 3 (p + 1) 0).2 else (false, p, 0, 0)
theorem sgn_lt {T : SS} {L p : Nat} {c : Int32} (h : sgn T L p = c) (hc : c ≠ -1) : p < L := by
  refine Decidable.byContradiction (fun z => ?_)
  unfold sgn at h
  rw [if_neg z] at h
  exact hc h.symm
theorem ltr_lt {T : SS} {L p : Nat} (h : ltr (sgn T L p)) : p < L := by
  rcases h with e | e | e | e | e
  · exact sgn_lt e (by decide)
  · exact sgn_lt e (by decide)
  · exact sgn_lt e (by decide)
  · exact sgn_lt e (by decide)
  · exact sgn_lt e (by decide)
theorem frm_le {T : SS} {L p : Nat} (hp : p ≤ L) : (frm T L p).2.1 ≤ L ∧ p ≤ (frm T L p).2.1 ∧ ((frm T L p).1 = true → p < (frm T L p).2.1) := by
  unfold frm
  by_cases h : ltr (sgn T L p)
  · rw [if_pos h]
    have hl := ltr_lt h
    obtain ⟨a1, a2, a3⟩ := rdN_le (T := T) (L := L) 3 (p + 1) 0 (by omega)
    revert a1 a2 a3
    generalize rdN T L 3 (p + 1) 0 = a
    intro a1 a2 a3
    unfold frA
    split
    · exact ⟨a2, by show p ≤ a.1; omega, fun z => Bool.noConfusion (show false = true from z)⟩
    · split
      · unfold frB
        split
        · next h44 =>
          have hq := sgn_lt h44 (by decide)
          obtain ⟨b1, b2, b3⟩ := rdN_le (T := T) (L := L) 3 (a.1 + 1) 0 (by omega)
          revert b1 b2 b3
          generalize rdN T L 3 (a.1 + 1) 0 = b
          intro b1 b2 b3
          split
          · exact ⟨b2, by show p ≤ b.1; omega, fun z => Bool.noConfusion (show false = true from z)⟩
          · split
            · next h59 =>
              have := sgn_lt h59 (by decide)
              exact ⟨by show b.1 + 1 ≤ L; omega, by show p ≤ b.1 + 1; omega, fun _ => by show p < b.1 + 1; omega⟩
            · exact ⟨b2, by show p ≤ b.1; omega, fun z => Bool.noConfusion (show false = true from z)⟩
        · exact ⟨a2, by show p ≤ a.1; omega, fun z => Bool.noConfusion (show false = true from z)⟩
      · split
        · next h59 =>
          have := sgn_lt h59 (by decide)
          exact ⟨by show a.1 + 1 ≤ L; omega, by show p ≤ a.1 + 1; omega, fun _ => by show p < a.1 + 1; omega⟩
        · exact ⟨a2, by show p ≤ a.1; omega, fun z => Bool.noConfusion (show false = true from z)⟩
  · rw [if_neg h]
    exact ⟨hp, Nat.le_refl _, fun z => Bool.noConfusion (show false = true from z)⟩
theorem sp7_readsForm {Post : Mm → Int32 → Prop} {M : Mm} {H N : SS} {L p : Nat} (hL : H 6 = nI L) (hp : H 7 = nI p) (h60 : L ≤ 60) (hpl : p ≤ L)
    (h : ∀ H' N', H' 7 = nI (frm (M 148) L p).2.1 → (∀ k, k ≠ 7 → k ≠ 9 → H' k = H k) → ((frm (M 148) L p).1 = true → N' 0 = (frm (M 148) L p).2.2.1 ∧ (sgn (M 148) L p = 114 → N' 1 = (frm (M 148) L p).2.2.2)) → Post (gm M H' N') (b2i (frm (M 148) L p).1)) : wX7_readsForm Post (gm M H N) 143 := by
  have e8 : ∀ H' N', gm M H' N' 148 = M 148 := fun _ _ => gm_o (by omega) (by omega)
  have f135 : ∀ (H1 N1 : SS) (q : Nat) (o : Bool), H1 7 = nI q → (∀ k, k ≠ 7 → k ≠ 9 → H1 k = H k) → (frm (M 148) L p).1 = o → (frm (M 148) L p).2.1 = (if o = true then q + 1 else q) → (o = true → N1 0 = (frm (M 148) L p).2.2.1 ∧ (sgn (M 148) L p = 114 → N1 1 = (frm (M 148) L p).2.2.2)) → bX7_readsForm_135 Post (gm M H1 N1) 143 (b2i o) := by
    intro H1 N1 q o h7 hk e1 e2 hN
    refine ⟨fun d M28 e28 => ?_, fun d M28 e28 => ?_⟩
    · have ho := b2i_0.mp d
      subst ho
      have e : M28 = gm M (upd H1 7 (nI q)) N1 := by rw [e28, mu_gh, gm_h, h7, show nI q + 0 = nI (q + 0) from nI_add q 0, Nat.add_zero]
      subst e
      have := h (upd H1 7 (nI q)) N1 (by rw [upd_s, e2]; rfl) (fun k k7 k9 => by rw [upd_o k7, hk k k7 k9]) (fun z => by rw [e1] at z; cases z)
      rw [e1] at this
      exact ⟨Or.inl rfl, this⟩
    · have ho := b2i_1.mp ((b2i_01 _).resolve_left d)
      subst ho
      have e : M28 = gm M (upd H1 7 (nI (q + 1))) N1 := by rw [e28, mu_gh, gm_h, h7, show nI q + 1 = nI (q + 1) from nI_add q 1]
      subst e
      have := h (upd H1 7 (nI (q + 1))) N1 (by rw [upd_s, e2]; rfl) (fun k k7 k9 => by rw [upd_o k7, hk k k7 k9]) (fun _ => hN rfl)
      rw [e1] at this
      exact ⟨Or.inr rfl, this⟩
  have f117 : ∀ (H1 N1 : SS) (q : Nat) (o : Bool), H1 7 = nI q → q ≤ L → (∀ k, k ≠ 7 → k ≠ 9 → H1 k = H k) → ((o = true ∧ sgn (M 148) L q = 59) → (frm (M 148) L p).1 = true ∧ (frm (M 148) L p).2.1 = q + 1 ∧ N1 0 = (frm (M 148) L p).2.2.1 ∧ (sgn (M 148) L p = 114 → N1 1 = (frm (M 148) L p).2.2.2)) → (¬ (o = true ∧ sgn (M 148) L q = 59) → (frm (M 148) L p).1 = false ∧ (frm (M 148) L p).2.1 = q) → bX7_readsForm_117 Post (gm M H1 N1) 143 (b2i o) := by
    intro H1 N1 q o h7 hq hk hy hn
    have no : ¬ (o = true ∧ sgn (M 148) L q = 59) → bX7_readsForm_134 Post (gm M H1 N1) 143 := by
      intro z
      obtain ⟨a, b⟩ := hn z
      exact f135 H1 N1 q false h7 hk a b (fun z => by cases z)
    refine ⟨fun d => no (by rw [b2i_0.mp d]; rintro ⟨z, -⟩; cases z), fun d => sp7_sign (L := L) (p := q) (by rw [gm_h, hk 6 (by omega) (by omega), hL]) (by rw [gm_h, h7]) h60 hq ?_⟩
    rw [e8]
    refine ⟨fun c => no (by rintro ⟨-, z⟩; exact c z), fun c => ?_⟩
    obtain ⟨a, b, c2⟩ := hy ⟨b2i_1.mp ((b2i_01 _).resolve_left d), c⟩
    exact f135 H1 N1 q true h7 hk a b (fun _ => c2)
  have f37 : ltr (sgn (M 148) L p) → bX7_readsForm_37 Post (gm M H N) 143 (sgn (M 148) L p) := by
    intro hl M8 e8' M9 e9
    have hpL := ltr_lt hl
    have e : M9 = gm M (upd (upd H 7 (nI (p + 1))) 9 (nI 0)) N := by
      rw [e9, e8', mu_gh, gm_h, hp, nI_1, mu_gh]; rfl
    subst e
    have hA : frm (M 148) L p = frA (M 148) L p (rdN (M 148) L 3 (p + 1) 0).1 (rdN (M 148) L 3 (p + 1) 0).2 := by unfold frm; rw [if_pos hl]
    obtain ⟨a1, a2, a3⟩ := rdN_le (T := M 148) (L := L) 3 (p + 1) 0 (by omega)
    refine sp7_readsNumber (L := L) (p := p + 1) (c := 0) (by rw [upd_o (by omega), upd_o (by omega), hL]) (by rw [upd_o (by omega), upd_s]) upd_s (by omega) h60 (by omega) ?_
    revert hA a1 a2 a3
    generalize rdN (M 148) L 3 (p + 1) 0 = a
    intro hA a1 a2 a3 H1 h7 h9 hk
    have hk' : ∀ k, k ≠ 7 → k ≠ 9 → H1 k = H k := fun k k7 k9 => by rw [hk k k7 k9, upd_o k9, upd_o k7]
    refine ⟨fun d => ?_, fun d => ⟨fun c => ?_, fun c => ?_⟩⟩
    · have hz := of_decide_eq_false (b2i_0.mp d)
      have ha : a.1 = p + 1 := by omega
      rw [b2i_0.mp d]
      refine f117 H1 _ a.1 false h7 a2 hk' (by rintro ⟨z, -⟩; cases z) (fun _ => ?_)
      rw [hA]
      unfold frA
      rw [if_pos ha]
      exact ⟨rfl, rfl⟩
    · have hz := of_decide_eq_true (b2i_1.mp ((b2i_01 _).resolve_left d))
      rw [b2i_1.mp ((b2i_01 _).resolve_left d)]
      refine f117 H1 _ a.1 true h7 a2 hk' (fun z => ?_) (fun z => ?_)
      · rw [hA]
        unfold frA
        rw [if_neg (by omega), if_neg c, if_pos z.2]
        exact ⟨rfl, rfl, by rw [upd_s], fun y => absurd y c⟩
      · rw [hA]
        unfold frA
        rw [if_neg (by omega), if_neg c, if_neg (fun y => z ⟨rfl, y⟩)]
        exact ⟨rfl, rfl⟩
    · have hz := of_decide_eq_true (b2i_1.mp ((b2i_01 _).resolve_left d))
      have hB : frm (M 148) L p = frB (M 148) L a.1 a.2 := by
        rw [hA]; unfold frA; rw [if_neg (by omega), if_pos c]
      refine sp7_sign (L := L) (p := a.1) (by rw [gm_h, hk' 6 (by omega) (by omega), hL]) (by rw [gm_h, h7]) h60 a2 ?_
      rw [e8]
      refine ⟨fun c2 => ⟨fun _ M18 e18 => ⟨fun _ => ?_, fun y => absurd rfl y⟩, fun y => absurd rfl y⟩, fun c2 => ⟨fun y => absurd y (by decide), fun _ M18 e18 => ⟨fun y => absurd y (by decide), fun _ => ?_⟩⟩⟩
      · have e : M18 = gm M (upd H1 7 (nI a.1)) (upd N 0 a.2) := by rw [e18, mu_gh, gm_h, h7, show nI a.1 + 0 = nI (a.1 + 0) from nI_add a.1 0, Nat.add_zero]
        subst e
        refine f117 _ _ a.1 false upd_s a2 (fun k k7 k9 => by rw [upd_o k7, hk' k k7 k9]) (by rintro ⟨z, -⟩; cases z) (fun _ => ?_)
        rw [hB]
        unfold frB
        rw [if_neg c2]
        exact ⟨rfl, rfl⟩
      · have hq := sgn_lt c2 (by decide)
        have e : M18 = gm M (upd H1 7 (nI (a.1 + 1))) (upd N 0 a.2) := by rw [e18, mu_gh, gm_h, h7, show nI a.1 + 1 = nI (a.1 + 1) from nI_add a.1 1]
        subst e
        obtain ⟨b1, b2, b3⟩ := rdN_le (T := M 148) (L := L) 3 (a.1 + 1) 0 (by omega)
        refine sp7_readsNumber (L := L) (p := a.1 + 1) (c := 1) (by rw [upd_o (by omega), hk' 6 (by omega) (by omega), hL]) upd_s (by rw [upd_o (by omega), h9]) (by omega) h60 (by omega) ?_
        unfold frB at hB
        rw [if_pos c2] at hB
        revert hB b1 b2 b3
        generalize rdN (M 148) L 3 (a.1 + 1) 0 = b
        intro hB b1 b2 b3 H2 h7' h9' hk2
        have hk2' : ∀ k, k ≠ 7 → k ≠ 9 → H2 k = H k := fun k k7 k9 => by rw [hk2 k k7 k9, upd_o k7, hk' k k7 k9]
        refine ⟨fun d2 => ?_, fun d2 => ?_⟩
        · have hz2 := of_decide_eq_false (b2i_0.mp d2)
          refine f117 H2 _ b.1 false h7' b2 hk2' (by rintro ⟨z, -⟩; cases z) (fun _ => ?_)
          rw [hB, if_pos (show b.1 = a.1 + 1 by omega)]
          exact ⟨rfl, rfl⟩
        · have hz2 := of_decide_eq_true (b2i_1.mp ((b2i_01 _).resolve_left d2))
          refine f117 H2 _ b.1 true h7' b2 hk2' (fun z => ?_) (fun z => ?_)
          · rw [hB, if_neg (show ¬ b.1 = a.1 + 1 by omega), if_pos z.2]
            exact ⟨rfl, rfl, by rw [upd_o (by omega), upd_s], fun _ => by rw [upd_s]⟩
          · rw [hB, if_neg (show ¬ b.1 = a.1 + 1 by omega), if_neg (fun y => z ⟨rfl, y⟩)]
            exact ⟨rfl, rfl⟩
  refine sp7_sign (L := L) (p := p) (by rw [gm_h, hL]) (by rw [gm_h, hp]) h60 hpl ?_
  rw [e8]
  refine ⟨fun c => f37 (Or.inl c), fun n1 => ⟨fun c => f37 (Or.inr (Or.inl c)), fun n2 => ⟨fun c => f37 (Or.inr (Or.inr (Or.inl c))), fun n3 => ⟨fun c => f37 (Or.inr (Or.inr (Or.inr (Or.inl c)))), fun n4 => ⟨fun c => f37 (Or.inr (Or.inr (Or.inr (Or.inr c)))), fun n5 => ?_⟩⟩⟩⟩⟩
  have hl : ¬ ltr (sgn (M 148) L p) := by
    rintro (e | e | e | e | e)
    · exact n1 e
    · exact n2 e
    · exact n3 e
    · exact n4 e
    · exact n5 e
  have hF : frm (M 148) L p = (false, p, 0, 0) := by unfold frm; rw [if_neg hl]
  rw [hF] at h
  exact h H N hp (fun _ _ _ => rfl) (fun z => by cases z)
def rngF (n m : Nat) (c v : Int32) : Bool := if c = 99 ∨ c = 111 then inr 1 n v else if c = 114 then inr 1 11 v else if c = 121 then inr 0 m v else true
theorem sp7_isInRange {Post : Mm → Int32 → Prop} {M : Mm} {n m t : Nat} {c : Int32} (hw : Wf (M 144) n m t) (h : Post M (b2i (rngF n m c (M 149 0)))) : wX7_isInRange Post M 143 c := by
  obtain ⟨w0, w1, w2, ⟨w3, w4⟩, w5, -⟩ := hw
  unfold rngF at h
  have f44 : (c = 99 ∨ c = 111) → bX7_isInRange_44 Post M 143 := by
    intro z
    rw [if_pos z] at h
    exact sp7_isGate w0 w4 ⟨b2i_01 _, h⟩
  refine ⟨fun e => f44 (Or.inl e), fun n1 => ⟨fun e => f44 (Or.inr e), fun n2 => ⟨fun e => ?_, fun n3 => ⟨fun e => ?_, fun n4 => ?_⟩⟩⟩⟩
  · rw [if_neg (by rintro (z | z); exact n1 z; exact n2 z), if_pos e] at h
    exact sp7_inr (a := 1) (b := 11) (by decide) (by decide) ⟨b2i_01 _, h⟩
  · rw [if_neg (by rintro (z | z); exact n1 z; exact n2 z), if_neg n3, if_pos e] at h
    exact sp7_isField w1 w5 ⟨b2i_01 _, h⟩
  · rw [if_neg (by rintro (z | z); exact n1 z; exact n2 z), if_neg n3, if_neg n4] at h
    exact h
def doF (S : SS) (n m : Nat) (c v w : Int32) : SS × Int32 :=
  if c = 99 then mvF S n v 0 else if c = 104 then goesF S n m v else if c = 111 then mvF S n v 1 else if c = 121 then clF S m v else runsF S n m 10 v w
theorem sp7_does {Post : Mm → Int32 → Prop} {M : Mm} {n m t : Nat} {c v w : Int32} (hw : Wf (M 144) n m t) (ht : Tu (M 144) t) (hv : M 149 0 = v) (hv2 : c = 114 → M 149 1 = w) (hl : ltr c) (h : Post (st M (doF (M 144) n m c v w).1) (doF (M 144) n m c v w).2) : wX7_does Post M 143 c := by
  unfold doF at h
  have e0 : M (143 + 6) 0 = v := hv
  unfold wX7_does
  rw [e0]
  refine ⟨fun e => ?_, fun n1 => ⟨fun e => ?_, fun n2 => ⟨fun e => ?_, fun n3 => ⟨fun e => ?_, fun n4 => ?_⟩⟩⟩⟩
  · rw [if_pos e] at h
    exact sp7_moves hw h
  · rw [if_neg n1, if_pos e] at h
    exact sp7_goes hw h
  · rw [if_neg n1, if_neg n2, if_pos e] at h
    exact sp7_moves hw h
  · rw [if_neg n1, if_neg n2, if_neg n3, if_pos e] at h
    exact sp7_calls hw h
  · rw [if_neg n1, if_neg n2, if_neg n3, if_neg n4] at h
    have hc : c = 114 := by
      rcases hl with e | e | e | e | e
      · exact absurd e n3
      · exact absurd e n1
      · exact absurd e n4
      · exact absurd e n2
      · exact e
    have e1 : M (143 + 6) 1 = w := hv2 hc
    rw [e1]
    exact sp7_runs (most := 10) hw ht rfl (by omega) h
