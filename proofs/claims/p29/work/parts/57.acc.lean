/-! accounts: what came in is got, seeped, ran off, or still to go -/
def cs (S : SS) (lo : Nat) : Nat → Int
  | 0 => 0
  | g + 1 => cs S lo g + (if lo ≤ g then (ca S g 6).toInt else 0)
theorem cs_lo {S : SS} {lo : Nat} : ∀ i, i ≤ lo → cs S lo i = 0 := by
  intro i
  induction i with
  | zero => intro _; rfl
  | succ g ih => intro h; unfold cs; rw [ih (by omega), if_neg (by omega)]; rfl
theorem cs_split {S : SS} {c : Nat} : ∀ i, c < i → cs S c i = (ca S c 6).toInt + cs S (c + 1) i := by
  intro i
  induction i with
  | zero => intro h; omega
  | succ g ih =>
    intro h
    unfold cs
    by_cases e : g = c
    · subst e
      rw [cs_lo g (Nat.le_refl _), cs_lo g (by omega), if_pos (Nat.le_refl _), if_neg (by omega)]
      omega
    · rw [ih (by omega), if_pos (by omega), if_pos (by omega)]
      omega
theorem cs_congr {S S' : SS} {lo : Nat} : ∀ i, (∀ g, lo ≤ g → g < i → ca S' g 6 = ca S g 6) → cs S' lo i = cs S lo i := by
  intro i
  induction i with
  | zero => intro _; rfl
  | succ g ih =>
    intro h
    unfold cs
    rw [ih (fun k h1 h2 => h k h1 (by omega))]
    by_cases e : lo ≤ g
    · rw [if_pos e, if_pos e, h g e (by omega)]
    · rw [if_neg e, if_neg e]
theorem cs_upd {S : SS} {lo g : Nat} {v : Int32} (hg : lo ≤ g) (hz : ca S g 6 = 0) : ∀ i, cs (upd S (10 + 9 * g + 6) v) lo i = cs S lo i + (if g < i then v.toInt else 0) := by
  have e0 : (0 : Int32).toInt = 0 := by decide
  intro i
  induction i with
  | zero => rfl
  | succ k ih =>
    unfold cs
    rw [ih]
    by_cases e : k = g
    · subst e
      have e1 : ca (upd S (10 + 9 * k + 6) v) k 6 = v := upd_s
      rw [if_neg (by omega), if_pos hg, if_pos hg, if_pos (by omega), e1, hz, e0]
    · have e1 : ca (upd S (10 + 9 * g + 6) v) k 6 = ca S k 6 := upd_o (by omega)
      rw [e1]
      by_cases e2 : g < k
      · rw [if_pos e2, if_pos (show g < k + 1 by omega)]; omega
      · rw [if_neg e2, if_neg (show ¬ g < k + 1 by omega)]; omega
theorem cs_nn {S : SS} {lo n : Nat} (hv : VC S n) : ∀ i, i ≤ n → 0 ≤ cs S lo i := by
  intro i
  induction i with
  | zero => intro _; exact Int.le_refl _
  | succ g ih =>
    intro h
    have := (hv g (by omega)).2.2.1
    have := ih (by omega)
    unfold cs
    split <;> omega
def bd (q : Int) : Nat → Int
  | 0 => 0
  | j + 1 => bd q j + q
theorem bd_nn {q : Int} (h : 0 ≤ q) : ∀ j, 0 ≤ bd q j := by
  intro j
  induction j with
  | zero => exact Int.le_refl _
  | succ j ih => unfold bd; omega
theorem bd_mul {q : Int} : ∀ j : Nat, bd q j = q * j := by
  intro j
  induction j with
  | zero => rw [Int.natCast_zero, Int.mul_zero]; rfl
  | succ j ih => unfold bd; rw [ih, Int.natCast_add, Int.natCast_one, Int.mul_add, Int.mul_one]
/-- canals that no water has come to yet -/
def ZC (S : SS) (n c : Nat) : Prop := ∀ g, 1 ≤ g → g < n → c ≤ pa S g → ca S g 6 = 0
theorem pr_acc {S : SS} {m n c : Nat} {w : Int32} (hv : VC S n) (h8 : n ≤ 8) (hz : ZC S n c) (hw0 : 0 ≤ w.toInt) (hw5 : w.toInt ≤ 500) (hk : 1 ≤ mn S m c n) : ∀ i, i ≤ n →
    (0 ≤ (pr S m c (w / nI (mn S m c n)) (S, w, more0 w (mn S m c n)) i).2.2.toInt ∧ (pr S m c (w / nI (mn S m c n)) (S, w, more0 w (mn S m c n)) i).2.2.toInt ≤ 8) ∧
    bd (w / nI (mn S m c n)).toInt (mn S m c n - mn S m c i) + (pr S m c (w / nI (mn S m c n)) (S, w, more0 w (mn S m c n)) i).2.2.toInt ≤ (pr S m c (w / nI (mn S m c n)) (S, w, more0 w (mn S m c n)) i).2.1.toInt ∧
    (pr S m c (w / nI (mn S m c n)) (S, w, more0 w (mn S m c n)) i).2.1.toInt ≤ w.toInt ∧
    cs (pr S m c (w / nI (mn S m c n)) (S, w, more0 w (mn S m c n)) i).1 (c + 1) n + (pr S m c (w / nI (mn S m c n)) (S, w, more0 w (mn S m c n)) i).2.1.toInt = cs S (c + 1) n + w.toInt ∧
    ∀ g, i ≤ g → g < n → ca (pr S m c (w / nI (mn S m c n)) (S, w, more0 w (mn S m c n)) i).1 g 6 = ca S g 6 := by
  have hk8 : mn S m c n ≤ 8 := Nat.le_trans (mn_le n) h8
  obtain ⟨r1, r2, r3, r4, r5⟩ := mod_rng hw0 hw5 hk hk8
  have hm0 : (more0 w (mn S m c n)).toInt = w.toInt - (w / nI (mn S m c n)).toInt * (mn S m c n : Nat) := by
    unfold more0; rw [if_neg (by omega), r3]
  have e0 : (0 : Int32).toInt = 0 := by decide
  have e1 : (1 : Int32).toInt = 1 := by decide
  intro i
  induction i with
  | zero =>
    intro _
    show (0 ≤ (more0 w (mn S m c n)).toInt ∧ (more0 w (mn S m c n)).toInt ≤ 8) ∧ bd _ (mn S m c n - 0) + (more0 w (mn S m c n)).toInt ≤ w.toInt ∧ _ ∧ _ ∧ _
    rw [bd_mul, Nat.sub_zero, hm0]
    exact ⟨⟨by omega, by omega⟩, by omega, Int.le_refl _, rfl, fun _ _ _ => rfl⟩
  | succ g ih =>
    intro hg
    obtain ⟨⟨i1, i1'⟩, i2, i3, i4, i5⟩ := ih (by omega)
    have es : pr S m c (w / nI (mn S m c n)) (S, w, more0 w (mn S m c n)) (g + 1) = if c < g ∧ ltF S m c g = true then (upd (pr S m c (w / nI (mn S m c n)) (S, w, more0 w (mn S m c n)) g).1 (10 + 9 * g + 6) (thr S g (ptq (w / nI (mn S m c n)) (pr S m c (w / nI (mn S m c n)) (S, w, more0 w (mn S m c n)) g).2.2)), (pr S m c (w / nI (mn S m c n)) (S, w, more0 w (mn S m c n)) g).2.1 - thr S g (ptq (w / nI (mn S m c n)) (pr S m c (w / nI (mn S m c n)) (S, w, more0 w (mn S m c n)) g).2.2), mdec (pr S m c (w / nI (mn S m c n)) (S, w, more0 w (mn S m c n)) g).2.2) else pr S m c (w / nI (mn S m c n)) (S, w, more0 w (mn S m c n)) g := rfl
    have em : mn S m c (g + 1) = mn S m c g + (if c < g ∧ ltF S m c g = true then 1 else 0) := rfl
    have hmono := mn_mono (S := S) (m := m) (c := c) (g + 1) n hg
    rw [es]
    revert i1 i1' i2 i3 i4 i5
    generalize pr S m c (w / nI (mn S m c n)) (S, w, more0 w (mn S m c n)) g = P
    intro i1 i1' i2 i3 i4 i5
    by_cases hc : c < g ∧ ltF S m c g = true
    · rw [if_pos hc] at em
      rw [if_pos hc]
      have hcz : ca S g 6 = 0 := by
        refine hz g (by omega) (by omega) ?_
        have := hc.2
        unfold ltF at this
        rw [Bool.and_eq_true, Bool.and_eq_true] at this
        have := of_decide_eq_true this.1.1
        omega
      have hp : 0 ≤ (ptq (w / nI (mn S m c n)) P.2.2).toInt ∧ (ptq (w / nI (mn S m c n)) P.2.2).toInt ≤ 1000 ∧ (mdec P.2.2).toInt + (ptq (w / nI (mn S m c n)) P.2.2).toInt = (w / nI (mn S m c n)).toInt + P.2.2.toInt ∧ 0 ≤ (mdec P.2.2).toInt ∧ (mdec P.2.2).toInt ≤ 8 := by
        unfold ptq mdec
        by_cases h : P.2.2 ≤ 0
        · have := i_le.mp h
          rw [if_pos h, if_pos h, Int32.add_zero, Int32.sub_zero]
          omega
        · have : ¬ P.2.2.toInt ≤ (0 : Int32).toInt := fun z => h (i_le.mpr z)
          rw [if_neg h, if_neg h, i_add (by omega) (by omega), i_sub (by omega) (by omega), e1]
          omega
      obtain ⟨p1, p2, p3, p4, p5⟩ := hp
      obtain ⟨t1, t2, t3⟩ := thr_rng (S := S) (g := g) p1 p2 (hv g (by omega)).1
      have hbd : mn S m c n - mn S m c g = (mn S m c n - mn S m c (g + 1)) + 1 := by omega
      rw [hbd] at i2
      have hb2 : bd (w / nI (mn S m c n)).toInt ((mn S m c n - mn S m c (g + 1)) + 1) = bd (w / nI (mn S m c n)).toInt (mn S m c n - mn S m c (g + 1)) + (w / nI (mn S m c n)).toInt := rfl
      rw [hb2] at i2
      have hbn := bd_nn r1 (mn S m c n - mn S m c (g + 1))
      generalize thr S g (ptq (w / nI (mn S m c n)) P.2.2) = th at t1 t2 t3 ⊢
      have el : (P.2.1 - th).toInt = P.2.1.toInt - th.toInt := i_sub (by omega) (by omega)
      have hcP : ca P.1 g 6 = 0 := by rw [i5 g (Nat.le_refl _) (by omega), hcz]
      have ecs := cs_upd (S := P.1) (lo := c + 1) (g := g) (v := th) (by omega) hcP n
      rw [if_pos (show g < n by omega)] at ecs
      refine ⟨⟨p4, p5⟩, ?_, ?_, ?_, fun k k1 k2 => ?_⟩
      · show _ + (mdec P.2.2).toInt ≤ (P.2.1 - th).toInt
        omega
      · show (P.2.1 - th).toInt ≤ _
        omega
      · show cs (upd P.1 (10 + 9 * g + 6) th) (c + 1) n + (P.2.1 - th).toInt = _
        omega
      · show ca (upd P.1 (10 + 9 * g + 6) th) k 6 = _
        have : ca (upd P.1 (10 + 9 * g + 6) th) k 6 = ca P.1 k 6 := upd_o (by omega)
        rw [this]
        exact i5 k (by omega) k2
    · rw [if_neg hc] at em
      rw [if_neg hc]
      rw [em, Nat.add_zero]
      exact ⟨⟨i1, i1'⟩, i2, i3, i4, fun k k1 k2 => i5 k (by omega) k2⟩
theorem part_acc {S : SS} {m n c : Nat} {w : Int32} (hv : VC S n) (h8 : n ≤ 8) (hz : ZC S n c) (hw0 : 0 ≤ w.toInt) (hw5 : w.toInt ≤ 500) : 0 ≤ (partF S m n c w).2.toInt ∧ (partF S m n c w).2.toInt ≤ w.toInt ∧ cs (partF S m n c w).1 (c + 1) n + (partF S m n c w).2.toInt = cs S (c + 1) n + w.toInt := by
  by_cases hk : mn S m c n = 0
  · have e : partF S m n c w = (S, w) := by
      unfold partF
      rw [pr_none hk n (Nat.le_refl _)]
    rw [e]
    exact ⟨hw0, Int.le_refl _, rfl⟩
  · obtain ⟨⟨a1, a2⟩, b, c1, d, -⟩ := pr_acc hv h8 hz hw0 hw5 (Nat.pos_of_ne_zero hk) n (Nat.le_refl _)
    have e : bd (w / nI (mn S m c n)).toInt (mn S m c n - mn S m c n) = 0 := by rw [Nat.sub_self]; rfl
    rw [e] at b
    unfold partF
    refine ⟨?_, c1, d⟩
    show 0 ≤ (pr S m c (w / nI (mn S m c n)) (S, w, more0 w (mn S m c n)) n).2.1.toInt
    omega
