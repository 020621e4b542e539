/-! the class: a field added, the row of rights -/
theorem fdS_o {S : SS} {m i : Nat} {c d o r : Int32} (h1 : i ≠ 1) (hi : i < 82 + 7 * m ∨ 89 + 7 * m ≤ i) : fdS S m c d o r i = S i := by
  unfold fdS
  rw [upd_o h1, upd_o (by omega), upd_o (by omega), upd_o (by omega), upd_o (by omega), zr_o 7 (by omega)]
theorem fdS_s {S : SS} {m : Nat} {c d o r : Int32} : fi (fdS S m c d o r) m 0 = c ∧ fi (fdS S m c d o r) m 1 = d ∧ fi (fdS S m c d o r) m 2 = o ∧ fi (fdS S m c d o r) m 3 = r ∧ fi (fdS S m c d o r) m 4 = 0 ∧ fi (fdS S m c d o r) m 5 = 0 ∧ fi (fdS S m c d o r) m 6 = 0 := by
  unfold fdS fi
  refine ⟨?_, ?_, ?_, ?_, ?_, ?_, ?_⟩
  · rw [upd_o (by omega), upd_o (by omega), upd_o (by omega), upd_o (by omega), show 82 + 7 * m + 0 = 82 + 7 * m by omega, upd_s]
  · rw [upd_o (by omega), upd_o (by omega), upd_o (by omega), show 82 + 7 * m + 1 = 83 + 7 * m by omega, upd_s]
  · rw [upd_o (by omega), upd_o (by omega), show 82 + 7 * m + 2 = 84 + 7 * m by omega, upd_s]
  · rw [upd_o (by omega), show 82 + 7 * m + 3 = 85 + 7 * m by omega, upd_s]
  · rw [upd_o (by omega), upd_o (by omega), upd_o (by omega), upd_o (by omega), upd_o (by omega), zr_s 7 (by omega) (by omega)]
  · rw [upd_o (by omega), upd_o (by omega), upd_o (by omega), upd_o (by omega), upd_o (by omega), zr_s 7 (by omega) (by omega)]
  · rw [upd_o (by omega), upd_o (by omega), upd_o (by omega), upd_o (by omega), upd_o (by omega), zr_s 7 (by omega) (by omega)]
theorem ord_len {S : SS} : ∀ m, (ord S m).length = m := by
  have hi : ∀ (f : Nat) (l : List Nat), (ins S f l).length = l.length + 1 := by
    intro f l
    induction l with
    | nil => rfl
    | cons a l ih =>
      unfold ins
      split
      · rfl
      · simp [ih]
  intro m
  induction m with
  | zero => rfl
  | succ i ih => unfold ord; rw [hi, ih]
/-- where a field is put into the row -/
theorem ins_at {S : SS} {f : Nat} : ∀ (l : List Nat) (q : Nat), q ≤ l.length → (∀ i g, i < q → l[i]? = some g → ¬ fi S f 3 < fi S g 3) → (∀ g, l[q]? = some g → fi S f 3 < fi S g 3) → ins S f l = l.take q ++ f :: l.drop q := by
  intro l
  induction l with
  | nil =>
    intro q hq _ _
    have : q = 0 := by have : q ≤ 0 := hq; omega
    subst this
    rfl
  | cons a l ih =>
    intro q hq h1 h2
    unfold ins
    cases q with
    | zero =>
      rw [if_pos (h2 a rfl)]
      rfl
    | succ q =>
      rw [if_neg (h1 0 a (by omega) rfl), ih q (by have : q + 1 ≤ l.length + 1 := hq; omega) (fun i g hi hg => h1 (i + 1) g (by omega) hg) (fun g hg => h2 g hg)]
      rfl
theorem sorted_le {S : SS} {l : List Nat} (hs : l.Pairwise (bef S)) {i j f g : Nat} (hij : i ≤ j) (hf : l[i]? = some f) (hg : l[j]? = some g) : (fi S f 3).toInt ≤ (fi S g 3).toInt := by
  by_cases e : i = j
  · subst e
    rw [hf] at hg
    cases hg
    exact Int.le_refl _
  · obtain ⟨h1, e1⟩ := List.getElem?_eq_some_iff.mp hf
    obtain ⟨h2, e2⟩ := List.getElem?_eq_some_iff.mp hg
    have := (List.pairwise_iff_getElem.mp hs) i j h1 h2 (by omega)
    rw [e1, e2] at this
    rcases this with z | z
    · have := i_lt.mp z; omega
    · rw [z.1]; exact Int.le_refl _
theorem put_at {l : List Nat} {q f i : Nat} (hq : q ≤ l.length) : (l.take q ++ f :: l.drop q)[i]? = if i < q then l[i]? else if i = q then some f else l[i - 1]? := by
  have hlen : (l.take q).length = q := by rw [List.length_take]; omega
  by_cases h : i < q
  · rw [if_pos h, List.getElem?_append_left (by omega), List.getElem?_take, if_pos h]
  · rw [if_neg h, List.getElem?_append_right (by omega), hlen]
    by_cases h2 : i = q
    · subst h2; rw [if_pos rfl, Nat.sub_self]; rfl
    · rw [if_neg h2, show i - q = (i - 1 - q) + 1 by omega, List.getElem?_cons_succ, List.getElem?_drop]
      congr 1; omega
