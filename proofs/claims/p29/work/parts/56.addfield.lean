/-! the class: a field added, the row of rights -/
theorem fdS_o {S : SS} {m i : Nat} {c d o r : Int32} (h1 : i ≠ 1) (hi : i < 82 + 7 * m ∨ 89 + 7 * m ≤ i) : fdS S m c d o r i = S i := by
  unfold fdS
  rw [upd_o h1, upd_o (by omega), upd_o (by omega), upd_o (by omega), upd_o (by omega), zr_o 7 (by omega)]
theorem fdS_s {S : SS} {m : Nat} {c d o r : Int32} : fi (fdS S m c d o r) m 0 = c ∧ fi (fdS S m c d o r) m 1 = d ∧ fi (fdS S m c d o r) m 2 = o ∧ fi (fdS S m c d o r) m 3 = r ∧ fi (fdS S m c d o r) m 4 = 0 ∧ fi (fdS S m c d o r) m 5 = 0 ∧ fi (fdS S m c d o r) m 6 = 0 := by
  unfold fdS fi
  refine ⟨?_, ?_, ?_, ?_, ?_, ?_, ?_⟩
  · rw [upd_o (by omega), upd_o (by omega), upd_o (by omega), upd_o (by omega), show 82 + 7 * m + 0 = 82 + 7 * m by omega, upd_s]
  · rw [upd_o (by omega), upd_o (by omega), upd_o (by omega), show 82 + 7 * m + 1 = 83 + 7 * m by omega, upd_s]
  · rw [upd_o (by omega), upd_o (by omega), show 82 + 7 * m + 2 = 84 + 7 * m by omega, upd_s]
  · rw [upd_o (by omega), show 82 + 7 * m + 3 = 85 + 7 * m by omega, upd_s]
  · rw [upd_o (by omega), upd_o (by omega), upd_o (by omega), upd_o (by omega), upd_o (by omega), zr_s 7 (by omega) (by omega)]
  · rw [upd_o (by omega), upd_o (by omega), upd_o (by omega), upd_o (by omega), upd_o (by omega), zr_s 7 (by omega) (by omega)]
  · rw [upd_o (by omega), upd_o (by omega), upd_o (by omega), upd_o (by omega), upd_o (by omega), zr_s 7 (by omega) (by omega)]
theorem ord_len {S : SS} : ∀ m, (ord S m).length = m := by
  have hi : ∀ (f : Nat) (l : List Nat), (ins S f l).length = l.length + 1 := by
    intro f l
    induction l with
    | nil => rfl
    | cons a l ih =>
      unfold ins
      split
      · rfl
      · simp [ih]
  intro m
  induction m with
  | zero => rfl
  | succ i ih => unfold ord; rw [hi, ih]
/-- where a field is put into the row -/
theorem ins_at {S : SS} {f : Nat} : ∀ (l : List Nat) (q : Nat), q ≤ l.length → (∀ i g, i < q → l[i]? = some g → ¬ fi S f 3 < fi S g 3) → (∀ g, l[q]? = some g → fi S f 3 < fi S g 3) → ins S f l = l.take q ++ f :: l.drop q := by
  intro l
  induction l with
  | nil =>
    intro q hq _ _
    have : q = 0 := by have : q ≤ 0 := hq; omega
    subst this
    rfl
  | cons a l ih =>
    intro q hq h1 h2
    unfold ins
    cases q with
    | zero =>
      rw [if_pos (h2 a rfl)]
      rfl
    | succ q =>
      rw [if_neg (h1 0 a (by omega) rfl), ih q (by have : q + 1 ≤ l.length + 1 := hq; omega) (fun i g hi hg => h1 (i + 1) g (by omega) hg) (fun g hg => h2 g hg)]
      rfl
theorem sorted_le {S : SS} {l : List Nat} (hs : l.Pairwise (bef S)) {i j f g : Nat} (hij : i ≤ j) (hf : l[i]? = some f) (hg : l[j]? = some g) : (fi S f 3).toInt ≤ (fi S g 3).toInt := by
  by_cases e : i = j
  · subst e
    rw [hf] at hg
    cases hg
    exact Int.le_refl _
  · obtain ⟨h1, e1⟩ := List.getElem?_eq_some_iff.mp hf
    obtain ⟨h2, e2⟩ := List.getElem?_eq_some_iff.mp hg
    have := (List.pairwise_iff_getElem.mp hs) i j h1 h2 (by omega)
    rw [e1, e2] at this
    rcases this with z | z
    · have := i_lt.mp z; omega
    · rw [z.1]; exact Int.le_refl _
theorem put_at {l : List Nat} {q f i : Nat} (hq : q ≤ l.length) : (l.take q ++ f :: l.drop q)[i]? = if i < q then l[i]? else if i = q then some f else l[i - 1]? := by
  have hlen : (l.take q).length = q := by rw [List.length_take]; omega
  by_cases h : i < q
  · rw [if_pos h, List.getElem?_append_left (by omega), List.getElem?_take, if_pos h]
  · rw [if_neg h, List.getElem?_append_right (by omega), hlen]
    by_cases h2 : i = q
    · subst h2; rw [if_pos rfl, Nat.sub_self]; rfl
    · rw [if_neg h2, show i - q = (i - 1 - q) + 1 by omega, List.getElem?_cons_succ, List.getElem?_drop]
      congr 1; omega
theorem mp_m {n m tt k j i : Nat} (h8 : n ≤ 8) (h10 : m < 10) (hm : mp n (m + 1) tt k j i) : (mp n m tt k j i ∧ i ≠ 1 ∧ (i < 82 + 7 * m ∨ 89 + 7 * m ≤ i) ∧ ¬ (11 ≤ k ∧ k ≤ 16 ∧ j = m) ∧ k ≠ 17 ∧ (k = 10 → False)) ∨ (11 ≤ k ∧ k ≤ 15 ∧ j = m ∧ i + 11 = 82 + 7 * m + k) ∨ (k = 16 ∧ j = m ∧ i = 82 + 7 * m + 6) := by
  unfold mp at hm
  rcases hm with h | h | h | h | h | h | h | h
  · exact Or.inl ⟨Or.inl h, by omega, by omega, by omega, by omega, by omega⟩
  · exact Or.inl ⟨Or.inr (Or.inl h), by omega, by omega, by omega, by omega, by omega⟩
  · exact Or.inl ⟨Or.inr (Or.inr (Or.inl h)), by omega, by omega, by omega, by omega, by omega⟩
  · by_cases e : j = m
    · exact Or.inr (Or.inl (by omega))
    · exact Or.inl ⟨Or.inr (Or.inr (Or.inr (Or.inl (by omega)))), by omega, by omega, by omega, by omega, by omega⟩
  · by_cases e : j = m
    · exact Or.inr (Or.inr (by omega))
    · exact Or.inl ⟨Or.inr (Or.inr (Or.inr (Or.inr (Or.inl (by omega))))), by omega, by omega, by omega, by omega, by omega⟩
  · exact Or.inl ⟨Or.inr (Or.inr (Or.inr (Or.inr (Or.inr (Or.inl h))))), by omega, by omega, by omega, by omega, by omega⟩
  · exact Or.inl ⟨Or.inr (Or.inr (Or.inr (Or.inr (Or.inr (Or.inr (Or.inl h)))))), by omega, by omega, by omega, by omega, by omega⟩
  · exact Or.inl ⟨Or.inr (Or.inr (Or.inr (Or.inr (Or.inr (Or.inr (Or.inr h)))))), by omega, by omega, by omega, by omega, by omega⟩
theorem ord_low {S S' : SS} {m : Nat} (h : ∀ f, f < m → fi S' f 3 = fi S f 3) : ord S' m = ord S m := by
  have hh : ∀ k, k ≤ m → ord S' k = ord S k := by
    intro k
    induction k with
    | zero => intro _; rfl
    | succ k ih =>
      intro hk
      have e2 : ∀ l : List Nat, (∀ z, z ∈ l → z < m) → ins S' k l = ins S k l := by
        intro l
        induction l with
        | nil => intro _; rfl
        | cons z l ih2 =>
          intro hl
          unfold ins
          rw [h k (by omega), h z (hl z List.mem_cons_self), ih2 (fun w hw => hl w (List.mem_cons_of_mem _ hw))]
      unfold ord
      rw [ih (by omega), e2 _ (fun z hz => by have := ord_mem.mp hz; omega)]
  exact hh m (Nat.le_refl _)
theorem TR_fd {M M' : Mm} {t : Nat} {S : SS} {n m tt : Nat} {c d o r : Int32} (hT : TR M t S n m tt) (h8 : n ≤ 8) (h10 : m < 10)
    (h0 : M' (t + 10) 0 = nI (m + 1)) (h1 : M' (t + 10) 1 = M (t + 10) 1) (r1 : M' (t + 11) = upd (M (t + 11)) m c) (r2 : M' (t + 12) = upd (M (t + 12)) m d) (r3 : M' (t + 13) = upd (M (t + 13)) m o) (r4 : M' (t + 14) = upd (M (t + 14)) m r)
    (hr : ∀ i, i < m + 1 → ∃ f, (ord (fdS S m c d o r) (m + 1))[i]? = some f ∧ M' (t + 17) i = nI f)
    (fr : ∀ k, (k < 10 ∨ 15 ≤ k) → k ≠ 17 → M' (t + k) = M (t + k)) : TR M' t (fdS S m c d o r) n (m + 1) tt := by
  obtain ⟨a, b, c1, d1, e, f, g, x, y⟩ := hT
  obtain ⟨y1, y2⟩ := y m (Nat.le_refl _) h10
  obtain ⟨s0, s1, s2, s3, s4, s5, s6⟩ := fdS_s (S := S) (m := m) (c := c) (d := d) (o := o) (r := r)
  have el : ∀ q j, j ≠ m → 11 ≤ q → q ≤ 14 → M' (t + q) j = M (t + q) j := by
    intro q j hj q1 q2
    have hq : q = 11 ∨ q = 12 ∨ q = 13 ∨ q = 14 := by omega
    rcases hq with z | z | z | z
    · subst z; rw [r1, upd_o hj]
    · subst z; rw [r2, upd_o hj]
    · subst z; rw [r3, upd_o hj]
    · subst z; rw [r4, upd_o hj]
  refine ⟨fun q j i hm => ?_, by rw [fr 1 (by omega) (by omega), b], ?_, h0, ?_, by rw [fr 18 (by omega) (by omega), f], hr, fun i i1 i2 => ?_, fun i i1 i2 => ?_⟩
  · rcases mp_m h8 h10 hm with ⟨hm', i0, hi, hq, hq7, hq0⟩ | ⟨q2, q5, hj, hi⟩ | ⟨hq, hj, hi⟩
    · rw [fdS_o i0 hi, ← a q j i hm']
      by_cases q1 : 11 ≤ q ∧ q ≤ 14
      · exact el q j (by omega) q1.1 q1.2
      · rw [fr q (by have hx : q ≠ 10 := hq0; omega) hq7]
    · subst hj
      have hq : q = 11 ∨ q = 12 ∨ q = 13 ∨ q = 14 ∨ q = 15 := by omega
      rcases hq with z | z | z | z | z
      · subst z; rw [r1, upd_s, show i = 82 + 7 * j + 0 by omega]; exact s0.symm
      · subst z; rw [r2, upd_s, show i = 82 + 7 * j + 1 by omega]; exact s1.symm
      · subst z; rw [r3, upd_s, show i = 82 + 7 * j + 2 by omega]; exact s2.symm
      · subst z; rw [r4, upd_s, show i = 82 + 7 * j + 3 by omega]; exact s3.symm
      · subst z; rw [fr 15 (by omega) (by omega), y1, show i = 82 + 7 * j + 4 by omega]; exact s4.symm
    · subst hj
      subst hq
      rw [fr 16 (by omega) (by omega), y2, hi]
      exact s6.symm
  · rw [fr 1 (by omega) (by omega), c1]
    refine ofB_congr n (fun g hg => ?_)
    unfold opn ca
    rw [fdS_o (by omega) (by omega)]
  · rw [h1, e, ofB_succ, if_neg]
    · refine ofB_congr m (fun g hg => ?_)
      unfold cls fi
      rw [fdS_o (by omega) (by omega)]
    · unfold cls
      rw [s5]; decide
  · rw [fr 6 (by omega) (by omega), fr 7 (by omega) (by omega), fr 8 (by omega) (by omega), fr 9 (by omega) (by omega)]
    exact x i i1 i2
  · rw [fr 15 (by omega) (by omega), fr 16 (by omega) (by omega)]
    exact y i (by omega) i2
theorem sp1_add {Post : Mm → Int32 → Prop} {M : Mm} {t : Nat} {S : SS} {n m tt : Nat} {c d o r : Int32} (hT : TR M t S n m tt) (h8 : n ≤ 8) (h10 : m < 10)
    (hP : ∀ M', TR M' t (fdS S m c d o r) n (m + 1) tt → (∀ a, (a < t + 10 ∨ t + 18 ≤ a) → M' a = M a) → Post M' (nI m)) : wX1_add Post M (t + 10) c d o r := by
  have vm : vp_in (nI m) 10 := vp_in_nI h10 (by omega)
  intro x5 e5
  rw [hT.2.2.2.1] at e5
  subst e5
  refine ⟨vm, fun M2 e2 => ⟨vm, fun M3 e3 => ⟨vm, fun M4 e4 => ⟨vm, fun M5 e5 x6 e6 => ?_⟩⟩⟩⟩
  rw [ixn (by omega)] at e2 e3 e4 e5
  have z5 : M5 (t + 10) 0 = nI m := by rw [e5, mu_row (by omega), e4, mu_row (by omega), e3, mu_row (by omega), e2, mu_row (by omega), hT.2.2.2.1]
  have z51 : M5 (t + 10) = M (t + 10) := by rw [e5, mu_row (by omega), e4, mu_row (by omega), e3, mu_row (by omega), e2, mu_row (by omega)]
  rw [z5] at e6
  subst e6
  have r1 : M5 (t + 11) = upd (M (t + 11)) m c := by
    rw [e5, mu_row (by omega), e4, mu_row (by omega), e3, mu_row (by omega), e2]
    exact mu_s
  have r2 : M5 (t + 12) = upd (M (t + 12)) m d := by
    rw [e5, mu_row (by omega), e4, mu_row (by omega), e3]
    show mu M2 (t + 12) m d (t + 12) = _
    rw [mu_s, e2, mu_row (by omega)]
  have r3 : M5 (t + 13) = upd (M (t + 13)) m o := by
    rw [e5, mu_row (by omega), e4]
    show mu M3 (t + 13) m o (t + 13) = _
    rw [mu_s, e3, mu_row (by omega), e2, mu_row (by omega)]
  have r4 : M5 (t + 14) = upd (M (t + 14)) m r := by
    rw [e5]
    show mu M4 (t + 14) m r (t + 14) = _
    rw [mu_s, e4, mu_row (by omega), e3, mu_row (by omega), e2, mu_row (by omega)]
  have fr : ∀ a, (a < t + 11 ∨ t + 15 ≤ a) → M5 a = M a := fun a ha => by
    rw [e5, mu_row (by omega), e4, mu_row (by omega), e3, mu_row (by omega), e2, mu_row (by omega)]
  clear e2 e3 e4 e5
  have e3S : ∀ f, f < m → fi (fdS S m c d o r) f 3 = fi S f 3 := fun f hf => fdS_o (by omega) (by omega)
  have hsort := ord_sorted (S := S) (m := m)
  have hlen := ord_len (S := S) m
  have hget : ∀ i, i < m → ∃ g, (ord S m)[i]? = some g ∧ g < m := fun i hi => by
    obtain ⟨g, g1, -⟩ := hT.2.2.2.2.2.2.1 i hi
    exact ⟨g, g1, ord_mem.mp (List.mem_of_getElem? g1)⟩
  have eord : ord (fdS S m c d o r) (m + 1) = ins (fdS S m c d o r) m (ord S m) := by
    show ins _ m (ord (fdS S m c d o r) m) = _
    rw [ord_low e3S]
  have er : fi (fdS S m c d o r) m 3 = r := fdS_s.2.2.2.1
  -- the field is put at place q
  have put : ∀ (q : Nat) (R : SS), q ≤ m → (∀ i, i < q → ∃ g, (ord S m)[i]? = some g ∧ R i = nI g) → (∀ i, q ≤ i → i < m → ∃ g, (ord S m)[i]? = some g ∧ R (i + 1) = nI g ∧ r < fi S g 3) → (∀ g, 0 < q → (ord S m)[q - 1]? = some g → ¬ r < fi S g 3) → bX1_add_91 Post (sr M5 (t + 17) R) (t + 10) (nI m) (nI q) := by
    intro q R hq h1 h2 h3
    refine ⟨vp_in_nI (by omega) (by omega), fun M12 e12 M13 e13 => ?_⟩
    rw [ixn (by omega)] at e12
    have e12' : M12 = sr M5 (t + 17) (upd R q (nI m)) := by
      rw [e12]
      show mu (sr M5 (t + 17) R) (t + 17) q (nI m) = _
      rw [mu_sr, sr_sr, sr_s]
    have z12 : M12 (t + 10) 0 = nI m := by rw [e12', sr_o (by omega), z5]
    rw [z12, nI_1] at e13
    have ke : ∀ a, a ≠ t + 10 → a ≠ t + 17 → M13 a = M5 a := fun a a1 a2 => by rw [e13, mu_row a1, e12', sr_o a2]
    have hins : ins (fdS S m c d o r) m (ord S m) = (ord S m).take q ++ m :: (ord S m).drop q := by
      refine ins_at _ q (by omega) (fun i g hi hg => ?_) (fun g hg => ?_)
      · obtain ⟨g', hg', hgm⟩ := hget i (by omega)
        rw [hg] at hg'
        cases hg'
        rw [er, e3S g hgm]
        intro z
        obtain ⟨g2, hg2, -⟩ := hget (q - 1) (by omega)
        have hle := sorted_le hsort (show i ≤ q - 1 by omega) hg hg2
        refine h3 g2 (by omega) hg2 (i_lt.mpr ?_)
        have := i_lt.mp z
        omega
      · have hqm : q < m := by
          obtain ⟨hh, -⟩ := List.getElem?_eq_some_iff.mp hg
          omega
        obtain ⟨g', g1, g2, g3⟩ := h2 q (Nat.le_refl _) hqm
        rw [hg] at g1
        cases g1
        have hgm := ord_mem.mp (List.mem_of_getElem? hg)
        rw [er, e3S g hgm]
        exact g3
    refine hP M13 (TR_fd hT h8 h10 ?_ ?_ ?_ ?_ ?_ ?_ (fun i hi => ?_) (fun k hk hk7 => ?_)) (fun a ha => ?_)
    · rw [e13, mu_at]
    · rw [e13, mu_el (by omega), e12', sr_o (by omega), z51]
    · rw [ke _ (by omega) (by omega), r1]
    · rw [ke _ (by omega) (by omega), r2]
    · rw [ke _ (by omega) (by omega), r3]
    · rw [ke _ (by omega) (by omega), r4]
    · rw [eord, hins, put_at (by omega)]
      have e17 : M13 (t + 17) i = upd R q (nI m) i := by rw [e13, mu_row (by omega), e12', sr_s]
      rw [e17]
      by_cases i1 : i < q
      · obtain ⟨g, g1, g2⟩ := h1 i i1
        rw [if_pos i1, upd_o (by omega)]
        exact ⟨g, g1, g2⟩
      · by_cases i2 : i = q
        · subst i2
          rw [if_neg i1, if_pos rfl, upd_s]
          exact ⟨m, rfl, rfl⟩
        · obtain ⟨g, g1, g2, -⟩ := h2 (i - 1) (by omega) (by omega)
          rw [if_neg i1, if_neg i2, upd_o i2]
          rw [show i - 1 + 1 = i by omega] at g2
          exact ⟨g, g1, g2⟩
    · by_cases k10 : k = 10
      · omega
      · rw [ke _ (by omega) (by omega), fr _ (by omega)]
    · rw [ke a (by omega) (by omega), fr a (by omega)]
  have em1 : ∀ i, nI (i + 1) + -1 = nI i := by
    intro i
    rw [← nI_1, Int32.add_assoc]
    show nI i + (1 + -1) = nI i
    rw [show (1 : Int32) + -1 = 0 by decide, Int32.add_zero]
  have key := pk_loopD (fun q i (R : SS) => lX1_add_45 Post q (sr M5 (t + 17) R) (t + 10) r (nI m) (nI i)) (fun i R => i ≤ m ∧ (∀ j, j < i → ∃ g, (ord S m)[j]? = some g ∧ R j = nI g) ∧ (∀ j, i ≤ j → j < m → ∃ g, (ord S m)[j]? = some g ∧ R (j + 1) = nI g ∧ r < fi S g 3)) ?_ ?_ m (M5 (t + 17)) ⟨Nat.le_refl _, fun j hj => ?_, fun j j1 j2 => absurd j2 (by omega)⟩
  · rw [sr_self] at key
    exact ⟨m + 1, key⟩
  · rintro q R ⟨h0, h1, h2⟩
    exact ⟨fun _ => put 0 R h0 h1 h2 (fun g z => absurd z (by omega)), fun z => absurd (show nI 0 ≤ 0 by decide) z⟩
  · rintro q i R ⟨h0, h1, h2⟩ ih
    obtain ⟨g, g1, g2⟩ := h1 i (by omega)
    have hgm := ord_mem.mp (List.mem_of_getElem? g1)
    have er17 : sr M5 (t + 17) R (t + 10 + 7) i = nI g := by
      show sr M5 (t + 17) R (t + 17) i = _
      rw [sr_s, g2]
    have er14 : sr M5 (t + 17) R (t + 10 + 4) g = fi S g 3 := by
      show sr M5 (t + 17) R (t + 14) g = _
      rw [sr_o (by omega), r4, upd_o (by omega)]
      exact hT.rd (k := 14) (j := g) (i := 82 + 7 * g + 3) (Or.inr (Or.inr (Or.inr (Or.inl ⟨by omega, by omega, hgm, by omega⟩))))
    have vi : vp_in (nI (i + 1) - 1) 10 := by rw [nI_m1]; exact vp_in_nI (by omega) (by omega)
    refine ⟨fun z => absurd z (nI_nle (by omega) (by omega)), fun _ => ⟨vi, ?_, ?_⟩⟩
    · rw [nI_m1, ixn (by omega), er17]
      exact vp_in_nI (by omega) (by omega)
    · rw [nI_m1, ixn (by omega), er17, ixn (by omega), er14]
      refine ⟨fun d3 => put (i + 1) R h0 h1 h2 (fun g' _ hg' => ?_), fun d3 => ⟨vp_in_nI (by omega) (by omega), vp_in_nI (by omega) (by omega), fun M10 e10 x6 e6 => ?_⟩⟩
      · rw [Nat.add_sub_cancel, g1] at hg'
        cases hg'
        exact Int32.not_lt.mpr d3
      · rw [e6, em1]
        have e : M10 = sr M5 (t + 17) (upd R (i + 1) (nI g)) := by
          rw [e10, ixn (by omega)]
          show mu (sr M5 (t + 17) R) (t + 17) (i + 1) _ = _
          rw [mu_sr, sr_sr, sr_s]
        rw [e]
        refine ih _ ⟨by omega, fun j hj => ?_, fun j j1 j2 => ?_⟩
        · rw [upd_o (by omega)]
          exact h1 j (by omega)
        · by_cases e : j = i
          · subst e
            rw [upd_s]
            exact ⟨g, g1, rfl, Int32.not_le.mp d3⟩
          · rw [upd_o (by omega)]
            exact h2 j (by omega) j2
  · rw [fr _ (by omega)]
    exact hT.2.2.2.2.2.2.1 j hj
theorem sp6_field {Post : Mm → Int32 → Prop} {M : Mm} {P : Nat → Nat} {S : SS} {n m tt s : Nat} {p k w v : Int32} (hp : HP M P) (hs : M 47 0 = nI s) (h4 : s ≤ 4) (hT : TR M 1 S n m tt) (hw : Wf S n m tt)
    (h : ∀ M' m', m' = (if (fldF S n m p k w v).2 ≤ -1000001 then m else m + 1) → CA M M' P s S (fldF S n m p k w v).1 n m tt n m' tt (fldF S n m p k w v).2 → Post M' (fldF S n m p k w v).2) : wX6_field Post M 0 p k w v := by
  have h8 := hw.2.2.2.1.2
  have h10 := hw.2.2.2.2.1
  have bad : ¬ (inr 0 n p = true ∧ inr 1 1000 k = true ∧ inr 1 201 w = true ∧ inr 0 100 v = true) → Post M (-1000001) := by
    intro z
    have hF : fldF S n m p k w v = (S, -1000001) := by unfold fldF; rw [if_neg z]
    rw [hF] at h
    exact h M m (by rw [if_pos (show (-1000001 : Int32) ≤ -1000001 by decide)]) (CA_none hT hp (show (-1000001 : Int32) ≤ -1000001 by decide))
  have tr : ∀ {a b : Nat} {x : Int32}, b2i (!inr a b x) = 0 → inr a b x = true := by
    intro a b x e
    have := b2i_0.mp e
    cases hh : inr a b x
    · rw [hh] at this; cases this
    · rfl
  have fl : ∀ {a b : Nat} {x : Int32}, ¬ b2i (!inr a b x) = 0 → ¬ inr a b x = true := fun e z => by rw [z] at e; exact e rfl
  refine sp0_has (t := 1) hT h8 ⟨fun d => bad (by rw [b2i_0.mp d]; rintro ⟨z, -⟩; cases z), fun d => sp6_isOutside (a := 1) (b := 1000) (by decide) (by decide) ⟨fun d2 => bad (fun z => fl d2 z.2.1), fun d2 => sp6_isOutside (a := 1) (b := 201) (by decide) (by decide) ⟨fun d3 => bad (fun z => fl d3 z.2.2.1), fun d3 => sp6_isOutside (a := 0) (b := 100) (by decide) (by decide) ⟨fun d4 => ?_, fun d4 => bad (fun z => fl d4 z.2.2.2)⟩⟩⟩⟩
  have gg : inr 0 n p = true ∧ inr 1 1000 k = true ∧ inr 1 201 w = true ∧ inr 0 100 v = true := ⟨b2i_1.mp ((b2i_01 _).resolve_left d), tr d2, tr d3, tr d4⟩
  have e0 : M (0 + 1 + 10) 0 = nI m := hT.2.2.2.1
  rw [e0]
  refine ⟨fun c => ?_, fun c => ?_⟩
  · have hlt : m < 10 := (nI_ltI (by omega) (by omega)).mp c
    have hF : fldF S n m p k w v = (fdS S m p k w v, nI m) := by unfold fldF; rw [if_pos gg, if_neg (by omega)]
    rw [hF] at h
    refine sp_rec hp hs h4 hT hw (fun M1 hT1 h141 mk => sp1_add (t := 1) hT1 h8 hlt (fun M2 hT2 hfr => ?_))
    refine h M2 (m + 1) ?_ (mk M2 _ _ _ _ _ hT2 (fun a ha => hfr a (by omega)) (nI_not (by omega)))
    show _ = if nI m ≤ -1000001 then _ else _
    rw [if_neg (nI_not (by omega))]
  · have : m = 10 := by
      have : ¬ m < 10 := fun z => c (nI_lt (b := 10) z (by decide))
      omega
    have hF : fldF S n m p k w v = (S, -1000003) := by unfold fldF; rw [if_pos gg, if_pos this]
    rw [hF] at h
    exact h M m (by rw [if_pos (show (-1000003 : Int32) ≤ -1000001 by decide)]) (CA_none hT hp (show (-1000003 : Int32) ≤ -1000001 by decide))
