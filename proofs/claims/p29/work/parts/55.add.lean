/-! the class: a canal added -/
theorem cnS_o {S : SS} {n i : Nat} {p k w s : Int32} (h0 : i ≠ 0) (hi : i < 10 + 9 * n ∨ 19 + 9 * n ≤ i) : cnS S n p k w s i = S i := by
  unfold cnS
  rw [upd_o h0, upd_o (by omega), upd_o (by omega), upd_o (by omega), upd_o (by omega), upd_o (by omega), zr_o 9 (by omega)]
theorem cnS_s {S : SS} {n : Nat} {p k w s : Int32} : ca (cnS S n p k w s) n 0 = p ∧ ca (cnS S n p k w s) n 1 = k ∧ ca (cnS S n p k w s) n 2 = w ∧ ca (cnS S n p k w s) n 3 = s ∧ ca (cnS S n p k w s) n 4 = 0 ∧ ca (cnS S n p k w s) n 5 = -1 ∧ ca (cnS S n p k w s) n 6 = 0 ∧ ca (cnS S n p k w s) n 7 = 0 ∧ ca (cnS S n p k w s) n 8 = 0 := by
  unfold cnS ca
  refine ⟨?_, ?_, ?_, ?_, ?_, ?_, ?_, ?_, ?_⟩
  · rw [upd_o (by omega), upd_o (by omega), upd_o (by omega), upd_o (by omega), upd_o (by omega), show 10 + 9 * n + 0 = 10 + 9 * n by omega, upd_s]
  · rw [upd_o (by omega), upd_o (by omega), upd_o (by omega), upd_o (by omega), show 10 + 9 * n + 1 = 11 + 9 * n by omega, upd_s]
  · rw [upd_o (by omega), upd_o (by omega), upd_o (by omega), show 10 + 9 * n + 2 = 12 + 9 * n by omega, upd_s]
  · rw [upd_o (by omega), upd_o (by omega), show 10 + 9 * n + 3 = 13 + 9 * n by omega, upd_s]
  · rw [upd_o (by omega), upd_o (by omega), upd_o (by omega), upd_o (by omega), upd_o (by omega), upd_o (by omega), zr_s 9 (by omega) (by omega)]
  · rw [upd_o (by omega), show 10 + 9 * n + 5 = 15 + 9 * n by omega, upd_s]
  · rw [upd_o (by omega), upd_o (by omega), upd_o (by omega), upd_o (by omega), upd_o (by omega), upd_o (by omega), zr_s 9 (by omega) (by omega)]
  · rw [upd_o (by omega), upd_o (by omega), upd_o (by omega), upd_o (by omega), upd_o (by omega), upd_o (by omega), zr_s 9 (by omega) (by omega)]
  · rw [upd_o (by omega), upd_o (by omega), upd_o (by omega), upd_o (by omega), upd_o (by omega), upd_o (by omega), zr_s 9 (by omega) (by omega)]
theorem mp_n {n m tt k j i : Nat} (h8 : n < 8) (hm : mp (n + 1) m tt k j i) : (mp n m tt k j i ∧ i ≠ 0 ∧ (i < 10 + 9 * n ∨ 19 + 9 * n ≤ i) ∧ ¬ (2 ≤ k ∧ k ≤ 9 ∧ j = n)) ∨ (2 ≤ k ∧ k ≤ 5 ∧ j = n ∧ i + 2 = 10 + 9 * n + k) ∨ (6 ≤ k ∧ k ≤ 9 ∧ j = n ∧ i + 1 = 10 + 9 * n + k) := by
  unfold mp at hm
  rcases hm with h | h | h | h | h | h | h | h
  · exact Or.inl ⟨Or.inl h, by omega, by omega, by omega⟩
  · by_cases e : j = n
    · exact Or.inr (Or.inl (by omega))
    · exact Or.inl ⟨Or.inr (Or.inl (by omega)), by omega, by omega, by omega⟩
  · by_cases e : j = n
    · exact Or.inr (Or.inr (by omega))
    · exact Or.inl ⟨Or.inr (Or.inr (Or.inl (by omega))), by omega, by omega, by omega⟩
  · exact Or.inl ⟨Or.inr (Or.inr (Or.inr (Or.inl h))), by omega, by omega, by omega⟩
  · exact Or.inl ⟨Or.inr (Or.inr (Or.inr (Or.inr (Or.inl h)))), by omega, by omega, by omega⟩
  · exact Or.inl ⟨Or.inr (Or.inr (Or.inr (Or.inr (Or.inr (Or.inl h))))), by omega, by omega, by omega⟩
  · exact Or.inl ⟨Or.inr (Or.inr (Or.inr (Or.inr (Or.inr (Or.inr (Or.inl h)))))), by omega, by omega, by omega⟩
  · exact Or.inl ⟨Or.inr (Or.inr (Or.inr (Or.inr (Or.inr (Or.inr (Or.inr h)))))), by omega, by omega, by omega⟩
theorem sp0_add {Post : Mm → Int32 → Prop} {M : Mm} {t : Nat} {S : SS} {n m tt : Nat} {p k w s : Int32} (hT : TR M t S n m tt) (h8 : n < 8) (h10 : m ≤ 10)
    (hP : ∀ M', TR M' t (cnS S n p k w s) (n + 1) m tt → (∀ a, (a < t + 1 ∨ t + 6 ≤ a) → M' a = M a) → Post M' (nI n)) : wX0_add Post M (t + 1) p k w s := by
  have vn : vp_in (nI n) 8 := vp_in_nI h8 (by omega)
  intro x5 e5
  rw [hT.2.1] at e5
  subst e5
  refine ⟨vn, fun M2 e2 => ⟨vn, fun M3 e3 => ⟨vn, fun M4 e4 => ⟨vn, fun M5 e5 M6 e6 => ?_⟩⟩⟩⟩
  rw [ixn (by omega)] at e2 e3 e4 e5
  have z5 : M5 (t + 1) 0 = nI n := by rw [e5, mu_row (by omega), e4, mu_row (by omega), e3, mu_row (by omega), e2, mu_row (by omega), hT.2.1]
  rw [z5, nI_1] at e6
  have r1 : M6 (t + 1) = upd (M (t + 1)) 0 (nI (n + 1)) := by
    rw [e6, mu_s, e5, mu_row (by omega), e4, mu_row (by omega), e3, mu_row (by omega), e2, mu_row (by omega)]
  have r2 : M6 (t + 2) = upd (M (t + 2)) n p := by
    rw [e6, mu_row (by omega), e5, mu_row (by omega), e4, mu_row (by omega), e3, mu_row (by omega), e2]
    exact mu_s
  have r3 : M6 (t + 3) = upd (M (t + 3)) n k := by
    rw [e6, mu_row (by omega), e5, mu_row (by omega), e4, mu_row (by omega), e3]
    show mu M2 (t + 3) n k (t + 3) = _
    rw [mu_s, e2, mu_row (by omega)]
  have r4 : M6 (t + 4) = upd (M (t + 4)) n w := by
    rw [e6, mu_row (by omega), e5, mu_row (by omega), e4]
    show mu M3 (t + 4) n w (t + 4) = _
    rw [mu_s, e3, mu_row (by omega), e2, mu_row (by omega)]
  have r5 : M6 (t + 5) = upd (M (t + 5)) n s := by
    rw [e6, mu_row (by omega), e5]
    show mu M4 (t + 5) n s (t + 5) = _
    rw [mu_s, e4, mu_row (by omega), e3, mu_row (by omega), e2, mu_row (by omega)]
  have fr : ∀ a, (a < t + 1 ∨ t + 6 ≤ a) → M6 a = M a := fun a ha => by
    rw [e6, mu_row (by omega), e5, mu_row (by omega), e4, mu_row (by omega), e3, mu_row (by omega), e2, mu_row (by omega)]
  clear e2 e3 e4 e5 e6 z5
  refine hP M6 ?_ fr
  obtain ⟨a, b, c, d, e, f, g, x, y⟩ := hT
  obtain ⟨x1, x2, x3, x4⟩ := x n (Nat.le_refl _) h8
  obtain ⟨s0, s1, s2, s3, s4, s5, s6, s7, s8⟩ := cnS_s (S := S) (n := n) (p := p) (k := k) (w := w) (s := s)
  have el : ∀ q j, j ≠ n → 2 ≤ q → M6 (t + q) j = M (t + q) j := by
    intro q j hj hq
    by_cases h2 : q = 2
    · subst h2; rw [r2, upd_o hj]
    · by_cases h3 : q = 3
      · subst h3; rw [r3, upd_o hj]
      · by_cases h4 : q = 4
        · subst h4; rw [r4, upd_o hj]
        · by_cases h5 : q = 5
          · subst h5; rw [r5, upd_o hj]
          · rw [fr _ (by omega)]
  refine ⟨fun q j i hm => ?_, by rw [r1, upd_s], ?_, by rw [fr _ (by omega), d], ?_, by rw [fr _ (by omega), f], fun i hi => ?_, fun i h1 h2 => ?_, fun i h1 h2 => ?_⟩
  · rcases mp_n h8 hm with ⟨hm', i0, hi, hq⟩ | ⟨q2, q5, hj, hi⟩ | ⟨q6, q9, hj, hi⟩
    · rw [cnS_o i0 hi, ← a q j i hm']
      by_cases q2 : 2 ≤ q
      · by_cases q5 : q ≤ 5
        · exact el q j (by omega) q2
        · rw [fr _ (by omega)]
      · have : q = 0 := by
          unfold mp at hm'
          omega
        subst this
        rw [fr _ (by omega)]
    · subst hj
      have hq : q = 2 ∨ q = 3 ∨ q = 4 ∨ q = 5 := by omega
      rcases hq with z | z | z | z
      · subst z; rw [r2, upd_s, show i = 10 + 9 * j + 0 by omega]; exact s0.symm
      · subst z; rw [r3, upd_s, show i = 10 + 9 * j + 1 by omega]; exact s1.symm
      · subst z; rw [r4, upd_s, show i = 10 + 9 * j + 2 by omega]; exact s2.symm
      · subst z; rw [r5, upd_s, show i = 10 + 9 * j + 3 by omega]; exact s3.symm
    · subst hj
      have hq : q = 6 ∨ q = 7 ∨ q = 8 ∨ q = 9 := by omega
      rw [fr _ (by omega)]
      rcases hq with z | z | z | z
      · subst z; rw [x1, show i = 10 + 9 * j + 5 by omega]; exact s5.symm
      · subst z; rw [x2, show i = 10 + 9 * j + 6 by omega]; exact s6.symm
      · subst z; rw [x3, show i = 10 + 9 * j + 7 by omega]; exact s7.symm
      · subst z; rw [x4, show i = 10 + 9 * j + 8 by omega]; exact s8.symm
  · rw [r1, upd_o (by omega), c, ofB_succ, if_neg]
    · refine ofB_congr n (fun g hg => ?_)
      unfold opn ca
      rw [cnS_o (by omega) (by omega)]
    · unfold opn
      rw [s4]; decide
  · rw [fr _ (by omega), e]
    refine ofB_congr m (fun g hg => ?_)
    unfold cls fi
    rw [cnS_o (by omega) (by omega)]
  · rw [fr _ (by omega), ord_congr (S := S) (S' := cnS S n p k w s) (fun f => cnS_o (by omega) (by omega))]
    exact g i hi
  · rw [fr _ (by omega), fr _ (by omega), fr _ (by omega), fr _ (by omega)]
    exact x i (by omega) h2
  · rw [fr _ (by omega), fr _ (by omega)]
    exact y i h1 h2
theorem sp6_canal {Post : Mm → Int32 → Prop} {M : Mm} {P : Nat → Nat} {S : SS} {n m tt s : Nat} {p k w v : Int32} (hp : HP M P) (hs : M 47 0 = nI s) (h4 : s ≤ 4) (hT : TR M 1 S n m tt) (hw : Wf S n m tt)
    (h : ∀ M' n', n' = (if (canF S n p k w v).2 ≤ -1000001 then n else n + 1) → CA M M' P s S (canF S n p k w v).1 n m tt n' m tt (canF S n p k w v).2 → Post M' (canF S n p k w v).2) : wX6_canal Post M 0 p k w v := by
  have h8 := hw.2.2.2.1.2
  have h10 := hw.2.2.2.2.1
  have bad : ¬ (inr 0 n p = true ∧ inr 0 3 k = true ∧ inr 1 501 w = true ∧ inr 0 501 v = true) → Post M (-1000001) := by
    intro z
    have hF : canF S n p k w v = (S, -1000001) := by unfold canF; rw [if_neg z]
    rw [hF] at h
    exact h M n (by rw [if_pos (show (-1000001 : Int32) ≤ -1000001 by decide)]) (CA_none hT hp (show (-1000001 : Int32) ≤ -1000001 by decide))
  have tr : ∀ {a b : Nat} {x : Int32}, b2i (!inr a b x) = 0 → inr a b x = true := by
    intro a b x e
    have := b2i_0.mp e
    cases hh : inr a b x
    · rw [hh] at this; cases this
    · rfl
  have fl : ∀ {a b : Nat} {x : Int32}, ¬ b2i (!inr a b x) = 0 → ¬ inr a b x = true := fun e z => by rw [z] at e; exact e rfl
  refine sp0_has (t := 1) hT h8 ⟨fun d => bad (by rw [b2i_0.mp d]; rintro ⟨z, -⟩; cases z), fun d => sp6_isOutside (a := 0) (b := 3) (by decide) (by decide) ⟨fun d2 => bad (fun z => fl d2 z.2.1), fun d2 => sp6_isOutside (a := 1) (b := 501) (by decide) (by decide) ⟨fun d3 => bad (fun z => fl d3 z.2.2.1), fun d3 => sp6_isOutside (a := 0) (b := 501) (by decide) (by decide) ⟨fun d4 => ?_, fun d4 => bad (fun z => fl d4 z.2.2.2)⟩⟩⟩⟩
  have gg : inr 0 n p = true ∧ inr 0 3 k = true ∧ inr 1 501 w = true ∧ inr 0 501 v = true := ⟨b2i_1.mp ((b2i_01 _).resolve_left d), tr d2, tr d3, tr d4⟩
  have e0 : M (0 + 1 + 1) 0 = nI n := hT.2.1
  rw [e0]
  refine ⟨fun c => ?_, fun c => ?_⟩
  · have hlt : n < 8 := (nI_ltI (by omega) (by omega)).mp c
    have hF : canF S n p k w v = (cnS S n p k w v, nI n) := by unfold canF; rw [if_pos gg, if_neg (by omega)]
    rw [hF] at h
    refine sp_rec hp hs h4 hT hw (fun M1 hT1 h141 mk => sp0_add (t := 1) hT1 hlt h10 (fun M2 hT2 hfr => ?_))
    refine h M2 (n + 1) ?_ (mk M2 _ _ _ _ _ hT2 (fun a ha => hfr a (by omega)) (nI_not (by omega)))
    show _ = if nI n ≤ -1000001 then _ else _
    rw [if_neg (nI_not (by omega))]
  · have : n = 8 := by
      have : ¬ n < 8 := fun z => c (nI_lt (b := 8) z (by decide))
      omega
    have hF : canF S n p k w v = (S, -1000003) := by unfold canF; rw [if_pos gg, if_pos this]
    rw [hF] at h
    exact h M n (by rw [if_pos (show (-1000003 : Int32) ≤ -1000001 by decide)]) (CA_none hT hp (show (-1000003 : Int32) ≤ -1000001 by decide))
