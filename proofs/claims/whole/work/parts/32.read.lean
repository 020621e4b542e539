/-! the reference: rights in their order, orders read -/
theorem rm_mem {S : SS} {m f : Nat} {x : Int32} {l : List Nat} (hm10 : m ≤ 10) (hs : (f :: l).Pairwise (bef S)) (hm : ∀ g, g ∈ f :: l ↔ (g < m ∧ bt x g = true)) : ∀ g, g ∈ l ↔ (g < m ∧ bt (x &&& (((1 : Int32) <<< (nI f &&& 31)) ^^^ (-1 : Int32))) g = true) := by
  have hf := (hm f).mp List.mem_cons_self
  have hb' : ∀ k, k < 32 → bt (x &&& (((1 : Int32) <<< (nI f &&& 31)) ^^^ (-1 : Int32))) k = (bt x k && !decide (k = f)) := fun k hk => by
    rw [b_and, bt_not _ hk, bt_shl1 (by omega) hk]
  intro g
  have hnf : f ∉ l := fun hz => by
    have := (List.pairwise_cons.mp hs).1 f hz
    exact bef_asymm this this
  constructor
  · intro hg
    have a := (hm g).mp (List.mem_cons_of_mem _ hg)
    have hne : g ≠ f := fun z => hnf (z ▸ hg)
    exact ⟨a.1, by rw [hb' g (by omega), a.2, decide_eq_false hne]; rfl⟩
  · rintro ⟨a, b⟩
    rw [hb' g (by omega), Bool.and_eq_true] at b
    have hne : g ≠ f := by
      intro z
      rw [decide_eq_true z] at b
      cases b.2
    rcases List.mem_cons.mp ((hm g).mpr ⟨a, b.1⟩) with e | e
    · exact absurd e hne
    · exact e
theorem right_loop {Post : Mm → Int32 → Prop} {M : Mm} {m p : Nat} (w1 : M 144 1 = nI m) (hm10 : m ≤ 10) (hp : p < 2147483647) : ∀ (l : List Nat) (x : Int32) (k : Nat), l.Pairwise (bef (M 144)) → (∀ f, f ∈ l ↔ (f < m ∧ bt x f = true)) → k ≤ p → Post M (o2n l[p - k]?) → ∃ q : Nat, lX7_rightAt_54 Post q M 143 (nI p) x (o2i (nx (M 144) x m)) (nI k) := by
  intro l
  induction l with
  | nil =>
    intro x k hs hm hk h
    rw [nx_head hs hm]
    have h' : Post M (-1000004) := h
    exact ⟨1, fun _ => ⟨fun c => absurd c (by decide), fun _ => h'⟩, fun _ => ⟨fun _ => ⟨fun c => absurd c (by decide), fun _ => h'⟩, fun c => absurd (by decide) c⟩⟩
  | cons f l ih =>
    intro x k hs hm hk h
    have hf := (hm f).mp List.mem_cons_self
    rw [nx_head hs hm]
    show ∃ q : Nat, lX7_rightAt_54 Post q M 143 (nI p) x (nI f) (nI k)
    by_cases e : k = p
    · subst e
      rw [Nat.sub_self] at h
      have h' : Post M (nI f) := h
      exact ⟨1, fun _ => ⟨fun _ => h', fun c => absurd (nI_le (a := 0) (Nat.zero_le _) (by omega)) c⟩, fun c => absurd (nI_le (Nat.le_refl _) (by omega)) c⟩
    · have h2 : (f :: l)[p - k]? = l[p - (k + 1)]? := by
        rw [show p - k = (p - (k + 1)) + 1 by omega]
        rfl
      rw [h2] at h
      obtain ⟨q, hq⟩ := ih (x &&& (((1 : Int32) <<< (nI f &&& 31)) ^^^ (-1 : Int32))) (k + 1) (List.pairwise_cons.mp hs).2 (rm_mem hm10 hs hm) (by omega) h
      refine ⟨q + 1, fun c => absurd c (nI_ge (by omega) (by omega)), fun _ => ⟨fun c => absurd c (nI_pos (by omega)), fun _ x2 e2 => sp7_next w1 hm10 (fun x4 e4 => ?_)⟩⟩
      rw [e4, nI_1, e2]
      exact hq
def rtF (S : SS) (m : Nat) (x : Int32) : Int32 := if 0 ≤ x then o2n ((ord S m).filter (wt S))[ix x]? else -1000001
theorem i_ge0 {x : Int32} (h : 0 ≤ x) : ∃ p : Nat, p < 2147483648 ∧ x = nI p := by
  have h2 : (0 : Int32).toInt ≤ x.toInt := i_le.mp h
  have h3 : (0 : Int32).toInt = 0 := by decide
  have := i_rng x
  exact ⟨x.toInt.toNat, by omega, i_of (by omega)⟩
theorem sp7_rightAt {Post : Mm → Int32 → Prop} {M : Mm} {n m t : Nat} {x : Int32} (hw : Wf (M 144) n m t) (h : Post M (rtF (M 144) m x)) : wX7_rightAt Post M 143 x := by
  have w1 := hw.2.1
  have w5 := hw.2.2.2.2.1
  refine ⟨fun d => ?_, fun d => ?_⟩
  · unfold rtF at h
    rw [if_pos d] at h
    obtain ⟨p, hp, ep⟩ := i_ge0 d
    subst ep
    rw [ixn hp] at h
    have fin : ∃ q : Nat, lX7_rightAt_54 Post q M 143 (nI p) (ofB (wt (M 144)) m) (o2i (nx (M 144) (ofB (wt (M 144)) m) m)) (nI 0) := by
      have hs : ((ord (M 144) m).filter (wt (M 144))).Pairwise (bef (M 144)) := ord_sorted.filter _
      have hm : ∀ f, f ∈ (ord (M 144) m).filter (wt (M 144)) ↔ (f < m ∧ bt (ofB (wt (M 144)) m) f = true) := by
        intro f
        rw [List.mem_filter, ord_mem]
        constructor
        · rintro ⟨a, b⟩
          exact ⟨a, by rw [ofB_bt m (by omega) f (by omega), decide_eq_true a, b]; rfl⟩
        · rintro ⟨a, b⟩
          rw [ofB_bt m (by omega) f (by omega), decide_eq_true a] at b
          exact ⟨a, by simpa using b⟩
      by_cases hp2 : p < 2147483647
      · exact right_loop w1 w5 hp2 _ _ 0 hs hm (Nat.zero_le _) h
      · -- a place as far as that: there is no field
        have hlen : ((ord (M 144) m).filter (wt (M 144))).length ≤ 10 := by
          refine Nat.le_trans (List.length_filter_le _ _) ?_
          have : ∀ i, (ord (M 144) i).length = i := by
            have hi : ∀ (f : Nat) (l : List Nat), (ins (M 144) f l).length = l.length + 1 := by
              intro f l
              induction l with
              | nil => rfl
              | cons a l ih =>
                unfold ins
                split
                · rfl
                · simp [ih]
            intro i
            induction i with
            | zero => rfl
            | succ i ih => unfold ord; rw [hi, ih]
          rw [this]; exact w5
        have hnone : ((ord (M 144) m).filter (wt (M 144)))[p]? = none := List.getElem?_eq_none (by omega)
        have h' : Post M (o2n (((ord (M 144) m).filter (wt (M 144)))[(2147483646 : Nat)]?)) := by
          rw [List.getElem?_eq_none (by omega)]
          rw [hnone] at h
          exact h
        -- the loop's end differs only in a place that is not reached
        have gen : ∀ (l : List Nat) (x : Int32) (k : Nat), l.length + k ≤ 100 → l.Pairwise (bef (M 144)) → (∀ f, f ∈ l ↔ (f < m ∧ bt x f = true)) → Post M (-1000004) → ∃ q : Nat, lX7_rightAt_54 Post q M 143 (nI p) x (o2i (nx (M 144) x m)) (nI k) := by
          intro l
          induction l with
          | nil =>
            intro x k hk hs hm h
            rw [nx_head hs hm]
            exact ⟨1, fun _ => ⟨fun c => absurd c (by decide), fun _ => h⟩, fun _ => ⟨fun _ => ⟨fun c => absurd c (by decide), fun _ => h⟩, fun c => absurd (by decide) c⟩⟩
          | cons f l ih =>
            intro x k hk hs hm h
            have hf := (hm f).mp List.mem_cons_self
            rw [nx_head hs hm]
            show ∃ q : Nat, lX7_rightAt_54 Post q M 143 (nI p) x (nI f) (nI k)
            have hk2 : (f :: l).length = l.length + 1 := rfl
            obtain ⟨q, hq⟩ := ih (x &&& (((1 : Int32) <<< (nI f &&& 31)) ^^^ (-1 : Int32))) (k + 1) (by omega) (List.pairwise_cons.mp hs).2 (rm_mem w5 hs hm) h
            refine ⟨q + 1, fun c => absurd c (nI_ge (by omega) (by omega)), fun _ => ⟨fun c => absurd c (nI_pos (by omega)), fun _ x2 e2 => sp7_next w1 w5 (fun x4 e4 => ?_)⟩⟩
            rw [e4, nI_1, e2]
            exact hq
        rw [hnone] at h
        exact gen _ _ 0 (by omega) hs hm h
    show ∃ q : Nat, lX7_rightAt_11 Post q M 143 (nI p) 0 (nI 0)
    refine pk_loop (fun q i (y : Int32) => lX7_rightAt_11 Post q M 143 (nI p) y (nI i)) (fun i y => y = ofB (wt (M 144)) i) m 0 0 (Nat.zero_le _) rfl ?_ ?_
    · intro q y e
      subst e
      refine ⟨fun _ => sp7_next w1 w5 fin, fun z => absurd ?_ z⟩
      show M 144 1 ≤ nI m
      rw [w1]; exact nI_le (Nat.le_refl _) (by omega)
    · intro q i y hi e ih
      subst e
      refine ⟨fun z => absurd z ?_, fun _ => sp7_wants (f := i) rfl (by omega) ⟨fun d x2 e2 x3 e3 => ?_, fun d x2 e2 x3 e3 => ?_⟩⟩
      · show ¬ M 144 1 ≤ nI i
        rw [w1]; exact nI_ge hi (by omega)
      · rw [e3, nI_1, e2, or_0]
        refine ih _ ?_
        rw [ofB_succ, b2i_0.mp d, if_neg (by decide)]
      · rw [e3, nI_1, e2]
        refine ih _ ?_
        rw [ofB_succ, b2i_1.mp ((b2i_01 _).resolve_left d), if_pos rfl]
  · unfold rtF at h
    rw [if_neg d] at h
    exact h
/-- the text's signs -/
def sgn (T : SS) (L p : Nat) : Int32 := if p < L then T p else -1
theorem sp7_sign {Post : Mm → Int32 → Prop} {M : Mm} {L p : Nat} (hL : M 143 6 = nI L) (hp : M 143 7 = nI p) (h60 : L ≤ 60) (hpl : p ≤ L) (h : Post M (sgn (M 148) L p)) : wX7_sign Post M 143 := by
  unfold wX7_sign
  rw [hL, hp]
  unfold sgn at h
  refine ⟨fun c => ?_, fun c => ⟨?_, ?_⟩⟩
  · have : ¬ p < L := fun z => absurd c (nI_ge z (by omega))
    rw [if_neg this] at h
    exact h
  · have : p < L := Nat.lt_of_not_le (fun z => c (nI_le z (by omega)))
    exact vp_in_nI (by omega) (by omega)
  · have : p < L := Nat.lt_of_not_le (fun z => c (nI_le z (by omega)))
    rw [if_pos this] at h
    rw [ixn (by omega)]
    exact h
def rdN (T : SS) (L : Nat) : Nat → Nat → Int32 → Nat × Int32
  | 0, p, v => (p, v)
  | f + 1, p, v => if inr 48 58 (sgn T L p) = true then rdN T L f (p + 1) (10 * v + sgn T L p - 48) else (p, v)
theorem dig_lt {T : SS} {L p : Nat} (h : inr 48 58 (sgn T L p) = true) : p < L := by
  refine Decidable.byContradiction (fun z => ?_)
  unfold sgn at h
  rw [if_neg z] at h
  exact absurd h (by decide)
theorem rdN_le {T : SS} {L : Nat} : ∀ f p v, p ≤ L → p ≤ (rdN T L f p v).1 ∧ (rdN T L f p v).1 ≤ L ∧ (rdN T L f p v).1 ≤ p + f := by
  intro f
  induction f with
  | zero => intro p v h; exact ⟨Nat.le_refl _, h, Nat.le_refl _⟩
  | succ f ih =>
    intro p v h
    unfold rdN
    by_cases hd : inr 48 58 (sgn T L p) = true
    · rw [if_pos hd]
      have := ih (p + 1) (10 * v + sgn T L p - 48) (by have := dig_lt hd; omega)
      omega
    · rw [if_neg hd]
      exact ⟨Nat.le_refl _, h, by show p ≤ p + (f + 1); omega⟩
/-- the memory while a text is read -/
def gm (M : Mm) (H N : SS) : Mm := fun a => if a = 143 then H else if a = 149 then N else M a
theorem gm_h {M : Mm} {H N : SS} : gm M H N 143 = H := by simp [gm]
theorem gm_n {M : Mm} {H N : SS} : gm M H N 149 = N := by simp [gm]
theorem gm_o {M : Mm} {H N : SS} {a : Nat} (h1 : a ≠ 143) (h2 : a ≠ 149) : gm M H N a = M a := by simp [gm, h1, h2]
theorem gm_self {M : Mm} : gm M (M 143) (M 149) = M := by
  funext a
  by_cases h : a = 143
  · subst h; exact gm_h
  · by_cases h2 : a = 149
    · subst h2; exact gm_n
    · exact gm_o h h2
theorem mu_gh {M : Mm} {H N : SS} {k : Nat} {v : Int32} : mu (gm M H N) 143 k v = gm M (upd H k v) N := by
  rw [mu_sr]
  funext a
  by_cases h : a = 143
  · subst h; rw [sr_s, gm_h, gm_h]
  · rw [sr_o h]; unfold gm; rw [if_neg h, if_neg h]
theorem mu_gn {M : Mm} {H N : SS} {k : Nat} {v : Int32} : mu (gm M H N) 149 k v = gm M H (upd N k v) := by
  rw [mu_sr]
  funext a
  by_cases h : a = 149
  · subst h; rw [sr_s, gm_n, gm_n]
  · rw [sr_o h]; unfold gm; rw [if_neg h, if_neg h]
theorem sp7_readsNumber {Post : Mm → Int32 → Prop} {M : Mm} {H N : SS} {L p c : Nat} (hL : H 6 = nI L) (hp : H 7 = nI p) (hc : H 9 = nI c) (hc2 : c < 2) (h60 : L ≤ 60) (hpl : p ≤ L)
    (h : ∀ H', H' 7 = nI (rdN (M 148) L 3 p 0).1 → H' 9 = nI (c + 1) → (∀ k, k ≠ 7 → k ≠ 9 → H' k = H k) → Post (gm M H' (upd N c (rdN (M 148) L 3 p 0).2)) (b2i (decide (p < (rdN (M 148) L 3 p 0).1)))) : wX7_readsNumber Post (gm M H N) 143 := by
  intro x1 e1
  rw [gm_h, hp] at e1
  subst e1
  -- what is behind the last digit
  have key : ∀ (f q : Nat) (v : Int32) (H1 : SS), q + f = p + 3 → p ≤ q → q ≤ L → H1 7 = nI q → (∀ k, k ≠ 7 → k ≠ 9 → H1 k = H k) → H1 9 = nI c → rdN (M 148) L f q v = rdN (M 148) L 3 p 0 → lX7_readsNumber_7 Post (f + 1) (gm M H1 N) 143 (nI p) v := by
    intro f
    induction f with
    | zero =>
      intro q v H1 hq hpq hqL h7 hk h9 er
      have e57 : bX7_readsNumber_57 Post (gm M H1 N) 143 (nI p) v := by
        unfold bX7_readsNumber_57
        rw [gm_h, h9]
        refine ⟨vp_in_nI (by omega) (by omega), fun M13 e13 M14 e14 => ?_⟩
        have e : M14 = gm M (upd H1 9 (nI (c + 1))) (upd N c v) := by
          rw [e14, e13, ixn (by omega)]
          show mu (mu (gm M H1 N) 149 _ _) 143 9 (mu (gm M H1 N) 149 _ _ 143 9 + 1) = _
          rw [mu_gn, mu_gh, gm_h, h9, nI_1]
        subst e
        rw [gm_h, upd_o (by omega), h7]
        have hh := h (upd H1 9 (nI (c + 1))) (by rw [upd_o (by omega), h7, ← er]; rfl) upd_s (fun k k7 k9 => by rw [upd_o k9, hk k k7 k9])
        have e2 : (rdN (M 148) L 3 p 0) = (q, v) := er.symm
        rw [e2] at hh
        refine ⟨fun z => ?_, fun z => ?_⟩
        · have : ¬ p < q := fun y => absurd z (nI_ge y (by omega))
          rw [decide_eq_false this] at hh; exact hh
        · have : p < q := Nat.lt_of_not_le (fun y => z (nI_le y (by omega)))
          rw [decide_eq_true this] at hh; exact hh
      show bX7_readsNumber_7 Post (lX7_readsNumber_7 Post 0) (gm M H1 N) 143 (nI p) v
      unfold bX7_readsNumber_7
      refine sp7_sign (L := L) (p := q) (by rw [gm_h, hk 6 (by omega) (by omega), hL]) (by rw [gm_h, h7]) h60 hqL (sp7_inr (a := 48) (b := 58) (by decide) (by decide) ⟨fun _ => e57, fun _ => ⟨fun _ => e57, fun z => absurd ?_ z⟩⟩)
      rw [gm_h, h7, show nI p + 3 = nI (p + 3) from nI_add p 3]
      exact nI_le (by omega) (by omega)
    | succ f ih =>
      intro q v H1 hq hpq hqL h7 hk h9 er
      have e57 : inr 48 58 (sgn (M 148) L q) = false → bX7_readsNumber_57 Post (gm M H1 N) 143 (nI p) v := by
        intro hd
        unfold bX7_readsNumber_57
        rw [gm_h, h9]
        refine ⟨vp_in_nI (by omega) (by omega), fun M13 e13 M14 e14 => ?_⟩
        have e : M14 = gm M (upd H1 9 (nI (c + 1))) (upd N c v) := by
          rw [e14, e13, ixn (by omega)]
          show mu (mu (gm M H1 N) 149 _ _) 143 9 (mu (gm M H1 N) 149 _ _ 143 9 + 1) = _
          rw [mu_gn, mu_gh, gm_h, h9, nI_1]
        subst e
        have e2 : (rdN (M 148) L 3 p 0) = (q, v) := by
          rw [← er]
          show (if inr 48 58 (sgn (M 148) L q) = true then _ else _) = _
          rw [if_neg (by rw [hd]; decide)]
        rw [gm_h, upd_o (by omega), h7]
        have hh := h (upd H1 9 (nI (c + 1))) (by rw [upd_o (by omega), h7, e2]) upd_s (fun k k7 k9 => by rw [upd_o k9, hk k k7 k9])
        rw [e2] at hh
        refine ⟨fun z => ?_, fun z => ?_⟩
        · have : ¬ p < q := fun y => absurd z (nI_ge y (by omega))
          rw [decide_eq_false this] at hh; exact hh
        · have : p < q := Nat.lt_of_not_le (fun y => z (nI_le y (by omega)))
          rw [decide_eq_true this] at hh; exact hh
      have h6' : gm M H1 N 143 6 = nI L := by rw [gm_h, hk 6 (by omega) (by omega), hL]
      have h7' : gm M H1 N 143 7 = nI q := by rw [gm_h, h7]
      have e8 : gm M H1 N 148 = M 148 := gm_o (by omega) (by omega)
      show bX7_readsNumber_7 Post (lX7_readsNumber_7 Post (f + 1)) (gm M H1 N) 143 (nI p) v
      unfold bX7_readsNumber_7
      refine sp7_sign (L := L) (p := q) h6' h7' h60 hqL ?_
      rw [e8]
      refine sp7_inr (a := 48) (b := 58) (by decide) (by decide) ⟨fun d => e57 (b2i_0.mp d), fun d => ⟨fun z => ?_, fun _ => sp7_sign (L := L) (p := q) h6' h7' h60 hqL (fun x2 e2 M12 e12 => ?_)⟩⟩
      · exfalso
        rw [h7', show nI p + 3 = nI (p + 3) from nI_add p 3] at z
        exact absurd z (nI_ge (by omega) (by omega))
      · have hd := b2i_1.mp ((b2i_01 _).resolve_left d)
        have hq1 := dig_lt hd
        have e : M12 = gm M (upd H1 7 (nI (q + 1))) N := by
          rw [e12, mu_gh, gm_h, h7, nI_1]
        rw [e, e2, e8]
        refine ih (q + 1) _ _ (by omega) (by omega) (by omega) upd_s (fun k k7 k9 => by rw [upd_o k7, hk k k7 k9]) (by rw [upd_o (by omega), h9]) ?_
        rw [← er]
        show _ = (if inr 48 58 (sgn (M 148) L q) = true then _ else _)
        rw [if_pos hd]
  exact ⟨4, key 3 p 0 H rfl (Nat.le_refl _) hpl hp (fun _ _ _ => rfl) hc rfl⟩
