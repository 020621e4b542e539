/-! the class: the history -/
def HP (M : Mm) (P : Nat → Nat) : Prop := (∀ i, i < 4 → M 48 i = nI (P i) ∧ (P i = 49 ∨ P i = 72 ∨ P i = 95 ∨ P i = 118)) ∧ ∀ i j, i < 4 → j < 4 → P i = P j → i = j
theorem HP.lt {M : Mm} {P : Nat → Nat} (h : HP M P) {i : Nat} (hi : i < 4) : 49 ≤ P i ∧ P i ≤ 118 := by
  have := (h.1 i hi).2; omega
theorem HP.kd {M : Mm} {P : Nat → Nat} (h : HP M P) {i : Nat} (hi : i < 4) : kd (P i) = 4 := by
  rcases (h.1 i hi).2 with e | e | e | e <;> rw [e] <;> decide
theorem HP.ix {M : Mm} {P : Nat → Nat} (h : HP M P) {i : Nat} (hi : i < 4) : ix (M 48 i) = P i := by
  have := h.lt hi
  rw [(h.1 i hi).1, ixn (by omega)]
theorem HP.sep {M : Mm} {P : Nat → Nat} (h : HP M P) {i j : Nat} (hi : i < 4) (hj : j < 4) (hij : i ≠ j) : P i + 23 ≤ P j ∨ P j + 23 ≤ P i := by
  have a := (h.1 i hi).2
  have b := (h.1 j hj).2
  have c : P i ≠ P j := fun z => hij (h.2 i j hi hj z)
  omega
theorem HP.of {M M' : Mm} {P : Nat → Nat} (h : HP M P) (e : M' 48 = M 48) : HP M' P := ⟨fun i hi => by rw [e]; exact h.1 i hi, h.2⟩
theorem record12 {Post : Mm → Prop} {M : Mm} {P : Nat → Nat} {S : SS} {n m tt s : Nat} (hp : HP M P) (hs : M 47 0 = nI s) (h3 : s < 4) (hT : TR M 1 S n m tt) (hw : Wf S n m tt)
    (hP : ∀ M', HP M' P → M' 47 0 = nI (s + 1) → (∀ a, a < 47 → M' a = M a) → (∀ a, 141 ≤ a → M' a = M a) → (∀ k a, k < 4 → k ≠ s → P k ≤ a → a < P k + 23 → M' a = M a) → TR M' (P s) S n m tt → Post M') : bX2_record_12 Post M 47 1 := by
  have hl := hp.lt h3
  unfold bX2_record_12
  rw [hs, ixn (by omega), show M (47 + 1) s = M 48 s from rfl, hp.ix h3]
  refine ⟨vp_in_nI h3 (by omega), hp.kd h3, sp4_become hT hw.2.2.2.1.2 hw.2.2.2.2.1 hw.2.2.2.2.2.1 (by omega) (fun M5 hT5 hfr M7 e7 => ?_)⟩
  have o : ∀ a, a ≠ 47 → M7 a = M5 a := fun a ha => by rw [e7, mu_row ha]
  have e47 : M5 47 = M 47 := hfr 47 (by omega)
  refine hP M7 (hp.of (by rw [o 48 (by omega), hfr 48 (by omega)])) ?_ (fun a ha => by rw [o a (by omega), hfr a (by omega)]) (fun a ha => by rw [o a (by omega), hfr a (by omega)]) (fun k a hk hks a1 a2 => ?_) ?_
  · rw [e7, mu_at, e47, hs, nI_1]
  · have := hp.lt hk
    have := hp.sep h3 hk (by omega)
    rw [o a (by omega), hfr a (by omega)]
  · exact TR.of hT5 (fun j _ _ => by rw [o (P s) (by omega)]) (fun k _ _ => by rw [o _ (by omega)])
def rot (P : Nat → Nat) : Nat → Nat := fun i => if i < 3 then P (i + 1) else P 0
theorem sp2_record {Post : Mm → Prop} {M : Mm} {P : Nat → Nat} {S : SS} {n m tt s : Nat} (hp : HP M P) (hs : M 47 0 = nI s) (h4 : s ≤ 4) (hT : TR M 1 S n m tt) (hw : Wf S n m tt)
    (hP : ∀ M' P', HP M' P' → M' 47 0 = nI (min s 3 + 1) → (∀ a, a < 47 → M' a = M a) → (∀ a, 141 ≤ a → M' a = M a) → (∀ k, k < min s 3 → P' k = P (k + s / 4) ∧ ∀ a, P' k ≤ a → a < P' k + 23 → M' a = M a) → TR M' (P' (min s 3)) S n m tt → Post M') : wX2_record Post M 47 1 := by
  unfold wX2_record
  rw [hs]
  refine ⟨fun d => ?_, fun d => ?_⟩
  · have h3 : s < 4 := (nI_ltI (by omega) (by omega)).mp d
    have e3 : min s 3 = s := Nat.min_eq_left (by omega)
    rw [e3] at hP
    refine record12 hp hs h3 hT hw (fun M' a b c d e f => hP M' P a b c d (fun k hk => ⟨?_, fun x x1 x2 => e k x (by omega) (by omega) x1 x2⟩) f)
    rw [show s / 4 = 0 by omega, Nat.add_zero]
  · have h3 : s = 4 := by
      have : ¬ s < 4 := fun z => d (nI_lt (b := 4) z (by decide))
      omega
    subst h3
    have hr : HP M P → ∀ i, i < 4 → ix (M (47 + 1) i) = P i := fun h i hi => h.ix hi
    unfold wX2_dropOldest
    rw [hr hp 0 (by omega)]
    refine ⟨hp.kd (by omega), ?_⟩
    -- the row of places, when those below i have been moved
    have key := pk_loop (fun q i (R : SS) => lX2_dropOldest_9 (fun M2 => bX2_record_12 Post M2 47 1) q (sr M 48 R) 47 (P 0) (nI i)) (fun i R => 1 ≤ i ∧ (∀ j, j < i - 1 → R j = nI (P (j + 1))) ∧ ∀ j, i - 1 ≤ j → j < 4 → R j = M 48 j) 4 1 (M 48) (by omega) ⟨by omega, fun j hj => absurd hj (by omega), fun j _ _ => rfl⟩ ?_ ?_
    · obtain ⟨q, hq⟩ := key
      rw [sr_self] at hq
      exact ⟨q, hq⟩
    · rintro q R ⟨-, h1, h2⟩
      refine ⟨fun _ M4 e4 M5 e5 => ?_, fun z => absurd (show (4 : Int32) ≤ nI 4 by decide) z⟩
      have o : ∀ a, a ≠ 47 → a ≠ 48 → M5 a = M a := fun a a1 a2 => by
        rw [e5, mu_row a1, e4]
        show mu (sr M 48 R) 48 3 _ a = _
        rw [mu_row a2, sr_o a2]
      have r48 : ∀ i, M5 48 i = if i = 3 then nI (P 0) else R i := fun i => by
        rw [e5, mu_row (by omega), e4]
        show mu (sr M 48 R) 48 3 _ 48 i = _
        rw [mu_s, sr_s]
        by_cases e : i = 3
        · subst e; rw [upd_s, if_pos rfl]
        · rw [upd_o e, if_neg e]
      have hp5 : HP M5 (rot P) := by
        refine ⟨fun i hi => ?_, fun i j hi hj hij => ?_⟩
        · rw [r48]
          unfold rot
          by_cases e : i = 3
          · subst e
            rw [if_pos rfl, if_neg (by omega)]
            exact ⟨rfl, (hp.1 0 (by omega)).2⟩
          · rw [if_neg e, if_pos (by omega)]
            exact ⟨h1 i (by omega), (hp.1 (i + 1) (by omega)).2⟩
        · unfold rot at hij
          by_cases e : i < 3
          · by_cases e2 : j < 3
            · rw [if_pos e, if_pos e2] at hij
              have := hp.2 _ _ (by omega) (by omega) hij
              omega
            · rw [if_pos e, if_neg e2] at hij
              have := hp.2 _ _ (by omega) (by omega) hij
              omega
          · by_cases e2 : j < 3
            · rw [if_neg e, if_pos e2] at hij
              have := hp.2 _ _ (by omega) (by omega) hij
              omega
            · omega
      have hT5 : TR M5 1 S n m tt := TR.of hT (fun j _ _ => by rw [o 1 (by omega) (by omega)]) (fun k _ _ => by rw [o _ (by omega) (by omega)])
      refine record12 hp5 (s := 3) (by rw [e5]; exact mu_at) (by omega) hT5 hw (fun M' a b c d e f => hP M' (rot P) a b (fun x hx => by rw [c x hx, o x (by omega) (by omega)]) (fun x hx => by rw [d x hx, o x (by omega) (by omega)]) (fun k hk => ⟨?_, fun x x1 x2 => ?_⟩) f)
      · unfold rot
        rw [if_pos (by omega)]
      · have := hp5.lt (show k < 4 by omega)
        rw [e k x (by omega) (by omega) x1 x2, o x (by omega) (by omega)]
    · rintro q i R hi ⟨hi1, h1, h2⟩ ih
      have er : sr M 48 R (47 + 1) i = nI (P i) := by
        show sr M 48 R 48 i = _
        rw [sr_s, h2 i (by omega) hi]
        exact (hp.1 i hi).1
      have hl := hp.lt hi
      have em : nI i - 1 = nI (i - 1) := by
        obtain ⟨k, hk⟩ : ∃ k, i = k + 1 := ⟨i - 1, by omega⟩
        rw [hk, nI_m1]; rfl
      refine ⟨fun z => absurd z (nI_ge (b := 4) hi (by decide)), fun _ => ⟨vp_in_nI hi (by omega), ?_, ?_, fun M7 e7 x2 e2 => ?_⟩⟩
      · rw [ixn (by omega), er, ixn (by omega)]
        exact hp.kd hi
      · rw [em]
        exact vp_in_nI (by omega) (by omega)
      · rw [e2, nI_1]
        have e : M7 = sr M 48 (upd R (i - 1) (nI (P i))) := by
          rw [e7, em, ixn (by omega), ixn (by omega), er, ixn (by omega)]
          show mu (sr M 48 R) 48 _ _ = _
          rw [mu_sr, sr_sr, sr_s]
        rw [e]
        refine ih _ ⟨by omega, fun j hj => ?_, fun j hj hj4 => ?_⟩
        · by_cases e : j = i - 1
          · subst e
            rw [upd_s]
            congr 2; omega
          · rw [upd_o e]
            exact h1 j (by omega)
        · rw [upd_o (by omega)]
          exact h2 j (by omega) hj4
