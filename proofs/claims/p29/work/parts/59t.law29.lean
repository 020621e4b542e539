/-! the law: thirty acts, then a run and its undoing -/
theorem cell_nn {xs : Nat → Int32} {L : Nat} {k : Int32} : ∃ a, a < 2147483648 ∧ cellF xs L k = nI a := by
  have key : ∀ v : Int32, ∃ a, a < 2147483648 ∧ (v &&& (2147483647 : Int32)) = nI a := by
    intro v
    have hb : bt (v &&& (2147483647 : Int32)) 31 = false := by
      rw [b_and, show bt (2147483647 : Int32) 31 = false by decide, Bool.and_false]
    rw [b_msb] at hb
    have h0 : ¬ (v &&& (2147483647 : Int32)) < 0 := of_decide_eq_false hb
    have h1 : ¬ (v &&& (2147483647 : Int32)).toInt < (0 : Int32).toInt := fun z => h0 (i_lt.mpr z)
    have z0 : (0 : Int32).toInt = 0 := by decide
    have h2 := i_rng (v &&& (2147483647 : Int32))
    exact ⟨(v &&& (2147483647 : Int32)).toInt.toNat, by omega, i_of (by omega)⟩
  exact key _
theorem LI.to {M M2 : Mm} {S : SS} {n m tt hr B : Nat} (h : HM M S n m tt) (hh : S 5 = nI hr) (hB : hr ≤ B) (c : CQ M M2 S n m tt) : LI M2 B := ⟨S, n, m, tt, hr, h.to c, hh, hB⟩
theorem TR_rows {M M' : Mm} {t : Nat} {S : SS} {n m tt : Nat} (h : TR M t S n m tt) (e : ∀ a, t ≤ a → a < t + 23 → M' a = M a) : TR M' t S n m tt :=
  h.of (fun j _ _ => by rw [e t (by omega) (by omega)]) (fun k _ _ => e _ (by omega) (by omega))
/-- the end of the law -/
theorem law_fin {M : Mm} {B : Nat} (h : LI M B) (hB : B ≤ 19000) : wX6_count (fun M2 r3 => wX6_count (fun M4 r5 => (((1 : Int32) = 0 → False) ∧
  (¬ (1 : Int32) = 0 → wX6_run (fun M7 r8 => ((r8 < 0 → False) ∧
  (¬ r8 < 0 → wX6_count (fun M10 r11 => ((¬ r11 = (r3 + (150 : Int32)) → False) ∧
  (r11 = (r3 + (150 : Int32)) → wX6_count (fun M13 r14 => ((¬ r14 = (r5 + (3 : Int32)) → False) ∧
  (r14 = (r5 + (3 : Int32)) → wL_holds (fun M16 r17 => ((r17 = 0 → False) ∧
  (¬ r17 = 0 → wX6_undo (fun M19 r20 => ((r20 < 0 → False) ∧
  (¬ r20 < 0 → wX6_count (fun M22 r23 => ((¬ r23 = r3 → False) ∧
  (r23 = r3 → wX6_count (fun M25 r26 => ((¬ r26 = r5 → False) ∧
  (r26 = r5 → wL_holds (fun M28 r29 => ((r29 = 0 → False) ∧
  (¬ r29 = 0 → True))) M25 0))) M22 0 (6 : Int32)))) M19 0 (7 : Int32)))) M16 0))) M13 0))) M10 0 (6 : Int32)))) M7 0 (7 : Int32)))) M4 0 (3 : Int32) (50 : Int32)))) M2 0 (6 : Int32)) M 0 (7 : Int32) := by
  obtain ⟨S, n, m, tt, hr, h, hh, hB2⟩ := h
  obtain ⟨hV, hE, -⟩ := id h
  have hW := hV.1.1
  have h8 := hW.2.2.2.1
  have h10 := hW.2.2.2.2.1
  have htt := hW.2.2.2.2.2.1
  have z0 : (0 : Int32).toInt = 0 := by decide
  refine qC h h.self (v := S 6) (fun _ _ => rfl) (fun M2 c => ?_)
  refine qC h c (v := S 5) (fun _ _ => rfl) (fun M4 c => ⟨fun d => absurd d (by decide), fun _ => ?_⟩)
  have h4 := h.to c
  obtain ⟨-, -, hT, ⟨P, s, hp, hs, hs4⟩, -⟩ := id h4
  have hb0 : 0 ≤ (50 : Int32).toInt := by decide
  have eR : runsF S n m 100 3 50 = rsF S n m 50 3 := by
    have e20 : nI (hr + 3) ≤ (20000 : Int32) := nI_le (a := hr + 3) (b := 20000) (by omega) (by omega)
    have e3 : nI hr + (3 : Int32) = nI (hr + 3) := nI_add hr 3
    unfold runsF
    rw [if_pos ⟨by decide, by decide⟩, hh, e3, if_pos e20]; rfl
  refine sp6_run hp hs hs4 hT hV.1 hh (by omega) (fun j j1 j2 _ => run_nn hV hb0 hh j2) (fun M7 hca => ?_)
  rw [eR] at hca ⊢
  obtain ⟨v1, v2, v3, v4, v5⟩ := VV_rs hV hb0 hh 3 (by omega)
  obtain ⟨x1, x6⟩ := EX_rs hV hE hb0 hh 3 (by omega)
  have h7 := h4.act hp hs hs4 hca v1 x1
  have hsum := rs_sum hV.1.1 hV.1.2.1 (b := 50) 3
  have hnn := (diff_nn v4 v3 v5).1
  have hrn : 0 ≤ (rsF S n m 50 3).2.toInt := by rw [hsum, hnn]; omega
  have hne : ¬ (rsF S n m 50 3).2 ≤ -1000001 := fun y => by
    have := i_le.mp y
    have e1 : (-1000001 : Int32).toInt = -1000001 := by decide
    omega
  obtain ⟨-, -, -, hc4⟩ := hca
  obtain ⟨P', hp', hs', -, hTS⟩ := hc4 hne
  generalize (rsF S n m 50 3).1 = T at h7 v2 x6
  refine ⟨fun d => absurd (i_lt.mp d) (by omega), fun _ => ?_⟩
  have e6 : T 6 = S 6 + (150 : Int32) := by rw [x6]; rfl
  refine qC h7 h7.self (v := T 6) (fun _ _ => rfl) (fun M8 c => ⟨fun d => absurd e6 d, fun _ => ?_⟩)
  refine qC h7 c (v := T 5) (fun _ _ => rfl) (fun M8 c => ⟨fun d => absurd (by rw [v2, hh]; exact (nI_add hr 3).symm) d, fun _ => ?_⟩)
  refine sp_holds (h7.to c) (fun M9 c9 => ⟨fun d => absurd d (by decide), fun _ => ?_⟩)
  have c := c.trans c9
  have hl := hp'.lt (show min s 3 < 4 by omega)
  have hp9 : HP M9 P' := hp'.of (c.2.1 48 (by omega) (by omega))
  have hs9 : M9 47 0 = nI (min s 3 + 1) := by rw [c.2.1 47 (by omega) (by omega)]; exact hs'
  have hT9 : TR M9 (P' (min s 3)) S n m tt := TR_rows hTS (fun a a1 a2 => c.2.1 a (by omega) (by omega))
  obtain ⟨-, -, -, -, ⟨L, hL⟩⟩ := h7.to c
  refine sp6_undo hp9 hs9 (by omega) (fun k ek => ⟨S, n, m, tt, by rw [show k = min s 3 by omega]; exact hT9, h8.2, h10, htt⟩) (fun z => by omega) (fun k M10 ek hcp h47 hfr => ?_)
  have hT10 : TR M10 1 S n m tt := hcp S n m tt (by rw [show k = min s 3 by omega]; exact hT9) h8.2 h10 htt
  have h10' : HM M10 S n m tt := ⟨hV, hE, hT10, ⟨P', k, hp9.of (hfr 48 (by omega) (by omega)), h47, by omega⟩, ⟨L, by rw [hfr 141 (by omega) (by omega)]; exact hL⟩⟩
  refine ⟨fun d => absurd (i_lt.mp d) (by rw [nI_toInt (by omega), z0]; omega), fun _ => ?_⟩
  refine qC h10' h10'.self (v := S 6) (fun _ _ => rfl) (fun M8 c => ⟨fun d => absurd rfl d, fun _ => ?_⟩)
  refine qC h10' c (v := S 5) (fun _ _ => rfl) (fun M8 c => ⟨fun d => absurd rfl d, fun _ => ?_⟩)
  exact sp_holds (h10'.to c) (fun M9 c9 => ⟨fun d => absurd d (by decide), fun _ => trivial⟩)
theorem law_all {xs : Nat → Int32} {L : Nat} (hL : L ≤ 260) : ∀ (q i : Nat) (M : Mm), i + q = 31 → i ≤ 30 → LI M (5 * i) → lL_law xs L q M 1 (nI i) := by
  intro q
  induction q with
  | zero => intro i M e hi; omega
  | succ q ih =>
    intro i M e hi h
    show bL_law xs L (lL_law xs L q) M 1 (nI i)
    unfold bL_law
    refine ⟨fun _ => law_fin h (by omega), fun d => ⟨fun d => absurd d (by decide), fun _ => ⟨fun d2 => ?_, fun r er => ?_⟩⟩⟩
    · have hlt : i < L := by
        rcases Nat.lt_or_ge i L with y | y
        · exact y
        · exact absurd (nI_le (a := L) (b := i) y (by omega)) d2
      exact vp_in_nI hlt (by omega)
    · obtain ⟨a, ha, ea⟩ := cell_nn (xs := xs) (L := L) (k := nI i)
      rw [ea] at er
      subst er
      have hi29 : i < 30 := by
        rcases Nat.lt_or_ge i 30 with y | y
        · exact y
        · exact absurd (nI_le (a := 30) (b := i) y (by omega)) d
      refine sp_acts h (by omega) ha (fun M2 h2 => ⟨fun d => absurd d (by decide), fun _ => ?_⟩)
      obtain ⟨S, n, m, tt, hr, h2, hh, hB⟩ := h2
      refine sp_holds h2 (fun M3 c => ⟨fun d => absurd d (by decide), fun _ x3 e3 => ?_⟩)
      rw [e3, nI_1]
      exact ih (i + 1) M3 (by omega) (by omega) ⟨S, n, m, tt, hr, h2.to c, hh, by omega⟩
theorem law_start {A : Mm → Int32 → Int32 → Prop} {M : Mm} {S : SS} (h : HM M S 1 0 0) (hh : S 5 = nI 0) (k : ∀ M2, LI M2 0 → A M2 1 0) : wL_law A M := by
  unfold wL_law
  refine sp_holds h (fun M2 c => ⟨fun d => absurd d (by decide), fun _ => ?_⟩)
  have h := h.to c
  obtain ⟨hV, hE, hT, ⟨P, s, hp, hs, hs4⟩, -⟩ := id h
  have hF : canF S 1 0 0 100 20 = (cnS S 1 0 0 100 20, nI 1) := by unfold canF; rw [if_pos (by decide), if_neg (by omega)]
  refine sp6_canal hp hs hs4 hT hV.1.1 (fun M3 n' hn' hca => ?_)
  have hV' := VV_can hV hn'
  have hE' := EX_can hV hE hn'
  have en' : n' = 2 := by rw [hn', hF]; exact if_neg (show ¬ nI 1 ≤ -1000001 by decide)
  subst en'
  have h3 := h.act hp hs hs4 hca hV' hE'
  rw [hF] at h3 ⊢
  have o5 : cnS S 1 0 0 100 20 5 = nI 0 := by rw [cnS_o (by omega) (by omega), hh]
  replace h3 : HM M3 (cnS S 1 0 0 100 20) 2 0 0 := h3
  refine ⟨fun d => absurd rfl d, fun _ => ?_⟩
  clear hca hV' hE' hn' hF hV hE hT hp hs hh h
  generalize cnS S 1 0 0 100 20 = S3 at h3 o5
  obtain ⟨hV, hE, hT, ⟨P, s, hp, hs, hs4⟩, -⟩ := id h3
  have hF : fldF S3 2 0 1 120 40 5 = (fdS S3 0 1 120 40 5, nI 0) := by unfold fldF; rw [if_pos (by decide), if_neg (by omega)]
  refine sp6_field hp hs hs4 hT hV.1.1 (fun M4 m' hm' hca => ?_)
  have hV' := VV_fld hV hm'
  have hE' := EX_fld hV hE hm'
  have em' : m' = 1 := by rw [hm', hF]; exact if_neg (show ¬ nI 0 ≤ -1000001 by decide)
  subst em'
  have h4 := h3.act hp hs hs4 hca hV' hE'
  rw [hF] at h4 ⊢
  have o5' : fdS S3 0 1 120 40 5 5 = nI 0 := by rw [fdS_o (by omega) (by omega), o5]
  replace h4 : HM M4 (fdS S3 0 1 120 40 5) 2 1 0 := h4
  refine ⟨fun d => absurd rfl d, fun _ => ?_⟩
  clear hca hV' hE' hm' hF hV hE hT hp hs o5 h3
  generalize fdS S3 0 1 120 40 5 = S4 at h4 o5'
  obtain ⟨hV, hE, hT, ⟨P, s, hp, hs, hs4⟩, -⟩ := id h4
  have hF : fldF S4 2 1 0 90 30 9 = (fdS S4 1 0 90 30 9, nI 1) := by unfold fldF; rw [if_pos (by decide), if_neg (by omega)]
  refine sp6_field hp hs hs4 hT hV.1.1 (fun M5 m' hm' hca => ?_)
  have hV' := VV_fld hV hm'
  have hE' := EX_fld hV hE hm'
  have em' : m' = 2 := by rw [hm', hF]; exact if_neg (show ¬ nI 1 ≤ -1000001 by decide)
  subst em'
  have h5 := h4.act hp hs hs4 hca hV' hE'
  rw [hF] at h5 ⊢
  have o5 : fdS S4 1 0 90 30 9 5 = nI 0 := by rw [fdS_o (by omega) (by omega), o5']
  replace h5 : HM M5 (fdS S4 1 0 90 30 9) 2 2 0 := h5
  exact ⟨fun d => absurd rfl d, fun _ => k M5 ⟨_, 2, 2, 0, 0, h5, o5, by omega⟩⟩
