/-! the class: an hour -/
theorem TR_fill {M : Mm} {t : Nat} {S : SS} {n m tt : Nat} (h8 : n ≤ 8) (h10 : m ≤ 10) (h : TR M t S n m tt) : TR (sr M (t + 7) (fil (M (t + 7)) 0 8)) t (zC S n) n m tt := by
  obtain ⟨a, b, c, d, e, f, g, x, y⟩ := h
  have ne : ∀ k, k ≠ 7 → sr M (t + 7) (fil (M (t + 7)) 0 8) (t + k) = M (t + k) := fun k hk => sr_o (by omega)
  refine ⟨fun k j i hm => ?_, by rw [ne 1 (by omega), b], ?_, by rw [ne 10 (by omega), d], ?_, by rw [ne 18 (by omega), f], fun i hi => ?_, fun i h1 h2 => ?_, fun i h1 h2 => ?_⟩
  · by_cases hk : k = 7
    · subst hk
      have hj : j < n ∧ i = 10 + 9 * j + 6 := by unfold mp at hm; omega
      rw [sr_s, hj.2, zC_s n hj.1]
      unfold fil
      rw [if_pos (by omega)]
    · rw [ne k hk, zC_o n (fun g hg => ?_)]
      · exact a k j i hm
      · unfold mp at hm; omega
  · rw [ne 1 (by omega), c]
    refine ofB_congr n (fun g hg => ?_)
    unfold opn ca
    rw [zC_o n (fun g _ => by omega)]
  · rw [ne 10 (by omega), e]
    refine ofB_congr m (fun g hg => ?_)
    unfold cls fi
    rw [zC_o n (fun g _ => by omega)]
  · rw [ne 17 (by omega), ord_congr (S := S) (S' := zC S n) (fun f => zC_o n (fun g _ => by omega))]
    exact g i hi
  · rw [ne 6 (by omega), ne 8 (by omega), ne 9 (by omega), sr_s]
    obtain ⟨x1, x2, x3, x4⟩ := x i h1 h2
    refine ⟨x1, ?_, x3, x4⟩
    unfold fil
    rw [if_pos h2]
  · rw [ne 15 (by omega), ne 16 (by omega)]
    exact y i h1 h2
theorem sp4_endCalls {Post : Mm → Prop} {M : Mm} {t : Nat} {S : SS} {n m tt : Nat} (h : TR M t S n m tt) (h8 : n ≤ 8) (h10 : m ≤ 10)
    (hP : ∀ M', TR M' t (eC S m) n m tt → (∀ a, a ≠ t + 10 → M' a = M a) → Post M') : wX4_endCalls Post M t := by
  refine sp1_wanting h h10 (fun M3 e3 => ?_)
  have e3' : M3 = mu M (t + 10) 1 (M (t + 10) 1 &&& ofB (wt S) m) := e3
  subst e3'
  refine hP _ ?_ (fun a ha => mu_row ha)
  obtain ⟨a, b, c, d, e, f, g, x, y⟩ := h
  have ne : ∀ k, k ≠ 10 → mu M (t + 10) 1 (M (t + 10) 1 &&& ofB (wt S) m) (t + k) = M (t + k) := fun k hk => mu_row (by omega)
  refine ⟨fun k j i hm => ?_, by rw [ne 1 (by omega), b], ?_, ?_, ?_, by rw [ne 18 (by omega), f], fun i hi => ?_, fun i h1 h2 => ?_, fun i h1 h2 => ?_⟩
  · rw [ne k (by unfold mp at hm; omega), eC_o m (fun f hf => by unfold mp at hm; omega)]
    exact a k j i hm
  · rw [ne 1 (by omega), c]
    refine ofB_congr n (fun g hg => ?_)
    unfold opn ca
    rw [eC_o m (fun f hf => by omega)]
  · rw [mu_el (by omega), d]
  · rw [mu_at, e]
    refine ofB_of (by omega) (fun k hk => ?_)
    rw [b_and, ofB_bt m (by omega) k hk, ofB_bt m (by omega) k hk]
    by_cases hkm : k < m
    · rw [decide_eq_true hkm, Bool.true_and, Bool.true_and, Bool.true_and]
      unfold cls
      show _ = decide (eC S m (82 + 7 * k + 5) = 1)
      rw [eC_s m hkm]
      cases hw : wt S k
      · rw [Bool.and_false, if_neg (by decide)]; rfl
      · rw [Bool.and_true, if_pos rfl]
    · rw [decide_eq_false hkm]; rfl
  · rw [ne 17 (by omega), ord_congr (S := S) (S' := eC S m) (fun f => eC_o m (fun g _ => by omega))]
    exact g i hi
  · rw [ne 6 (by omega), ne 7 (by omega), ne 8 (by omega), ne 9 (by omega)]
    exact x i h1 h2
  · rw [ne 15 (by omega), ne 16 (by omega)]
    exact y i h1 h2
/-- rows that an hour does not touch -/
def Fro (M M' : Mm) (t : Nat) : Prop := ∀ a, (a < t ∨ t + 23 ≤ a) → M' a = M a
theorem sp4_passHour {Post : Mm → Int32 → Prop} {M : Mm} {t : Nat} {S : SS} {n m tt : Nat} {b : Int32} (h : TR M t S n m tt) (hw : Wf S n m tt) (hf : VF S m) (hv : VC S n) (hb : 0 ≤ b.toInt)
    (hP : ∀ M', TR M' t (flowF S n m b) n m tt → Fro M M' t → Post M' (flowF S n m b 7 - S 7)) : wX4_passHour Post M t b := by
  have hw0 := hw
  obtain ⟨w0, w1, w2, ⟨w3, w4⟩, w5, w6, w7, w8⟩ := hw
  intro x2 e2 M2 e2m
  have e7 : M t 5 = S 7 := h.rd (k := 0) (j := 5) (i := 7) (by unfold mp; omega)
  have e5 : M t 3 = S 5 := h.rd (k := 0) (j := 3) (i := 5) (by unfold mp; omega)
  rw [e7] at e2
  rw [e5] at e2m
  have hT2 : TR M2 t (upd S 5 (S 5 + 1)) n m tt := by
    rw [e2m]
    exact TR_upd w4 w5 h (k0 := 0) (j0 := 3) (i0 := 5) (by unfold mp; omega) (by omega)
  have hS1 : SG S (upd S 5 (S 5 + 1)) := fun k hk => upd_o (by have := hk.2.2.1; omega)
  have hw1 : Wf (upd S 5 (S 5 + 1)) n m tt := SG_wf hS1 hw0
  have fr2 : ∀ a, a ≠ t → M2 a = M a := fun a ha => by rw [e2m, mu_row ha]
  refine sp4_findCallsBelow hT2 hw1 (fun R1 R2 hlo => ?_)
  have hT3 : TR (sr (sr M2 (t + 21) R1) (t + 22) R2) t (upd S 5 (S 5 + 1)) n m tt := TR_sc hT2 (fun a a1 a2 => by rw [sr_o a2, sr_o a1])
  refine sp4_findPassingGates hT3 hw1 (fun v hvv => ?_)
  generalize hM5 : mu (sr (sr M2 (t + 21) R1) (t + 22) R2) t 10 v = M5
  have hT5 : TR M5 t (upd S 5 (S 5 + 1)) n m tt := by
    rw [← hM5]
    exact hT3.of (fun j j1 j2 => mu_el (by omega)) (fun k k1 k2 => mu_row (by omega))
  have r22 : M5 (t + 22) = R2 := by rw [← hM5, mu_row (by omega), sr_s]
  have r10 : M5 t 10 = v := by rw [← hM5, mu_at]
  have fr5 : ∀ a, a ≠ t → a ≠ t + 21 → a ≠ t + 22 → M5 a = M a := fun a a0 a1 a2 => by rw [← hM5, mu_row a0, sr_o a2, sr_o a1, fr2 a a0]
  show wJ7_fill_53178 _ M5 (t + 7) 0
  refine sp_fill (fun M9 e9 M10 e10 => ?_)
  have hT7 := TR_fill w4 w5 hT5
  have ef1 : zC (upd S 5 (S 5 + 1)) n = f1 S n := rfl
  rw [ef1] at hT7
  generalize hM7 : sr M5 (t + 7) (fil (M5 (t + 7)) 0 8) = M7 at hT7 e9
  have fr7 : ∀ a, a ≠ t + 7 → M7 a = M5 a := fun a ha => by rw [← hM7, sr_o ha]
  have ew : M7 (t + 1 + 3) 0 = ca (f1 S n) 0 2 := hT7.rd (k := 4) (j := 0) (i := 12) (by unfold mp; omega)
  rw [ew, imn_le] at e9
  have e9' : M9 = mu M7 (t + 7) 0 (fB (f1 S n) b) := e9
  have hT9 : TR M9 t (f2 S n b) n m tt := by
    rw [e9']
    exact TR_upd w4 w5 hT7 (k0 := 7) (j0 := 0) (i0 := 16) (by unfold mp; omega) (by omega)
  have e4 : M9 t 4 = f2 S n b 6 := hT9.rd (k := 0) (j := 4) (i := 6) (by unfold mp; omega)
  have e6 : M9 (t + 1 + 6) 0 = fB (f1 S n) b := by rw [e9]; exact mu_at
  have e10' : M10 = mu M9 (t + 0) 4 (f2 S n b 6 + fB (f1 S n) b) := by rw [e10, e4, e6]; rfl
  have hT10 : TR M10 t (f3 S n b) n m tt := by
    rw [e10']
    exact TR_upd w4 w5 hT9 (k0 := 0) (j0 := 4) (i0 := 6) (by unfold mp; omega) (by omega)
  have fr10 : ∀ a, a ≠ t → a ≠ t + 7 → M10 a = M5 a := fun a a0 a1 => by rw [e10', mu_row (by omega), e9', mu_row a1, fr7 a a1]
  have r10b : M10 t 10 = v := by rw [e10', mu_el (by omega), e9', mu_row (by omega), fr7 t (by omega), r10]
  have r22b : M10 (t + 22) = R2 := by rw [fr10 _ (by omega) (by omega), r22]
  obtain ⟨V1, V2⟩ := f3_V hf hv w4 w3 hb
  have hSG : SG (upd S 5 (S 5 + 1)) (f3 S n b) := fun k hk => by rw [still_f3 w4 hk, hS1 k hk]
  have hF4 : ∀ f, f < m → fi (f3 S n b) f 4 = fi (upd S 5 (S 5 + 1)) f 4 := fun f hfm => by
    show f3 S n b _ = upd S 5 _ _
    rw [f3_o (by omega) (by omega) (by omega) (fun g _ => by omega), upd_o (by omega)]
  clear hM5 hM7 e9 e9' e10 e10' hT9 hT7 e4 e6 ew hT5 hT3 hT2
  show ∃ q : Nat, lX4_passHour_76 Post q M10 t x2 (nI 0)
  refine pk_loop (fun q i (M' : Mm) => lX4_passHour_76 Post q M' t x2 (nI i)) (fun i M' => TR M' t (hL (f3 S n b) m n i) n m tt ∧ M' t 10 = v ∧ ∀ a, a ≠ t → a ≠ t + 7 → a ≠ t + 8 → a ≠ t + 9 → a ≠ t + 15 → a ≠ t + 16 → M' a = M10 a) n 0 M10 (Nat.zero_le _) ⟨hT10, r10b, fun _ _ _ _ _ _ _ => rfl⟩ ?_ ?_
  · rintro q M' ⟨hT, hr, hfr⟩
    refine ⟨fun _ => sp4_endCalls hT w4 w5 (fun M13 hT13 hfr13 => ?_), fun z => absurd ?_ z⟩
    · have e : M13 t 5 = flowF S n m b 7 := hT13.rd (k := 0) (j := 5) (i := 7) (by unfold mp; omega)
      rw [e, e2]
      refine hP M13 hT13 (fun a ha => ?_)
      rw [hfr13 a (by omega), hfr a (by omega) (by omega) (by omega) (by omega) (by omega) (by omega), fr10 a (by omega) (by omega), fr5 a (by omega) (by omega) (by omega)]
    · rw [hT.2.1]; exact nI_le (Nat.le_refl _) (by omega)
  · rintro q c M' hc ⟨hT, hr, hfr⟩ ih
    obtain ⟨U1, U2⟩ := hL_V V1 V2 w4 c (by omega)
    obtain ⟨X1, X2, X3, X4⟩ := hC_V (m := m) U1 U2 w4 hc
    have hsg : SG (upd S 5 (S 5 + 1)) (hL (f3 S n b) m n c) := fun k hk => by rw [hL_o w4 hk c (by omega), hSG k hk]
    have hhas : ∀ f, f < m → c ≤ at_ (f3 S n b) f → fi (hL (f3 S n b) m n c) f 4 = fi (upd S 5 (S 5 + 1)) f 4 := fun f hfm ha => by rw [hL_has w4 (by omega) c (by omega) ha, hF4 f hfm]
    have hatF : ∀ f, f < m → at_ (f3 S n b) f = at_ (upd S 5 (S 5 + 1)) f := fun f hfm => SG_at hSG (by omega)
    have eN : hL (f3 S n b) m n (c + 1) = hC (hL (f3 S n b) m n c) m n c := rfl
    revert hT U1 U2 X1 X2 X3 X4 hsg hhas ih eN
    generalize hL (f3 S n b) m n c = T
    intro hT ih U1 U2 X1 X2 X3 X4 hsg hhas eN
    rw [eN] at ih
    have hwT : Wf T n m tt := SG_wf hsg hw1
    have vc : vp_in (nI c) 8 := vp_in_nI (by omega) (by omega)
    obtain ⟨l1, l2, l3⟩ := lst_rng U2 hc
    have hcc := (U2 c hc).2.2
    refine ⟨fun z => absurd z ?_, fun _ => ⟨vc, fun x4 e4 => ?_⟩⟩
    · rw [hT.2.1]; exact nI_ge hc (by omega)
    rw [ixn (by omega)] at e4
    have e4' : x4 = ca T c 6 := e4.trans (hT.rd (k := 7) (j := c) (i := 10 + 9 * c + 6) (by unfold mp; omega))
    subst e4'
    -- seeping away
    unfold wX4_seepAway
    rw [ixn (by omega)]
    refine ⟨vc, fun x3 e3 => ⟨vc, vc, fun Ma ea Mb eb x4b e4b => ?_⟩⟩
    have es : M' (t + 1 + 4) c = ca T c 3 := hT.rd (k := 5) (j := c) (i := 10 + 9 * c + 3) (by unfold mp; omega)
    rw [es] at e3
    have e3' : x3 = lst T c := e3
    subst e3'
    have e7a : M' (t + 1 + 7) c = T (10 + 9 * c + 7) := hT.rd (k := 8) (j := c) (i := 10 + 9 * c + 7) (by unfold mp; omega)
    have ea' : Ma = mu M' (t + 8) c (T (10 + 9 * c + 7) + lst T c) := by rw [ea, e7a]
    have hTa : TR Ma t (hCa T c) n m tt := by
      rw [ea']
      exact TR_upd w4 w5 hT (k0 := 8) (j0 := c) (i0 := 10 + 9 * c + 7) (by unfold mp; omega) (by omega)
    have e6a : Ma t 6 = hCa T c 8 := hTa.rd (k := 0) (j := 6) (i := 8) (by unfold mp; omega)
    have eb' : Mb = mu Ma (t + 0) 6 (hCa T c 8 + lst T c) := by rw [eb, e6a]; rfl
    have hTb : TR Mb t (hCb T c) n m tt := by
      rw [eb']
      exact TR_upd w4 w5 hTa (k0 := 0) (j0 := 6) (i0 := 8) (by unfold mp; omega) (by omega)
    have frb : ∀ a, a ≠ t → a ≠ t + 8 → Mb a = M' a := fun a a0 a1 => by rw [eb', mu_row (by omega), ea', mu_row a1]
    have rb10 : Mb t 10 = v := by rw [eb', mu_el (by omega), ea', mu_row (by omega), hr]
    have rb22 : Mb (t + 22) = R2 := by rw [frb _ (by omega) (by omega), hfr _ (by omega) (by omega) (by omega) (by omega) (by omega) (by omega), r22b]
    have hsb : SG (upd S 5 (S 5 + 1)) (hCb T c) := fun k hk => by rw [hCb_o (by rcases hk.2.2.2 with e | e; exact (e c).2.1; omega) (by have := hk.2.2.1; omega), hsg k hk]
    have hwb : Wf (hCb T c) n m tt := SG_wf hsb hw1
    have hVb : VF (hCb T c) m := VF_of U1 (fun f w _ _ => hCb_o (by omega) (by omega))
    have hmok : mok Mb t (hCb T c) m := by
      intro f hfm
      rw [rb22, SG_mtF hsb hw1 hfm m (Nat.le_refl _), SG_at hsb (by omega), SG_fi hsb (f := f) (w := 3) (by omega) (by omega) (by omega) (by omega), mtF_iff]
      have h99 := (hVb f hfm).2.2.1
      rw [SG_fi hsb (f := f) (w := 3) (by omega) (by omega) (by omega) (by omega)] at h99
      have e100 : (100 : Int32).toInt = 100 := by decide
      have hl := hlo (at_ (upd S 5 (S 5 + 1)) f) (hw1.2.2.2.2.2.2.2 f hfm).1 (fi (upd S 5 (S 5 + 1)) f 3) (i_le.mpr (by omega))
      constructor
      · intro z k hk ⟨k1, k2, k3⟩
        exact absurd (hl.mpr ⟨k, hk, k1, k3, k2⟩) (Int32.not_lt.mpr z)
      · intro z
        refine Int32.not_lt.mp (fun y => ?_)
        obtain ⟨k, hk, k1, k3, k2⟩ := hl.mp y
        exact z k hk ⟨k1, k2, k3⟩
    -- giving to fields
    refine sp4_giveToFields hTb hwb hVb hmok hc rfl (by rw [e4b, l3]; omega) ?_
    have ew1 : x4b = ca T c 6 - (ca T c 6 * ca T c 3 + 999) / 1000 := e4b
    rw [ew1]
    intro Mc hTc hfrc rc10 rc3 x4c e4c
    have hTc' : TR Mc t (hCc T m c).1 n m tt := hTc
    have e4c' : x4c = (hCc T m c).2 := by rw [e4c, sub_sub']; rfl
    subst e4c'
    have hsc : SG (upd S 5 (S 5 + 1)) (hCc T m c).1 := fun k hk => by
      show (serveF _ _ _ _).1 k = _
      rw [serveF_o hk.1 hk.2.1 (by have := hk.2.2.1; omega), hsb k hk]
    have hwc : Wf (hCc T m c).1 n m tt := SG_wf hsc hw1
    have hpok : pok Mc t (hCc T m c).1 n m c := by
      intro g g1 g2 g3
      have hpg : pa (upd S 5 (S 5 + 1)) g = c := by rw [← SG_pa hsc (by omega)]; exact g3
      rw [rc10, rb10, hvv g g2]
      unfold psB ltF opn
      have hiw : iwF (hCc T m c).1 g m = iwF (upd S 5 (S 5 + 1)) g m := by
        refine SG_iwF hsc hw1 (fun f hfm hga => ?_) m (Nat.le_refl _)
        show fi (serveF _ _ _ _).1 f 4 = _
        have hab : at_ (hCb T c) f = at_ (upd S 5 (S 5 + 1)) f := SG_at hsb (by omega)
        rw [serveF_has (by rw [hab]; omega)]
        have : fi (hCb T c) f 4 = fi T f 4 := hCb_o (by omega) (by omega)
        rw [this]
        exact hhas f hfm (by rw [hatF f hfm]; omega)
      rw [g3, hiw, SG_ca hsc (c := g) (w := 4) (by omega) (by omega), SG_ca hsc (c := g) (w := 1) (by omega) (by omega), decide_eq_true (show 1 ≤ g by omega), decide_eq_true (show c = c from rfl), Bool.true_and, Bool.true_and]
    -- parting among gates
    refine sp4_partAmongGates hTc' hwc hpok hc rfl X3 X4 ?_
    intro Md hTd hfrd x4d e4d
    have hTd' : TR Md t (hCd T m n c).1 n m tt := hTd
    have e4d' : x4d = (hCd T m n c).2 := by rw [e4d, sub_sub']; rfl
    subst e4d'
    refine ⟨vc, vc, fun Me ee Mf ef x3e e3e => ?_⟩
    rw [e3e, nI_1]
    have e8 : Md (t + 1 + 8) c = (hCd T m n c).1 (10 + 9 * c + 8) := hTd'.rd (k := 9) (j := c) (i := 10 + 9 * c + 8) (by unfold mp; omega)
    have ee' : Me = mu Md (t + 9) c ((hCd T m n c).1 (10 + 9 * c + 8) + (hCd T m n c).2) := by rw [ee, e8]
    have hTe : TR Me t (hCe T m n c) n m tt := by
      rw [ee']
      exact TR_upd w4 w5 hTd' (k0 := 9) (j0 := c) (i0 := 10 + 9 * c + 8) (by unfold mp; omega) (by omega)
    have e9e : Me t 7 = hCe T m n c 9 := hTe.rd (k := 0) (j := 7) (i := 9) (by unfold mp; omega)
    have ef' : Mf = mu Me (t + 0) 7 (hCe T m n c 9 + (hCd T m n c).2) := by rw [ef, e9e]; rfl
    have hTf : TR Mf t (hC T m n c) n m tt := by
      rw [ef']
      exact TR_upd w4 w5 hTe (k0 := 0) (j0 := 7) (i0 := 9) (by unfold mp; omega) (by omega)
    refine ih Mf ⟨hTf, ?_, fun a a0 a7 a8 a9 a15 a16 => ?_⟩
    · rw [ef', mu_el (by omega), ee', mu_row (by omega), hfrd t (by omega), rc10, rb10]
    · rw [ef', mu_row (by omega), ee', mu_row (by omega), hfrd a a7, hfrc a a0 a15 a16, frb a a0 a8, hfr a a0 a7 a8 a9 a15 a16]
