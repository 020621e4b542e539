/-! the class: orders done -/
theorem TR_sr {M : Mm} {H S : SS} {n m tt : Nat} (h : TR M 24 S n m tt) : TR (sr M 141 H) 24 S n m tt := h.of (fun j _ _ => by rw [sr_o (by omega)]) (fun k _ _ => sr_o (by omega))
theorem sp3_isInRange {Post : Mm → Int32 → Prop} {M : Mm} {H S : SS} {n m tt : Nat} {c v : Int32} (hT : TR M 24 S n m tt) (h8 : n ≤ 8) (h10 : m ≤ 10) (h4 : H 4 = c) (h5 : H 5 = v) (h : Post (sr M 141 H) (b2i (rngF n m c v))) : wX3_isInRange Post (sr M 141 H) 141 24 := by
  have hT' : TR (sr M 141 H) 24 S n m tt := TR_sr hT
  have r4 : sr M 141 H 141 4 = c := by rw [sr_s]; exact h4
  have r5 : sr M 141 H 141 5 = v := by rw [sr_s]; exact h5
  intro sw es
  rw [r4] at es
  subst es
  unfold rngF at h
  rw [r5]
  have gate : (sw = 99 ∨ sw = 111) → bX3_isInRange_48 Post (sr M 141 H) 141 24 := by
    intro z
    rw [if_pos z] at h
    unfold bX3_isInRange_48
    rw [r5]
    exact sp0_hasGate (t := 24) hT' h8 ⟨b2i_01 _, h⟩
  refine ⟨fun d => gate (Or.inl d), fun d1 => ⟨fun d => gate (Or.inr d), fun d2 => ⟨fun d => ?_, fun d3 => ⟨fun d => ?_, fun d4 => ?_⟩⟩⟩⟩
  · rw [if_neg (by rintro (z | z); exact d1 z; exact d2 z), if_pos d] at h
    refine sp6_isOutside (a := 1) (b := 11) (by decide) (by decide) ⟨fun e => ?_, fun e => ?_⟩
    · have : inr 1 11 v = false := by
        cases hh : inr 1 11 v
        · rfl
        · exact absurd hh (b_sw'.mp e)
      rw [this] at h; exact h
    · rw [b_sw.mp e] at h; exact h
  · rw [if_neg (by rintro (z | z); exact d1 z; exact d2 z), if_neg d3, if_pos d] at h
    exact sp1_has (t := 24) hT' h10 ⟨b2i_01 _, h⟩
  · rw [if_neg (by rintro (z | z); exact d1 z; exact d2 z), if_neg d3, if_neg d4] at h
    exact h
theorem oo_nn {S : SS} {n : Nat} (hv : VO S n) (h8 : n ≤ 8) : ¬ oo S n ≤ -1000001 := by
  rw [oo_ofB hv n (Nat.le_refl _)]
  exact nn_not (ofB_nn (by omega))
theorem mv_do {S : SS} {n m tt g : Nat} {o : Int32} (hV : VV S n m tt) (h1 : 1 ≤ g) (hg : g < n) (ho : o = 0 ∨ o = 1) : ((mvF S n (nI g) o).2 ≤ -1000001 ↔ (ca S g 4 = o ∨ ¬ 0 ≤ ca S g 5)) ∧ (¬ (ca S g 4 = o ∨ ¬ 0 ≤ ca S g 5) → (mvF S n (nI g) o).1 = upd S (14 + 9 * g) o) := by
  have hle := hV.1.le
  unfold mvF
  rw [if_pos (inr_nI h1 hg (by omega)), ixn (by omega)]
  by_cases z : ca S g 4 = o ∨ ¬ 0 ≤ ca S g 5
  · rw [if_pos z]
    exact ⟨⟨fun _ => z, fun _ => (show (-1000002 : Int32) ≤ -1000001 by decide)⟩, fun y => absurd z y⟩
  · rw [if_neg z]
    exact ⟨⟨fun y => absurd y (oo_nn (VO_mv hV.1.2.2.2.2.1 h1 ho) hle.1.2), fun y => absurd y z⟩, fun _ => rfl⟩
theorem cl_do {S : SS} {m f : Nat} (h10 : m ≤ 10) (hf : f < m) : ((clF S m (nI f)).2 ≤ -1000001 ↔ (fi S f 5 = 1 ∨ wt S f = false)) ∧ (¬ (fi S f 5 = 1 ∨ wt S f = false) → (clF S m (nI f)).1 = upd S (87 + 7 * f) 1) := by
  unfold clF
  rw [if_pos (inr_nI (Nat.zero_le _) hf (by omega)), ixn (by omega)]
  by_cases z : fi S f 5 = 1 ∨ wt S f = false
  · rw [if_pos z]
    exact ⟨⟨fun _ => z, fun _ => (show (-1000002 : Int32) ≤ -1000001 by decide)⟩, fun y => absurd z y⟩
  · rw [if_neg z]
    refine ⟨⟨fun y => ?_, fun y => absurd y z⟩, fun _ => rfl⟩
    obtain ⟨v, hv, e⟩ := onF_nat (x := cl (upd S (87 + 7 * f) 1) m) 10 (by omega)
    have y' : onF (cl (upd S (87 + 7 * f) 1) m) 10 ≤ -1000001 := y
    rw [e] at y'
    exact absurd y' (nI_not (by omega))
theorem go_do {S : SS} {n m tt hr : Nat} {b : Int32} (hV : VV S n m tt) (hb : inr 0 1000 b = true) (h5 : S 5 = nI hr) (hr2 : hr ≤ 20000) : ((goesF S n m b).2 ≤ -1000001 ↔ ¬ hr < 20000) ∧ (hr < 20000 → goesF S n m b = (flowF S n m b, flowF S n m b 7 - S 7)) := by
  have hb0 : 0 ≤ b.toInt := by have := i_rg hb; omega
  unfold goesF
  rw [if_pos hb, h5]
  by_cases z : hr < 20000
  · have hne : ¬ nI hr = 20000 := fun y => by have := nI_inj (b := 20000) (by omega) (by omega) y; omega
    rw [if_neg hne]
    exact ⟨⟨fun y => absurd y (hour_nn hV hb0 h5 z), fun y => absurd z y⟩, fun _ => rfl⟩
  · have heq : nI hr = 20000 := by rw [show hr = 20000 by omega]; rfl
    rw [if_pos heq]
    exact ⟨⟨fun _ => z, fun _ => (show (-1000003 : Int32) ≤ -1000001 by decide)⟩, fun y => absurd y z⟩
theorem run_do {S : SS} {n m tt most k : Nat} {b : Int32} (hV : VV S n m tt) (hm : most ≤ 100) (k1 : 1 ≤ k) (k2 : k ≤ most) (hb : inr 0 1000 b = true) : ((runsF S n m most (nI k) b).2 ≤ -1000001 ↔ ¬ S 5 + nI k ≤ 20000) ∧ (S 5 + nI k ≤ 20000 → runsF S n m most (nI k) b = rsF S n m b k) := by
  obtain ⟨hr, h5, hr2, -, -⟩ := VA_hr hV.2.2
  have hb0 : 0 ≤ b.toInt := by have := i_rg hb; omega
  have er : (nI hr).toInt = hr := nI_toInt (by omega)
  have ek : (nI k).toInt = k := nI_toInt (by omega)
  have e20 : (20000 : Int32).toInt = 20000 := by decide
  unfold runsF
  rw [if_pos ⟨inr_nI k1 (by omega) (by omega), hb⟩, ixn (by omega)]
  by_cases z : S 5 + nI k ≤ 20000
  · rw [if_pos z]
    have hle : hr + k ≤ 20000 := by
      have := i_le.mp z
      rw [h5, i_add (by omega) (by omega), er, ek] at this
      omega
    exact ⟨⟨fun y => absurd y (run_nn hV hb0 h5 hle), fun y => absurd z y⟩, fun _ => rfl⟩
  · rw [if_neg z]
    exact ⟨⟨fun _ => z, fun _ => (show (-1000003 : Int32) ≤ -1000001 by decide)⟩, fun y => absurd y z⟩
theorem do99 {S : SS} {n m : Nat} {v w : Int32} : doF S n m 99 v w = mvF S n v 0 := rfl
theorem do104 {S : SS} {n m : Nat} {v w : Int32} : doF S n m 104 v w = goesF S n m v := rfl
theorem do111 {S : SS} {n m : Nat} {v w : Int32} : doF S n m 111 v w = mvF S n v 1 := rfl
theorem do121 {S : SS} {n m : Nat} {v w : Int32} : doF S n m 121 v w = clF S m v := rfl
theorem do114 {S : SS} {n m : Nat} {v w : Int32} : doF S n m 114 v w = runsF S n m 10 v w := rfl
theorem nn_in {w : Nat} (h : w ≤ 999) : inr 0 1000 (nI w) = true := inr_nI (Nat.zero_le _) (by omega) (by omega)
theorem sp3_isPossible {Post : Mm → Int32 → Prop} {M : Mm} {H S : SS} {n m tt : Nat} {c v w : Int32} (hT : TR M 24 S n m tt) (hV : VV S n m tt) (h4 : H 4 = c) (h5 : H 5 = v) (hl : ltr c) (hr : rngF n m c v = true) (hv : ∃ k : Nat, k ≤ 999 ∧ v = nI k) (hw : ∃ k : Nat, k ≤ 999 ∧ w = nI k)
    (h : Post (sr M 141 H) (if (doF S n m c v w).2 ≤ -1000001 then 0 else 1)) : wX3_isPossible Post (sr M 141 H) 141 24 := by
  have hle := hV.1.le
  have hT' : TR (sr M 141 H) 24 S n m tt := TR_sr hT
  have r4 : sr M 141 H 141 4 = c := by rw [sr_s]; exact h4
  have r5 : sr M 141 H 141 5 = v := by rw [sr_s]; exact h5
  obtain ⟨hr0, hh5, hr2, -, -⟩ := VA_hr hV.2.2
  have er : (nI hr0).toInt = hr0 := nI_toInt (by omega)
  have e1 : (1 : Int32).toInt = 1 := by decide
  have e20 : (20000 : Int32).toInt = 20000 := by decide
  intro sw es
  rw [r4] at es
  subst es
  rw [r5]
  obtain ⟨k, hk, ev⟩ := hv
  obtain ⟨kw, hkw, ew⟩ := hw
  have z1 : (1 : Int32) = 0 ∨ (1 : Int32) = 1 := Or.inr rfl
  have z0 : (0 : Int32) = 0 ∨ (0 : Int32) = 1 := Or.inl rfl
  refine ⟨fun d => ?_, fun d1 => ⟨fun d => ?_, fun d2 => ⟨fun d => ?_, fun d3 => ⟨fun d => ?_, fun d4 => ?_⟩⟩⟩⟩
  · subst d
    have g : inr 1 n v = true := hr
    obtain ⟨q, q1, q2, eq⟩ := inr_of g
    subst eq
    rw [do99] at h
    obtain ⟨a, -⟩ := mv_do (o := 0) hV q1 q2 (Or.inl rfl)
    refine sp0_canBeClosed (t := 24) hT' hle.1.2 hV.1.2.2.2.2.1 hV.2.1.1 q2 rfl (fun z => ⟨z1, ?_⟩) (fun z => ⟨z0, ?_⟩)
    · rw [if_neg (fun y => z (a.mp y))] at h; exact h
    · rw [if_pos (a.mpr z)] at h; exact h
  · subst d
    subst ev
    rw [do104] at h
    obtain ⟨a, -⟩ := go_do hV (nn_in hk) hh5 hr2
    have ea : (S 5 + 1).toInt = hr0 + 1 := by rw [hh5, i_add (by omega) (by omega), er, e1]
    refine sp4_hasHoursLeft (t := 24) hT' hh5 hr2 (by omega) (by omega) (fun z => ⟨z1, ?_⟩) (fun z => ⟨z0, ?_⟩)
    · rw [if_neg (fun y => a.mp y (by have := i_le.mp z; omega))] at h; exact h
    · rw [if_pos (a.mpr (fun y => z (i_le.mpr (by omega))))] at h; exact h
  · subst d
    have g : inr 1 n v = true := hr
    obtain ⟨q, q1, q2, eq⟩ := inr_of g
    subst eq
    rw [do111] at h
    obtain ⟨a, -⟩ := mv_do (o := 1) hV q1 q2 (Or.inr rfl)
    refine sp0_canBeOpened (t := 24) hT' hle.1.2 hV.1.2.2.2.2.1 hV.2.1.1 q2 rfl (fun z => ⟨z1, ?_⟩) (fun z => ⟨z0, ?_⟩)
    · rw [if_neg (fun y => z (a.mp y))] at h; exact h
    · rw [if_pos (a.mpr z)] at h; exact h
  · subst d
    have g : inr 0 m v = true := hr
    obtain ⟨q, q1, q2, eq⟩ := inr_of g
    subst eq
    rw [do121] at h
    obtain ⟨a, -⟩ := cl_do (S := S) hle.2.1 q2
    refine sp1_canCall (t := 24) hT' hle.2.1 q2 rfl (fun z => ⟨z1, ?_⟩) (fun z => ⟨z0, ?_⟩)
    · rw [if_neg (fun y => z (a.mp y))] at h; exact h
    · rw [if_pos (a.mpr z)] at h; exact h
  · have d : sw = 114 := by
      rcases hl with z | z | z | z | z
      · exact absurd z d3
      · exact absurd z d1
      · exact absurd z d4
      · exact absurd z d2
      · exact z
    subst d
    have g : inr 1 11 v = true := hr
    obtain ⟨q, q1, q2, eq⟩ := inr_of g
    subst eq
    subst ew
    rw [do114] at h
    obtain ⟨a, -⟩ := run_do (most := 10) hV (by omega) q1 (by omega) (nn_in hkw)
    have eq : (nI q).toInt = q := nI_toInt (by omega)
    refine sp4_hasHoursLeft (t := 24) hT' hh5 hr2 (by omega) (by omega) (fun z => ⟨z1, ?_⟩) (fun z => ⟨z0, ?_⟩)
    · rw [if_neg (fun y => a.mp y z)] at h; exact h
    · rw [if_pos (a.mpr z)] at h; exact h
theorem sp3_carryOut {Post : Mm → Int32 → Prop} {M : Mm} {H S : SS} {n m tt : Nat} {c v w : Int32} (hT : TR M 24 S n m tt) (hV : VV S n m tt) (h4 : H 4 = c) (h5 : H 5 = v) (h6 : c = 114 → H 6 = w) (hl : ltr c) (hr : rngF n m c v = true) (hv : ∃ k : Nat, k ≤ 999 ∧ v = nI k) (hw : ∃ k : Nat, k ≤ 999 ∧ w = nI k)
    (hok : ¬ (doF S n m c v w).2 ≤ -1000001) (h : ∀ M', TR M' 24 (doF S n m c v w).1 n m tt → Fro (sr M 141 H) M' 24 → Post M' (if c = 104 ∨ c = 114 then (doF S n m c v w).2 else 0)) : wX3_carryOut Post (sr M 141 H) 141 24 := by
  have hle := hV.1.le
  have hT' : TR (sr M 141 H) 24 S n m tt := TR_sr hT
  have r4 : sr M 141 H 141 4 = c := by rw [sr_s]; exact h4
  have r5 : sr M 141 H 141 5 = v := by rw [sr_s]; exact h5
  obtain ⟨hr0, hh5, hr2, -, -⟩ := VA_hr hV.2.2
  intro sw es
  rw [r4] at es
  subst es
  rw [r5]
  obtain ⟨k, hk, ev⟩ := hv
  obtain ⟨kw, hkw, ew⟩ := hw
  have gate : ∀ o : Int32, (o = 0 ∨ o = 1) → doF S n m sw v w = mvF S n v o → inr 1 n v = true → ¬ (sw = 104 ∨ sw = 114) → bX3_carryOut_48 Post (sr M 141 H) 141 24 := by
    intro o ho ed g hn
    obtain ⟨q, q1, q2, eq⟩ := inr_of g
    subst eq
    rw [ed, if_neg hn] at h
    rw [ed] at hok
    obtain ⟨a, b⟩ := mv_do (o := o) hV q1 q2 ho
    have hc := fun z => hok (a.mpr z)
    rw [b hc] at h
    unfold bX3_carryOut_48
    rw [r5]
    refine sp0_moveGate (t := 24) hT' hle.1.2 hV.1.2.2.2.2.1 q1 q2 rfl ho (fun z => hc (Or.inl z)) (fun M' hT2 hf => h M' hT2 (fun a ha => hf a (by omega)))
  refine ⟨fun d => ?_, fun d1 => ⟨fun d => ?_, fun d2 => ⟨fun d => ?_, fun d3 => ⟨fun d => ?_, fun d4 => ?_⟩⟩⟩⟩
  · subst d
    exact gate 0 (Or.inl rfl) rfl hr (by decide)
  · subst d
    subst ev
    rw [do104] at hok h
    obtain ⟨a, b⟩ := go_do hV (nn_in hk) hh5 hr2
    have hlt : hr0 < 20000 := Classical.byContradiction (fun z => hok (a.mpr z))
    rw [b hlt, if_pos (by decide)] at h
    have hb0 : 0 ≤ (nI k).toInt := by rw [nI_toInt (by omega)]; omega
    exact sp4_passHour (t := 24) hT' hV.1.1 hV.1.2.2.1 hV.1.2.2.2.1 hb0 (fun M' hT2 hf => h M' hT2 hf)
  · subst d
    exact gate 1 (Or.inr rfl) rfl hr (by decide)
  · subst d
    have g : inr 0 m v = true := hr
    obtain ⟨q, q1, q2, eq⟩ := inr_of g
    subst eq
    rw [do121] at hok h
    obtain ⟨a, b⟩ := cl_do (S := S) hle.2.1 q2
    rw [b (fun z => hok (a.mpr z)), if_neg (by decide)] at h
    exact sp1_beginCall (t := 24) hT' hle.1.2 hle.2.1 hV.1.2.2.1 q2 rfl (fun M' hT2 hf => h M' hT2 (fun a ha => hf a (by omega)))
  · have d : sw = 114 := by
      rcases hl with z | z | z | z | z
      · exact absurd z d3
      · exact absurd z d1
      · exact absurd z d4
      · exact absurd z d2
      · exact z
    subst d
    have r6 : sr M 141 H 141 6 = w := by rw [sr_s]; exact h6 rfl
    have g : inr 1 11 v = true := hr
    obtain ⟨q, q1, q2, eq⟩ := inr_of g
    subst eq
    subst ew
    rw [do114] at hok h
    obtain ⟨a, b⟩ := run_do (most := 10) hV (by omega) q1 (by omega) (nn_in hkw)
    have hle2 : S 5 + nI q ≤ 20000 := Classical.byContradiction (fun z => hok (a.mpr z))
    rw [b hle2, if_pos (by decide)] at h
    have hb0 : 0 ≤ (nI kw).toInt := by rw [nI_toInt (by omega)]; omega
    rw [r6]
    exact sp4_runHours (t := 24) hT' hV.1 rfl (by omega) hb0 (fun M' hT2 hf => h M' hT2 hf)
