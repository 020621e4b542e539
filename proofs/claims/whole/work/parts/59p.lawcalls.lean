/-! the law: each call, class and reference -/
theorem law_canal {Post : Mm → Int32 → Int32 → Prop} {V1 : Prop} {V2 : Prop} {V3 : Prop} {V4 : Prop} {M : Mm} {n m tt s L : Nat} {P : Nat → Nat} {a b c d : Int32} (v1 : V1) (v2 : V2) (v3 : V3) (v4 : V4) (hI : INVd M n m tt s L P) (h : ∀ M' r, INV M' → Post M' r r) : wX6_canal (fun M1 r1 => V1 ∧ V2 ∧ V3 ∧ V4 ∧ wX7_canal (fun M2 r2 => Post M2 r1 r2) M1 143 a b c d) M 0 a b c d := by
  have hI0 := hI
  obtain ⟨h4, hV, hT, hp, h47, h43, h41, h46, hX, hh⟩ := hI
  obtain ⟨hF, hO, hK, hW⟩ := hV.bits
  obtain ⟨hr, h5, hr2, -, -⟩ := VA_hr hV.2.2
  refine sp6_canal hp h47 h4 hT hW (fun M4 n' hn hC => ⟨v1, v2, v3, v4, ?_⟩)
  have e : M4 144 = M 144 := hC.2.1 144 (by omega)
  have e43 : M4 143 4 = nI s := by rw [hC.2.1 143 (by omega)]; exact h43
  refine sp7_canal (n := n) (m := m) (t := tt) (s := s) (by rw [e]; exact hW) e43 h4 ?_
  rw [e]
  exact fun M6 hA6 => h M6 _ (inv_act hI0 hC.o (Act_O hA6) (VV_can hV hn))
theorem law_field {Post : Mm → Int32 → Int32 → Prop} {V1 : Prop} {V2 : Prop} {V3 : Prop} {V4 : Prop} {M : Mm} {n m tt s L : Nat} {P : Nat → Nat} {a b c d : Int32} (v1 : V1) (v2 : V2) (v3 : V3) (v4 : V4) (hI : INVd M n m tt s L P) (h : ∀ M' r, INV M' → Post M' r r) : wX6_field (fun M1 r1 => V1 ∧ V2 ∧ V3 ∧ V4 ∧ wX7_field (fun M2 r2 => Post M2 r1 r2) M1 143 a b c d) M 0 a b c d := by
  have hI0 := hI
  obtain ⟨h4, hV, hT, hp, h47, h43, h41, h46, hX, hh⟩ := hI
  obtain ⟨hF, hO, hK, hW⟩ := hV.bits
  obtain ⟨hr, h5, hr2, -, -⟩ := VA_hr hV.2.2
  refine sp6_field hp h47 h4 hT hW (fun M4 n' hn hC => ⟨v1, v2, v3, v4, ?_⟩)
  have e : M4 144 = M 144 := hC.2.1 144 (by omega)
  have e43 : M4 143 4 = nI s := by rw [hC.2.1 143 (by omega)]; exact h43
  refine sp7_field (n := n) (m := m) (t := tt) (s := s) (by rw [e]; exact hW) e43 h4 ?_
  rw [e]
  exact fun M6 hA6 => h M6 _ (inv_act hI0 hC.o (Act_O hA6) (VV_fld hV hn))
theorem law_tend {Post : Mm → Int32 → Int32 → Prop} {V1 : Prop} {V2 : Prop} {M : Mm} {n m tt s L : Nat} {P : Nat → Nat} {a b : Int32} (v1 : V1) (v2 : V2) (hI : INVd M n m tt s L P) (h : ∀ M' r, INV M' → Post M' r r) : wX6_tend (fun M1 r1 => V1 ∧ V2 ∧ wX7_tend (fun M2 r2 => Post M2 r1 r2) M1 143 a b) M 0 a b := by
  have hI0 := hI
  obtain ⟨h4, hV, hT, hp, h47, h43, h41, h46, hX, hh⟩ := hI
  obtain ⟨hF, hO, hK, hW⟩ := hV.bits
  obtain ⟨hr, h5, hr2, -, -⟩ := VA_hr hV.2.2
  refine sp6_tend' hp h47 h4 hT hV (fun M4 hC => ⟨v1, v2, ?_⟩)
  have e : M4 144 = M 144 := hC.2.1 144 (by omega)
  have e43 : M4 143 4 = nI s := by rw [hC.2.1 143 (by omega)]; exact h43
  refine sp7_tend (n := n) (m := m) (t := tt) (s := s) (by rw [e]; exact hW) e43 h4 ?_
  rw [e]
  exact fun M6 hA6 => h M6 _ (inv_act hI0 hC.o (Act_O hA6) (VV_tnd hV))
theorem law_leave {Post : Mm → Int32 → Int32 → Prop} {V1 : Prop} {M : Mm} {n m tt s L : Nat} {P : Nat → Nat} {a : Int32} (v1 : V1) (hI : INVd M n m tt s L P) (h : ∀ M' r, INV M' → Post M' r r) : wX6_leave (fun M1 r1 => V1 ∧ wX7_leave (fun M2 r2 => Post M2 r1 r2) M1 143 a) M 0 a := by
  have hI0 := hI
  obtain ⟨h4, hV, hT, hp, h47, h43, h41, h46, hX, hh⟩ := hI
  obtain ⟨hF, hO, hK, hW⟩ := hV.bits
  obtain ⟨hr, h5, hr2, -, -⟩ := VA_hr hV.2.2
  refine sp6_leave hp h47 h4 hT hW hK (fun M4 hC => ⟨v1, ?_⟩)
  have e : M4 144 = M 144 := hC.2.1 144 (by omega)
  have e43 : M4 143 4 = nI s := by rw [hC.2.1 143 (by omega)]; exact h43
  refine sp7_leave (n := n) (m := m) (t := tt) (s := s) (by rw [e]; exact hW) e43 h4 ?_
  rw [e]
  exact fun M6 hA6 => h M6 _ (inv_act hI0 hC.o (Act_O hA6) (VV_lv hV))
theorem law_open {Post : Mm → Int32 → Int32 → Prop} {V1 : Prop} {M : Mm} {n m tt s L : Nat} {P : Nat → Nat} {a : Int32} (v1 : V1) (hI : INVd M n m tt s L P) (h : ∀ M' r, INV M' → Post M' r r) : wX6_open (fun M1 r1 => V1 ∧ wX7_open (fun M2 r2 => Post M2 r1 r2) M1 143 a) M 0 a := by
  have hI0 := hI
  obtain ⟨h4, hV, hT, hp, h47, h43, h41, h46, hX, hh⟩ := hI
  obtain ⟨hF, hO, hK, hW⟩ := hV.bits
  obtain ⟨hr, h5, hr2, -, -⟩ := VA_hr hV.2.2
  refine sp6_open hp h47 h4 hT hW hO hK (fun M4 hC => ⟨v1, ?_⟩)
  have e : M4 144 = M 144 := hC.2.1 144 (by omega)
  have e43 : M4 143 4 = nI s := by rw [hC.2.1 143 (by omega)]; exact h43
  refine sp7_open (n := n) (m := m) (t := tt) (s := s) (by rw [e]; exact hW) e43 h4 ?_
  rw [e]
  exact fun M6 hA6 => h M6 _ (inv_act hI0 hC.o (Act_O hA6) (VV_mv hV (Or.inr rfl)))
theorem law_close {Post : Mm → Int32 → Int32 → Prop} {V1 : Prop} {M : Mm} {n m tt s L : Nat} {P : Nat → Nat} {a : Int32} (v1 : V1) (hI : INVd M n m tt s L P) (h : ∀ M' r, INV M' → Post M' r r) : wX6_close (fun M1 r1 => V1 ∧ wX7_close (fun M2 r2 => Post M2 r1 r2) M1 143 a) M 0 a := by
  have hI0 := hI
  obtain ⟨h4, hV, hT, hp, h47, h43, h41, h46, hX, hh⟩ := hI
  obtain ⟨hF, hO, hK, hW⟩ := hV.bits
  obtain ⟨hr, h5, hr2, -, -⟩ := VA_hr hV.2.2
  refine sp6_close hp h47 h4 hT hW hO hK (fun M4 hC => ⟨v1, ?_⟩)
  have e : M4 144 = M 144 := hC.2.1 144 (by omega)
  have e43 : M4 143 4 = nI s := by rw [hC.2.1 143 (by omega)]; exact h43
  refine sp7_close (n := n) (m := m) (t := tt) (s := s) (by rw [e]; exact hW) e43 h4 ?_
  rw [e]
  exact fun M6 hA6 => h M6 _ (inv_act hI0 hC.o (Act_O hA6) (VV_mv hV (Or.inl rfl)))
theorem law_call {Post : Mm → Int32 → Int32 → Prop} {V1 : Prop} {M : Mm} {n m tt s L : Nat} {P : Nat → Nat} {a : Int32} (v1 : V1) (hI : INVd M n m tt s L P) (h : ∀ M' r, INV M' → Post M' r r) : wX6_call (fun M1 r1 => V1 ∧ wX7_call (fun M2 r2 => Post M2 r1 r2) M1 143 a) M 0 a := by
  have hI0 := hI
  obtain ⟨h4, hV, hT, hp, h47, h43, h41, h46, hX, hh⟩ := hI
  obtain ⟨hF, hO, hK, hW⟩ := hV.bits
  obtain ⟨hr, h5, hr2, -, -⟩ := VA_hr hV.2.2
  refine sp6_call hp h47 h4 hT hW hF (fun M4 hC => ⟨v1, ?_⟩)
  have e : M4 144 = M 144 := hC.2.1 144 (by omega)
  have e43 : M4 143 4 = nI s := by rw [hC.2.1 143 (by omega)]; exact h43
  refine sp7_call (n := n) (m := m) (t := tt) (s := s) (by rw [e]; exact hW) e43 h4 ?_
  rw [e]
  exact fun M6 hA6 => h M6 _ (inv_act hI0 hC.o (Act_O hA6) (VV_cl hV))
theorem law_turn {Post : Mm → Int32 → Int32 → Prop} {V1 : Prop} {V2 : Prop} {M : Mm} {n m tt s L : Nat} {P : Nat → Nat} {a b : Int32} (v1 : V1) (v2 : V2) (hI : INVd M n m tt s L P) (h : ∀ M' r, INV M' → Post M' r r) : wX6_turn (fun M1 r1 => V1 ∧ V2 ∧ wX7_turn (fun M2 r2 => Post M2 r1 r2) M1 143 a b) M 0 a b := by
  have hI0 := hI
  obtain ⟨h4, hV, hT, hp, h47, h43, h41, h46, hX, hh⟩ := hI
  obtain ⟨hF, hO, hK, hW⟩ := hV.bits
  obtain ⟨hr, h5, hr2, -, -⟩ := VA_hr hV.2.2
  refine sp6_turn hp h47 h4 hT hW (fun M4 n' hn hC => ⟨v1, v2, ?_⟩)
  have e : M4 144 = M 144 := hC.2.1 144 (by omega)
  have e43 : M4 143 4 = nI s := by rw [hC.2.1 143 (by omega)]; exact h43
  refine sp7_turn (n := n) (m := m) (t := tt) (s := s) (by rw [e]; exact hW) e43 h4 ?_
  rw [e]
  exact fun M6 hA6 => h M6 _ (inv_act hI0 hC.o (Act_O hA6) (VV_trn hV hn))
theorem law_noTurns {Post : Mm → Int32 → Int32 → Prop} {M : Mm} {n m tt s L : Nat} {P : Nat → Nat} (hI : INVd M n m tt s L P) (h : ∀ M' r, INV M' → Post M' r r) : wX6_noTurns (fun M1 r1 => wX7_noTurns (fun M2 r2 => Post M2 r1 r2) M1 143) M 0 := by
  have hI0 := hI
  obtain ⟨h4, hV, hT, hp, h47, h43, h41, h46, hX, hh⟩ := hI
  obtain ⟨hF, hO, hK, hW⟩ := hV.bits
  obtain ⟨hr, h5, hr2, -, -⟩ := VA_hr hV.2.2
  refine sp6_noTurns hp h47 h4 hT hW (fun M4 hC => ?_)
  have e : M4 144 = M 144 := hC.2.1 144 (by omega)
  have e43 : M4 143 4 = nI s := by rw [hC.2.1 143 (by omega)]; exact h43
  refine sp7_noTurns (n := n) (m := m) (t := tt) (s := s) (by rw [e]; exact hW) e43 h4 ?_
  rw [e]
  exact fun M6 hA6 => h M6 _ (inv_act hI0 hC.o (Act_O hA6) (VV_nt hV))
theorem law_hour {Post : Mm → Int32 → Int32 → Prop} {V1 : Prop} {M : Mm} {n m tt s L : Nat} {P : Nat → Nat} {a : Int32} (v1 : V1) (hI : INVd M n m tt s L P) (h : ∀ M' r, INV M' → Post M' r r) : wX6_hour (fun M1 r1 => V1 ∧ wX7_hour (fun M2 r2 => Post M2 r1 r2) M1 143 a) M 0 a := by
  have hI0 := hI
  obtain ⟨h4, hV, hT, hp, h47, h43, h41, h46, hX, hh⟩ := hI
  obtain ⟨hF, hO, hK, hW⟩ := hV.bits
  obtain ⟨hr, h5, hr2, -, -⟩ := VA_hr hV.2.2
  refine sp6_hour hp h47 h4 hT hW hF hV.1.2.2.2.1 h5 hr2 (fun g gl => hour_nn hV (by have := i_rg g; omega) h5 gl) (fun M4 hC => ⟨v1, ?_⟩)
  have e : M4 144 = M 144 := hC.2.1 144 (by omega)
  have e43 : M4 143 4 = nI s := by rw [hC.2.1 143 (by omega)]; exact h43
  refine sp7_hour (n := n) (m := m) (t := tt) (s := s) (by rw [e]; exact hW) e43 h4 ?_
  rw [e]
  exact fun M6 hA6 => h M6 _ (inv_act hI0 hC.o (Act_O hA6) ((VV_goes hV).1))
theorem law_run {Post : Mm → Int32 → Int32 → Prop} {V1 : Prop} {V2 : Prop} {M : Mm} {n m tt s L : Nat} {P : Nat → Nat} {a b : Int32} (v1 : V1) (v2 : V2) (hI : INVd M n m tt s L P) (h : ∀ M' r, INV M' → Post M' r r) : wX6_run (fun M1 r1 => V1 ∧ V2 ∧ wX7_run (fun M2 r2 => Post M2 r1 r2) M1 143 a b) M 0 a b := by
  have hI0 := hI
  obtain ⟨h4, hV, hT, hp, h47, h43, h41, h46, hX, hh⟩ := hI
  obtain ⟨hF, hO, hK, hW⟩ := hV.bits
  obtain ⟨hr, h5, hr2, -, -⟩ := VA_hr hV.2.2
  refine sp6_run hp h47 h4 hT hV.1 h5 hr2 (fun k _ hk g => run_nn hV (by have := i_rg g; omega) h5 hk) (fun M4 hC => ⟨v1, v2, ?_⟩)
  have e : M4 144 = M 144 := hC.2.1 144 (by omega)
  have e43 : M4 143 4 = nI s := by rw [hC.2.1 143 (by omega)]; exact h43
  refine sp7_run (n := n) (m := m) (t := tt) (s := s) (by rw [e]; exact hW) (by rw [e]; exact hV.1.2.1) e43 h4 ?_
  rw [e]
  exact fun M6 hA6 => h M6 _ (inv_act hI0 hC.o (Act_O hA6) ((VV_runs hV (by omega)).1))
theorem law_canalOf {Post : Mm → Int32 → Int32 → Prop} {V1 : Prop} {V2 : Prop} {M : Mm} {n m tt s L : Nat} {P : Nat → Nat} {a b : Int32} (v1 : V1) (v2 : V2) (hI : INVd M n m tt s L P) (h : ∀ M' r, INV M' → Post M' r r) : wX6_canalOf (fun M1 r1 => V1 ∧ V2 ∧ wX7_canalOf (fun M2 r2 => Post M2 r1 r2) M1 143 a b) M 0 a b := by
  have hI0 := hI
  obtain ⟨h4, hV, hT, hp, h47, h43, h41, h46, hX, hh⟩ := hI
  obtain ⟨hF, hO, hK, hW⟩ := hV.bits
  obtain ⟨hr, h5, hr2, -, -⟩ := VA_hr hV.2.2
  refine sp6_canalOf hT hV (fun M4 hQ => ⟨v1, v2, ?_⟩)
  have e : M4 144 = M 144 := hQ.2.1 144 (by omega) (by omega)
  refine sp7_canalOf (n := n) (m := m) (t := tt) (by rw [e]; exact hW) ?_
  rw [e]
  exact h M4 _ (inv_ask hI0 hQ RQ_self)
theorem law_fieldOf {Post : Mm → Int32 → Int32 → Prop} {V1 : Prop} {V2 : Prop} {M : Mm} {n m tt s L : Nat} {P : Nat → Nat} {a b : Int32} (v1 : V1) (v2 : V2) (hI : INVd M n m tt s L P) (h : ∀ M' r, INV M' → Post M' r r) : wX6_fieldOf (fun M1 r1 => V1 ∧ V2 ∧ wX7_fieldOf (fun M2 r2 => Post M2 r1 r2) M1 143 a b) M 0 a b := by
  have hI0 := hI
  obtain ⟨h4, hV, hT, hp, h47, h43, h41, h46, hX, hh⟩ := hI
  obtain ⟨hF, hO, hK, hW⟩ := hV.bits
  obtain ⟨hr, h5, hr2, -, -⟩ := VA_hr hV.2.2
  refine sp6_fieldOf hT hV (fun M4 hQ => ⟨v1, v2, ?_⟩)
  have e : M4 144 = M 144 := hQ.2.1 144 (by omega) (by omega)
  refine sp7_fieldOf (n := n) (m := m) (t := tt) (by rw [e]; exact hW) ?_
  rw [e]
  exact h M4 _ (inv_ask hI0 hQ RQ_self)
theorem law_turnOf {Post : Mm → Int32 → Int32 → Prop} {V1 : Prop} {V2 : Prop} {M : Mm} {n m tt s L : Nat} {P : Nat → Nat} {a b : Int32} (v1 : V1) (v2 : V2) (hI : INVd M n m tt s L P) (h : ∀ M' r, INV M' → Post M' r r) : wX6_turnOf (fun M1 r1 => V1 ∧ V2 ∧ wX7_turnOf (fun M2 r2 => Post M2 r1 r2) M1 143 a b) M 0 a b := by
  have hI0 := hI
  obtain ⟨h4, hV, hT, hp, h47, h43, h41, h46, hX, hh⟩ := hI
  obtain ⟨hF, hO, hK, hW⟩ := hV.bits
  obtain ⟨hr, h5, hr2, -, -⟩ := VA_hr hV.2.2
  refine sp6_turnOf hT hV (fun M4 hQ => ⟨v1, v2, ?_⟩)
  have e : M4 144 = M 144 := hQ.2.1 144 (by omega) (by omega)
  refine sp7_turnOf (n := n) (m := m) (t := tt) (by rw [e]; exact hW) ?_
  rw [e]
  exact h M4 _ (inv_ask hI0 hQ RQ_self)
theorem law_share {Post : Mm → Int32 → Int32 → Prop} {V1 : Prop} {M : Mm} {n m tt s L : Nat} {P : Nat → Nat} {a : Int32} (v1 : V1) (hI : INVd M n m tt s L P) (h : ∀ M' r, INV M' → Post M' r r) : wX6_share (fun M1 r1 => V1 ∧ wX7_share (fun M2 r2 => Post M2 r1 r2) M1 143 a) M 0 a := by
  have hI0 := hI
  obtain ⟨h4, hV, hT, hp, h47, h43, h41, h46, hX, hh⟩ := hI
  obtain ⟨hF, hO, hK, hW⟩ := hV.bits
  obtain ⟨hr, h5, hr2, -, -⟩ := VA_hr hV.2.2
  refine sp6_share hT hV (fun M4 hQ => ⟨v1, ?_⟩)
  have e : M4 144 = M 144 := hQ.2.1 144 (by omega) (by omega)
  refine sp7_share (by rw [e]; exact share_nn hV.2.2) ?_
  rw [e]
  exact h M4 _ (inv_ask hI0 hQ RQ_self)
theorem law_would {Post : Mm → Int32 → Int32 → Prop} {V1 : Prop} {V2 : Prop} {V3 : Prop} {M : Mm} {n m tt s L : Nat} {P : Nat → Nat} {a b c : Int32} (v1 : V1) (v2 : V2) (v3 : V3) (hI : INVd M n m tt s L P) (h : ∀ M' r, INV M' → Post M' r r) : wX6_would (fun M1 r1 => V1 ∧ V2 ∧ V3 ∧ wX7_would (fun M2 r2 => Post M2 r1 r2) M1 143 a b c) M 0 a b c := by
  have hI0 := hI
  obtain ⟨h4, hV, hT, hp, h47, h43, h41, h46, hX, hh⟩ := hI
  obtain ⟨hF, hO, hK, hW⟩ := hV.bits
  obtain ⟨hr, h5, hr2, -, -⟩ := VA_hr hV.2.2
  refine sp6_would hT hV (fun M4 hQ => ⟨v1, v2, v3, ?_⟩)
  have e : M4 144 = M 144 := hQ.2.1 144 (by omega) (by omega)
  refine sp7_would (n := n) (m := m) (t := tt) (by rw [e]; exact hW) ?_
  rw [e]
  exact fun M6 h6 => h M6 _ (inv_ask hI0 hQ (RQ_147 h6))
theorem law_leastGates {Post : Mm → Int32 → Int32 → Prop} {V1 : Prop} {V2 : Prop} {V3 : Prop} {M : Mm} {n m tt s L : Nat} {P : Nat → Nat} {a b c : Int32} (v1 : V1) (v2 : V2) (v3 : V3) (hI : INVd M n m tt s L P) (h : ∀ M' r, INV M' → Post M' r r) : wX6_leastGates (fun M1 r1 => V1 ∧ V2 ∧ V3 ∧ wX7_leastGates (fun M2 r2 => Post M2 r1 r2) M1 143 a b c) M 0 a b c := by
  have hI0 := hI
  obtain ⟨h4, hV, hT, hp, h47, h43, h41, h46, hX, hh⟩ := hI
  obtain ⟨hF, hO, hK, hW⟩ := hV.bits
  obtain ⟨hr, h5, hr2, -, -⟩ := VA_hr hV.2.2
  refine sp6_leastGates hT hV (fun M4 hQ => ⟨v1, v2, v3, ?_⟩)
  have e : M4 144 = M 144 := hQ.2.1 144 (by omega) (by omega)
  refine sp7_leastGates (n := n) (m := m) (t := tt) (by rw [e]; exact hW) ?_
  rw [e]
  exact fun M6 h6 => h M6 _ (inv_ask hI0 hQ (RQ_147 h6))
theorem law_fewestBuckets {Post : Mm → Int32 → Int32 → Prop} {V1 : Prop} {M : Mm} {n m tt s L : Nat} {P : Nat → Nat} {a : Int32} (v1 : V1) (hI : INVd M n m tt s L P) (h : ∀ M' r, INV M' → Post M' r r) : wX6_fewestBuckets (fun M1 r1 => V1 ∧ wX7_fewestBuckets (fun M2 r2 => Post M2 r1 r2) M1 143 a) M 0 a := by
  have hI0 := hI
  obtain ⟨h4, hV, hT, hp, h47, h43, h41, h46, hX, hh⟩ := hI
  obtain ⟨hF, hO, hK, hW⟩ := hV.bits
  obtain ⟨hr, h5, hr2, -, -⟩ := VA_hr hV.2.2
  refine sp6_fewestBuckets hT hV (fun M4 hQ => ⟨v1, ?_⟩)
  have e : M4 144 = M 144 := hQ.2.1 144 (by omega) (by omega)
  refine sp7_fewestBuckets (n := n) (m := m) (t := tt) (by rw [e]; exact hW) ?_
  rw [e]
  exact fun M6 h6 => h M6 _ (inv_ask hI0 hQ (RQ_147 h6))
theorem law_hoursFor {Post : Mm → Int32 → Int32 → Prop} {V1 : Prop} {M : Mm} {n m tt s L : Nat} {P : Nat → Nat} {a : Int32} (v1 : V1) (hI : INVd M n m tt s L P) (h : ∀ M' r, INV M' → Post M' r r) : wX6_hoursFor (fun M1 r1 => V1 ∧ wX7_hoursFor (fun M2 r2 => Post M2 r1 r2) M1 143 a) M 0 a := by
  have hI0 := hI
  obtain ⟨h4, hV, hT, hp, h47, h43, h41, h46, hX, hh⟩ := hI
  obtain ⟨hF, hO, hK, hW⟩ := hV.bits
  obtain ⟨hr, h5, hr2, -, -⟩ := VA_hr hV.2.2
  refine sp6_hoursFor hT hV (fun M4 hQ => ⟨v1, ?_⟩)
  have e : M4 144 = M 144 := hQ.2.1 144 (by omega) (by omega)
  refine sp7_hoursFor (n := n) (m := m) (t := tt) (by rw [e]; exact hW) (by rw [e]; exact hV.1.2.1) ?_
  rw [e]
  exact fun M6 h6 => h M6 _ (inv_ask hI0 hQ (RQ_147 h6))
theorem law_rightAt {Post : Mm → Int32 → Int32 → Prop} {V1 : Prop} {M : Mm} {n m tt s L : Nat} {P : Nat → Nat} {a : Int32} (v1 : V1) (hI : INVd M n m tt s L P) (h : ∀ M' r, INV M' → Post M' r r) : wX6_rightAt (fun M1 r1 => V1 ∧ wX7_rightAt (fun M2 r2 => Post M2 r1 r2) M1 143 a) M 0 a := by
  have hI0 := hI
  obtain ⟨h4, hV, hT, hp, h47, h43, h41, h46, hX, hh⟩ := hI
  obtain ⟨hF, hO, hK, hW⟩ := hV.bits
  obtain ⟨hr, h5, hr2, -, -⟩ := VA_hr hV.2.2
  refine sp6_rightAt hT hV (fun M4 hQ => ⟨v1, ?_⟩)
  have e : M4 144 = M 144 := hQ.2.1 144 (by omega) (by omega)
  refine sp7_rightAt (n := n) (m := m) (t := tt) (by rw [e]; exact hW) ?_
  rw [e]
  exact h M4 _ (inv_ask hI0 hQ RQ_self)
theorem law_count {Post : Mm → Int32 → Int32 → Prop} {V1 : Prop} {M : Mm} {n m tt s L : Nat} {P : Nat → Nat} {a : Int32} (v1 : V1) (hI : INVd M n m tt s L P) (h : ∀ M' r, INV M' → Post M' r r) : wX6_count (fun M1 r1 => V1 ∧ wX7_count (fun M2 r2 => Post M2 r1 r2) M1 143 a) M 0 a := by
  have hI0 := hI
  obtain ⟨h4, hV, hT, hp, h47, h43, h41, h46, hX, hh⟩ := hI
  obtain ⟨hF, hO, hK, hW⟩ := hV.bits
  obtain ⟨hr, h5, hr2, -, -⟩ := VA_hr hV.2.2
  refine sp6_count hT hV h47 h41 (fun M4 hQ => ⟨v1, ?_⟩)
  have e : M4 144 = M 144 := hQ.2.1 144 (by omega) (by omega)
  have e43 : M4 143 = M 143 := hQ.2.1 143 (by omega) (by omega)
  refine sp7_count (n := n) (m := m) (t := tt) (s := s) (L := L) (by rw [e]; exact hW) (by rw [e43]; exact h43) (by rw [e43]; exact h46) ?_
  rw [e]
  exact h M4 _ (inv_ask hI0 hQ RQ_self)
theorem law_fault {Post : Mm → Int32 → Int32 → Prop} {V1 : Prop} {M : Mm} {n m tt s L : Nat} {P : Nat → Nat} {a : Int32} (v1 : V1) (hI : INVd M n m tt s L P) (h : ∀ M' r, INV M' → Post M' r r) : wX6_fault (fun M1 r1 => V1 ∧ wX7_fault (fun M2 r2 => Post M2 r1 r2) M1 143 a) M 0 a := by
  have hI0 := hI
  obtain ⟨h4, hV, hT, hp, h47, h43, h41, h46, hX, hh⟩ := hI
  obtain ⟨hF, hO, hK, hW⟩ := hV.bits
  obtain ⟨hr, h5, hr2, -, -⟩ := VA_hr hV.2.2
  refine sp6_fault hT hV hX h41 (fun M4 hQ => ⟨v1, ?_⟩)
  have e : M4 144 = M 144 := hQ.2.1 144 (by omega) (by omega)
  have e43 : M4 143 = M 143 := hQ.2.1 143 (by omega) (by omega)
  have e48 : M4 148 = M 148 := hQ.2.1 148 (by omega) (by omega)
  refine sp7_fault (n := n) (m := m) (t := tt) (L := L) (by rw [e]; exact hW) (by rw [e]; exact hV.1.2.1) (by rw [e43]; exact h46) hX.1 ?_
  rw [e, e48]
  exact fun M6 h6 h6' => h M6 _ (inv_ask hI0 hQ ⟨h6, h6' 4 (by omega) (by omega) (by omega) (by omega) (by omega), h6' 6 (by omega) (by omega) (by omega) (by omega) (by omega)⟩)
theorem law_play {Post : Mm → Int32 → Int32 → Prop} {M : Mm} {n m tt s L : Nat} {P : Nat → Nat} (hI : INVd M n m tt s L P) (h : ∀ M' r, INV M' → Post M' r r) : wX6_play (fun M1 r1 => wX7_play (fun M2 r2 => Post M2 r1 r2) M1 143) M 0 := by
  have hI0 := hI
  obtain ⟨h4, hV, hT, hp, h47, h43, h41, h46, hX, hh⟩ := hI
  obtain ⟨hF, hO, hK, hW⟩ := hV.bits
  obtain ⟨hr, h5, hr2, -, -⟩ := VA_hr hV.2.2
  refine sp6_play hp h47 h4 hT hV hX h41 (fun M4 hC => ?_)
  have e : M4 144 = M 144 := hC.2.1 144 (by omega)
  have e43 : M4 143 = M 143 := hC.2.1 143 (by omega)
  have e48 : M4 148 = M 148 := hC.2.1 148 (by omega)
  refine sp7_play (n := n) (m := m) (t := tt) (s := s) (L := L) (by rw [e]; exact hW) (by rw [e]; exact hV.1.2.1) (by rw [e43]; exact h43) h4 (by rw [e43]; exact h46) hX.1 ?_
  rw [e, e48]
  exact fun M6 hA6 => h M6 _ (inv_act hI0 hC hA6 (VV_ply hV).1)
