/-! 'holds': what the law looks at behind each act -/
section HO
variable {Post : Mm → Int32 → Prop} {M M1 : Mm} {S : SS} {n m tt : Nat}
theorem ho_end (h : HM M S n m tt) (c : CQ M M1 S n m tt) (k : ∀ M2, CQ M M2 S n m tt → Post M2 1) : bL_holds_430 Post M1 0 (sm (fun f => fi S f 4) m) (nI (wnF S m)) (cl S m) (sm (fun c => ca S c 7) n) (sm (fun c => ca S c 8) n) (oo S n) (ofB (tnO S) n) 1 := by
  obtain ⟨⟨e7, e8, e9⟩, -, -⟩ := id h.2.1
  unfold bL_holds_430
  refine ⟨fun d => absurd d (by decide), fun _ => ?_⟩
  refine qC h c (v := S 7) (fun _ _ => rfl) (fun M2 c => ⟨fun d => absurd e7 d, fun _ => ?_⟩)
  refine qC h c (v := nI (wnF S m)) (fun _ _ => rfl) (fun M2 c => ⟨fun d => absurd rfl d, fun _ => ?_⟩)
  refine qC h c (v := cl S m) (fun _ _ => rfl) (fun M2 c => ⟨fun d => absurd rfl d, fun _ => ?_⟩)
  refine qC h c (v := S 8) (fun _ _ => rfl) (fun M2 c => ⟨fun d => absurd e8 d, fun _ => ?_⟩)
  refine qC h c (v := S 9) (fun _ _ => rfl) (fun M2 c => ⟨fun d => absurd e9 d, fun _ => ?_⟩)
  refine qC h c (v := oo S n) (fun _ _ => rfl) (fun M2 c => ⟨fun d => absurd rfl d, fun _ => ?_⟩)
  refine qC h c (v := ofB (tnO S) n) (fun _ _ => rfl) (fun M2 c => ⟨fun d => absurd rfl d, fun _ => ?_⟩)
  have hm := h.to c
  refine sp6_share hm.2.2.1 hm.1 (fun M3 r c3 hr => ?_)
  have c := c.trans c3
  refine ⟨fun d => ?_, fun d => ?_⟩
  · exact qC h c (v := S 6) (fun _ _ => rfl) (fun M4 c => ⟨fun _ => ⟨fun z => absurd rfl z, fun _ => k M4 c⟩, fun e => absurd (hr.mpr e) d⟩)
  · exact qC h c (v := S 6) (fun _ _ => rfl) (fun M4 c => ⟨fun e => absurd (hr.mp d) e, fun _ => ⟨fun z => absurd rfl z, fun _ => k M4 c⟩⟩)
theorem ho_canals (h : HM M S n m tt) (c : CQ M M1 S n m tt) (k : ∀ M2, CQ M M2 S n m tt → Post M2 1) : ∃ q : Nat, lL_holds_246 Post q M1 0 (sm (fun f => fi S f 4) m) (nI (wnF S m)) (cl S m) 0 0 0 0 1 0 := by
  obtain ⟨⟨⟨hW, -, hF, hC, hO, -⟩, ⟨hK, -⟩, hA⟩, hE, -⟩ := id h
  have h8 := hW.2.2.2.1.2
  have w0 := hW.1
  refine pk_loop (fun q i (y : Mm × Int32 × Int32 × Int32 × Int32) => lL_holds_246 Post q y.1 0 (sm (fun f => fi S f 4) m) (nI (wnF S m)) (cl S m) y.2.1 y.2.2.1 y.2.2.2.1 y.2.2.2.2 1 (nI i)) (fun i y => CQ M y.1 S n m tt ∧ y.2.1 = sm (fun c => ca S c 7) i ∧ y.2.2.1 = sm (fun c => ca S c 8) i ∧ y.2.2.2.1 = oo S i ∧ y.2.2.2.2 = ofB (tnO S) i) n 0 (M1, 0, 0, 0, 0) (by omega) ⟨c, rfl, rfl, rfl, rfl⟩ ?_ ?_
  · rintro q ⟨M2, x4, x5, x6, x7⟩ ⟨c, e4, e5, e6, e7⟩
    dsimp only at c e4 e5 e6 e7
    subst e4 e5 e6 e7
    show bL_holds_246 Post (lL_holds_246 Post q) M2 0 _ _ _ _ _ _ _ 1 (nI n)
    unfold bL_holds_246
    refine qC h c (v := S 0) (fun _ _ => rfl) (fun M3 c => ⟨fun _ => ho_end h c k, fun d => absurd ?_ d⟩)
    rw [w0]
    exact nI_le (Nat.le_refl _) (by omega)
  · rintro q i ⟨M2, x4, x5, x6, x7⟩ hi ⟨c, e4, e5, e6, e7⟩ ih
    dsimp only at c e4 e5 e6 e7
    subst e4 e5 e6 e7
    show bL_holds_246 Post (lL_holds_246 Post q) M2 0 _ _ _ _ _ _ _ 1 (nI i)
    have fin : ∀ M7, CQ M M7 S n m tt → ∀ x9, x9 = nI i + 1 → lL_holds_246 Post q M7 0 (sm (fun f => fi S f 4) m) (nI (wnF S m)) (cl S m) (sm (fun c => ca S c 7) (i + 1)) (sm (fun c => ca S c 8) (i + 1)) (oo S (i + 1)) (ofB (tnO S) (i + 1)) 1 x9 := by
      intro M7 c7 x9 e9
      rw [e9, nI_1]
      exact ih (M7, _, _, _, _) ⟨c7, rfl, rfl, rfl, rfl⟩
    have z0 : (0 : Int32).toInt = 0 := by decide
    have key2 : ∀ M6, CQ M M6 S n m tt → ∀ t0, (ofB (tnO S) i ||| t0) = ofB (tnO S) (i + 1) → bL_holds_331 Post (lL_holds_246 Post q) M6 0 (sm (fun f => fi S f 4) m) (nI (wnF S m)) (cl S m) (sm (fun c => ca S c 7) (i + 1)) (sm (fun c => ca S c 8) (i + 1)) (oo S (i + 1)) (nI i) t0 (ofB (tnO S) i) := by
      intro M6 c t0 ht x7 e7
      rw [ht] at e7
      subst e7
      refine qK h c (cof7 hi h8) (fun M3 c => ⟨fun d => absurd (i_lt.mp d) (by have := (hC i hi).2.2; omega), fun _ => ?_⟩)
      refine qK h c (cof7 hi h8) (fun M3 c => ?_)
      refine qK h c (cof2 hi h8) (fun M3 c => ⟨fun d => absurd (i_lt.mp d) (by have := hE.2.2 i hi; omega), fun _ => ⟨fun _ => fin M3 c, fun d => ?_⟩⟩)
      have hi0 : 1 ≤ i := Nat.pos_of_ne_zero (fun z => d (by rw [z]; rfl))
      have epa : cofF S n (nI i) 0 = nI (pa S i) := (cof0 hi h8 (by omega)).trans (hW.2.2.2.2.2.2.1 i hi0 hi).2
      have hpl := (hW.2.2.2.2.2.2.1 i hi0 hi).1
      refine qK h c epa (fun M3 c => ?_)
      refine qK h c (cof6 (by omega) h8) (fun M3 c => ⟨fun d => absurd (below_in hW hi0 hi) d, fun _ => ?_⟩)
      refine qK h c (cof6 hi h8) (fun M3 c => ?_)
      refine qK h c epa (fun M3 c => ?_)
      exact qK h c (cof6 (by omega) h8) (fun M3 c => ⟨fun d => absurd (below_sub hW hi0 hi) d, fun _ => fin M3 c⟩)
    have key : ∀ M5, CQ M M5 S n m tt → ∀ t0, (oo S i ||| t0) = oo S (i + 1) → bL_holds_308 Post (lL_holds_246 Post q) M5 0 (sm (fun f => fi S f 4) m) (nI (wnF S m)) (cl S m) (sm (fun c => ca S c 7) (i + 1)) (sm (fun c => ca S c 8) (i + 1)) (ofB (tnO S) i) (nI i) t0 (oo S i) := by
      intro M5 c t0 ht x6 e6
      rw [ht] at e6
      subst e6
      by_cases g : i ≠ 0 ∧ 0 ≤ ca S i 5
      · have ev : cofF S n (nI i) 5 = ca S i 5 := by rw [cof5 hi h8, if_pos g]
        have et : tnO S i = true := by unfold tnO; rw [decide_eq_true (show 1 ≤ i by omega), decide_eq_true g.2]; rfl
        refine qK h c ev (fun M3 c => ⟨fun d => absurd (i_lt.mp d) (by have := i_le.mp g.2; omega), fun _ => key2 M3 c _ ?_⟩)
        rw [ofB_succ, if_pos et]
      · have ev : cofF S n (nI i) 5 = -1000004 := by rw [cof5 hi h8, if_neg g]
        have et : ¬ tnO S i = true := fun z => by
          unfold tnO at z
          rw [Bool.and_eq_true] at z
          have a := of_decide_eq_true z.1
          exact g ⟨by omega, of_decide_eq_true z.2⟩
        refine qK h c ev (fun M3 c => ⟨fun _ => key2 M3 c _ ?_, fun d => absurd (show (-1000004 : Int32) < 0 by decide) d⟩)
        rw [ofB_succ, if_neg et, or_0]
    unfold bL_holds_246
    refine qC h c (v := S 0) (fun _ _ => rfl) (fun M3 c => ⟨fun d => absurd d (by rw [w0]; exact nI_ge hi (by omega)), fun _ => ⟨fun d => absurd d (by decide), fun _ => ?_⟩⟩)
    refine qK h c (cof8 hi h8) (fun M3 c x4 e4 => ?_)
    subst e4
    refine qK h c (cof9 hi h8) (fun M3 c x5 e5 => ?_)
    subst e5
    refine ⟨fun d => ?_, fun d => ?_⟩
    · have hi0 : i = 0 := by
        have := (nI_leI (a := i) (b := 0) (by omega) (by omega)).mp d
        omega
      subst hi0
      exact key M3 c 0 (or_0 _)
    · have hi0 : i ≠ 0 := fun z => d (by rw [z]; decide)
      refine qK h c (cof4 hi h8 hi0) (fun M3 c => key M3 c _ ?_)
      conv => rhs; unfold oo
      rw [if_neg hi0]
theorem ho_fields (h : HM M S n m tt) (c : CQ M M1 S n m tt) (k : ∀ M2, CQ M M2 S n m tt → Post M2 1) : ∃ q : Nat, lL_holds_57 Post q M1 0 0 0 0 0 0 0 0 1 0 := by
  obtain ⟨⟨⟨hW, -, hF, hC, hO, -⟩, ⟨hK, -⟩, hA⟩, hE, -⟩ := id h
  have h10 := hW.2.2.2.2.1
  have w1 := hW.2.1
  refine pk_loop (fun q i (y : Mm × Int32 × Int32 × Int32) => lL_holds_57 Post q y.1 0 y.2.1 y.2.2.1 y.2.2.2 0 0 0 0 1 (nI i)) (fun i y => CQ M y.1 S n m tt ∧ y.2.1 = sm (fun f => fi S f 4) i ∧ y.2.2.1 = nI (wnF S i) ∧ y.2.2.2 = cl S i) m 0 (M1, 0, 0, 0) (by omega) ⟨c, rfl, rfl, rfl⟩ ?_ ?_
  · rintro q ⟨M2, x1, x2, x3⟩ ⟨c, e1, e2, e3⟩
    dsimp only at c e1 e2 e3
    subst e1 e2 e3
    show bL_holds_57 Post (lL_holds_57 Post q) M2 0 _ _ _ 0 0 0 0 1 (nI m)
    unfold bL_holds_57
    refine qC h c (v := S 1) (fun _ _ => rfl) (fun M3 c => ⟨fun _ => ho_canals h c k, fun d => absurd ?_ d⟩)
    rw [w1]
    exact nI_le (Nat.le_refl _) (by omega)
  · rintro q i ⟨M2, x1, x2, x3⟩ hi ⟨c, e1, e2, e3⟩ ih
    dsimp only at c e1 e2 e3
    subst e1 e2 e3
    show bL_holds_57 Post (lL_holds_57 Post q) M2 0 _ _ _ 0 0 0 0 1 (nI i)
    have fin : ∀ M7, CQ M M7 S n m tt → ∀ x9, x9 = nI i + 1 → lL_holds_57 Post q M7 0 (sm (fun f => fi S f 4) (i + 1)) (nI (wnF S (i + 1))) (cl S (i + 1)) 0 0 0 0 1 x9 := by
      intro M7 c7 x9 e9
      rw [e9, nI_1]
      exact ih (M7, _, _, _) ⟨c7, rfl, rfl, rfl⟩
    have z0 : (0 : Int32).toInt = 0 := by decide
    have z1 : (1 : Int32).toInt = 1 := by decide
    obtain ⟨-, -, -, ⟨g0, g1⟩, -⟩ := hF i hi
    have k210 : ∀ M6, CQ M M6 S n m tt → bL_holds_210 Post (lL_holds_57 Post q) M6 0 (sm (fun f => fi S f 4) (i + 1)) (nI (wnF S (i + 1))) (cl S (i + 1)) 0 0 0 0 (nI i) := by
      intro M6 c
      unfold bL_holds_210
      refine qC h c (v := cl S m) (fun _ _ => rfl) (fun M3 c => ⟨fun _ => fin M3 c, fun d => ?_⟩)
      refine qF h c (fof6 hi h10) (fun M3 c => ⟨fun e => absurd ?_ e, fun _ => fin M3 c⟩)
      rw [mtF_all hF h10 d]; rfl
    have k192 : ∀ M6, CQ M M6 S n m tt → bL_holds_192 Post (lL_holds_57 Post q) M6 0 (sm (fun f => fi S f 4) (i + 1)) (nI (wnF S (i + 1))) (cl S (i + 1)) 0 0 0 0 (nI i) (b2i (wt S i)) := by
      intro M6 c
      unfold bL_holds_192
      refine ⟨fun _ => k210 M6 c, fun d => ?_⟩
      have hw : wt S i = true := b2i_1.mp ((b2i_01 _).resolve_left d)
      refine qF h c (v := -1000004) (by rw [fof7 hi h10, if_pos hw]) (fun M3 c => ⟨fun e => absurd rfl e, fun _ => k210 M3 c⟩)
    have k116 : ∀ M6, CQ M M6 S n m tt → bL_holds_116 Post (lL_holds_57 Post q) M6 0 (sm (fun f => fi S f 4) (i + 1)) (cl S i) 0 0 0 0 (nI i) (fi S i 4) (b2i (wt S i)) (b2i (wt S i)) (nI (wnF S i)) := by
      intro M6 c x2 e2
      have e2' : x2 = nI (wnF S (i + 1)) := by
        rw [e2, show wnF S (i + 1) = wnF S i + (if wt S i = true then 1 else 0) from rfl]
        cases wt S i
        · rw [if_neg (by decide)]; exact Int32.add_zero _
        · rw [if_pos rfl]; exact nI_1 _
      subst e2'
      refine qF h c (fof5 hi h10) (fun M3 c x3 e3 => ?_)
      have e3' : x3 = cl S (i + 1) := e3
      subst e3'
      refine ⟨fun d => absurd (i_lt.mp d) (by omega), fun _ => ?_⟩
      refine qF h c (fof1 hi h10) (fun M3 c => ⟨fun d => absurd (i_lt.mp d) (by omega), fun _ => ⟨fun _ => k192 M3 c, fun d => ?_⟩⟩)
      have hw : ¬ wt S i = true := fun z => by rw [z] at d; cases d
      obtain ⟨n5, n6, n7⟩ := (hE.2.1 i hi).resolve_left hw
      have e7 : fofF S m (nI i) 7 = fi S i 6 := by rw [fof7 hi h10, if_neg hw]
      refine qF h c (fof5 hi h10) (fun M3 c => ⟨fun e => absurd n5 e, fun _ => ?_⟩)
      refine qF h c e7 (fun M3 c => ⟨fun e => absurd (i_lt.mp e) (by omega), fun _ => ?_⟩)
      refine qF h c e7 (fun M3 c => ?_)
      exact qC h c (v := S 5) (fun _ _ => rfl) (fun M3 c => ⟨fun e => absurd (i_lt.mp e) (by omega), fun _ => k192 M3 c⟩)
    have k98 : ∀ M6, CQ M M6 S n m tt → bL_holds_98 Post (lL_holds_57 Post q) M6 0 (sm (fun f => fi S f 4) i) (nI (wnF S i)) (cl S i) 0 0 0 0 (nI i) (fi S i 4) (b2i (wt S i)) := by
      intro M6 c x1 e1
      have e1' : x1 = sm (fun f => fi S f 4) (i + 1) := e1
      subst e1'
      have := k116 M6 c
      refine ⟨fun d => ?_, fun d => ?_⟩
      · rw [d] at this ⊢; exact this
      · rw [(b2i_01 _).resolve_left d] at this ⊢; exact this
    unfold bL_holds_57
    refine qC h c (v := S 1) (fun _ _ => rfl) (fun M3 c => ⟨fun d => absurd d (by rw [w1]; exact nI_ge hi (by omega)), fun _ => ⟨fun d => absurd d (by decide), fun _ => ?_⟩⟩)
    refine qF h c (fof4 hi h10) (fun M3 c => ?_)
    refine qF h c (fof1 hi h10) (fun M3 c => ?_)
    have := k98 M3 c
    refine ⟨fun d => ?_, fun d => ?_⟩
    · rw [wt_le d] at this; exact this
    · rw [wt_nle d] at this; exact this
theorem sp_holds (h : HM M S n m tt) (k : ∀ M2, CQ M M2 S n m tt → Post M2 1) : wL_holds Post M 0 := by
  obtain ⟨-, hr, x1, x2, x3, x4, x5, x6, x7⟩ := id h.1.2.2
  have acc : S 6 = (S 7 + S 8) + S 9 := by
    have a := i_add (x := S 7) (y := S 8) (by omega) (by omega)
    refine i_eq.mpr ?_
    rw [i_add (by omega) (by omega), a]
    exact x6
  unfold wL_holds
  refine qC h h.self (v := S 6) (fun _ _ => rfl) (fun M2 c => ?_)
  refine qC h c (v := S 7) (fun _ _ => rfl) (fun M2 c => ?_)
  refine qC h c (v := S 8) (fun _ _ => rfl) (fun M2 c => ?_)
  exact qC h c (v := S 9) (fun _ _ => rfl) (fun M2 c => ⟨fun d => absurd acc d, fun _ => ho_fields h c k⟩)
end HO
