/-! 'acts': calls, turns, crews; then all of it -/
section AC29B
variable {Post : Mm → Int32 → Prop} {M : Mm} {S : SS} {n m tt hr B z : Nat}
theorem ac_call (h : HM M S n m tt) (hh : S 5 = nI hr) (hB : hr ≤ B) (hz : z < 2147483648) (k : ∀ M2, LI M2 (B + 5) → Post M2 1) :
    wX6_count (fun M18 r19 => ((¬ r19 = 0 → wX6_count (fun M21 r22 => ¬ r22 = 0 ∧ (∀ x7_23 : Int32, x7_23 = (nI z - nI z / r22 * r22) → (wX6_fieldOf (fun M24 r25 => wX6_call (fun M26 r27 => ((¬ r27 = (-1000002 : Int32) → ((¬ r25 = 0 → Post M26 (0 : Int32)) ∧
  (r25 = 0 → wX6_fieldOf (fun M30 r31 => ((¬ r31 = (1 : Int32) → Post M30 (0 : Int32)) ∧
  (r31 = (1 : Int32) → Post M30 (1 : Int32)))) M26 0 x7_23 (5 : Int32)))) ∧
  (r27 = (-1000002 : Int32) → ((r25 = (1 : Int32) → Post M26 (1 : Int32)) ∧
  (¬ r25 = (1 : Int32) → wX6_fieldOf (fun M34 r35 => ((r35 < 0 → Post M34 (0 : Int32)) ∧
  (¬ r35 < 0 → Post M34 (1 : Int32)))) M26 0 x7_23 (7 : Int32)))))) M24 0 x7_23) M21 0 x7_23 (5 : Int32)))) M18 0 (1 : Int32)) ∧
  (r19 = 0 → wX6_call (fun M37 r38 => ((¬ r38 = (-1000001 : Int32) → Post M37 (0 : Int32)) ∧
  (r38 = (-1000001 : Int32) → Post M37 (1 : Int32)))) M18 0 (0 : Int32)))) M 0 (1 : Int32) := by
  obtain ⟨hV, hE, -⟩ := id h
  have hW := hV.1.1
  have hF := hV.1.2.2.1
  have h10 := hW.2.2.2.2.1
  have z0 : (0 : Int32).toInt = 0 := by decide
  refine qC h h.self (v := nI m) (fun _ _ => hW.2.1) (fun M4 c => ⟨fun hm => ?_, fun hm => ?_⟩)
  · have hm0 : 0 < m := Nat.pos_of_ne_zero (fun e => hm (by rw [e]; rfl))
    refine qC h c (v := nI m) (fun _ _ => hW.2.1) (fun M4 c => ⟨hm, fun x7 e7 => ?_⟩)
    rw [md hz hm0 (by omega)] at e7
    subst e7
    have hf := Nat.mod_lt z hm0
    generalize z % m = f at hf
    have hif : inr 0 m (nI f) = true := inr_nI (by omega) hf (by omega)
    refine qF h c (fof5 hf h10) (fun M4 c => ?_)
    have h4 := h.to c
    obtain ⟨-, -, hT, ⟨P, s, hp, hs, hs4⟩, -⟩ := id h4
    refine sp6_call hp hs hs4 hT hW hF (fun M6 hca => ?_)
    have h6 := h4.act hp hs hs4 hca (VV_cl hV) (EX_cl hV hE)
    by_cases e : fi S f 5 = 1 ∨ wt S f = false
    · have hF' : clF S m (nI f) = (S, -1000002) := by unfold clF; rw [if_pos hif, ixn (by omega), if_pos e]
      rw [hF'] at h6 ⊢
      refine ⟨fun d => absurd rfl d, fun _ => ⟨fun _ => k M6 ⟨S, n, m, tt, hr, h6, hh, by omega⟩, fun d => ?_⟩⟩
      have hw : wt S f = false := e.resolve_left d
      have hnw : ¬ wt S f = true := fun y => by rw [hw] at y; cases y
      obtain ⟨n5, n6, n7⟩ := (hE.2.1 f hf).resolve_left hnw
      refine qF h6 h6.self (v := fi S f 6) (by rw [fof7 hf h10, if_neg hnw]) (fun M7 c7 => ⟨fun d => absurd (i_lt.mp d) (by omega), fun _ => k M7 ⟨S, n, m, tt, hr, h6.to c7, hh, by omega⟩⟩)
    · have hF' : clF S m (nI f) = (upd S (87 + 7 * f) 1, onF (cl (upd S (87 + 7 * f) 1) m) 10) := by unfold clF; rw [if_pos hif, ixn (by omega), if_neg e]
      rw [hF'] at h6 ⊢
      have h5 : fi S f 5 = 0 := ((hF f hf).2.2.2.2).resolve_right (fun y => e (Or.inl y))
      refine ⟨fun _ => ⟨fun d => absurd h5 d, fun _ => ?_⟩, fun d => ?_⟩
      · have e5 : fofF (upd S (87 + 7 * f) 1) m (nI f) 5 = 1 := by
          rw [fof5 hf h10]
          show upd S _ _ _ = _
          rw [show 82 + 7 * f + 5 = 87 + 7 * f by omega, upd_s]
        refine qF h6 h6.self e5 (fun M7 c7 => ⟨fun d => absurd rfl d, fun _ => k M7 ⟨_, n, m, tt, hr, h6.to c7, ?_, by omega⟩⟩)
        show upd S _ _ 5 = _
        rw [upd_o (by omega), hh]
      · obtain ⟨j, j1, j2⟩ := onF_nn (x := cl (upd S (87 + 7 * f) 1) m) 10
        rw [j2] at d
        have := congrArg Int32.toInt d
        rw [nI_toInt (by omega)] at this
        have e2 : (-1000002 : Int32).toInt = -1000002 := by decide
        omega
  · have hm0 : m = 0 := nI_inj (b := 0) (by omega) (by omega) hm
    have h4 := h.to c
    obtain ⟨-, -, hT, ⟨P, s, hp, hs, hs4⟩, -⟩ := id h4
    refine sp6_call hp hs hs4 hT hW hF (fun M6 hca => ?_)
    have h6 := h4.act hp hs hs4 hca (VV_cl hV) (EX_cl hV hE)
    have hF' : clF S m 0 = (S, -1000001) := by unfold clF; rw [if_neg (by rw [hm0]; decide)]
    rw [hF'] at h6 ⊢
    exact ⟨fun d => absurd rfl d, fun _ => k M6 ⟨S, n, m, tt, hr, h6, hh, by omega⟩⟩
theorem ac_turn (h : HM M S n m tt) (hh : S 5 = nI hr) (hB : hr ≤ B) (hB2 : B ≤ 19000) (hz : z < 2147483648) (k : ∀ M2, LI M2 (B + 5) → Post M2 1) : bL_acts_287 Post M 0 (nI z) := by
  obtain ⟨hV, hE, -⟩ := id h
  have hW := hV.1.1
  have h8 := hW.2.2.2.1
  have h10 := hW.2.2.2.2.1
  have htt := hW.2.2.2.2.2.1
  have hpow : 2 ^ n < 2147483648 := Nat.lt_of_le_of_lt (Nat.pow_le_pow_right (by omega) h8.2) (by decide)
  have hp0 : 0 < 2 ^ n := Nat.two_pow_pos n
  unfold bL_acts_287
  refine qC h h.self (v := nI n) (fun _ _ => hW.1) (fun M4 c => ?_)
  rw [shl1 (by omega)]
  refine ⟨fun e => absurd (nI_inj (b := 0) hpow (by omega) e) (by omega), fun g eg hx ehx => ?_⟩
  have hd : ∀ j, z / j < 2147483648 := fun j => Nat.lt_of_le_of_lt (Nat.div_le_self z j) hz
  rw [md hz hp0 hpow] at eg
  have m1 := Nat.mod_lt z hp0
  have hag : agF n g = true := by rw [eg]; exact ag_even m1
  have ehx' : hx = nI (1 + z / 256 % 5) := by
    rw [ehx, show nI z / (256 : Int32) = nI (z / 256) from dv (b := 256) hz (by omega) (by omega), show nI (z / 256) - nI (z / 256) / (5 : Int32) * (5 : Int32) = nI (z / 256 % 5) from md (b := 5) (hd 256) (by omega) (by omega)]
    exact nI_add 1 _
  clear ehx eg
  have m2 := Nat.mod_lt (z / 256) (show 0 < 5 by omega)
  generalize hH : 1 + z / 256 % 5 = H at ehx'
  have hH1 : 1 ≤ H ∧ H ≤ 5 := by omega
  subst ehx'
  have eb : (nI z / (2048 : Int32)) - (nI z / (2048 : Int32)) / (300 : Int32) * (300 : Int32) = nI (z / 2048 % 300) := by rw [show nI z / (2048 : Int32) = nI (z / 2048) from dv (b := 2048) hz (by omega) (by omega)]; exact md (b := 300) (hd 2048) (by omega) (by omega)
  rw [eb]
  have m3 := Nat.mod_lt (z / 2048) (show 0 < 300 by omega)
  generalize z / 2048 % 300 = bb at m3
  refine qC h c (v := S 5) (fun _ _ => rfl) (fun M4 c => ?_)
  -- no turns
  have h4 := h.to c
  obtain ⟨-, -, hT, ⟨P, s, hp, hs, hs4⟩, -⟩ := id h4
  refine sp6_noTurns hp hs hs4 hT hW (fun M5 hca => ?_)
  have hV1 := VV_nt (tt := tt) hV
  have o1 : ∀ i, i ≠ 2 → i ≠ 3 → i ≠ 4 → (ntF S tt).1 i = S i := fun i a b c => by rw [nt_eq, upd_o c, upd_o b, upd_o a]
  have hE1 : EX (ntF S tt).1 n m := EX_tu hV hE (fun i a b => o1 i (by omega) (by omega) (by omega))
  have h5 := h4.act hp hs hs4 hca hV1 hE1
  have o15 : (ntF S tt).1 5 = nI hr := by rw [o1 5 (by omega) (by omega) (by omega), hh]
  refine ⟨fun d => ?_, fun _ => ?_⟩
  · have := i_lt.mp d
    rw [show (ntF S tt).2 = nI tt from rfl, nI_toInt (by omega)] at this
    have z0 : (0 : Int32).toInt = 0 := by decide
    omega
  generalize (ntF S tt).1 = S1 at h5 hV1 hE1 o15
  clear hca
  -- a turn
  obtain ⟨-, -, hT5, ⟨P5, s5, hp5, hs5, h54⟩, -⟩ := id h5
  refine sp6_turn hp5 hs5 h54 hT5 hV1.1.1 (fun M6 tt' htt' hca => ?_)
  have hxr : inr 1 21 (nI H) = true := inr_nI (by omega) (by omega) (by omega)
  have hF : trnF S1 n 0 g (nI H) = (tnS S1 0 g (nI H), nI 1) := by unfold trnF; rw [if_pos ⟨hag, hxr⟩, if_neg (by omega)]
  have htt1 : tt' = 1 := by
    rw [htt', hF]
    exact if_neg (show ¬ nI 1 ≤ -1000001 by decide)
  subst htt1
  have hV2 := VV_trn hV1 htt'
  rw [hF] at hca hV2 ⊢
  have o2 : ∀ i, i ≠ 2 → i ≠ 3 → i ≠ 4 → i ≠ 152 → i ≠ 153 → tnS S1 0 g (nI H) i = S1 i := fun i a b c d e => by unfold tnS; rw [upd_o c, upd_o b, upd_o a, upd_o (by omega), upd_o (by omega)]
  have hE2 : EX (tnS S1 0 g (nI H)) n m := EX_tu hV1 hE1 (fun i a b => o2 i (by omega) (by omega) (by omega) (by omega) (by omega))
  have h6 := h5.act hp5 hs5 h54 hca hV2 hE2
  have t2 : tnS S1 0 g (nI H) 2 = nI 1 := by unfold tnS; rw [upd_o (by omega), upd_o (by omega), upd_s]
  have t3 : tnS S1 0 g (nI H) 3 = 0 := by unfold tnS; rw [upd_o (by omega), upd_s]
  have t4 : tnS S1 0 g (nI H) 4 = 0 := by unfold tnS; rw [upd_s]
  have t152 : tnS S1 0 g (nI H) 152 = g := by unfold tnS; rw [upd_o (by omega), upd_o (by omega), upd_o (by omega), upd_o (by omega), upd_s]
  have t153 : tnS S1 0 g (nI H) 153 = nI H := by unfold tnS; rw [upd_o (by omega), upd_o (by omega), upd_o (by omega), upd_s]
  have t5 : tnS S1 0 g (nI H) 5 = nI hr := by rw [o2 5 (by omega) (by omega) (by omega) (by omega) (by omega), o15]
  refine ⟨fun d => absurd rfl d, fun _ => ?_⟩
  have hV2' : VV (tnS S1 0 g (nI H)) n m 1 := hV2
  generalize tnS S1 0 g (nI H) = S2 at h6 hE2 t2 t3 t4 t152 t153 t5 hV2'
  clear hca hV2 hV1 hE1 h5
  -- its hours
  obtain ⟨-, -, hT6, ⟨P6, s6, hp6, hs6, h64⟩, -⟩ := id h6
  have hb0 : 0 ≤ (nI bb).toInt := by rw [nI_toInt (by omega)]; omega
  have eR : runsF S2 n m 100 (nI H) (nI bb) = rsF S2 n m (nI bb) H := by
    have e20 : nI (hr + H) ≤ (20000 : Int32) := nI_le (a := hr + H) (b := 20000) (by omega) (by omega)
    unfold runsF
    rw [if_pos ⟨inr_nI (by omega) (by omega) (by omega), inr_nI (by omega) (by omega) (by omega)⟩, t5, nI_add, if_pos e20, ixn (by omega)]
  refine sp6_run hp6 hs6 h64 hT6 hV2'.1 t5 (by omega) (fun j j1 j2 _ => run_nn hV2' hb0 t5 j2) (fun M7 hca => ?_)
  rw [eR] at hca ⊢
  obtain ⟨v1, v2, v3, v4, v5⟩ := VV_rs hV2' hb0 t5 H (by omega)
  obtain ⟨x1, -⟩ := EX_rs hV2' hE2 hb0 t5 H (by omega)
  have h7 := h6.act hp6 hs6 h64 hca v1 x1
  obtain ⟨a2, a3, a4, a5, a6, a7⟩ := RT_rs (b := nI bb) h8.2 h10 t2 t3 t4 t153 (by omega) H (Nat.le_refl _)
  rw [t152] at a5 a7
  have hsum := rs_sum hV2'.1.1 hV2'.1.2.1 (b := nI bb) H
  have hnn := (diff_nn v4 v3 v5).1
  generalize hTT : rsF S2 n m (nI bb) H = T at h7 a2 a3 a4 a5 a6 a7 v1 v2 v3 v4 v5 hsum hnn
  refine ⟨fun d => ?_, fun _ => ?_⟩
  · have := i_lt.mp d
    rw [hsum] at this
    have z0 : (0 : Int32).toInt = 0 := by decide
    omega
  have hO := v1.1.2.2.2.2.1
  have eoo : oo T.1 n = g := by
    rw [oo_ofB hO n (Nat.le_refl _)]
    refine (ofB_of (by omega) (fun j hj => ?_)).symm
    by_cases e1 : j < n
    · rw [decide_eq_true e1, Bool.true_and]
      by_cases e0 : j = 0
      · subst e0
        rw [hO.1]
        cases hb : bt g 0
        · rfl
        · have := (ag_of hag 0 hj hb).1; omega
      · unfold opn
        rw [a7 hH1.1 j (by omega) e1]
        cases bt g j <;> rfl
    · rw [decide_eq_false e1, Bool.false_and]
      cases hb : bt g j
      · rfl
      · have := (ag_of hag j hj hb).2; omega
  refine qC h7 h7.self (v := g) (fun _ _ => eoo) (fun M8 c => ⟨fun d => absurd rfl d, fun _ => ?_⟩)
  refine qC h7 c (v := 0) (fun _ _ => by rw [cnt12, a2, if_neg (by decide), a3]) (fun M8 c => ⟨fun d => absurd rfl d, fun _ => ?_⟩)
  refine qC h7 c (v := 0) (fun _ _ => by rw [cnt13, a4, if_neg (by omega)]; rfl) (fun M8 c => ⟨fun d => absurd rfl d, fun _ => ?_⟩)
  refine qC h7 c (v := nI (hr + H)) (fun _ _ => by rw [cnt6]; exact v2) (fun M8 c => ⟨fun d => absurd (by rw [hh, nI_add]) d, fun _ => ?_⟩)
  obtain ⟨hV8, -, hT8, -⟩ := id (h7.to c)
  refine sp6_turnOf hT8 hV8 (fun M9 c9 => ?_)
  have e9 : tofF T.1 1 0 0 = g := by
    unfold tofF
    rw [if_pos (by decide)]
    exact a5
  rw [e9]
  exact ⟨fun d => absurd rfl d, fun _ => k M9 ⟨T.1, n, m, 1, hr + H, h7.to (c.trans c9), v2, by omega⟩⟩
theorem ac_tend (h : HM M S n m tt) (hh : S 5 = nI hr) (hB : hr ≤ B) (hz : z < 2147483648) (k : ∀ M2, LI M2 (B + 5) → Post M2 1) :
    wX6_count (fun M43 r44 => ((¬ r44 = (1 : Int32) → wX6_count (fun M46 r47 => ¬ (r47 - (1 : Int32)) = 0 ∧ (∀ x13_48 : Int32, x13_48 = ((1 : Int32) + (nI z - nI z / (r47 - (1 : Int32)) * (r47 - (1 : Int32)))) → (wX6_canalOf (fun M49 r50 => wX6_tend (fun M51 r52 => ((r52 ≤ 0 → wX6_canalOf (fun M54 r55 => ((¬ r55 = r50 → Post M54 (0 : Int32)) ∧
  (r55 = r50 → Post M54 (1 : Int32)))) M51 0 x13_48 (5 : Int32)) ∧
  (¬ r52 ≤ 0 → ((¬ r50 = (-1000004 : Int32) → Post M51 (0 : Int32)) ∧
  (r50 = (-1000004 : Int32) → wX6_canalOf (fun M58 r59 => ((¬ r59 = ((nI z / (8 : Int32)) - (nI z / (8 : Int32)) / (3 : Int32) * (3 : Int32)) → Post M58 (0 : Int32)) ∧
  (r59 = ((nI z / (8 : Int32)) - (nI z / (8 : Int32)) / (3 : Int32) * (3 : Int32)) → (((2 : Int32) < r52 → Post M58 (0 : Int32)) ∧
  (¬ (2 : Int32) < r52 → Post M58 (1 : Int32)))))) M51 0 x13_48 (5 : Int32)))))) M49 0 ((nI z / (8 : Int32)) - (nI z / (8 : Int32)) / (3 : Int32) * (3 : Int32)) x13_48) M46 0 x13_48 (5 : Int32)))) M43 0 (0 : Int32)) ∧
  (r44 = (1 : Int32) → wX6_open (fun M62 r63 => ((¬ r63 = (-1000001 : Int32) → Post M62 (0 : Int32)) ∧
  (r63 = (-1000001 : Int32) → Post M62 (1 : Int32)))) M43 0 (1 : Int32)))) M 0 (0 : Int32) := by
  obtain ⟨hV, hE, -⟩ := id h
  have hW := hV.1.1
  have h8 := hW.2.2.2.1
  have hK := hV.2.1
  have z0 : (0 : Int32).toInt = 0 := by decide
  have z2 : (2 : Int32).toInt = 2 := by decide
  refine qC h h.self (v := nI n) (fun _ _ => hW.1) (fun M4 c => ⟨fun hn => ?_, fun hn => ?_⟩)
  · have hn2 : 2 ≤ n := by
      have : n ≠ 1 := fun e => hn (by rw [e]; rfl)
      omega
    have en1 : nI n - (1 : Int32) = nI (n - 1) := ofN_sub (a := n) (b := 1) (by omega)
    refine qC h c (v := nI n) (fun _ _ => hW.1) (fun M4 c => ⟨fun e => absurd (nI_inj (b := 0) (by omega) (by omega) (en1 ▸ e)) (by omega), fun x13 e13 => ?_⟩)
    rw [en1, md hz (by omega) (by omega)] at e13
    have e13' : x13 = nI (1 + z % (n - 1)) := e13.trans (nI_add 1 _)
    have m1 := Nat.mod_lt z (show 0 < n - 1 by omega)
    generalize hg : 1 + z % (n - 1) = g at e13'
    have hg1 : 1 ≤ g ∧ g < n := by omega
    subst e13'
    clear e13
    have hd : ∀ j, z / j < 2147483648 := fun j => Nat.lt_of_le_of_lt (Nat.div_le_self z j) hz
    have e2 : (nI z / (8 : Int32)) - (nI z / (8 : Int32)) / (3 : Int32) * (3 : Int32) = nI (z / 8 % 3) := by rw [show nI z / (8 : Int32) = nI (z / 8) from dv (b := 8) hz (by omega) (by omega)]; exact md (b := 3) (hd 8) (by omega) (by omega)
    rw [e2]
    have m2 := Nat.mod_lt (z / 8) (show 0 < 3 by omega)
    generalize z / 8 % 3 = x at m2
    refine qK h c (cof5 hg1.2 h8.2) (fun M4 c => ?_)
    have h4 := h.to c
    obtain ⟨-, -, hT, ⟨P, s, hp, hs, hs4⟩, -⟩ := id h4
    refine sp6_tend hp hs hs4 hT hW hK.1 (hK.2 x m2) (fun M6 hca => ?_)
    have hV' := VV_tnd (x := nI x) (y := nI g) hV
    have h6 := h4.act hp hs hs4 hca hV' (EX_tnd hV hE)
    have hin : inr 0 3 (nI x) = true ∧ inr 1 n (nI g) = true := ⟨inr_nI (by omega) m2 (by omega), inr_nI hg1.1 hg1.2 (by omega)⟩
    have eg : ix (nI g) = g := ixn (by omega)
    have stay : ∀ r, tndF S n (nI x) (nI g) = (S, r) → r ≤ 0 → (r ≤ 0 → wX6_canalOf (fun M54 r55 => ((¬ r55 = (if g ≠ 0 ∧ 0 ≤ ca S g 5 then ca S g 5 else -1000004) → Post M54 (0 : Int32)) ∧ (r55 = (if g ≠ 0 ∧ 0 ≤ ca S g 5 then ca S g 5 else -1000004) → Post M54 (1 : Int32)))) M6 0 (nI g) (5 : Int32)) := by
      intro r er _ _
      rw [er] at h6
      exact qK h6 h6.self (cof5 hg1.2 h8.2) (fun M7 c7 => ⟨fun d => absurd rfl d, fun _ => k M7 ⟨S, n, m, tt, hr, h6.to c7, hh, by omega⟩⟩)
    by_cases e1 : 0 ≤ ca S g 5 ∨ (¬ 2 ≤ nI x ∧ ca S g 1 ≠ nI x)
    · have er : tndF S n (nI x) (nI g) = (S, -1000002) := by unfold tndF; rw [if_pos hin, eg, if_pos e1]
      have st := stay _ er (by decide)
      rw [er]
      exact ⟨st, fun d => absurd (show (-1000002 : Int32) ≤ 0 by decide) d⟩
    · by_cases e3 : tdF S (nI x) n = 2
      · have er : tndF S n (nI x) (nI g) = (S, -1000003) := by unfold tndF; rw [if_pos hin, eg, if_neg e1, if_pos e3]
        have st := stay _ er (by decide)
        rw [er]
        exact ⟨st, fun d => absurd (show (-1000003 : Int32) ≤ 0 by decide) d⟩
      · have er : tndF S n (nI x) (nI g) = (upd S (15 + 9 * g) (nI x), nI (tdF (upd S (15 + 9 * g) (nI x)) (nI x) n)) := by unfold tndF; rw [if_pos hin, eg, if_neg e1, if_neg e3]
        rw [er] at h6 hV' ⊢
        have e5 : ca (upd S (15 + 9 * g) (nI x)) g 5 = nI x := by
          unfold ca
          rw [show 10 + 9 * g + 5 = 15 + 9 * g by omega, upd_s]
        have p1 := tdF_pos hg1.1 e5 n hg1.2
        have p2 : tdF (upd S (15 + 9 * g) (nI x)) (nI x) n ≤ 2 := hV'.2.1.2 x m2
        generalize tdF (upd S (15 + 9 * g) (nI x)) (nI x) n = q at p1 p2
        have eq : (upd S (15 + 9 * g) (nI x), nI q).2.toInt = q := nI_toInt (n := q) (by omega)
        refine ⟨fun d => absurd (i_le.mp d) (by omega), fun _ => ⟨fun d => absurd (if_neg (fun w => e1 (Or.inl w.2))) d, fun _ => ?_⟩⟩
        have ev : cofF (upd S (15 + 9 * g) (nI x)) n (nI g) 5 = nI x := by
          rw [cof5 hg1.2 h8.2, e5, if_pos ⟨by omega, i_le.mpr (by rw [nI_toInt (by omega), z0]; omega)⟩]
        refine qK h6 h6.self ev (fun M7 c7 => ⟨fun d => absurd rfl d, fun _ => ⟨fun d => absurd (i_lt.mp d) (by omega), fun _ => k M7 ⟨_, n, m, tt, hr, h6.to c7, ?_, by omega⟩⟩⟩)
        show upd S _ _ 5 = _
        rw [upd_o (by omega), hh]
  · have hn1 : n = 1 := nI_inj (b := 1) (by omega) (by omega) hn
    have h4 := h.to c
    obtain ⟨-, -, hT, ⟨P, s, hp, hs, hs4⟩, -⟩ := id h4
    have hF' : mvF S n 1 1 = (S, -1000001) := by unfold mvF; rw [if_neg (by rw [hn1]; decide)]
    refine sp6_open hp hs hs4 hT hW hV.1.2.2.2.2.1 hK.1 (fun M6 hca => ?_)
    have h6 := h4.act hp hs hs4 hca (VV_mv hV (Or.inr rfl)) (by rw [hF']; exact hE)
    rw [hF'] at h6 ⊢
    exact ⟨fun d => absurd rfl d, fun _ => k M6 ⟨S, n, m, tt, hr, h6, hh, by omega⟩⟩
theorem sp_acts {a : Nat} (h : LI M B) (hB2 : B ≤ 19000) (ha : a < 2147483648) (k : ∀ M2, LI M2 (B + 5) → Post M2 1) : wL_acts Post M 0 (nI a) := by
  obtain ⟨S, n, m, tt, hr, h, hh, hB⟩ := h
  intro x2 e2 sw es
  have e2' : x2 = nI (a / 8) := e2.trans (dv (b := 8) ha (by omega) (by omega))
  subst e2'
  clear e2 es
  have hz : a / 8 < 2147483648 := Nat.lt_of_le_of_lt (Nat.div_le_self a 8) ha
  refine ⟨fun _ => ac_canal h hh hB hz k, fun _ => ⟨fun _ => ac_field h hh hB hz k, fun _ => ⟨fun _ => ac_call h hh hB hz k, fun _ => ⟨fun _ => ac_turn h hh hB hB2 hz k, fun _ => ⟨fun _ => ac_turn h hh hB hB2 hz k, fun _ => ⟨fun _ => ac_tend h hh hB hz k, fun _ => ?_⟩⟩⟩⟩⟩⟩
  have e1 : nI (a / 8) - nI (a / 8) / (300 : Int32) * (300 : Int32) = nI (a / 8 % 300) := md (b := 300) hz (by omega) (by omega)
  have m1 := Nat.mod_lt (a / 8) (show 0 < 300 by omega)
  rw [e1]
  exact sp_lhour h hh (by omega) (inr_nI (by omega) (by omega) (by omega)) (fun M2 h2 e5 => ⟨Or.inr rfl, k M2 ⟨_, n, m, tt, hr + 1, h2, e5, by omega⟩⟩)
end AC29B
