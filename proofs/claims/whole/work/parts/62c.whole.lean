/-! the law from its entry: what is made, then its loop -/
theorem q9_1_0 : Cond.classLink RL 7 RX6 ∈ wsL_law := iL_1 _ (List.mem_of_getElem? (i := 0) rfl)
theorem q9_1_1 : Cond.instantiable RX6 4 ∈ wsL_law := iL_1 _ (List.mem_of_getElem? (i := 1) rfl)
theorem q9_1_3 : Cond.classLink RL 10 RX7 ∈ wsL_law := iL_1 _ (List.mem_of_getElem? (i := 3) rfl)
theorem q9_1_4 : Cond.instantiable RX7 13 ∈ wsL_law := iL_1 _ (List.mem_of_getElem? (i := 4) rfl)
theorem q9_1_6 : Cond.methodLink RL 9 yX6_init ∈ wsL_law := iL_1 _ (List.mem_of_getElem? (i := 6) rfl)
theorem q9_1_7 : Cond.instanceMethod yX6_init ∈ wsL_law := iL_1 _ (List.mem_of_getElem? (i := 7) rfl)
theorem q9_4_9 : Cond.methodLink RL 12 yX7_init ∈ wsL_law := iL_4 _ (List.mem_of_getElem? (i := 9) rfl)
theorem q9_4_10 : Cond.instanceMethod yX7_init ∈ wsL_law := iL_4 _ (List.mem_of_getElem? (i := 10) rfl)
theorem q9_n0 : Cond.methodLinkNest RX3 96 yX6_isOutside "SluiceTurns" ∈ lw_tbl := iTL _ (iT_3 _ (List.mem_of_getElem? (i := 176) rfl))
theorem q9_n1 : Cond.methodLinkNest RX6 11 yX4_init "SluiceTurns" ∈ lw_tbl := iTL _ (iT_1 _ (List.mem_of_getElem? (i := 25) rfl))
theorem q9_n2 : Cond.methodLinkNest RX6 28 yX3_init "SluiceTurns" ∈ lw_tbl := iTL _ (iT_1 _ (List.mem_of_getElem? (i := 224) rfl))
theorem q9_n3 : Cond.methodLinkNest RX2 17 yX4_init "SluiceTurns" ∈ lw_tbl := iTL _ (iT_1 _ (List.mem_of_getElem? (i := 213) rfl))
theorem q9_n4 : Cond.methodLinkNest RX4 20 yX1_init "SluiceTurns" ∈ lw_tbl := iTL _ (iT_1 _ (List.mem_of_getElem? (i := 88) rfl))
theorem q9_n5 : Cond.methodLinkNest RX4 27 yX5_init "SluiceTurns" ∈ lw_tbl := iTL _ (iT_1 _ (List.mem_of_getElem? (i := 136) rfl))
theorem q9_ao : Cond.arrayOver (.object RX4) ∈ lw_tbl := iTL _ (iT_1 _ (List.mem_of_getElem? (i := 212) rfl))
/-- the classes and rows as the tables have them -/
theorem start_K {b : Nat} {s : State} (hts1 : ∀ w ∈ lw_tbl, w.before #[Value.ref b] s = true) : ∃ G : Gp, G.2.1 = s.heap.size ∧ Kq G s := by
  have hts : ∀ w ∈ wsL_law, w.before #[Value.ref b] s = true := fun w hw => hts1 w (wsL_law_in w hw)
  obtain ⟨c0, i0, k0⟩ := u_known (C := RX0) (T := TX0) (N := 10) (n := 10) hts inlX0 (hts _ q_2_5)
  obtain ⟨c1, i1, k1⟩ := u_known (C := RX1) (T := TX1) (N := 9) (n := 9) hts inlX1 (hts _ q_2_9)
  obtain ⟨c2, i2, k2⟩ := u_known (C := RX2) (T := TX2) (N := 2) (n := 2) hts inlX2 (hts _ q_1_18)
  obtain ⟨c3, i3, k3⟩ := u_known (C := RX3) (T := TX3) (N := 9) (n := 9) hts inlX3 (hts _ q_1_22)
  obtain ⟨c4, i4, k4⟩ := u_known (C := RX4) (T := TX4) (N := 11) (n := 11) hts inlX4 (hts _ q_1_13)
  obtain ⟨c5, i5, k5⟩ := u_known (C := RX5) (T := TX5) (N := 5) (n := 5) hts inlX5 (hts _ q_2_13)
  obtain ⟨c6, i6, k6⟩ := u_known (C := RX6) (T := TX6) (N := 4) (n := 4) hts inlX6 (hts _ q9_1_1)
  obtain ⟨c7, i7, k7⟩ := u_known (C := RX7) (T := TX7) (N := 13) (n := 13) hts inlX7 (hts _ q9_1_4)
  obtain ⟨cI, kI, pI, a1, a2, a3⟩ := Cond.arrayClass_spec (hts _ q_2_16)
  obtain ⟨cC, kC, pC, b1, b2, b3⟩ := Cond.arrayClass_spec (hts _ q_4_17)
  obtain ⟨pO, cO, kO, d1, d2, d3, d4, d5⟩ := Cond.arrayOver_spec (hts1 _ q9_ao)
  refine ⟨((fun k => match k with | 0 => c0 | 1 => c1 | 2 => c2 | 3 => c3 | 4 => c4 | 5 => c5 | 6 => c6 | _ => c7, fun k => match k with | 0 => i0 | 1 => i1 | 2 => i2 | 3 => i3 | 4 => i4 | 5 => i5 | 6 => i6 | _ => i7), s.heap.size, cI, cC, cO), rfl, ⟨⟨⟨?_, ?_⟩, va_Nw.of rfl (hts1 _ q9_n0)⟩, ?_, va_AO.of (A := #[Value.ref b]) (hts1 _ q9_ao)⟩⟩
  · intro k q hq
    match k, hq with
    | 0, hq => cases hq; exact k0
    | 1, hq => cases hq; exact k1
    | 2, hq => cases hq; exact k2
    | 3, hq => cases hq; exact k3
    | 4, hq => cases hq; exact k4
    | 5, hq => cases hq; exact k5
    | 6, hq => cases hq; exact k6
    | 7, hq => cases hq; exact k7
    | k + 8, hq => simp [vwCl] at hq
  · intro k q hq
    match k, hq with
    | 0, hq => cases hq; exact ⟨fun n z => ⟨fun k h => (by cases h), kI, a2, pI, a3⟩, a1⟩
    | 1, hq => cases hq; exact ⟨fun n z => ⟨fun k h => (by cases h), kC, b2, pC, b3⟩, b1⟩
    | 2, hq => cases hq; exact ⟨fun n z => ⟨fun k h => (by cases h), kO, d3, pO, d4⟩, kO, pO, d3, d4, d1, d5⟩
    | k + 3, hq => simp [tyG] at hq
  · intro q hq
    unfold nestL at hq
    simp only [List.mem_cons, List.not_mem_nil, or_false] at hq
    rcases hq with rfl | rfl | rfl | rfl | rfl
    · exact va_Nw.of rfl (hts1 _ q9_n1)
    · exact va_Nw.of rfl (hts1 _ q9_n2)
    · exact va_Nw.of rfl (hts1 _ q9_n3)
    · exact va_Nw.of rfl (hts1 _ q9_n4)
    · exact va_Nw.of rfl (hts1 _ q9_n5)
def P6 (N : Nat) (M : Mm) (ok : Okk) : Prop := N = 143 ∧ M = mX6 (mz (fun _ _ => 0) 0) 0 ∧ ok = oX6 (oz (fun _ _ => false) 0) 0
def P7 (N : Nat) (M : Mm) (ok : Okk) : Prop := N = 150 ∧ M = MF ∧ ok = OF
theorem p6_ok : wX6_init P6 1 (mz (fun _ _ => 0) 0) (oz (fun _ _ => false) 0) 0 := sp_X6 (j := 0) kd_0 ⟨rfl, rfl, rfl⟩
theorem p7_ok : wX7_init P7 144 (mz (mX6 (mz (fun _ _ => 0) 0) 0) 143) (oz (oX6 (oz (fun _ _ => false) 0) 0) 143) 143 := sp_X7 (j := 143) kd_143 ⟨rfl, rfl, rfl⟩
set_option maxHeartbeats 4000000 in
set_option maxRecDepth 100000 in
theorem whole_start {p : Program} {e : Env} {s : State} {m : MethodId} {below : List Frame} {meth : Method} {c : Code} (l : Launch) (hflags : l.flags = flags0) {b L : Nat} {xs : Nat → Int32} (hL : L ≤ 2560) (C0 : lw_At p s m meth c b L xs) : W p l e room_1 s m #[Value.ref b] below meth c s.heap [] 0 0 (lw_Z below #[Value.ref b] s) (entryFrame m ([Value.ref b] : List Value).toArray 4) := by
  obtain ⟨hx, hb, hr, hml, hown, hts1, hX, hbl, hlocks, hgv⟩ := id C0
  have hts : ∀ w ∈ wsL_law, w.before #[Value.ref b] s = true := fun w hw => hts1 w (wsL_law_in w hw)
  obtain ⟨G, hG, hK⟩ := start_K hts1
  have hR : Rq G 0 (fun _ _ => 0) (fun _ _ => false) s.heap := ⟨fun k q hq => by simp [rqW] at hq, by rw [hG]; rfl⟩
  have hS : va_S (Fr G) s.heap s.heap [] := va_S.rf
  have hl := lv_entry ([.ref b]) (n := 4) (Nat.le_of_ble_eq_true rfl)
  rw [lg_entry_eq]
  generalize (lg_sl ([.ref b]) ++ List.replicate (4 - (lg_sl ([.ref b])).length) Slot.unset).toArray = ls at hl ⊢
  have hl : lv_has ls 4 [(0, .ref b)] := hl
  refine rn_obj (own := RL) hx hb hts inlX6 tyX6 tyX6_ok hown q9_1_0 q9_1_1 q_1_2 hK hR hS kd_0 cl_6 (by decide) df_6 rfl (Nat.le_of_ble_eq_true rfl) (Nat.le_of_ble_eq_true rfl) dL_law_0 (fun M1 ok1 eM1 eok1 H hR hS => ?_)
  subst eM1
  subst eok1
  refine lv_dup hx hb dL_law_3 rfl ?_
  refine rn_ctor (rest := [.ref (G.2.1 + 0)]) ⟨hx, hb, hml, hown, hts⟩ (mX6_init l G 0 1 _ _ P6 kd_0 (by omega) p6_ok) (cwI 0 hts gN_X6_init rfl rfl rfl (hts _ q_1_2) (hts _ q9_1_6) (hts _ q9_1_7) rfl hdS_X6_init ⟨Nat.le_of_ble_eq_true rfl, Nat.le_of_ble_eq_true rfl⟩) hK hR hS hl.1 (Nat.le_of_ble_eq_true rfl) dL_law_4 ⟨Nat.le_of_ble_eq_true rfl, Nat.le_of_ble_eq_true rfl⟩ (fun N1 M1 ok1 H locs h hR hS => ?_)
  obtain ⟨rfl, rfl, rfl⟩ := h
  refine lv_astore_n (lv' := [(1, .ref (G.2.1 + 0)), (0, .ref b)]) hx hb dL_law_7 rfl hl (by decide) rfl (fun ls hl => ?_)
  refine rn_obj (own := RL) hx hb hts inlX7 tyX7 tyX7_ok hown q9_1_3 q9_1_4 q_1_5 hK hR hS kd_143 cl_7 (by decide) df_7 rfl (Nat.le_of_ble_eq_true rfl) (Nat.le_of_ble_eq_true rfl) dL_law_8 (fun M1 ok1 eM1 eok1 H hR hS => ?_)
  subst eM1
  subst eok1
  refine lv_dup hx hb dL_law_11 rfl ?_
  refine rn_ctor (rest := [.ref (G.2.1 + 143)]) ⟨hx, hb, hml, hown, hts⟩ (mX7_init l G 143 144 _ _ P7 kd_143 (by omega) p7_ok) (cwI 0 hts gN_X7_init rfl rfl rfl (hts _ q_1_5) (hts _ q9_4_9) (hts _ q9_4_10) rfl hdS_X7_init ⟨Nat.le_of_ble_eq_true rfl, Nat.le_of_ble_eq_true rfl⟩) hK hR hS hl.1 (Nat.le_of_ble_eq_true rfl) dL_law_12 ⟨Nat.le_of_ble_eq_true rfl, Nat.le_of_ble_eq_true rfl⟩ (fun N1 M1 ok1 H locs h hR hS => ?_)
  obtain ⟨rfl, rfl, rfl⟩ := h
  refine lv_astore_n (lv' := [(2, .ref (G.2.1 + 143)), (1, .ref (G.2.1 + 0)), (0, .ref b)]) hx hb dL_law_15 rfl hl (by decide) rfl (fun ls hl => ?_)
  refine lv_iconst (v := (0 : Int32)) hx hb dL_law_16 k_iconst_0 ?_
  refine lv_istore_n (lv' := [(3, .int (0 : Int32)), (2, .ref (G.2.1 + 143)), (1, .ref (G.2.1 + 0)), (0, .ref b)]) hx hb dL_law_17 rfl hl (by decide) rfl (fun ls hl => ?_)
  have hP : Rp G MF H := rq_rp of_ok of_48 hR
  have hI : lL_law xs L 514 MF (0 : Int32) := law_all (xs := xs) hL 513 0 MF (by omega) (by omega) inv_0
  refine W.widen (k := 600000) (n := 7302250) (Nat.le_of_ble_eq_true rfl) (Nat.le_of_ble_eq_true rfl) ?_
  exact law_loop l C0 G hG hK.1 514 MF (0 : Int32) H locs ls hP hS (lv_sub hl [0, 3, 2, 1] rfl) hI
set_option maxHeartbeats 4000000 in
theorem lw_walk (l : Launch) (hflags : l.flags = flags0) (b : Addr) (xs : List Int32) : MetFree l x (headSpec (Jvm.Cond.code x code maxLocals ret :: tables_1) room_1) (lw_P b xs) (fun _ _ _ _ _ => True) lw_Q := by
  refine MetFree.of_bodyS (code := code) (maxLocals := maxLocals) (ret := ret) (by decide) ?_ ?_
  · intro args s m h hn
    obtain ⟨meth, c, h1, h2, h3, h4, h5, h6, -, -⟩ := Cond.code_spec hn (atoms_spec (ws := Jvm.Cond.code x code maxLocals ret :: tables_1) h _ List.mem_cons_self)
    exact ⟨meth, c, h1, h2, h3, h4, h5, h6⟩
  · intro p e s m args below meth c s₁ B hml0 hP _
    obtain ⟨rfl, hx, hbd, hgv⟩ := hP
    obtain ⟨scr, harrAt, hlist, hof, hsmall⟩ := hx
    obtain ⟨hcb, hkn, -, -⟩ := State.arrayAt?_spec harrAt
    have hown : s.vm.findClass R_law = some m.cls := findClass_of_methodNamed B.named
    have hts0 : ∀ c ∈ (Jvm.Cond.code x code maxLocals ret :: tables_1), c.before #[Value.ref b] s = true := atoms_spec (ws := Jvm.Cond.code x code maxLocals ret :: tables_1) B.pre
    have hts : ∀ w ∈ lw_tbl, w.before #[Value.ref b] s = true := k2_hts_sels lw_privs (fun w hw => hts0 w (List.mem_cons_of_mem _ hw)) lw_privs_ok
    have hml : c.maxLocals = 4 := B.maxLocals_eq (hts0 _ List.mem_cons_self)
    have X₀ : Stand p l e room_1 s m #[Value.ref b] below meth c s₁ [] 0 0 := Stand.of_body B
    have hh0 : s₁.heap = s.heap := by rw [B.state]; rfl
    have hsz : scr.slots.size = xs.length := by rw [← Array.length_toList, hlist, List.length_map]
    have hval : ∀ j : Nat, j < xs.length → scr.slots[j]? = some (.int (xs.getD j 0)) := fun j hj => by
      rw [← Array.getElem?_toList, hlist]
      simp [hj]
    have hbl : b < s.heap.size := (Array.getElem?_eq_some_iff.mp hcb).1
    have hX : va_X b xs.length (fun j => xs.getD j 0) s s.heap := ⟨scr, hcb, hof, hkn, hsz, hval⟩
    have K : W p l e room_1 s m #[Value.ref b] below meth c s₁.heap [] 0 0 (lw_Z below #[Value.ref b] s) (entryFrame m ([Value.ref b] : List Value).toArray 4) := by
      rw [hh0]
      exact whole_start l hflags hbd ⟨B.exec, B.bytes, B.returns, hml, hown, hts, hX, hbl, B.notSynchronized, hgv⟩
    obtain ⟨t, a1, o, b1, b2, b3⟩ := K s₁ rfl X₀
    exact ⟨t, o, a1, b1, b2, b3⟩
theorem lw_pre_spec {args : Array Value} {s : State} (h : (Jvm.Cond.and given_1 narrow_1).before args s = true) (hr : rest_1_c.before args s = true) : ∃ (b : Addr) (xs : List Int32), lw_P b xs args s := by
  have hs := flat_of_before _ h
  have hq := flat_of_before _ hr
  have hc : (Cond.count 1).before args s = true := hs _ (by decide +kernel)
  have harr : (Cond.arrayOf (.arg 0) .int).before args s = true := hs _ (by decide +kernel)
  have hle : (Cond.le (.length (.arg 0)) (.int 2560)).before args s = true := hs _ (by decide +kernel)
  have hlen : (Cond.isInt (.length (.arg 0))).before args s = true := hq _ (by decide +kernel)
  have hall : (Cond.all (.arg 0) (.isInt (.elem (.arg 0) (.index 0)))).before args s = true := hq _ (by decide +kernel)
  obtain ⟨b, xs, hb, hx⟩ := State.ints_of_pre rfl harr hlen hall
  have hsm : xs.length < 2 ^ 31 := hx.choose_spec.2.2.2
  have hev : (Term.length (.arg 0)).eval args s none [] s = some (.int xs.length.toInt32) := hx.length_eval hb
  have hv := Cond.le_ints hev (show (Term.int 2560).eval args s none [] s = some (.int 2560) from rfl)
  have hd : xs.length.toInt32 ≤ 2560 := by
    simpa [Cond.before, Cond.holds, hv] using hle
  have hN : xs.length ≤ 2560 := (Int32.ofNat_le_ofNat hsm (by decide)).mp (show Int32.ofNat xs.length ≤ Int32.ofNat 2560 from hd)
  exact ⟨b, xs, Cond.one_arg hc (show args[0]? = some (.ref b) from hb), hx, hN, h⟩
theorem lw_comes (l : Launch) (hflags : l.flags = flags0) : Comes l x (Jvm.Cond.code x code maxLocals ret :: tables_1) room_1 (fun tb e args s => Calls_1 tb e args s ∧ rest_1 tb e args s ∧ Pre_1 tb e args s)
    (fun _ _ args s o t => lw_Q args s o t) := by
  intro p e ha hc hk s m args below hf hfit hheap happ hpre
  obtain ⟨b, xs, hP⟩ := lw_pre_spec hpre.2.2 hpre.2.1
  obtain ⟨k, o, h1, h2, h3, hQ⟩ := lw_walk l hflags b xs p e ha hc hk s m args below hf ((Spec.applies_iff_loose hf).mp happ).1 hP trivial
  exact ⟨k, o, h1, h2, h3, hQ⟩
theorem lw_frame {s t : State} {o : Outcome} {args : Array Value} (h : State.butDraws s t lw_cs (fun t1 => Framed s o t1 [] 600000 7302250)) :
    State.butDraws s t [Jvm.Choice.named "NaN.bits"] (fun t1 => Framed s o t1 (fieldLocs frame_1_writes args s ++ arrayLocs frame_1_arrays args s ++ staticLocs frame_1_statics s) 600000 7302250) := h
theorem lw_limb (L : Cond) (hL : ∀ (args : Array Value) (s t : State), L.after args s (.returned (some (.int 1))) t = true) :
    ArmFor flags0 classFile x code maxLocals ret World_1 tables_1 room_1 Calls_1 rest_1 Pre_1
      (fun tb e a s o t => postC L tb e a s o t ∧ State.butDraws s t [Jvm.Choice.named "NaN.bits"] (fun t1 => Framed s o t1 (fieldLocs frame_1_writes a s ++ arrayLocs frame_1_arrays a s ++ staticLocs frame_1_statics s) 600000 7302250)) := by
  intro l hflags _ _ p e ha hc hk s m args below hf hfit hheap happ hpre
  obtain ⟨k, o, h1, h2, h3, rfl, hF⟩ := lw_comes l hflags p e ha hc hk s m args below hf hfit hheap happ hpre
  exact ⟨k, _, h1, h2, h3, hL args s _, lw_frame hF⟩
theorem i_vc : Claimed_1_1 ∧ Claimed_1_2 := ⟨lw_limb limb_1_1 (fun args s t => by simp [limb_1_1, Cond.after, Cond.holds, Cond.value]), lw_limb limb_1_2 (fun args s t => Cond.after_iff.mpr (by
  first | (rw [show limb_1_2 = Cond.eq .result (.int 1) from rfl, Cond.eq_ints (x := 1) (y := 1) rfl rfl]; simp; done) | (simp [limb_1_2, Cond.value, Term.eval]; done)))⟩
