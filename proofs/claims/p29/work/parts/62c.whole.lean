/-! the law from its entry: what is made, then its loop -/
theorem q9_n1 : Cond.methodLinkNest RX6 11 yX4_init "SluiceTurns" ∈ lw_tbl := iTL _ (iT_1 _ (List.mem_of_getElem? (i := 22) rfl))
theorem q9_n2 : Cond.methodLinkNest RX6 28 yX3_init "SluiceTurns" ∈ lw_tbl := iTL _ (iT_1 _ (List.mem_of_getElem? (i := 218) rfl))
theorem q9_n3 : Cond.methodLinkNest RX2 17 yX4_init "SluiceTurns" ∈ lw_tbl := iTL _ (iT_1 _ (List.mem_of_getElem? (i := 207) rfl))
theorem q9_n4 : Cond.methodLinkNest RX4 20 yX1_init "SluiceTurns" ∈ lw_tbl := iTL _ (iT_1 _ (List.mem_of_getElem? (i := 85) rfl))
theorem q9_n5 : Cond.methodLinkNest RX4 27 yX5_init "SluiceTurns" ∈ lw_tbl := iTL _ (iT_1 _ (List.mem_of_getElem? (i := 132) rfl))
theorem q9_ao : Cond.arrayOver (.object RX4) ∈ lw_tbl := iTL _ (iT_1 _ (List.mem_of_getElem? (i := 206) rfl))
theorem q9_cl : Cond.classLink RL 10 RX6 ∈ wsL_law := iL_1 _ (List.mem_of_getElem? (i := 0) rfl)
theorem q9_in : Cond.instantiable RX6 4 ∈ wsL_law := iL_1 _ (List.mem_of_getElem? (i := 1) rfl)
theorem q9_ini : Cond.initialized RX6 ∈ wsL_law := iL_1 _ (List.mem_of_getElem? (i := 2) rfl)
theorem q9_ml : Cond.methodLink RL 67 yX6_init ∈ wsL_law := iL_1 _ (List.mem_of_getElem? (i := 3) rfl)
theorem q9_im : Cond.instanceMethod yX6_init ∈ wsL_law := iL_1 _ (List.mem_of_getElem? (i := 4) rfl)
/-- the classes and rows as the tables have them -/
theorem start_K {b : Nat} {s : State} (hts1 : ∀ w ∈ lw_tbl, w.before #[Value.ref b] s = true) : ∃ G : Gp, G.2.1 = s.heap.size ∧ Kq G s := by
  have hts : ∀ w ∈ wsL_law, w.before #[Value.ref b] s = true := fun w hw => hts1 w (wsL_law_in w hw)
  obtain ⟨c0, i0, k0⟩ := u_known (C := RX0) (T := TX0) (N := 10) (n := 10) hts inlX0 (hts _ (iL_2 _ (List.mem_of_getElem? (i := 2) rfl) : Cond.instantiable RX0 10 ∈ wsL_law))
  obtain ⟨c1, i1, k1⟩ := u_known (C := RX1) (T := TX1) (N := 9) (n := 9) hts inlX1 (hts _ (iL_2 _ (List.mem_of_getElem? (i := 6) rfl) : Cond.instantiable RX1 9 ∈ wsL_law))
  obtain ⟨c2, i2, k2⟩ := u_known (C := RX2) (T := TX2) (N := 2) (n := 2) hts inlX2 (hts _ (iL_1 _ (List.mem_of_getElem? (i := 15) rfl) : Cond.instantiable RX2 2 ∈ wsL_law))
  obtain ⟨c3, i3, k3⟩ := u_known (C := RX3) (T := TX3) (N := 9) (n := 9) hts inlX3 (hts _ (iL_1 _ (List.mem_of_getElem? (i := 19) rfl) : Cond.instantiable RX3 9 ∈ wsL_law))
  obtain ⟨c4, i4, k4⟩ := u_known (C := RX4) (T := TX4) (N := 11) (n := 11) hts inlX4 (hts _ (iL_1 _ (List.mem_of_getElem? (i := 10) rfl) : Cond.instantiable RX4 11 ∈ wsL_law))
  obtain ⟨c5, i5, k5⟩ := u_known (C := RX5) (T := TX5) (N := 5) (n := 5) hts inlX5 (hts _ (iL_2 _ (List.mem_of_getElem? (i := 10) rfl) : Cond.instantiable RX5 5 ∈ wsL_law))
  obtain ⟨c6, i6, k6⟩ := u_known (C := RX6) (T := TX6) (N := 4) (n := 4) hts inlX6 (hts _ (iL_1 _ (List.mem_of_getElem? (i := 1) rfl) : Cond.instantiable RX6 4 ∈ wsL_law))
  obtain ⟨cI, kI, pI, a1, a2, a3⟩ := Cond.arrayClass_spec (hts _ (iL_2 _ (List.mem_of_getElem? (i := 13) rfl) : Cond.arrayClass .int ∈ wsL_law))
  obtain ⟨pO, cO, kO, d1, d2, d3, d4, d5⟩ := Cond.arrayOver_spec (hts1 _ q9_ao)
  refine ⟨((fun k => match k with | 0 => c0 | 1 => c1 | 2 => c2 | 3 => c3 | 4 => c4 | 5 => c5 | _ => c6, fun k => match k with | 0 => i0 | 1 => i1 | 2 => i2 | 3 => i3 | 4 => i4 | 5 => i5 | _ => i6), s.heap.size, cI, cI, cO), rfl, ⟨⟨⟨?_, ?_⟩, trivial⟩, ?_, va_AO.of (A := #[Value.ref b]) (hts1 _ q9_ao)⟩⟩
  · intro k q hq
    match k, hq with
    | 0, hq => cases hq; exact k0
    | 1, hq => cases hq; exact k1
    | 2, hq => cases hq; exact k2
    | 3, hq => cases hq; exact k3
    | 4, hq => cases hq; exact k4
    | 5, hq => cases hq; exact k5
    | 6, hq => cases hq; exact k6
    | k + 7, hq => simp [vwCl] at hq
  · intro k q hq
    match k, hq with
    | 0, hq => cases hq; exact ⟨fun n z => ⟨fun k h => (by cases h), kI, a2, pI, a3⟩, a1⟩
    | 1, hq => cases hq; exact ⟨fun n z => ⟨fun k h => (by cases h), kO, d3, pO, d4⟩, kO, pO, d3, d4, d1, d5⟩
    | k + 2, hq => simp [tyG] at hq
  · intro q hq
    unfold nestL at hq
    simp only [List.mem_cons, List.not_mem_nil, or_false] at hq
    rcases hq with rfl | rfl | rfl | rfl | rfl
    · exact va_Nw.of rfl (hts1 _ q9_n1)
    · exact va_Nw.of rfl (hts1 _ q9_n2)
    · exact va_Nw.of rfl (hts1 _ q9_n3)
    · exact va_Nw.of rfl (hts1 _ q9_n4)
    · exact va_Nw.of rfl (hts1 _ q9_n5)
def P6 (N : Nat) (M : Mm) (ok : Okk) : Prop := N = 143 ∧ M = MF ∧ ok = OF
theorem p6_ok : wX6_init P6 1 (mz (fun _ _ => 0) 0) (oz (fun _ _ => false) 0) 0 := sp_X6 (j := 0) kd_0 ⟨rfl, rfl, rfl⟩
set_option maxHeartbeats 4000000 in
set_option maxRecDepth 100000 in
theorem whole_start {p : Program} {e : Env} {s : State} {m : MethodId} {below : List Frame} {meth : Method} {c : Code} (l : Launch) (hflags : l.flags = flags0) {b L : Nat} {xs : Nat → Int32} (hL : L ≤ 260) (C0 : lw_At p s m meth c b L xs) : W p l e room_1 s m #[Value.ref b] below meth c s.heap [] 0 0 (lw_Z below #[Value.ref b] s) (entryFrame m ([Value.ref b] : List Value).toArray 5) := by
  obtain ⟨hx, hb, hr, hml, hown, hts1, hX, hbl, hlocks, hgv⟩ := id C0
  have hts : ∀ w ∈ wsL_law, w.before #[Value.ref b] s = true := fun w hw => hts1 w (wsL_law_in w hw)
  obtain ⟨G, hG, hK⟩ := start_K hts1
  have hR : Rq G 0 (fun _ _ => 0) (fun _ _ => false) s.heap := ⟨fun k q hq => by simp [rqW] at hq, by rw [hG]; rfl⟩
  have hS : va_S (Fr0 G) s.heap s.heap [] := va_S.rf
  have hl := lv_entry ([.ref b]) (n := 5) (Nat.le_of_ble_eq_true rfl)
  rw [lg_entry_eq]
  generalize (lg_sl ([.ref b]) ++ List.replicate (5 - (lg_sl ([.ref b])).length) Slot.unset).toArray = ls at hl ⊢
  have hl : lv_has ls 5 [(0, .ref b)] := hl
  refine rn_obj (own := RL) hx hb hts inlX6 tyX6 tyX6_ok hown q9_cl q9_in q9_ini hK hR hS kd_0 cl_6 (by decide) df_6 rfl (Nat.le_of_ble_eq_true rfl) (Nat.le_of_ble_eq_true rfl) dL_law_0 (fun M1 ok1 eM1 eok1 H hR hS => ?_)
  subst eM1
  subst eok1
  refine lv_dup hx hb dL_law_3 rfl ?_
  refine rn_ctor (rest := [.ref (G.2.1 + 0)]) ⟨hx, hb, hml, hown, hts⟩ (mX6_init l G 0 1 _ _ P6 kd_0 (by omega) p6_ok) (cwI 0 hts gN_X6_init rfl rfl rfl (hts _ q9_ini) (hts _ q9_ml) (hts _ q9_im) rfl hdS_X6_init ⟨Nat.le_of_ble_eq_true rfl, Nat.le_of_ble_eq_true rfl⟩) hK hR hS hl.1 (Nat.le_of_ble_eq_true rfl) dL_law_4 ⟨Nat.le_of_ble_eq_true rfl, Nat.le_of_ble_eq_true rfl⟩ (fun N1 M1 ok1 H locs h hR hS => ?_)
  obtain ⟨rfl, rfl, rfl⟩ := h
  refine lv_astore_n (lv' := [(1, .ref (G.2.1 + 0)), (0, .ref b)]) hx hb dL_law_7 rfl hl (by decide) rfl (fun ls hl => ?_)
  have hP : Rp G MF H := rq_rp of_ok of_48 hR
  refine W.widen (k := 1000) (n := 100000) (Nat.le_of_ble_eq_true rfl) (Nat.le_of_ble_eq_true rfl) ?_
  refine law_begin l C0 G hG hK.1 31 MF H locs ls 1000 100000 (by omega) (by omega) hP hS hl ?_
  exact law_start hm_0 rfl (fun M2 h2 => law_all hL 31 0 M2 (by omega) (by omega) h2)
set_option maxHeartbeats 4000000 in
theorem lw_walk (l : Launch) (hflags : l.flags = flags0) (b : Addr) (xs : List Int32) : MetFree l x (headSpec (Jvm.Cond.code x code maxLocals ret :: tables_1) room_1) (lw_P b xs) (fun _ _ _ _ _ => True) lw_Q := by
  refine MetFree.of_bodyS (code := code) (maxLocals := maxLocals) (ret := ret) (by decide) ?_ ?_
  · intro args s m h hn
    obtain ⟨meth, c, h1, h2, h3, h4, h5, h6, -, -⟩ := Cond.code_spec hn (atoms_spec (ws := Jvm.Cond.code x code maxLocals ret :: tables_1) h _ List.mem_cons_self)
    exact ⟨meth, c, h1, h2, h3, h4, h5, h6⟩
  · intro p e s m args below meth c s₁ B hml0 hP _
    obtain ⟨rfl, hx, hbd, hgv⟩ := hP
    obtain ⟨scr, harrAt, hlist, hof, hsmall⟩ := hx
    obtain ⟨hcb, hkn, -, -⟩ := State.arrayAt?_spec harrAt
    have hown : s.vm.findClass R_law = some m.cls := findClass_of_methodNamed B.named
    have hts0 : ∀ c ∈ (Jvm.Cond.code x code maxLocals ret :: tables_1), c.before #[Value.ref b] s = true := atoms_spec (ws := Jvm.Cond.code x code maxLocals ret :: tables_1) B.pre
    have hts : ∀ w ∈ lw_tbl, w.before #[Value.ref b] s = true := k2_hts_sels lw_privs (fun w hw => hts0 w (List.mem_cons_of_mem _ hw)) lw_privs_ok
    have hml : c.maxLocals = 5 := B.maxLocals_eq (hts0 _ List.mem_cons_self)
    have X₀ : Stand p l e room_1 s m #[Value.ref b] below meth c s₁ [] 0 0 := Stand.of_body B
    have hh0 : s₁.heap = s.heap := by rw [B.state]; rfl
    have hsz : scr.slots.size = xs.length := by rw [← Array.length_toList, hlist, List.length_map]
    have hval : ∀ j : Nat, j < xs.length → scr.slots[j]? = some (.int (xs.getD j 0)) := fun j hj => by
      rw [← Array.getElem?_toList, hlist]
      simp [hj]
    have hbl : b < s.heap.size := (Array.getElem?_eq_some_iff.mp hcb).1
    have hX : va_X b xs.length (fun j => xs.getD j 0) s s.heap := ⟨scr, hcb, hof, hkn, hsz, hval⟩
    have K : W p l e room_1 s m #[Value.ref b] below meth c s₁.heap [] 0 0 (lw_Z below #[Value.ref b] s) (entryFrame m ([Value.ref b] : List Value).toArray 5) := by
      rw [hh0]
      exact whole_start l hflags hbd ⟨B.exec, B.bytes, B.returns, hml, hown, hts, hX, hbl, B.notSynchronized, hgv⟩
    obtain ⟨t, a1, o, b1, b2, b3⟩ := K s₁ rfl X₀
    exact ⟨t, o, a1, b1, b2, b3⟩
theorem lw_pre_spec {args : Array Value} {s : State} (h : (Jvm.Cond.and given_1 narrow_1).before args s = true) (hr : rest_1_c.before args s = true) : ∃ (b : Addr) (xs : List Int32), lw_P b xs args s := by
  have hs := flat_of_before _ h
  have hq := flat_of_before _ hr
  have hc : (Cond.count 1).before args s = true := hs _ (by decide +kernel)
  have harr : (Cond.arrayOf (.arg 0) .int).before args s = true := hs _ (by decide +kernel)
  have hle : (Cond.le (.length (.arg 0)) (.int 260)).before args s = true := hs _ (by decide +kernel)
  have hlen : (Cond.isInt (.length (.arg 0))).before args s = true := hq _ (by decide +kernel)
  have hall : (Cond.all (.arg 0) (.isInt (.elem (.arg 0) (.index 0)))).before args s = true := hq _ (by decide +kernel)
  obtain ⟨b, xs, hb, hx⟩ := State.ints_of_pre rfl harr hlen hall
  have hsm : xs.length < 2 ^ 31 := hx.choose_spec.2.2.2
  have hev : (Term.length (.arg 0)).eval args s none [] s = some (.int xs.length.toInt32) := hx.length_eval hb
  have hv := Cond.le_ints hev (show (Term.int 260).eval args s none [] s = some (.int 260) from rfl)
  have hd : xs.length.toInt32 ≤ 260 := by
    simpa [Cond.before, Cond.holds, hv] using hle
  have hN : xs.length ≤ 260 := (Int32.ofNat_le_ofNat hsm (by decide)).mp (show Int32.ofNat xs.length ≤ Int32.ofNat 260 from hd)
  exact ⟨b, xs, Cond.one_arg hc (show args[0]? = some (.ref b) from hb), hx, hN, h⟩
theorem lw_comes (l : Launch) (hflags : l.flags = flags0) : Comes l x (Jvm.Cond.code x code maxLocals ret :: tables_1) room_1 (fun tb e args s => Calls_1 tb e args s ∧ rest_1 tb e args s ∧ Pre_1 tb e args s)
    (fun _ _ args s o t => lw_Q args s o t) := by
  intro p e ha hc hk s m args below hf hfit hheap happ hpre
  obtain ⟨b, xs, hP⟩ := lw_pre_spec hpre.2.2 hpre.2.1
  obtain ⟨k, o, h1, h2, h3, hQ⟩ := lw_walk l hflags b xs p e ha hc hk s m args below hf ((Spec.applies_iff_loose hf).mp happ).1 hP trivial
  exact ⟨k, o, h1, h2, h3, hQ⟩
theorem lw_frame {s t : State} {o : Outcome} {args : Array Value} (h : Framed s o t [] 600000 7302250) :
    Framed s o t (fieldLocs frame_1_writes args s ++ arrayLocs frame_1_arrays args s ++ staticLocs frame_1_statics s) 600000 7302250 := h
theorem lw_limb (L : Cond) (hL : ∀ (args : Array Value) (s t : State), L.after args s (.returned (some (.int 1))) t = true) :
    ArmFor flags0 classFile x code maxLocals ret World_1 tables_1 room_1 Calls_1 rest_1 Pre_1
      (fun tb e a s o t => postC L tb e a s o t ∧ Framed s o t (fieldLocs frame_1_writes a s ++ arrayLocs frame_1_arrays a s ++ staticLocs frame_1_statics s) 600000 7302250) := by
  intro l hflags _ _ p e ha hc hk s m args below hf hfit hheap happ hpre
  obtain ⟨k, o, h1, h2, h3, rfl, hF⟩ := lw_comes l hflags p e ha hc hk s m args below hf hfit hheap happ hpre
  exact ⟨k, _, h1, h2, h3, hL args s _, lw_frame hF⟩
theorem i_vc : Claimed_1_1 ∧ Claimed_1_2 := ⟨lw_limb limb_1_1 (fun args s t => by simp [limb_1_1, Cond.after, Cond.holds, Cond.value]), lw_limb limb_1_2 (fun args s t => Cond.after_iff.mpr (by
  first | (rw [show limb_1_2 = Cond.eq .result (.int 1) from rfl, Cond.eq_ints (x := 1) (y := 1) rfl rfl]; simp; done) | (simp [limb_1_2, Cond.value, Term.eval]; done)))⟩
