/-! the law's own rows: in an hour it makes two rows of ten; they lie behind the class's memory -/
def cellF (xs : Nat → Int32) (L : Nat) (k : Int32) : Int32 := (if Int32.ofNat L ≤ k then (65539 : Int32) * (k + (59 : Int32)) else xs (ix k)) &&& (2147483647 : Int32)
def aAt (G : Gp) (M : Mm) (j : Nat) (H : Heap) : Prop := H[G.2.1 + j]? = some (vp_cell G.2.2.1 (10, .inl (M j)))
def Rh (G : Gp) (L : List Nat) (M : Mm) (H : Heap) : Prop := Rp G M H ∧ ∀ j ∈ L, 143 ≤ j ∧ aAt G M j H
abbrev CtH (l : Launch) (y : MethodName) (ws : List Cond) (rm : Room) (G : Gp) (av : List Value) (M : Mm) (Post : Mm → Int32 → Prop) : Prop :=
  Met l y ws rm (va_Pc av (fun U => Kp G U ∧ Rp G M U.heap)) (va_Qi (fun (r : Int32) (u : Mm) => Post u r) (fun u t => Rp G u t.heap) (Fr0 G)) 2 20 (Fr0 G)
abbrev Wh (p : Program) (l : Launch) (e : Env) (R : Room) (s : State) (m : MethodId) (args : Array Value) (below : List Frame) (meth : Method) (c : Code) (G : Gp) (Post : Mm → Int32 → Prop) (H : Heap) (locs : List Loc) (cells slots : Nat) (g : JFrame) : Prop :=
  W p l e R s m args below meth c H locs cells slots (MQ below (va_Qi (fun (r : Int32) (u : Mm) => Post u r) (fun u t => Rp G u t.heap) (Fr0 G)) args s 2 20 (Fr0 G)) g
theorem Rp.low {G : Gp} {M M' : Mm} {H : Heap} (h : Rp G M H) (e : ∀ a, a < 143 → M' a = M a) : Rp G M' H := by
  have : rpW G M' = rpW G M := by
    unfold rpW
    refine List.map_congr_left (fun j hj => ?_)
    rw [e j (List.mem_range.mp hj)]
  unfold Rp
  rw [this]
  exact h
theorem Rp.size {G : Gp} {M : Mm} {H : Heap} (h : Rp G M H) : G.2.1 + 143 ≤ H.size := by
  have := (h 142 _ (rpW_get (by omega))).lt
  have h2 : G.2.1 + 142 < H.size := this
  omega
theorem Rp.stay {G : Gp} {M : Mm} {H H1 : Heap} (h : Rp G M H) (o : ∀ q : Nat, q < G.2.1 + 143 → H1[q]? = H[q]?) : Rp G M H1 := by
  refine va_P.kept h (fun k x hx => ?_)
  have hk : k < 143 := by
    have := (List.getElem?_eq_some_iff.mp hx).1
    simpa [rpW] using this
  rw [rpW_get hk] at hx
  cases hx
  exact o _ (by show G.2.1 + k < _; omega)
section RG
variable {p : Program} {l : Launch} {e : Env} {R : Room} {s : State} {m : MethodId} {args : Array Value} {below : List Frame} {meth : Method} {c : Code} {H : Heap} {locs : List Loc} {cells slots : Nat} {Q : State → Prop}
variable {cc : ByteArray} {pc : Nat} {ls : Array Slot} {rest : List Value} {G : Gp} {M : Mm} {H0 : Heap}
theorem rg_Vi {y : MethodName} {bytes : ByteArray} {maxL nL n index : Nat} {ret : Option FieldType} {ws : List Cond} {rm : Room} {Ts : List Cond} {own : String} {As st : List Value} {Post : Mm → Int32 → Prop} {j : Nat} (S : CallFix p m c cc nL s args Ts own) (hM : CtI l y ws rm G (.ref (G.2.1 + j) :: As) M Post) {C : String} (cw : CallW R s args own C index y bytes maxL ret ws rm 0 0 n) (hK : Kp G s) (hP : Rp G M H) (hS : va_S (Fr0 G) H0 H locs) {ci : Nat} {T : u_T} {N : Nat} (hk : kd j = ci) (h8 : ci < 8) (hc : vwCl[ci]? = some (C, T, N)) (hn : As.length = n) (hsz : ls.size = nL) (hst : st = As.reverse ++ .ref (G.2.1 + j) :: rest) (hr8 : (rest.map fun v => v.category).sum ≤ 8) (hdg : decode cc pc = .ok (.invokevirtual index, 3)) (hf : cells ≤ R.cells ∧ slots ≤ R.slots)
    (kk : ∀ (r : Int32) (u : Mm) (H1 : Heap) (locs1 : List Loc), Post u r → Rp G u H1 → va_S (Fr0 G) H0 H1 locs1 → W p l e R s m args below meth c H1 locs1 cells slots Q (F0 m (pc + 3) ls (.int r :: rest))) : W p l e R s m args below meth c H locs cells slots Q (F0 m pc ls st) := by
  subst hst
  refine va_calli (va_runV S hM cw ⟨ct_blind, rk_recv hK hP hk h8 hc, fun U hU hW => ⟨rfl, hK.warm hW, by rw [hU]; exact hP⟩⟩ rfl hn hsz rfl (lv_room hr8) hdg hf) hS (fun q _ h => h.1) (fun q h => h.1) (fun r u t H1 locs1 ht hvm hw hB hz1 hk1 hS1 => ?_)
  rw [ht] at hB
  exact kk r u H1 locs1 hw hB hS1
theorem rg_Si {y : MethodName} {bytes : ByteArray} {maxL nL n index : Nat} {ret : Option FieldType} {ws : List Cond} {rm : Room} {Ts : List Cond} {own : String} {As st : List Value} {Post : Mm → Int32 → Prop} (S : CallFix p m c cc nL s args Ts own) (hM : CtI l y ws rm G As M Post) (cw : CallB R s args own index y bytes maxL ret ws rm 0 0 n ∧ (Cond.static y).before args s = true) (hK : Kp G s) (hP : Rp G M H) (hS : va_S (Fr0 G) H0 H locs) (hn : As.length = n) (hsz : ls.size = nL) (hst : st = As.reverse ++ rest) (hr8 : (rest.map fun v => v.category).sum ≤ 8) (hdg : decode cc pc = .ok (.invokestatic index, 3)) (hf : cells ≤ R.cells ∧ slots ≤ R.slots)
    (kk : ∀ (r : Int32) (u : Mm) (H1 : Heap) (locs1 : List Loc), Post u r → Rp G u H1 → va_S (Fr0 G) H0 H1 locs1 → W p l e R s m args below meth c H1 locs1 cells slots Q (F0 m (pc + 3) ls (.int r :: rest))) : W p l e R s m args below meth c H locs cells slots Q (F0 m pc ls st) := by
  subst hst
  refine va_calli (va_runS S hM cw ⟨ct_blind, fun U hU hW => ⟨rfl, hK.warm hW, by rw [hU]; exact hP⟩⟩ rfl hn hsz rfl (lv_room hr8) hdg hf) hS (fun q _ h => h.1) (fun q h => h.1) (fun r u t H1 locs1 ht hvm hw hB hz1 hk1 hS1 => ?_)
  rw [ht] at hB
  exact kk r u H1 locs1 hw hB hS1
/-- a call of a method of the law's that makes two rows -/
theorem rg_Sh {y : MethodName} {bytes : ByteArray} {maxL nL n index : Nat} {ret : Option FieldType} {ws : List Cond} {rm : Room} {Ts : List Cond} {own : String} {As st : List Value} {Post : Mm → Int32 → Prop} (S : CallFix p m c cc nL s args Ts own) (hM : CtH l y ws rm G As M Post) (cw : CallB R s args own index y bytes maxL ret ws rm 2 20 n ∧ (Cond.static y).before args s = true) (hK : Kp G s) (hP : Rp G M H) (hS : va_S (Fr0 G) H0 H locs) (hn : As.length = n) (hsz : ls.size = nL) (hst : st = As.reverse ++ rest) (hr8 : (rest.map fun v => v.category).sum ≤ 8) (hdg : decode cc pc = .ok (.invokestatic index, 3)) (hf : cells + 2 ≤ R.cells ∧ slots + 20 ≤ R.slots)
    (kk : ∀ (r : Int32) (u : Mm) (H1 : Heap) (locs1 : List Loc), Post u r → Rp G u H1 → va_S (Fr0 G) H0 H1 locs1 → W p l e R s m args below meth c H1 locs1 (cells + 2) (slots + 20) Q (F0 m (pc + 3) ls (.int r :: rest))) : W p l e R s m args below meth c H locs cells slots Q (F0 m pc ls st) := by
  subst hst
  refine va_calli (va_runS S hM cw ⟨ct_blind, fun U hU hW => ⟨rfl, hK.warm hW, by rw [hU]; exact hP⟩⟩ rfl hn hsz rfl (lv_room hr8) hdg hf) hS (fun q _ h => h) (fun q h => h) (fun r u t H1 locs1 ht hvm hw hB hz1 hk1 hS1 => ?_)
  rw [ht] at hB
  exact kk r u H1 locs1 hw hB hS1
/-- a call that reads the script -/
theorem rg_Sc {y : MethodName} {bytes : ByteArray} {maxL nL n index b Ls : Nat} {xs : Nat → Int32} {v : Int32} {ret : Option FieldType} {ws : List Cond} {rm : Room} {Ts : List Cond} {own : String} {As st : List Value} (S : CallFix p m c cc nL s args Ts own) (hM : Met l y ws rm (va_Pc As (fun U => Kp G U ∧ Rp G M U.heap ∧ va_X b Ls xs U U.heap)) (va_Qi (fun (r : Int32) (u : Mm) => u = M ∧ r = v) (fun u t => Rp G u t.heap) (Fr G)) 0 0 (Fr G)) (cw : CallB R s args own index y bytes maxL ret ws rm 0 0 n ∧ (Cond.static y).before args s = true) (hK : Kp G s) (hP : Rp G M H) (hS : va_S (Fr0 G) s.heap H locs) (hX : va_X b Ls xs s s.heap) (hbl : b < s.heap.size) (hbA : ¬ Fr0 G b) (hn : As.length = n) (hsz : ls.size = nL) (hst : st = As.reverse ++ rest) (hr8 : (rest.map fun v => v.category).sum ≤ 8) (hdg : decode cc pc = .ok (.invokestatic index, 3)) (hf : cells ≤ R.cells ∧ slots ≤ R.slots)
    (kk : ∀ (r : Int32), r = v → ∀ (H1 : Heap) (locs1 : List Loc), Rp G M H1 → va_S (Fr0 G) s.heap H1 locs1 → W p l e R s m args below meth c H1 locs1 cells slots Q (F0 m (pc + 3) ls (.int r :: rest))) : W p l e R s m args below meth c H locs cells slots Q (F0 m pc ls st) := by
  subst hst
  have hX2 : va_X b Ls xs s H := hX.kept (hS.2.1 b hbl hbA)
  refine va_calli (va_runS S hM cw ⟨fun a U g mk h => ⟨h.1, h.2.1.same, h.2.2.1, va_X.moved (u := U) (Vm.Alike.refl U.vm) h.2.2.2⟩, fun U hU hW => ⟨rfl, hK.warm hW, by rw [hU]; exact hP, by rw [hU]; exact hX2.moved hW.alike⟩⟩ rfl hn hsz rfl (lv_room hr8) hdg hf) hS (fun q _ h => h.1) (fun q h => h.1) (fun r u t H1 locs1 ht hvm hw hB hz1 hk1 hS1 => ?_)
  rw [ht, hw.1] at hB
  exact kk r hw.2 H1 locs1 hB hS1
theorem rz_g {Post : Mm → Int32 → Prop} {v : Int32} (hx : p.tables.exec = Jvm.exec) (hb : c.code = cc) (hr : meth.sig.returnType = some .boolean) (hlocks : meth.locks = false) (hv : v = 0 ∨ v = 1) (hP : Rp G M H) (hS : va_S (Fr0 G) s.heap H locs) (h : Post M v) (h1 : cells ≤ 2) (h2 : slots ≤ 20) (hdg : decode cc pc = .ok (.ireturn, 1)) : W p l e R s m args below meth c H locs cells slots (MQ below (va_Qi (fun (r : Int32) (u : Mm) => Post u r) (fun u t => Rp G u t.heap) (Fr0 G)) args s 2 20 (Fr0 G)) (F0 m pc ls [.int v]) :=
  W.widen h1 h2 (W.zret hx hb hr (by rcases hv with rfl | rfl <;> rfl) (fun t ht hW => ⟨⟨v, M, rfl, h, by show Rp G M t.heap; rw [ht]; exact hP⟩, hS.F ht⟩) hS.2.2 hdg hlocks)
/-! the rows of two, while an hour is looked at -/
variable {L : List Nat}
theorem rz_h {Post : Mm → Int32 → Prop} {v : Int32} (hx : p.tables.exec = Jvm.exec) (hb : c.code = cc) (hr : meth.sig.returnType = some .boolean) (hlocks : meth.locks = false) (hv : v = 0 ∨ v = 1) (hP : Rh G L M H) (hS : va_S (Fr0 G) s.heap H locs) (h : Post M v) (h1 : cells ≤ 2) (h2 : slots ≤ 20) (hdg : decode cc pc = .ok (.ireturn, 1)) : W p l e R s m args below meth c H locs cells slots (MQ below (va_Qi (fun (r : Int32) (u : Mm) => Post u r) (fun u t => Rp G u t.heap) (Fr0 G)) args s 2 20 (Fr0 G)) (F0 m pc ls [.int v]) :=
  rz_g hx hb hr hlocks hv hP.1 hS h h1 h2 hdg
theorem rh_Vi {ja jb : Nat} {y : MethodName} {bytes : ByteArray} {maxL nL n index : Nat} {ret : Option FieldType} {ws : List Cond} {rm : Room} {Ts : List Cond} {own : String} {As st : List Value} {Post : Mm → Int32 → Prop} {j : Nat} (S : CallFix p m c cc nL s args Ts own) (hM : CtI l y ws rm G (.ref (G.2.1 + j) :: As) M (fun u r => (u ja = M ja ∧ u jb = M jb) ∧ Post u r)) {C : String} (cw : CallW R s args own C index y bytes maxL ret ws rm 0 0 n) (hK : Kp G s) (hP : Rh G [ja, jb] M H) (hS : va_S (Fr0 G) H0 H locs) {ci : Nat} {T : u_T} {N : Nat} (hk : kd j = ci) (h8 : ci < 8) (hc : vwCl[ci]? = some (C, T, N)) (hn : As.length = n) (hsz : ls.size = nL) (hst : st = As.reverse ++ .ref (G.2.1 + j) :: rest) (hr8 : (rest.map fun v => v.category).sum ≤ 8) (hdg : decode cc pc = .ok (.invokevirtual index, 3)) (hf : cells ≤ R.cells ∧ slots ≤ R.slots)
    (kk : ∀ (r : Int32) (u : Mm) (H1 : Heap) (locs1 : List Loc), Post u r → Rh G [ja, jb] u H1 → va_S (Fr0 G) H0 H1 locs1 → W p l e R s m args below meth c H1 locs1 cells slots Q (F0 m (pc + 3) ls (.int r :: rest))) : W p l e R s m args below meth c H locs cells slots Q (F0 m pc ls st) := by
  subst hst
  refine va_calli (va_runV S hM cw ⟨ct_blind, rk_recv hK hP.1 hk h8 hc, fun U hU hW => ⟨rfl, hK.warm hW, by rw [hU]; exact hP.1⟩⟩ rfl hn hsz rfl (lv_room hr8) hdg hf) hS (fun q _ h => h.1) (fun q h => h.1) (fun r u t H1 locs1 ht hvm hw hB hz1 hk1 hS1 => ?_)
  rw [ht] at hB
  refine kk r u H1 locs1 hw.2 ⟨hB, fun k hk => ?_⟩ hS1
  obtain ⟨h143, hat⟩ := hP.2 k hk
  have hlt : G.2.1 + k < H.size := (Array.getElem?_eq_some_iff.mp hat).1
  have he : u k = M k := by
    rcases List.mem_cons.mp hk with e | e
    · rw [e]; exact hw.1.1
    · rw [List.mem_singleton.mp e]; exact hw.1.2
  refine ⟨h143, ?_⟩
  unfold aAt
  rw [hk1 (G.2.1 + k) hlt (fun z => by have := z.2; omega), he]
  exact hat
theorem rh_iald (hx : p.tables.exec = Jvm.exec) (hb : c.code = cc) (hK : Kp G s) (hP : Rh G L M H) {j : Nat} (hj : j ∈ L) {i : Int32} (hin : vp_in i 10) (hdg : decode cc pc = .ok (.iaload, 1))
    (kk : W p l e R s m args below meth c H locs cells slots Q (F0 m (pc + 1) ls (.int (M j (ix i)) :: rest))) : W p l e R s m args below meth c H locs cells slots Q (F0 m pc ls (.int i :: .ref (G.2.1 + j) :: rest)) := by
  have hat := (hP.2 j hj).2
  have hP1 : va_P G.1 vwCl [(G.2.1 + j, (.inl (G.2.2.1, 10, .inl (M j)) : va_E))] H := by
    intro k q hq
    have hz : k < 1 := (List.getElem?_eq_some_iff.mp hq).1
    rw [show k = 0 by omega] at hq
    cases hq
    exact hat
  exact va_iald hx hb hK.1 hP1 0 0 rfl rfl hin hdg kk
theorem rh_iast (hx : p.tables.exec = Jvm.exec) (hb : c.code = cc) (hK : Kp G s) (hP : Rh G L M H) (hS : va_S (Fr0 G) H0 H locs) {j : Nat} (hj : j ∈ L) {i v : Int32} (hin : vp_in i 10) (hdg : decode cc pc = .ok (.iastore, 1))
    (kk : ∀ (M1 : Mm), M1 = mu M j (ix i) v → ∀ (H1 : Heap) (locs1 : List Loc), Rh G L M1 H1 → va_S (Fr0 G) H0 H1 locs1 → W p l e R s m args below meth c H1 locs1 cells slots Q (F0 m (pc + 1) ls rest)) : W p l e R s m args below meth c H locs cells slots Q (F0 m pc ls (.int v :: .int i :: .ref (G.2.1 + j) :: rest)) := by
  obtain ⟨h143, hat⟩ := hP.2 j hj
  have hat2 : H[G.2.1 + j]? = some (vp_cell G.2.2.1 (10, .inl (M j))) := hat
  refine W.iast hx hb hat2 ((hK.1.2 0 (G.2.2.1, .int) rfl).1 10 (fun i => .int (M j i))) (fun q => by cases q) (by show ¬ (i < 0 ∨ (arrV _ _ _).slots.size ≤ _); rw [arrV_size]; exact hin) rfl rfl hdg fun H1 e z oq => ?_
  have oq' : ∀ q : Nat, q ≠ G.2.1 + j → H1[q]? = H[q]? := oq
  refine kk _ rfl H1 _ ⟨?_, fun k hk => ⟨(hP.2 k hk).1, ?_⟩⟩ (hS.put z oq (Nat.le_add_right _ _))
  · exact Rp.low (hP.1.stay (fun q hq => oq' q (by omega))) (fun a ha => mu_o a (by omega))
  · unfold aAt
    by_cases ek : k = j
    · subst ek
      rw [mu_s, e, vp_cell_i, vp_cell_i, arrV_store]
      congr 2
      funext q
      by_cases hq : q = i.toNatClampNeg
      · subst hq
        simp [updV, upd]
      · simp [updV, upd, hq]
    · rw [oq' _ (by omega), mu_o k ek]
      exact (hP.2 k hk).2
theorem rh_make {N : Nat} (hP : Rp G M H) {ls0 : List Nat} (hL : ∀ j ∈ ls0, 143 ≤ j ∧ aAt G M j H) {H1 : Heap} {cA : ClassId} (hK : Kp G s) (hN : H.size = G.2.1 + N) (e1 : H1[H.size]? = some (arrV cA 10 (fun _ => defaultValue .int))) (z1 : H1.size = H.size + 1) (o1 : ∀ q, q < H.size → H1[q]? = H[q]?) (hNm : s.vm.findClass ("[" ++ (FieldType.int).toString) = some cA) : 143 ≤ N ∧ (∀ j ∈ ls0, j < N) ∧ Rh G (ls0 ++ [N]) (mz M N) H1 := by
  have hsz := hP.size
  have hlt : ∀ j ∈ ls0, j < N := fun j hj => by
    have : G.2.1 + j < H.size := (Array.getElem?_eq_some_iff.mp (hL j hj).2).1
    omega
  refine ⟨by omega, hlt, Rp.low (hP.stay (fun q hq => o1 q (by omega))) (fun a ha => mz_o a (by omega)), fun j hj => ?_⟩
  rcases List.mem_append.mp hj with h | h
  · have := hlt j h
    refine ⟨(hL j h).1, ?_⟩
    unfold aAt
    rw [o1 _ (by omega), mz_o j (by omega)]
    exact (hL j h).2
  · have ej : j = N := List.mem_singleton.mp h
    subst ej
    refine ⟨by omega, ?_⟩
    have hcI : cA = G.2.2.1 := by
      have h2 := (hK.1.2 0 (G.2.2.1, .int) rfl).2
      exact Option.some.inj (hNm.symm.trans h2)
    unfold aAt
    rw [← hN, e1, hcI]
    simp [vp_cell_i, mz]
    rfl
theorem rh_new0 (hx : p.tables.exec = Jvm.exec) (hb : c.code = cc) {Ts : List Cond} (hts : ∀ w ∈ Ts, w.before args s = true) (harr : Cond.arrayClass .int ∈ Ts) (hK : Kp G s) (hP : Rp G M H) (hS : va_S (Fr0 G) H0 H locs) (hcells : 0 + 1 ≤ R.cells) (hslots : 0 + 10 ≤ R.slots) (hdg : decode cc pc = .ok (.newarray .int, 2))
    (kk : ∀ ja : Nat, 143 ≤ ja → ∀ (H1 : Heap), Rh G [ja] (mz M ja) H1 → va_S (Fr0 G) H0 H1 locs → W p l e R s m args below meth c H1 locs 1 10 Q (F0 m (pc + 2) ls (.ref (G.2.1 + ja) :: rest))) : W p l e R s m args below meth c H locs 0 0 Q (F0 m pc ls (.int (10 : Int32) :: rest)) := by
  have hsz := hP.size
  obtain ⟨N, hN⟩ : ∃ N, H.size = G.2.1 + N := ⟨H.size - G.2.1, by omega⟩
  refine va_newaK (N := 10) hx hb (atype := .int) (hts _ harr) rfl hdg rfl (by decide) (by decide) (by decide) hcells hslots rfl fun H1 cA e1 z1 o1 hAr hNm => ?_
  obtain ⟨h1, -, h2⟩ := rh_make (ls0 := []) hP (fun j hj => by cases hj) hK hN e1 z1 o1 hNm
  rw [hN]
  exact kk N h1 H1 h2 ⟨Nat.le_trans hS.1 (by omega), fun q q1 q2 => (o1 q (Nat.lt_of_lt_of_le q1 hS.1)).trans (hS.2.1 q q1 q2), hS.2.2⟩
theorem rh_new1 {ja : Nat} (hx : p.tables.exec = Jvm.exec) (hb : c.code = cc) {Ts : List Cond} (hts : ∀ w ∈ Ts, w.before args s = true) (harr : Cond.arrayClass .int ∈ Ts) (hK : Kp G s) (hP : Rh G [ja] M H) (hS : va_S (Fr0 G) H0 H locs) (hcells : 1 + 1 ≤ R.cells) (hslots : 10 + 10 ≤ R.slots) (hdg : decode cc pc = .ok (.newarray .int, 2))
    (kk : ∀ jb : Nat, ja < jb → ∀ (H1 : Heap), Rh G [ja, jb] (mz M jb) H1 → va_S (Fr0 G) H0 H1 locs → W p l e R s m args below meth c H1 locs 2 20 Q (F0 m (pc + 2) ls (.ref (G.2.1 + jb) :: rest))) : W p l e R s m args below meth c H locs 1 10 Q (F0 m pc ls (.int (10 : Int32) :: rest)) := by
  have hsz := hP.1.size
  obtain ⟨N, hN⟩ : ∃ N, H.size = G.2.1 + N := ⟨H.size - G.2.1, by omega⟩
  refine va_newaK (N := 10) hx hb (atype := .int) (hts _ harr) rfl hdg rfl (by decide) (by decide) (by decide) hcells hslots rfl fun H1 cA e1 z1 o1 hAr hNm => ?_
  obtain ⟨-, h1, h2⟩ := rh_make (ls0 := [ja]) hP.1 hP.2 hK hN e1 z1 o1 hNm
  rw [hN]
  exact kk N (h1 ja List.mem_cons_self) H1 h2 ⟨Nat.le_trans hS.1 (by omega), fun q q1 q2 => (o1 q (Nat.lt_of_lt_of_le q1 hS.1)).trans (hS.2.1 q q1 q2), hS.2.2⟩
end RG
abbrev rL_cell : Room := ({ frames := 0, cells := 0, slots := 0, locals := 0 } : Room)
set_option maxHeartbeats 4000000 in
theorem mL_cell (l : Launch) (G : Gp) (b : Nat) (k : Int32) (L : Nat) (xs : Nat → Int32) (M : Mm) (hbG : b < G.2.1) (hk : ¬ (Int32.ofNat L) ≤ k → vp_in k L) : Met l yL_cell wsL_cell rL_cell (va_Pc [.ref b, .int k] (fun U => Kp G U ∧ Rp G M U.heap ∧ va_X b L xs U U.heap)) (va_Qi (fun (r : Int32) (u : Mm) => u = M ∧ r = cellF xs L k) (fun u t => Rp G u t.heap) (Fr G)) 0 0 (Fr G) := by
  refine Met.ofW (cc := cL_cell) (maxL := 2) (ret := (some .int)) (by decide) rfl ?_
  intro p e s m args below meth c s₁ B hml hv
  obtain ⟨rfl, hK, hP, hX⟩ := hv
  have hx := B.exec
  have hb := B.bytes
  have hr := B.returns
  have hlocks := B.notSynchronized
  have hts0 := atoms_spec (ws := wsL_cell) B.pre
  have hts : ∀ w ∈ wsL_law, w.before _ s = true := fun w hw => hts0 w (List.mem_cons_of_mem _ hw)
  have hown : s.vm.findClass RL = some m.cls := findClass_of_methodNamed B.named
  have hS : va_S (Fr G) s.heap s.heap [] := va_S.rf
  have hbl : b < s.heap.size := by
    obtain ⟨scr, h1, -⟩ := hX
    exact (Array.getElem?_eq_some_iff.mp h1).1
  have hbA : ¬ Fr G b := fun z => by have := z.1; omega
  have hl := lv_entry ([.ref b, .int k]) (n := 2) (Nat.le_of_ble_eq_true rfl)
  rw [lg_entry_eq]
  generalize (lg_sl ([.ref b, .int k]) ++ List.replicate (2 - (lg_sl ([.ref b, .int k])).length) Slot.unset).toArray = ls at hl ⊢
  have hl : lv_has ls 2 [(0, .ref b), (1, .int k)] := hl
  have fin : ∀ v : Int32, (v &&& (2147483647 : Int32)) = cellF xs L k → W p l e (headSpec wsL_cell rL_cell).room s m ([.ref b, .int k] : List Value).toArray below meth c s.heap [] 0 0 (MQ below (va_Qi (fun (r : Int32) (u : Mm) => u = M ∧ r = cellF xs L k) (fun u t => Rp G u t.heap) (Fr G)) ([.ref b, .int k] : List Value).toArray s 0 0 (Fr G)) (F0 m 19 ls [.int v]) := by
    intro v e
    refine lv_ldc hx hb hown (hts _ qk_8) dL_cell_19 ?_
    refine lv_iand hx hb dL_cell_21 ?_
    exact W.iret hx hb hr (fun t ht hW => ⟨⟨_, M, rfl, ⟨rfl, e⟩, by show Rp G M t.heap; rw [ht]; exact hP⟩, hS.F ht⟩) hS.2.2 dL_cell_22 hlocks
  refine lv_iload_n hx hb dL_cell_0 rfl (lv_at hl 1 rfl) ?_
  refine lv_aload_n hx hb dL_cell_1 rfl (lv_at hl 0 rfl) ?_
  refine va_slen hx hb hX hbl hbA hS dL_cell_2 ?_
  refine lv_icmp_ge (tgt := 12) hx hb dL_cell_3 (by decide) (fun c1 => ?_) (fun c1 => ?_)
  · refine lv_ldc hx hb hown (hts _ qk_7) dL_cell_12 ?_
    refine lv_iload_n hx hb dL_cell_14 rfl (lv_at hl 1 rfl) ?_
    refine lv_bipush (v := (59 : Int32)) hx hb dL_cell_15 (by decide) ?_
    refine lv_iadd hx hb dL_cell_17 ?_
    refine lv_imul hx hb dL_cell_18 ?_
    refine fin _ ?_
    unfold cellF
    rw [if_pos c1]
  · refine lv_aload_n hx hb dL_cell_6 rfl (lv_at hl 0 rfl) ?_
    refine lv_iload_n hx hb dL_cell_7 rfl (lv_at hl 1 rfl) ?_
    refine va_sld hx hb hX hbl hbA hS (hk c1) dL_cell_8 ?_
    refine lv_goto (tgt := 19) hx hb dL_cell_9 (by decide) ?_
    refine fin _ ?_
    unfold cellF
    rw [if_neg c1]
