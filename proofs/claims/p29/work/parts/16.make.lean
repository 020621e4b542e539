/-! THE MAKING: the same memory while it grows: N things are made; ok j k: the reference k of thing j is set. -/
abbrev Okk : Type := Nat → Nat → Bool
def mz (M : Mm) (N : Nat) : Mm := fun a => if a = N then (fun _ => 0) else M a
def oz (ok : Okk) (N : Nat) : Okk := fun a => if a = N then (fun _ => false) else ok a
def ou (ok : Okk) (j k : Nat) : Okk := fun a => if a = j then (fun i => if i = k then true else ok j i) else ok a
def rqV (ci a : Nat) (f : Nat → Int32) (g : Nat → Bool) (k : Nat) : Value := if fo ci k = 0 then .int (f k) else if g k = true then .ref (a + fo ci k) else .null
def rqFs (ci a : Nat) (f : Nat → Int32) (g : Nat → Bool) : List Value := (List.range (nF ci)).map (rqV ci a f g)
def rqE (G : Gp) (j : Nat) (f : Nat → Int32) (g : Nat → Bool) : va_E :=
  if kd j < 8 then .inr (kd j, rqFs (kd j) (G.2.1 + j) f g)
  else if kd j = 11 then .inl (G.2.2.2.2, 4, .inr (.inr (.inr (.inr (fun i => if g i = true then some (G.2.1 + (f i).toNatClampNeg) else none)))))
  else if kd j = 14 then .inl (G.2.2.2.1, 60, .inl f)
  else .inl (G.2.2.1, rn (kd j), .inl f)
def rqW (G : Gp) (N : Nat) (M : Mm) (ok : Okk) : va_W := (List.range N).map (fun j => (G.2.1 + j, rqE G j (M j) (ok j)))
def Rq (G : Gp) (N : Nat) (M : Mm) (ok : Okk) (H : Heap) : Prop := va_P G.1 vwCl (rqW G N M ok) H ∧ H.size = G.2.1 + N
def nestL : List (String × Nat × MethodName × String) := [(RX6, 11, yX4_init, "SluiceTurns"), (RX6, 28, yX3_init, "SluiceTurns"), (RX2, 17, yX4_init, "SluiceTurns"), (RX4, 20, yX1_init, "SluiceTurns"), (RX4, 27, yX5_init, "SluiceTurns")]
def Kq (G : Gp) (U : State) : Prop := Kp G U ∧ (∀ q ∈ nestL, va_Nw (.methodLinkNest q.1 q.2.1 q.2.2.1 q.2.2.2) U) ∧ va_AO RX4 U
theorem rqW_get {G : Gp} {N : Nat} {M : Mm} {ok : Okk} {j : Nat} (h : j < N) : (rqW G N M ok)[j]? = some (G.2.1 + j, rqE G j (M j) (ok j)) := by
  simp [rqW, h]
theorem rqW_D {G : Gp} {N : Nat} {M : Mm} {ok : Okk} : va_D (Fr0 G) (rqW G N M ok) := by
  have key : ∀ (k : Nat) (q : Nat × va_E), (rqW G N M ok)[k]? = some q → q.1 = G.2.1 + k := by
    intro k q h
    have hl : k < (rqW G N M ok).length := (List.getElem?_eq_some_iff.mp h).1
    have hl2 : k < N := by simpa [rqW] using hl
    rw [rqW_get hl2] at h
    cases h
    rfl
  refine ⟨fun i j p q hi hj e => ?_, fun k q h => ?_⟩
  · have := key i p hi
    have := key j q hj
    omega
  · have := key k q h
    show G.2.1 ≤ q.1
    omega
theorem rqW_set {G : Gp} {N : Nat} {M M' : Mm} {ok ok' : Okk} {j : Nat} (hj : j < N) (ho : ∀ a, a ≠ j → M' a = M a) (ho2 : ∀ a, a ≠ j → ok' a = ok a) : (rqW G N M ok).set j (G.2.1 + j, rqE G j (M' j) (ok' j)) = rqW G N M' ok' := by
  apply List.ext_getElem?
  intro i
  by_cases hi : i < N
  · by_cases hij : i = j
    · subst hij
      rw [List.getElem?_set_self (by simpa [rqW] using hj), rqW_get hj]
    · rw [List.getElem?_set_ne (Ne.symm hij), rqW_get hi, rqW_get hi, ho i hij, ho2 i hij]
  · rw [List.getElem?_eq_none (by simp [rqW]; omega), List.getElem?_eq_none (by simp [rqW]; omega)]
theorem rqW_push {G : Gp} {N : Nat} {M M' : Mm} {ok ok' : Okk} (ho : ∀ a, a ≠ N → M' a = M a) (ho2 : ∀ a, a ≠ N → ok' a = ok a) : rqW G (N + 1) M' ok' = rqW G N M ok ++ [(G.2.1 + N, rqE G N (M' N) (ok' N))] := by
  unfold rqW
  rw [List.range_succ, List.map_append]
  congr 1
  apply List.map_congr_left
  intro j hj
  have : j ≠ N := by have := List.mem_range.mp hj; omega
  rw [ho j this, ho2 j this]
theorem rqE_obj {G : Gp} {j ci : Nat} {f : Nat → Int32} {g : Nat → Bool} (hk : kd j = ci) (h8 : ci < 8) : rqE G j f g = .inr (ci, rqFs ci (G.2.1 + j) f g) := by
  subst hk
  simp [rqE, h8]
theorem rqE_int {G : Gp} {j c : Nat} {f : Nat → Int32} {g : Nat → Bool} (hk : kd j = c) (hc : rI c = true) : rqE G j f g = .inl (G.2.2.1, rn c, .inl f) := by
  subst hk
  simp only [rI, Bool.and_eq_true, decide_eq_true_eq] at hc
  simp [rqE, show ¬ kd j < 8 by omega, hc.1.2, hc.2]
theorem rqE_chr {G : Gp} {j : Nat} {f : Nat → Int32} {g : Nat → Bool} (hk : kd j = 14) : rqE G j f g = .inl (G.2.2.2.1, 60, .inl f) := by
  simp [rqE, hk]
theorem rqE_ref {G : Gp} {j : Nat} {f : Nat → Int32} {g : Nat → Bool} (hk : kd j = 11) : rqE G j f g = .inl (G.2.2.2.2, 4, .inr (.inr (.inr (.inr (fun i => if g i = true then some (G.2.1 + (f i).toNatClampNeg) else none))))) := by
  simp [rqE, hk]
theorem rqFs_get {ci a k : Nat} {f : Nat → Int32} {g : Nat → Bool} (hk : k < nF ci) : (rqFs ci a f g)[k]? = some (rqV ci a f g k) := by
  simp [rqFs, hk]
theorem rqFs_set {ci a k : Nat} {f f' : Nat → Int32} {g g' : Nat → Bool} {v : Value} (h1 : ∀ i, i ≠ k → f' i = f i) (h2 : ∀ i, i ≠ k → g' i = g i) (hv : rqV ci a f' g' k = v) : (rqFs ci a f g).set k v = rqFs ci a f' g' := by
  apply List.ext_getElem?
  intro i
  by_cases hi : i < nF ci
  · by_cases hik : i = k
    · subst hik
      rw [List.getElem?_set_self (by simpa [rqFs] using hi), rqFs_get hi, hv]
    · rw [List.getElem?_set_ne (Ne.symm hik), rqFs_get hi, rqFs_get hi]
      simp [rqV, h1 i hik, h2 i hik]
  · rw [List.getElem?_eq_none (by simp [rqFs]; omega), List.getElem?_eq_none (by simp [rqFs]; omega)]
theorem mz_o {M : Mm} {N : Nat} : ∀ a, a ≠ N → mz M N a = M a := fun a h => by simp [mz, h]
theorem oz_o {ok : Okk} {N : Nat} : ∀ a, a ≠ N → oz ok N a = ok a := fun a h => by simp [oz, h]
theorem ou_o {ok : Okk} {j k : Nat} : ∀ a, a ≠ j → ou ok j k a = ok a := fun a h => by simp [ou, h]
theorem Kq.same {G : Gp} {U : State} {g : JFrame} {mk : MethodId} {a : Array Value} (h : Kq G U) : Kq G (U.calling g mk a) := ⟨h.1.same, fun q hq => va_Nw.same (u := U) rfl rfl (h.2.1 q hq), va_AO.moved (u := U) (U := U.calling g mk a) (Vm.Alike.refl U.vm) h.2.2⟩
theorem Kq.warm {G : Gp} {s U : State} (hW : s.WarmedH U.vm) (h : Kq G s) : Kq G U := ⟨h.1.warm hW, fun q hq => va_Nw.warmM hW (h.2.1 q hq), va_AO.moved hW.alike h.2.2⟩
abbrev CtN (l : Launch) (y : MethodName) (ws : List Cond) (rm : Room) (G : Gp) (j N : Nat) (M : Mm) (ok : Okk) (Post : Nat → Mm → Okk → Prop) (mc ms : Nat) : Prop :=
  Met l y ws rm (va_Pc [.ref (G.2.1 + j)] (fun U => Kq G U ∧ Rq G N M ok U.heap)) (va_Qv (fun (u : Nat × Mm × Okk) => Post u.1 u.2.1 u.2.2) (fun u t => Rq G u.1 u.2.1 u.2.2 t.heap) (Fr0 G)) mc ms (Fr0 G)
theorem cn_blind {G : Gp} {av : List Value} {N : Nat} {M : Mm} {ok : Okk} : FrameBlind (va_Pc av (fun U => Kq G U ∧ Rq G N M ok U.heap)) := fun _ _ _ _ h => ⟨h.1, h.2.1.same, h.2.2⟩
section RN
variable {p : Program} {l : Launch} {e : Env} {R : Room} {s : State} {m : MethodId} {args : Array Value} {below : List Frame} {meth : Method} {c : Code} {H : Heap} {locs : List Loc} {cells slots : Nat} {Q : State → Prop}
variable {cc : ByteArray} {pc : Nat} {ls : Array Slot} {rest : List Value} {G : Gp} {N : Nat} {M : Mm} {ok : Okk} {H0 : Heap}
theorem rn_grow {H1 : Heap} {M1 : Mm} {ok1 : Okk} (hR : Rq G N M ok H) (ho : ∀ a, a ≠ N → M1 a = M a) (ho2 : ∀ a, a ≠ N → ok1 a = ok a) (z1 : H1.size = G.2.1 + N + 1) (o1 : ∀ q : Nat, q < G.2.1 + N → H1[q]? = H[q]?) (hat : va_at G.1 vwCl (G.2.1 + N, rqE G N (M1 N) (ok1 N)) H1) : Rq G (N + 1) M1 ok1 H1 := by
  refine ⟨?_, by rw [z1, Nat.add_assoc]⟩
  rw [rqW_push (M := M) (ok := ok) ho ho2]
  refine (hR.1.kept (fun k x hx => o1 x.1 (by have := (hR.1 k x hx).lt; rw [hR.2] at this; exact this))).app (fun k x hx => ?_)
  have hz : k < 1 := (List.getElem?_eq_some_iff.mp hx).1
  rw [show k = 0 by omega] at hx
  cases hx
  exact hat
theorem rn_S {H1 : Heap} (hR : Rq G N M ok H) (hS : va_S (Fr0 G) H0 H locs) (z1 : H1.size = G.2.1 + N + 1) (o1 : ∀ q : Nat, q < G.2.1 + N → H1[q]? = H[q]?) : va_S (Fr0 G) H0 H1 locs :=
  ⟨Nat.le_trans hS.1 (by rw [hR.2, z1]; omega), fun x h1 h2 => (o1 x (by have := Nat.lt_of_lt_of_le h1 hS.1; rw [hR.2] at this; exact this)).trans (hS.2.1 x h1 h2), hS.2.2⟩
theorem rn_obj (hx : p.tables.exec = Jvm.exec) (hb : c.code = cc) {own C : String} {T : u_T} {n ci index : Nat} {Ts : List Cond} (hts : ∀ w ∈ Ts, w.before args s = true) (hin : ∀ w ∈ u_ws C T n, w ∈ Ts) (ty : Nat → FieldType) (hty : ∀ k, k < n → parseFieldDescriptor (T k).2.2.1 = some (ty k)) (hown : s.vm.findClass own = some m.cls) (hcl : Cond.classLink own index C ∈ Ts) (hinst : Cond.instantiable C n ∈ Ts) (hini : Cond.initialized C ∈ Ts) (hK : Kq G s) (hR : Rq G N M ok H) (hS : va_S (Fr0 G) H0 H locs) (hk : kd N = ci) (hc : vwCl[ci]? = some (C, T, n)) (h8 : ci < 8) (hdef : ∀ j, j < n → defaultValue (ty j) = if fo ci j = 0 then .int 0 else .null) (hnF : nF ci = n) (hcells : cells + 1 ≤ R.cells) (hslots : slots + n ≤ R.slots) (hdg : decode cc pc = .ok (.new index, 3))
    (kk : ∀ (M1 : Mm) (ok1 : Okk), M1 = mz M N → ok1 = oz ok N → ∀ (H1 : Heap), Rq G (N + 1) M1 ok1 H1 → va_S (Fr0 G) H0 H1 locs → W p l e R s m args below meth c H1 locs (cells + 1) (slots + n) Q (F0 m (pc + 3) ls (.ref (G.2.1 + N) :: rest))) : W p l e R s m args below meth c H locs cells slots Q (F0 m pc ls rest) := by
  have hKn := hK.1.1.1 ci _ hc
  refine W.newcK hx hb hown (hts _ hcl) (hts _ hinst) (hts _ hini) rfl hdg hcells hslots hKn.2.1 hR.2 fun H1 kC hkC e1 z1 o1 => ?_
  refine kk _ _ rfl rfl H1 (rn_grow hR mz_o oz_o z1 o1 ?_) (rn_S hR hS z1 o1)
  rw [rqE_obj hk h8]
  refine ⟨_, hc, (u_born ty hts hin hKn hkC e1 hty).to (fun j hj => ?_)⟩
  show _ = (rqFs _ _ _ _).getD j .null
  rw [List.getD_eq_getElem?_getD, rqFs_get (by rw [hnF]; exact hj), hdef j hj]
  simp [rqV, mz, oz]
theorem rn_int (hx : p.tables.exec = Jvm.exec) (hb : c.code = cc) {Ts : List Cond} (hts : ∀ w ∈ Ts, w.before args s = true) (harr : Cond.arrayClass .int ∈ Ts) (hK : Kq G s) (hR : Rq G N M ok H) (hS : va_S (Fr0 G) H0 H locs) {ct n : Nat} (hk : kd N = ct) (hc : rI ct = true ∧ rn ct = n) {v : Int32} (hv : ¬ v < 0 ∧ ix v = n) (hcells : cells + 1 ≤ R.cells) (hslots : slots + n ≤ R.slots) (hby : n * 4 ≤ 536870912) (hdg : decode cc pc = .ok (.newarray .int, 2))
    (kk : ∀ (M1 : Mm) (ok1 : Okk), M1 = mz M N → ok1 = oz ok N → ∀ (H1 : Heap), Rq G (N + 1) M1 ok1 H1 → va_S (Fr0 G) H0 H1 locs → W p l e R s m args below meth c H1 locs (cells + 1) (slots + n) Q (F0 m (pc + 2) ls (.ref (G.2.1 + N) :: rest))) : W p l e R s m args below meth c H locs cells slots Q (F0 m pc ls (.int v :: rest)) := by
  refine va_newaK hx hb (atype := .int) (hts _ harr) rfl hdg rfl hv.1 hv.2 hby hcells hslots hR.2 fun H1 cA e1 z1 o1 hAr hNm => ?_
  have hcI : cA = G.2.2.1 := by
    have h2 := (hK.1.1.2 0 (G.2.2.1, .int) rfl).2
    exact Option.some.inj (hNm.symm.trans h2)
  refine kk _ _ rfl rfl H1 (rn_grow hR mz_o oz_o z1 o1 ?_) (rn_S hR hS z1 o1)
  rw [rqE_int hk hc.1]
  show H1[G.2.1 + N]? = some (vp_cell _ _)
  rw [e1, hcI, hc.2]
  simp [vp_cell_i, mz]
  rfl
theorem rn_ter (hx : p.tables.exec = Jvm.exec) (hb : c.code = cc) {own : String} {index : Nat} {Ts : List Cond} (hts : ∀ w ∈ Ts, w.before args s = true) (hown : s.vm.findClass own = some m.cls) (hcl : Cond.classLink own index RX4 ∈ Ts) (hK : Kq G s) (hR : Rq G N M ok H) (hS : va_S (Fr0 G) H0 H locs) (hk : kd N = 11) {v : Int32} (hv : ¬ v < 0 ∧ ix v = 4) (hcells : cells + 1 ≤ R.cells) (hslots : slots + 4 ≤ R.slots) (hdg : decode cc pc = .ok (.anewarray index, 3))
    (kk : ∀ (M1 : Mm) (ok1 : Okk), M1 = mz M N → ok1 = oz ok N → ∀ (H1 : Heap), Rq G (N + 1) M1 ok1 H1 → va_S (Fr0 G) H0 H1 locs → W p l e R s m args below meth c H1 locs (cells + 1) (slots + 4) Q (F0 m (pc + 3) ls (.ref (G.2.1 + N) :: rest))) : W p l e R s m args below meth c H locs cells slots Q (F0 m pc ls (.int v :: rest)) := by
  have hv2 : v.toNatClampNeg = 4 := hv.2
  refine W.anew hx hb hown (hts _ hcl) (va_AO.use hK.2.2) rfl hdg rfl hv.1 (by rw [hv2]; decide) hcells (by rw [hv2]; exact hslots) fun cA kA comp f1 f2 f3 f4 => ?_
  rw [hv2, hR.2]
  generalize hH1 : H.push ({ cls := cA, slots := Array.replicate 4 .null, vm := .none } : Cell) = H1
  have z1 : H1.size = G.2.1 + N + 1 := by rw [← hH1, Array.size_push, hR.2]
  have e1 : H1[G.2.1 + N]? = some (arrV cA 4 (fun _ => .null)) := by rw [← hR.2, ← hH1, Array.getElem?_push_size, ← arrV_new]
  have o1 : ∀ q : Nat, q < G.2.1 + N → H1[q]? = H[q]? := fun q hq => by rw [← hR.2] at hq; rw [← hH1, Array.getElem?_push, if_neg (Nat.ne_of_lt hq)]
  have hcI : cA = G.2.2.2.2 := by
    obtain ⟨kA', comp', g1, g2, g3, g4⟩ := (hK.1.1.2 1 (G.2.2.2.2, .object RX4) rfl).2
    exact Option.some.inj (f1.symm.trans g4)
  refine kk _ _ rfl rfl H1 (rn_grow hR mz_o oz_o z1 o1 ?_) (rn_S hR hS z1 o1)
  rw [rqE_ref hk]
  show H1[G.2.1 + N]? = some (vp_cell _ _)
  rw [e1, hcI, vp_cell_q]
  simp [mz, oz, va_rf]
theorem rn_getr (hx : p.tables.exec = Jvm.exec) (hb : c.code = cc) {own ref C : String} {T : u_T} {n ci index : Nat} {Ts : List Cond} (hts : ∀ w ∈ Ts, w.before args s = true) (hin : ∀ w ∈ u_ws C T n, w ∈ Ts) (hown : s.vm.findClass own = some m.cls) (hK : Kq G s) (hR : Rq G N M ok H) {j : Nat} (hj : j < N) (hk : kd j = ci) (hc : vwCl[ci]? = some (C, T, n)) (k o : Nat) (hq : (k < n ∧ k < nF ci ∧ ci < 8) ∧ fo ci k = o ∧ o ≠ 0) (hok : ok j k = true) (hlink : Cond.fieldLink own index ref (T k).2.1 (T k).2.2.1 ∈ Ts) (hsame : (T k).1 = ref) (hdg : decode cc pc = .ok (.getfield index, 3))
    (kk : W p l e R s m args below meth c H locs cells slots Q (F0 m (pc + 3) ls (.ref (G.2.1 + (j + o)) :: rest))) : W p l e R s m args below meth c H locs cells slots Q (F0 m pc ls (.ref (G.2.1 + j) :: rest)) := by
  obtain ⟨⟨h1, h2, h3⟩, ho, ho0⟩ := hq
  exact va_get hx hb hts hin hown hK.1.1 hR.1 j (by rw [rqW_get hj, rqE_obj hk h3]) hc k h1 (hts _ hlink) (by rw [hsame]; exact fun _ h => h) (v := .ref (G.2.1 + (j + o))) (by rw [rqFs_get h2, rqV, if_neg (by rw [ho]; exact ho0), if_pos hok, ho, Nat.add_assoc]) hdg kk
/-- the world behind a write at j -/
theorem rn_wrote {H1 : Heap} {M1 : Mm} {ok1 : Okk} {j : Nat} (hR : Rq G N M ok H) (hj : j < N) (ho : ∀ a, a ≠ j → M1 a = M a) (ho2 : ∀ a, a ≠ j → ok1 a = ok a) (z : H1.size = H.size) (oq : ∀ q : Nat, q ≠ G.2.1 + j → H1[q]? = H[q]?) (hat : va_at G.1 vwCl (G.2.1 + j, rqE G j (M1 j) (ok1 j)) H1) : Rq G N M1 ok1 H1 := by
  refine ⟨?_, by rw [z, hR.2]⟩
  rw [← rqW_set (M := M) (M' := M1) (ok := ok) (ok' := ok1) hj ho ho2]
  exact hR.1.set rqW_D (rqW_get hj) hat oq
theorem rn_puti (hx : p.tables.exec = Jvm.exec) (hb : c.code = cc) {own ref C : String} {T : u_T} {n ci index : Nat} {Ts : List Cond} (hts : ∀ w ∈ Ts, w.before args s = true) (hin : ∀ w ∈ u_ws C T n, w ∈ Ts) (ty0 : Nat → FieldType) (hty : ∀ k, k < n → parseFieldDescriptor (T k).2.2.1 = some (ty0 k)) (hnm : ∀ a, a < n → ∀ b, b < n → a ≠ b → (T a).2.1 ≠ (T b).2.1) (hown : s.vm.findClass own = some m.cls) (hK : Kq G s) (hR : Rq G N M ok H) (hS : va_S (Fr0 G) H0 H locs) {j : Nat} (hj : j < N) (hk : kd j = ci) (hc : vwCl[ci]? = some (C, T, n)) (k : Nat) (hq : (k < n ∧ k < nF ci ∧ ci < 8) ∧ fo ci k = 0) (hlink : Cond.fieldLink own index ref (T k).2.1 (T k).2.2.1 ∈ Ts) (hsame : (T k).1 = ref) (hfin : (T k).2.2.2 = false) (hd : ty0 k = .int) {v : Int32} (hdg : decode cc pc = .ok (.putfield index, 3))
    (kk : ∀ (M1 : Mm), M1 = mu M j k v → ∀ (H1 : Heap) (locs1 : List Loc), Rq G N M1 ok H1 → va_S (Fr0 G) H0 H1 locs1 → W p l e R s m args below meth c H1 locs1 cells slots Q (F0 m (pc + 3) ls rest)) : W p l e R s m args below meth c H locs cells slots Q (F0 m pc ls (.int v :: .ref (G.2.1 + j) :: rest)) := by
  obtain ⟨⟨h1, h2, h3⟩, ho⟩ := hq
  have hap := va_apart (own := own) hts hin ty0 hty hnm hK.1.1 hc
  have hat := hR.1 j _ (rqW_get hj)
  rw [rqE_obj hk h3] at hat
  obtain ⟨r, g1, cell, q1, q2, q3, q4⟩ := hat
  have hr : r = (C, T, n) := Option.some.inj (g1.symm.trans hc)
  subst hr
  obtain ⟨hSl, hfc, kC, hkC, hkind⟩ := hK.1.1.1 ci _ hc
  obtain ⟨cf, kf, fi, f, hi, hsl⟩ := hSl k h1
  have hlay := hts _ (hin _ (u_in_lay h1))
  unfold u_lay at hlay
  rw [if_neg (by rw [hfin]; decide)] at hlay
  have hst := (u_facts hfc hkC (u_lays hts hin h1) hi).1
  have h6 := u_store hfc hkC hkind hlay hi (by rw [hty k h1, hd]) (v := .int v) rfl rfl
  refine W.putK hx hb (f := f) ⟨hown, hts _ hlink, ⟨_, _, _, by rw [← hsame]; exact hi⟩, hst⟩ (by rw [q2]; exact h6) q1 q3 (by rw [hsl]; exact k2_hasslot (q4 k h1)) rfl rfl hdg fun H' e1 e2 e3 => ?_
  rw [hsl] at e1 ⊢
  refine kk _ rfl H' _ (rn_wrote hR hj mu_o (fun _ _ => rfl) e2 e3 ?_) (hS.put e2 e3 (Nat.le_add_right _ _))
  rw [rqE_obj hk h3, mu_s]
  refine ⟨_, hc, t_OB.to (V := updV (vp_V (rqFs ci (G.2.1 + j) (M j) (ok j))) k (.int v)) ⟨_, e1, q2, q3, t_set q4 hap h1 _⟩ (fun i hi => ?_)⟩
  rw [vp_updV_set (by simpa [rqFs] using h2), rqFs_set (f' := upd (M j) k v) (g' := ok j) (fun i hi => by simp [upd, hi]) (fun _ _ => rfl) (by simp [rqV, ho, upd])]
theorem rn_putr (hx : p.tables.exec = Jvm.exec) (hb : c.code = cc) {own ref C : String} {T : u_T} {n ci index : Nat} {Ts : List Cond} (hts : ∀ w ∈ Ts, w.before args s = true) (hin : ∀ w ∈ u_ws C T n, w ∈ Ts) (ty0 : Nat → FieldType) (hty : ∀ k, k < n → parseFieldDescriptor (T k).2.2.1 = some (ty0 k)) (hnm : ∀ a, a < n → ∀ b, b < n → a ≠ b → (T a).2.1 ≠ (T b).2.1) (hown : s.vm.findClass own = some m.cls) (hin2 : meth.name = "<init>") (hK : Kq G s) (hR : Rq G N M ok H) (hS : va_S (Fr0 G) H0 H locs) {j q : Nat} (hj : j < N) (hk : kd j = ci) (hc : vwCl[ci]? = some (C, T, n)) (k o : Nat) (hq : (k < n ∧ k < nF ci ∧ ci < 8) ∧ fo ci k = o ∧ o ≠ 0) (hqo : q = j + o) (hlink : Cond.fieldLink own index ref (T k).2.1 (T k).2.2.1 ∈ Ts) (hsame : (T k).1 = ref) (hfin : (T k).2.2.2 = true) (hdecl : (T k).1 = own) (hfit : ∀ a : Nat, narrow (ty0 k) (.ref a) = .ref a ∧ fits (ty0 k) (.ref a) = true) (hdg : decode cc pc = .ok (.putfield index, 3))
    (kk : ∀ (ok1 : Okk), ok1 = ou ok j k → ∀ (H1 : Heap) (locs1 : List Loc), Rq G N M ok1 H1 → va_S (Fr0 G) H0 H1 locs1 → W p l e R s m args below meth c H1 locs1 cells slots Q (F0 m (pc + 3) ls rest)) : W p l e R s m args below meth c H locs cells slots Q (F0 m pc ls (.ref (G.2.1 + q) :: .ref (G.2.1 + j) :: rest)) := by
  obtain ⟨⟨h1, h2, h3⟩, ho, ho0⟩ := hq
  have hap := va_apart (own := own) hts hin ty0 hty hnm hK.1.1 hc
  have hat := hR.1 j _ (rqW_get hj)
  rw [rqE_obj hk h3] at hat
  obtain ⟨r, g1, cell, q1, q2, q3, q4⟩ := hat
  have hr : r = (C, T, n) := Option.some.inj (g1.symm.trans hc)
  subst hr
  obtain ⟨hSl, hfc, kC, hkC, hkind⟩ := hK.1.1.1 ci _ hc
  obtain ⟨cf, kf, fi, f, hi, hsl⟩ := hSl k h1
  have hlay := hts _ (hin _ (u_in_lay h1))
  unfold u_lay at hlay
  rw [if_pos hfin] at hlay
  have hst := (u_facts hfc hkC (u_lays hts hin h1) hi).1
  have hcf : m.cls = cf := by
    obtain ⟨_, _, c', _, _, _, -, -, hf', -, -, -, hown2, -⟩ := Cond.laysFinal_spec hlay
    have e1 : c' = cf := by have := hi.symm.trans hf'; simp at this; exact this.1.symm
    rw [hdecl] at hown2
    rw [← e1]; exact Option.some.inj (hown.symm.trans hown2)
  have h6 := u_fits hfc hkC hkind (Or.inr hlay) hi (hty k h1) (hfit (G.2.1 + q)).1 (hfit (G.2.1 + q)).2
  refine W.putFinK hx hb hown (hts _ hlink) (by rw [← hsame]; exact hi) hst hcf hin2 (by rw [q2]; exact h6) q1 q3 (by rw [hsl]; exact k2_hasslot (q4 k h1)) rfl rfl hdg fun H' e1 e2 e3 => ?_
  rw [hsl] at e1 ⊢
  refine kk _ rfl H' _ (rn_wrote hR hj (fun _ _ => rfl) ou_o e2 e3 ?_) (hS.put e2 e3 (Nat.le_add_right _ _))
  rw [rqE_obj hk h3]
  refine ⟨_, hc, t_OB.to (V := updV (vp_V (rqFs ci (G.2.1 + j) (M j) (ok j))) k (.ref (G.2.1 + q))) ⟨_, e1, q2, q3, t_set q4 hap h1 _⟩ (fun i hi => ?_)⟩
  rw [vp_updV_set (by simpa [rqFs] using h2), rqFs_set (f' := M j) (g' := ou ok j k j) (fun _ _ => rfl) (fun i hi => by simp [ou, hi]) (by rw [rqV, if_neg (by rw [ho]; exact ho0), if_pos (by simp [ou]), ho, hqo, Nat.add_assoc])]
theorem rn_iast (hx : p.tables.exec = Jvm.exec) (hb : c.code = cc) (hK : Kq G s) (hR : Rq G N M ok H) (hS : va_S (Fr0 G) H0 H locs) {j ct n : Nat} (hj : j < N) (hk : kd j = ct) (hc : rI ct = true ∧ rn ct = n) {i v : Int32} (k : Nat) (hi : ix i = k) (hin : vp_in i n) (hdg : decode cc pc = .ok (.iastore, 1))
    (kk : ∀ (M1 : Mm), M1 = mu M j k v → ∀ (H1 : Heap) (locs1 : List Loc), Rq G N M1 ok H1 → va_S (Fr0 G) H0 H1 locs1 → W p l e R s m args below meth c H1 locs1 cells slots Q (F0 m (pc + 1) ls rest)) : W p l e R s m args below meth c H locs cells slots Q (F0 m pc ls (.int v :: .int i :: .ref (G.2.1 + j) :: rest)) := by
  subst hi
  have hat := hR.1 j _ (rqW_get hj)
  rw [rqE_int hk hc.1] at hat
  have hat2 : H[G.2.1 + j]? = some (vp_cell G.2.2.1 (rn ct, .inl (M j))) := hat
  refine W.iast hx hb hat2 ((hK.1.1.2 0 (G.2.2.1, .int) rfl).1 (rn ct) (fun i => .int (M j i))) (fun q => by cases q) (by show ¬ (i < 0 ∨ (arrV _ _ _).slots.size ≤ _); rw [arrV_size, hc.2]; exact hin) rfl rfl hdg fun H1 e z oq => ?_
  refine kk _ rfl H1 _ (rn_wrote hR hj mu_o (fun _ _ => rfl) z oq ?_) (hS.put z oq (Nat.le_add_right _ _))
  rw [rqE_int hk hc.1, mu_s]
  show H1[G.2.1 + j]? = some (vp_cell _ _)
  rw [e, vp_cell_i, vp_cell_i, arrV_store]
  congr 2
  funext q
  by_cases hq : q = i.toNatClampNeg
  · subst hq
    simp [updV, upd]
  · simp [updV, upd, hq]
theorem rn_aast (hx : p.tables.exec = Jvm.exec) (hb : c.code = cc) (hK : Kq G s) (hR : Rq G N M ok H) (hS : va_S (Fr0 G) H0 H locs) {j q : Nat} (hj : j < N) (hjq : q < N) (hq31 : q < 2147483648) (hk : kd j = 11) (hkq : kd q = 4) {i : Int32} (k : Nat) (hi : ix i = k) (hin : vp_in i 4) (hdg : decode cc pc = .ok (.aastore, 1))
    (kk : ∀ (M1 : Mm) (ok1 : Okk), M1 = mu M j k (nI q) → ok1 = ou ok j k → ∀ (H1 : Heap) (locs1 : List Loc), Rq G N M1 ok1 H1 → va_S (Fr0 G) H0 H1 locs1 → W p l e R s m args below meth c H1 locs1 cells slots Q (F0 m (pc + 1) ls rest)) : W p l e R s m args below meth c H locs cells slots Q (F0 m pc ls (.ref (G.2.1 + q) :: .int i :: .ref (G.2.1 + j) :: rest)) := by
  subst hi
  have hlt : i.toNatClampNeg < 4 := Nat.not_le.mp fun z => hin (Or.inr z)
  have h0 : ¬ i < 0 := fun z => hin (Or.inl z)
  have hat := hR.1 j _ (rqW_get hj)
  rw [rqE_ref hk] at hat
  have hat2 : H[G.2.1 + j]? = some (vp_cell G.2.2.2.2 (4, .inr (.inr (.inr (.inr (fun i => if ok j i = true then some (G.2.1 + (M j i).toNatClampNeg) else none)))))) := hat
  have hav := hR.1 q _ (rqW_get hjq)
  rw [rqE_obj hkq (by omega)] at hav
  obtain ⟨r, g1, cellV, q1, q2, q3, q4⟩ := hav
  have hcls := (hK.1.1.1 4 (RX4, TX4, 11) rfl).2
  obtain ⟨kA, comp, k1, k2, k3, -⟩ := (hK.1.1.2 1 (G.2.2.2.2, .object RX4) rfl).2
  have hcomp : comp = G.1.1 4 := Option.some.inj (k3.symm.trans hcls.1)
  subst hcomp
  obtain ⟨kC, hkC, -⟩ := hcls.2
  refine W.aast hx hb hat2 (fun q h => by cases h) (fun h => by cases h) k1 k2 rfl hkC ⟨h0, by show _ < (arrV _ _ _).slots.size; rw [arrV_size]; exact hlt⟩ q1 (fun q h => by rw [q3] at h; cases h) (by rw [q2]; exact hkC) (by rw [q2]; exact va_assign hcls) rfl rfl hdg fun H1 e z oq => ?_
  refine kk _ _ rfl rfl H1 _ (rn_wrote hR hj mu_o ou_o z oq ?_) (hS.put z oq (Nat.le_add_right _ _))
  rw [rqE_ref hk, mu_s]
  show H1[G.2.1 + j]? = some (vp_cell _ _)
  rw [e, vp_cell_q, vp_cell_q, arrV_store]
  congr 2
  funext z
  by_cases hz : z = i.toNatClampNeg
  · subst hz
    simp [updV, upd, ou, va_rf, nI_clamp hq31]
  · simp [updV, upd, ou, hz]
/-- a constructor is called -/
theorem rn_ctor {y : MethodName} {bytes : ByteArray} {maxL nL index j mc ms : Nat} {ws : List Cond} {rm : Room} {Ts : List Cond} {own : String} {Post : Nat → Mm → Okk → Prop} (S : CallFix p m c cc nL s args Ts own) (hM : CtN l y ws rm G j N M ok Post mc ms) (cw : CallB R s args own index y bytes maxL none ws rm mc ms 0 ∧ y.name = "<init>" ∧ (Cond.instanceMethod y).before args s = true) (hK : Kq G s) (hR : Rq G N M ok H) (hS : va_S (Fr0 G) H0 H locs) (hsz : ls.size = nL) (hr8 : (rest.map fun v => v.category).sum ≤ 8) (hdg : decode cc pc = .ok (.invokespecial index, 3)) (hf : cells + mc ≤ R.cells ∧ slots + ms ≤ R.slots)
    (kk : ∀ (N1 : Nat) (M1 : Mm) (ok1 : Okk) (H1 : Heap) (locs1 : List Loc), Post N1 M1 ok1 → Rq G N1 M1 ok1 H1 → va_S (Fr0 G) H0 H1 locs1 → W p l e R s m args below meth c H1 locs1 (cells + mc) (slots + ms) Q (F0 m (pc + 3) ls rest)) : W p l e R s m args below meth c H locs cells slots Q (F0 m pc ls (.ref (G.2.1 + j) :: rest)) := by
  refine va_callv (va_runI (As := []) (rest := rest) S hM cw ⟨cn_blind, fun U hU hW => ⟨rfl, hK.warm hW, by rw [hU]; exact hR⟩⟩ rfl rfl hsz rfl (lv_room hr8) hdg hf) hS (fun q _ h => h) (fun q h => h) (fun u t H1 locs1 ht hvm hw hB hz1 hk1 hS1 => ?_)
  rw [ht] at hB
  exact kk u.1 u.2.1 u.2.2 H1 locs1 hw hB hS1
theorem rn_ctorN {y : MethodName} {bytes : ByteArray} {maxL nL index j mc ms : Nat} {ws : List Cond} {rm : Room} {Ts : List Cond} {own host : String} {Post : Nat → Mm → Okk → Prop} (S : CallFix p m c cc nL s args Ts own) (hM : CtN l y ws rm G j N M ok Post mc ms) (cw : va_CN R s args own index y host bytes maxL none ws rm mc ms 0 ∧ y.name = "<init>" ∧ (Cond.instanceMethod y).before args s = true) (hK : Kq G s) (hR : Rq G N M ok H) (hS : va_S (Fr0 G) H0 H locs) (hsz : ls.size = nL) (hr8 : (rest.map fun v => v.category).sum ≤ 8) (hdg : decode cc pc = .ok (.invokespecial index, 3)) (hf : cells + mc ≤ R.cells ∧ slots + ms ≤ R.slots)
    (kk : ∀ (N1 : Nat) (M1 : Mm) (ok1 : Okk) (H1 : Heap) (locs1 : List Loc), Post N1 M1 ok1 → Rq G N1 M1 ok1 H1 → va_S (Fr0 G) H0 H1 locs1 → W p l e R s m args below meth c H1 locs1 (cells + mc) (slots + ms) Q (F0 m (pc + 3) ls rest)) : W p l e R s m args below meth c H locs cells slots Q (F0 m pc ls (.ref (G.2.1 + j) :: rest)) := by
  refine va_callv (va_runIN (As := []) (rest := rest) S hM cw ⟨cn_blind, fun U hU hW => ⟨rfl, hK.warm hW, by rw [hU]; exact hR⟩⟩ rfl rfl hsz rfl (lv_room hr8) hdg hf) hS (fun q _ h => h) (fun q h => h) (fun u t H1 locs1 ht hvm hw hB hz1 hk1 hS1 => ?_)
  rw [ht] at hB
  exact kk u.1 u.2.1 u.2.2 H1 locs1 hw hB hS1
theorem re_n {Post : Nat → Mm → Okk → Prop} (hx : p.tables.exec = Jvm.exec) (hb : c.code = cc) (hr : meth.sig.returnType = none) (hlocks : meth.locks = false) (hR : Rq G N M ok H) (hS : va_S (Fr0 G) s.heap H locs) (h : Post N M ok) (hdg : decode cc pc = .ok (.return_, 1)) : W p l e R s m args below meth c H locs cells slots (MQ below (va_Qv (fun (u : Nat × Mm × Okk) => Post u.1 u.2.1 u.2.2) (fun u t => Rq G u.1 u.2.1 u.2.2 t.heap) (Fr0 G)) args s cells slots (Fr0 G)) (F0 m pc ls []) :=
  W.vret hx hb hr (fun t ht hW => ⟨⟨(N, M, ok), rfl, h, by show Rq G N M ok t.heap; rw [ht]; exact hR⟩, hS.F ht⟩) hS.2.2 hdg hlocks
end RN
