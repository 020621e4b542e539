/-! THE MEMORY: all objects and arrays of the class and of the reference lie at fixed places from b0 on (nothing is made behind the constructors); M a k: what slot k of the thing at place a holds, as an int (a reference of the one row of references: the place). -/
abbrev Mm : Type := Nat → Nat → Int32
def mu (M : Mm) (j k : Nat) (v : Int32) : Mm := fun a => if a = j then upd (M j) k v else M a
def mcp (M : Mm) (js jd n : Nat) : Mm := fun a => if a = jd then (fun i => if i < n then M js i else M jd i) else M a
abbrev ix (i : Int32) : Nat := i.toNatClampNeg
def imn (x y : Int32) : Int32 := if y < x then y else x
def imx (x y : Int32) : Int32 := if x < y then y else x
def kdT : List Nat := [4, 0, 8, 8, 8, 8, 8, 8, 8, 8, 1, 9, 9, 9, 9, 9, 9, 9, 5, 8, 8, 8, 8]
def kdL : List Nat := 6 :: (kdT ++ kdT ++ [2, 11] ++ kdT ++ kdT ++ kdT ++ kdT ++ [3, 10])
def kd (j : Nat) : Nat := kdL.getD j 99
def foL : List (List Nat) := [[0, 0, 1, 2, 3, 4, 5, 6, 7, 8], [0, 0, 1, 2, 3, 4, 5, 6, 7], [0, 1], [0, 1, 0, 0, 0, 0, 0, 0, 0], [1, 10, 18, 0, 0, 0, 0, 0, 21, 22, 0], [0, 0, 0, 1, 2], [1, 24, 47, 141], [1, 2, 3, 4, 0, 5, 0, 0, 6, 0, 0, 0, 0]]
def fo (ci k : Nat) : Nat := (foL.getD ci []).getD k 0
def nF (ci : Nat) : Nat := [10, 9, 2, 9, 11, 5, 4, 13].getD ci 0
def rn (c : Nat) : Nat := [0, 0, 0, 0, 0, 0, 0, 0, 8, 10, 60, 4, 168, 672, 60, 2].getD c 0
def rpV (ci a : Nat) (f : Nat → Int32) (k : Nat) : Value := if fo ci k = 0 then .int (f k) else .ref (a + fo ci k)
def rpFs (ci a : Nat) (f : Nat → Int32) : List Value := (List.range (nF ci)).map (rpV ci a f)
abbrev Gp : Type := va_G × Nat × ClassId × ClassId × ClassId
def rpE (G : Gp) (j : Nat) (f : Nat → Int32) : va_E :=
  if kd j < 8 then .inr (kd j, rpFs (kd j) (G.2.1 + j) f)
  else if kd j = 11 then .inl (G.2.2.2.2, 4, .inr (.inr (.inr (.inr (fun i => some (G.2.1 + (f i).toNatClampNeg))))))
  else if kd j = 14 then .inl (G.2.2.2.1, 60, .inl f)
  else .inl (G.2.2.1, rn (kd j), .inl f)
def rpW (G : Gp) (M : Mm) : va_W := (List.range 143).map (fun j => (G.2.1 + j, rpE G j (M j)))
def Rp (G : Gp) (M : Mm) (H : Heap) : Prop := va_P G.1 vwCl (rpW G M) H
def tyG (G : Gp) : List (ClassId × FieldType) := [(G.2.2.1, .int), (G.2.2.2.2, .object RX4)]
def Kp (G : Gp) (U : State) : Prop := va_K G.1 vwCl (tyG G) U ∧ True
/-- the places of the class's own memory; what the law makes of its own lies behind them -/
def Fr (G : Gp) : Nat → Prop := fun q => G.2.1 ≤ q ∧ q < G.2.1 + 143
def Fr0 (G : Gp) : Nat → Prop := fun q => G.2.1 ≤ q
theorem rpW_get {G : Gp} {M : Mm} {j : Nat} (h : j < 143) : (rpW G M)[j]? = some (G.2.1 + j, rpE G j (M j)) := by
  simp [rpW, h]
theorem rpW_D {G : Gp} {M : Mm} : va_D (Fr G) (rpW G M) := by
  have key : ∀ (k : Nat) (q : Nat × va_E), (rpW G M)[k]? = some q → q.1 = G.2.1 + k := by
    intro k q h
    have hl : k < (rpW G M).length := (List.getElem?_eq_some_iff.mp h).1
    have hl2 : k < 143 := by simpa [rpW] using hl
    rw [rpW_get hl2] at h
    cases h
    rfl
  refine ⟨fun i j p q hi hj e => ?_, fun k q h => ?_⟩
  · have := key i p hi
    have := key j q hj
    omega
  · have := key k q h
    have hl2 : k < 143 := by simpa [rpW] using (List.getElem?_eq_some_iff.mp h).1
    show G.2.1 ≤ q.1 ∧ q.1 < G.2.1 + 143
    omega
theorem kd_lt {j c : Nat} (h : kd j = c) (hc : c < 99) : j < 143 := by
  rcases Nat.lt_or_ge j 143 with q | q
  · exact q
  · exfalso
    have hlen : kdL.length = 143 := by decide +kernel
    have : kd j = 99 := by
      unfold kd
      rw [List.getD_eq_getElem?_getD, List.getElem?_eq_none (by omega)]
      rfl
    omega
theorem rpW_set {G : Gp} {M M' : Mm} {j : Nat} (hj : j < 143) (ho : ∀ a, a ≠ j → M' a = M a) : (rpW G M).set j (G.2.1 + j, rpE G j (M' j)) = rpW G M' := by
  apply List.ext_getElem?
  intro i
  by_cases hi : i < 143
  · by_cases hij : i = j
    · subst hij
      rw [List.getElem?_set_self (by simpa [rpW] using hj), rpW_get hj]
    · rw [List.getElem?_set_ne (Ne.symm hij), rpW_get hi, rpW_get hi, ho i hij]
  · rw [List.getElem?_eq_none (by simp [rpW]; omega), List.getElem?_eq_none (by simp [rpW]; omega)]
theorem rpE_obj {G : Gp} {j ci : Nat} {f : Nat → Int32} (hk : kd j = ci) (h8 : ci < 8) : rpE G j f = .inr (ci, rpFs ci (G.2.1 + j) f) := by
  subst hk
  simp [rpE, h8]
def rI (c : Nat) : Bool := decide (8 ≤ c) && decide (c ≤ 15) && decide (c ≠ 11) && decide (c ≠ 14)
theorem rpE_int {G : Gp} {j c : Nat} {f : Nat → Int32} (hk : kd j = c) (hc : rI c = true) : rpE G j f = .inl (G.2.2.1, rn c, .inl f) := by
  subst hk
  simp only [rI, Bool.and_eq_true, decide_eq_true_eq] at hc
  simp [rpE, show ¬ kd j < 8 by omega, hc.1.2, hc.2]
theorem rpE_chr {G : Gp} {j : Nat} {f : Nat → Int32} (hk : kd j = 14) : rpE G j f = .inl (G.2.2.2.1, 60, .inl f) := by
  simp [rpE, hk]
theorem rpE_ref {G : Gp} {j : Nat} {f : Nat → Int32} (hk : kd j = 11) : rpE G j f = .inl (G.2.2.2.2, 4, .inr (.inr (.inr (.inr (fun i => some (G.2.1 + (f i).toNatClampNeg)))))) := by
  simp [rpE, hk]
theorem rI_lt {c : Nat} (h : rI c = true) : c < 99 := by
  simp only [rI, Bool.and_eq_true, decide_eq_true_eq] at h
  omega
theorem rpFs_get {ci a k : Nat} {f : Nat → Int32} (hk : k < nF ci) : (rpFs ci a f)[k]? = some (rpV ci a f k) := by
  simp [rpFs, hk]
theorem rpFs_set {ci a k : Nat} {f : Nat → Int32} {v : Int32} (ho : fo ci k = 0) : (rpFs ci a f).set k (.int v) = rpFs ci a (upd f k v) := by
  apply List.ext_getElem?
  intro i
  by_cases hi : i < nF ci
  · by_cases hik : i = k
    · subst hik
      rw [List.getElem?_set_self (by simpa [rpFs] using hi), rpFs_get hi]
      simp [rpV, ho, upd]
    · rw [List.getElem?_set_ne (Ne.symm hik), rpFs_get hi, rpFs_get hi]
      simp [rpV, upd, hik]
  · rw [List.getElem?_eq_none (by simp [rpFs]; omega), List.getElem?_eq_none (by simp [rpFs]; omega)]
theorem mu_o {M : Mm} {j k : Nat} {v : Int32} : ∀ a, a ≠ j → mu M j k v a = M a := fun a h => by simp [mu, h]
theorem mu_s {M : Mm} {j k : Nat} {v : Int32} : mu M j k v j = upd (M j) k v := by simp [mu]
theorem mcp_o {M : Mm} {js jd n : Nat} : ∀ a, a ≠ jd → mcp M js jd n a = M a := fun a h => by simp [mcp, h]
theorem mcp_s {M : Mm} {js jd n : Nat} : mcp M js jd n jd = fun i => if i < n then M js i else M jd i := by simp [mcp]
theorem va_K.same {D : va_G} {cl : List vw_C} {tys : List (ClassId × FieldType)} {U : State} {g : JFrame} {mk : MethodId} {a : Array Value} (h : va_K D cl tys U) : va_K D cl tys (U.calling g mk a) := va_K.moved (u := U) (U := U.calling g mk a) (Vm.Alike.refl U.vm) h
theorem Kp.same {G : Gp} {U : State} {g : JFrame} {mk : MethodId} {a : Array Value} (h : Kp G U) : Kp G (U.calling g mk a) := ⟨va_K.same h.1, trivial⟩
theorem Kp.warm {G : Gp} {s U : State} (hW : s.WarmedH U.vm) (h : Kp G s) : Kp G U := ⟨va_K.moved hW.alike h.1, trivial⟩
/-- contracts: the memory M; behind it a memory u and an answer r of which Post holds; nothing is made, nothing below b0 is written -/
abbrev CtI (l : Launch) (y : MethodName) (ws : List Cond) (rm : Room) (G : Gp) (av : List Value) (M : Mm) (Post : Mm → Int32 → Prop) : Prop :=
  Met l y ws rm (va_Pc av (fun U => Kp G U ∧ Rp G M U.heap)) (va_Qi (fun (r : Int32) (u : Mm) => Post u r) (fun u t => Rp G u t.heap) (Fr G)) 0 0 (Fr G)
abbrev CtV (l : Launch) (y : MethodName) (ws : List Cond) (rm : Room) (G : Gp) (av : List Value) (M : Mm) (Post : Mm → Prop) : Prop :=
  Met l y ws rm (va_Pc av (fun U => Kp G U ∧ Rp G M U.heap)) (va_Qv (fun (u : Mm) => Post u) (fun u t => Rp G u t.heap) (Fr G)) 0 0 (Fr G)
theorem ct_blind {G : Gp} {av : List Value} {M : Mm} : FrameBlind (va_Pc av (fun U => Kp G U ∧ Rp G M U.heap)) := fun _ _ _ _ h => ⟨h.1, h.2.1.same, h.2.2⟩
theorem ky_of {ci o c' : Nat} (hc : ci < 99) (h : (List.range 143).all (fun j => !(kd j == ci) || kd (j + o) == c') = true) {j : Nat} (hk : kd j = ci) : kd (j + o) = c' := by
  have h1 := List.all_eq_true.mp h j (List.mem_range.mpr (kd_lt hk hc))
  simpa [hk] using h1
abbrev Wi (p : Program) (l : Launch) (e : Env) (R : Room) (s : State) (m : MethodId) (args : Array Value) (below : List Frame) (meth : Method) (c : Code) (G : Gp) (Post : Mm → Int32 → Prop) (H : Heap) (locs : List Loc) (g : JFrame) : Prop :=
  W p l e R s m args below meth c H locs 0 0 (MQ below (va_Qi (fun (r : Int32) (u : Mm) => Post u r) (fun u t => Rp G u t.heap) (Fr G)) args s 0 0 (Fr G)) g
abbrev Wv (p : Program) (l : Launch) (e : Env) (R : Room) (s : State) (m : MethodId) (args : Array Value) (below : List Frame) (meth : Method) (c : Code) (G : Gp) (Post : Mm → Prop) (H : Heap) (locs : List Loc) (g : JFrame) : Prop :=
  W p l e R s m args below meth c H locs 0 0 (MQ below (va_Qv (fun (u : Mm) => Post u) (fun u t => Rp G u t.heap) (Fr G)) args s 0 0 (Fr G)) g
section RK
variable {p : Program} {l : Launch} {e : Env} {R : Room} {s : State} {m : MethodId} {args : Array Value} {below : List Frame} {meth : Method} {c : Code} {H : Heap} {locs : List Loc} {cells slots : Nat} {Q : State → Prop}
variable {cc : ByteArray} {pc : Nat} {ls : Array Slot} {rest : List Value} {G : Gp} {M : Mm} {H0 : Heap}
theorem rk_geti (hx : p.tables.exec = Jvm.exec) (hb : c.code = cc) {own ref C : String} {T : u_T} {N ci index : Nat} {Ts : List Cond} (hts : ∀ w ∈ Ts, w.before args s = true) (hin : ∀ w ∈ u_ws C T N, w ∈ Ts) (hown : s.vm.findClass own = some m.cls) (hK : Kp G s) (hP : Rp G M H) {j : Nat} (hk : kd j = ci) (hc : vwCl[ci]? = some (C, T, N)) (k : Nat) (hq : (k < N ∧ k < nF ci ∧ ci < 8) ∧ fo ci k = 0) (hlink : Cond.fieldLink own index ref (T k).2.1 (T k).2.2.1 ∈ Ts) (hsame : (T k).1 = ref) (hdg : decode cc pc = .ok (.getfield index, 3))
    (kk : W p l e R s m args below meth c H locs cells slots Q (F0 m (pc + 3) ls (.int (M j k) :: rest))) : W p l e R s m args below meth c H locs cells slots Q (F0 m pc ls (.ref (G.2.1 + j) :: rest)) := by
  obtain ⟨⟨h1, h2, h3⟩, ho⟩ := hq
  exact va_get hx hb hts hin hown hK.1 hP j (by rw [rpW_get (kd_lt hk (by omega)), rpE_obj hk h3]) hc k h1 (hts _ hlink) (by rw [hsame]; exact fun _ h => h) (by rw [rpFs_get h2, rpV, if_pos ho]) hdg kk
theorem rk_getr (hx : p.tables.exec = Jvm.exec) (hb : c.code = cc) {own ref C : String} {T : u_T} {N ci index : Nat} {Ts : List Cond} (hts : ∀ w ∈ Ts, w.before args s = true) (hin : ∀ w ∈ u_ws C T N, w ∈ Ts) (hown : s.vm.findClass own = some m.cls) (hK : Kp G s) (hP : Rp G M H) {j : Nat} (hk : kd j = ci) (hc : vwCl[ci]? = some (C, T, N)) (k o : Nat) (hq : (k < N ∧ k < nF ci ∧ ci < 8) ∧ fo ci k = o ∧ o ≠ 0) (hlink : Cond.fieldLink own index ref (T k).2.1 (T k).2.2.1 ∈ Ts) (hsame : (T k).1 = ref) (hdg : decode cc pc = .ok (.getfield index, 3))
    (kk : W p l e R s m args below meth c H locs cells slots Q (F0 m (pc + 3) ls (.ref (G.2.1 + (j + o)) :: rest))) : W p l e R s m args below meth c H locs cells slots Q (F0 m pc ls (.ref (G.2.1 + j) :: rest)) := by
  obtain ⟨⟨h1, h2, h3⟩, ho, ho0⟩ := hq
  exact va_get hx hb hts hin hown hK.1 hP j (by rw [rpW_get (kd_lt hk (by omega)), rpE_obj hk h3]) hc k h1 (hts _ hlink) (by rw [hsame]; exact fun _ h => h) (v := .ref (G.2.1 + (j + o))) (by rw [rpFs_get h2, rpV, if_neg (by rw [ho]; exact ho0), ho, Nat.add_assoc]) hdg kk
theorem rk_puti (hx : p.tables.exec = Jvm.exec) (hb : c.code = cc) {own ref C : String} {T : u_T} {N ci index : Nat} {Ts : List Cond} (hts : ∀ w ∈ Ts, w.before args s = true) (hin : ∀ w ∈ u_ws C T N, w ∈ Ts) (ty0 : Nat → FieldType) (hty : ∀ k, k < N → parseFieldDescriptor (T k).2.2.1 = some (ty0 k)) (hnm : ∀ a, a < N → ∀ b, b < N → a ≠ b → (T a).2.1 ≠ (T b).2.1) (hown : s.vm.findClass own = some m.cls) (hK : Kp G s) (hP : Rp G M H) (hS : va_S (Fr G) H0 H locs) {j : Nat} (hk : kd j = ci) (hc : vwCl[ci]? = some (C, T, N)) (k : Nat) (hq : (k < N ∧ k < nF ci ∧ ci < 8) ∧ fo ci k = 0) (hlink : Cond.fieldLink own index ref (T k).2.1 (T k).2.2.1 ∈ Ts) (hsame : (T k).1 = ref) (hfin : (T k).2.2.2 = false) (hd : ty0 k = .int) {v : Int32} (hdg : decode cc pc = .ok (.putfield index, 3))
    (kk : ∀ (M1 : Mm), M1 = mu M j k v → ∀ (H1 : Heap) (locs1 : List Loc), Rp G M1 H1 → va_S (Fr G) H0 H1 locs1 → W p l e R s m args below meth c H1 locs1 cells slots Q (F0 m (pc + 3) ls rest)) : W p l e R s m args below meth c H locs cells slots Q (F0 m pc ls (.int v :: .ref (G.2.1 + j) :: rest)) := by
  obtain ⟨⟨h1, h2, h3⟩, ho⟩ := hq
  have hj := kd_lt hk (by omega)
  refine va_put hx hb hts hin ty0 hty hnm hown hK.1 hP rpW_D hS j (by rw [rpW_get hj, rpE_obj hk h3]) hc k h1 (hts _ hlink) (by rw [hsame]; exact fun _ h => h) hfin (ty := .int) (by rw [hty k h1, hd]) rfl rfl (by simpa [rpFs] using h2) hdg (fun H1 locs1 hP1 _ hS1 => kk _ rfl H1 locs1 ?_ hS1)
  rw [rpFs_set ho] at hP1
  have e : rpE G j (mu M j k v j) = .inr (ci, rpFs ci (G.2.1 + j) (upd (M j) k v)) := by rw [mu_s, rpE_obj hk h3]
  unfold Rp
  rw [← rpW_set (M := M) (M' := mu M j k v) hj mu_o, e]
  exact hP1
theorem rk_iald (hx : p.tables.exec = Jvm.exec) (hb : c.code = cc) (hK : Kp G s) (hP : Rp G M H) {j ct n : Nat} (hk : kd j = ct) (hc : rI ct = true ∧ rn ct = n) {i : Int32} (k : Nat) (hi : ix i = k) (hin : vp_in i n) (hdg : decode cc pc = .ok (.iaload, 1))
    (kk : W p l e R s m args below meth c H locs cells slots Q (F0 m (pc + 1) ls (.int (M j k) :: rest))) : W p l e R s m args below meth c H locs cells slots Q (F0 m pc ls (.int i :: .ref (G.2.1 + j) :: rest)) := by
  subst hi
  refine va_iald hx hb hK.1 hP j 0 (by rw [rpW_get (kd_lt hk (rI_lt hc.1)), rpE_int hk hc.1]) rfl (by rw [hc.2]; exact hin) hdg kk
theorem rk_iast (hx : p.tables.exec = Jvm.exec) (hb : c.code = cc) (hK : Kp G s) (hP : Rp G M H) (hS : va_S (Fr G) H0 H locs) {j ct n : Nat} (hk : kd j = ct) (hc : rI ct = true ∧ rn ct = n) {i v : Int32} (k : Nat) (hi : ix i = k) (hin : vp_in i n) (hdg : decode cc pc = .ok (.iastore, 1))
    (kk : ∀ (M1 : Mm), M1 = mu M j k v → ∀ (H1 : Heap) (locs1 : List Loc), Rp G M1 H1 → va_S (Fr G) H0 H1 locs1 → W p l e R s m args below meth c H1 locs1 cells slots Q (F0 m (pc + 1) ls rest)) : W p l e R s m args below meth c H locs cells slots Q (F0 m pc ls (.int v :: .int i :: .ref (G.2.1 + j) :: rest)) := by
  subst hi
  have hj := kd_lt hk (rI_lt hc.1)
  refine va_iast hx hb hK.1 hP rpW_D hS j 0 (by rw [rpW_get hj, rpE_int hk hc.1]) rfl (by rw [hc.2]; exact hin) hdg (fun H1 locs1 hP1 _ hS1 => kk _ rfl H1 locs1 ?_ hS1)
  have e : rpE G j (mu M j (ix i) v j) = .inl (G.2.2.1, rn ct, .inl (upd (M j) (ix i) v)) := by rw [mu_s, rpE_int hk hc.1]
  unfold Rp
  rw [← rpW_set (M := M) (M' := mu M j (ix i) v) hj mu_o, e]
  exact hP1
theorem rk_aald (hx : p.tables.exec = Jvm.exec) (hb : c.code = cc) (hK : Kp G s) (hP : Rp G M H) {j : Nat} (hk : kd j = 11) {i : Int32} (k : Nat) (hi : ix i = k) (hin : vp_in i 4) (hdg : decode cc pc = .ok (.aaload, 1))
    (kk : W p l e R s m args below meth c H locs cells slots Q (F0 m (pc + 1) ls (.ref (G.2.1 + ix (M j k)) :: rest))) : W p l e R s m args below meth c H locs cells slots Q (F0 m pc ls (.int i :: .ref (G.2.1 + j) :: rest)) := by
  subst hi
  exact va_aldq hx hb hK.1 hP j 1 (f := fun i => some (G.2.1 + (M j i).toNatClampNeg)) (by rw [rpW_get (kd_lt hk (by omega)), rpE_ref hk]) rfl hin hdg kk
theorem rk_aast (hx : p.tables.exec = Jvm.exec) (hb : c.code = cc) (hK : Kp G s) (hP : Rp G M H) (hS : va_S (Fr G) H0 H locs) {j q : Nat} (hk : kd j = 11) (hkq : kd q = 4) {i : Int32} (k : Nat) (hi : ix i = k) (hin : vp_in i 4) (hdg : decode cc pc = .ok (.aastore, 1))
    (kk : ∀ (M1 : Mm), M1 = mu M j k (nI q) → ∀ (H1 : Heap) (locs1 : List Loc), Rp G M1 H1 → va_S (Fr G) H0 H1 locs1 → W p l e R s m args below meth c H1 locs1 cells slots Q (F0 m (pc + 1) ls rest)) : W p l e R s m args below meth c H locs cells slots Q (F0 m pc ls (.ref (G.2.1 + q) :: .int i :: .ref (G.2.1 + j) :: rest)) := by
  subst hi
  have hj := kd_lt hk (by omega)
  have hjq := kd_lt hkq (by omega)
  refine va_astq hx hb hK.1 hP rpW_D hS j 1 q 4 (r := (RX4, TX4, 11)) (by rw [rpW_get hj, rpE_ref hk]) rfl (by rw [rpW_get hjq, rpE_obj hkq (by omega)]) rfl hin hdg (fun H1 locs1 hP1 _ hS1 => kk _ rfl H1 locs1 ?_ hS1)
  have e : rpE G j (mu M j (ix i) (nI q) j) = .inl (G.2.2.2.2, 4, .inr (.inr (.inr (.inr (va_up (fun i => some (G.2.1 + (M j i).toNatClampNeg)) (ix i) (some (G.2.1 + q))))))) := by
    rw [mu_s, rpE_ref hk]
    have : (fun z => some (G.2.1 + (upd (M j) (ix i) (nI q) z).toNatClampNeg)) = va_up (fun z => some (G.2.1 + (M j z).toNatClampNeg)) (ix i) (some (G.2.1 + q)) := by
      funext z
      by_cases hz : z = ix i
      · simp [upd, va_up, hz, nI_clamp (show q < 2 ^ 31 by omega)]
      · simp [upd, va_up, hz]
    rw [this]
  unfold Rp
  rw [← rpW_set (M := M) (M' := mu M j (ix i) (nI q)) hj mu_o, e]
  exact hP1
theorem rk_alen (hx : p.tables.exec = Jvm.exec) (hb : c.code = cc) (hK : Kp G s) (hP : Rp G M H) {j ct n : Nat} (hk : kd j = ct) (hc : rI ct = true ∧ rn ct = n) {v : Int32} (hv : Int32.ofNat n = v) (hdg : decode cc pc = .ok (.arraylength, 1))
    (kk : W p l e R s m args below meth c H locs cells slots Q (F0 m (pc + 1) ls (.int v :: rest))) : W p l e R s m args below meth c H locs cells slots Q (F0 m pc ls (.ref (G.2.1 + j) :: rest)) :=
  va_alen hx hb hK.1 hP j 0 (by rw [rpW_get (kd_lt hk (rI_lt hc.1)), rpE_int hk hc.1]) rfl (by show Int32.ofNat (rn ct) = v; rw [hc.2]; exact hv) hdg kk
theorem rk_copy (hx : p.tables.exec = Jvm.exec) (hb : c.code = cc) (hml : c.maxLocals = ls.size) {own : String} {index : Nat} {Ts : List Cond} (hts : ∀ w ∈ Ts, w.before args s = true) (hown : s.vm.findClass own = some m.cls) (hlink : Cond.methodLink own index arraycopyName ∈ Ts) (hnat : Cond.native arraycopyName ∈ Ts) (hstat : Cond.static arraycopyName ∈ Ts) (hini : Cond.initialized "java/lang/System" ∈ Ts) (hK : Kp G s) (hP : Rp G M H) (hS : va_S (Fr G) H0 H locs) {js jd ct n : Nat} (hks : kd js = ct) (hkd : kd jd = ct) (hc : rI ct = true ∧ rn ct = n) {nn : Int32} (hn : ix nn = n ∧ ¬ nn < 0) (hframes : 1 ≤ R.frames) (hlocals : (rest.map fun v => v.category).sum + (nativeFrameWords "java/lang/System" "arraycopy" 5 + 11) ≤ R.locals) (hdg : decode cc pc = .ok (.invokestatic index, 3))
    (kk : ∀ (M1 : Mm), M1 = mcp M js jd n → ∀ (H1 : Heap) (locs1 : List Loc), Rp G M1 H1 → va_S (Fr G) H0 H1 locs1 → W p l e R s m args below meth c H1 locs1 cells slots Q (F0 m (pc + 3) ls rest)) : W p l e R s m args below meth c H locs cells slots Q (F0 m pc ls (.int nn :: .int 0 :: .ref (G.2.1 + jd) :: .int 0 :: .ref (G.2.1 + js) :: rest)) := by
  have hjs := kd_lt hks (rI_lt hc.1)
  have hjd := kd_lt hkd (rI_lt hc.1)
  have z0 : (0 : Int32).toNatClampNeg = 0 := rfl
  have hn1 : nn.toNatClampNeg = n := hn.1
  refine va_copyi hx hb hml hown (hts _ hlink) (hts _ hnat) (hts _ hstat) (hts _ hini) hK.1 hP rpW_D hS js jd 0 0 (ty := .int) (by rw [rpW_get hjs, rpE_int hks hc.1]) (by rw [rpW_get hjd, rpE_int hkd hc.1]) rfl rfl rfl (by decide) (by decide) hn.2 (by rw [z0, hn1, hc.2]; omega) (by rw [z0, hn1, hc.2]; omega) (fun _ _ => rfl) hframes hlocals hdg (fun H1 locs1 hP1 _ hS1 => kk _ rfl H1 locs1 ?_ hS1)
  have e : rpE G jd (mcp M js jd n jd) = .inl (G.2.2.1, rn ct, .inl (va_cpy (M js) (M jd) (0 : Int32).toNatClampNeg (0 : Int32).toNatClampNeg nn.toNatClampNeg)) := by
    rw [mcp_s, rpE_int hkd hc.1]
    have : (fun i => if i < n then M js i else M jd i) = va_cpy (M js) (M jd) (0 : Int32).toNatClampNeg (0 : Int32).toNatClampNeg nn.toNatClampNeg := by
      funext z
      have h1 : nn.toNatClampNeg = n := hn.1
      simp only [va_cpy, z0, h1, Nat.zero_le, true_and, Nat.zero_add, Nat.sub_zero]
    rw [this]
  unfold Rp
  rw [← rpW_set (M := M) (M' := mcp M js jd n) hjd mcp_o, e]
  exact hP1
theorem rk_recv (hK : Kp G s) (hP : Rp G M H) {j ci : Nat} (hk : kd j = ci) (h8 : ci < 8) {q : vw_C} (hc : vwCl[ci]? = some q) : ∃ cell : Cell, H[G.2.1 + j]? = some cell ∧ cell.vm.isStatics = false ∧ s.vm.findClass q.1 = some cell.cls :=
  va_recv hK.1 hP hc (by rw [rpW_get (kd_lt hk (by omega)), rpE_obj hk h8])
theorem rk_min (hx : p.tables.exec = Jvm.exec) (hb : c.code = cc) (hml : c.maxLocals = ls.size) {own : String} {index : Nat} {Ts : List Cond} (hts : ∀ w ∈ Ts, w.before args s = true) (hown : s.vm.findClass own = some m.cls) (hlink : Cond.methodLink own index Lib.Math.min.name ∈ Ts) (hstat : Cond.static Lib.Math.min.name ∈ Ts) (hini : Cond.initialized "java/lang/Math" ∈ Ts) (hcode : Cond.code Lib.Math.min.name Lib.Math.min.code 2 (some .int) ∈ Ts) (hframes : 1 ≤ R.frames) (hlocals : (rest.map fun v => v.category).sum + 13 ≤ R.locals) (hc : cells ≤ R.cells ∧ slots ≤ R.slots) {x y : Int32} (hdg : decode cc pc = .ok (.invokestatic index, 3))
    (kk : W p l e R s m args below meth c H locs cells slots Q (F0 m (pc + 3) ls (.int (imn x y) :: rest))) : W p l e R s m args below meth c H locs cells slots Q (F0 m pc ls (.int y :: .int x :: rest)) :=
  va_mmin hx hb hml hown (hts _ hlink) (hts _ hstat) (hts _ hini) (hts _ hcode) hframes hlocals hc.1 hc.2 hdg kk
theorem rk_max (hx : p.tables.exec = Jvm.exec) (hb : c.code = cc) (hml : c.maxLocals = ls.size) {own : String} {index : Nat} {Ts : List Cond} (hts : ∀ w ∈ Ts, w.before args s = true) (hown : s.vm.findClass own = some m.cls) (hlink : Cond.methodLink own index Lib.Math.max.name ∈ Ts) (hstat : Cond.static Lib.Math.max.name ∈ Ts) (hini : Cond.initialized "java/lang/Math" ∈ Ts) (hcode : Cond.code Lib.Math.max.name Lib.Math.max.code 2 (some .int) ∈ Ts) (hframes : 1 ≤ R.frames) (hlocals : (rest.map fun v => v.category).sum + 13 ≤ R.locals) (hc : cells ≤ R.cells ∧ slots ≤ R.slots) {x y : Int32} (hdg : decode cc pc = .ok (.invokestatic index, 3))
    (kk : W p l e R s m args below meth c H locs cells slots Q (F0 m (pc + 3) ls (.int (imx x y) :: rest))) : W p l e R s m args below meth c H locs cells slots Q (F0 m pc ls (.int y :: .int x :: rest)) :=
  va_mmax hx hb hml hown (hts _ hlink) (hts _ hstat) (hts _ hini) (hts _ hcode) hframes hlocals hc.1 hc.2 hdg kk
/-! calls -/
theorem rc_Vi {y : MethodName} {bytes : ByteArray} {maxL nL n index : Nat} {ret : Option FieldType} {ws : List Cond} {rm : Room} {Ts : List Cond} {own : String} {As st : List Value} {Post : Mm → Int32 → Prop} {j : Nat} (S : CallFix p m c cc nL s args Ts own) (hM : CtI l y ws rm G (.ref (G.2.1 + j) :: As) M Post) {C : String} (cw : CallW R s args own C index y bytes maxL ret ws rm 0 0 n) (hK : Kp G s) (hP : Rp G M H) (hS : va_S (Fr G) H0 H locs) {ci : Nat} {T : u_T} {N : Nat} (hk : kd j = ci) (h8 : ci < 8) (hc : vwCl[ci]? = some (C, T, N)) (hn : As.length = n) (hsz : ls.size = nL) (hst : st = As.reverse ++ .ref (G.2.1 + j) :: rest) (hr8 : (rest.map fun v => v.category).sum ≤ 8) (hdg : decode cc pc = .ok (.invokevirtual index, 3)) (hf : cells ≤ R.cells ∧ slots ≤ R.slots)
    (kk : ∀ (r : Int32) (u : Mm) (H1 : Heap) (locs1 : List Loc), Post u r → Rp G u H1 → va_S (Fr G) H0 H1 locs1 → W p l e R s m args below meth c H1 locs1 cells slots Q (F0 m (pc + 3) ls (.int r :: rest))) : W p l e R s m args below meth c H locs cells slots Q (F0 m pc ls st) := by
  subst hst
  refine va_calli (va_runV S hM cw ⟨ct_blind, rk_recv hK hP hk h8 hc, fun U hU hW => ⟨rfl, hK.warm hW, by rw [hU]; exact hP⟩⟩ rfl hn hsz rfl (lv_room hr8) hdg hf) hS (fun q _ h => h) (fun q h => h) (fun r u t H1 locs1 ht hvm hw hB hz1 hk1 hS1 => ?_)
  rw [ht] at hB
  exact kk r u H1 locs1 hw hB hS1
theorem rc_Vv {y : MethodName} {bytes : ByteArray} {maxL nL n index : Nat} {ret : Option FieldType} {ws : List Cond} {rm : Room} {Ts : List Cond} {own : String} {As st : List Value} {Post : Mm → Prop} {j : Nat} (S : CallFix p m c cc nL s args Ts own) (hM : CtV l y ws rm G (.ref (G.2.1 + j) :: As) M Post) {C : String} (cw : CallW R s args own C index y bytes maxL ret ws rm 0 0 n) (hK : Kp G s) (hP : Rp G M H) (hS : va_S (Fr G) H0 H locs) {ci : Nat} {T : u_T} {N : Nat} (hk : kd j = ci) (h8 : ci < 8) (hc : vwCl[ci]? = some (C, T, N)) (hn : As.length = n) (hsz : ls.size = nL) (hst : st = As.reverse ++ .ref (G.2.1 + j) :: rest) (hr8 : (rest.map fun v => v.category).sum ≤ 8) (hdg : decode cc pc = .ok (.invokevirtual index, 3)) (hf : cells ≤ R.cells ∧ slots ≤ R.slots)
    (kk : ∀ (u : Mm) (H1 : Heap) (locs1 : List Loc), Post u → Rp G u H1 → va_S (Fr G) H0 H1 locs1 → W p l e R s m args below meth c H1 locs1 cells slots Q (F0 m (pc + 3) ls rest)) : W p l e R s m args below meth c H locs cells slots Q (F0 m pc ls st) := by
  subst hst
  refine va_callv (va_runV S hM cw ⟨ct_blind, rk_recv hK hP hk h8 hc, fun U hU hW => ⟨rfl, hK.warm hW, by rw [hU]; exact hP⟩⟩ rfl hn hsz rfl (lv_room hr8) hdg hf) hS (fun q _ h => h) (fun q h => h) (fun u t H1 locs1 ht hvm hw hB hz1 hk1 hS1 => ?_)
  rw [ht] at hB
  exact kk u H1 locs1 hw hB hS1
theorem rc_Si {y : MethodName} {bytes : ByteArray} {maxL nL n index : Nat} {ret : Option FieldType} {ws : List Cond} {rm : Room} {Ts : List Cond} {own : String} {As st : List Value} {Post : Mm → Int32 → Prop} (S : CallFix p m c cc nL s args Ts own) (hM : CtI l y ws rm G As M Post) (cw : CallB R s args own index y bytes maxL ret ws rm 0 0 n ∧ (Cond.static y).before args s = true) (hK : Kp G s) (hP : Rp G M H) (hS : va_S (Fr G) H0 H locs) (hn : As.length = n) (hsz : ls.size = nL) (hst : st = As.reverse ++ rest) (hr8 : (rest.map fun v => v.category).sum ≤ 8) (hdg : decode cc pc = .ok (.invokestatic index, 3)) (hf : cells ≤ R.cells ∧ slots ≤ R.slots)
    (kk : ∀ (r : Int32) (u : Mm) (H1 : Heap) (locs1 : List Loc), Post u r → Rp G u H1 → va_S (Fr G) H0 H1 locs1 → W p l e R s m args below meth c H1 locs1 cells slots Q (F0 m (pc + 3) ls (.int r :: rest))) : W p l e R s m args below meth c H locs cells slots Q (F0 m pc ls st) := by
  subst hst
  refine va_calli (va_runS S hM cw ⟨ct_blind, fun U hU hW => ⟨rfl, hK.warm hW, by rw [hU]; exact hP⟩⟩ rfl hn hsz rfl (lv_room hr8) hdg hf) hS (fun q _ h => h) (fun q h => h) (fun r u t H1 locs1 ht hvm hw hB hz1 hk1 hS1 => ?_)
  rw [ht] at hB
  exact kk r u H1 locs1 hw hB hS1
theorem rc_Sv {y : MethodName} {bytes : ByteArray} {maxL nL n index : Nat} {ret : Option FieldType} {ws : List Cond} {rm : Room} {Ts : List Cond} {own : String} {As st : List Value} {Post : Mm → Prop} (S : CallFix p m c cc nL s args Ts own) (hM : CtV l y ws rm G As M Post) (cw : CallB R s args own index y bytes maxL ret ws rm 0 0 n ∧ (Cond.static y).before args s = true) (hK : Kp G s) (hP : Rp G M H) (hS : va_S (Fr G) H0 H locs) (hn : As.length = n) (hsz : ls.size = nL) (hst : st = As.reverse ++ rest) (hr8 : (rest.map fun v => v.category).sum ≤ 8) (hdg : decode cc pc = .ok (.invokestatic index, 3)) (hf : cells ≤ R.cells ∧ slots ≤ R.slots)
    (kk : ∀ (u : Mm) (H1 : Heap) (locs1 : List Loc), Post u → Rp G u H1 → va_S (Fr G) H0 H1 locs1 → W p l e R s m args below meth c H1 locs1 cells slots Q (F0 m (pc + 3) ls rest)) : W p l e R s m args below meth c H locs cells slots Q (F0 m pc ls st) := by
  subst hst
  refine va_callv (va_runS S hM cw ⟨ct_blind, fun U hU hW => ⟨rfl, hK.warm hW, by rw [hU]; exact hP⟩⟩ rfl hn hsz rfl (lv_room hr8) hdg hf) hS (fun q _ h => h) (fun q h => h) (fun u t H1 locs1 ht hvm hw hB hz1 hk1 hS1 => ?_)
  rw [ht] at hB
  exact kk u H1 locs1 hw hB hS1
theorem rc_Ni {y : MethodName} {bytes : ByteArray} {maxL nL n index : Nat} {ret : Option FieldType} {ws : List Cond} {rm : Room} {Ts : List Cond} {own host : String} {As st : List Value} {Post : Mm → Int32 → Prop} (S : CallFix p m c cc nL s args Ts own) (hM : CtI l y ws rm G As M Post) (cw : va_CN R s args own index y host bytes maxL ret ws rm 0 0 n ∧ (Cond.static y).before args s = true ∧ True) (hK : Kp G s) (hP : Rp G M H) (hS : va_S (Fr G) H0 H locs) (hn : As.length = n) (hsz : ls.size = nL) (hst : st = As.reverse ++ rest) (hr8 : (rest.map fun v => v.category).sum ≤ 8) (hdg : decode cc pc = .ok (.invokestatic index, 3)) (hf : cells ≤ R.cells ∧ slots ≤ R.slots)
    (kk : ∀ (r : Int32) (u : Mm) (H1 : Heap) (locs1 : List Loc), Post u r → Rp G u H1 → va_S (Fr G) H0 H1 locs1 → W p l e R s m args below meth c H1 locs1 cells slots Q (F0 m (pc + 3) ls (.int r :: rest))) : W p l e R s m args below meth c H locs cells slots Q (F0 m pc ls st) := by
  subst hst
  refine va_calli (va_runSN S hM cw ⟨ct_blind, fun U hU hW => ⟨rfl, hK.warm hW, by rw [hU]; exact hP⟩⟩ rfl hn hsz rfl (lv_room hr8) hdg hf) hS (fun q _ h => h) (fun q h => h) (fun r u t H1 locs1 ht hvm hw hB hz1 hk1 hS1 => ?_)
  rw [ht] at hB
  exact kk r u H1 locs1 hw hB hS1
/-! ends -/
theorem re_i {Post : Mm → Int32 → Prop} {v : Int32} (hx : p.tables.exec = Jvm.exec) (hb : c.code = cc) (hr : meth.sig.returnType = some .int) (hlocks : meth.locks = false) (hP : Rp G M H) (hS : va_S (Fr G) s.heap H locs) (h : Post M v) (hdg : decode cc pc = .ok (.ireturn, 1)) : W p l e R s m args below meth c H locs 0 0 (MQ below (va_Qi (fun (r : Int32) (u : Mm) => Post u r) (fun u t => Rp G u t.heap) (Fr G)) args s 0 0 (Fr G)) (F0 m pc ls [.int v]) :=
  W.iret hx hb hr (fun t ht hW => ⟨⟨v, M, rfl, h, by show Rp G M t.heap; rw [ht]; exact hP⟩, hS.F ht⟩) hS.2.2 hdg hlocks
theorem re_z {Post : Mm → Int32 → Prop} {v : Int32} (hx : p.tables.exec = Jvm.exec) (hb : c.code = cc) (hr : meth.sig.returnType = some .boolean) (hlocks : meth.locks = false) (hv : v = 0 ∨ v = 1) (hP : Rp G M H) (hS : va_S (Fr G) s.heap H locs) (h : Post M v) (hdg : decode cc pc = .ok (.ireturn, 1)) : W p l e R s m args below meth c H locs 0 0 (MQ below (va_Qi (fun (r : Int32) (u : Mm) => Post u r) (fun u t => Rp G u t.heap) (Fr G)) args s 0 0 (Fr G)) (F0 m pc ls [.int v]) :=
  W.zret hx hb hr (by rcases hv with rfl | rfl <;> rfl) (fun t ht hW => ⟨⟨v, M, rfl, h, by show Rp G M t.heap; rw [ht]; exact hP⟩, hS.F ht⟩) hS.2.2 hdg hlocks
theorem re_v {Post : Mm → Prop} (hx : p.tables.exec = Jvm.exec) (hb : c.code = cc) (hr : meth.sig.returnType = none) (hlocks : meth.locks = false) (hP : Rp G M H) (hS : va_S (Fr G) s.heap H locs) (h : Post M) (hdg : decode cc pc = .ok (.return_, 1)) : W p l e R s m args below meth c H locs 0 0 (MQ below (va_Qv (fun (u : Mm) => Post u) (fun u t => Rp G u t.heap) (Fr G)) args s 0 0 (Fr G)) (F0 m pc ls []) :=
  W.vret hx hb hr (fun t ht hW => ⟨⟨M, rfl, h, by show Rp G M t.heap; rw [ht]; exact hP⟩, hS.F ht⟩) hS.2.2 hdg hlocks
end RK
