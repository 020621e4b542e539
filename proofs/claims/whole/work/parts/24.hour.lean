/-! the reference: parts, flows -/
theorem bl_congr {S S' : SS} {o : Bool} {top : Nat} (h4 : ∀ c, ca S' c 4 = ca S c 4) (h0 : ∀ c, pa S' c = pa S c) : ∀ k c, bl S' o top k c = bl S o top k c := by
  intro k
  induction k with
  | zero => intro c; rfl
  | succ k ih => intro c; unfold bl; rw [h4, h0, ih]
theorem iwF_congr {S S' : SS} {c : Nat} (h4 : ∀ c, ca S' c 4 = ca S c 4) (h0 : ∀ c, pa S' c = pa S c) (hf : ∀ f w, w < 7 → fi S' f w = fi S f w) : ∀ i, iwF S' c i = iwF S c i := by
  intro i
  induction i with
  | zero => rfl
  | succ f ih =>
    unfold iwF wt at_ isB
    rw [ih, hf f 4 (by omega), hf f 1 (by omega), hf f 0 (by omega), bl_congr h4 h0]
def SA (S S' : SS) : Prop := ∀ k, ((∀ g, k ≠ 10 + 9 * g + 6) ∨ 82 ≤ k) → S' k = S k
theorem SA_ca {S S' : SS} (h : SA S S') {c w : Nat} (hw : w < 9) (hw6 : w ≠ 6) : ca S' c w = ca S c w := h _ (Or.inl (fun g => by omega))
theorem SA_fi {S S' : SS} (h : SA S S') (f w : Nat) : fi S' f w = fi S f w := h _ (Or.inr (by omega))
theorem SA_ltF {S S' : SS} (h : SA S S') {m c g : Nat} : ltF S' m c g = ltF S m c g := by
  have h4 : ∀ c, ca S' c 4 = ca S c 4 := fun c => SA_ca h (by omega) (by omega)
  have h0 : ∀ c, pa S' c = pa S c := fun c => by unfold pa; rw [SA_ca h (by omega) (by omega)]
  unfold ltF
  rw [h4, h0, SA_ca h (w := 1) (by omega) (by omega), iwF_congr h4 h0 (fun f w _ => SA_fi h f w)]
theorem SA_Wf {S S' : SS} {n m t : Nat} (h : SA S S') (hw : Wf S n m t) : Wf S' n m t :=
  hw.of (h 0 (Or.inl (fun g => by omega))) (h 1 (Or.inl (fun g => by omega))) (h 2 (Or.inl (fun g => by omega))) (fun c _ => SA_ca h (by omega) (by omega)) (fun f _ => SA_fi h f 0)
def mn (S : SS) (m c : Nat) : Nat → Nat
  | 0 => 0
  | g + 1 => mn S m c g + (if c < g ∧ ltF S m c g = true then 1 else 0)
theorem mn_le {S : SS} {m c : Nat} : ∀ i, mn S m c i ≤ i := by
  intro i
  induction i with
  | zero => exact Nat.le_refl 0
  | succ g ih => unfold mn; split <;> omega
theorem mn_init {S : SS} {m c : Nat} : ∀ i, i ≤ c + 1 → mn S m c i = 0 := by
  intro i
  induction i with
  | zero => intro _; rfl
  | succ g ih => intro h; unfold mn; rw [ih (by omega), if_neg (by omega)]
theorem mn_mono {S : SS} {m c : Nat} : ∀ i j, i ≤ j → mn S m c i ≤ mn S m c j := by
  intro i j
  induction j with
  | zero => intro h; rw [show i = 0 by omega]; exact Nat.le_refl _
  | succ j ih =>
    intro h
    by_cases he : i = j + 1
    · subst he; exact Nat.le_refl _
    · have := ih (by omega)
      conv => rhs; unfold mn
      omega
theorem mn_pos {S : SS} {m c g n : Nat} (hc : c < g) (hl : ltF S m c g = true) (hg : g < n) : 0 < mn S m c n := by
  have h1 := mn_mono (S := S) (m := m) (c := c) (g + 1) n hg
  have h2 : mn S m c (g + 1) = mn S m c g + 1 := by
    conv => lhs; unfold mn
    rw [if_pos ⟨hc, hl⟩]
  omega
def ptq (q more : Int32) : Int32 := if more ≤ 0 then q + 0 else q + 1
def mdec (more : Int32) : Int32 := if more ≤ 0 then more - 0 else more - 1
def thr (S : SS) (g : Nat) (p : Int32) : Int32 := if (if ca S g 1 = 1 then (p + 1) / 2 else p) ≤ ca S g 2 then (if ca S g 1 = 1 then (p + 1) / 2 else p) else ca S g 2
def pr (S0 : SS) (m c : Nat) (q : Int32) (init : SS × Int32 × Int32) : Nat → SS × Int32 × Int32
  | 0 => init
  | g + 1 => if c < g ∧ ltF S0 m c g = true then (upd (pr S0 m c q init g).1 (10 + 9 * g + 6) (thr S0 g (ptq q (pr S0 m c q init g).2.2)), (pr S0 m c q init g).2.1 - thr S0 g (ptq q (pr S0 m c q init g).2.2), mdec (pr S0 m c q init g).2.2) else pr S0 m c q init g
theorem pr_init {S0 : SS} {m c : Nat} {q : Int32} {init : SS × Int32 × Int32} : ∀ i, i ≤ c + 1 → pr S0 m c q init i = init := by
  intro i
  induction i with
  | zero => intro _; rfl
  | succ g ih => intro h; unfold pr; rw [if_neg (by omega)]; exact ih (by omega)
theorem pr_SA {S0 : SS} {m c : Nat} {q a b : Int32} : ∀ i, i ≤ 8 → SA S0 (pr S0 m c q (S0, a, b) i).1 := by
  intro i
  induction i with
  | zero => intro _ k _; rfl
  | succ g ih =>
    intro h k hk
    unfold pr
    split
    · show upd _ _ _ k = _
      rw [upd_o (by rcases hk with e | e; exact e g; omega)]
      exact ih (by omega) k hk
    · exact ih (by omega) k hk
def more0 (water : Int32) (k : Nat) : Int32 := if k = 0 then 0 else water - water / nI k * nI k
def partF (S : SS) (m n c : Nat) (water : Int32) : SS × Int32 := ((pr S m c (water / nI (mn S m c n)) (S, water, more0 water (mn S m c n)) n).1, (pr S m c (water / nI (mn S m c n)) (S, water, more0 water (mn S m c n)) n).2.1)
theorem sp7_parts {Post : Mm → Int32 → Prop} {M : Mm} {n m t c : Nat} {x water : Int32} (hw : Wf (M 144) n m t) (hc : c < n) (hx : x = nI c) (h : Post (st M (partF (M 144) m n c water).1) (partF (M 144) m n c water).2) : wX7_parts Post M 143 x water := by
  have hw0 := hw
  obtain ⟨w0, w1, w2, ⟨w3, w4⟩, w5, w6, w7, w8⟩ := hw
  subst hx
  intro x4 e4
  rw [e4, nI_1]
  have hmn := mn_le (S := M 144) (m := m) (c := c) n
  -- the second loop
  have second : bX7_parts_56 Post M 143 (nI c) water (nI (mn (M 144) m c n)) water (more0 water (mn (M 144) m c n)) := by
    intro x6 e6
    rw [e6, nI_1]
    have hin : pr (M 144) m c (water / nI (mn (M 144) m c n)) (M 144, water, more0 water (mn (M 144) m c n)) (c + 1) = (M 144, water, more0 water (mn (M 144) m c n)) := pr_init _ (Nat.le_refl _)
    have hl := pk_loop (σ := SS × Int32 × Int32) (fun k i (s : SS × Int32 × Int32) => lX7_parts_63 Post k (st M s.1) 143 (nI c) water (nI (mn (M 144) m c n)) s.2.1 s.2.2 (nI i)) (fun i s => c + 1 ≤ i ∧ s = pr (M 144) m c (water / nI (mn (M 144) m c n)) (M 144, water, more0 water (mn (M 144) m c n)) i) n (c + 1) (M 144, water, more0 water (mn (M 144) m c n)) (by omega) ⟨Nat.le_refl _, hin.symm⟩ ?_ ?_
    · obtain ⟨q, hq⟩ := hl
      refine ⟨q, ?_⟩
      have e : lX7_parts_63 Post q (st M (M 144)) 143 (nI c) water (nI (mn (M 144) m c n)) water (more0 water (mn (M 144) m c n)) (nI (c + 1)) := hq
      rw [st_self] at e
      exact e
    · rintro k s ⟨-, e⟩
      subst e
      refine ⟨fun _ => h, fun d => absurd ?_ d⟩
      show st M _ 144 0 ≤ nI n
      rw [st_s, pr_SA n w4 0 (Or.inl (fun g => by omega)), w0]
      exact nI_le (Nat.le_refl _) (by omega)
    · rintro k i s hi ⟨hci, e⟩ ih
      have hSA := pr_SA (S0 := M 144) (m := m) (c := c) (q := water / nI (mn (M 144) m c n)) (a := water) (b := more0 water (mn (M 144) m c n)) i (by omega)
      rw [← e] at hSA
      have hws := SA_Wf hSA hw0
      refine ⟨fun d => absurd d ?_, fun _ => ?_⟩
      · show ¬ st M _ 144 0 ≤ nI i
        rw [st_s, hSA 0 (Or.inl (fun g => by omega)), w0]
        exact nI_ge hi (by omega)
      · refine sp7_lets (c := c) (g := i) (by rw [st_s]; exact hws) hc (by omega) hi rfl rfl ?_
        rw [st_s, SA_ltF hSA]
        refine ⟨fun d x6 e6 => ?_, fun d => ?_⟩
        · rw [e6, nI_1]
          refine ih s ⟨by omega, ?_⟩
          rw [e]
          conv => rhs; unfold pr
          rw [if_neg]
          rintro ⟨-, z⟩
          rw [z] at d
          exact absurd d (by decide)
        · have hlt : ltF (M 144) m c i = true := by
            cases hh : ltF (M 144) m c i
            · rw [hh] at d; exact absurd rfl d
            · rfl
          have hpos := mn_pos (S := M 144) (show c < i by omega) hlt hi
          have hstep : pr (M 144) m c (water / nI (mn (M 144) m c n)) (M 144, water, more0 water (mn (M 144) m c n)) (i + 1) = (upd s.1 (10 + 9 * i + 6) (thr (M 144) i (ptq (water / nI (mn (M 144) m c n)) s.2.2)), s.2.1 - thr (M 144) i (ptq (water / nI (mn (M 144) m c n)) s.2.2), mdec s.2.2) := by
            rw [e]
            conv => lhs; unfold pr
            rw [if_pos ⟨by omega, hlt⟩]
          have f163 : ∀ v, v = thr (M 144) i (ptq (water / nI (mn (M 144) m c n)) s.2.2) → ∀ x5, x5 = mdec s.2.2 → bX7_parts_163 Post (lX7_parts_63 Post k) (st M s.1) 143 (nI c) water (nI (mn (M 144) m c n)) s.2.1 x5 (nI i) v := by
            intro v ev x5 e5
            obtain ⟨i1, i2⟩ := ix_ca (x := nI i) (y := 6) (c := i) (w := 6) rfl rfl (by omega) (by omega)
            refine ⟨i2, fun M31 e31 x4 e4 x6 e6 => ?_⟩
            rw [e6, nI_1]
            have eM : M31 = st M (upd s.1 (10 + 9 * i + 6) (thr (M 144) i (ptq (water / nI (mn (M 144) m c n)) s.2.2))) := by
              rw [e31, i1, ev]
              exact mu_st
            rw [eM, e4, ev, e5]
            exact ih (upd s.1 (10 + 9 * i + 6) (thr (M 144) i (ptq (water / nI (mn (M 144) m c n)) s.2.2)), s.2.1 - thr (M 144) i (ptq (water / nI (mn (M 144) m c n)) s.2.2), mdec s.2.2) ⟨by omega, hstep.symm⟩
          have f137 : ∀ v, v = (if ca (M 144) i 1 = 1 then (ptq (water / nI (mn (M 144) m c n)) s.2.2 + 1) / 2 else ptq (water / nI (mn (M 144) m c n)) s.2.2) → ∀ x5, x5 = mdec s.2.2 → bX7_parts_137 Post (lX7_parts_63 Post k) (st M s.1) 143 (nI c) water (nI (mn (M 144) m c n)) s.2.1 x5 (nI i) v := by
            intro v ev x5 e5
            have e2 : ca s.1 i 2 = ca (M 144) i 2 := SA_ca hSA (by omega) (by omega)
            refine sp7_ca (c := i) (w := 2) rfl rfl (by omega) (by omega) ⟨fun d1 => f163 _ ?_ _ e5, fun d1 => ?_⟩
            · rw [st_s, e2, ev] at d1
              unfold thr
              rw [if_pos d1, ev]
            · rw [st_s, e2, ev] at d1
              refine sp7_ca (c := i) (w := 2) rfl rfl (by omega) (by omega) (f163 _ ?_ _ e5)
              unfold thr
              rw [if_neg d1, st_s, e2]
          have f112 : ∀ t0, s.2.2 - t0 = mdec s.2.2 → ∀ x7, x7 = ptq (water / nI (mn (M 144) m c n)) s.2.2 → bX7_parts_112 Post (lX7_parts_63 Post k) (st M s.1) 143 (nI c) water (nI (mn (M 144) m c n)) s.2.1 (nI i) x7 t0 s.2.2 := by
            intro t0 e0 x7 e7 x5 e5
            have e1 : ca s.1 i 1 = ca (M 144) i 1 := SA_ca hSA (by omega) (by omega)
            refine sp7_ca (c := i) (w := 1) rfl rfl (by omega) (by omega) ⟨fun d1 => f137 _ ?_ _ (e5.trans e0), fun d1 => f137 _ ?_ _ (e5.trans e0)⟩
            · rw [st_s, e1] at d1
              rw [if_neg d1, e7]
            · rw [st_s, e1] at d1
              rw [if_pos d1, e7]
          have f97 : ∀ t0, (water / nI (mn (M 144) m c n)) + t0 = ptq (water / nI (mn (M 144) m c n)) s.2.2 → bX7_parts_97 Post (lX7_parts_63 Post k) (st M s.1) 143 (nI c) water (nI (mn (M 144) m c n)) s.2.1 s.2.2 (nI i) t0 (water / nI (mn (M 144) m c n)) := by
            intro t0 e0 x7 e7
            refine ⟨fun d1 => f112 _ ?_ _ (e7.trans e0), fun d1 => f112 _ ?_ _ (e7.trans e0)⟩
            · unfold mdec; rw [if_pos d1]
            · unfold mdec; rw [if_neg d1]
          refine ⟨nI_ne0 hpos (by omega), fun d1 => f97 _ ?_, fun d1 => f97 _ ?_⟩
          · unfold ptq; rw [if_pos d1]
          · unfold ptq; rw [if_neg d1]
  -- the first loop
  refine pk_loop (fun k i (y : Int32) => lX7_parts_7 Post k M 143 (nI c) water y (nI i)) (fun i y => c + 1 ≤ i ∧ y = nI (mn (M 144) m c i)) n (c + 1) 0 (by omega) ⟨Nat.le_refl _, by rw [mn_init _ (Nat.le_refl _)]; rfl⟩ ?_ ?_
  · rintro k y ⟨-, e⟩
    subst e
    refine ⟨fun _ => ⟨fun d => ⟨d, ?_⟩, fun d => ?_⟩, fun d => absurd ?_ d⟩
    · have h0 : mn (M 144) m c n ≠ 0 := fun z => d (by rw [z]; rfl)
      unfold more0 at second
      rw [if_neg h0] at second
      exact second
    · have h0 : mn (M 144) m c n = 0 := nI_inj (by omega) (by omega) d
      unfold more0 at second
      rw [if_pos h0] at second
      exact second
    · show M 144 0 ≤ nI n
      rw [w0]; exact nI_le (Nat.le_refl _) (by omega)
  · rintro k i y hi ⟨hci, e⟩ ih
    subst e
    refine ⟨fun d => absurd d ?_, fun _ => ?_⟩
    · show ¬ M 144 0 ≤ nI i
      rw [w0]; exact nI_ge hi (by omega)
    · refine sp7_lets (c := c) (g := i) hw0 hc (by omega) hi rfl rfl ⟨fun d x3 e3 x6 e6 => ?_, fun d x3 e3 x6 e6 => ?_⟩
      · rw [e6, nI_1]
        refine ih _ ⟨by omega, ?_⟩
        conv => rhs; unfold mn
        rw [b2i_0.mp d, if_neg (by rintro ⟨-, z⟩; cases z), e3]
        show nI _ + nI 0 = _
        rw [nI_add]
      · have hlt : ltF (M 144) m c i = true := by
          cases hh : ltF (M 144) m c i
          · rw [hh] at d; exact absurd rfl d
          · rfl
        rw [e6, nI_1]
        refine ih _ ⟨by omega, ?_⟩
        conv => rhs; unfold mn
        rw [if_pos ⟨by omega, hlt⟩, e3]
        exact nI_1 _
def hCa (S : SS) (c : Nat) : SS := upd S (10 + 9 * c + 7) (S (10 + 9 * c + 7) + (ca S c 6 * ca S c 3 + 999) / 1000)
def hCb (S : SS) (c : Nat) : SS := upd (hCa S c) 8 (hCa S c 8 + (ca S c 6 * ca S c 3 + 999) / 1000)
def hCc (S : SS) (m c : Nat) : SS × Int32 := serveF (hCb S c) m c (ca S c 6 - (ca S c 6 * ca S c 3 + 999) / 1000)
def hCd (S : SS) (m n c : Nat) : SS × Int32 := partF (hCc S m c).1 m n c (hCc S m c).2
def hCe (S : SS) (m n c : Nat) : SS := upd (hCd S m n c).1 (10 + 9 * c + 8) ((hCd S m n c).1 (10 + 9 * c + 8) + (hCd S m n c).2)
def hC (S : SS) (m n c : Nat) : SS := upd (hCe S m n c) 9 (hCe S m n c 9 + (hCd S m n c).2)
def hL (S : SS) (m n : Nat) : Nat → SS
  | 0 => S
  | c + 1 => hC (hL S m n c) m n c
def eC (S : SS) : Nat → SS
  | 0 => S
  | f + 1 => upd (eC S f) (82 + 7 * f + 5) (if wt (eC S f) f = true then fi (eC S f) f 5 else 0)
def zC (S : SS) : Nat → SS
  | 0 => S
  | c + 1 => upd (zC S c) (10 + 9 * c + 6) 0
def f1 (S : SS) (n : Nat) : SS := zC (upd S 5 (S 5 + 1)) n
def fB (S : SS) (b : Int32) : Int32 := if b ≤ ca S 0 2 then b else ca S 0 2
def f2 (S : SS) (n : Nat) (b : Int32) : SS := upd (f1 S n) 16 (fB (f1 S n) b)
def f3 (S : SS) (n : Nat) (b : Int32) : SS := upd (f2 S n b) 6 (f2 S n b 6 + fB (f1 S n) b)
def flowF (S : SS) (n m : Nat) (b : Int32) : SS := eC (hL (f3 S n b) m n n) m
theorem srv_o : ∀ (l : List Nat) (S : SS) (left : Int32) (k : Nat), (∀ f, k ≠ 82 + 7 * f + 4) → (∀ f, k ≠ 82 + 7 * f + 6) → (srv l S left).1 k = S k := by
  intro l
  induction l with
  | nil => intro S left k _ _; rfl
  | cons f l ih =>
    intro S left k h4 h6
    show (srv l (sg S f (gv S f left)) (left - gv S f left)).1 k = S k
    rw [ih _ _ k h4 h6, sg_o (h4 f) (h6 f)]
theorem serveF_o {S : SS} {m c : Nat} {w : Int32} {k : Nat} (h4 : ∀ f, k ≠ 82 + 7 * f + 4) (h6 : ∀ f, k ≠ 82 + 7 * f + 6) (h7 : k ≠ 7) : (serveF S m c w).1 k = S k := by
  show upd _ 7 _ k = _
  rw [upd_o h7, srv_o _ _ _ k h4 h6]
/-- slots that an hour's canals never write -/
def still (k : Nat) : Prop := (∀ f, k ≠ 82 + 7 * f + 4) ∧ (∀ f, k ≠ 82 + 7 * f + 6) ∧ (k < 5 ∨ 10 ≤ k) ∧ ((∀ g, k ≠ 10 + 9 * g + 6 ∧ k ≠ 10 + 9 * g + 7 ∧ k ≠ 10 + 9 * g + 8) ∨ 82 ≤ k)
theorem hCb_o {S : SS} {c k : Nat} (h7 : k ≠ 10 + 9 * c + 7) (h8 : k ≠ 8) : hCb S c k = S k := by
  unfold hCb hCa; rw [upd_o h8, upd_o h7]
theorem partF_SA {S : SS} {m n c : Nat} {w : Int32} (h8 : n ≤ 8) : SA S (partF S m n c w).1 := pr_SA n h8
theorem hC_o {S : SS} {m n c k : Nat} (h8 : n ≤ 8) (hc : c < 8) (hk : still k) : hC S m n c k = S k := by
  obtain ⟨k4, k6, k5, kg⟩ := hk
  have e7 : k ≠ 10 + 9 * c + 7 := by rcases kg with e | e; exact (e c).2.1; omega
  have e8 : k ≠ 10 + 9 * c + 8 := by rcases kg with e | e; exact (e c).2.2; omega
  unfold hC hCe hCd hCc
  rw [upd_o (by omega), upd_o e8, partF_SA h8 k (kg.imp (fun e g => (e g).1) id), serveF_o k4 k6 (by omega), hCb_o e7 (by omega)]
theorem hL_o {S : SS} {m n k : Nat} (h8 : n ≤ 8) (hk : still k) : ∀ i, i ≤ 8 → hL S m n i k = S k := by
  intro i
  induction i with
  | zero => intro _; rfl
  | succ c ih => intro h; unfold hL; rw [hC_o h8 (by omega) hk, ih (by omega)]
theorem Wf_still {S S' : SS} {n m t : Nat} (hw : Wf S n m t) (h : ∀ k, still k → S' k = S k) : Wf S' n m t :=
  hw.of (h 0 ⟨fun f => by omega, fun f => by omega, by omega, Or.inl fun g => by omega⟩) (h 1 ⟨fun f => by omega, fun f => by omega, by omega, Or.inl fun g => by omega⟩) (h 2 ⟨fun f => by omega, fun f => by omega, by omega, Or.inl fun g => by omega⟩) (fun c _ => h _ ⟨fun f => by omega, fun f => by omega, by omega, Or.inl fun g => by omega⟩) (fun f _ => h _ ⟨fun g => by omega, fun g => by omega, by omega, Or.inr (by omega)⟩)
theorem zC_o {S : SS} {k : Nat} : ∀ i, (∀ g, g < i → k ≠ 10 + 9 * g + 6) → zC S i k = S k := by
  intro i
  induction i with
  | zero => intro _; rfl
  | succ c ih => intro h; unfold zC; rw [upd_o (h c (by omega)), ih (fun g hg => h g (by omega))]
theorem eC_o {S : SS} {k : Nat} : ∀ i, (∀ f, f < i → k ≠ 82 + 7 * f + 5) → eC S i k = S k := by
  intro i
  induction i with
  | zero => intro _; rfl
  | succ c ih => intro h; unfold eC; rw [upd_o (h c (by omega)), ih (fun g hg => h g (by omega))]
theorem f3_o {S : SS} {n : Nat} {b : Int32} {k : Nat} (h5 : k ≠ 5) (h6 : k ≠ 6) (h16 : k ≠ 16) (hg : ∀ g, g < n → k ≠ 10 + 9 * g + 6) : f3 S n b k = S k := by
  unfold f3 f2 f1; rw [upd_o h6, upd_o h16, zC_o n hg, upd_o h5]
theorem still_f3 {S : SS} {n : Nat} {b : Int32} (h8 : n ≤ 8) {k : Nat} (hk : still k) : f3 S n b k = S k := by
  obtain ⟨k4, k6, k5, kg⟩ := hk
  refine f3_o (by omega) (by omega) ?_ ?_
  · rcases kg with e | e
    · have := (e 0).1; omega
    · omega
  · intro g hg
    rcases kg with e | e
    · exact (e g).1
    · omega
theorem sp7_flows {Post : Mm → Int32 → Prop} {M : Mm} {n m t : Nat} {b : Int32} (hw : Wf (M 144) n m t) (h : Post (st M (flowF (M 144) n m b)) (flowF (M 144) n m b 7 - M 144 7)) : wX7_flows Post M 143 b := by
  have hw0 := hw
  obtain ⟨w0, w1, w2, ⟨w3, w4⟩, w5, w6, w7, w8⟩ := hw
  intro x2 e2 M2 e2m
  have eM2 : M2 = st M (upd (M 144) 5 (M 144 5 + 1)) := by
    rw [e2m]
    exact mu_144
  subst eM2
  -- the last loop
  have last : ∀ S5 : SS, Wf S5 n m t → S5 = hL (f3 (M 144) n b) m n n → ∃ q : Nat, lX7_flows_230 Post q (st M S5) 143 x2 (nI 0) := by
    intro S5 hw5 e5
    refine pk_loop (fun k i (s : SS) => lX7_flows_230 Post k (st M s) 143 x2 (nI i)) (fun i s => s = eC S5 i) m 0 S5 (by omega) rfl ?_ ?_
    · rintro k s e
      subst e
      refine ⟨fun _ => ?_, fun d => absurd ?_ d⟩
      · show Post _ (st M _ 144 7 - x2)
        rw [st_s, e2, e5]
        exact h
      · show st M _ 144 1 ≤ nI m
        rw [st_s, eC_o m (fun f _ => by omega), hw5.2.1]
        exact nI_le (Nat.le_refl _) (by omega)
    · rintro k i s hi e ih
      subst e
      obtain ⟨i1, i2⟩ := ix_fi (x := nI i) (y := 5) (f := i) (w := 5) rfl rfl (by omega) (by omega)
      refine ⟨fun d => absurd d ?_, fun _ => sp7_wants (f := i) rfl (by omega) ⟨fun d => ⟨i2, fun M35 e35 x4 e4 => ?_⟩, fun d => ?_⟩⟩
      · show ¬ st M _ 144 1 ≤ nI i
        rw [st_s, eC_o i (fun f _ => by omega), hw5.2.1]
        exact nI_ge hi (by omega)
      · rw [st_s] at d
        rw [e4, nI_1]
        have eM : M35 = st M (eC S5 (i + 1)) := by
          rw [e35, i1]
          conv => rhs; unfold eC
          rw [if_neg (by rw [b2i_0.mp d]; decide)]
          exact mu_st
        rw [eM]
        exact ih _ rfl
      · rw [st_s] at d
        have hwt : wt (eC S5 i) i = true := by
          cases hh : wt (eC S5 i) i
          · rw [hh] at d; exact absurd rfl d
          · rfl
        refine sp7_fi (f := i) (w := 5) rfl rfl (by omega) (by omega) ⟨i2, fun M39 e39 x4 e4 => ?_⟩
        rw [st_s] at e39
        rw [e4, nI_1]
        have eM : M39 = st M (eC S5 (i + 1)) := by
          rw [e39, i1]
          conv => rhs; unfold eC
          rw [if_pos hwt]
          exact mu_st
        rw [eM]
        exact ih _ rfl
  -- the canals' loop
  have canals : ∃ q : Nat, lX7_flows_95 Post q (st M (f3 (M 144) n b)) 143 x2 (nI 0) := by
    have hw3 : Wf (f3 (M 144) n b) n m t := Wf_still hw0 (fun k hk => still_f3 w4 hk)
    refine pk_loop (fun k i (s : SS) => lX7_flows_95 Post k (st M s) 143 x2 (nI i)) (fun i s => s = hL (f3 (M 144) n b) m n i) n 0 (f3 (M 144) n b) (by omega) rfl ?_ ?_
    · rintro k s e
      subst e
      have hwn : Wf (hL (f3 (M 144) n b) m n n) n m t := Wf_still hw3 (fun k hk => hL_o w4 hk n w4)
      refine ⟨fun _ => last _ hwn rfl, fun d => absurd ?_ d⟩
      show st M _ 144 0 ≤ nI n
      rw [st_s, hwn.1]
      exact nI_le (Nat.le_refl _) (by omega)
    · rintro k i s hi e ih
      have hws : Wf s n m t := by
        rw [e]
        exact Wf_still hw3 (fun k hk => hL_o w4 hk i (by omega))
      obtain ⟨i1, i2⟩ := ix_ca (x := nI i) (y := 7) (c := i) (w := 7) rfl rfl (by omega) (by omega)
      obtain ⟨j1, j2⟩ := ix_ca (x := nI i) (y := 8) (c := i) (w := 8) rfl rfl (by omega) (by omega)
      refine ⟨fun d => absurd d ?_, fun _ => sp7_ca (c := i) (w := 6) rfl rfl (by omega) (by omega) (sp7_ca (c := i) (w := 3) rfl rfl (by omega) (by omega) (fun x6 e6 => ⟨i2, i2, fun M22 e22 M23 e23 => ?_⟩))⟩
      · show ¬ st M _ 144 0 ≤ nI i
        rw [st_s, hws.1]
        exact nI_ge hi (by omega)
      · rw [st_s] at e6
        have eM22 : M22 = st M (hCa s i) := by
          rw [e22, i1, e6]
          show mu (st M s) 144 _ (st M s 144 _ + _) = _
          rw [mu_st, st_s]
          rfl
        have eM23 : M23 = st M (hCb s i) := by
          rw [e23, eM22, e6]
          show mu (st M (hCa s i)) 144 8 (st M (hCa s i) 144 8 + _) = _
          rw [mu_st, st_s]
          rfl
        subst eM23
        have hwb : Wf (hCb s i) n m t := Wf_still hws (fun k hk => hCb_o (by rcases hk.2.2.2 with e | e; exact (e i).2.1; omega) (by have := hk.2.2.1; omega))
        refine sp7_serves (n := n) (m := m) (t := t) (c := i) (by rw [st_s]; exact hwb) hi rfl ?_
        rw [st_s, st_s, st_st, e6]
        have hwc : Wf (hCc s m i).1 n m t := Wf_still hwb (fun k hk => serveF_o hk.1 hk.2.1 (by have := hk.2.2.1; omega))
        refine sp7_parts (n := n) (m := m) (t := t) (c := i) (by rw [st_s]; exact hwc) hi rfl ?_
        rw [st_s, st_st]
        refine ⟨j2, j2, fun M28 e28 M29 e29 x4 e4 => ?_⟩
        rw [e4, nI_1]
        have eM28 : M28 = st M (hCe s m n i) := by
          rw [e28, j1]
          show mu (st M (hCd s m n i).1) 144 _ (st M (hCd s m n i).1 144 _ + (hCd s m n i).2) = _
          rw [mu_st, st_s]
          rfl
        have eM29 : M29 = st M (hC s m n i) := by
          rw [e29, eM28]
          show mu (st M (hCe s m n i)) 144 9 (st M (hCe s m n i) 144 9 + (hCd s m n i).2) = _
          rw [mu_st, st_s]
          rfl
        rw [eM29]
        exact ih _ (by rw [e]; rfl)
  -- the first loop
  show ∃ q : Nat, lX7_flows_20 Post q (st M (upd (M 144) 5 (M 144 5 + 1))) 143 b x2 (nI 0)
  refine pk_loop (fun k i (s : SS) => lX7_flows_20 Post k (st M s) 143 b x2 (nI i)) (fun i s => s = zC (upd (M 144) 5 (M 144 5 + 1)) i) n 0 (upd (M 144) 5 (M 144 5 + 1)) (by omega) rfl ?_ ?_
  · rintro k s e
    subst e
    have k0 : zC (upd (M 144) 5 (M 144 5 + 1)) n 0 = nI n := by rw [zC_o n (fun g _ => by omega), upd_o (by omega), w0]
    have f72 : ∀ v, v = fB (f1 (M 144) n) b → bX7_flows_72 Post (st M (zC (upd (M 144) 5 (M 144 5 + 1)) n)) 143 x2 v := by
      intro v ev M12 e12 M13 e13
      have a : M12 = st M (f2 (M 144) n b) := by
        rw [e12, ev]
        exact mu_st
      have a2 : M13 = st M (f3 (M 144) n b) := by
        rw [e13, a, ev]
        show mu (st M (f2 (M 144) n b)) 144 6 (st M (f2 (M 144) n b) 144 6 + _) = _
        rw [mu_st, st_s]
        rfl
      rw [a2]
      exact canals
    refine ⟨fun _ => sp7_ca (c := 0) (w := 2) rfl rfl (by omega) (by omega) ⟨fun d => f72 _ ?_, fun d => ?_⟩, fun d => absurd ?_ d⟩
    · rw [st_s] at d
      have d' : b ≤ ca (f1 (M 144) n) 0 2 := d
      unfold fB
      rw [if_pos d']
    · rw [st_s] at d
      refine sp7_ca (c := 0) (w := 2) rfl rfl (by omega) (by omega) (f72 _ ?_)
      have d' : ¬ b ≤ ca (f1 (M 144) n) 0 2 := d
      unfold fB
      rw [if_neg d', st_s]
      rfl
    · show st M _ 144 0 ≤ nI n
      rw [st_s, k0]
      exact nI_le (Nat.le_refl _) (by omega)
  · rintro k i s hi e ih
    subst e
    have k0 : zC (upd (M 144) 5 (M 144 5 + 1)) i 0 = nI n := by rw [zC_o i (fun g _ => by omega), upd_o (by omega), w0]
    obtain ⟨i1, i2⟩ := ix_ca (x := nI i) (y := 6) (c := i) (w := 6) rfl rfl (by omega) (by omega)
    refine ⟨fun d => absurd d ?_, fun _ => ⟨i2, fun M10 e10 x3 e3 => ?_⟩⟩
    · show ¬ st M _ 144 0 ≤ nI i
      rw [st_s, k0]
      exact nI_ge hi (by omega)
    · rw [e3, nI_1]
      have eM : M10 = st M (zC (upd (M 144) 5 (M 144 5 + 1)) (i + 1)) := by
        rw [e10, i1]
        exact mu_st
      rw [eM]
      exact ih _ rfl
