/-! the reference: what is acted goes into the history -/
def sr (M : Mm) (a : Nat) (R : SS) : Mm := fun b => if b = a then R else M b
theorem sr_s {M : Mm} {a : Nat} {R : SS} : sr M a R a = R := by simp [sr]
theorem sr_o {M : Mm} {a b : Nat} {R : SS} (h : b ≠ a) : sr M a R b = M b := by simp [sr, h]
theorem sr_sr {M : Mm} {a : Nat} {R R' : SS} : sr (sr M a R) a R' = sr M a R' := by funext b; by_cases h : b = a <;> simp [sr, h]
theorem sr_self {M : Mm} {a : Nat} : sr M a (M a) = M := by funext b; by_cases h : b = a <;> simp [sr, h]
theorem mu_sr {M : Mm} {a k : Nat} {v : Int32} : mu M a k v = sr M a (upd (M a) k v) := by funext b; by_cases h : b = a <;> simp [mu, sr, h]
theorem nI_mul (a b : Nat) : nI a * nI b = nI (a * b) := (Int32.ofNat_mul a b).symm
def shW (W : SS) (i : Nat) : SS := fun j => if j < i then W (j + 168) else W j
def cpW (W B : SS) (off i : Nat) : SS := fun j => if off ≤ j ∧ j < off + i then B (j - off) else W j
theorem shW_succ {W : SS} {i : Nat} : upd (shW W i) i (shW W i (i + 168)) = shW W (i + 1) := by
  funext j
  by_cases h : j = i
  · subst h
    rw [upd_s]
    unfold shW
    rw [if_neg (by omega), if_pos (by omega)]
  · rw [upd_o h]
    unfold shW
    by_cases h2 : j < i
    · rw [if_pos h2, if_pos (by omega)]
    · rw [if_neg h2, if_neg (by omega)]
theorem cpW_succ {W B : SS} {off i : Nat} : upd (cpW W B off i) (off + i) (B i) = cpW W B off (i + 1) := by
  funext j
  by_cases h : j = off + i
  · subst h
    rw [upd_s]
    unfold cpW
    rw [if_pos (by omega), Nat.add_sub_cancel_left]
  · rw [upd_o h]
    unfold cpW
    by_cases h2 : off ≤ j ∧ j < off + i
    · rw [if_pos h2, if_pos (by omega)]
    · rw [if_neg h2, if_neg (by omega)]
theorem cpW_0 {W B : SS} {off : Nat} : cpW W B off 0 = W := by
  funext j; unfold cpW; rw [if_neg (by omega)]
theorem shW_0 {W : SS} : shW W 0 = W := by
  funext j; unfold shW; rw [if_neg (by omega)]
/-- the history with one state more -/
def hi1 (W B : SS) (s : Nat) : SS := if s = 4 then cpW (shW W 504) B 504 168 else cpW W B (168 * s) 168
def acM (M : Mm) (s : Nat) : Mm := sr (sr M 145 (hi1 (M 145) (M 146) s)) 143 (upd (M 143) 4 (nI (min s 3 + 1)))
theorem acted_57 {Post : Mm → Int32 → Prop} {M : Mm} {s : Nat} {x : Int32} (hs : M 143 4 = nI s) (h4 : s < 4) (h : Post (sr (sr M 145 (cpW (M 145) (M 146) (168 * s) 168)) 143 (upd (M 143) 4 (nI (s + 1)))) x) : ∃ n : Nat, lX7_acted_57 Post n M 143 x (nI 0) := by
  refine pk_loop (fun n i (M' : Mm) => lX7_acted_57 Post n M' 143 x (nI i)) (fun i M' => M' = sr M 145 (cpW (M 145) (M 146) (168 * s) i)) 168 0 M (by omega) (by rw [cpW_0, sr_self]) ?_ ?_
  · intro n M' e
    subst e
    refine ⟨fun _ M11 e11 => ?_, fun c => absurd (show (168 : Int32) ≤ nI 168 by decide) c⟩
    have e : M11 = sr (sr M 145 (cpW (M 145) (M 146) (168 * s) 168)) 143 (upd (M 143) 4 (nI (s + 1))) := by
      rw [e11, mu_sr, sr_o (by omega), hs, nI_1]
    rw [e]
    exact h
  · intro n i M' hi e ih
    subst e
    have ei : (168 : Int32) * (sr M 145 (cpW (M 145) (M 146) (168 * s) i) 143 4) + nI i = nI (168 * s + i) := by
      rw [sr_o (by omega), hs]
      show nI 168 * nI s + nI i = _
      rw [nI_mul, nI_add]
    refine ⟨fun c => absurd c (nI_ge (b := 168) hi (by decide)), fun _ => ⟨vp_in_nI hi (by omega), ?_, fun M3 e3 x4 e4 => ?_⟩⟩
    · rw [ei]
      exact vp_in_nI (by omega) (by omega)
    · rw [e4, nI_1]
      refine ih _ ?_
      rw [e3, ei, ixn (by omega), ixn (by omega), mu_sr]
      show sr (sr M 145 _) 145 (upd (sr M 145 _ 145) _ (sr M 145 _ 146 i)) = _
      rw [sr_s, sr_sr, sr_o (by omega), cpW_succ]
theorem sp7_acted {Post : Mm → Int32 → Prop} {M : Mm} {s : Nat} {x : Int32} (hs : M 143 4 = nI s) (h4 : s ≤ 4) (h0 : x ≤ -1000001 → Post M x) (h1 : ¬ x ≤ -1000001 → Post (acM M s) x) : wX7_acted Post M 143 x := by
  refine ⟨h0, fun hx => ⟨fun d => ?_, fun d => ?_⟩⟩
  · have hs4 : s ≠ 4 := fun z => d (by rw [hs, z]; rfl)
    refine acted_57 (s := s) hs (by omega) ?_
    have := h1 hx
    unfold acM hi1 at this
    rw [if_neg hs4, Nat.min_eq_left (by omega)] at this
    exact this
  · have hs4 : s = 4 := nI_inj (by omega) (by omega) (hs.symm.trans d)
    subst hs4
    show ∃ n : Nat, lX7_acted_16 Post n M 143 x (nI 0)
    refine pk_loop (fun n i (M' : Mm) => lX7_acted_16 Post n M' 143 x (nI i)) (fun i M' => M' = sr M 145 (shW (M 145) i)) 504 0 M (by omega) (by rw [shW_0, sr_self]) ?_ ?_
    · intro n M' e
      subst e
      refine ⟨fun _ M6 e6 => ?_, fun c => absurd (show (504 : Int32) ≤ nI 504 by decide) c⟩
      have e : M6 = sr (sr M 145 (shW (M 145) 504)) 143 (upd (M 143) 4 (nI 3)) := by
        rw [e6, mu_sr, sr_o (by omega), hs]
        rfl
      have e3 : M6 143 4 = nI 3 := by rw [e, sr_s, upd_s]
      refine acted_57 (s := 3) e3 (by omega) ?_
      have := h1 hx
      have z : sr (sr M6 145 (cpW (M6 145) (M6 146) (168 * 3) 168)) 143 (upd (M6 143) 4 (nI (3 + 1))) = acM M 4 := by
        rw [e]
        unfold acM hi1
        rw [if_pos rfl]
        funext b
        by_cases hb : b = 143
        · subst hb; rw [sr_s, sr_s, sr_s]
          funext j
          by_cases hj : j = 4
          · subst hj; rw [upd_s, upd_s]; rfl
          · rw [upd_o hj, upd_o hj, upd_o hj]
        · rw [sr_o hb, sr_o hb]
          by_cases hb5 : b = 145
          · subst hb5; rw [sr_s, sr_s, sr_o (by omega), sr_s, sr_o (by omega), sr_o (by omega)]
          · rw [sr_o hb5, sr_o hb5, sr_o hb, sr_o hb5]
      rw [z]
      exact this
    · intro n i M' hi e ih
      subst e
      have ei : nI i + (168 : Int32) = nI (i + 168) := by
        show nI i + nI 168 = _
        rw [nI_add]
      refine ⟨fun c => absurd c (nI_ge (b := 504) hi (by decide)), fun _ => ⟨?_, vp_in_nI (by omega) (by omega), fun M3 e3 x4 e4 => ?_⟩⟩
      · rw [ei]
        exact vp_in_nI (by omega) (by omega)
      · rw [e4, nI_1]
        refine ih _ ?_
        rw [e3, ei, ixn (by omega), ixn (by omega), mu_sr]
        show sr (sr M 145 _) 145 (upd (sr M 145 _ 145) _ (sr M 145 _ 145 (i + 168))) = _
        rw [sr_s, sr_sr, shW_succ]
