/-! 'acts': one act of the law's -/
def LI (M : Mm) (B : Nat) : Prop := ∃ S n m tt hr, HM M S n m tt ∧ S 5 = nI hr ∧ hr ≤ B
theorem dv {a b : Nat} (ha : a < 2147483648) (h0 : 0 < b) (hb : b < 2147483648) : nI a / nI b = nI (a / b) := by
  have e1 : (nI a).toInt = a := nI_toInt (by omega)
  have e2 : (nI b).toInt = b := nI_toInt (by omega)
  have e3 : (nI (a / b)).toInt = ((a / b : Nat) : Int) := nI_toInt (Nat.lt_of_le_of_lt (Nat.div_le_self a b) (by omega))
  refine i_eq.mpr ?_
  rw [i_div (by omega) (by omega), e1, e2, e3]
  exact (Int.natCast_ediv a b).symm
theorem md {a b : Nat} (ha : a < 2147483648) (h0 : 0 < b) (hb : b < 2147483648) : nI a - nI a / nI b * nI b = nI (a % b) := by
  rw [dv ha h0 hb, nI_mul]
  have h1 : a / b * b ≤ a := Nat.div_mul_le_self a b
  have h2 : a % b = a - a / b * b := by
    have := Nat.div_add_mod a b
    rw [Nat.mul_comm] at this
    omega
  rw [h2]
  exact ofN_sub h1
theorem bt_ge {r k : Nat} (hk : k < 32) (h : bt (nI r) k = true) (n : Nat) (hr : r < 2 ^ n) : k < n := by
  rcases Nat.lt_or_ge k n with z | z
  · exact z
  · exfalso
    have hlt : r < 2 ^ k := Nat.lt_of_lt_of_le hr (Nat.pow_le_pow_right (by omega) z)
    have e : bt (nI r) k = (BitVec.ofNat 32 r).getLsbD k := rfl
    rw [e, BitVec.getLsbD_ofNat, Nat.testBit_lt_two_pow hlt, Bool.and_false] at h
    cases h
theorem ag_even {n r : Nat} (hr : r < 2 ^ n) : agF n (nI r &&& (-2 : Int32)) = true := by
  refine ag_mk (fun k hk hb => ?_)
  rw [b_and, Bool.and_eq_true] at hb
  refine ⟨?_, bt_ge hk hb.1 n hr⟩
  rcases Nat.eq_zero_or_pos k with z | z
  · subst z
    exact absurd hb.2 (by decide)
  · exact z
theorem tdF_pos {S : SS} {x : Int32} {g : Nat} (h1 : 1 ≤ g) (hx : ca S g 5 = x) : ∀ i, g < i → 1 ≤ tdF S x i := by
  intro i
  induction i with
  | zero => intro h; omega
  | succ i ih =>
    intro h
    unfold tdF
    rw [if_neg (by omega)]
    by_cases e : g = i
    · subst e
      rw [if_pos hx]; omega
    · have := ih (by omega); omega
theorem onF_nn {x : Int32} : ∀ i, ∃ k, k ≤ i ∧ onF x i = nI k := by
  intro i
  induction i with
  | zero => exact ⟨0, Nat.le_refl _, rfl⟩
  | succ i ih =>
    obtain ⟨k, h1, h2⟩ := ih
    show ∃ j, j ≤ i + 1 ∧ onF x i + b2i (bt x i) = nI j
    rw [h2]
    cases bt x i
    · exact ⟨k, by omega, Int32.add_zero _⟩
    · exact ⟨k + 1, by omega, nI_1 k⟩
section AC29
variable {Post : Mm → Int32 → Prop} {M : Mm} {S : SS} {n m tt hr B z : Nat} {v t : Int32}
theorem ac_102 (h : v = t) (k : Post M 1) : bL_acts_102 Post M t v := ⟨fun d => absurd h d, fun _ => k⟩
theorem ac_174 (h : v = t) (k : Post M 1) : bL_acts_174 Post M t v := ⟨fun d => absurd h d, fun _ => k⟩
theorem ac_canal (h : HM M S n m tt) (hh : S 5 = nI hr) (hB : hr ≤ B) (hz : z < 2147483648) (k : ∀ M2, LI M2 (B + 5) → Post M2 1) :
    wX6_count (fun M4 r5 => ¬ r5 = 0 ∧ (wX6_canal (fun M6 r7 => ((¬ r5 = (8 : Int32) → bL_acts_102 Post M6 r5 r7) ∧
  (r5 = (8 : Int32) → bL_acts_102 Post M6 (-1000003 : Int32) r7))) M4 0 (nI z - nI z / r5 * r5) ((nI z / (8 : Int32)) - (nI z / (8 : Int32)) / (3 : Int32) * (3 : Int32)) ((1 : Int32) + ((nI z / (32 : Int32)) - (nI z / (32 : Int32)) / (200 : Int32) * (200 : Int32))) ((nI z / (8192 : Int32)) - (nI z / (8192 : Int32)) / (300 : Int32) * (300 : Int32)))) M 0 (0 : Int32) := by
  obtain ⟨hV, hE, -⟩ := id h
  have hW := hV.1.1
  have h8 := hW.2.2.2.1
  refine qC h h.self (v := nI n) (fun _ _ => hW.1) (fun M4 c => ⟨fun e => absurd (nI_inj (b := 0) (by omega) (by omega) e) (by omega), ?_⟩)
  have h4 := h.to c
  obtain ⟨-, -, hT, ⟨P, s, hp, hs, hs4⟩, -⟩ := id h4
  have hd : ∀ j, z / j < 2147483648 := fun j => Nat.lt_of_le_of_lt (Nat.div_le_self z j) hz
  have e1 : nI z - nI z / nI n * nI n = nI (z % n) := md hz (by omega) (by omega)
  have e2 : (nI z / (8 : Int32)) - (nI z / (8 : Int32)) / (3 : Int32) * (3 : Int32) = nI (z / 8 % 3) := by rw [show nI z / (8 : Int32) = nI (z / 8) from dv (b := 8) hz (by omega) (by omega)]; exact md (b := 3) (hd 8) (by omega) (by omega)
  have e3 : (1 : Int32) + ((nI z / (32 : Int32)) - (nI z / (32 : Int32)) / (200 : Int32) * (200 : Int32)) = nI (1 + z / 32 % 200) := by rw [show nI z / (32 : Int32) = nI (z / 32) from dv (b := 32) hz (by omega) (by omega), show nI (z / 32) - nI (z / 32) / (200 : Int32) * (200 : Int32) = nI (z / 32 % 200) from md (b := 200) (hd 32) (by omega) (by omega)]; exact nI_add 1 _
  have e4 : (nI z / (8192 : Int32)) - (nI z / (8192 : Int32)) / (300 : Int32) * (300 : Int32) = nI (z / 8192 % 300) := by rw [show nI z / (8192 : Int32) = nI (z / 8192) from dv (b := 8192) hz (by omega) (by omega)]; exact md (b := 300) (hd 8192) (by omega) (by omega)
  rw [e1, e2, e3, e4]
  have m1 := Nat.mod_lt z (show 0 < n by omega)
  have m2 := Nat.mod_lt (z / 8) (show 0 < 3 by omega)
  have m3 := Nat.mod_lt (z / 32) (show 0 < 200 by omega)
  have m4 := Nat.mod_lt (z / 8192) (show 0 < 300 by omega)
  have hg : inr 0 n (nI (z % n)) = true ∧ inr 0 3 (nI (z / 8 % 3)) = true ∧ inr 1 501 (nI (1 + z / 32 % 200)) = true ∧ inr 0 501 (nI (z / 8192 % 300)) = true := ⟨inr_nI (by omega) (by omega) (by omega), inr_nI (by omega) (by omega) (by omega), inr_nI (by omega) (by omega) (by omega), inr_nI (by omega) (by omega) (by omega)⟩
  refine sp6_canal hp hs hs4 hT hW (fun M6 n' hn' ca => ?_)
  have hV' := VV_can hV hn'
  have hE' := EX_can hV hE hn'
  have h6 := h4.act hp hs hs4 ca hV' hE'
  by_cases e : n = 8
  · have hF : canF S n (nI (z % n)) (nI (z / 8 % 3)) (nI (1 + z / 32 % 200)) (nI (z / 8192 % 300)) = (S, -1000003) := by unfold canF; rw [if_pos hg, if_pos e]
    rw [hF] at h6 ⊢
    refine ⟨fun d => absurd (by rw [e]; rfl) d, fun _ => ac_102 rfl (k M6 ⟨S, n', m, tt, hr, h6, hh, by omega⟩)⟩
  · have hF : canF S n (nI (z % n)) (nI (z / 8 % 3)) (nI (1 + z / 32 % 200)) (nI (z / 8192 % 300)) = (cnS S n (nI (z % n)) (nI (z / 8 % 3)) (nI (1 + z / 32 % 200)) (nI (z / 8192 % 300)), nI n) := by unfold canF; rw [if_pos hg, if_neg e]
    rw [hF] at h6 ⊢
    refine ⟨fun _ => ac_102 rfl (k M6 ⟨_, n', m, tt, hr, h6, ?_, by omega⟩), fun d => absurd (nI_inj (b := 8) (by omega) (by omega) d) e⟩
    show cnS _ _ _ _ _ _ 5 = _
    rw [cnS_o (by omega) (by omega), hh]
theorem ac_field (h : HM M S n m tt) (hh : S 5 = nI hr) (hB : hr ≤ B) (hz : z < 2147483648) (k : ∀ M2, LI M2 (B + 5) → Post M2 1) :
    wX6_count (fun M10 r11 => wX6_count (fun M12 r13 => ¬ r13 = 0 ∧ (wX6_field (fun M14 r15 => ((¬ r11 = (10 : Int32) → bL_acts_174 Post M14 r11 r15) ∧
  (r11 = (10 : Int32) → bL_acts_174 Post M14 (-1000003 : Int32) r15))) M12 0 (nI z - nI z / r13 * r13) ((1 : Int32) + ((nI z / (8 : Int32)) - (nI z / (8 : Int32)) / (250 : Int32) * (250 : Int32))) ((1 : Int32) + ((nI z / (4096 : Int32)) - (nI z / (4096 : Int32)) / (80 : Int32) * (80 : Int32))) ((nI z / (524288 : Int32)) - (nI z / (524288 : Int32)) / (100 : Int32) * (100 : Int32)))) M10 0 (0 : Int32)) M 0 (1 : Int32) := by
  obtain ⟨hV, hE, -⟩ := id h
  have hW := hV.1.1
  have h8 := hW.2.2.2.1
  have h10 := hW.2.2.2.2.1
  refine qC h h.self (v := nI m) (fun _ _ => hW.2.1) (fun M4 c => ?_)
  refine qC h c (v := nI n) (fun _ _ => hW.1) (fun M4 c => ⟨fun e => absurd (nI_inj (b := 0) (by omega) (by omega) e) (by omega), ?_⟩)
  have h4 := h.to c
  obtain ⟨-, -, hT, ⟨P, s, hp, hs, hs4⟩, -⟩ := id h4
  have hd : ∀ j, z / j < 2147483648 := fun j => Nat.lt_of_le_of_lt (Nat.div_le_self z j) hz
  have e1 : nI z - nI z / nI n * nI n = nI (z % n) := md hz (by omega) (by omega)
  have e2 : (1 : Int32) + ((nI z / (8 : Int32)) - (nI z / (8 : Int32)) / (250 : Int32) * (250 : Int32)) = nI (1 + z / 8 % 250) := by rw [show nI z / (8 : Int32) = nI (z / 8) from dv (b := 8) hz (by omega) (by omega), show nI (z / 8) - nI (z / 8) / (250 : Int32) * (250 : Int32) = nI (z / 8 % 250) from md (b := 250) (hd 8) (by omega) (by omega)]; exact nI_add 1 _
  have e3 : (1 : Int32) + ((nI z / (4096 : Int32)) - (nI z / (4096 : Int32)) / (80 : Int32) * (80 : Int32)) = nI (1 + z / 4096 % 80) := by rw [show nI z / (4096 : Int32) = nI (z / 4096) from dv (b := 4096) hz (by omega) (by omega), show nI (z / 4096) - nI (z / 4096) / (80 : Int32) * (80 : Int32) = nI (z / 4096 % 80) from md (b := 80) (hd 4096) (by omega) (by omega)]; exact nI_add 1 _
  have e4 : (nI z / (524288 : Int32)) - (nI z / (524288 : Int32)) / (100 : Int32) * (100 : Int32) = nI (z / 524288 % 100) := by rw [show nI z / (524288 : Int32) = nI (z / 524288) from dv (b := 524288) hz (by omega) (by omega)]; exact md (b := 100) (hd 524288) (by omega) (by omega)
  rw [e1, e2, e3, e4]
  have m1 := Nat.mod_lt z (show 0 < n by omega)
  have m2 := Nat.mod_lt (z / 8) (show 0 < 250 by omega)
  have m3 := Nat.mod_lt (z / 4096) (show 0 < 80 by omega)
  have m4 := Nat.mod_lt (z / 524288) (show 0 < 100 by omega)
  have hg : inr 0 n (nI (z % n)) = true ∧ inr 1 1000 (nI (1 + z / 8 % 250)) = true ∧ inr 1 201 (nI (1 + z / 4096 % 80)) = true ∧ inr 0 100 (nI (z / 524288 % 100)) = true := ⟨inr_nI (by omega) (by omega) (by omega), inr_nI (by omega) (by omega) (by omega), inr_nI (by omega) (by omega) (by omega), inr_nI (by omega) (by omega) (by omega)⟩
  refine sp6_field hp hs hs4 hT hW (fun M6 m' hm' ca => ?_)
  have hV' := VV_fld hV hm'
  have hE' := EX_fld hV hE hm'
  have h6 := h4.act hp hs hs4 ca hV' hE'
  by_cases e : m = 10
  · have hF : fldF S n m (nI (z % n)) (nI (1 + z / 8 % 250)) (nI (1 + z / 4096 % 80)) (nI (z / 524288 % 100)) = (S, -1000003) := by unfold fldF; rw [if_pos hg, if_pos e]
    rw [hF] at h6 ⊢
    refine ⟨fun d => absurd (by rw [e]; rfl) d, fun _ => ac_174 rfl (k M6 ⟨S, n, m', tt, hr, h6, hh, by omega⟩)⟩
  · have hF : fldF S n m (nI (z % n)) (nI (1 + z / 8 % 250)) (nI (1 + z / 4096 % 80)) (nI (z / 524288 % 100)) = (fdS S m (nI (z % n)) (nI (1 + z / 8 % 250)) (nI (1 + z / 4096 % 80)) (nI (z / 524288 % 100)), nI m) := by unfold fldF; rw [if_pos hg, if_neg e]
    rw [hF] at h6 ⊢
    refine ⟨fun _ => ac_174 rfl (k M6 ⟨_, n, m', tt, hr, h6, ?_, by omega⟩), fun d => absurd (nI_inj (b := 10) (by omega) (by omega) d) e⟩
    show fdS _ _ _ _ _ _ 5 = _
    rw [fdS_o (by omega) (by omega), hh]
end AC29
