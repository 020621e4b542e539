/-! the class: shares (the first rows, wb_.., out of BITS.to-paste) -/
theorem wb_tb (n : Nat) : (lN n).toBitVec = BitVec.ofNat 64 n := rfl
theorem wb_inj {a b : Int64} (h : a.toBitVec = b.toBitVec) : a = b := Int64.toBitVec_inj.mp h
theorem wb_c : ∀ k, k < 64 → ((nI k).toInt64 &&& 63) = lN k := by decide +kernel
theorem wb_sm : ∀ k, k < 64 → (BitVec.ofNat 64 k).smod 64 = BitVec.ofNat 64 k := by decide +kernel
theorem wb_shl (n : Nat) {k : Nat} (hk : k < 64) : lN n <<< ((nI k).toInt64 &&& 63) = lN (n * 2 ^ k) := by
  rw [wb_c k hk]
  apply wb_inj
  rw [Int64.toBitVec_shiftLeft, wb_tb, wb_tb, wb_tb, wb_sm k hk]
  apply BitVec.eq_of_toNat_eq
  rw [BitVec.shiftLeft_eq', BitVec.toNat_shiftLeft, BitVec.toNat_ofNat, BitVec.toNat_ofNat, BitVec.toNat_ofNat, Nat.mod_eq_of_lt (show k < 2 ^ 64 by omega), Nat.shiftLeft_eq, Nat.mul_mod, Nat.mod_mod, ← Nat.mul_mod]
theorem lN_leB {a b : Nat} (ha : a < 9223372036854775808) (hb : b < 9223372036854775808) : lN a ≤ lN b ↔ a ≤ b := (Int64.ofNat_le_iff_le ha hb)
theorem flt_76 {Post : Mm → Int32 → Prop} {M : Mm} {s c : Nat} (hs : s ≤ 45) (h23 : 23 ≤ s) (hc : 8388608 ≤ c) (h : Post M (nI ((150 - s) * 8388608 + (c - 8388608)))) : bX6_floatBits_76 Post M (nI s) (lN c) := by
  intro x9 e9
  have e : (150 : Int32) - nI s = nI (150 - s) := ofN_sub (a := 150) (b := s) (by omega)
  rw [e9, e]
  have e1 : nI (150 - s) <<< ((23 : Int32) &&& 31) = nI ((150 - s) * 8388608) := pk_shlN (n := 150 - s) ((23 : Int32) &&& 31) 23 (s_l 23 (by omega)) (by show (150 - s) * 8388608 < 4294967296; omega)
  have e2 : lN c - (8388608 : Int64) = lN (c - 8388608) := lN_sub (a := c) (b := 8388608) hc
  rw [e1, e2, lN_i, nI_add]
  exact h
theorem sp6_floatBits {Post : Mm → Int32 → Prop} {M : Mm} {P W : Nat} (hPW : P ≤ W) (h0 : 0 < W) (hW : W < 4194304) (h : ∀ v : Nat, v < 1100000000 → Post M (nI v)) : wX6_floatBits Post M (nI P).toInt64 (nI W).toInt64 := by
  rw [nI_l (n := P) (by omega), nI_l (n := W) (by omega)]
  unfold wX6_floatBits
  rw [lg_cmp_le, lg_cmp_gt]
  rcases Nat.eq_zero_or_pos P with z | z
  · subst z
    refine ⟨fun _ => ?_, fun y => absurd (show lN 0 ≤ 0 by decide) y⟩
    exact h 0 (by omega)
  · have hp : ¬ lN P ≤ 0 := fun y => by have := (lN_leB (b := 0) (by omega) (by omega)).mp y; omega
    have hw : (0 : Int64) < lN W := Int64.not_le.mp (fun y => by have := (lN_leB (b := 0) (by omega) (by omega)).mp y; omega)
    refine ⟨fun y => absurd y hp, fun _ => ⟨fun _ => ?_, fun y => absurd hw y⟩⟩
    obtain ⟨s, s1, s2, s3, s4, s5⟩ := sh_s z hPW hW
    have hc := sh_rng h0 s3 s4
    have hv : (150 - s) * 8388608 + (shc P W s - 8388608) < 1100000000 := by omega
    replace h := h _ hv
    have hb1 : W * 8388608 < 9223372036854775808 := Nat.lt_trans (Nat.mul_lt_mul_of_pos_right hW (by omega)) (by decide +kernel)
    have hb2 : P * 2 ^ s < 9223372036854775808 := by omega
    have e23 : lN W <<< ((23 : Int32).toInt64 &&& 63) = lN (W * 8388608) := wb_shl W (k := 23) (by omega)
    show ∃ q : Nat, lX6_floatBits_18 Post q M (lN P) (lN W) (nI 23)
    refine pk_loop (fun q i (_ : Unit) => lX6_floatBits_18 Post q M (lN P) (lN W) (nI i)) (fun i _ => 23 ≤ i) s 23 () s1 (Nat.le_refl _) ?_ ?_
    · intro q _ _
      refine ⟨fun y => absurd ((nI_leI (a := 46) (by omega) (by omega)).mp y) (by omega), fun _ => ?_⟩
      rw [lg_cmp_ge, e23, wb_shl P (k := s) (by omega)]
      refine ⟨fun _ => ?_, fun y => absurd ((lN_leB (a := W * 8388608) (b := P * 2 ^ s) hb1 hb2).mpr s3) y⟩
      have hw0 : ¬ lN W = 0 := fun y => by rw [y] at hw; exact absurd hw (by decide)
      refine ⟨hw0, fun x5 e5 => ⟨hw0, fun x7 e7 => ?_⟩⟩
      rw [wb_shl P (k := s) (by omega)] at e5 e7
      have ed : lN (P * 2 ^ s) / lN W = lN (P * 2 ^ s / W) := (Int64.ofNat_div (show P * 2 ^ s < 9223372036854775808 by omega) (show W < 9223372036854775808 by omega)).symm
      have hd : W * (P * 2 ^ s / W) + P * 2 ^ s % W = P * 2 ^ s := Nat.div_add_mod _ _
      rw [ed] at e5 e7
      have er : lN (P * 2 ^ s) - lN (P * 2 ^ s / W) * lN W = lN (P * 2 ^ s % W) := by
        rw [lN_mul, Nat.mul_comm (P * 2 ^ s / W) W, lN_sub (by omega)]
        congr 1
        omega
      rw [er] at e7
      subst e5
      subst e7
      have hm := Nat.mod_lt (P * 2 ^ s) h0
      have e2 : (2 : Int64) * lN (P * 2 ^ s % W) = lN (2 * (P * 2 ^ s % W)) := lN_mul 2 _
      rw [lg_cmp_le, e2, lN_leB (by omega) (by omega)]
      unfold shc at h hc
      refine ⟨fun c => ?_, fun c x5 e5 => ?_⟩
      · rw [if_pos c] at h hc
        exact flt_76 s2 s1 hc.1 h
      · rw [if_neg c] at h hc
        rw [e5, lN_1]
        exact flt_76 s2 s1 hc.1 h
    · intro q i _ hi h23 ih
      refine ⟨fun y => absurd ((nI_leI (a := 46) (by omega) (by omega)).mp y) (by omega), fun _ => ?_⟩
      have hlt := s5 i h23 hi
      rw [lg_cmp_ge, e23, wb_shl P (k := i) (by omega)]
      refine ⟨fun y => ?_, fun _ x4 e4 => ?_⟩
      · have := (lN_leB (a := W * 8388608) (b := P * 2 ^ i) hb1 (Nat.lt_trans hlt hb1)).mp y
        omega
      · rw [e4, nI_1]
        exact ih () (by omega)
theorem VA.nat {S : SS} (h : VA S) {v : Nat} (hv : v < 3) : ∃ P W : Nat, S (7 + v) = nI P ∧ S 6 = nI W ∧ P ≤ W ∧ W < 4194304 := by
  obtain ⟨-, hr, -, x1, x2, x3, x4, x5, x6⟩ := h
  have h6 : S 6 = nI (S 6).toInt.toNat := i_of (by omega)
  have hle : 0 ≤ (S (7 + v)).toInt ∧ (S (7 + v)).toInt ≤ (S 6).toInt := by
    have : v = 0 ∨ v = 1 ∨ v = 2 := by omega
    rcases this with z | z | z <;> subst z
    · exact ⟨x2, by show (S 7).toInt ≤ _; omega⟩
    · exact ⟨x3, by show (S 8).toInt ≤ _; omega⟩
    · exact ⟨x4, by show (S 9).toInt ≤ _; omega⟩
  exact ⟨(S (7 + v)).toInt.toNat, (S 6).toInt.toNat, i_of hle.1, h6, by omega, by omega⟩
theorem b_sw {a b : Nat} {x : Int32} : b2i (!inr a b x) = 0 ↔ inr a b x = true := by
  cases inr a b x <;> decide
theorem b_sw' {a b : Nat} {x : Int32} : ¬ b2i (!inr a b x) = 0 ↔ ¬ inr a b x = true := by
  rw [b_sw]
/-- a share is told, and is no error, when water was let in -/
theorem sp6_share {Post : Mm → Int32 → Prop} {M : Mm} {S : SS} {n m tt : Nat} (hT : TR M 1 S n m tt) (hV : VV S n m tt)
    (h : ∀ M' r, CQ M M' S n m tt → (r = -1000004 ↔ S 6 = 0) → Post M' r) : wX6_share Post M 0 0 := by
  have q := fun r => h M r (CQ_self hT)
  clear h
  refine sp6_isOutside (a := 0) (b := 3) (by decide) (by decide) ⟨fun d => ?_, fun d => absurd (b_sw'.mp d) (by decide)⟩
  have r0 : ∀ j i, 3 ≤ j → j ≤ 7 → i = j + 2 → M (0 + 1) j = S i := fun j i a b c => hT.rd (k := 0) (j := j) (i := i) (Or.inl ⟨rfl, a, b, c⟩)
  rw [r0 4 6 (by omega) (by omega) rfl, r0 5 7 (by omega) (by omega) rfl]
  refine ⟨fun c => ?_, fun c => q _ ⟨fun _ => c, fun _ => rfl⟩⟩
  refine ⟨fun _ => ?_, fun e0 => absurd rfl e0⟩
  obtain ⟨P, W, e1, e2, hPW, hW⟩ := hV.2.2.nat (v := 0) (by omega)
  have e1' : S 7 = nI P := e1
  rw [e1', e2]
  rw [e2] at c
  refine sp6_floatBits hPW (Nat.pos_of_ne_zero (fun z => c (by rw [z]; rfl))) hW (fun v hv => q _ ⟨fun z => ?_, fun z => absurd (by rw [← e2]; exact z) c⟩)
  exfalso
  have h1 : (nI v).toInt = v := nI_toInt (by omega)
  rw [z] at h1
  have h2 : (-1000004 : Int32).toInt = -1000004 := by decide
  omega
