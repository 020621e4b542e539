/-! floats: the nearest one to a ratio of two small whole numbers -/
theorem fb_p : FP.Core.b32.p = 24 := rfl
theorem fb_t : FP.Core.b32.tails = 8388608 := by decide +kernel
theorem fb_e : FP.Core.b32.exps = 256 := by decide +kernel
theorem fb_n : FP.Core.b32.qmin = -149 := by decide +kernel
theorem fb_x : FP.Core.b32.qmax = 104 := by decide +kernel
theorem fb_2 : 2 ^ FP.Core.b32.p = 16777216 := by decide +kernel
theorem pw_cancel {a b k : Nat} : a * 2 ^ k ≤ b * 2 ^ k ↔ a ≤ b := Nat.mul_le_mul_right_iff (Nat.two_pow_pos k)
/-- the leading digit's place -/
theorem fp_lead {A B X Y : Nat} (hA : 0 < A) (hB : 0 < B) (h1 : B * 2 ^ Y ≤ A * 2 ^ X) (h2 : A * 2 ^ X < B * 2 ^ (Y + 1)) : FP.Core.leading A B = (Y : Int) - X := by
  have a1 : 2 ^ A.log2 ≤ A := Nat.log2_self_le (by omega)
  have a2 : A < 2 ^ (A.log2 + 1) := Nat.lt_log2_self
  have b1 : 2 ^ B.log2 ≤ B := Nat.log2_self_le (by omega)
  have b2 : B < 2 ^ (B.log2 + 1) := Nat.lt_log2_self
  unfold FP.Core.leading
  generalize A.log2 = n at a1 a2 ⊢
  generalize B.log2 = d at b1 b2 ⊢
  have l1 : d + Y < n + 1 + X := by
    refine (Nat.pow_lt_pow_iff_right (a := 2) (by omega)).mp ?_
    rw [Nat.pow_add, Nat.pow_add 2 (n + 1)]
    calc 2 ^ d * 2 ^ Y ≤ B * 2 ^ Y := Nat.mul_le_mul_right _ b1
      _ ≤ A * 2 ^ X := h1
      _ < 2 ^ (n + 1) * 2 ^ X := Nat.mul_lt_mul_of_pos_right a2 (Nat.two_pow_pos X)
  have l2 : n + X < d + 1 + (Y + 1) := by
    refine (Nat.pow_lt_pow_iff_right (a := 2) (by omega)).mp ?_
    rw [Nat.pow_add, Nat.pow_add 2 (d + 1)]
    calc 2 ^ n * 2 ^ X ≤ A * 2 ^ X := Nat.mul_le_mul_right _ a1
      _ < B * 2 ^ (Y + 1) := h2
      _ ≤ 2 ^ (d + 1) * 2 ^ (Y + 1) := Nat.mul_le_mul_right _ (Nat.le_of_lt b2)
  -- B * 2 ^ k ≤ A, at k = Y - X or one more
  have key : ∀ Z : Nat, ∀ k : Int, k = (Z : Int) - X → (B * 2 ^ k.toNat ≤ A * 2 ^ (-k).toNat ↔ B * 2 ^ Z ≤ A * 2 ^ X) := by
    intro Z k ek
    rcases Nat.le_total X Z with q | q
    · obtain ⟨j, rfl⟩ : ∃ j, Z = j + X := ⟨Z - X, by omega⟩
      rw [show k.toNat = j by omega, show (-k).toNat = 0 by omega, Nat.pow_zero, Nat.mul_one, Nat.pow_add, ← Nat.mul_assoc, pw_cancel]
    · obtain ⟨j, rfl⟩ : ∃ j, X = j + Z := ⟨X - Z, by omega⟩
      rw [show k.toNat = 0 by omega, show (-k).toNat = j by omega, Nat.pow_zero, Nat.mul_one, Nat.pow_add, ← Nat.mul_assoc, pw_cancel]
  show (if B * 2 ^ ((n : Int) - (d : Int)).toNat ≤ A * 2 ^ (-((n : Int) - (d : Int))).toNat then (n : Int) - (d : Int) else (n : Int) - (d : Int) - 1) = _
  by_cases e : (n : Int) - d = (Y : Int) - X
  · rw [if_pos ((key Y _ e).mpr h1)]; exact e
  · have e' : (n : Int) - d = ((Y + 1 : Nat) : Int) - X := by omega
    rw [if_neg (fun z => by have := (key (Y + 1) _ e').mp z; omega)]
    omega
theorem fp_scale (A B k : Nat) (hk : 0 < k) : FP.Core.nearest (A * k) (B * k) = FP.Core.nearest A B := by
  unfold FP.Core.nearest
  rw [Nat.mul_mod_mul_right, Nat.mul_div_mul_right _ _ hk, ← Nat.mul_assoc]
  have h1 : 2 * (A % B) * k < B * k ↔ 2 * (A % B) < B := Nat.mul_lt_mul_right hk
  have h2 : B * k < 2 * (A % B) * k ↔ B < 2 * (A % B) := Nat.mul_lt_mul_right hk
  simp only [h1, h2]
/-- a ratio, rounded: s digits behind the point -/
theorem fp_round {A B s u v : Nat} {e : Int} (hA : 0 < A) (hB : 0 < B) (he : e = (u : Int) - v) (hs : s ≤ 149) (h1 : B * 2 ^ (v + 23) ≤ A * 2 ^ (u + s)) (h2 : A * 2 ^ (u + s) < B * 2 ^ (v + 24)) :
    FP.Core.roundRatio FP.Core.b32 false A B e = FP.Core.settle FP.Core.b32 false (FP.Core.nearest (A * 2 ^ (u + s)) (B * 2 ^ v)) (-(s : Int)) := by
  have hl := fp_lead hA hB h1 h2
  have hq : FP.Core.quantum FP.Core.b32 A B e = -(s : Int) := by
    unfold FP.Core.quantum
    rw [hl, fb_n, fb_p]
    omega
  unfold FP.Core.roundRatio
  rw [if_neg (by omega), hq]
  unfold FP.Core.roundAt
  congr 1
  unfold FP.Core.unitsNum FP.Core.unitsDen
  have hx : (e - -(s : Int)).toNat + v = (-(s : Int) - e).toNat + (u + s) := by omega
  generalize (e - -(s : Int)).toNat = x at hx
  generalize (-(s : Int) - e).toNat = y at hx
  rw [← fp_scale (A * 2 ^ x) (B * 2 ^ y) (2 ^ v) (Nat.two_pow_pos v), ← fp_scale (A * 2 ^ (u + s)) (B * 2 ^ v) (2 ^ y) (Nat.two_pow_pos y)]
  rw [Nat.mul_assoc, Nat.mul_assoc B, Nat.mul_assoc A, Nat.mul_assoc B, ← Nat.pow_add, ← Nat.pow_add, ← Nat.pow_add, ← Nat.pow_add, hx, Nat.add_comm y v, Nat.add_comm y (u + s)]
/-- a significand, written -/
theorem fp_settle {c s : Nat} (h1 : 8388608 ≤ c) (h2 : c ≤ 16777216) (hs : s ≤ 149) : FP.Core.encode FP.Core.b32 (FP.Core.settle FP.Core.b32 false c (-(s : Int))) = (150 - s) * 8388608 + (c - 8388608) ∧ FP.Core.settle FP.Core.b32 false c (-(s : Int)) ≠ .nan := by
  unfold FP.Core.settle
  rw [fb_2]
  split
  · next h =>
    unfold FP.Core.bound
    rw [fb_x, if_pos (by omega)]
    refine ⟨?_, fun z => by cases z⟩
    show (if c < FP.Core.b32.tails then _ else FP.Core.assemble FP.Core.b32 false ((-(s : Int) - FP.Core.b32.qmin).toNat + 1) (c - FP.Core.b32.tails)) = _
    rw [fb_t, fb_n, if_neg (by omega)]
    unfold FP.Core.assemble
    rw [fb_t, fb_e, show (-(s : Int) - -149).toNat + 1 = 150 - s by omega, show false.toNat = 0 from rfl, Nat.zero_mul, Nat.zero_add]
  · next h =>
    unfold FP.Core.bound
    rw [fb_x, if_pos (by omega)]
    refine ⟨?_, fun z => by cases z⟩
    show (if FP.Core.b32.tails < FP.Core.b32.tails then FP.Core.assemble FP.Core.b32 false 0 FP.Core.b32.tails else FP.Core.assemble FP.Core.b32 false ((-(s : Int) + 1 - FP.Core.b32.qmin).toNat + 1) (FP.Core.b32.tails - FP.Core.b32.tails)) = _
    rw [if_neg (by omega)]
    unfold FP.Core.assemble
    rw [fb_t, fb_e, fb_n, show (-(s : Int) + 1 - -149).toNat + 1 = 150 - s + 1 by omega, show false.toNat = 0 from rfl, Nat.zero_mul, Nat.zero_add]
    omega
theorem fp_decode {E T : Nat} (h1 : 1 ≤ E) (h2 : E ≤ 254) (hT : T < 8388608) : FP.Core.decode FP.Core.b32 (E * 8388608 + T) = .fin false (8388608 + T) ((E : Int) - 150) := by
  have e1 : FP.Core.fieldE FP.Core.b32 (E * 8388608 + T) = E := by
    unfold FP.Core.fieldE; rw [fb_t, fb_e]; omega
  have e2 : FP.Core.fieldT FP.Core.b32 (E * 8388608 + T) = T := by
    unfold FP.Core.fieldT; rw [fb_t]; omega
  have e3 : FP.Core.fieldS FP.Core.b32 (E * 8388608 + T) = false := by
    unfold FP.Core.fieldS; rw [fb_t, fb_e]
    have : (E * 8388608 + T) / 8388608 / 256 % 2 = 0 := by omega
    rw [this]; rfl
  unfold FP.Core.decode
  rw [e1, e2, e3, fb_e, fb_t, fb_n, if_neg (by omega), if_neg (by omega)]
  congr 1
  omega
theorem least {p : Nat → Prop} : ∀ n, p n → ∃ k, k ≤ n ∧ p k ∧ ∀ j, j < k → ¬ p j := by
  intro n
  induction n using Nat.strongRecOn with
  | ind n ih =>
    intro h
    by_cases q : ∃ j, j < n ∧ p j
    · obtain ⟨j, hj, hp⟩ := q
      obtain ⟨k, k1, k2, k3⟩ := ih j hj hp
      exact ⟨k, by omega, k2, k3⟩
    · exact ⟨n, Nat.le_refl _, h, fun j hj z => q ⟨j, hj, z⟩⟩
/-- a whole number as a float: what it stands for -/
theorem fp_i2f {P : Nat} (h0 : 0 < P) (h : P < 4194304) : ∃ s : Nat, s ≤ 23 ∧ FP.Core.decode FP.Core.b32 (FP.i2f (nI P)).toNat = .fin false (P * 2 ^ s) (-(s : Int)) := by
  obtain ⟨s, s1, s2, s3⟩ := least (p := fun j => 8388608 ≤ P * 2 ^ j) 23 (by show 8388608 ≤ P * 8388608; omega)
  refine ⟨s, s1, ?_⟩
  have hup : P * 2 ^ s < 16777216 := by
    rcases Nat.eq_zero_or_pos s with z | z
    · rw [z, Nat.pow_zero, Nat.mul_one]; omega
    · obtain ⟨j, rfl⟩ : ∃ j, s = j + 1 := ⟨s - 1, by omega⟩
      have := s3 j (by omega)
      rw [Nat.pow_succ, ← Nat.mul_assoc]
      omega
  have hr : FP.Core.roundRatio FP.Core.b32 false P 1 0 = FP.Core.settle FP.Core.b32 false (P * 2 ^ s) (-(s : Int)) := by
    have := fp_round (A := P) (B := 1) (s := s) (u := 0) (v := 0) (e := 0) h0 (by omega) (by omega) (by omega) (by rw [Nat.zero_add, Nat.zero_add]; show 1 * 8388608 ≤ _; omega) (by rw [Nat.zero_add, Nat.zero_add]; show _ < 1 * 16777216; omega)
    have hn : FP.Core.nearest (P * 2 ^ s) 1 = P * 2 ^ s := by
      unfold FP.Core.nearest
      rw [Nat.mod_one, Nat.div_one, if_pos (by omega)]
    rw [this, Nat.zero_add, Nat.pow_zero, Nat.mul_one, hn]
  have hv : FP.Core.fromInt FP.Core.b32 (nI P).toInt = (150 - s) * 8388608 + (P * 2 ^ s - 8388608) := by
    rw [nI_toInt (by omega)]
    unfold FP.Core.fromInt FP.Core.ofInt
    have : decide ((P : Int) < 0) = false := decide_eq_false (by omega)
    rw [this, Int.natAbs_natCast]
    show FP.Core.encode FP.Core.b32 (FP.Core.roundRatio FP.Core.b32 false P 1 0) = _
    rw [hr, (fp_settle s2 (by omega) (by omega)).1]
  have ht : (FP.i2f (nI P)).toNat = (150 - s) * 8388608 + (P * 2 ^ s - 8388608) := by
    show (UInt32.ofNat (FP.Core.fromInt FP.Core.b32 (nI P).toInt)).toNat = _
    rw [hv, UInt32.toNat_ofNat_of_lt']
    show _ < 4294967296
    omega
  rw [ht, fp_decode (by omega) (by omega) (by omega), show 8388608 + (P * 2 ^ s - 8388608) = P * 2 ^ s by omega, show ((150 - s : Nat) : Int) - 150 = -(s : Int) by omega]
theorem fp_0 : FP.i2f 0 = 0 := by decide +kernel
theorem fp_d0 : FP.Core.decode FP.Core.b32 0 = .fin false 0 (-149) := by decide +kernel
theorem odd_dvd {f P : Nat} : ∀ k, (2 * f + 1) ∣ P * 2 ^ k → (2 * f + 1) ∣ P := by
  intro k
  induction k with
  | zero => intro h; rw [Nat.pow_zero, Nat.mul_one] at h; exact h
  | succ k ih =>
    rintro ⟨t, ht⟩
    refine ih ?_
    rw [Nat.pow_succ, ← Nat.mul_assoc] at ht
    have e : (2 * f + 1) * t = 2 * (f * t) + t := by rw [Nat.add_mul, Nat.mul_assoc, Nat.one_mul]
    refine ⟨t / 2, ?_⟩
    have e2 : t = 2 * (t / 2) := by omega
    generalize t / 2 = r at e2
    subst e2
    have e3 : (2 * f + 1) * (2 * r) = 2 * ((2 * f + 1) * r) := by rw [Nat.mul_left_comm]
    omega
/-- the significand of a share -/
def shc (P W s : Nat) : Nat := if 2 * (P * 2 ^ s % W) ≤ W then P * 2 ^ s / W else P * 2 ^ s / W + 1
theorem sh_near {P W s : Nat} (h0 : 0 < P) (hP : P < 4194304) (hW : 0 < W) (h1 : W * 8388608 ≤ P * 2 ^ s) : FP.Core.nearest (P * 2 ^ s) W = shc P W s := by
  unfold FP.Core.nearest shc
  have hfl : 8388608 ≤ P * 2 ^ s / W := (Nat.le_div_iff_mul_le hW).mpr (by rw [Nat.mul_comm]; exact h1)
  have hd : W * (P * 2 ^ s / W) + P * 2 ^ s % W = P * 2 ^ s := Nat.div_add_mod _ _
  by_cases a : 2 * (P * 2 ^ s % W) < W
  · rw [if_pos a, if_pos (by omega)]
  · rw [if_neg a]
    by_cases b : W < 2 * (P * 2 ^ s % W)
    · rw [if_pos b, if_neg (by omega)]
    · exfalso
      have e : 2 * (P * 2 ^ s % W) = W := by omega
      have hdv : (2 * (P * 2 ^ s / W) + 1) ∣ P * 2 ^ (s + 1) := by
        refine ⟨W, ?_⟩
        rw [Nat.pow_succ, ← Nat.mul_assoc]
        generalize P * 2 ^ s / W = fl at hd
        have : (2 * fl + 1) * W = 2 * (W * fl) + W := by rw [Nat.add_mul, Nat.one_mul, Nat.mul_assoc, Nat.mul_comm fl]
        omega
      have := Nat.le_of_dvd h0 (odd_dvd _ hdv)
      omega
theorem sh_rng {P W s : Nat} (hW : 0 < W) (h1 : W * 8388608 ≤ P * 2 ^ s) (h2 : P * 2 ^ s < W * 16777216) : 8388608 ≤ shc P W s ∧ shc P W s ≤ 16777216 := by
  have hfl : 8388608 ≤ P * 2 ^ s / W := (Nat.le_div_iff_mul_le hW).mpr (by rw [Nat.mul_comm]; exact h1)
  have hfu : P * 2 ^ s / W < 16777216 := (Nat.div_lt_iff_lt_mul hW).mpr (by rw [Nat.mul_comm 16777216]; exact h2)
  unfold shc
  split <;> omega
/-- the digits behind the point -/
theorem sh_s {P W : Nat} (h0 : 0 < P) (hPW : P ≤ W) (hW : W < 4194304) : ∃ s, 23 ≤ s ∧ s ≤ 45 ∧ W * 8388608 ≤ P * 2 ^ s ∧ P * 2 ^ s < W * 16777216 ∧ ∀ j, 23 ≤ j → j < s → P * 2 ^ j < W * 8388608 := by
  obtain ⟨k, k1, k2, k3⟩ := least (p := fun j => W * 8388608 ≤ P * 2 ^ (23 + j)) 22 (by show W * 8388608 ≤ P * 35184372088832; omega)
  refine ⟨23 + k, by omega, by omega, k2, ?_, fun j j1 j2 => ?_⟩
  · rcases Nat.eq_zero_or_pos k with z | z
    · subst z
      show P * 8388608 < _
      omega
    · obtain ⟨j, rfl⟩ : ∃ j, k = j + 1 := ⟨k - 1, by omega⟩
      have := k3 j (by omega)
      rw [show 23 + (j + 1) = 23 + j + 1 by omega, Nat.pow_succ, ← Nat.mul_assoc]
      omega
  · have := k3 (j - 23) (by omega)
    rw [show 23 + (j - 23) = j by omega] at this
    omega
/-- the quotient of two floats that are whole numbers -/
theorem fp_quot {P W s : Nat} (h0 : 0 < P) (hPW : P ≤ W) (hW : W < 4194304) (hs : s ≤ 45) (h1 : W * 8388608 ≤ P * 2 ^ s) (h2 : P * 2 ^ s < W * 16777216) :
    FP.fdiv (FP.i2f (nI P)) (FP.i2f (nI W)) = UInt32.ofNat ((150 - s) * 8388608 + (shc P W s - 8388608)) := by
  obtain ⟨a, a1, a2⟩ := fp_i2f h0 (by omega)
  obtain ⟨b, b1, b2⟩ := fp_i2f (P := W) (by omega) hW
  have hc := sh_rng (by omega) h1 h2
  show UInt32.ofNat (FP.Core.encode FP.Core.b32 (FP.Core.quotient FP.Core.b32 (FP.Core.decode FP.Core.b32 (FP.i2f (nI P)).toNat) (FP.Core.decode FP.Core.b32 (FP.i2f (nI W)).toNat))) = _
  rw [a2, b2]
  have hP2 : 0 < P * 2 ^ a := Nat.mul_pos h0 (Nat.two_pow_pos a)
  have hW2 : 0 < W * 2 ^ b := Nat.mul_pos (by omega) (Nat.two_pow_pos b)
  have hq : FP.Core.quotient FP.Core.b32 (.fin false (P * 2 ^ a) (-(a : Int))) (.fin false (W * 2 ^ b) (-(b : Int))) = FP.Core.roundRatio FP.Core.b32 false (P * 2 ^ a) (W * 2 ^ b) (-(a : Int) - -(b : Int)) := by
    show (if W * 2 ^ b = 0 then _ else FP.Core.roundRatio FP.Core.b32 (false != false) _ _ _) = _
    rw [if_neg (by omega)]
    rfl
  have e1 : P * 2 ^ a * 2 ^ (b + s) = P * 2 ^ s * 2 ^ (a + b) := by rw [Nat.mul_assoc, Nat.mul_assoc, ← Nat.pow_add, ← Nat.pow_add]; congr 2; omega
  have e2 : ∀ k, W * 2 ^ b * 2 ^ (a + k) = W * 2 ^ k * 2 ^ (a + b) := by intro k; rw [Nat.mul_assoc, Nat.mul_assoc, ← Nat.pow_add, ← Nat.pow_add]; congr 2; omega
  have r := fp_round (A := P * 2 ^ a) (B := W * 2 ^ b) (s := s) (u := b) (v := a) (e := -(a : Int) - -(b : Int)) hP2 hW2 (by omega) (by omega)
    (by rw [e1, e2]; exact Nat.mul_le_mul_right _ h1) (by rw [e1, e2]; exact Nat.mul_lt_mul_of_pos_right h2 (Nat.two_pow_pos _))
  have e3 : W * 2 ^ b * 2 ^ a = W * 2 ^ (a + b) := by rw [Nat.mul_assoc, ← Nat.pow_add, Nat.add_comm]
  rw [hq, r, e1, e3, fp_scale _ _ _ (Nat.two_pow_pos _), sh_near h0 (by omega) (by omega) h1, (fp_settle hc.1 hc.2 (by omega)).1]
theorem fp_quot0 {W : Nat} (h0 : 0 < W) (hW : W < 4194304) : FP.fdiv (FP.i2f 0) (FP.i2f (nI W)) = 0 := by
  obtain ⟨b, b1, b2⟩ := fp_i2f (P := W) h0 hW
  show UInt32.ofNat (FP.Core.encode FP.Core.b32 (FP.Core.quotient FP.Core.b32 (FP.Core.decode FP.Core.b32 (FP.i2f 0).toNat) (FP.Core.decode FP.Core.b32 (FP.i2f (nI W)).toNat))) = _
  rw [b2, fp_0]
  show UInt32.ofNat (FP.Core.encode FP.Core.b32 (FP.Core.quotient FP.Core.b32 (FP.Core.decode FP.Core.b32 0) _)) = _
  rw [fp_d0]
  have hW2 : 0 < W * 2 ^ b := Nat.mul_pos (by omega) (Nat.two_pow_pos b)
  have hq : FP.Core.quotient FP.Core.b32 (.fin false 0 (-149)) (.fin false (W * 2 ^ b) (-(b : Int))) = .fin false 0 (-149) := by
    show (if W * 2 ^ b = 0 then _ else FP.Core.roundRatio FP.Core.b32 (false != false) _ _ _) = _
    rw [if_neg (by omega)]
    unfold FP.Core.roundRatio
    rw [if_pos rfl, fb_n]
    rfl
  rw [hq]
  decide +kernel
/-- a float that is no NaN -/
theorem fp_nn {v : Nat} (h : v < 1100000000) : vf_n32 (UInt32.ofNat v) ∧ Op.cmpValue (FP.fcmp (UInt32.ofNat v) (UInt32.ofNat v)) CmpOp.l = 0 ∧ (UInt32.ofNat v).toInt32 = nI v := by
  have ht : (UInt32.ofNat v).toNat = v := UInt32.toNat_ofNat_of_lt' (by show v < 4294967296; omega)
  refine ⟨?_, ?_, rfl⟩
  · unfold vf_n32
    rw [UInt32.le_iff_toNat_le, UInt32.toNat_and, ht]
    have : v &&& (0x7fffffff : UInt32).toNat ≤ v := Nat.and_le_left
    have e : (0x7f800000 : UInt32).toNat = 2139095040 := rfl
    omega
  · have hd : FP.Core.decode FP.Core.b32 v ≠ .nan := by
      have h1 : FP.Core.fieldE FP.Core.b32 v ≤ 200 := by unfold FP.Core.fieldE; rw [fb_t, fb_e]; omega
      unfold FP.Core.decode
      rw [if_neg (by rw [fb_e]; omega)]
      split
      · intro z; cases z
      · intro z; cases z
    have : FP.fcmp (UInt32.ofNat v) (UInt32.ofNat v) = some .eq := by
      show FP.Core.order (FP.Core.decode FP.Core.b32 (UInt32.ofNat v).toNat) (FP.Core.decode FP.Core.b32 (UInt32.ofNat v).toNat) = _
      rw [ht]
      revert hd
      generalize FP.Core.decode FP.Core.b32 v = D
      intro hd
      cases D with
      | nan => exact absurd rfl hd
      | inf s => show some (compare _ _) = _; rw [Int.instLawfulEqOrd.compare_self]
      | fin s c q => show some (compare _ _) = _; rw [Int.instLawfulEqOrd.compare_self]
    rw [this]
    rfl
