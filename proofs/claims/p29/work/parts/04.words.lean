/-! what each method does, as a predicate transformer over the memory: printed by gen.py out of the bytecode -/
def wX0_become (Post : Mm → Prop) (M : Mm) (j0a : Nat) (j1a : Nat) : Prop :=
  ∀ M1 : Mm, M1 = mu M j0a 0 (M j1a 0) → (∀ M2 : Mm, M2 = mu M1 j0a 1 (M1 j1a 1) → (∀ M3 : Mm, M3 = mcp M2 (j1a + 1) (j0a + 1) 8 → (∀ M4 : Mm, M4 = mcp M3 (j1a + 2) (j0a + 2) 8 → (∀ M5 : Mm, M5 = mcp M4 (j1a + 3) (j0a + 3) 8 → (∀ M6 : Mm, M6 = mcp M5 (j1a + 4) (j0a + 4) 8 → (∀ M7 : Mm, M7 = mcp M6 (j1a + 5) (j0a + 5) 8 → (∀ M8 : Mm, M8 = mcp M7 (j1a + 6) (j0a + 6) 8 → (∀ M9 : Mm, M9 = mcp M8 (j1a + 7) (j0a + 7) 8 → (∀ M10 : Mm, M10 = mcp M9 (j1a + 8) (j0a + 8) 8 → (Post M10))))))))))
abbrev rX0_become : Room := ({ frames := 1, cells := 0, slots := 0, locals := 60 } : Room)
def wX0_has (Post : Mm → Int32 → Prop) (M : Mm) (j0a : Nat) (x1a : Int32) : Prop :=
  ((x1a < 0 → Post M (0 : Int32)) ∧
  (¬ x1a < 0 → (((M j0a 0) ≤ x1a → Post M (0 : Int32)) ∧
  (¬ (M j0a 0) ≤ x1a → Post M (1 : Int32)))))
abbrev rX0_has : Room := ({ frames := 0, cells := 0, slots := 0, locals := 0 } : Room)
def wX0_hasGate (Post : Mm → Int32 → Prop) (M : Mm) (j0a : Nat) (x1a : Int32) : Prop :=
  ((x1a ≤ 0 → Post M (0 : Int32)) ∧
  (¬ x1a ≤ 0 → (((M j0a 0) ≤ x1a → Post M (0 : Int32)) ∧
  (¬ (M j0a 0) ≤ x1a → Post M (1 : Int32)))))
abbrev rX0_hasGate : Room := ({ frames := 0, cells := 0, slots := 0, locals := 0 } : Room)
def wX0_allGates (Post : Mm → Int32 → Prop) (M : Mm) (j0a : Nat) : Prop :=
  Post M (((1 : Int32) <<< ((M j0a 0) &&& 31)) - (2 : Int32))
abbrev rX0_allGates : Room := ({ frames := 0, cells := 0, slots := 0, locals := 0 } : Room)
def wX0_areGates (Post : Mm → Int32 → Prop) (M : Mm) (j0a : Nat) (x1a : Int32) : Prop :=
  wX0_allGates (fun M1 r2 => ((¬ (x1a &&& (r2 ^^^ (-1 : Int32))) = 0 → Post M1 (0 : Int32)) ∧
  ((x1a &&& (r2 ^^^ (-1 : Int32))) = 0 → Post M1 (1 : Int32)))) M j0a
abbrev rX0_areGates : Room := ({ frames := 1, cells := 0, slots := 0, locals := 20 } : Room)
def wX0_add (Post : Mm → Int32 → Prop) (M : Mm) (j0a : Nat) (x1a : Int32) (x2a : Int32) (x3a : Int32) (x4a : Int32) : Prop :=
  ∀ x5_1 : Int32, x5_1 = (M j0a 0) → (vp_in x5_1 8 ∧ (∀ M2 : Mm, M2 = mu M (j0a + 1) (ix x5_1) x1a → (vp_in x5_1 8 ∧ (∀ M3 : Mm, M3 = mu M2 (j0a + 2) (ix x5_1) x2a → (vp_in x5_1 8 ∧ (∀ M4 : Mm, M4 = mu M3 (j0a + 3) (ix x5_1) x3a → (vp_in x5_1 8 ∧ (∀ M5 : Mm, M5 = mu M4 (j0a + 4) (ix x5_1) x4a → (∀ M6 : Mm, M6 = mu M5 j0a 0 ((M5 j0a 0) + (1 : Int32)) → (Post M6 x5_1))))))))))
abbrev rX0_add : Room := ({ frames := 0, cells := 0, slots := 0, locals := 0 } : Room)
def wX0_isOpen (Post : Mm → Int32 → Prop) (M : Mm) (j0a : Nat) (x1a : Int32) : Prop :=
  ((((M j0a 1) &&& ((1 : Int32) <<< (x1a &&& 31))) = 0 → Post M (0 : Int32)) ∧
  (¬ ((M j0a 1) &&& ((1 : Int32) <<< (x1a &&& 31))) = 0 → Post M (1 : Int32)))
abbrev rX0_isOpen : Room := ({ frames := 0, cells := 0, slots := 0, locals := 0 } : Room)
def wX0_isTended (Post : Mm → Int32 → Prop) (M : Mm) (j0a : Nat) (x1a : Int32) : Prop :=
  vp_in x1a 8 ∧ ((((M (j0a + 5) (ix x1a)) = (-1 : Int32) → Post M (0 : Int32)) ∧
  (¬ (M (j0a + 5) (ix x1a)) = (-1 : Int32) → Post M (1 : Int32))))
abbrev rX0_isTended : Room := ({ frames := 0, cells := 0, slots := 0, locals := 0 } : Room)
def wX0_canBeOpened (Post : Mm → Int32 → Prop) (M : Mm) (j0a : Nat) (x1a : Int32) : Prop :=
  wX0_isTended (fun M1 r2 => ((r2 = 0 → Post M1 (0 : Int32)) ∧
  (¬ r2 = 0 → wX0_isOpen (fun M4 r5 => ((¬ r5 = 0 → Post M4 (0 : Int32)) ∧
  (r5 = 0 → Post M4 (1 : Int32)))) M1 j0a x1a))) M j0a x1a
abbrev rX0_canBeOpened : Room := ({ frames := 1, cells := 0, slots := 0, locals := 21 } : Room)
def wX0_flipGate (Post : Mm → Int32 → Prop) (M : Mm) (j0a : Nat) (x1a : Int32) : Prop :=
  ∀ M1 : Mm, M1 = mu M j0a 1 ((M j0a 1) ^^^ ((1 : Int32) <<< (x1a &&& 31))) → (Post M1 (M1 j0a 1))
abbrev rX0_flipGate : Room := ({ frames := 0, cells := 0, slots := 0, locals := 0 } : Room)
def bX0_tended_4 (Post : Mm → Int32 → Prop) (A4 : Mm → Nat → Int32 → Int32 → Prop) (M : Mm) (j0 : Nat) (x1 : Int32) (x2 : Int32) : Prop :=
  (((M j0 0) ≤ x2 → Post M x1) ∧
  (¬ (M j0 0) ≤ x2 → wX0_isTended (fun M3 r4 => ((r4 = 0 → ∀ x2_6 : Int32, x2_6 = x2 + (1 : Int32) → (A4 M3 j0 x1 x2_6)) ∧
  (¬ r4 = 0 → ∀ x1_7 : Int32, x1_7 = (x1 ||| ((1 : Int32) <<< (x2 &&& 31))) → (∀ x2_8 : Int32, x2_8 = x2 + (1 : Int32) → (A4 M3 j0 x1_7 x2_8))))) M j0 x2))
def lX0_tended_4 (Post : Mm → Int32 → Prop) : Nat → Mm → Nat → Int32 → Int32 → Prop
  | 0 => fun _ _ _ _ => False
  | n + 1 => fun M j0 x1 x2 => bX0_tended_4 Post (lX0_tended_4 Post n) M j0 x1 x2
def wX0_tended (Post : Mm → Int32 → Prop) (M : Mm) (j0a : Nat) : Prop :=
  (∃ n1 : Nat, lX0_tended_4 Post n1 M j0a (0 : Int32) (1 : Int32))
abbrev rX0_tended : Room := ({ frames := 1, cells := 0, slots := 0, locals := 21 } : Room)
def bX0_gatesOf_4 (Post : Mm → Int32 → Prop) (A4 : Mm → Nat → Int32 → Int32 → Int32 → Prop) (M : Mm) (j0 : Nat) (x1 : Int32) (x2 : Int32) (x3 : Int32) : Prop :=
  (((M j0 0) ≤ x3 → Post M x2) ∧
  (¬ (M j0 0) ≤ x3 → vp_in x3 8 ∧ (((¬ (M (j0 + 5) (ix x3)) = x1 → ∀ x3_4 : Int32, x3_4 = x3 + (1 : Int32) → (A4 M j0 x1 x2 x3_4)) ∧
  ((M (j0 + 5) (ix x3)) = x1 → ∀ x2_5 : Int32, x2_5 = x2 + (1 : Int32) → (∀ x3_6 : Int32, x3_6 = x3 + (1 : Int32) → (A4 M j0 x1 x2_5 x3_6)))))))
def lX0_gatesOf_4 (Post : Mm → Int32 → Prop) : Nat → Mm → Nat → Int32 → Int32 → Int32 → Prop
  | 0 => fun _ _ _ _ _ => False
  | n + 1 => fun M j0 x1 x2 x3 => bX0_gatesOf_4 Post (lX0_gatesOf_4 Post n) M j0 x1 x2 x3
def wX0_gatesOf (Post : Mm → Int32 → Prop) (M : Mm) (j0a : Nat) (x1a : Int32) : Prop :=
  (∃ n1 : Nat, lX0_gatesOf_4 Post n1 M j0a x1a (0 : Int32) (1 : Int32))
abbrev rX0_gatesOf : Room := ({ frames := 0, cells := 0, slots := 0, locals := 0 } : Room)
def bX0_below_8 (Post : Mm → Int32 → Prop) (A8 : Mm → Nat → Int32 → Int32 → Int32 → Prop) (M : Mm) (j0 : Nat) (x1 : Int32) (x2 : Int32) (x3 : Int32) : Prop :=
  (((M j0 0) ≤ x3 → Post M (x2 &&& (((1 : Int32) <<< (x1 &&& 31)) ^^^ (-1 : Int32)))) ∧
  (¬ (M j0 0) ≤ x3 → vp_in x3 8 ∧ ((((x2 &&& ((1 : Int32) <<< ((M (j0 + 1) (ix x3)) &&& 31))) = 0 → ∀ x3_6 : Int32, x3_6 = x3 + (1 : Int32) → (A8 M j0 x1 x2 x3_6)) ∧
  (¬ (x2 &&& ((1 : Int32) <<< ((M (j0 + 1) (ix x3)) &&& 31))) = 0 → ∀ x2_7 : Int32, x2_7 = (x2 ||| ((1 : Int32) <<< (x3 &&& 31))) → (∀ x3_8 : Int32, x3_8 = x3 + (1 : Int32) → (A8 M j0 x1 x2_7 x3_8)))))))
def lX0_below_8 (Post : Mm → Int32 → Prop) : Nat → Mm → Nat → Int32 → Int32 → Int32 → Prop
  | 0 => fun _ _ _ _ _ => False
  | n + 1 => fun M j0 x1 x2 x3 => bX0_below_8 Post (lX0_below_8 Post n) M j0 x1 x2 x3
def wX0_below (Post : Mm → Int32 → Prop) (M : Mm) (j0a : Nat) (x1a : Int32) : Prop :=
  ∀ x2_1 : Int32, x2_1 = ((1 : Int32) <<< (x1a &&& 31)) → (∀ x3_2 : Int32, x3_2 = (x1a + (1 : Int32)) → ((∃ n3 : Nat, lX0_below_8 Post n3 M j0a x1a x2_1 x3_2)))
abbrev rX0_below : Room := ({ frames := 0, cells := 0, slots := 0, locals := 0 } : Room)
def wX1_become (Post : Mm → Prop) (M : Mm) (j0a : Nat) (j1a : Nat) : Prop :=
  ∀ M1 : Mm, M1 = mu M j0a 0 (M j1a 0) → (∀ M2 : Mm, M2 = mu M1 j0a 1 (M1 j1a 1) → (∀ M3 : Mm, M3 = mcp M2 (j1a + 1) (j0a + 1) 10 → (∀ M4 : Mm, M4 = mcp M3 (j1a + 2) (j0a + 2) 10 → (∀ M5 : Mm, M5 = mcp M4 (j1a + 3) (j0a + 3) 10 → (∀ M6 : Mm, M6 = mcp M5 (j1a + 4) (j0a + 4) 10 → (∀ M7 : Mm, M7 = mcp M6 (j1a + 5) (j0a + 5) 10 → (∀ M8 : Mm, M8 = mcp M7 (j1a + 6) (j0a + 6) 10 → (∀ M9 : Mm, M9 = mcp M8 (j1a + 7) (j0a + 7) 10 → (Post M9)))))))))
abbrev rX1_become : Room := ({ frames := 1, cells := 0, slots := 0, locals := 60 } : Room)
def wX1_has (Post : Mm → Int32 → Prop) (M : Mm) (j0a : Nat) (x1a : Int32) : Prop :=
  ((x1a < 0 → Post M (0 : Int32)) ∧
  (¬ x1a < 0 → (((M j0a 0) ≤ x1a → Post M (0 : Int32)) ∧
  (¬ (M j0a 0) ≤ x1a → Post M (1 : Int32)))))
abbrev rX1_has : Room := ({ frames := 0, cells := 0, slots := 0, locals := 0 } : Room)
def bX1_add_91 (Post : Mm → Int32 → Prop) (M : Mm) (j0 : Nat) (x5 : Int32) (x6 : Int32) : Prop :=
  vp_in x6 10 ∧ (∀ M12 : Mm, M12 = mu M (j0 + 7) (ix x6) x5 → (∀ M13 : Mm, M13 = mu M12 j0 0 ((M12 j0 0) + (1 : Int32)) → (Post M13 x5)))
def bX1_add_45 (Post : Mm → Int32 → Prop) (A45 : Mm → Nat → Int32 → Int32 → Int32 → Prop) (M : Mm) (j0 : Nat) (x4 : Int32) (x5 : Int32) (x6 : Int32) : Prop :=
  ((x6 ≤ 0 → bX1_add_91 Post M j0 x5 x6) ∧
  (¬ x6 ≤ 0 → vp_in (x6 - (1 : Int32)) 10 ∧ (vp_in (M (j0 + 7) (ix (x6 - (1 : Int32)))) 10 ∧ ((((M (j0 + 4) (ix (M (j0 + 7) (ix (x6 - (1 : Int32)))))) ≤ x4 → bX1_add_91 Post M j0 x5 x6) ∧
  (¬ (M (j0 + 4) (ix (M (j0 + 7) (ix (x6 - (1 : Int32)))))) ≤ x4 → vp_in (x6 - (1 : Int32)) 10 ∧ (vp_in x6 10 ∧ (∀ M10 : Mm, M10 = mu M (j0 + 7) (ix x6) (M (j0 + 7) (ix (x6 - (1 : Int32)))) → (∀ x6_11 : Int32, x6_11 = x6 + (-1 : Int32) → (A45 M10 j0 x4 x5 x6_11))))))))))
def lX1_add_45 (Post : Mm → Int32 → Prop) : Nat → Mm → Nat → Int32 → Int32 → Int32 → Prop
  | 0 => fun _ _ _ _ _ => False
  | n + 1 => fun M j0 x4 x5 x6 => bX1_add_45 Post (lX1_add_45 Post n) M j0 x4 x5 x6
def wX1_add (Post : Mm → Int32 → Prop) (M : Mm) (j0a : Nat) (x1a : Int32) (x2a : Int32) (x3a : Int32) (x4a : Int32) : Prop :=
  ∀ x5_1 : Int32, x5_1 = (M j0a 0) → (vp_in x5_1 10 ∧ (∀ M2 : Mm, M2 = mu M (j0a + 1) (ix x5_1) x1a → (vp_in x5_1 10 ∧ (∀ M3 : Mm, M3 = mu M2 (j0a + 2) (ix x5_1) x2a → (vp_in x5_1 10 ∧ (∀ M4 : Mm, M4 = mu M3 (j0a + 3) (ix x5_1) x3a → (vp_in x5_1 10 ∧ (∀ M5 : Mm, M5 = mu M4 (j0a + 4) (ix x5_1) x4a → (∀ x6_6 : Int32, x6_6 = (M5 j0a 0) → ((∃ n7 : Nat, lX1_add_45 Post n7 M5 j0a x4a x5_1 x6_6)))))))))))
abbrev rX1_add : Room := ({ frames := 0, cells := 0, slots := 0, locals := 0 } : Room)
def wX1_wants (Post : Mm → Int32 → Prop) (M : Mm) (j0a : Nat) (x1a : Int32) : Prop :=
  vp_in x1a 10 ∧ (vp_in x1a 10 ∧ ((((M (j0a + 2) (ix x1a)) ≤ (M (j0a + 5) (ix x1a)) → Post M (0 : Int32)) ∧
  (¬ (M (j0a + 2) (ix x1a)) ≤ (M (j0a + 5) (ix x1a)) → Post M (1 : Int32)))))
abbrev rX1_wants : Room := ({ frames := 0, cells := 0, slots := 0, locals := 0 } : Room)
def bX1_wanting_4 (Post : Mm → Int32 → Prop) (A4 : Mm → Nat → Int32 → Int32 → Prop) (M : Mm) (j0 : Nat) (x1 : Int32) (x2 : Int32) : Prop :=
  (((M j0 0) ≤ x2 → Post M x1) ∧
  (¬ (M j0 0) ≤ x2 → wX1_wants (fun M3 r4 => ((r4 = 0 → ∀ x2_6 : Int32, x2_6 = x2 + (1 : Int32) → (A4 M3 j0 x1 x2_6)) ∧
  (¬ r4 = 0 → ∀ x1_7 : Int32, x1_7 = (x1 ||| ((1 : Int32) <<< (x2 &&& 31))) → (∀ x2_8 : Int32, x2_8 = x2 + (1 : Int32) → (A4 M3 j0 x1_7 x2_8))))) M j0 x2))
def lX1_wanting_4 (Post : Mm → Int32 → Prop) : Nat → Mm → Nat → Int32 → Int32 → Prop
  | 0 => fun _ _ _ _ => False
  | n + 1 => fun M j0 x1 x2 => bX1_wanting_4 Post (lX1_wanting_4 Post n) M j0 x1 x2
def wX1_wanting (Post : Mm → Int32 → Prop) (M : Mm) (j0a : Nat) : Prop :=
  (∃ n1 : Nat, lX1_wanting_4 Post n1 M j0a (0 : Int32) (0 : Int32))
abbrev rX1_wanting : Room := ({ frames := 1, cells := 0, slots := 0, locals := 21 } : Room)
def wX1_calls (Post : Mm → Int32 → Prop) (M : Mm) (j0a : Nat) (x1a : Int32) : Prop :=
  ((((M j0a 1) &&& ((1 : Int32) <<< (x1a &&& 31))) = 0 → Post M (0 : Int32)) ∧
  (¬ ((M j0a 1) &&& ((1 : Int32) <<< (x1a &&& 31))) = 0 → Post M (1 : Int32)))
abbrev rX1_calls : Room := ({ frames := 0, cells := 0, slots := 0, locals := 0 } : Room)
def wX1_canCall (Post : Mm → Int32 → Prop) (M : Mm) (j0a : Nat) (x1a : Int32) : Prop :=
  wX1_wants (fun M1 r2 => ((r2 = 0 → Post M1 (0 : Int32)) ∧
  (¬ r2 = 0 → wX1_calls (fun M4 r5 => ((¬ r5 = 0 → Post M4 (0 : Int32)) ∧
  (r5 = 0 → Post M4 (1 : Int32)))) M1 j0a x1a))) M j0a x1a
abbrev rX1_canCall : Room := ({ frames := 1, cells := 0, slots := 0, locals := 21 } : Room)
def wJ6_bitCount_0f7a4 (Post : Mm → Int32 → Prop) (M : Mm) (x0a : Int32) : Prop :=
  ∀ x0_1 : Int32, x0_1 = (x0a - (((x0a.toUInt32 >>> ((1 : Int32).toUInt32 &&& Int32.toUInt32 31)).toInt32) &&& (1431655765 : Int32))) → (∀ x0_2 : Int32, x0_2 = ((x0_1 &&& (858993459 : Int32)) + (((x0_1.toUInt32 >>> ((2 : Int32).toUInt32 &&& Int32.toUInt32 31)).toInt32) &&& (858993459 : Int32))) → (∀ x0_3 : Int32, x0_3 = ((x0_2 + ((x0_2.toUInt32 >>> ((4 : Int32).toUInt32 &&& Int32.toUInt32 31)).toInt32)) &&& (252645135 : Int32)) → (∀ x0_4 : Int32, x0_4 = (x0_3 + ((x0_3.toUInt32 >>> ((8 : Int32).toUInt32 &&& Int32.toUInt32 31)).toInt32)) → (∀ x0_5 : Int32, x0_5 = (x0_4 + ((x0_4.toUInt32 >>> ((16 : Int32).toUInt32 &&& Int32.toUInt32 31)).toInt32)) → (Post M (x0_5 &&& (63 : Int32)))))))
abbrev rJ6_bitCount_0f7a4 : Room := ({ frames := 0, cells := 0, slots := 0, locals := 0 } : Room)
def wX1_beginCall (Post : Mm → Int32 → Prop) (M : Mm) (j0a : Nat) (x1a : Int32) : Prop :=
  ∀ M1 : Mm, M1 = mu M j0a 1 ((M j0a 1) ||| ((1 : Int32) <<< (x1a &&& 31))) → (wJ6_bitCount_0f7a4 (fun M2 r3 => Post M2 r3) M1 (M1 j0a 1))
abbrev rX1_beginCall : Room := ({ frames := 1, cells := 0, slots := 0, locals := 20 } : Room)
def wX1_give (Post : Mm → Int32 → Prop) (M : Mm) (j0a : Nat) (x1a : Int32) (x2a : Int32) (x3a : Int32) : Prop :=
  vp_in x1a 10 ∧ (vp_in x1a 10 ∧ (vp_in x1a 10 ∧ (∀ x4_1 : Int32, x4_1 = (imn x2a (imn (M (j0a + 3) (ix x1a)) ((M (j0a + 2) (ix x1a)) - (M (j0a + 5) (ix x1a))))) → (vp_in x1a 10 ∧ (vp_in x1a 10 ∧ (∀ M2 : Mm, M2 = mu M (j0a + 5) (ix x1a) ((M (j0a + 5) (ix x1a)) + x4_1) → (vp_in x1a 10 ∧ (vp_in x1a 10 ∧ ((((M2 (j0a + 5) (ix x1a)) < (M2 (j0a + 2) (ix x1a)) → Post M2 x4_1) ∧
  (¬ (M2 (j0a + 5) (ix x1a)) < (M2 (j0a + 2) (ix x1a)) → vp_in x1a 10 ∧ (∀ M4 : Mm, M4 = mu M2 (j0a + 6) (ix x1a) x3a → (Post M4 x4_1)))))))))))))
abbrev rX1_give : Room := ({ frames := 1, cells := 0, slots := 0, locals := 30 } : Room)
def bX2_dropOldest_9 (Post : Mm → Prop) (A9 : Mm → Nat → Nat → Int32 → Prop) (M : Mm) (j0 : Nat) (j1 : Nat) (x2 : Int32) : Prop :=
  (((4 : Int32) ≤ x2 → ∀ M4 : Mm, M4 = mu M (j0 + 1) 3 (nI j1) → (∀ M5 : Mm, M5 = mu M4 j0 0 (3 : Int32) → (Post M5))) ∧
  (¬ (4 : Int32) ≤ x2 → vp_in x2 4 ∧ (kd (ix (M (j0 + 1) (ix x2))) = 4 ∧ (vp_in (x2 - (1 : Int32)) 4 ∧ (∀ M7 : Mm, M7 = mu M (j0 + 1) (ix (x2 - (1 : Int32))) (nI (ix (M (j0 + 1) (ix x2)))) → (∀ x2_8 : Int32, x2_8 = x2 + (1 : Int32) → (A9 M7 j0 j1 x2_8)))))))
def lX2_dropOldest_9 (Post : Mm → Prop) : Nat → Mm → Nat → Nat → Int32 → Prop
  | 0 => fun _ _ _ _ => False
  | n + 1 => fun M j0 j1 x2 => bX2_dropOldest_9 Post (lX2_dropOldest_9 Post n) M j0 j1 x2
def wX2_dropOldest (Post : Mm → Prop) (M : Mm) (j0a : Nat) : Prop :=
  kd (ix (M (j0a + 1) 0)) = 4 ∧ ((∃ n2 : Nat, lX2_dropOldest_9 Post n2 M j0a (ix (M (j0a + 1) 0)) (1 : Int32)))
abbrev rX2_dropOldest : Room := ({ frames := 0, cells := 0, slots := 0, locals := 0 } : Room)
def wX5_become (Post : Mm → Prop) (M : Mm) (j0a : Nat) (j1a : Nat) : Prop :=
  ∀ M1 : Mm, M1 = mu M j0a 0 (M j1a 0) → (∀ M2 : Mm, M2 = mu M1 j0a 1 (M1 j1a 1) → (∀ M3 : Mm, M3 = mu M2 j0a 2 (M2 j1a 2) → (∀ M4 : Mm, M4 = mcp M3 (j1a + 1) (j0a + 1) 8 → (∀ M5 : Mm, M5 = mcp M4 (j1a + 2) (j0a + 2) 8 → (Post M5)))))
abbrev rX5_become : Room := ({ frames := 1, cells := 0, slots := 0, locals := 60 } : Room)
def wX4_become (Post : Mm → Prop) (M : Mm) (j0a : Nat) (j1a : Nat) : Prop :=
  wX0_become (fun M1 => wX1_become (fun M3 => wX5_become (fun M5 => ∀ M7 : Mm, M7 = mu M5 j0a 3 (M5 j1a 3) → (∀ M8 : Mm, M8 = mu M7 j0a 4 (M7 j1a 4) → (∀ M9 : Mm, M9 = mu M8 j0a 5 (M8 j1a 5) → (∀ M10 : Mm, M10 = mu M9 j0a 6 (M9 j1a 6) → (∀ M11 : Mm, M11 = mu M10 j0a 7 (M10 j1a 7) → (Post M11)))))) M3 (j0a + 18) (j1a + 18)) M1 (j0a + 10) (j1a + 10)) M (j0a + 1) (j1a + 1)
abbrev rX4_become : Room := ({ frames := 2, cells := 0, slots := 0, locals := 81 } : Room)
def bX2_record_12 (Post : Mm → Prop) (M : Mm) (j0 : Nat) (j1 : Nat) : Prop :=
  vp_in (M j0 0) 4 ∧ (kd (ix (M (j0 + 1) (ix (M j0 0)))) = 4 ∧ (wX4_become (fun M5 => ∀ M7 : Mm, M7 = mu M5 j0 0 ((M5 j0 0) + (1 : Int32)) → (Post M7)) M (ix (M (j0 + 1) (ix (M j0 0)))) j1))
def wX2_record (Post : Mm → Prop) (M : Mm) (j0a : Nat) (j1a : Nat) : Prop :=
  (((M j0a 0) < (4 : Int32) → bX2_record_12 Post M j0a j1a) ∧
  (¬ (M j0a 0) < (4 : Int32) → wX2_dropOldest (fun M2 => bX2_record_12 Post M2 j0a j1a) M j0a))
abbrev rX2_record : Room := ({ frames := 3, cells := 0, slots := 0, locals := 102 } : Room)
def wX2_restoreLatest (Post : Mm → Int32 → Prop) (M : Mm) (j0a : Nat) (j1a : Nat) : Prop :=
  (((M j0a 0) ≤ 0 → Post M (M j0a 0)) ∧
  (¬ (M j0a 0) ≤ 0 → ∀ M2 : Mm, M2 = mu M j0a 0 ((M j0a 0) - (1 : Int32)) → (vp_in (M2 j0a 0) 4 ∧ (kd (ix (M2 (j0a + 1) (ix (M2 j0a 0)))) = 4 ∧ (wX4_become (fun M4 => Post M4 (M4 j0a 0)) M2 j1a (ix (M2 (j0a + 1) (ix (M2 j0a 0)))))))))
abbrev rX2_restoreLatest : Room := ({ frames := 3, cells := 0, slots := 0, locals := 102 } : Room)
def wX4_hasHoursLeft (Post : Mm → Int32 → Prop) (M : Mm) (j0a : Nat) (x1a : Int32) : Prop :=
  ((((20000 : Int32) - (M j0a 3)) < x1a → Post M (0 : Int32)) ∧
  (¬ ((20000 : Int32) - (M j0a 3)) < x1a → Post M (1 : Int32)))
abbrev rX4_hasHoursLeft : Room := ({ frames := 0, cells := 0, slots := 0, locals := 0 } : Room)
def wX5_gatesInNextHour (Post : Mm → Int32 → Prop) (M : Mm) (j0a : Nat) (x1a : Int32) : Prop :=
  (((M j0a 0) ≤ 0 → Post M x1a) ∧
  (¬ (M j0a 0) ≤ 0 → ((¬ (M j0a 2) = 0 → Post M x1a) ∧
  ((M j0a 2) = 0 → vp_in (M j0a 1) 8 ∧ (Post M (M (j0a + 1) (ix (M j0a 1))))))))
abbrev rX5_gatesInNextHour : Room := ({ frames := 0, cells := 0, slots := 0, locals := 0 } : Room)
def bJ7_fill_53178_5 (Post : Mm → Prop) (A5 : Mm → Nat → Int32 → Int32 → Int32 → Prop) (M : Mm) (j0 : Nat) (x1 : Int32) (x2 : Int32) (x3 : Int32) : Prop :=
  ((x3 ≤ x2 → Post M) ∧
  (¬ x3 ≤ x2 → vp_in x2 8 ∧ (∀ M3 : Mm, M3 = mu M j0 (ix x2) x1 → (∀ x2_4 : Int32, x2_4 = x2 + (1 : Int32) → (A5 M3 j0 x1 x2_4 x3)))))
def lJ7_fill_53178_5 (Post : Mm → Prop) : Nat → Mm → Nat → Int32 → Int32 → Int32 → Prop
  | 0 => fun _ _ _ _ _ => False
  | n + 1 => fun M j0 x1 x2 x3 => bJ7_fill_53178_5 Post (lJ7_fill_53178_5 Post n) M j0 x1 x2 x3
def wJ7_fill_53178 (Post : Mm → Prop) (M : Mm) (j0a : Nat) (x1a : Int32) : Prop :=
  (∃ n1 : Nat, lJ7_fill_53178_5 Post n1 M j0a x1a (0 : Int32) (8 : Int32))
abbrev rJ7_fill_53178 : Room := ({ frames := 0, cells := 0, slots := 0, locals := 0 } : Room)
def bX4_findCallsBelow_92 (Post : Mm → Prop) (A92 : Mm → Nat → Int32 → Prop) (M : Mm) (j0 : Nat) (x1 : Int32) : Prop :=
  ((x1 ≤ 0 → Post M) ∧
  (¬ x1 ≤ 0 → wX0_isOpen (fun M17 r18 => ((r18 = 0 → ∀ x1_20 : Int32, x1_20 = x1 + (-1 : Int32) → (A92 M17 j0 x1_20)) ∧
  (¬ r18 = 0 → vp_in x1 8 ∧ (∀ x2_21 : Int32, x2_21 = (M17 ((j0 + 1) + 1) (ix x1)) → (vp_in x2_21 8 ∧ (vp_in x1 8 ∧ (vp_in x1 8 ∧ (vp_in x2_21 8 ∧ (∀ M22 : Mm, M22 = mu M17 (j0 + 22) (ix x2_21) (imn (M17 (j0 + 22) (ix x2_21)) (imn (M17 (j0 + 21) (ix x1)) (M17 (j0 + 22) (ix x1)))) → (∀ x1_23 : Int32, x1_23 = x1 + (-1 : Int32) → (A92 M22 j0 x1_23))))))))))) M (j0 + 1) x1))
def lX4_findCallsBelow_92 (Post : Mm → Prop) : Nat → Mm → Nat → Int32 → Prop
  | 0 => fun _ _ _ => False
  | n + 1 => fun M j0 x1 => bX4_findCallsBelow_92 Post (lX4_findCallsBelow_92 Post n) M j0 x1
def bX4_findCallsBelow_20 (Post : Mm → Prop) (A20 : Mm → Nat → Int32 → Prop) (M : Mm) (j0 : Nat) (x1 : Int32) : Prop :=
  (((M (j0 + 10) 0) ≤ x1 → ∀ x1_7 : Int32, x1_7 = ((M (j0 + 1) 0) - (1 : Int32)) → ((∃ n8 : Nat, lX4_findCallsBelow_92 Post n8 M j0 x1_7))) ∧
  (¬ (M (j0 + 10) 0) ≤ x1 → wX1_calls (fun M9 r10 => ((r10 = 0 → ∀ x1_12 : Int32, x1_12 = x1 + (1 : Int32) → (A20 M9 j0 x1_12)) ∧
  (¬ r10 = 0 → vp_in x1 10 ∧ (∀ x2_13 : Int32, x2_13 = (M9 ((j0 + 10) + 1) (ix x1)) → (vp_in x2_13 8 ∧ (vp_in x1 10 ∧ (vp_in x2_13 8 ∧ (∀ M14 : Mm, M14 = mu M9 (j0 + 21) (ix x2_13) (imn (M9 (j0 + 21) (ix x2_13)) (M9 ((j0 + 10) + 4) (ix x1))) → (∀ x1_15 : Int32, x1_15 = x1 + (1 : Int32) → (A20 M14 j0 x1_15)))))))))) M (j0 + 10) x1))
def lX4_findCallsBelow_20 (Post : Mm → Prop) : Nat → Mm → Nat → Int32 → Prop
  | 0 => fun _ _ _ => False
  | n + 1 => fun M j0 x1 => bX4_findCallsBelow_20 Post (lX4_findCallsBelow_20 Post n) M j0 x1
def wX4_findCallsBelow (Post : Mm → Prop) (M : Mm) (j0a : Nat) : Prop :=
  wJ7_fill_53178 (fun M1 => wJ7_fill_53178 (fun M3 => (∃ n5 : Nat, lX4_findCallsBelow_20 Post n5 M3 j0a (0 : Int32))) M1 (j0a + 22) (100 : Int32)) M (j0a + 21) (100 : Int32)
abbrev rX4_findCallsBelow : Room := ({ frames := 1, cells := 0, slots := 0, locals := 30 } : Room)
def bX4_findPassingGates_125 (Post : Mm → Prop) (A61 : Mm → Nat → Int32 → Int32 → Prop) (M : Mm) (j0 : Nat) (x1 : Int32) (x2 : Int32) : Prop :=
  ∀ M23 : Mm, M23 = mu M j0 10 ((M j0 10) ||| ((1 : Int32) <<< (x2 &&& 31))) → (∀ x2_24 : Int32, x2_24 = x2 + (-1 : Int32) → (A61 M23 j0 x1 x2_24))
def bX4_findPassingGates_97 (Post : Mm → Prop) (A61 : Mm → Nat → Int32 → Int32 → Prop) (M : Mm) (j0 : Nat) (x1 : Int32) (x2 : Int32) (x3 : Int32) : Prop :=
  wX0_isOpen (fun M16 r17 => ((r17 = 0 → ∀ x2_19 : Int32, x2_19 = x2 + (-1 : Int32) → (A61 M16 j0 x1 x2_19)) ∧
  (¬ r17 = 0 → vp_in x2 8 ∧ (((¬ (M16 ((j0 + 1) + 2) (ix x2)) = (2 : Int32) → bX4_findPassingGates_125 Post A61 M16 j0 x1 x2) ∧
  ((M16 ((j0 + 1) + 2) (ix x2)) = (2 : Int32) → ((x3 = 0 → ∀ x2_22 : Int32, x2_22 = x2 + (-1 : Int32) → (A61 M16 j0 x1 x2_22)) ∧
  (¬ x3 = 0 → bX4_findPassingGates_125 Post A61 M16 j0 x1 x2)))))))) M (j0 + 1) x2
def bX4_findPassingGates_78 (Post : Mm → Prop) (A61 : Mm → Nat → Int32 → Int32 → Prop) (M : Mm) (j0 : Nat) (x1 : Int32) (x2 : Int32) (t0 : Int32) : Prop :=
  ((t0 = 0 → bX4_findPassingGates_97 Post A61 M j0 x1 x2 t0) ∧
  (¬ t0 = 0 → vp_in x2 8 ∧ (∀ x1_15 : Int32, x1_15 = (x1 ||| ((1 : Int32) <<< ((M ((j0 + 1) + 1) (ix x2)) &&& 31))) → (bX4_findPassingGates_97 Post A61 M j0 x1_15 x2 t0))))
def bX4_findPassingGates_61 (Post : Mm → Prop) (A61 : Mm → Nat → Int32 → Int32 → Prop) (M : Mm) (j0 : Nat) (x1 : Int32) (x2 : Int32) : Prop :=
  ((x2 ≤ 0 → Post M) ∧
  (¬ x2 ≤ 0 → (((x1 &&& ((1 : Int32) <<< (x2 &&& 31))) = 0 → bX4_findPassingGates_78 Post A61 M j0 x1 x2 (0 : Int32)) ∧
  (¬ (x1 &&& ((1 : Int32) <<< (x2 &&& 31))) = 0 → bX4_findPassingGates_78 Post A61 M j0 x1 x2 (1 : Int32)))))
def lX4_findPassingGates_61 (Post : Mm → Prop) : Nat → Mm → Nat → Int32 → Int32 → Prop
  | 0 => fun _ _ _ _ => False
  | n + 1 => fun M j0 x1 x2 => bX4_findPassingGates_61 Post (lX4_findPassingGates_61 Post n) M j0 x1 x2
def bX4_findPassingGates_4 (Post : Mm → Prop) (A4 : Mm → Nat → Int32 → Int32 → Prop) (M : Mm) (j0 : Nat) (x1 : Int32) (x2 : Int32) : Prop :=
  (((M (j0 + 10) 0) ≤ x2 → ∀ M3 : Mm, M3 = mu M j0 10 (0 : Int32) → (∀ x2_4 : Int32, x2_4 = ((M3 (j0 + 1) 0) - (1 : Int32)) → ((∃ n5 : Nat, lX4_findPassingGates_61 Post n5 M3 j0 x1 x2_4)))) ∧
  (¬ (M (j0 + 10) 0) ≤ x2 → wX1_wants (fun M6 r7 => ((r7 = 0 → ∀ x2_9 : Int32, x2_9 = x2 + (1 : Int32) → (A4 M6 j0 x1 x2_9)) ∧
  (¬ r7 = 0 → vp_in x2 10 ∧ (∀ x1_10 : Int32, x1_10 = (x1 ||| ((1 : Int32) <<< ((M6 ((j0 + 10) + 1) (ix x2)) &&& 31))) → (∀ x2_11 : Int32, x2_11 = x2 + (1 : Int32) → (A4 M6 j0 x1_10 x2_11)))))) M (j0 + 10) x2))
def lX4_findPassingGates_4 (Post : Mm → Prop) : Nat → Mm → Nat → Int32 → Int32 → Prop
  | 0 => fun _ _ _ _ => False
  | n + 1 => fun M j0 x1 x2 => bX4_findPassingGates_4 Post (lX4_findPassingGates_4 Post n) M j0 x1 x2
def wX4_findPassingGates (Post : Mm → Prop) (M : Mm) (j0a : Nat) : Prop :=
  (∃ n1 : Nat, lX4_findPassingGates_4 Post n1 M j0a (0 : Int32) (0 : Int32))
abbrev rX4_findPassingGates : Room := ({ frames := 1, cells := 0, slots := 0, locals := 21 } : Room)
def wX4_seepAway (Post : Mm → Int32 → Prop) (M : Mm) (j0a : Nat) (x1a : Int32) (x2a : Int32) : Prop :=
  vp_in x1a 8 ∧ (∀ x3_1 : Int32, x3_1 = (((x2a * (M ((j0a + 1) + 4) (ix x1a))) + (999 : Int32)) / (1000 : Int32)) → (vp_in x1a 8 ∧ (vp_in x1a 8 ∧ (∀ M2 : Mm, M2 = mu M ((j0a + 1) + 7) (ix x1a) ((M ((j0a + 1) + 7) (ix x1a)) + x3_1) → (∀ M3 : Mm, M3 = mu M2 j0a 6 ((M2 j0a 6) + x3_1) → (Post M3 x3_1))))))
abbrev rX4_seepAway : Room := ({ frames := 0, cells := 0, slots := 0, locals := 0 } : Room)
def wX4_mayTake (Post : Mm → Int32 → Prop) (M : Mm) (j0a : Nat) (x1a : Int32) : Prop :=
  vp_in x1a 10 ∧ (vp_in (M ((j0a + 10) + 1) (ix x1a)) 8 ∧ (vp_in x1a 10 ∧ ((((M (j0a + 22) (ix (M ((j0a + 10) + 1) (ix x1a)))) < (M ((j0a + 10) + 4) (ix x1a)) → Post M (0 : Int32)) ∧
  (¬ (M (j0a + 22) (ix (M ((j0a + 10) + 1) (ix x1a)))) < (M ((j0a + 10) + 4) (ix x1a)) → Post M (1 : Int32))))))
abbrev rX4_mayTake : Room := ({ frames := 0, cells := 0, slots := 0, locals := 0 } : Room)
def bX4_giveToFields_5 (Post : Mm → Int32 → Prop) (A5 : Mm → Nat → Int32 → Int32 → Int32 → Int32 → Prop) (M : Mm) (j0 : Nat) (x1 : Int32) (x2 : Int32) (x3 : Int32) (x4 : Int32) : Prop :=
  (((M (j0 + 10) 0) ≤ x4 → ∀ M3 : Mm, M3 = mu M j0 5 ((M j0 5) + (x2 - x3)) → (Post M3 (x2 - x3))) ∧
  (¬ (M (j0 + 10) 0) ≤ x4 → vp_in x4 10 ∧ (∀ x5_4 : Int32, x5_4 = (M ((j0 + 10) + 7) (ix x4)) → (vp_in x5_4 10 ∧ (((¬ (M ((j0 + 10) + 1) (ix x5_4)) = x1 → ∀ x4_6 : Int32, x4_6 = x4 + (1 : Int32) → (A5 M j0 x1 x2 x3 x4_6)) ∧
  ((M ((j0 + 10) + 1) (ix x5_4)) = x1 → wX1_wants (fun M7 r8 => ((r8 = 0 → ∀ x4_10 : Int32, x4_10 = x4 + (1 : Int32) → (A5 M7 j0 x1 x2 x3 x4_10)) ∧
  (¬ r8 = 0 → wX4_mayTake (fun M11 r12 => ((r12 = 0 → ∀ x4_14 : Int32, x4_14 = x4 + (1 : Int32) → (A5 M11 j0 x1 x2 x3 x4_14)) ∧
  (¬ r12 = 0 → wX1_give (fun M15 r16 => ∀ x3_17 : Int32, x3_17 = (x3 - r16) → (∀ x4_18 : Int32, x4_18 = x4 + (1 : Int32) → (A5 M15 j0 x1 x2 x3_17 x4_18))) M11 (j0 + 10) x5_4 x3 (M11 j0 3)))) M7 j0 x5_4))) M (j0 + 10) x5_4)))))))
def lX4_giveToFields_5 (Post : Mm → Int32 → Prop) : Nat → Mm → Nat → Int32 → Int32 → Int32 → Int32 → Prop
  | 0 => fun _ _ _ _ _ _ => False
  | n + 1 => fun M j0 x1 x2 x3 x4 => bX4_giveToFields_5 Post (lX4_giveToFields_5 Post n) M j0 x1 x2 x3 x4
def wX4_giveToFields (Post : Mm → Int32 → Prop) (M : Mm) (j0a : Nat) (x1a : Int32) (x2a : Int32) : Prop :=
  (∃ n1 : Nat, lX4_giveToFields_5 Post n1 M j0a x1a x2a x2a (0 : Int32))
abbrev rX4_giveToFields : Room := ({ frames := 2, cells := 0, slots := 0, locals := 54 } : Room)
def wX4_isPassingFrom (Post : Mm → Int32 → Prop) (M : Mm) (j0a : Nat) (x1a : Int32) (x2a : Int32) : Prop :=
  vp_in x2a 8 ∧ (((¬ (M ((j0a + 1) + 1) (ix x2a)) = x1a → Post M (0 : Int32)) ∧
  ((M ((j0a + 1) + 1) (ix x2a)) = x1a → ((((M j0a 10) &&& ((1 : Int32) <<< (x2a &&& 31))) = 0 → Post M (0 : Int32)) ∧
  (¬ ((M j0a 10) &&& ((1 : Int32) <<< (x2a &&& 31))) = 0 → Post M (1 : Int32))))))
abbrev rX4_isPassingFrom : Room := ({ frames := 0, cells := 0, slots := 0, locals := 0 } : Room)
def bX4_throughGate_22 (Post : Mm → Int32 → Prop) (M : Mm) (j0 : Nat) (x1 : Int32) (t0 : Int32) : Prop :=
  vp_in x1 8 ∧ (Post M (imn t0 (M ((j0 + 1) + 3) (ix x1))))
def wX4_throughGate (Post : Mm → Int32 → Prop) (M : Mm) (j0a : Nat) (x1a : Int32) (x2a : Int32) : Prop :=
  vp_in x1a 8 ∧ (((¬ (M ((j0a + 1) + 2) (ix x1a)) = (1 : Int32) → bX4_throughGate_22 Post M j0a x1a x2a) ∧
  ((M ((j0a + 1) + 2) (ix x1a)) = (1 : Int32) → bX4_throughGate_22 Post M j0a x1a ((x2a + (1 : Int32)) / (2 : Int32)))))
abbrev rX4_throughGate : Room := ({ frames := 1, cells := 0, slots := 0, locals := 30 } : Room)
def bX4_partAmongGates_110 (Post : Mm → Int32 → Prop) (A62 : Mm → Nat → Int32 → Int32 → Int32 → Int32 → Int32 → Prop) (M : Mm) (j0 : Nat) (x1 : Int32) (x4 : Int32) (x5 : Int32) (x6 : Int32) (x7 : Int32) (t0 : Int32) (t1 : Int32) (js2 : Nat) (t3 : Int32) (js4 : Nat) : Prop :=
  wX4_throughGate (fun M21 r22 => vp_in t3 8 ∧ (∀ M23 : Mm, M23 = mu M21 js4 (ix t3) r22 → (vp_in x7 8 ∧ (∀ x6_24 : Int32, x6_24 = (x6 + (M23 ((j0 + 1) + 6) (ix x7))) → (∀ x5_25 : Int32, x5_25 = x5 + (-1 : Int32) → (∀ x7_26 : Int32, x7_26 = x7 + (1 : Int32) → (A62 M23 j0 x1 x4 x5_25 x6_24 x7_26))))))) M js2 t1 t0
def bX4_partAmongGates_62 (Post : Mm → Int32 → Prop) (A62 : Mm → Nat → Int32 → Int32 → Int32 → Int32 → Int32 → Prop) (M : Mm) (j0 : Nat) (x1 : Int32) (x4 : Int32) (x5 : Int32) (x6 : Int32) (x7 : Int32) : Prop :=
  (((M (j0 + 1) 0) ≤ x7 → Post M x6) ∧
  (¬ (M (j0 + 1) 0) ≤ x7 → wX4_isPassingFrom (fun M16 r17 => ((r17 = 0 → ∀ x7_19 : Int32, x7_19 = x7 + (1 : Int32) → (A62 M16 j0 x1 x4 x5 x6 x7_19)) ∧
  (¬ r17 = 0 → ((x5 ≤ 0 → bX4_partAmongGates_110 Post A62 M16 j0 x1 x4 x5 x6 x7 x4 x7 j0 x7 ((j0 + 1) + 6)) ∧
  (¬ x5 ≤ 0 → bX4_partAmongGates_110 Post A62 M16 j0 x1 x4 x5 x6 x7 (x4 + (1 : Int32)) x7 j0 x7 ((j0 + 1) + 6)))))) M j0 x1 x7))
def lX4_partAmongGates_62 (Post : Mm → Int32 → Prop) : Nat → Mm → Nat → Int32 → Int32 → Int32 → Int32 → Int32 → Prop
  | 0 => fun _ _ _ _ _ _ _ => False
  | n + 1 => fun M j0 x1 x4 x5 x6 x7 => bX4_partAmongGates_62 Post (lX4_partAmongGates_62 Post n) M j0 x1 x4 x5 x6 x7
def bX4_partAmongGates_7 (Post : Mm → Int32 → Prop) (A7 : Mm → Nat → Int32 → Int32 → Int32 → Int32 → Prop) (M : Mm) (j0 : Nat) (x1 : Int32) (x2 : Int32) (x3 : Int32) (x4 : Int32) : Prop :=
  (((M (j0 + 1) 0) ≤ x4 → ((¬ x3 = 0 → ¬ x3 = 0 ∧ (∀ x4_5 : Int32, x4_5 = (x2 / x3) → (¬ x3 = 0 ∧ (∀ x5_6 : Int32, x5_6 = (x2 - x2 / x3 * x3) → (∀ x7_7 : Int32, x7_7 = (x1 + (1 : Int32)) → ((∃ n8 : Nat, lX4_partAmongGates_62 Post n8 M j0 x1 x4_5 x5_6 (0 : Int32) x7_7))))))) ∧
  (x3 = 0 → Post M (0 : Int32)))) ∧
  (¬ (M (j0 + 1) 0) ≤ x4 → wX4_isPassingFrom (fun M9 r10 => ((r10 = 0 → ∀ x4_12 : Int32, x4_12 = x4 + (1 : Int32) → (A7 M9 j0 x1 x2 x3 x4_12)) ∧
  (¬ r10 = 0 → ∀ x3_13 : Int32, x3_13 = x3 + (1 : Int32) → (∀ x4_14 : Int32, x4_14 = x4 + (1 : Int32) → (A7 M9 j0 x1 x2 x3_13 x4_14))))) M j0 x1 x4))
def lX4_partAmongGates_7 (Post : Mm → Int32 → Prop) : Nat → Mm → Nat → Int32 → Int32 → Int32 → Int32 → Prop
  | 0 => fun _ _ _ _ _ _ => False
  | n + 1 => fun M j0 x1 x2 x3 x4 => bX4_partAmongGates_7 Post (lX4_partAmongGates_7 Post n) M j0 x1 x2 x3 x4
def wX4_partAmongGates (Post : Mm → Int32 → Prop) (M : Mm) (j0a : Nat) (x1a : Int32) (x2a : Int32) : Prop :=
  ∀ x4_1 : Int32, x4_1 = (x1a + (1 : Int32)) → ((∃ n2 : Nat, lX4_partAmongGates_7 Post n2 M j0a x1a x2a (0 : Int32) x4_1))
abbrev rX4_partAmongGates : Room := ({ frames := 2, cells := 0, slots := 0, locals := 53 } : Room)
def wX4_endCalls (Post : Mm → Prop) (M : Mm) (j0a : Nat) : Prop :=
  wX1_wanting (fun M1 r2 => ∀ M3 : Mm, M3 = mu M1 (j0a + 10) 1 ((M (j0a + 10) 1) &&& r2) → (Post M3)) M (j0a + 10)
abbrev rX4_endCalls : Room := ({ frames := 2, cells := 0, slots := 0, locals := 43 } : Room)
def bX4_passHour_76 (Post : Mm → Int32 → Prop) (A76 : Mm → Nat → Int32 → Int32 → Prop) (M : Mm) (j0 : Nat) (x2 : Int32) (x3 : Int32) : Prop :=
  (((M (j0 + 1) 0) ≤ x3 → wX4_endCalls (fun M13 => Post M13 ((M13 j0 5) - x2)) M j0) ∧
  (¬ (M (j0 + 1) 0) ≤ x3 → vp_in x3 8 ∧ (∀ x4_15 : Int32, x4_15 = (M ((j0 + 1) + 6) (ix x3)) → (wX4_seepAway (fun M16 r17 => ∀ x4_18 : Int32, x4_18 = (x4_15 - r17) → (wX4_giveToFields (fun M19 r20 => ∀ x4_21 : Int32, x4_21 = (x4_18 - r20) → (wX4_partAmongGates (fun M22 r23 => ∀ x4_24 : Int32, x4_24 = (x4_21 - r23) → (vp_in x3 8 ∧ (vp_in x3 8 ∧ (∀ M25 : Mm, M25 = mu M22 ((j0 + 1) + 8) (ix x3) ((M22 ((j0 + 1) + 8) (ix x3)) + x4_24) → (∀ M26 : Mm, M26 = mu M25 j0 7 ((M25 j0 7) + x4_24) → (∀ x3_27 : Int32, x3_27 = x3 + (1 : Int32) → (A76 M26 j0 x2 x3_27))))))) M19 j0 x3 x4_21)) M16 j0 x3 x4_18)) M j0 x3 x4_15))))
def lX4_passHour_76 (Post : Mm → Int32 → Prop) : Nat → Mm → Nat → Int32 → Int32 → Prop
  | 0 => fun _ _ _ _ => False
  | n + 1 => fun M j0 x2 x3 => bX4_passHour_76 Post (lX4_passHour_76 Post n) M j0 x2 x3
def wX4_passHour (Post : Mm → Int32 → Prop) (M : Mm) (j0a : Nat) (x1a : Int32) : Prop :=
  ∀ x2_1 : Int32, x2_1 = (M j0a 5) → (∀ M2 : Mm, M2 = mu M j0a 3 ((M j0a 3) + (1 : Int32)) → (wX4_findCallsBelow (fun M3 => wX4_findPassingGates (fun M5 => wJ7_fill_53178 (fun M7 => ∀ M9 : Mm, M9 = mu M7 ((j0a + 1) + 6) 0 (imn x1a (M7 ((j0a + 1) + 3) 0)) → (∀ M10 : Mm, M10 = mu M9 j0a 4 ((M9 j0a 4) + (M9 ((j0a + 1) + 6) 0)) → ((∃ n11 : Nat, lX4_passHour_76 Post n11 M10 j0a x2_1 (0 : Int32))))) M5 ((j0a + 1) + 6) (0 : Int32)) M3 j0a) M2 j0a))
abbrev rX4_passHour : Room := ({ frames := 3, cells := 0, slots := 0, locals := 80 } : Room)
def wX5_goOn (Post : Mm → Prop) (M : Mm) (j0a : Nat) : Prop :=
  ((¬ (M j0a 0) = 0 → ∀ M2 : Mm, M2 = mu M j0a 2 ((M j0a 2) + (1 : Int32)) → (vp_in (M2 j0a 1) 8 ∧ ((((M2 j0a 2) < (M2 (j0a + 2) (ix (M2 j0a 1))) → Post M2) ∧
  (¬ (M2 j0a 2) < (M2 (j0a + 2) (ix (M2 j0a 1))) → ∀ M4 : Mm, M4 = mu M2 j0a 2 (0 : Int32) → ((((M4 j0a 0) ≤ ((M4 j0a 1) + (1 : Int32)) → ∀ M6 : Mm, M6 = mu M4 j0a 1 (0 : Int32) → (Post M6)) ∧
  (¬ (M4 j0a 0) ≤ ((M4 j0a 1) + (1 : Int32)) → ∀ M7 : Mm, M7 = mu M4 j0a 1 ((M4 j0a 1) + (1 : Int32)) → (Post M7))))))))) ∧
  ((M j0a 0) = 0 → Post M))
abbrev rX5_goOn : Room := ({ frames := 0, cells := 0, slots := 0, locals := 0 } : Room)
def bX4_runHours_8 (Post : Mm → Int32 → Prop) (A8 : Mm → Nat → Int32 → Int32 → Int32 → Int32 → Prop) (M : Mm) (j0 : Nat) (x1 : Int32) (x2 : Int32) (x3 : Int32) (x4 : Int32) : Prop :=
  ((x1 ≤ x4 → Post M ((M j0 5) - x3)) ∧
  (¬ x1 ≤ x4 → wX5_gatesInNextHour (fun M4 r5 => ∀ M6 : Mm, M6 = mu M4 (j0 + 1) 1 r5 → (wX4_passHour (fun M7 r8 => wX5_goOn (fun M9 => ∀ x4_11 : Int32, x4_11 = x4 + (1 : Int32) → (A8 M9 j0 x1 x2 x3 x4_11)) M7 (j0 + 18)) M6 j0 x2)) M (j0 + 18) (M (j0 + 1) 1)))
def lX4_runHours_8 (Post : Mm → Int32 → Prop) : Nat → Mm → Nat → Int32 → Int32 → Int32 → Int32 → Prop
  | 0 => fun _ _ _ _ _ _ => False
  | n + 1 => fun M j0 x1 x2 x3 x4 => bX4_runHours_8 Post (lX4_runHours_8 Post n) M j0 x1 x2 x3 x4
def wX4_runHours (Post : Mm → Int32 → Prop) (M : Mm) (j0a : Nat) (x1a : Int32) (x2a : Int32) : Prop :=
  ∀ x3_1 : Int32, x3_1 = (M j0a 5) → ((∃ n2 : Nat, lX4_runHours_8 Post n2 M j0a x1a x2a x3_1 (0 : Int32)))
abbrev rX4_runHours : Room := ({ frames := 4, cells := 0, slots := 0, locals := 104 } : Room)
def wX5_has (Post : Mm → Int32 → Prop) (M : Mm) (j0a : Nat) (x1a : Int32) : Prop :=
  ((x1a < 0 → Post M (0 : Int32)) ∧
  (¬ x1a < 0 → (((M j0a 0) ≤ x1a → Post M (0 : Int32)) ∧
  (¬ (M j0a 0) ≤ x1a → Post M (1 : Int32)))))
abbrev rX5_has : Room := ({ frames := 0, cells := 0, slots := 0, locals := 0 } : Room)
def wX5_beginAgain (Post : Mm → Prop) (M : Mm) (j0a : Nat) : Prop :=
  ∀ M1 : Mm, M1 = mu M j0a 1 (0 : Int32) → (∀ M2 : Mm, M2 = mu M1 j0a 2 (0 : Int32) → (Post M2))
abbrev rX5_beginAgain : Room := ({ frames := 0, cells := 0, slots := 0, locals := 0 } : Room)
def wX5_add (Post : Mm → Int32 → Prop) (M : Mm) (j0a : Nat) (x1a : Int32) (x2a : Int32) : Prop :=
  vp_in (M j0a 0) 8 ∧ (∀ M1 : Mm, M1 = mu M (j0a + 1) (ix (M j0a 0)) x1a → (vp_in (M1 j0a 0) 8 ∧ (∀ M2 : Mm, M2 = mu M1 (j0a + 2) (ix (M1 j0a 0)) x2a → (∀ M3 : Mm, M3 = mu M2 j0a 0 ((M2 j0a 0) + (1 : Int32)) → (wX5_beginAgain (fun M4 => Post M4 (M4 j0a 0)) M3 j0a)))))
abbrev rX5_add : Room := ({ frames := 1, cells := 0, slots := 0, locals := 20 } : Room)
def wX5_removeAll (Post : Mm → Int32 → Prop) (M : Mm) (j0a : Nat) : Prop :=
  ∀ x1_1 : Int32, x1_1 = (M j0a 0) → (∀ M2 : Mm, M2 = mu M j0a 0 (0 : Int32) → (wX5_beginAgain (fun M3 => Post M3 x1_1) M2 j0a))
abbrev rX5_removeAll : Room := ({ frames := 1, cells := 0, slots := 0, locals := 20 } : Room)
def wX6_isOutside (Post : Mm → Int32 → Prop) (M : Mm) (x0a : Int32) (x1a : Int32) (x2a : Int32) : Prop :=
  ((x0a < x1a → Post M (1 : Int32)) ∧
  (¬ x0a < x1a → ((x0a ≤ x2a → Post M (0 : Int32)) ∧
  (¬ x0a ≤ x2a → Post M (1 : Int32)))))
abbrev rX6_isOutside : Room := ({ frames := 0, cells := 0, slots := 0, locals := 0 } : Room)
def wX6_canal (Post : Mm → Int32 → Prop) (M : Mm) (j0a : Nat) (x1a : Int32) (x2a : Int32) (x3a : Int32) (x4a : Int32) : Prop :=
  wX0_has (fun M1 r2 => ((r2 = 0 → Post M1 (-1000001 : Int32)) ∧
  (¬ r2 = 0 → wX6_isOutside (fun M4 r5 => ((¬ r5 = 0 → Post M4 (-1000001 : Int32)) ∧
  (r5 = 0 → wX6_isOutside (fun M7 r8 => ((¬ r8 = 0 → Post M7 (-1000001 : Int32)) ∧
  (r8 = 0 → wX6_isOutside (fun M10 r11 => ((r11 = 0 → (((M10 ((j0a + 1) + 1) 0) < (8 : Int32) → wX2_record (fun M14 => wX0_add (fun M16 r17 => Post M16 r17) M14 ((j0a + 1) + 1) x1a x2a x3a x4a) M10 (j0a + 47) (j0a + 1)) ∧
  (¬ (M10 ((j0a + 1) + 1) 0) < (8 : Int32) → Post M10 (-1000003 : Int32)))) ∧
  (¬ r11 = 0 → Post M10 (-1000001 : Int32)))) M7 x4a (0 : Int32) (500 : Int32)))) M4 x3a (1 : Int32) (500 : Int32)))) M1 x2a (0 : Int32) (2 : Int32)))) M ((j0a + 1) + 1) x1a
abbrev rX6_canal : Room := ({ frames := 4, cells := 0, slots := 0, locals := 123 } : Room)
def wX6_field (Post : Mm → Int32 → Prop) (M : Mm) (j0a : Nat) (x1a : Int32) (x2a : Int32) (x3a : Int32) (x4a : Int32) : Prop :=
  wX0_has (fun M1 r2 => ((r2 = 0 → Post M1 (-1000001 : Int32)) ∧
  (¬ r2 = 0 → wX6_isOutside (fun M4 r5 => ((¬ r5 = 0 → Post M4 (-1000001 : Int32)) ∧
  (r5 = 0 → wX6_isOutside (fun M7 r8 => ((¬ r8 = 0 → Post M7 (-1000001 : Int32)) ∧
  (r8 = 0 → wX6_isOutside (fun M10 r11 => ((r11 = 0 → (((M10 ((j0a + 1) + 10) 0) < (10 : Int32) → wX2_record (fun M14 => wX1_add (fun M16 r17 => Post M16 r17) M14 ((j0a + 1) + 10) x1a x2a x3a x4a) M10 (j0a + 47) (j0a + 1)) ∧
  (¬ (M10 ((j0a + 1) + 10) 0) < (10 : Int32) → Post M10 (-1000003 : Int32)))) ∧
  (¬ r11 = 0 → Post M10 (-1000001 : Int32)))) M7 x4a (0 : Int32) (99 : Int32)))) M4 x3a (1 : Int32) (200 : Int32)))) M1 x2a (1 : Int32) (999 : Int32)))) M ((j0a + 1) + 1) x1a
abbrev rX6_field : Room := ({ frames := 4, cells := 0, slots := 0, locals := 123 } : Room)
def wX6_tendsKind (Post : Mm → Int32 → Prop) (M : Mm) (x0a : Int32) (x1a : Int32) : Prop :=
  ((x0a = (2 : Int32) → Post M (1 : Int32)) ∧
  (¬ x0a = (2 : Int32) → ((¬ x0a = x1a → Post M (0 : Int32)) ∧
  (x0a = x1a → Post M (1 : Int32)))))
abbrev rX6_tendsKind : Room := ({ frames := 0, cells := 0, slots := 0, locals := 0 } : Room)
def wX6_tend (Post : Mm → Int32 → Prop) (M : Mm) (j0a : Nat) (x1a : Int32) (x2a : Int32) : Prop :=
  wX6_isOutside (fun M1 r2 => ((¬ r2 = 0 → Post M1 (-1000001 : Int32)) ∧
  (r2 = 0 → wX0_hasGate (fun M4 r5 => ((¬ r5 = 0 → wX0_isTended (fun M7 r8 => ((¬ r8 = 0 → Post M7 (-1000002 : Int32)) ∧
  (r8 = 0 → vp_in x2a 8 ∧ (wX6_tendsKind (fun M10 r11 => ((¬ r11 = 0 → wX0_gatesOf (fun M13 r14 => ((r14 < (2 : Int32) → wX2_record (fun M16 => vp_in x2a 8 ∧ (∀ M18 : Mm, M18 = mu M16 (((j0a + 1) + 1) + 5) (ix x2a) x1a → (wX0_gatesOf (fun M19 r20 => Post M19 r20) M18 ((j0a + 1) + 1) x1a))) M13 (j0a + 47) (j0a + 1)) ∧
  (¬ r14 < (2 : Int32) → Post M13 (-1000003 : Int32)))) M10 ((j0a + 1) + 1) x1a) ∧
  (r11 = 0 → Post M10 (-1000002 : Int32)))) M7 x1a (M7 (((j0a + 1) + 1) + 2) (ix x2a)))))) M4 ((j0a + 1) + 1) x2a) ∧
  (r5 = 0 → Post M4 (-1000001 : Int32)))) M1 ((j0a + 1) + 1) x2a))) M x1a (0 : Int32) (2 : Int32)
abbrev rX6_tend : Room := ({ frames := 4, cells := 0, slots := 0, locals := 123 } : Room)
def wX6_open (Post : Mm → Int32 → Prop) (M : Mm) (j0a : Nat) (x1a : Int32) : Prop :=
  wX0_hasGate (fun M1 r2 => ((¬ r2 = 0 → wX0_canBeOpened (fun M4 r5 => ((¬ r5 = 0 → wX2_record (fun M7 => wX0_flipGate (fun M9 r10 => Post M9 r10) M7 ((j0a + 1) + 1) x1a) M4 (j0a + 47) (j0a + 1)) ∧
  (r5 = 0 → Post M4 (-1000002 : Int32)))) M1 ((j0a + 1) + 1) x1a) ∧
  (r2 = 0 → Post M1 (-1000001 : Int32)))) M ((j0a + 1) + 1) x1a
abbrev rX6_open : Room := ({ frames := 4, cells := 0, slots := 0, locals := 123 } : Room)
def wX6_call (Post : Mm → Int32 → Prop) (M : Mm) (j0a : Nat) (x1a : Int32) : Prop :=
  wX1_has (fun M1 r2 => ((¬ r2 = 0 → wX1_canCall (fun M4 r5 => ((¬ r5 = 0 → wX2_record (fun M7 => wX1_beginCall (fun M9 r10 => Post M9 r10) M7 ((j0a + 1) + 10) x1a) M4 (j0a + 47) (j0a + 1)) ∧
  (r5 = 0 → Post M4 (-1000002 : Int32)))) M1 ((j0a + 1) + 10) x1a) ∧
  (r2 = 0 → Post M1 (-1000001 : Int32)))) M ((j0a + 1) + 10) x1a
abbrev rX6_call : Room := ({ frames := 4, cells := 0, slots := 0, locals := 123 } : Room)
def wX6_turn (Post : Mm → Int32 → Prop) (M : Mm) (j0a : Nat) (x1a : Int32) (x2a : Int32) : Prop :=
  wX0_areGates (fun M1 r2 => ((r2 = 0 → Post M1 (-1000001 : Int32)) ∧
  (¬ r2 = 0 → wX6_isOutside (fun M4 r5 => ((r5 = 0 → (((M4 ((j0a + 1) + 18) 0) < (8 : Int32) → wX2_record (fun M8 => wX5_add (fun M10 r11 => Post M10 r11) M8 ((j0a + 1) + 18) x1a x2a) M4 (j0a + 47) (j0a + 1)) ∧
  (¬ (M4 ((j0a + 1) + 18) 0) < (8 : Int32) → Post M4 (-1000003 : Int32)))) ∧
  (¬ r5 = 0 → Post M4 (-1000001 : Int32)))) M1 x2a (1 : Int32) (20 : Int32)))) M ((j0a + 1) + 1) x1a
abbrev rX6_turn : Room := ({ frames := 4, cells := 0, slots := 0, locals := 123 } : Room)
def wX6_noTurns (Post : Mm → Int32 → Prop) (M : Mm) (j0a : Nat) : Prop :=
  wX2_record (fun M1 => wX5_removeAll (fun M3 r4 => Post M3 r4) M1 ((j0a + 1) + 18)) M (j0a + 47) (j0a + 1)
abbrev rX6_noTurns : Room := ({ frames := 4, cells := 0, slots := 0, locals := 123 } : Room)
def wX6_hour (Post : Mm → Int32 → Prop) (M : Mm) (j0a : Nat) (x1a : Int32) : Prop :=
  wX6_isOutside (fun M1 r2 => ((r2 = 0 → wX4_hasHoursLeft (fun M4 r5 => ((¬ r5 = 0 → wX2_record (fun M7 => wX4_passHour (fun M9 r10 => Post M9 r10) M7 (j0a + 1) x1a) M4 (j0a + 47) (j0a + 1)) ∧
  (r5 = 0 → Post M4 (-1000003 : Int32)))) M1 (j0a + 1) (1 : Int32)) ∧
  (¬ r2 = 0 → Post M1 (-1000001 : Int32)))) M x1a (0 : Int32) (999 : Int32)
abbrev rX6_hour : Room := ({ frames := 4, cells := 0, slots := 0, locals := 123 } : Room)
def wX6_run (Post : Mm → Int32 → Prop) (M : Mm) (j0a : Nat) (x1a : Int32) (x2a : Int32) : Prop :=
  wX6_isOutside (fun M1 r2 => ((¬ r2 = 0 → Post M1 (-1000001 : Int32)) ∧
  (r2 = 0 → wX6_isOutside (fun M4 r5 => ((r5 = 0 → wX4_hasHoursLeft (fun M7 r8 => ((¬ r8 = 0 → wX2_record (fun M10 => wX4_runHours (fun M12 r13 => Post M12 r13) M10 (j0a + 1) x1a x2a) M7 (j0a + 47) (j0a + 1)) ∧
  (r8 = 0 → Post M7 (-1000003 : Int32)))) M4 (j0a + 1) x1a) ∧
  (¬ r5 = 0 → Post M4 (-1000001 : Int32)))) M1 x2a (0 : Int32) (999 : Int32)))) M x1a (1 : Int32) (100 : Int32)
abbrev rX6_run : Room := ({ frames := 5, cells := 0, slots := 0, locals := 128 } : Room)
def wX6_asNumber (Post : Mm → Int32 → Prop) (M : Mm) (x0a : Int32) : Prop :=
  ((x0a = 0 → Post M (0 : Int32)) ∧
  (¬ x0a = 0 → Post M (1 : Int32)))
abbrev rX6_asNumber : Room := ({ frames := 0, cells := 0, slots := 0, locals := 0 } : Room)
def wX6_canalOf (Post : Mm → Int32 → Prop) (M : Mm) (j0a : Nat) (x1a : Int32) (x2a : Int32) : Prop :=
  wX0_has (fun M1 r2 => ((¬ r2 = 0 → ((x2a = (0 : Int32) → ((¬ x1a = 0 → vp_in x1a 8 ∧ (Post M1 (M1 (((j0a + 1) + 1) + 1) (ix x1a)))) ∧
  (x1a = 0 → Post M1 (-1000004 : Int32)))) ∧
  (¬ x2a = (0 : Int32) → ((x2a = (1 : Int32) → ((¬ x1a = 0 → vp_in x1a 8 ∧ (Post M1 (M1 (((j0a + 1) + 1) + 2) (ix x1a)))) ∧
  (x1a = 0 → Post M1 (-1000004 : Int32)))) ∧
  (¬ x2a = (1 : Int32) → ((x2a = (2 : Int32) → vp_in x1a 8 ∧ (Post M1 (M1 (((j0a + 1) + 1) + 3) (ix x1a)))) ∧
  (¬ x2a = (2 : Int32) → ((x2a = (3 : Int32) → vp_in x1a 8 ∧ (Post M1 (M1 (((j0a + 1) + 1) + 4) (ix x1a)))) ∧
  (¬ x2a = (3 : Int32) → ((x2a = (4 : Int32) → ((¬ x1a = 0 → wX0_isOpen (fun M12 r13 => wX6_asNumber (fun M14 r15 => Post M14 r15) M12 r13) M1 ((j0a + 1) + 1) x1a) ∧
  (x1a = 0 → Post M1 (-1000004 : Int32)))) ∧
  (¬ x2a = (4 : Int32) → ((x2a = (5 : Int32) → wX0_isTended (fun M17 r18 => ((r18 = 0 → Post M17 (-1000004 : Int32)) ∧
  (¬ r18 = 0 → vp_in x1a 8 ∧ (Post M17 (M17 (((j0a + 1) + 1) + 5) (ix x1a)))))) M1 ((j0a + 1) + 1) x1a) ∧
  (¬ x2a = (5 : Int32) → ((x2a = (6 : Int32) → wX0_below (fun M21 r22 => Post M21 r22) M1 ((j0a + 1) + 1) x1a) ∧
  (¬ x2a = (6 : Int32) → ((x2a = (7 : Int32) → vp_in x1a 8 ∧ (Post M1 (M1 (((j0a + 1) + 1) + 6) (ix x1a)))) ∧
  (¬ x2a = (7 : Int32) → ((x2a = (8 : Int32) → vp_in x1a 8 ∧ (Post M1 (M1 (((j0a + 1) + 1) + 7) (ix x1a)))) ∧
  (¬ x2a = (8 : Int32) → ((x2a = (9 : Int32) → vp_in x1a 8 ∧ (Post M1 (M1 (((j0a + 1) + 1) + 8) (ix x1a)))) ∧
  (¬ x2a = (9 : Int32) → Post M1 (-1000001 : Int32)))))))))))))))))))))) ∧
  (r2 = 0 → Post M1 (-1000001 : Int32)))) M ((j0a + 1) + 1) x1a
abbrev rX6_canalOf : Room := ({ frames := 1, cells := 0, slots := 0, locals := 23 } : Room)
def wX6_fieldOf (Post : Mm → Int32 → Prop) (M : Mm) (j0a : Nat) (x1a : Int32) (x2a : Int32) : Prop :=
  wX1_has (fun M1 r2 => ((¬ r2 = 0 → ((x2a = (0 : Int32) → vp_in x1a 10 ∧ (Post M1 (M1 (((j0a + 1) + 10) + 1) (ix x1a)))) ∧
  (¬ x2a = (0 : Int32) → ((x2a = (1 : Int32) → vp_in x1a 10 ∧ (Post M1 (M1 (((j0a + 1) + 10) + 2) (ix x1a)))) ∧
  (¬ x2a = (1 : Int32) → ((x2a = (2 : Int32) → vp_in x1a 10 ∧ (Post M1 (M1 (((j0a + 1) + 10) + 3) (ix x1a)))) ∧
  (¬ x2a = (2 : Int32) → ((x2a = (3 : Int32) → vp_in x1a 10 ∧ (Post M1 (M1 (((j0a + 1) + 10) + 4) (ix x1a)))) ∧
  (¬ x2a = (3 : Int32) → ((x2a = (4 : Int32) → vp_in x1a 10 ∧ (Post M1 (M1 (((j0a + 1) + 10) + 5) (ix x1a)))) ∧
  (¬ x2a = (4 : Int32) → ((x2a = (5 : Int32) → wX1_calls (fun M10 r11 => wX6_asNumber (fun M12 r13 => Post M12 r13) M10 r11) M1 ((j0a + 1) + 10) x1a) ∧
  (¬ x2a = (5 : Int32) → ((x2a = (6 : Int32) → wX4_findCallsBelow (fun M15 => wX4_mayTake (fun M17 r18 => wX6_asNumber (fun M19 r20 => Post M19 r20) M17 r18) M15 (j0a + 1) x1a) M1 (j0a + 1)) ∧
  (¬ x2a = (6 : Int32) → ((x2a = (7 : Int32) → wX1_wants (fun M22 r23 => ((r23 = 0 → vp_in x1a 10 ∧ (Post M22 (M22 (((j0a + 1) + 10) + 6) (ix x1a)))) ∧
  (¬ r23 = 0 → Post M22 (-1000004 : Int32)))) M1 ((j0a + 1) + 10) x1a) ∧
  (¬ x2a = (7 : Int32) → Post M1 (-1000001 : Int32)))))))))))))))))) ∧
  (r2 = 0 → Post M1 (-1000001 : Int32)))) M ((j0a + 1) + 10) x1a
abbrev rX6_fieldOf : Room := ({ frames := 2, cells := 0, slots := 0, locals := 52 } : Room)
def wX6_turnOf (Post : Mm → Int32 → Prop) (M : Mm) (j0a : Nat) (x1a : Int32) (x2a : Int32) : Prop :=
  wX5_has (fun M1 r2 => ((¬ r2 = 0 → ((x2a = (0 : Int32) → vp_in x1a 8 ∧ (Post M1 (M1 (((j0a + 1) + 18) + 1) (ix x1a)))) ∧
  (¬ x2a = (0 : Int32) → ((x2a = (1 : Int32) → vp_in x1a 8 ∧ (Post M1 (M1 (((j0a + 1) + 18) + 2) (ix x1a)))) ∧
  (¬ x2a = (1 : Int32) → Post M1 (-1000001 : Int32)))))) ∧
  (r2 = 0 → Post M1 (-1000001 : Int32)))) M ((j0a + 1) + 18) x1a
abbrev rX6_turnOf : Room := ({ frames := 1, cells := 0, slots := 0, locals := 21 } : Room)
def bX6_floatBits_76 (Post : Mm → Int32 → Prop) (M : Mm) (x4 : Int32) (y5 : Int64) : Prop :=
  ∀ x9_11 : Int32, x9_11 = ((150 : Int32) - x4) → (Post M ((x9_11 <<< ((23 : Int32) &&& 31)) + (((y5 - (8388608 : Int64))).toInt32)))
def bX6_floatBits_43 (Post : Mm → Int32 → Prop) (M : Mm) (y0 : Int64) (y2 : Int64) (x4 : Int32) : Prop :=
  ¬ y2 = 0 ∧ (∀ x5_7 : Int64, x5_7 = ((y0 <<< (x4.toInt64 &&& 63)) / y2) → (¬ y2 = 0 ∧ (∀ x7_8 : Int64, x7_8 = ((y0 <<< (x4.toInt64 &&& 63)) - (y0 <<< (x4.toInt64 &&& 63)) / y2 * y2) → ((((lg_cmp ((2 : Int64) * x7_8) y2) ≤ 0 → bX6_floatBits_76 Post M x4 x5_7) ∧
  (¬ (lg_cmp ((2 : Int64) * x7_8) y2) ≤ 0 → ∀ x5_10 : Int64, x5_10 = (x5_7 + (1 : Int64)) → (bX6_floatBits_76 Post M x4 x5_10)))))))
def bX6_floatBits_18 (Post : Mm → Int32 → Prop) (A18 : Mm → Int64 → Int64 → Int32 → Prop) (M : Mm) (y0 : Int64) (y2 : Int64) (x4 : Int32) : Prop :=
  (((46 : Int32) ≤ x4 → bX6_floatBits_43 Post M y0 y2 x4) ∧
  (¬ (46 : Int32) ≤ x4 → ((0 ≤ (lg_cmp (y0 <<< (x4.toInt64 &&& 63)) (y2 <<< ((23 : Int32).toInt64 &&& 63))) → bX6_floatBits_43 Post M y0 y2 x4) ∧
  (¬ 0 ≤ (lg_cmp (y0 <<< (x4.toInt64 &&& 63)) (y2 <<< ((23 : Int32).toInt64 &&& 63))) → ∀ x4_6 : Int32, x4_6 = x4 + (1 : Int32) → (A18 M y0 y2 x4_6)))))
def lX6_floatBits_18 (Post : Mm → Int32 → Prop) : Nat → Mm → Int64 → Int64 → Int32 → Prop
  | 0 => fun _ _ _ _ => False
  | n + 1 => fun M y0 y2 x4 => bX6_floatBits_18 Post (lX6_floatBits_18 Post n) M y0 y2 x4
def wX6_floatBits (Post : Mm → Int32 → Prop) (M : Mm) (y0a : Int64) (y2a : Int64) : Prop :=
  (((lg_cmp y0a (0 : Int64)) ≤ 0 → Post M (0 : Int32)) ∧
  (¬ (lg_cmp y0a (0 : Int64)) ≤ 0 → ((0 < (lg_cmp y2a (0 : Int64)) → (∃ n3 : Nat, lX6_floatBits_18 Post n3 M y0a y2a (23 : Int32))) ∧
  (¬ 0 < (lg_cmp y2a (0 : Int64)) → Post M (0 : Int32)))))
abbrev rX6_floatBits : Room := ({ frames := 0, cells := 0, slots := 0, locals := 0 } : Room)
def wX6_share (Post : Mm → Int32 → Prop) (M : Mm) (j0a : Nat) (x1a : Int32) : Prop :=
  wX6_isOutside (fun M1 r2 => ((r2 = 0 → ((¬ (M1 (j0a + 1) 4) = 0 → ((x1a = (0 : Int32) → wX6_floatBits (fun M6 r7 => Post M6 r7) M1 (((M1 (j0a + 1) 5)).toInt64) (((M1 (j0a + 1) 4)).toInt64)) ∧
  (¬ x1a = (0 : Int32) → ((x1a = (1 : Int32) → wX6_floatBits (fun M9 r10 => Post M9 r10) M1 (((M1 (j0a + 1) 6)).toInt64) (((M1 (j0a + 1) 4)).toInt64)) ∧
  (¬ x1a = (1 : Int32) → wX6_floatBits (fun M11 r12 => Post M11 r12) M1 (((M1 (j0a + 1) 7)).toInt64) (((M1 (j0a + 1) 4)).toInt64)))))) ∧
  ((M1 (j0a + 1) 4) = 0 → Post M1 (-1000004 : Int32)))) ∧
  (¬ r2 = 0 → Post M1 (-1000001 : Int32)))) M x1a (0 : Int32) (2 : Int32)
abbrev rX6_share : Room := ({ frames := 1, cells := 0, slots := 0, locals := 29 } : Room)
def wX6_count (Post : Mm → Int32 → Prop) (M : Mm) (j0a : Nat) (x1a : Int32) : Prop :=
  ((x1a = (0 : Int32) → Post M (M ((j0a + 1) + 1) 0)) ∧
  (¬ x1a = (0 : Int32) → ((x1a = (1 : Int32) → Post M (M ((j0a + 1) + 10) 0)) ∧
  (¬ x1a = (1 : Int32) → ((x1a = (2 : Int32) → wX1_wanting (fun M4 r5 => wJ6_bitCount_0f7a4 (fun M6 r7 => Post M6 r7) M4 r5) M ((j0a + 1) + 10)) ∧
  (¬ x1a = (2 : Int32) → ((x1a = (3 : Int32) → Post M (M ((j0a + 1) + 10) 1)) ∧
  (¬ x1a = (3 : Int32) → ((x1a = (4 : Int32) → Post M (M ((j0a + 1) + 1) 1)) ∧
  (¬ x1a = (4 : Int32) → ((x1a = (5 : Int32) → wX0_tended (fun M11 r12 => Post M11 r12) M ((j0a + 1) + 1)) ∧
  (¬ x1a = (5 : Int32) → ((x1a = (6 : Int32) → Post M (M (j0a + 1) 3)) ∧
  (¬ x1a = (6 : Int32) → ((x1a = (7 : Int32) → Post M (M (j0a + 1) 4)) ∧
  (¬ x1a = (7 : Int32) → ((x1a = (8 : Int32) → Post M (M (j0a + 1) 5)) ∧
  (¬ x1a = (8 : Int32) → ((x1a = (9 : Int32) → Post M (M (j0a + 1) 6)) ∧
  (¬ x1a = (9 : Int32) → ((x1a = (10 : Int32) → Post M (M (j0a + 1) 7)) ∧
  (¬ x1a = (10 : Int32) → ((x1a = (11 : Int32) → Post M (M ((j0a + 1) + 18) 0)) ∧
  (¬ x1a = (11 : Int32) → ((x1a = (12 : Int32) → ((¬ (M ((j0a + 1) + 18) 0) = 0 → Post M (M ((j0a + 1) + 18) 1)) ∧
  ((M ((j0a + 1) + 18) 0) = 0 → Post M (-1000004 : Int32)))) ∧
  (¬ x1a = (12 : Int32) → ((x1a = (13 : Int32) → Post M (M ((j0a + 1) + 18) 2)) ∧
  (¬ x1a = (13 : Int32) → ((x1a = (14 : Int32) → Post M (M (j0a + 47) 0)) ∧
  (¬ x1a = (14 : Int32) → ((x1a = (15 : Int32) → Post M (M (j0a + 141) 0)) ∧
  (¬ x1a = (15 : Int32) → Post M (-1000001 : Int32)))))))))))))))))))))))))))))))))
abbrev rX6_count : Room := ({ frames := 2, cells := 0, slots := 0, locals := 43 } : Room)
def wX6_undo (Post : Mm → Int32 → Prop) (M : Mm) (j0a : Nat) : Prop :=
  ((¬ (M (j0a + 47) 0) = 0 → wX2_restoreLatest (fun M2 r3 => Post M2 r3) M (j0a + 47) (j0a + 1)) ∧
  ((M (j0a + 47) 0) = 0 → Post M (-1000002 : Int32)))
abbrev rX6_undo : Room := ({ frames := 4, cells := 0, slots := 0, locals := 123 } : Room)
