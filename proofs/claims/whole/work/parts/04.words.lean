/-! what each method does, as a predicate transformer over the memory: printed by gen.py out of the bytecode -/
def wX0_become (Post : Mm → Prop) (M : Mm) (j0a : Nat) (j1a : Nat) : Prop :=
  ∀ M1 : Mm, M1 = mu M j0a 0 (M j1a 0) → (∀ M2 : Mm, M2 = mu M1 j0a 1 (M1 j1a 1) → (∀ M3 : Mm, M3 = mcp M2 (j1a + 1) (j0a + 1) 8 → (∀ M4 : Mm, M4 = mcp M3 (j1a + 2) (j0a + 2) 8 → (∀ M5 : Mm, M5 = mcp M4 (j1a + 3) (j0a + 3) 8 → (∀ M6 : Mm, M6 = mcp M5 (j1a + 4) (j0a + 4) 8 → (∀ M7 : Mm, M7 = mcp M6 (j1a + 5) (j0a + 5) 8 → (∀ M8 : Mm, M8 = mcp M7 (j1a + 6) (j0a + 6) 8 → (∀ M9 : Mm, M9 = mcp M8 (j1a + 7) (j0a + 7) 8 → (∀ M10 : Mm, M10 = mcp M9 (j1a + 8) (j0a + 8) 8 → (Post M10))))))))))
abbrev rX0_become : Room := ({ frames := 1, cells := 0, slots := 0, locals := 60 } : Room)
def wX0_has (Post : Mm → Int32 → Prop) (M : Mm) (j0a : Nat) (x1a : Int32) : Prop :=
  ((x1a < 0 → Post M (0 : Int32)) ∧
  (¬ x1a < 0 → (((M j0a 0) ≤ x1a → Post M (0 : Int32)) ∧
  (¬ (M j0a 0) ≤ x1a → Post M (1 : Int32)))))
abbrev rX0_has : Room := ({ frames := 0, cells := 0, slots := 0, locals := 0 } : Room)
def wX0_hasGate (Post : Mm → Int32 → Prop) (M : Mm) (j0a : Nat) (x1a : Int32) : Prop :=
  ((x1a ≤ 0 → Post M (0 : Int32)) ∧
  (¬ x1a ≤ 0 → (((M j0a 0) ≤ x1a → Post M (0 : Int32)) ∧
  (¬ (M j0a 0) ≤ x1a → Post M (1 : Int32)))))
abbrev rX0_hasGate : Room := ({ frames := 0, cells := 0, slots := 0, locals := 0 } : Room)
def wX0_allGates (Post : Mm → Int32 → Prop) (M : Mm) (j0a : Nat) : Prop :=
  Post M (((1 : Int32) <<< ((M j0a 0) &&& 31)) - (2 : Int32))
abbrev rX0_allGates : Room := ({ frames := 0, cells := 0, slots := 0, locals := 0 } : Room)
def wX0_areGates (Post : Mm → Int32 → Prop) (M : Mm) (j0a : Nat) (x1a : Int32) : Prop :=
  wX0_allGates (fun M1 r2 => ((¬ (x1a &&& (r2 ^^^ (-1 : Int32))) = 0 → Post M1 (0 : Int32)) ∧
  ((x1a &&& (r2 ^^^ (-1 : Int32))) = 0 → Post M1 (1 : Int32)))) M j0a
abbrev rX0_areGates : Room := ({ frames := 1, cells := 0, slots := 0, locals := 20 } : Room)
def wX0_add (Post : Mm → Int32 → Prop) (M : Mm) (j0a : Nat) (x1a : Int32) (x2a : Int32) (x3a : Int32) (x4a : Int32) : Prop :=
  ∀ x5_1 : Int32, x5_1 = (M j0a 0) → (vp_in x5_1 8 ∧ (∀ M2 : Mm, M2 = mu M (j0a + 1) (ix x5_1) x1a → (vp_in x5_1 8 ∧ (∀ M3 : Mm, M3 = mu M2 (j0a + 2) (ix x5_1) x2a → (vp_in x5_1 8 ∧ (∀ M4 : Mm, M4 = mu M3 (j0a + 3) (ix x5_1) x3a → (vp_in x5_1 8 ∧ (∀ M5 : Mm, M5 = mu M4 (j0a + 4) (ix x5_1) x4a → (∀ M6 : Mm, M6 = mu M5 j0a 0 ((M5 j0a 0) + (1 : Int32)) → (Post M6 x5_1))))))))))
abbrev rX0_add : Room := ({ frames := 0, cells := 0, slots := 0, locals := 0 } : Room)
def wX0_isOpen (Post : Mm → Int32 → Prop) (M : Mm) (j0a : Nat) (x1a : Int32) : Prop :=
  ((((M j0a 1) &&& ((1 : Int32) <<< (x1a &&& 31))) = 0 → Post M (0 : Int32)) ∧
  (¬ ((M j0a 1) &&& ((1 : Int32) <<< (x1a &&& 31))) = 0 → Post M (1 : Int32)))
abbrev rX0_isOpen : Room := ({ frames := 0, cells := 0, slots := 0, locals := 0 } : Room)
def wX0_isTended (Post : Mm → Int32 → Prop) (M : Mm) (j0a : Nat) (x1a : Int32) : Prop :=
  vp_in x1a 8 ∧ ((((M (j0a + 5) (ix x1a)) = (-1 : Int32) → Post M (0 : Int32)) ∧
  (¬ (M (j0a + 5) (ix x1a)) = (-1 : Int32) → Post M (1 : Int32))))
abbrev rX0_isTended : Room := ({ frames := 0, cells := 0, slots := 0, locals := 0 } : Room)
def wX0_canBeOpened (Post : Mm → Int32 → Prop) (M : Mm) (j0a : Nat) (x1a : Int32) : Prop :=
  wX0_isTended (fun M1 r2 => ((r2 = 0 → Post M1 (0 : Int32)) ∧
  (¬ r2 = 0 → wX0_isOpen (fun M4 r5 => ((¬ r5 = 0 → Post M4 (0 : Int32)) ∧
  (r5 = 0 → Post M4 (1 : Int32)))) M1 j0a x1a))) M j0a x1a
abbrev rX0_canBeOpened : Room := ({ frames := 1, cells := 0, slots := 0, locals := 21 } : Room)
def wX0_canBeClosed (Post : Mm → Int32 → Prop) (M : Mm) (j0a : Nat) (x1a : Int32) : Prop :=
  wX0_isTended (fun M1 r2 => ((r2 = 0 → Post M1 (0 : Int32)) ∧
  (¬ r2 = 0 → wX0_isOpen (fun M4 r5 => ((r5 = 0 → Post M4 (0 : Int32)) ∧
  (¬ r5 = 0 → Post M4 (1 : Int32)))) M1 j0a x1a))) M j0a x1a
abbrev rX0_canBeClosed : Room := ({ frames := 1, cells := 0, slots := 0, locals := 21 } : Room)
def wX0_moveGate (Post : Mm → Int32 → Prop) (M : Mm) (j0a : Nat) (x1a : Int32) : Prop :=
  ∀ M1 : Mm, M1 = mu M j0a 1 ((M j0a 1) ^^^ ((1 : Int32) <<< (x1a &&& 31))) → (Post M1 (M1 j0a 1))
abbrev rX0_moveGate : Room := ({ frames := 0, cells := 0, slots := 0, locals := 0 } : Room)
def bX0_tended_4 (Post : Mm → Int32 → Prop) (A4 : Mm → Nat → Int32 → Int32 → Prop) (M : Mm) (j0 : Nat) (x1 : Int32) (x2 : Int32) : Prop :=
  (((M j0 0) ≤ x2 → Post M x1) ∧
  (¬ (M j0 0) ≤ x2 → wX0_isTended (fun M3 r4 => ((r4 = 0 → ∀ x2_6 : Int32, x2_6 = x2 + (1 : Int32) → (A4 M3 j0 x1 x2_6)) ∧
  (¬ r4 = 0 → ∀ x1_7 : Int32, x1_7 = (x1 ||| ((1 : Int32) <<< (x2 &&& 31))) → (∀ x2_8 : Int32, x2_8 = x2 + (1 : Int32) → (A4 M3 j0 x1_7 x2_8))))) M j0 x2))
def lX0_tended_4 (Post : Mm → Int32 → Prop) : Nat → Mm → Nat → Int32 → Int32 → Prop
  | 0 => fun _ _ _ _ => False
  | n + 1 => fun M j0 x1 x2 => bX0_tended_4 Post (lX0_tended_4 Post n) M j0 x1 x2
def wX0_tended (Post : Mm → Int32 → Prop) (M : Mm) (j0a : Nat) : Prop :=
  (∃ n1 : Nat, lX0_tended_4 Post n1 M j0a (0 : Int32) (1 : Int32))
abbrev rX0_tended : Room := ({ frames := 1, cells := 0, slots := 0, locals := 21 } : Room)
def bX0_gatesOf_4 (Post : Mm → Int32 → Prop) (A4 : Mm → Nat → Int32 → Int32 → Int32 → Prop) (M : Mm) (j0 : Nat) (x1 : Int32) (x2 : Int32) (x3 : Int32) : Prop :=
  (((M j0 0) ≤ x3 → Post M x2) ∧
  (¬ (M j0 0) ≤ x3 → vp_in x3 8 ∧ (((¬ (M (j0 + 5) (ix x3)) = x1 → ∀ x3_4 : Int32, x3_4 = x3 + (1 : Int32) → (A4 M j0 x1 x2 x3_4)) ∧
  ((M (j0 + 5) (ix x3)) = x1 → ∀ x2_5 : Int32, x2_5 = x2 + (1 : Int32) → (∀ x3_6 : Int32, x3_6 = x3 + (1 : Int32) → (A4 M j0 x1 x2_5 x3_6)))))))
def lX0_gatesOf_4 (Post : Mm → Int32 → Prop) : Nat → Mm → Nat → Int32 → Int32 → Int32 → Prop
  | 0 => fun _ _ _ _ _ => False
  | n + 1 => fun M j0 x1 x2 x3 => bX0_gatesOf_4 Post (lX0_gatesOf_4 Post n) M j0 x1 x2 x3
def wX0_gatesOf (Post : Mm → Int32 → Prop) (M : Mm) (j0a : Nat) (x1a : Int32) : Prop :=
  (∃ n1 : Nat, lX0_gatesOf_4 Post n1 M j0a x1a (0 : Int32) (1 : Int32))
abbrev rX0_gatesOf : Room := ({ frames := 0, cells := 0, slots := 0, locals := 0 } : Room)
def bX0_below_8 (Post : Mm → Int32 → Prop) (A8 : Mm → Nat → Int32 → Int32 → Int32 → Prop) (M : Mm) (j0 : Nat) (x1 : Int32) (x2 : Int32) (x3 : Int32) : Prop :=
  (((M j0 0) ≤ x3 → Post M (x2 &&& (((1 : Int32) <<< (x1 &&& 31)) ^^^ (-1 : Int32)))) ∧
  (¬ (M j0 0) ≤ x3 → vp_in x3 8 ∧ ((((x2 &&& ((1 : Int32) <<< ((M (j0 + 1) (ix x3)) &&& 31))) = 0 → ∀ x3_6 : Int32, x3_6 = x3 + (1 : Int32) → (A8 M j0 x1 x2 x3_6)) ∧
  (¬ (x2 &&& ((1 : Int32) <<< ((M (j0 + 1) (ix x3)) &&& 31))) = 0 → ∀ x2_7 : Int32, x2_7 = (x2 ||| ((1 : Int32) <<< (x3 &&& 31))) → (∀ x3_8 : Int32, x3_8 = x3 + (1 : Int32) → (A8 M j0 x1 x2_7 x3_8)))))))
def lX0_below_8 (Post : Mm → Int32 → Prop) : Nat → Mm → Nat → Int32 → Int32 → Int32 → Prop
  | 0 => fun _ _ _ _ _ => False
  | n + 1 => fun M j0 x1 x2 x3 => bX0_below_8 Post (lX0_below_8 Post n) M j0 x1 x2 x3
def wX0_below (Post : Mm → Int32 → Prop) (M : Mm) (j0a : Nat) (x1a : Int32) : Prop :=
  ∀ x2_1 : Int32, x2_1 = ((1 : Int32) <<< (x1a &&& 31)) → (∀ x3_2 : Int32, x3_2 = (x1a + (1 : Int32)) → ((∃ n3 : Nat, lX0_below_8 Post n3 M j0a x1a x2_1 x3_2)))
abbrev rX0_below : Room := ({ frames := 0, cells := 0, slots := 0, locals := 0 } : Room)
def wX1_become (Post : Mm → Prop) (M : Mm) (j0a : Nat) (j1a : Nat) : Prop :=
  ∀ M1 : Mm, M1 = mu M j0a 0 (M j1a 0) → (∀ M2 : Mm, M2 = mu M1 j0a 1 (M1 j1a 1) → (∀ M3 : Mm, M3 = mcp M2 (j1a + 1) (j0a + 1) 10 → (∀ M4 : Mm, M4 = mcp M3 (j1a + 2) (j0a + 2) 10 → (∀ M5 : Mm, M5 = mcp M4 (j1a + 3) (j0a + 3) 10 → (∀ M6 : Mm, M6 = mcp M5 (j1a + 4) (j0a + 4) 10 → (∀ M7 : Mm, M7 = mcp M6 (j1a + 5) (j0a + 5) 10 → (∀ M8 : Mm, M8 = mcp M7 (j1a + 6) (j0a + 6) 10 → (∀ M9 : Mm, M9 = mcp M8 (j1a + 7) (j0a + 7) 10 → (Post M9)))))))))
abbrev rX1_become : Room := ({ frames := 1, cells := 0, slots := 0, locals := 60 } : Room)
def wX1_has (Post : Mm → Int32 → Prop) (M : Mm) (j0a : Nat) (x1a : Int32) : Prop :=
  ((x1a < 0 → Post M (0 : Int32)) ∧
  (¬ x1a < 0 → (((M j0a 0) ≤ x1a → Post M (0 : Int32)) ∧
  (¬ (M j0a 0) ≤ x1a → Post M (1 : Int32)))))
abbrev rX1_has : Room := ({ frames := 0, cells := 0, slots := 0, locals := 0 } : Room)
def wX1_areFields (Post : Mm → Int32 → Prop) (M : Mm) (j0a : Nat) (x1a : Int32) : Prop :=
  ((¬ (x1a &&& (-((1 : Int32) <<< ((M j0a 0) &&& 31)))) = 0 → Post M (0 : Int32)) ∧
  ((x1a &&& (-((1 : Int32) <<< ((M j0a 0) &&& 31)))) = 0 → Post M (1 : Int32)))
abbrev rX1_areFields : Room := ({ frames := 0, cells := 0, slots := 0, locals := 0 } : Room)
def bX1_add_91 (Post : Mm → Int32 → Prop) (M : Mm) (j0 : Nat) (x5 : Int32) (x6 : Int32) : Prop :=
  vp_in x6 10 ∧ (∀ M12 : Mm, M12 = mu M (j0 + 7) (ix x6) x5 → (∀ M13 : Mm, M13 = mu M12 j0 0 ((M12 j0 0) + (1 : Int32)) → (Post M13 x5)))
def bX1_add_45 (Post : Mm → Int32 → Prop) (A45 : Mm → Nat → Int32 → Int32 → Int32 → Prop) (M : Mm) (j0 : Nat) (x4 : Int32) (x5 : Int32) (x6 : Int32) : Prop :=
  ((x6 ≤ 0 → bX1_add_91 Post M j0 x5 x6) ∧
  (¬ x6 ≤ 0 → vp_in (x6 - (1 : Int32)) 10 ∧ (vp_in (M (j0 + 7) (ix (x6 - (1 : Int32)))) 10 ∧ ((((M (j0 + 4) (ix (M (j0 + 7) (ix (x6 - (1 : Int32)))))) ≤ x4 → bX1_add_91 Post M j0 x5 x6) ∧
  (¬ (M (j0 + 4) (ix (M (j0 + 7) (ix (x6 - (1 : Int32)))))) ≤ x4 → vp_in (x6 - (1 : Int32)) 10 ∧ (vp_in x6 10 ∧ (∀ M10 : Mm, M10 = mu M (j0 + 7) (ix x6) (M (j0 + 7) (ix (x6 - (1 : Int32)))) → (∀ x6_11 : Int32, x6_11 = x6 + (-1 : Int32) → (A45 M10 j0 x4 x5 x6_11))))))))))
def lX1_add_45 (Post : Mm → Int32 → Prop) : Nat → Mm → Nat → Int32 → Int32 → Int32 → Prop
  | 0 => fun _ _ _ _ _ => False
  | n + 1 => fun M j0 x4 x5 x6 => bX1_add_45 Post (lX1_add_45 Post n) M j0 x4 x5 x6
def wX1_add (Post : Mm → Int32 → Prop) (M : Mm) (j0a : Nat) (x1a : Int32) (x2a : Int32) (x3a : Int32) (x4a : Int32) : Prop :=
  ∀ x5_1 : Int32, x5_1 = (M j0a 0) → (vp_in x5_1 10 ∧ (∀ M2 : Mm, M2 = mu M (j0a + 1) (ix x5_1) x1a → (vp_in x5_1 10 ∧ (∀ M3 : Mm, M3 = mu M2 (j0a + 2) (ix x5_1) x2a → (vp_in x5_1 10 ∧ (∀ M4 : Mm, M4 = mu M3 (j0a + 3) (ix x5_1) x3a → (vp_in x5_1 10 ∧ (∀ M5 : Mm, M5 = mu M4 (j0a + 4) (ix x5_1) x4a → (∀ x6_6 : Int32, x6_6 = (M5 j0a 0) → ((∃ n7 : Nat, lX1_add_45 Post n7 M5 j0a x4a x5_1 x6_6)))))))))))
abbrev rX1_add : Room := ({ frames := 0, cells := 0, slots := 0, locals := 0 } : Room)
def wX1_wants (Post : Mm → Int32 → Prop) (M : Mm) (j0a : Nat) (x1a : Int32) : Prop :=
  vp_in x1a 10 ∧ (vp_in x1a 10 ∧ ((((M (j0a + 2) (ix x1a)) ≤ (M (j0a + 5) (ix x1a)) → Post M (0 : Int32)) ∧
  (¬ (M (j0a + 2) (ix x1a)) ≤ (M (j0a + 5) (ix x1a)) → Post M (1 : Int32)))))
abbrev rX1_wants : Room := ({ frames := 0, cells := 0, slots := 0, locals := 0 } : Room)
def bX1_wanting_4 (Post : Mm → Int32 → Prop) (A4 : Mm → Nat → Int32 → Int32 → Prop) (M : Mm) (j0 : Nat) (x1 : Int32) (x2 : Int32) : Prop :=
  (((M j0 0) ≤ x2 → Post M x1) ∧
  (¬ (M j0 0) ≤ x2 → wX1_wants (fun M3 r4 => ((r4 = 0 → ∀ x2_6 : Int32, x2_6 = x2 + (1 : Int32) → (A4 M3 j0 x1 x2_6)) ∧
  (¬ r4 = 0 → ∀ x1_7 : Int32, x1_7 = (x1 ||| ((1 : Int32) <<< (x2 &&& 31))) → (∀ x2_8 : Int32, x2_8 = x2 + (1 : Int32) → (A4 M3 j0 x1_7 x2_8))))) M j0 x2))
def lX1_wanting_4 (Post : Mm → Int32 → Prop) : Nat → Mm → Nat → Int32 → Int32 → Prop
  | 0 => fun _ _ _ _ => False
  | n + 1 => fun M j0 x1 x2 => bX1_wanting_4 Post (lX1_wanting_4 Post n) M j0 x1 x2
def wX1_wanting (Post : Mm → Int32 → Prop) (M : Mm) (j0a : Nat) : Prop :=
  (∃ n1 : Nat, lX1_wanting_4 Post n1 M j0a (0 : Int32) (0 : Int32))
abbrev rX1_wanting : Room := ({ frames := 1, cells := 0, slots := 0, locals := 21 } : Room)
def wX1_calls (Post : Mm → Int32 → Prop) (M : Mm) (j0a : Nat) (x1a : Int32) : Prop :=
  ((((M j0a 1) &&& ((1 : Int32) <<< (x1a &&& 31))) = 0 → Post M (0 : Int32)) ∧
  (¬ ((M j0a 1) &&& ((1 : Int32) <<< (x1a &&& 31))) = 0 → Post M (1 : Int32)))
abbrev rX1_calls : Room := ({ frames := 0, cells := 0, slots := 0, locals := 0 } : Room)
def wX1_canCall (Post : Mm → Int32 → Prop) (M : Mm) (j0a : Nat) (x1a : Int32) : Prop :=
  wX1_wants (fun M1 r2 => ((r2 = 0 → Post M1 (0 : Int32)) ∧
  (¬ r2 = 0 → wX1_calls (fun M4 r5 => ((¬ r5 = 0 → Post M4 (0 : Int32)) ∧
  (r5 = 0 → Post M4 (1 : Int32)))) M1 j0a x1a))) M j0a x1a
abbrev rX1_canCall : Room := ({ frames := 1, cells := 0, slots := 0, locals := 21 } : Room)
def wJ6_bitCount_0f7a4 (Post : Mm → Int32 → Prop) (M : Mm) (x0a : Int32) : Prop :=
  ∀ x0_1 : Int32, x0_1 = (x0a - (((x0a.toUInt32 >>> ((1 : Int32).toUInt32 &&& Int32.toUInt32 31)).toInt32) &&& (1431655765 : Int32))) → (∀ x0_2 : Int32, x0_2 = ((x0_1 &&& (858993459 : Int32)) + (((x0_1.toUInt32 >>> ((2 : Int32).toUInt32 &&& Int32.toUInt32 31)).toInt32) &&& (858993459 : Int32))) → (∀ x0_3 : Int32, x0_3 = ((x0_2 + ((x0_2.toUInt32 >>> ((4 : Int32).toUInt32 &&& Int32.toUInt32 31)).toInt32)) &&& (252645135 : Int32)) → (∀ x0_4 : Int32, x0_4 = (x0_3 + ((x0_3.toUInt32 >>> ((8 : Int32).toUInt32 &&& Int32.toUInt32 31)).toInt32)) → (∀ x0_5 : Int32, x0_5 = (x0_4 + ((x0_4.toUInt32 >>> ((16 : Int32).toUInt32 &&& Int32.toUInt32 31)).toInt32)) → (Post M (x0_5 &&& (63 : Int32)))))))
abbrev rJ6_bitCount_0f7a4 : Room := ({ frames := 0, cells := 0, slots := 0, locals := 0 } : Room)
def wX1_beginCall (Post : Mm → Int32 → Prop) (M : Mm) (j0a : Nat) (x1a : Int32) : Prop :=
  ∀ M1 : Mm, M1 = mu M j0a 1 ((M j0a 1) ||| ((1 : Int32) <<< (x1a &&& 31))) → (wJ6_bitCount_0f7a4 (fun M2 r3 => Post M2 r3) M1 (M1 j0a 1))
abbrev rX1_beginCall : Room := ({ frames := 1, cells := 0, slots := 0, locals := 20 } : Room)
def wX1_give (Post : Mm → Int32 → Prop) (M : Mm) (j0a : Nat) (x1a : Int32) (x2a : Int32) (x3a : Int32) : Prop :=
  vp_in x1a 10 ∧ (vp_in x1a 10 ∧ (vp_in x1a 10 ∧ (∀ x4_1 : Int32, x4_1 = (imn x2a (imn (M (j0a + 3) (ix x1a)) ((M (j0a + 2) (ix x1a)) - (M (j0a + 5) (ix x1a))))) → (vp_in x1a 10 ∧ (vp_in x1a 10 ∧ (∀ M2 : Mm, M2 = mu M (j0a + 5) (ix x1a) ((M (j0a + 5) (ix x1a)) + x4_1) → (vp_in x1a 10 ∧ (vp_in x1a 10 ∧ ((((M2 (j0a + 5) (ix x1a)) < (M2 (j0a + 2) (ix x1a)) → Post M2 x4_1) ∧
  (¬ (M2 (j0a + 5) (ix x1a)) < (M2 (j0a + 2) (ix x1a)) → vp_in x1a 10 ∧ (∀ M4 : Mm, M4 = mu M2 (j0a + 6) (ix x1a) x3a → (Post M4 x4_1)))))))))))))
abbrev rX1_give : Room := ({ frames := 1, cells := 0, slots := 0, locals := 30 } : Room)
def bX2_dropOldest_9 (Post : Mm → Prop) (A9 : Mm → Nat → Nat → Int32 → Prop) (M : Mm) (j0 : Nat) (j1 : Nat) (x2 : Int32) : Prop :=
  (((4 : Int32) ≤ x2 → ∀ M4 : Mm, M4 = mu M (j0 + 1) 3 (nI j1) → (∀ M5 : Mm, M5 = mu M4 j0 0 (3 : Int32) → (Post M5))) ∧
  (¬ (4 : Int32) ≤ x2 → vp_in x2 4 ∧ (kd (ix (M (j0 + 1) (ix x2))) = 4 ∧ (vp_in (x2 - (1 : Int32)) 4 ∧ (∀ M7 : Mm, M7 = mu M (j0 + 1) (ix (x2 - (1 : Int32))) (nI (ix (M (j0 + 1) (ix x2)))) → (∀ x2_8 : Int32, x2_8 = x2 + (1 : Int32) → (A9 M7 j0 j1 x2_8)))))))
def lX2_dropOldest_9 (Post : Mm → Prop) : Nat → Mm → Nat → Nat → Int32 → Prop
  | 0 => fun _ _ _ _ => False
  | n + 1 => fun M j0 j1 x2 => bX2_dropOldest_9 Post (lX2_dropOldest_9 Post n) M j0 j1 x2
def wX2_dropOldest (Post : Mm → Prop) (M : Mm) (j0a : Nat) : Prop :=
  kd (ix (M (j0a + 1) 0)) = 4 ∧ ((∃ n2 : Nat, lX2_dropOldest_9 Post n2 M j0a (ix (M (j0a + 1) 0)) (1 : Int32)))
abbrev rX2_dropOldest : Room := ({ frames := 0, cells := 0, slots := 0, locals := 0 } : Room)
def wX5_become (Post : Mm → Prop) (M : Mm) (j0a : Nat) (j1a : Nat) : Prop :=
  ∀ M1 : Mm, M1 = mu M j0a 0 (M j1a 0) → (∀ M2 : Mm, M2 = mu M1 j0a 1 (M1 j1a 1) → (∀ M3 : Mm, M3 = mu M2 j0a 2 (M2 j1a 2) → (∀ M4 : Mm, M4 = mcp M3 (j1a + 1) (j0a + 1) 8 → (∀ M5 : Mm, M5 = mcp M4 (j1a + 2) (j0a + 2) 8 → (Post M5)))))
abbrev rX5_become : Room := ({ frames := 1, cells := 0, slots := 0, locals := 60 } : Room)
def wX4_become (Post : Mm → Prop) (M : Mm) (j0a : Nat) (j1a : Nat) : Prop :=
  wX0_become (fun M1 => wX1_become (fun M3 => wX5_become (fun M5 => ∀ M7 : Mm, M7 = mu M5 j0a 3 (M5 j1a 3) → (∀ M8 : Mm, M8 = mu M7 j0a 4 (M7 j1a 4) → (∀ M9 : Mm, M9 = mu M8 j0a 5 (M8 j1a 5) → (∀ M10 : Mm, M10 = mu M9 j0a 6 (M9 j1a 6) → (∀ M11 : Mm, M11 = mu M10 j0a 7 (M10 j1a 7) → (Post M11)))))) M3 (j0a + 18) (j1a + 18)) M1 (j0a + 10) (j1a + 10)) M (j0a + 1) (j1a + 1)
abbrev rX4_become : Room := ({ frames := 2, cells := 0, slots := 0, locals := 81 } : Room)
def bX2_record_12 (Post : Mm → Prop) (M : Mm) (j0 : Nat) (j1 : Nat) : Prop :=
  vp_in (M j0 0) 4 ∧ (kd (ix (M (j0 + 1) (ix (M j0 0)))) = 4 ∧ (wX4_become (fun M5 => ∀ M7 : Mm, M7 = mu M5 j0 0 ((M5 j0 0) + (1 : Int32)) → (Post M7)) M (ix (M (j0 + 1) (ix (M j0 0)))) j1))
def wX2_record (Post : Mm → Prop) (M : Mm) (j0a : Nat) (j1a : Nat) : Prop :=
  (((M j0a 0) < (4 : Int32) → bX2_record_12 Post M j0a j1a) ∧
  (¬ (M j0a 0) < (4 : Int32) → wX2_dropOldest (fun M2 => bX2_record_12 Post M2 j0a j1a) M j0a))
abbrev rX2_record : Room := ({ frames := 3, cells := 0, slots := 0, locals := 102 } : Room)
def wX2_restoreLatest (Post : Mm → Int32 → Prop) (M : Mm) (j0a : Nat) (j1a : Nat) : Prop :=
  (((M j0a 0) ≤ 0 → Post M (M j0a 0)) ∧
  (¬ (M j0a 0) ≤ 0 → ∀ M2 : Mm, M2 = mu M j0a 0 ((M j0a 0) - (1 : Int32)) → (vp_in (M2 j0a 0) 4 ∧ (kd (ix (M2 (j0a + 1) (ix (M2 j0a 0)))) = 4 ∧ (wX4_become (fun M4 => Post M4 (M4 j0a 0)) M2 j1a (ix (M2 (j0a + 1) (ix (M2 j0a 0)))))))))
abbrev rX2_restoreLatest : Room := ({ frames := 3, cells := 0, slots := 0, locals := 102 } : Room)
def wX3_append (Post : Mm → Int32 → Prop) (M : Mm) (j0a : Nat) (x1a : Int32) : Prop :=
  vp_in (M j0a 0) 60 ∧ (∀ M1 : Mm, M1 = mu M (j0a + 1) (ix (M j0a 0)) x1a → (∀ M2 : Mm, M2 = mu M1 j0a 0 ((M1 j0a 0) + (1 : Int32)) → (Post M2 (M2 j0a 0))))
abbrev rX3_append : Room := ({ frames := 0, cells := 0, slots := 0, locals := 0 } : Room)
def wX3_characterAt (Post : Mm → Int32 → Prop) (M : Mm) (j0a : Nat) (x1a : Int32) : Prop :=
  ((x1a < 0 → Post M (0 : Int32)) ∧
  (¬ x1a < 0 → (((M j0a 0) ≤ x1a → Post M (0 : Int32)) ∧
  (¬ (M j0a 0) ≤ x1a → vp_in x1a 60 ∧ (Post M (M (j0a + 1) (ix x1a)))))))
abbrev rX3_characterAt : Room := ({ frames := 0, cells := 0, slots := 0, locals := 0 } : Room)
def bX3_readNumber_4 (Post : Mm → Int32 → Prop) (A4 : Mm → Nat → Int32 → Int32 → Prop) (M : Mm) (j0 : Nat) (x1 : Int32) (x2 : Int32) : Prop :=
  (((3 : Int32) ≤ x2 → Post M x1) ∧
  (¬ (3 : Int32) ≤ x2 → wX3_characterAt (fun M3 r4 => ((r4 < (48 : Int32) → Post M3 x1) ∧
  (¬ r4 < (48 : Int32) → ((r4 ≤ (57 : Int32) → ∀ x1_7 : Int32, x1_7 = ((((imx x1 (0 : Int32)) * (10 : Int32)) + r4) - (48 : Int32)) → (∀ M8 : Mm, M8 = mu M3 j0 3 ((M3 j0 3) + (1 : Int32)) → (∀ x2_9 : Int32, x2_9 = x2 + (1 : Int32) → (A4 M8 j0 x1_7 x2_9)))) ∧
  (¬ r4 ≤ (57 : Int32) → Post M3 x1))))) M j0 (M j0 3)))
def lX3_readNumber_4 (Post : Mm → Int32 → Prop) : Nat → Mm → Nat → Int32 → Int32 → Prop
  | 0 => fun _ _ _ _ => False
  | n + 1 => fun M j0 x1 x2 => bX3_readNumber_4 Post (lX3_readNumber_4 Post n) M j0 x1 x2
def wX3_readNumber (Post : Mm → Int32 → Prop) (M : Mm) (j0a : Nat) : Prop :=
  (∃ n1 : Nat, lX3_readNumber_4 Post n1 M j0a (-1 : Int32) (0 : Int32))
abbrev rX3_readNumber : Room := ({ frames := 1, cells := 0, slots := 0, locals := 30 } : Room)
def wX3_skip (Post : Mm → Int32 → Prop) (M : Mm) (j0a : Nat) (x1a : Int32) : Prop :=
  wX3_characterAt (fun M1 r2 => ((r2 = x1a → ∀ M4 : Mm, M4 = mu M1 j0a 3 ((M1 j0a 3) + (1 : Int32)) → (Post M4 (1 : Int32))) ∧
  (¬ r2 = x1a → Post M1 (0 : Int32)))) M j0a (M j0a 3)
abbrev rX3_skip : Room := ({ frames := 1, cells := 0, slots := 0, locals := 21 } : Room)
def bX3_readOrder_123 (Post : Mm → Int32 → Prop) (M : Mm) (j0 : Nat) : Prop :=
  wX3_skip (fun M22 r23 => (r23 = 0 ∨ r23 = 1) ∧ (Post M22 r23)) M j0 (59 : Int32)
def bX3_readOrder_59 (Post : Mm → Int32 → Prop) (M : Mm) (j0 : Nat) : Prop :=
  ∀ M9 : Mm, M9 = mu M j0 3 ((M j0 3) + (1 : Int32)) → (wX3_readNumber (fun M10 r11 => ∀ M12 : Mm, M12 = mu M10 j0 5 r11 → (((0 ≤ (M12 j0 5) → ((¬ (M12 j0 4) = (114 : Int32) → bX3_readOrder_123 Post M12 j0) ∧
  ((M12 j0 4) = (114 : Int32) → wX3_skip (fun M15 r16 => ((¬ r16 = 0 → wX3_readNumber (fun M18 r19 => ∀ M20 : Mm, M20 = mu M18 j0 6 r19 → (((0 ≤ (M20 j0 6) → bX3_readOrder_123 Post M20 j0) ∧
  (¬ 0 ≤ (M20 j0 6) → Post M20 (0 : Int32))))) M15 j0) ∧
  (r16 = 0 → Post M15 (0 : Int32)))) M12 j0 (44 : Int32)))) ∧
  (¬ 0 ≤ (M12 j0 5) → Post M12 (0 : Int32))))) M9 j0)
def wX3_readOrder (Post : Mm → Int32 → Prop) (M : Mm) (j0a : Nat) : Prop :=
  wX3_characterAt (fun M1 r2 => ∀ M3 : Mm, M3 = mu M1 j0a 4 r2 → ((((M3 j0a 4) = (111 : Int32) → bX3_readOrder_59 Post M3 j0a) ∧
  (¬ (M3 j0a 4) = (111 : Int32) → (((M3 j0a 4) = (99 : Int32) → bX3_readOrder_59 Post M3 j0a) ∧
  (¬ (M3 j0a 4) = (99 : Int32) → (((M3 j0a 4) = (121 : Int32) → bX3_readOrder_59 Post M3 j0a) ∧
  (¬ (M3 j0a 4) = (121 : Int32) → (((M3 j0a 4) = (104 : Int32) → bX3_readOrder_59 Post M3 j0a) ∧
  (¬ (M3 j0a 4) = (104 : Int32) → (((M3 j0a 4) = (114 : Int32) → bX3_readOrder_59 Post M3 j0a) ∧
  (¬ (M3 j0a 4) = (114 : Int32) → Post M3 (0 : Int32))))))))))))) M j0a (M j0a 3)
abbrev rX3_readOrder : Room := ({ frames := 2, cells := 0, slots := 0, locals := 53 } : Room)
def wX6_isOutside (Post : Mm → Int32 → Prop) (M : Mm) (x0a : Int32) (x1a : Int32) (x2a : Int32) : Prop :=
  ((x0a < x1a → Post M (1 : Int32)) ∧
  (¬ x0a < x1a → ((x0a ≤ x2a → Post M (0 : Int32)) ∧
  (¬ x0a ≤ x2a → Post M (1 : Int32)))))
abbrev rX6_isOutside : Room := ({ frames := 0, cells := 0, slots := 0, locals := 0 } : Room)
def bX3_isInRange_48 (Post : Mm → Int32 → Prop) (M : Mm) (j0 : Nat) (j1 : Nat) : Prop :=
  wX0_hasGate (fun M11 r12 => (r12 = 0 ∨ r12 = 1) ∧ (Post M11 r12)) M (j1 + 1) (M j0 5)
def wX3_isInRange (Post : Mm → Int32 → Prop) (M : Mm) (j0a : Nat) (j1a : Nat) : Prop :=
  ∀ sw1 : Int32, sw1 = (M j0a 4) → (((sw1 = (99 : Int32) → bX3_isInRange_48 Post M j0a j1a) ∧
  (¬ sw1 = (99 : Int32) → ((sw1 = (111 : Int32) → bX3_isInRange_48 Post M j0a j1a) ∧
  (¬ sw1 = (111 : Int32) → ((sw1 = (114 : Int32) → wX6_isOutside (fun M5 r6 => ((¬ r6 = 0 → Post M5 (0 : Int32)) ∧
  (r6 = 0 → Post M5 (1 : Int32)))) M (M j0a 5) (1 : Int32) (10 : Int32)) ∧
  (¬ sw1 = (114 : Int32) → ((sw1 = (121 : Int32) → wX1_has (fun M9 r10 => (r10 = 0 ∨ r10 = 1) ∧ (Post M9 r10)) M (j1a + 10) (M j0a 5)) ∧
  (¬ sw1 = (121 : Int32) → Post M (1 : Int32))))))))))
abbrev rX3_isInRange : Room := ({ frames := 1, cells := 0, slots := 0, locals := 22 } : Room)
def wX4_hasHoursLeft (Post : Mm → Int32 → Prop) (M : Mm) (j0a : Nat) (x1a : Int32) : Prop :=
  ((((20000 : Int32) - (M j0a 3)) < x1a → Post M (0 : Int32)) ∧
  (¬ ((20000 : Int32) - (M j0a 3)) < x1a → Post M (1 : Int32)))
abbrev rX4_hasHoursLeft : Room := ({ frames := 0, cells := 0, slots := 0, locals := 0 } : Room)
def wX3_isPossible (Post : Mm → Int32 → Prop) (M : Mm) (j0a : Nat) (j1a : Nat) : Prop :=
  ∀ sw1 : Int32, sw1 = (M j0a 4) → (((sw1 = (99 : Int32) → wX0_canBeClosed (fun M3 r4 => (r4 = 0 ∨ r4 = 1) ∧ (Post M3 r4)) M (j1a + 1) (M j0a 5)) ∧
  (¬ sw1 = (99 : Int32) → ((sw1 = (104 : Int32) → wX4_hasHoursLeft (fun M6 r7 => (r7 = 0 ∨ r7 = 1) ∧ (Post M6 r7)) M j1a (1 : Int32)) ∧
  (¬ sw1 = (104 : Int32) → ((sw1 = (111 : Int32) → wX0_canBeOpened (fun M9 r10 => (r10 = 0 ∨ r10 = 1) ∧ (Post M9 r10)) M (j1a + 1) (M j0a 5)) ∧
  (¬ sw1 = (111 : Int32) → ((sw1 = (121 : Int32) → wX1_canCall (fun M12 r13 => (r13 = 0 ∨ r13 = 1) ∧ (Post M12 r13)) M (j1a + 10) (M j0a 5)) ∧
  (¬ sw1 = (121 : Int32) → wX4_hasHoursLeft (fun M14 r15 => (r15 = 0 ∨ r15 = 1) ∧ (Post M14 r15)) M j1a (M j0a 5))))))))))
abbrev rX3_isPossible : Room := ({ frames := 2, cells := 0, slots := 0, locals := 42 } : Room)
def wX3_reasonAgainst (Post : Mm → Int32 → Prop) (M : Mm) (j0a : Nat) (j1a : Nat) : Prop :=
  wX3_readOrder (fun M1 r2 => ((¬ r2 = 0 → wX3_isInRange (fun M4 r5 => ((¬ r5 = 0 → wX3_isPossible (fun M7 r8 => ((r8 = 0 → Post M7 (3 : Int32)) ∧
  (¬ r8 = 0 → Post M7 (0 : Int32)))) M4 j0a j1a) ∧
  (r5 = 0 → ∀ M10 : Mm, M10 = mu M4 j0a 8 (0 : Int32) → (Post M10 (2 : Int32))))) M1 j0a j1a) ∧
  (r2 = 0 → ∀ M11 : Mm, M11 = mu M1 j0a 8 ((M1 j0a 3) - (M1 j0a 2)) → (Post M11 (1 : Int32))))) M j0a
abbrev rX3_reasonAgainst : Room := ({ frames := 3, cells := 0, slots := 0, locals := 73 } : Room)
def bJ7_fill_53178_5 (Post : Mm → Prop) (A5 : Mm → Nat → Int32 → Int32 → Int32 → Prop) (M : Mm) (j0 : Nat) (x1 : Int32) (x2 : Int32) (x3 : Int32) : Prop :=
  ((x3 ≤ x2 → Post M) ∧
  (¬ x3 ≤ x2 → vp_in x2 8 ∧ (∀ M3 : Mm, M3 = mu M j0 (ix x2) x1 → (∀ x2_4 : Int32, x2_4 = x2 + (1 : Int32) → (A5 M3 j0 x1 x2_4 x3)))))
def lJ7_fill_53178_5 (Post : Mm → Prop) : Nat → Mm → Nat → Int32 → Int32 → Int32 → Prop
  | 0 => fun _ _ _ _ _ => False
  | n + 1 => fun M j0 x1 x2 x3 => bJ7_fill_53178_5 Post (lJ7_fill_53178_5 Post n) M j0 x1 x2 x3
def wJ7_fill_53178 (Post : Mm → Prop) (M : Mm) (j0a : Nat) (x1a : Int32) : Prop :=
  (∃ n1 : Nat, lJ7_fill_53178_5 Post n1 M j0a x1a (0 : Int32) (8 : Int32))
abbrev rJ7_fill_53178 : Room := ({ frames := 0, cells := 0, slots := 0, locals := 0 } : Room)
def bX4_findCallsBelow_92 (Post : Mm → Prop) (A92 : Mm → Nat → Int32 → Prop) (M : Mm) (j0 : Nat) (x1 : Int32) : Prop :=
  ((x1 ≤ 0 → Post M) ∧
  (¬ x1 ≤ 0 → wX0_isOpen (fun M17 r18 => ((r18 = 0 → ∀ x1_20 : Int32, x1_20 = x1 + (-1 : Int32) → (A92 M17 j0 x1_20)) ∧
  (¬ r18 = 0 → vp_in x1 8 ∧ (∀ x2_21 : Int32, x2_21 = (M17 ((j0 + 1) + 1) (ix x1)) → (vp_in x2_21 8 ∧ (vp_in x1 8 ∧ (vp_in x1 8 ∧ (vp_in x2_21 8 ∧ (∀ M22 : Mm, M22 = mu M17 (j0 + 22) (ix x2_21) (imn (M17 (j0 + 22) (ix x2_21)) (imn (M17 (j0 + 21) (ix x1)) (M17 (j0 + 22) (ix x1)))) → (∀ x1_23 : Int32, x1_23 = x1 + (-1 : Int32) → (A92 M22 j0 x1_23))))))))))) M (j0 + 1) x1))
def lX4_findCallsBelow_92 (Post : Mm → Prop) : Nat → Mm → Nat → Int32 → Prop
  | 0 => fun _ _ _ => False
  | n + 1 => fun M j0 x1 => bX4_findCallsBelow_92 Post (lX4_findCallsBelow_92 Post n) M j0 x1
def bX4_findCallsBelow_20 (Post : Mm → Prop) (A20 : Mm → Nat → Int32 → Prop) (M : Mm) (j0 : Nat) (x1 : Int32) : Prop :=
  (((M (j0 + 10) 0) ≤ x1 → ∀ x1_7 : Int32, x1_7 = ((M (j0 + 1) 0) - (1 : Int32)) → ((∃ n8 : Nat, lX4_findCallsBelow_92 Post n8 M j0 x1_7))) ∧
  (¬ (M (j0 + 10) 0) ≤ x1 → wX1_calls (fun M9 r10 => ((r10 = 0 → ∀ x1_12 : Int32, x1_12 = x1 + (1 : Int32) → (A20 M9 j0 x1_12)) ∧
  (¬ r10 = 0 → vp_in x1 10 ∧ (∀ x2_13 : Int32, x2_13 = (M9 ((j0 + 10) + 1) (ix x1)) → (vp_in x2_13 8 ∧ (vp_in x1 10 ∧ (vp_in x2_13 8 ∧ (∀ M14 : Mm, M14 = mu M9 (j0 + 21) (ix x2_13) (imn (M9 (j0 + 21) (ix x2_13)) (M9 ((j0 + 10) + 4) (ix x1))) → (∀ x1_15 : Int32, x1_15 = x1 + (1 : Int32) → (A20 M14 j0 x1_15)))))))))) M (j0 + 10) x1))
def lX4_findCallsBelow_20 (Post : Mm → Prop) : Nat → Mm → Nat → Int32 → Prop
  | 0 => fun _ _ _ => False
  | n + 1 => fun M j0 x1 => bX4_findCallsBelow_20 Post (lX4_findCallsBelow_20 Post n) M j0 x1
def wX4_findCallsBelow (Post : Mm → Prop) (M : Mm) (j0a : Nat) : Prop :=
  wJ7_fill_53178 (fun M1 => wJ7_fill_53178 (fun M3 => (∃ n5 : Nat, lX4_findCallsBelow_20 Post n5 M3 j0a (0 : Int32))) M1 (j0a + 22) (100 : Int32)) M (j0a + 21) (100 : Int32)
abbrev rX4_findCallsBelow : Room := ({ frames := 1, cells := 0, slots := 0, locals := 30 } : Room)
def bX4_findPassingGates_125 (Post : Mm → Prop) (A61 : Mm → Nat → Int32 → Int32 → Prop) (M : Mm) (j0 : Nat) (x1 : Int32) (x2 : Int32) : Prop :=
  ∀ M23 : Mm, M23 = mu M j0 10 ((M j0 10) ||| ((1 : Int32) <<< (x2 &&& 31))) → (∀ x2_24 : Int32, x2_24 = x2 + (-1 : Int32) → (A61 M23 j0 x1 x2_24))
def bX4_findPassingGates_97 (Post : Mm → Prop) (A61 : Mm → Nat → Int32 → Int32 → Prop) (M : Mm) (j0 : Nat) (x1 : Int32) (x2 : Int32) (x3 : Int32) : Prop :=
  wX0_isOpen (fun M16 r17 => ((r17 = 0 → ∀ x2_19 : Int32, x2_19 = x2 + (-1 : Int32) → (A61 M16 j0 x1 x2_19)) ∧
  (¬ r17 = 0 → vp_in x2 8 ∧ (((¬ (M16 ((j0 + 1) + 2) (ix x2)) = (2 : Int32) → bX4_findPassingGates_125 Post A61 M16 j0 x1 x2) ∧
  ((M16 ((j0 + 1) + 2) (ix x2)) = (2 : Int32) → ((x3 = 0 → ∀ x2_22 : Int32, x2_22 = x2 + (-1 : Int32) → (A61 M16 j0 x1 x2_22)) ∧
  (¬ x3 = 0 → bX4_findPassingGates_125 Post A61 M16 j0 x1 x2)))))))) M (j0 + 1) x2
def bX4_findPassingGates_78 (Post : Mm → Prop) (A61 : Mm → Nat → Int32 → Int32 → Prop) (M : Mm) (j0 : Nat) (x1 : Int32) (x2 : Int32) (t0 : Int32) : Prop :=
  ((t0 = 0 → bX4_findPassingGates_97 Post A61 M j0 x1 x2 t0) ∧
  (¬ t0 = 0 → vp_in x2 8 ∧ (∀ x1_15 : Int32, x1_15 = (x1 ||| ((1 : Int32) <<< ((M ((j0 + 1) + 1) (ix x2)) &&& 31))) → (bX4_findPassingGates_97 Post A61 M j0 x1_15 x2 t0))))
def bX4_findPassingGates_61 (Post : Mm → Prop) (A61 : Mm → Nat → Int32 → Int32 → Prop) (M : Mm) (j0 : Nat) (x1 : Int32) (x2 : Int32) : Prop :=
  ((x2 ≤ 0 → Post M) ∧
  (¬ x2 ≤ 0 → (((x1 &&& ((1 : Int32) <<< (x2 &&& 31))) = 0 → bX4_findPassingGates_78 Post A61 M j0 x1 x2 (0 : Int32)) ∧
  (¬ (x1 &&& ((1 : Int32) <<< (x2 &&& 31))) = 0 → bX4_findPassingGates_78 Post A61 M j0 x1 x2 (1 : Int32)))))
def lX4_findPassingGates_61 (Post : Mm → Prop) : Nat → Mm → Nat → Int32 → Int32 → Prop
  | 0 => fun _ _ _ _ => False
  | n + 1 => fun M j0 x1 x2 => bX4_findPassingGates_61 Post (lX4_findPassingGates_61 Post n) M j0 x1 x2
def bX4_findPassingGates_4 (Post : Mm → Prop) (A4 : Mm → Nat → Int32 → Int32 → Prop) (M : Mm) (j0 : Nat) (x1 : Int32) (x2 : Int32) : Prop :=
  (((M (j0 + 10) 0) ≤ x2 → ∀ M3 : Mm, M3 = mu M j0 10 (0 : Int32) → (∀ x2_4 : Int32, x2_4 = ((M3 (j0 + 1) 0) - (1 : Int32)) → ((∃ n5 : Nat, lX4_findPassingGates_61 Post n5 M3 j0 x1 x2_4)))) ∧
  (¬ (M (j0 + 10) 0) ≤ x2 → wX1_wants (fun M6 r7 => ((r7 = 0 → ∀ x2_9 : Int32, x2_9 = x2 + (1 : Int32) → (A4 M6 j0 x1 x2_9)) ∧
  (¬ r7 = 0 → vp_in x2 10 ∧ (∀ x1_10 : Int32, x1_10 = (x1 ||| ((1 : Int32) <<< ((M6 ((j0 + 10) + 1) (ix x2)) &&& 31))) → (∀ x2_11 : Int32, x2_11 = x2 + (1 : Int32) → (A4 M6 j0 x1_10 x2_11)))))) M (j0 + 10) x2))
def lX4_findPassingGates_4 (Post : Mm → Prop) : Nat → Mm → Nat → Int32 → Int32 → Prop
  | 0 => fun _ _ _ _ => False
  | n + 1 => fun M j0 x1 x2 => bX4_findPassingGates_4 Post (lX4_findPassingGates_4 Post n) M j0 x1 x2
def wX4_findPassingGates (Post : Mm → Prop) (M : Mm) (j0a : Nat) : Prop :=
  (∃ n1 : Nat, lX4_findPassingGates_4 Post n1 M j0a (0 : Int32) (0 : Int32))
abbrev rX4_findPassingGates : Room := ({ frames := 1, cells := 0, slots := 0, locals := 21 } : Room)
def wX4_seepAway (Post : Mm → Int32 → Prop) (M : Mm) (j0a : Nat) (x1a : Int32) (x2a : Int32) : Prop :=
  vp_in x1a 8 ∧ (∀ x3_1 : Int32, x3_1 = (((x2a * (M ((j0a + 1) + 4) (ix x1a))) + (999 : Int32)) / (1000 : Int32)) → (vp_in x1a 8 ∧ (vp_in x1a 8 ∧ (∀ M2 : Mm, M2 = mu M ((j0a + 1) + 7) (ix x1a) ((M ((j0a + 1) + 7) (ix x1a)) + x3_1) → (∀ M3 : Mm, M3 = mu M2 j0a 6 ((M2 j0a 6) + x3_1) → (Post M3 x3_1))))))
abbrev rX4_seepAway : Room := ({ frames := 0, cells := 0, slots := 0, locals := 0 } : Room)
def wX4_mayTake (Post : Mm → Int32 → Prop) (M : Mm) (j0a : Nat) (x1a : Int32) : Prop :=
  vp_in x1a 10 ∧ (vp_in (M ((j0a + 10) + 1) (ix x1a)) 8 ∧ (vp_in x1a 10 ∧ ((((M (j0a + 22) (ix (M ((j0a + 10) + 1) (ix x1a)))) < (M ((j0a + 10) + 4) (ix x1a)) → Post M (0 : Int32)) ∧
  (¬ (M (j0a + 22) (ix (M ((j0a + 10) + 1) (ix x1a)))) < (M ((j0a + 10) + 4) (ix x1a)) → Post M (1 : Int32))))))
abbrev rX4_mayTake : Room := ({ frames := 0, cells := 0, slots := 0, locals := 0 } : Room)
def bX4_giveToFields_5 (Post : Mm → Int32 → Prop) (A5 : Mm → Nat → Int32 → Int32 → Int32 → Int32 → Prop) (M : Mm) (j0 : Nat) (x1 : Int32) (x2 : Int32) (x3 : Int32) (x4 : Int32) : Prop :=
  (((M (j0 + 10) 0) ≤ x4 → ∀ M3 : Mm, M3 = mu M j0 5 ((M j0 5) + (x2 - x3)) → (Post M3 (x2 - x3))) ∧
  (¬ (M (j0 + 10) 0) ≤ x4 → vp_in x4 10 ∧ (∀ x5_4 : Int32, x5_4 = (M ((j0 + 10) + 7) (ix x4)) → (vp_in x5_4 10 ∧ (((¬ (M ((j0 + 10) + 1) (ix x5_4)) = x1 → ∀ x4_6 : Int32, x4_6 = x4 + (1 : Int32) → (A5 M j0 x1 x2 x3 x4_6)) ∧
  ((M ((j0 + 10) + 1) (ix x5_4)) = x1 → wX1_wants (fun M7 r8 => ((r8 = 0 → ∀ x4_10 : Int32, x4_10 = x4 + (1 : Int32) → (A5 M7 j0 x1 x2 x3 x4_10)) ∧
  (¬ r8 = 0 → wX4_mayTake (fun M11 r12 => ((r12 = 0 → ∀ x4_14 : Int32, x4_14 = x4 + (1 : Int32) → (A5 M11 j0 x1 x2 x3 x4_14)) ∧
  (¬ r12 = 0 → wX1_give (fun M15 r16 => ∀ x3_17 : Int32, x3_17 = (x3 - r16) → (∀ x4_18 : Int32, x4_18 = x4 + (1 : Int32) → (A5 M15 j0 x1 x2 x3_17 x4_18))) M11 (j0 + 10) x5_4 x3 (M11 j0 3)))) M7 j0 x5_4))) M (j0 + 10) x5_4)))))))
def lX4_giveToFields_5 (Post : Mm → Int32 → Prop) : Nat → Mm → Nat → Int32 → Int32 → Int32 → Int32 → Prop
  | 0 => fun _ _ _ _ _ _ => False
  | n + 1 => fun M j0 x1 x2 x3 x4 => bX4_giveToFields_5 Post (lX4_giveToFields_5 Post n) M j0 x1 x2 x3 x4
def wX4_giveToFields (Post : Mm → Int32 → Prop) (M : Mm) (j0a : Nat) (x1a : Int32) (x2a : Int32) : Prop :=
  (∃ n1 : Nat, lX4_giveToFields_5 Post n1 M j0a x1a x2a x2a (0 : Int32))
abbrev rX4_giveToFields : Room := ({ frames := 2, cells := 0, slots := 0, locals := 54 } : Room)
def wX4_isPassingFrom (Post : Mm → Int32 → Prop) (M : Mm) (j0a : Nat) (x1a : Int32) (x2a : Int32) : Prop :=
  vp_in x2a 8 ∧ (((¬ (M ((j0a + 1) + 1) (ix x2a)) = x1a → Post M (0 : Int32)) ∧
  ((M ((j0a + 1) + 1) (ix x2a)) = x1a → ((((M j0a 10) &&& ((1 : Int32) <<< (x2a &&& 31))) = 0 → Post M (0 : Int32)) ∧
  (¬ ((M j0a 10) &&& ((1 : Int32) <<< (x2a &&& 31))) = 0 → Post M (1 : Int32))))))
abbrev rX4_isPassingFrom : Room := ({ frames := 0, cells := 0, slots := 0, locals := 0 } : Room)
def bX4_throughGate_22 (Post : Mm → Int32 → Prop) (M : Mm) (j0 : Nat) (x1 : Int32) (t0 : Int32) : Prop :=
  vp_in x1 8 ∧ (Post M (imn t0 (M ((j0 + 1) + 3) (ix x1))))
def wX4_throughGate (Post : Mm → Int32 → Prop) (M : Mm) (j0a : Nat) (x1a : Int32) (x2a : Int32) : Prop :=
  vp_in x1a 8 ∧ (((¬ (M ((j0a + 1) + 2) (ix x1a)) = (1 : Int32) → bX4_throughGate_22 Post M j0a x1a x2a) ∧
  ((M ((j0a + 1) + 2) (ix x1a)) = (1 : Int32) → bX4_throughGate_22 Post M j0a x1a ((x2a + (1 : Int32)) / (2 : Int32)))))
abbrev rX4_throughGate : Room := ({ frames := 1, cells := 0, slots := 0, locals := 30 } : Room)
def bX4_partAmongGates_110 (Post : Mm → Int32 → Prop) (A62 : Mm → Nat → Int32 → Int32 → Int32 → Int32 → Int32 → Prop) (M : Mm) (j0 : Nat) (x1 : Int32) (x4 : Int32) (x5 : Int32) (x6 : Int32) (x7 : Int32) (t0 : Int32) (t1 : Int32) (js2 : Nat) (t3 : Int32) (js4 : Nat) : Prop :=
  wX4_throughGate (fun M21 r22 => vp_in t3 8 ∧ (∀ M23 : Mm, M23 = mu M21 js4 (ix t3) r22 → (vp_in x7 8 ∧ (∀ x6_24 : Int32, x6_24 = (x6 + (M23 ((j0 + 1) + 6) (ix x7))) → (∀ x5_25 : Int32, x5_25 = x5 + (-1 : Int32) → (∀ x7_26 : Int32, x7_26 = x7 + (1 : Int32) → (A62 M23 j0 x1 x4 x5_25 x6_24 x7_26))))))) M js2 t1 t0
def bX4_partAmongGates_62 (Post : Mm → Int32 → Prop) (A62 : Mm → Nat → Int32 → Int32 → Int32 → Int32 → Int32 → Prop) (M : Mm) (j0 : Nat) (x1 : Int32) (x4 : Int32) (x5 : Int32) (x6 : Int32) (x7 : Int32) : Prop :=
  (((M (j0 + 1) 0) ≤ x7 → Post M x6) ∧
  (¬ (M (j0 + 1) 0) ≤ x7 → wX4_isPassingFrom (fun M16 r17 => ((r17 = 0 → ∀ x7_19 : Int32, x7_19 = x7 + (1 : Int32) → (A62 M16 j0 x1 x4 x5 x6 x7_19)) ∧
  (¬ r17 = 0 → ((x5 ≤ 0 → bX4_partAmongGates_110 Post A62 M16 j0 x1 x4 x5 x6 x7 x4 x7 j0 x7 ((j0 + 1) + 6)) ∧
  (¬ x5 ≤ 0 → bX4_partAmongGates_110 Post A62 M16 j0 x1 x4 x5 x6 x7 (x4 + (1 : Int32)) x7 j0 x7 ((j0 + 1) + 6)))))) M j0 x1 x7))
def lX4_partAmongGates_62 (Post : Mm → Int32 → Prop) : Nat → Mm → Nat → Int32 → Int32 → Int32 → Int32 → Int32 → Prop
  | 0 => fun _ _ _ _ _ _ _ => False
  | n + 1 => fun M j0 x1 x4 x5 x6 x7 => bX4_partAmongGates_62 Post (lX4_partAmongGates_62 Post n) M j0 x1 x4 x5 x6 x7
def bX4_partAmongGates_7 (Post : Mm → Int32 → Prop) (A7 : Mm → Nat → Int32 → Int32 → Int32 → Int32 → Prop) (M : Mm) (j0 : Nat) (x1 : Int32) (x2 : Int32) (x3 : Int32) (x4 : Int32) : Prop :=
  (((M (j0 + 1) 0) ≤ x4 → ((¬ x3 = 0 → ¬ x3 = 0 ∧ (∀ x4_5 : Int32, x4_5 = (x2 / x3) → (¬ x3 = 0 ∧ (∀ x5_6 : Int32, x5_6 = (x2 - x2 / x3 * x3) → (∀ x7_7 : Int32, x7_7 = (x1 + (1 : Int32)) → ((∃ n8 : Nat, lX4_partAmongGates_62 Post n8 M j0 x1 x4_5 x5_6 (0 : Int32) x7_7))))))) ∧
  (x3 = 0 → Post M (0 : Int32)))) ∧
  (¬ (M (j0 + 1) 0) ≤ x4 → wX4_isPassingFrom (fun M9 r10 => ((r10 = 0 → ∀ x4_12 : Int32, x4_12 = x4 + (1 : Int32) → (A7 M9 j0 x1 x2 x3 x4_12)) ∧
  (¬ r10 = 0 → ∀ x3_13 : Int32, x3_13 = x3 + (1 : Int32) → (∀ x4_14 : Int32, x4_14 = x4 + (1 : Int32) → (A7 M9 j0 x1 x2 x3_13 x4_14))))) M j0 x1 x4))
def lX4_partAmongGates_7 (Post : Mm → Int32 → Prop) : Nat → Mm → Nat → Int32 → Int32 → Int32 → Int32 → Prop
  | 0 => fun _ _ _ _ _ _ => False
  | n + 1 => fun M j0 x1 x2 x3 x4 => bX4_partAmongGates_7 Post (lX4_partAmongGates_7 Post n) M j0 x1 x2 x3 x4
def wX4_partAmongGates (Post : Mm → Int32 → Prop) (M : Mm) (j0a : Nat) (x1a : Int32) (x2a : Int32) : Prop :=
  ∀ x4_1 : Int32, x4_1 = (x1a + (1 : Int32)) → ((∃ n2 : Nat, lX4_partAmongGates_7 Post n2 M j0a x1a x2a (0 : Int32) x4_1))
abbrev rX4_partAmongGates : Room := ({ frames := 2, cells := 0, slots := 0, locals := 53 } : Room)
def wX4_endCalls (Post : Mm → Prop) (M : Mm) (j0a : Nat) : Prop :=
  wX1_wanting (fun M1 r2 => ∀ M3 : Mm, M3 = mu M1 (j0a + 10) 1 ((M (j0a + 10) 1) &&& r2) → (Post M3)) M (j0a + 10)
abbrev rX4_endCalls : Room := ({ frames := 2, cells := 0, slots := 0, locals := 43 } : Room)
def bX4_passHour_76 (Post : Mm → Int32 → Prop) (A76 : Mm → Nat → Int32 → Int32 → Prop) (M : Mm) (j0 : Nat) (x2 : Int32) (x3 : Int32) : Prop :=
  (((M (j0 + 1) 0) ≤ x3 → wX4_endCalls (fun M13 => Post M13 ((M13 j0 5) - x2)) M j0) ∧
  (¬ (M (j0 + 1) 0) ≤ x3 → vp_in x3 8 ∧ (∀ x4_15 : Int32, x4_15 = (M ((j0 + 1) + 6) (ix x3)) → (wX4_seepAway (fun M16 r17 => ∀ x4_18 : Int32, x4_18 = (x4_15 - r17) → (wX4_giveToFields (fun M19 r20 => ∀ x4_21 : Int32, x4_21 = (x4_18 - r20) → (wX4_partAmongGates (fun M22 r23 => ∀ x4_24 : Int32, x4_24 = (x4_21 - r23) → (vp_in x3 8 ∧ (vp_in x3 8 ∧ (∀ M25 : Mm, M25 = mu M22 ((j0 + 1) + 8) (ix x3) ((M22 ((j0 + 1) + 8) (ix x3)) + x4_24) → (∀ M26 : Mm, M26 = mu M25 j0 7 ((M25 j0 7) + x4_24) → (∀ x3_27 : Int32, x3_27 = x3 + (1 : Int32) → (A76 M26 j0 x2 x3_27))))))) M19 j0 x3 x4_21)) M16 j0 x3 x4_18)) M j0 x3 x4_15))))
def lX4_passHour_76 (Post : Mm → Int32 → Prop) : Nat → Mm → Nat → Int32 → Int32 → Prop
  | 0 => fun _ _ _ _ => False
  | n + 1 => fun M j0 x2 x3 => bX4_passHour_76 Post (lX4_passHour_76 Post n) M j0 x2 x3
def wX4_passHour (Post : Mm → Int32 → Prop) (M : Mm) (j0a : Nat) (x1a : Int32) : Prop :=
  ∀ x2_1 : Int32, x2_1 = (M j0a 5) → (∀ M2 : Mm, M2 = mu M j0a 3 ((M j0a 3) + (1 : Int32)) → (wX4_findCallsBelow (fun M3 => wX4_findPassingGates (fun M5 => wJ7_fill_53178 (fun M7 => ∀ M9 : Mm, M9 = mu M7 ((j0a + 1) + 6) 0 (imn x1a (M7 ((j0a + 1) + 3) 0)) → (∀ M10 : Mm, M10 = mu M9 j0a 4 ((M9 j0a 4) + (M9 ((j0a + 1) + 6) 0)) → ((∃ n11 : Nat, lX4_passHour_76 Post n11 M10 j0a x2_1 (0 : Int32))))) M5 ((j0a + 1) + 6) (0 : Int32)) M3 j0a) M2 j0a))
abbrev rX4_passHour : Room := ({ frames := 3, cells := 0, slots := 0, locals := 80 } : Room)
def wX5_gatesFor (Post : Mm → Int32 → Prop) (M : Mm) (j0a : Nat) (x1a : Int32) : Prop :=
  (((M j0a 0) ≤ 0 → Post M x1a) ∧
  (¬ (M j0a 0) ≤ 0 → ((¬ (M j0a 2) = 0 → Post M x1a) ∧
  ((M j0a 2) = 0 → vp_in (M j0a 1) 8 ∧ (Post M (M (j0a + 1) (ix (M j0a 1))))))))
abbrev rX5_gatesFor : Room := ({ frames := 0, cells := 0, slots := 0, locals := 0 } : Room)
def wX5_goOn (Post : Mm → Prop) (M : Mm) (j0a : Nat) : Prop :=
  ((¬ (M j0a 0) = 0 → ∀ M2 : Mm, M2 = mu M j0a 2 ((M j0a 2) + (1 : Int32)) → (vp_in (M2 j0a 1) 8 ∧ ((((M2 j0a 2) < (M2 (j0a + 2) (ix (M2 j0a 1))) → Post M2) ∧
  (¬ (M2 j0a 2) < (M2 (j0a + 2) (ix (M2 j0a 1))) → ∀ M4 : Mm, M4 = mu M2 j0a 2 (0 : Int32) → ((((M4 j0a 0) ≤ ((M4 j0a 1) + (1 : Int32)) → ∀ M6 : Mm, M6 = mu M4 j0a 1 (0 : Int32) → (Post M6)) ∧
  (¬ (M4 j0a 0) ≤ ((M4 j0a 1) + (1 : Int32)) → ∀ M7 : Mm, M7 = mu M4 j0a 1 ((M4 j0a 1) + (1 : Int32)) → (Post M7))))))))) ∧
  ((M j0a 0) = 0 → Post M))
abbrev rX5_goOn : Room := ({ frames := 0, cells := 0, slots := 0, locals := 0 } : Room)
def bX4_runHours_8 (Post : Mm → Int32 → Prop) (A8 : Mm → Nat → Int32 → Int32 → Int32 → Int32 → Prop) (M : Mm) (j0 : Nat) (x1 : Int32) (x2 : Int32) (x3 : Int32) (x4 : Int32) : Prop :=
  ((x1 ≤ x4 → Post M ((M j0 5) - x3)) ∧
  (¬ x1 ≤ x4 → wX5_gatesFor (fun M4 r5 => ∀ M6 : Mm, M6 = mu M4 (j0 + 1) 1 r5 → (wX4_passHour (fun M7 r8 => wX5_goOn (fun M9 => ∀ x4_11 : Int32, x4_11 = x4 + (1 : Int32) → (A8 M9 j0 x1 x2 x3 x4_11)) M7 (j0 + 18)) M6 j0 x2)) M (j0 + 18) (M (j0 + 1) 1)))
def lX4_runHours_8 (Post : Mm → Int32 → Prop) : Nat → Mm → Nat → Int32 → Int32 → Int32 → Int32 → Prop
  | 0 => fun _ _ _ _ _ _ => False
  | n + 1 => fun M j0 x1 x2 x3 x4 => bX4_runHours_8 Post (lX4_runHours_8 Post n) M j0 x1 x2 x3 x4
def wX4_runHours (Post : Mm → Int32 → Prop) (M : Mm) (j0a : Nat) (x1a : Int32) (x2a : Int32) : Prop :=
  ∀ x3_1 : Int32, x3_1 = (M j0a 5) → ((∃ n2 : Nat, lX4_runHours_8 Post n2 M j0a x1a x2a x3_1 (0 : Int32)))
abbrev rX4_runHours : Room := ({ frames := 4, cells := 0, slots := 0, locals := 104 } : Room)
def bX3_carryOut_48 (Post : Mm → Int32 → Prop) (M : Mm) (j0 : Nat) (j1 : Nat) : Prop :=
  wX0_moveGate (fun M12 r13 => Post M12 (0 : Int32)) M (j1 + 1) (M j0 5)
def wX3_carryOut (Post : Mm → Int32 → Prop) (M : Mm) (j0a : Nat) (j1a : Nat) : Prop :=
  ∀ sw1 : Int32, sw1 = (M j0a 4) → (((sw1 = (99 : Int32) → bX3_carryOut_48 Post M j0a j1a) ∧
  (¬ sw1 = (99 : Int32) → ((sw1 = (104 : Int32) → wX4_passHour (fun M4 r5 => Post M4 r5) M j1a (M j0a 5)) ∧
  (¬ sw1 = (104 : Int32) → ((sw1 = (111 : Int32) → bX3_carryOut_48 Post M j0a j1a) ∧
  (¬ sw1 = (111 : Int32) → ((sw1 = (121 : Int32) → wX1_beginCall (fun M8 r9 => Post M8 (0 : Int32)) M (j1a + 10) (M j0a 5)) ∧
  (¬ sw1 = (121 : Int32) → wX4_runHours (fun M10 r11 => Post M10 r11) M j1a (M j0a 5) (M j0a 6))))))))))
abbrev rX3_carryOut : Room := ({ frames := 5, cells := 0, slots := 0, locals := 128 } : Room)
def bX3_carryOutAll_14 (Post : Mm → Int32 → Prop) (A14 : Mm → Nat → Nat → Int32 → Int32 → Prop) (M : Mm) (j0 : Nat) (j1 : Nat) (x2 : Int32) (x3 : Int32) : Prop :=
  (((60 : Int32) ≤ x3 → Post M x2) ∧
  (¬ (60 : Int32) ≤ x3 → (((M j0 0) ≤ (M j0 3) → Post M x2) ∧
  (¬ (M j0 0) ≤ (M j0 3) → ∀ M6 : Mm, M6 = mu M j0 2 (M j0 3) → (wX3_reasonAgainst (fun M7 r8 => ∀ M9 : Mm, M9 = mu M7 j0 7 r8 → ((((M9 j0 7) = 0 → wX3_carryOut (fun M11 r12 => ∀ x2_13 : Int32, x2_13 = (x2 + r12) → (∀ x3_14 : Int32, x3_14 = x3 + (1 : Int32) → (A14 M11 j0 j1 x2_13 x3_14))) M9 j0 j1) ∧
  (¬ (M9 j0 7) = 0 → Post M9 x2)))) M6 j0 j1)))))
def lX3_carryOutAll_14 (Post : Mm → Int32 → Prop) : Nat → Mm → Nat → Nat → Int32 → Int32 → Prop
  | 0 => fun _ _ _ _ _ => False
  | n + 1 => fun M j0 j1 x2 x3 => bX3_carryOutAll_14 Post (lX3_carryOutAll_14 Post n) M j0 j1 x2 x3
def wX3_carryOutAll (Post : Mm → Int32 → Prop) (M : Mm) (j0a : Nat) (j1a : Nat) : Prop :=
  ∀ M1 : Mm, M1 = mu M j0a 3 (0 : Int32) → (∀ M2 : Mm, M2 = mu M1 j0a 7 (0 : Int32) → ((∃ n3 : Nat, lX3_carryOutAll_14 Post n3 M2 j0a j1a (0 : Int32) (0 : Int32))))
abbrev rX3_carryOutAll : Room := ({ frames := 6, cells := 0, slots := 0, locals := 149 } : Room)
def wX5_has (Post : Mm → Int32 → Prop) (M : Mm) (j0a : Nat) (x1a : Int32) : Prop :=
  ((x1a < 0 → Post M (0 : Int32)) ∧
  (¬ x1a < 0 → (((M j0a 0) ≤ x1a → Post M (0 : Int32)) ∧
  (¬ (M j0a 0) ≤ x1a → Post M (1 : Int32)))))
abbrev rX5_has : Room := ({ frames := 0, cells := 0, slots := 0, locals := 0 } : Room)
def wX5_beginAgain (Post : Mm → Prop) (M : Mm) (j0a : Nat) : Prop :=
  ∀ M1 : Mm, M1 = mu M j0a 1 (0 : Int32) → (∀ M2 : Mm, M2 = mu M1 j0a 2 (0 : Int32) → (Post M2))
abbrev rX5_beginAgain : Room := ({ frames := 0, cells := 0, slots := 0, locals := 0 } : Room)
def wX5_add (Post : Mm → Int32 → Prop) (M : Mm) (j0a : Nat) (x1a : Int32) (x2a : Int32) : Prop :=
  vp_in (M j0a 0) 8 ∧ (∀ M1 : Mm, M1 = mu M (j0a + 1) (ix (M j0a 0)) x1a → (vp_in (M1 j0a 0) 8 ∧ (∀ M2 : Mm, M2 = mu M1 (j0a + 2) (ix (M1 j0a 0)) x2a → (∀ M3 : Mm, M3 = mu M2 j0a 0 ((M2 j0a 0) + (1 : Int32)) → (wX5_beginAgain (fun M4 => Post M4 (M4 j0a 0)) M3 j0a)))))
abbrev rX5_add : Room := ({ frames := 1, cells := 0, slots := 0, locals := 20 } : Room)
def wX5_removeAll (Post : Mm → Int32 → Prop) (M : Mm) (j0a : Nat) : Prop :=
  ∀ x1_1 : Int32, x1_1 = (M j0a 0) → (∀ M2 : Mm, M2 = mu M j0a 0 (0 : Int32) → (wX5_beginAgain (fun M3 => Post M3 x1_1) M2 j0a))
abbrev rX5_removeAll : Room := ({ frames := 1, cells := 0, slots := 0, locals := 20 } : Room)
def wX6_canal (Post : Mm → Int32 → Prop) (M : Mm) (j0a : Nat) (x1a : Int32) (x2a : Int32) (x3a : Int32) (x4a : Int32) : Prop :=
  wX0_has (fun M1 r2 => ((r2 = 0 → Post M1 (-1000001 : Int32)) ∧
  (¬ r2 = 0 → wX6_isOutside (fun M4 r5 => ((¬ r5 = 0 → Post M4 (-1000001 : Int32)) ∧
  (r5 = 0 → wX6_isOutside (fun M7 r8 => ((¬ r8 = 0 → Post M7 (-1000001 : Int32)) ∧
  (r8 = 0 → wX6_isOutside (fun M10 r11 => ((r11 = 0 → (((M10 ((j0a + 1) + 1) 0) < (8 : Int32) → wX2_record (fun M14 => wX0_add (fun M16 r17 => Post M16 r17) M14 ((j0a + 1) + 1) x1a x2a x3a x4a) M10 (j0a + 47) (j0a + 1)) ∧
  (¬ (M10 ((j0a + 1) + 1) 0) < (8 : Int32) → Post M10 (-1000003 : Int32)))) ∧
  (¬ r11 = 0 → Post M10 (-1000001 : Int32)))) M7 x4a (0 : Int32) (500 : Int32)))) M4 x3a (1 : Int32) (500 : Int32)))) M1 x2a (0 : Int32) (2 : Int32)))) M ((j0a + 1) + 1) x1a
abbrev rX6_canal : Room := ({ frames := 4, cells := 0, slots := 0, locals := 123 } : Room)
def wX6_field (Post : Mm → Int32 → Prop) (M : Mm) (j0a : Nat) (x1a : Int32) (x2a : Int32) (x3a : Int32) (x4a : Int32) : Prop :=
  wX0_has (fun M1 r2 => ((r2 = 0 → Post M1 (-1000001 : Int32)) ∧
  (¬ r2 = 0 → wX6_isOutside (fun M4 r5 => ((¬ r5 = 0 → Post M4 (-1000001 : Int32)) ∧
  (r5 = 0 → wX6_isOutside (fun M7 r8 => ((¬ r8 = 0 → Post M7 (-1000001 : Int32)) ∧
  (r8 = 0 → wX6_isOutside (fun M10 r11 => ((r11 = 0 → (((M10 ((j0a + 1) + 10) 0) < (10 : Int32) → wX2_record (fun M14 => wX1_add (fun M16 r17 => Post M16 r17) M14 ((j0a + 1) + 10) x1a x2a x3a x4a) M10 (j0a + 47) (j0a + 1)) ∧
  (¬ (M10 ((j0a + 1) + 10) 0) < (10 : Int32) → Post M10 (-1000003 : Int32)))) ∧
  (¬ r11 = 0 → Post M10 (-1000001 : Int32)))) M7 x4a (0 : Int32) (99 : Int32)))) M4 x3a (1 : Int32) (200 : Int32)))) M1 x2a (1 : Int32) (999 : Int32)))) M ((j0a + 1) + 1) x1a
abbrev rX6_field : Room := ({ frames := 4, cells := 0, slots := 0, locals := 123 } : Room)
def wX6_tendsKind (Post : Mm → Int32 → Prop) (M : Mm) (x0a : Int32) (x1a : Int32) : Prop :=
  ((x0a = (2 : Int32) → Post M (1 : Int32)) ∧
  (¬ x0a = (2 : Int32) → ((¬ x0a = x1a → Post M (0 : Int32)) ∧
  (x0a = x1a → Post M (1 : Int32)))))
abbrev rX6_tendsKind : Room := ({ frames := 0, cells := 0, slots := 0, locals := 0 } : Room)
def wX6_tend (Post : Mm → Int32 → Prop) (M : Mm) (j0a : Nat) (x1a : Int32) (x2a : Int32) : Prop :=
  wX6_isOutside (fun M1 r2 => ((¬ r2 = 0 → Post M1 (-1000001 : Int32)) ∧
  (r2 = 0 → wX0_hasGate (fun M4 r5 => ((¬ r5 = 0 → wX0_isTended (fun M7 r8 => ((¬ r8 = 0 → Post M7 (-1000002 : Int32)) ∧
  (r8 = 0 → vp_in x2a 8 ∧ (wX6_tendsKind (fun M10 r11 => ((¬ r11 = 0 → wX0_gatesOf (fun M13 r14 => ((r14 < (2 : Int32) → wX2_record (fun M16 => vp_in x2a 8 ∧ (∀ M18 : Mm, M18 = mu M16 (((j0a + 1) + 1) + 5) (ix x2a) x1a → (wX0_gatesOf (fun M19 r20 => Post M19 r20) M18 ((j0a + 1) + 1) x1a))) M13 (j0a + 47) (j0a + 1)) ∧
  (¬ r14 < (2 : Int32) → Post M13 (-1000003 : Int32)))) M10 ((j0a + 1) + 1) x1a) ∧
  (r11 = 0 → Post M10 (-1000002 : Int32)))) M7 x1a (M7 (((j0a + 1) + 1) + 2) (ix x2a)))))) M4 ((j0a + 1) + 1) x2a) ∧
  (r5 = 0 → Post M4 (-1000001 : Int32)))) M1 ((j0a + 1) + 1) x2a))) M x1a (0 : Int32) (2 : Int32)
abbrev rX6_tend : Room := ({ frames := 4, cells := 0, slots := 0, locals := 123 } : Room)
def wX6_leave (Post : Mm → Int32 → Prop) (M : Mm) (j0a : Nat) (x1a : Int32) : Prop :=
  wX0_hasGate (fun M1 r2 => ((¬ r2 = 0 → wX0_isTended (fun M4 r5 => ((¬ r5 = 0 → wX2_record (fun M7 => vp_in x1a 8 ∧ (∀ x2_9 : Int32, x2_9 = (M7 (((j0a + 1) + 1) + 5) (ix x1a)) → (vp_in x1a 8 ∧ (∀ M10 : Mm, M10 = mu M7 (((j0a + 1) + 1) + 5) (ix x1a) (-1 : Int32) → (Post M10 x2_9))))) M4 (j0a + 47) (j0a + 1)) ∧
  (r5 = 0 → Post M4 (-1000002 : Int32)))) M1 ((j0a + 1) + 1) x1a) ∧
  (r2 = 0 → Post M1 (-1000001 : Int32)))) M ((j0a + 1) + 1) x1a
abbrev rX6_leave : Room := ({ frames := 4, cells := 0, slots := 0, locals := 123 } : Room)
def wX6_open (Post : Mm → Int32 → Prop) (M : Mm) (j0a : Nat) (x1a : Int32) : Prop :=
  wX0_hasGate (fun M1 r2 => ((¬ r2 = 0 → wX0_canBeOpened (fun M4 r5 => ((¬ r5 = 0 → wX2_record (fun M7 => wX0_moveGate (fun M9 r10 => Post M9 r10) M7 ((j0a + 1) + 1) x1a) M4 (j0a + 47) (j0a + 1)) ∧
  (r5 = 0 → Post M4 (-1000002 : Int32)))) M1 ((j0a + 1) + 1) x1a) ∧
  (r2 = 0 → Post M1 (-1000001 : Int32)))) M ((j0a + 1) + 1) x1a
abbrev rX6_open : Room := ({ frames := 4, cells := 0, slots := 0, locals := 123 } : Room)
def wX6_close (Post : Mm → Int32 → Prop) (M : Mm) (j0a : Nat) (x1a : Int32) : Prop :=
  wX0_hasGate (fun M1 r2 => ((¬ r2 = 0 → wX0_canBeClosed (fun M4 r5 => ((¬ r5 = 0 → wX2_record (fun M7 => wX0_moveGate (fun M9 r10 => Post M9 r10) M7 ((j0a + 1) + 1) x1a) M4 (j0a + 47) (j0a + 1)) ∧
  (r5 = 0 → Post M4 (-1000002 : Int32)))) M1 ((j0a + 1) + 1) x1a) ∧
  (r2 = 0 → Post M1 (-1000001 : Int32)))) M ((j0a + 1) + 1) x1a
abbrev rX6_close : Room := ({ frames := 4, cells := 0, slots := 0, locals := 123 } : Room)
def wX6_call (Post : Mm → Int32 → Prop) (M : Mm) (j0a : Nat) (x1a : Int32) : Prop :=
  wX1_has (fun M1 r2 => ((¬ r2 = 0 → wX1_canCall (fun M4 r5 => ((¬ r5 = 0 → wX2_record (fun M7 => wX1_beginCall (fun M9 r10 => Post M9 r10) M7 ((j0a + 1) + 10) x1a) M4 (j0a + 47) (j0a + 1)) ∧
  (r5 = 0 → Post M4 (-1000002 : Int32)))) M1 ((j0a + 1) + 10) x1a) ∧
  (r2 = 0 → Post M1 (-1000001 : Int32)))) M ((j0a + 1) + 10) x1a
abbrev rX6_call : Room := ({ frames := 4, cells := 0, slots := 0, locals := 123 } : Room)
def wX6_turn (Post : Mm → Int32 → Prop) (M : Mm) (j0a : Nat) (x1a : Int32) (x2a : Int32) : Prop :=
  wX0_areGates (fun M1 r2 => ((r2 = 0 → Post M1 (-1000001 : Int32)) ∧
  (¬ r2 = 0 → wX6_isOutside (fun M4 r5 => ((r5 = 0 → (((M4 ((j0a + 1) + 18) 0) < (8 : Int32) → wX2_record (fun M8 => wX5_add (fun M10 r11 => Post M10 r11) M8 ((j0a + 1) + 18) x1a x2a) M4 (j0a + 47) (j0a + 1)) ∧
  (¬ (M4 ((j0a + 1) + 18) 0) < (8 : Int32) → Post M4 (-1000003 : Int32)))) ∧
  (¬ r5 = 0 → Post M4 (-1000001 : Int32)))) M1 x2a (1 : Int32) (20 : Int32)))) M ((j0a + 1) + 1) x1a
abbrev rX6_turn : Room := ({ frames := 4, cells := 0, slots := 0, locals := 123 } : Room)
def wX6_noTurns (Post : Mm → Int32 → Prop) (M : Mm) (j0a : Nat) : Prop :=
  wX2_record (fun M1 => wX5_removeAll (fun M3 r4 => Post M3 r4) M1 ((j0a + 1) + 18)) M (j0a + 47) (j0a + 1)
abbrev rX6_noTurns : Room := ({ frames := 4, cells := 0, slots := 0, locals := 123 } : Room)
def wX6_hour (Post : Mm → Int32 → Prop) (M : Mm) (j0a : Nat) (x1a : Int32) : Prop :=
  wX6_isOutside (fun M1 r2 => ((r2 = 0 → wX4_hasHoursLeft (fun M4 r5 => ((¬ r5 = 0 → wX2_record (fun M7 => wX4_passHour (fun M9 r10 => Post M9 r10) M7 (j0a + 1) x1a) M4 (j0a + 47) (j0a + 1)) ∧
  (r5 = 0 → Post M4 (-1000003 : Int32)))) M1 (j0a + 1) (1 : Int32)) ∧
  (¬ r2 = 0 → Post M1 (-1000001 : Int32)))) M x1a (0 : Int32) (999 : Int32)
abbrev rX6_hour : Room := ({ frames := 4, cells := 0, slots := 0, locals := 123 } : Room)
def wX6_run (Post : Mm → Int32 → Prop) (M : Mm) (j0a : Nat) (x1a : Int32) (x2a : Int32) : Prop :=
  wX6_isOutside (fun M1 r2 => ((¬ r2 = 0 → Post M1 (-1000001 : Int32)) ∧
  (r2 = 0 → wX6_isOutside (fun M4 r5 => ((r5 = 0 → wX4_hasHoursLeft (fun M7 r8 => ((¬ r8 = 0 → wX2_record (fun M10 => wX4_runHours (fun M12 r13 => Post M12 r13) M10 (j0a + 1) x1a x2a) M7 (j0a + 47) (j0a + 1)) ∧
  (r8 = 0 → Post M7 (-1000003 : Int32)))) M4 (j0a + 1) x1a) ∧
  (¬ r5 = 0 → Post M4 (-1000001 : Int32)))) M1 x2a (0 : Int32) (999 : Int32)))) M x1a (1 : Int32) (100 : Int32)
abbrev rX6_run : Room := ({ frames := 5, cells := 0, slots := 0, locals := 128 } : Room)
def wX6_asNumber (Post : Mm → Int32 → Prop) (M : Mm) (x0a : Int32) : Prop :=
  ((x0a = 0 → Post M (0 : Int32)) ∧
  (¬ x0a = 0 → Post M (1 : Int32)))
abbrev rX6_asNumber : Room := ({ frames := 0, cells := 0, slots := 0, locals := 0 } : Room)
def wX6_canalOf (Post : Mm → Int32 → Prop) (M : Mm) (j0a : Nat) (x1a : Int32) (x2a : Int32) : Prop :=
  wX0_has (fun M1 r2 => ((¬ r2 = 0 → ((x2a = (0 : Int32) → ((¬ x1a = 0 → vp_in x1a 8 ∧ (Post M1 (M1 (((j0a + 1) + 1) + 1) (ix x1a)))) ∧
  (x1a = 0 → Post M1 (-1000004 : Int32)))) ∧
  (¬ x2a = (0 : Int32) → ((x2a = (1 : Int32) → ((¬ x1a = 0 → vp_in x1a 8 ∧ (Post M1 (M1 (((j0a + 1) + 1) + 2) (ix x1a)))) ∧
  (x1a = 0 → Post M1 (-1000004 : Int32)))) ∧
  (¬ x2a = (1 : Int32) → ((x2a = (2 : Int32) → vp_in x1a 8 ∧ (Post M1 (M1 (((j0a + 1) + 1) + 3) (ix x1a)))) ∧
  (¬ x2a = (2 : Int32) → ((x2a = (3 : Int32) → vp_in x1a 8 ∧ (Post M1 (M1 (((j0a + 1) + 1) + 4) (ix x1a)))) ∧
  (¬ x2a = (3 : Int32) → ((x2a = (4 : Int32) → ((¬ x1a = 0 → wX0_isOpen (fun M12 r13 => wX6_asNumber (fun M14 r15 => Post M14 r15) M12 r13) M1 ((j0a + 1) + 1) x1a) ∧
  (x1a = 0 → Post M1 (-1000004 : Int32)))) ∧
  (¬ x2a = (4 : Int32) → ((x2a = (5 : Int32) → wX0_isTended (fun M17 r18 => ((r18 = 0 → Post M17 (-1000004 : Int32)) ∧
  (¬ r18 = 0 → vp_in x1a 8 ∧ (Post M17 (M17 (((j0a + 1) + 1) + 5) (ix x1a)))))) M1 ((j0a + 1) + 1) x1a) ∧
  (¬ x2a = (5 : Int32) → ((x2a = (6 : Int32) → wX0_below (fun M21 r22 => Post M21 r22) M1 ((j0a + 1) + 1) x1a) ∧
  (¬ x2a = (6 : Int32) → ((x2a = (7 : Int32) → vp_in x1a 8 ∧ (Post M1 (M1 (((j0a + 1) + 1) + 6) (ix x1a)))) ∧
  (¬ x2a = (7 : Int32) → ((x2a = (8 : Int32) → vp_in x1a 8 ∧ (Post M1 (M1 (((j0a + 1) + 1) + 7) (ix x1a)))) ∧
  (¬ x2a = (8 : Int32) → ((x2a = (9 : Int32) → vp_in x1a 8 ∧ (Post M1 (M1 (((j0a + 1) + 1) + 8) (ix x1a)))) ∧
  (¬ x2a = (9 : Int32) → Post M1 (-1000001 : Int32)))))))))))))))))))))) ∧
  (r2 = 0 → Post M1 (-1000001 : Int32)))) M ((j0a + 1) + 1) x1a
abbrev rX6_canalOf : Room := ({ frames := 1, cells := 0, slots := 0, locals := 23 } : Room)
def wX6_fieldOf (Post : Mm → Int32 → Prop) (M : Mm) (j0a : Nat) (x1a : Int32) (x2a : Int32) : Prop :=
  wX1_has (fun M1 r2 => ((¬ r2 = 0 → ((x2a = (0 : Int32) → vp_in x1a 10 ∧ (Post M1 (M1 (((j0a + 1) + 10) + 1) (ix x1a)))) ∧
  (¬ x2a = (0 : Int32) → ((x2a = (1 : Int32) → vp_in x1a 10 ∧ (Post M1 (M1 (((j0a + 1) + 10) + 2) (ix x1a)))) ∧
  (¬ x2a = (1 : Int32) → ((x2a = (2 : Int32) → vp_in x1a 10 ∧ (Post M1 (M1 (((j0a + 1) + 10) + 3) (ix x1a)))) ∧
  (¬ x2a = (2 : Int32) → ((x2a = (3 : Int32) → vp_in x1a 10 ∧ (Post M1 (M1 (((j0a + 1) + 10) + 4) (ix x1a)))) ∧
  (¬ x2a = (3 : Int32) → ((x2a = (4 : Int32) → vp_in x1a 10 ∧ (Post M1 (M1 (((j0a + 1) + 10) + 5) (ix x1a)))) ∧
  (¬ x2a = (4 : Int32) → ((x2a = (5 : Int32) → wX1_calls (fun M10 r11 => wX6_asNumber (fun M12 r13 => Post M12 r13) M10 r11) M1 ((j0a + 1) + 10) x1a) ∧
  (¬ x2a = (5 : Int32) → ((x2a = (6 : Int32) → wX4_findCallsBelow (fun M15 => wX4_mayTake (fun M17 r18 => wX6_asNumber (fun M19 r20 => Post M19 r20) M17 r18) M15 (j0a + 1) x1a) M1 (j0a + 1)) ∧
  (¬ x2a = (6 : Int32) → ((x2a = (7 : Int32) → wX1_wants (fun M22 r23 => ((r23 = 0 → vp_in x1a 10 ∧ (Post M22 (M22 (((j0a + 1) + 10) + 6) (ix x1a)))) ∧
  (¬ r23 = 0 → Post M22 (-1000004 : Int32)))) M1 ((j0a + 1) + 10) x1a) ∧
  (¬ x2a = (7 : Int32) → Post M1 (-1000001 : Int32)))))))))))))))))) ∧
  (r2 = 0 → Post M1 (-1000001 : Int32)))) M ((j0a + 1) + 10) x1a
abbrev rX6_fieldOf : Room := ({ frames := 2, cells := 0, slots := 0, locals := 52 } : Room)
def wX6_turnOf (Post : Mm → Int32 → Prop) (M : Mm) (j0a : Nat) (x1a : Int32) (x2a : Int32) : Prop :=
  wX5_has (fun M1 r2 => ((¬ r2 = 0 → ((x2a = (0 : Int32) → vp_in x1a 8 ∧ (Post M1 (M1 (((j0a + 1) + 18) + 1) (ix x1a)))) ∧
  (¬ x2a = (0 : Int32) → ((x2a = (1 : Int32) → vp_in x1a 8 ∧ (Post M1 (M1 (((j0a + 1) + 18) + 2) (ix x1a)))) ∧
  (¬ x2a = (1 : Int32) → Post M1 (-1000001 : Int32)))))) ∧
  (r2 = 0 → Post M1 (-1000001 : Int32)))) M ((j0a + 1) + 18) x1a
abbrev rX6_turnOf : Room := ({ frames := 1, cells := 0, slots := 0, locals := 21 } : Room)
def bX6_floatBits_76 (Post : Mm → Int32 → Prop) (M : Mm) (x4 : Int32) (y5 : Int64) : Prop :=
  ∀ x9_11 : Int32, x9_11 = ((150 : Int32) - x4) → (Post M ((x9_11 <<< ((23 : Int32) &&& 31)) + (((y5 - (8388608 : Int64))).toInt32)))
def bX6_floatBits_43 (Post : Mm → Int32 → Prop) (M : Mm) (y0 : Int64) (y2 : Int64) (x4 : Int32) : Prop :=
  ¬ y2 = 0 ∧ (∀ x5_7 : Int64, x5_7 = ((y0 <<< (x4.toInt64 &&& 63)) / y2) → (¬ y2 = 0 ∧ (∀ x7_8 : Int64, x7_8 = ((y0 <<< (x4.toInt64 &&& 63)) - (y0 <<< (x4.toInt64 &&& 63)) / y2 * y2) → ((((lg_cmp ((2 : Int64) * x7_8) y2) ≤ 0 → bX6_floatBits_76 Post M x4 x5_7) ∧
  (¬ (lg_cmp ((2 : Int64) * x7_8) y2) ≤ 0 → ∀ x5_10 : Int64, x5_10 = (x5_7 + (1 : Int64)) → (bX6_floatBits_76 Post M x4 x5_10)))))))
def bX6_floatBits_18 (Post : Mm → Int32 → Prop) (A18 : Mm → Int64 → Int64 → Int32 → Prop) (M : Mm) (y0 : Int64) (y2 : Int64) (x4 : Int32) : Prop :=
  (((46 : Int32) ≤ x4 → bX6_floatBits_43 Post M y0 y2 x4) ∧
  (¬ (46 : Int32) ≤ x4 → ((0 ≤ (lg_cmp (y0 <<< (x4.toInt64 &&& 63)) (y2 <<< ((23 : Int32).toInt64 &&& 63))) → bX6_floatBits_43 Post M y0 y2 x4) ∧
  (¬ 0 ≤ (lg_cmp (y0 <<< (x4.toInt64 &&& 63)) (y2 <<< ((23 : Int32).toInt64 &&& 63))) → ∀ x4_6 : Int32, x4_6 = x4 + (1 : Int32) → (A18 M y0 y2 x4_6)))))
def lX6_floatBits_18 (Post : Mm → Int32 → Prop) : Nat → Mm → Int64 → Int64 → Int32 → Prop
  | 0 => fun _ _ _ _ => False
  | n + 1 => fun M y0 y2 x4 => bX6_floatBits_18 Post (lX6_floatBits_18 Post n) M y0 y2 x4
def wX6_floatBits (Post : Mm → Int32 → Prop) (M : Mm) (y0a : Int64) (y2a : Int64) : Prop :=
  (((lg_cmp y0a (0 : Int64)) ≤ 0 → Post M (0 : Int32)) ∧
  (¬ (lg_cmp y0a (0 : Int64)) ≤ 0 → ((0 < (lg_cmp y2a (0 : Int64)) → (∃ n3 : Nat, lX6_floatBits_18 Post n3 M y0a y2a (23 : Int32))) ∧
  (¬ 0 < (lg_cmp y2a (0 : Int64)) → Post M (0 : Int32)))))
abbrev rX6_floatBits : Room := ({ frames := 0, cells := 0, slots := 0, locals := 0 } : Room)
def wX6_share (Post : Mm → Int32 → Prop) (M : Mm) (j0a : Nat) (x1a : Int32) : Prop :=
  wX6_isOutside (fun M1 r2 => ((r2 = 0 → ((¬ (M1 (j0a + 1) 4) = 0 → ((x1a = (0 : Int32) → wX6_floatBits (fun M6 r7 => Post M6 r7) M1 (((M1 (j0a + 1) 5)).toInt64) (((M1 (j0a + 1) 4)).toInt64)) ∧
  (¬ x1a = (0 : Int32) → ((x1a = (1 : Int32) → wX6_floatBits (fun M9 r10 => Post M9 r10) M1 (((M1 (j0a + 1) 6)).toInt64) (((M1 (j0a + 1) 4)).toInt64)) ∧
  (¬ x1a = (1 : Int32) → wX6_floatBits (fun M11 r12 => Post M11 r12) M1 (((M1 (j0a + 1) 7)).toInt64) (((M1 (j0a + 1) 4)).toInt64)))))) ∧
  ((M1 (j0a + 1) 4) = 0 → Post M1 (-1000004 : Int32)))) ∧
  (¬ r2 = 0 → Post M1 (-1000001 : Int32)))) M x1a (0 : Int32) (2 : Int32)
abbrev rX6_share : Room := ({ frames := 1, cells := 0, slots := 0, locals := 29 } : Room)
def wX6_gain (Post : Mm → Int32 → Prop) (M : Mm) (j0a : Nat) (x1a : Int32) : Prop :=
  vp_in x1a 10 ∧ (vp_in x1a 10 ∧ (Post M ((M (((j0a + 24) + 10) + 5) (ix x1a)) - (M (((j0a + 1) + 10) + 5) (ix x1a)))))
abbrev rX6_gain : Room := ({ frames := 0, cells := 0, slots := 0, locals := 0 } : Room)
def bX6_would_72 (Post : Mm → Int32 → Prop) (M : Mm) (j0 : Nat) (x1 : Int32) (x2 : Int32) (x3 : Int32) : Prop :=
  wX4_become (fun M15 => ∀ M17 : Mm, M17 = mu M15 ((j0 + 24) + 1) 1 x1 → (wX4_passHour (fun M18 r19 => ((x3 = (0 : Int32) → Post M18 ((M18 (j0 + 24) 5) - (M18 (j0 + 1) 5))) ∧
  (¬ x3 = (0 : Int32) → ((x3 = (1 : Int32) → Post M18 ((M18 (j0 + 24) 6) - (M18 (j0 + 1) 6))) ∧
  (¬ x3 = (1 : Int32) → ((x3 = (2 : Int32) → Post M18 ((M18 (j0 + 24) 7) - (M18 (j0 + 1) 7))) ∧
  (¬ x3 = (2 : Int32) → wX6_gain (fun M23 r24 => Post M23 r24) M18 j0 (x3 - (10 : Int32))))))))) M17 (j0 + 24) x2)) M (j0 + 24) (j0 + 1)
def bX6_would_28 (Post : Mm → Int32 → Prop) (M : Mm) (j0 : Nat) (x1 : Int32) (x2 : Int32) (x3 : Int32) (t0 : Int32) : Prop :=
  wX0_areGates (fun M5 r6 => ((r6 = 0 → Post M5 (-1000001 : Int32)) ∧
  (¬ r6 = 0 → wX6_isOutside (fun M8 r9 => ((¬ r9 = 0 → Post M8 (-1000001 : Int32)) ∧
  (r9 = 0 → wX6_isOutside (fun M11 r12 => ((r12 = 0 → bX6_would_72 Post M11 j0 x1 x2 x3) ∧
  (¬ r12 = 0 → ((¬ t0 = 0 → bX6_would_72 Post M11 j0 x1 x2 x3) ∧
  (t0 = 0 → Post M11 (-1000001 : Int32)))))) M8 x3 (0 : Int32) (2 : Int32)))) M5 x2 (0 : Int32) (999 : Int32)))) M ((j0 + 1) + 1) x1
def bX6_would_27 (Post : Mm → Int32 → Prop) (M : Mm) (j0 : Nat) (x1 : Int32) (x2 : Int32) (x3 : Int32) : Prop :=
  bX6_would_28 Post M j0 x1 x2 x3 (0 : Int32)
def wX6_would (Post : Mm → Int32 → Prop) (M : Mm) (j0a : Nat) (x1a : Int32) (x2a : Int32) (x3a : Int32) : Prop :=
  ((x3a < (10 : Int32) → bX6_would_27 Post M j0a x1a x2a x3a) ∧
  (¬ x3a < (10 : Int32) → wX1_has (fun M2 r3 => ((r3 = 0 → bX6_would_27 Post M2 j0a x1a x2a x3a) ∧
  (¬ r3 = 0 → bX6_would_28 Post M2 j0a x1a x2a x3a (1 : Int32)))) M ((j0a + 1) + 10) (x3a - (10 : Int32))))
abbrev rX6_would : Room := ({ frames := 4, cells := 0, slots := 0, locals := 104 } : Room)
def bX6_wouldServe_62 (Post : Mm → Int32 → Prop) (M : Mm) (j0 : Nat) (x1 : Int32) : Prop :=
  wX1_wanting (fun M12 r13 => ((¬ (r13 &&& x1) = 0 → Post M12 (0 : Int32)) ∧
  ((r13 &&& x1) = 0 → Post M12 (1 : Int32)))) M ((j0 + 24) + 10)
def bX6_wouldServe_25 (Post : Mm → Int32 → Prop) (A25 : Mm → Nat → Int32 → Int32 → Int32 → Int32 → Prop) (M : Mm) (j0 : Nat) (x1 : Int32) (x3 : Int32) (x4 : Int32) (x5 : Int32) : Prop :=
  ((x4 ≤ x5 → bX6_wouldServe_62 Post M j0 x1) ∧
  (¬ x4 ≤ x5 → wX1_wanting (fun M6 r7 => (((r7 &&& x1) = 0 → bX6_wouldServe_62 Post M6 j0 x1) ∧
  (¬ (r7 &&& x1) = 0 → wX4_passHour (fun M9 r10 => ∀ x5_11 : Int32, x5_11 = x5 + (1 : Int32) → (A25 M9 j0 x1 x3 x4 x5_11)) M6 (j0 + 24) x3))) M ((j0 + 24) + 10)))
def lX6_wouldServe_25 (Post : Mm → Int32 → Prop) : Nat → Mm → Nat → Int32 → Int32 → Int32 → Int32 → Prop
  | 0 => fun _ _ _ _ _ _ => False
  | n + 1 => fun M j0 x1 x3 x4 x5 => bX6_wouldServe_25 Post (lX6_wouldServe_25 Post n) M j0 x1 x3 x4 x5
def wX6_wouldServe (Post : Mm → Int32 → Prop) (M : Mm) (j0a : Nat) (x1a : Int32) (x2a : Int32) (x3a : Int32) (x4a : Int32) : Prop :=
  wX4_become (fun M1 => ∀ M3 : Mm, M3 = mu M1 ((j0a + 24) + 1) 1 x2a → ((∃ n4 : Nat, lX6_wouldServe_25 Post n4 M3 j0a x1a x3a x4a (0 : Int32)))) M (j0a + 24) (j0a + 1)
abbrev rX6_wouldServe : Room := ({ frames := 4, cells := 0, slots := 0, locals := 104 } : Room)
def bX6_leastGates_88 (Post : Mm → Int32 → Prop) (A56 : Mm → Nat → Int32 → Int32 → Int32 → Int32 → Int32 → Int32 → Prop) (M : Mm) (j0 : Nat) (x1 : Int32) (x2 : Int32) (x3 : Int32) (x4 : Int32) (x5 : Int32) (x6 : Int32) (t0 : Int32) : Prop :=
  ((t0 = 0 → ∀ x6_21 : Int32, x6_21 = x6 + (2 : Int32) → (A56 M j0 x1 x2 x3 x4 x5 x6_21)) ∧
  (¬ t0 = 0 → wX6_wouldServe (fun M22 r23 => ((r23 = 0 → ∀ x6_25 : Int32, x6_25 = x6 + (2 : Int32) → (A56 M22 j0 x1 x2 x3 x4 x5 x6_25)) ∧
  (¬ r23 = 0 → ∀ x6_26 : Int32, x6_26 = x6 + (2 : Int32) → (A56 M22 j0 x1 x2 x3 x6 x5 x6_26)))) M j0 x1 x6 x2 x3))
def bX6_leastGates_56 (Post : Mm → Int32 → Prop) (A56 : Mm → Nat → Int32 → Int32 → Int32 → Int32 → Int32 → Int32 → Prop) (M : Mm) (j0 : Nat) (x1 : Int32) (x2 : Int32) (x3 : Int32) (x4 : Int32) (x5 : Int32) (x6 : Int32) : Prop :=
  ((x5 < x6 → Post M x4) ∧
  (¬ x5 < x6 → ((x4 = (-1000004 : Int32) → bX6_leastGates_88 Post A56 M j0 x1 x2 x3 x4 x5 x6 (1 : Int32)) ∧
  (¬ x4 = (-1000004 : Int32) → wJ6_bitCount_0f7a4 (fun M15 r16 => wJ6_bitCount_0f7a4 (fun M17 r18 => ((r18 ≤ r16 → bX6_leastGates_88 Post A56 M17 j0 x1 x2 x3 x4 x5 x6 (0 : Int32)) ∧
  (¬ r18 ≤ r16 → bX6_leastGates_88 Post A56 M17 j0 x1 x2 x3 x4 x5 x6 (1 : Int32)))) M15 x4) M x6))))
def lX6_leastGates_56 (Post : Mm → Int32 → Prop) : Nat → Mm → Nat → Int32 → Int32 → Int32 → Int32 → Int32 → Int32 → Prop
  | 0 => fun _ _ _ _ _ _ _ _ => False
  | n + 1 => fun M j0 x1 x2 x3 x4 x5 x6 => bX6_leastGates_56 Post (lX6_leastGates_56 Post n) M j0 x1 x2 x3 x4 x5 x6
def wX6_leastGates (Post : Mm → Int32 → Prop) (M : Mm) (j0a : Nat) (x1a : Int32) (x2a : Int32) (x3a : Int32) : Prop :=
  wX1_areFields (fun M1 r2 => ((r2 = 0 → Post M1 (-1000001 : Int32)) ∧
  (¬ r2 = 0 → wX6_isOutside (fun M4 r5 => ((¬ r5 = 0 → Post M4 (-1000001 : Int32)) ∧
  (r5 = 0 → wX6_isOutside (fun M7 r8 => ((r8 = 0 → wX0_allGates (fun M10 r11 => (∃ n12 : Nat, lX6_leastGates_56 Post n12 M10 j0a x1a x2a x3a (-1000004 : Int32) r11 (0 : Int32))) M7 ((j0a + 1) + 1)) ∧
  (¬ r8 = 0 → Post M7 (-1000001 : Int32)))) M4 x3a (1 : Int32) (5 : Int32)))) M1 x2a (0 : Int32) (999 : Int32)))) M ((j0a + 1) + 10) x1a
abbrev rX6_leastGates : Room := ({ frames := 5, cells := 0, slots := 0, locals := 129 } : Room)
def bX6_fewestBuckets_19 (Post : Mm → Int32 → Prop) (A19 : Mm → Nat → Int32 → Int32 → Prop) (M : Mm) (j0 : Nat) (x1 : Int32) (x2 : Int32) : Prop :=
  (((200 : Int32) < x2 → Post M (-1000004 : Int32)) ∧
  (¬ (200 : Int32) < x2 → wX4_become (fun M6 => wX4_passHour (fun M8 r9 => wX6_gain (fun M10 r11 => ((r11 ≤ 0 → ∀ x2_13 : Int32, x2_13 = x2 + (1 : Int32) → (A19 M10 j0 x1 x2_13)) ∧
  (¬ r11 ≤ 0 → Post M10 x2))) M8 j0 x1) M6 (j0 + 24) x2) M (j0 + 24) (j0 + 1)))
def lX6_fewestBuckets_19 (Post : Mm → Int32 → Prop) : Nat → Mm → Nat → Int32 → Int32 → Prop
  | 0 => fun _ _ _ _ => False
  | n + 1 => fun M j0 x1 x2 => bX6_fewestBuckets_19 Post (lX6_fewestBuckets_19 Post n) M j0 x1 x2
def wX6_fewestBuckets (Post : Mm → Int32 → Prop) (M : Mm) (j0a : Nat) (x1a : Int32) : Prop :=
  wX1_has (fun M1 r2 => ((¬ r2 = 0 → (∃ n4 : Nat, lX6_fewestBuckets_19 Post n4 M1 j0a x1a (0 : Int32))) ∧
  (r2 = 0 → Post M1 (-1000001 : Int32)))) M ((j0a + 1) + 10) x1a
abbrev rX6_fewestBuckets : Room := ({ frames := 4, cells := 0, slots := 0, locals := 104 } : Room)
def bX6_hoursFor_27 (Post : Mm → Int32 → Prop) (A27 : Mm → Nat → Int32 → Int32 → Prop) (M : Mm) (j0 : Nat) (x1 : Int32) (x2 : Int32) : Prop :=
  (((100 : Int32) < x2 → Post M (-1000004 : Int32)) ∧
  (¬ (100 : Int32) < x2 → wX1_wanting (fun M8 r9 => ((¬ r9 = 0 → wX4_runHours (fun M11 r12 => ∀ x2_13 : Int32, x2_13 = x2 + (1 : Int32) → (A27 M11 j0 x1 x2_13)) M8 (j0 + 24) (1 : Int32) x1) ∧
  (r9 = 0 → Post M8 x2))) M ((j0 + 24) + 10)))
def lX6_hoursFor_27 (Post : Mm → Int32 → Prop) : Nat → Mm → Nat → Int32 → Int32 → Prop
  | 0 => fun _ _ _ _ => False
  | n + 1 => fun M j0 x1 x2 => bX6_hoursFor_27 Post (lX6_hoursFor_27 Post n) M j0 x1 x2
def wX6_hoursFor (Post : Mm → Int32 → Prop) (M : Mm) (j0a : Nat) (x1a : Int32) : Prop :=
  wX6_isOutside (fun M1 r2 => ((r2 = 0 → wX4_become (fun M4 => (∃ n6 : Nat, lX6_hoursFor_27 Post n6 M4 j0a x1a (0 : Int32))) M1 (j0a + 24) (j0a + 1)) ∧
  (¬ r2 = 0 → Post M1 (-1000001 : Int32)))) M x1a (0 : Int32) (999 : Int32)
abbrev rX6_hoursFor : Room := ({ frames := 5, cells := 0, slots := 0, locals := 128 } : Room)
def bX6_rightAt_11 (Post : Mm → Int32 → Prop) (A11 : Mm → Nat → Int32 → Int32 → Int32 → Prop) (M : Mm) (j0 : Nat) (x1 : Int32) (x2 : Int32) (x3 : Int32) : Prop :=
  (((M ((j0 + 1) + 10) 0) ≤ x3 → Post M (-1000004 : Int32)) ∧
  (¬ (M ((j0 + 1) + 10) 0) ≤ x3 → vp_in x3 10 ∧ (∀ x4_4 : Int32, x4_4 = (M (((j0 + 1) + 10) + 7) (ix x3)) → (wX1_wants (fun M5 r6 => ((r6 = 0 → ∀ x3_8 : Int32, x3_8 = x3 + (1 : Int32) → (A11 M5 j0 x1 x2 x3_8)) ∧
  (¬ r6 = 0 → ((¬ x2 = x1 → ∀ x2_10 : Int32, x2_10 = x2 + (1 : Int32) → (∀ x3_11 : Int32, x3_11 = x3 + (1 : Int32) → (A11 M5 j0 x1 x2_10 x3_11))) ∧
  (x2 = x1 → Post M5 x4_4))))) M ((j0 + 1) + 10) x4_4))))
def lX6_rightAt_11 (Post : Mm → Int32 → Prop) : Nat → Mm → Nat → Int32 → Int32 → Int32 → Prop
  | 0 => fun _ _ _ _ _ => False
  | n + 1 => fun M j0 x1 x2 x3 => bX6_rightAt_11 Post (lX6_rightAt_11 Post n) M j0 x1 x2 x3
def wX6_rightAt (Post : Mm → Int32 → Prop) (M : Mm) (j0a : Nat) (x1a : Int32) : Prop :=
  ((0 ≤ x1a → (∃ n2 : Nat, lX6_rightAt_11 Post n2 M j0a x1a (0 : Int32) (0 : Int32))) ∧
  (¬ 0 ≤ x1a → Post M (-1000001 : Int32)))
abbrev rX6_rightAt : Room := ({ frames := 1, cells := 0, slots := 0, locals := 21 } : Room)
def wX6_count (Post : Mm → Int32 → Prop) (M : Mm) (j0a : Nat) (x1a : Int32) : Prop :=
  ((x1a = (0 : Int32) → Post M (M ((j0a + 1) + 1) 0)) ∧
  (¬ x1a = (0 : Int32) → ((x1a = (1 : Int32) → Post M (M ((j0a + 1) + 10) 0)) ∧
  (¬ x1a = (1 : Int32) → ((x1a = (2 : Int32) → wX1_wanting (fun M4 r5 => wJ6_bitCount_0f7a4 (fun M6 r7 => Post M6 r7) M4 r5) M ((j0a + 1) + 10)) ∧
  (¬ x1a = (2 : Int32) → ((x1a = (3 : Int32) → Post M (M ((j0a + 1) + 10) 1)) ∧
  (¬ x1a = (3 : Int32) → ((x1a = (4 : Int32) → Post M (M ((j0a + 1) + 1) 1)) ∧
  (¬ x1a = (4 : Int32) → ((x1a = (5 : Int32) → wX0_tended (fun M11 r12 => Post M11 r12) M ((j0a + 1) + 1)) ∧
  (¬ x1a = (5 : Int32) → ((x1a = (6 : Int32) → Post M (M (j0a + 1) 3)) ∧
  (¬ x1a = (6 : Int32) → ((x1a = (7 : Int32) → Post M (M (j0a + 1) 4)) ∧
  (¬ x1a = (7 : Int32) → ((x1a = (8 : Int32) → Post M (M (j0a + 1) 5)) ∧
  (¬ x1a = (8 : Int32) → ((x1a = (9 : Int32) → Post M (M (j0a + 1) 6)) ∧
  (¬ x1a = (9 : Int32) → ((x1a = (10 : Int32) → Post M (M (j0a + 1) 7)) ∧
  (¬ x1a = (10 : Int32) → ((x1a = (11 : Int32) → Post M (M ((j0a + 1) + 18) 0)) ∧
  (¬ x1a = (11 : Int32) → ((x1a = (12 : Int32) → ((¬ (M ((j0a + 1) + 18) 0) = 0 → Post M (M ((j0a + 1) + 18) 1)) ∧
  ((M ((j0a + 1) + 18) 0) = 0 → Post M (-1000004 : Int32)))) ∧
  (¬ x1a = (12 : Int32) → ((x1a = (13 : Int32) → Post M (M ((j0a + 1) + 18) 2)) ∧
  (¬ x1a = (13 : Int32) → ((x1a = (14 : Int32) → Post M (M (j0a + 47) 0)) ∧
  (¬ x1a = (14 : Int32) → ((x1a = (15 : Int32) → Post M (M (j0a + 141) 0)) ∧
  (¬ x1a = (15 : Int32) → Post M (-1000001 : Int32)))))))))))))))))))))))))))))))))
abbrev rX6_count : Room := ({ frames := 2, cells := 0, slots := 0, locals := 43 } : Room)
def wX6_undo (Post : Mm → Int32 → Prop) (M : Mm) (j0a : Nat) : Prop :=
  ((¬ (M (j0a + 47) 0) = 0 → wX2_restoreLatest (fun M2 r3 => Post M2 r3) M (j0a + 47) (j0a + 1)) ∧
  ((M (j0a + 47) 0) = 0 → Post M (-1000002 : Int32)))
abbrev rX6_undo : Room := ({ frames := 4, cells := 0, slots := 0, locals := 123 } : Room)
def wX6_type (Post : Mm → Int32 → Prop) (M : Mm) (j0a : Nat) (x1a : Int32) : Prop :=
  wX6_isOutside (fun M1 r2 => ((r2 = 0 → (((M1 (j0a + 141) 0) < (60 : Int32) → wX3_append (fun M5 r6 => Post M5 r6) M1 (j0a + 141) x1a) ∧
  (¬ (M1 (j0a + 141) 0) < (60 : Int32) → Post M1 (-1000003 : Int32)))) ∧
  (¬ r2 = 0 → Post M1 (-1000001 : Int32)))) M x1a (32 : Int32) (126 : Int32)
abbrev rX6_type : Room := ({ frames := 1, cells := 0, slots := 0, locals := 22 } : Room)
def wX6_clearText (Post : Mm → Int32 → Prop) (M : Mm) (j0a : Nat) : Prop :=
  ∀ x1_1 : Int32, x1_1 = (M (j0a + 141) 0) → (∀ M2 : Mm, M2 = mu M (j0a + 141) 0 (0 : Int32) → (Post M2 x1_1))
abbrev rX6_clearText : Room := ({ frames := 0, cells := 0, slots := 0, locals := 0 } : Room)
def wX6_fault (Post : Mm → Int32 → Prop) (M : Mm) (j0a : Nat) (x1a : Int32) : Prop :=
  wX6_isOutside (fun M1 r2 => ((r2 = 0 → wX4_become (fun M4 => wX3_carryOutAll (fun M6 r7 => ((¬ (M6 (j0a + 141) 7) = 0 → ((x1a = (0 : Int32) → Post M6 (M6 (j0a + 141) 2)) ∧
  (¬ x1a = (0 : Int32) → ((x1a = (1 : Int32) → Post M6 (M6 (j0a + 141) 7)) ∧
  (¬ x1a = (1 : Int32) → ((¬ (M6 (j0a + 141) 7) = (3 : Int32) → Post M6 (M6 (j0a + 141) 8)) ∧
  ((M6 (j0a + 141) 7) = (3 : Int32) → Post M6 (-1000004 : Int32)))))))) ∧
  ((M6 (j0a + 141) 7) = 0 → Post M6 (-1000004 : Int32)))) M4 (j0a + 141) (j0a + 24)) M1 (j0a + 24) (j0a + 1)) ∧
  (¬ r2 = 0 → Post M1 (-1000001 : Int32)))) M x1a (0 : Int32) (2 : Int32)
abbrev rX6_fault : Room := ({ frames := 7, cells := 0, slots := 0, locals := 172 } : Room)
def wX6_play (Post : Mm → Int32 → Prop) (M : Mm) (j0a : Nat) : Prop :=
  wX4_become (fun M1 => wX3_carryOutAll (fun M3 r4 => (((M3 (j0a + 141) 7) = 0 → wX2_record (fun M6 => wX4_become (fun M8 => Post M8 r4) M6 (j0a + 1) (j0a + 24)) M3 (j0a + 47) (j0a + 1)) ∧
  (¬ (M3 (j0a + 141) 7) = 0 → Post M3 (-1000002 : Int32)))) M1 (j0a + 141) (j0a + 24)) M (j0a + 24) (j0a + 1)
abbrev rX6_play : Room := ({ frames := 7, cells := 0, slots := 0, locals := 172 } : Room)
def wX7_in (Post : Mm → Int32 → Prop) (M : Mm) (x0a : Int32) (x1a : Int32) (x2a : Int32) : Prop :=
  ((x0a < x1a → Post M (0 : Int32)) ∧
  (¬ x0a < x1a → ((x2a < x0a → Post M (0 : Int32)) ∧
  (¬ x2a < x0a → Post M (1 : Int32)))))
abbrev rX7_in : Room := ({ frames := 0, cells := 0, slots := 0, locals := 0 } : Room)
def wX7_ca (Post : Mm → Int32 → Prop) (M : Mm) (j0a : Nat) (x1a : Int32) (x2a : Int32) : Prop :=
  vp_in (((10 : Int32) + ((9 : Int32) * x1a)) + x2a) 168 ∧ (Post M (M (j0a + 1) (ix (((10 : Int32) + ((9 : Int32) * x1a)) + x2a))))
abbrev rX7_ca : Room := ({ frames := 0, cells := 0, slots := 0, locals := 0 } : Room)
def wX7_fi (Post : Mm → Int32 → Prop) (M : Mm) (j0a : Nat) (x1a : Int32) (x2a : Int32) : Prop :=
  vp_in (((82 : Int32) + ((7 : Int32) * x1a)) + x2a) 168 ∧ (Post M (M (j0a + 1) (ix (((82 : Int32) + ((7 : Int32) * x1a)) + x2a))))
abbrev rX7_fi : Room := ({ frames := 0, cells := 0, slots := 0, locals := 0 } : Room)
def wX7_isCanal (Post : Mm → Int32 → Prop) (M : Mm) (j0a : Nat) (x1a : Int32) : Prop :=
  wX7_in (fun M1 r2 => (r2 = 0 ∨ r2 = 1) ∧ (Post M1 r2)) M x1a (0 : Int32) ((M (j0a + 1) 0) - (1 : Int32))
abbrev rX7_isCanal : Room := ({ frames := 1, cells := 0, slots := 0, locals := 22 } : Room)
def wX7_isGate (Post : Mm → Int32 → Prop) (M : Mm) (j0a : Nat) (x1a : Int32) : Prop :=
  wX7_in (fun M1 r2 => (r2 = 0 ∨ r2 = 1) ∧ (Post M1 r2)) M x1a (1 : Int32) ((M (j0a + 1) 0) - (1 : Int32))
abbrev rX7_isGate : Room := ({ frames := 1, cells := 0, slots := 0, locals := 22 } : Room)
def wX7_isField (Post : Mm → Int32 → Prop) (M : Mm) (j0a : Nat) (x1a : Int32) : Prop :=
  wX7_in (fun M1 r2 => (r2 = 0 ∨ r2 = 1) ∧ (Post M1 r2)) M x1a (0 : Int32) ((M (j0a + 1) 1) - (1 : Int32))
abbrev rX7_isField : Room := ({ frames := 1, cells := 0, slots := 0, locals := 22 } : Room)
def wX7_areGates (Post : Mm → Int32 → Prop) (M : Mm) (j0a : Nat) (x1a : Int32) : Prop :=
  ((x1a < 0 → Post M (0 : Int32)) ∧
  (¬ x1a < 0 → ((¬ (x1a &&& ((((1 : Int32) <<< ((M (j0a + 1) 0) &&& 31)) - (2 : Int32)) ^^^ (-1 : Int32))) = 0 → Post M (0 : Int32)) ∧
  ((x1a &&& ((((1 : Int32) <<< ((M (j0a + 1) 0) &&& 31)) - (2 : Int32)) ^^^ (-1 : Int32))) = 0 → Post M (1 : Int32)))))
abbrev rX7_areGates : Room := ({ frames := 0, cells := 0, slots := 0, locals := 0 } : Room)
def wX7_wants (Post : Mm → Int32 → Prop) (M : Mm) (j0a : Nat) (x1a : Int32) : Prop :=
  wX7_fi (fun M1 r2 => wX7_fi (fun M3 r4 => ((r4 ≤ r2 → Post M3 (0 : Int32)) ∧
  (¬ r4 ≤ r2 → Post M3 (1 : Int32)))) M1 j0a x1a (1 : Int32)) M j0a x1a (4 : Int32)
abbrev rX7_wants : Room := ({ frames := 1, cells := 0, slots := 0, locals := 22 } : Room)
def bX7_keeps_2 (Post : Mm → Prop) (A2 : Mm → Nat → Int32 → Prop) (M : Mm) (j0 : Nat) (x1 : Int32) : Prop :=
  (((168 : Int32) ≤ x1 → Post M) ∧
  (¬ (168 : Int32) ≤ x1 → vp_in x1 168 ∧ (vp_in x1 168 ∧ (∀ M3 : Mm, M3 = mu M (j0 + 3) (ix x1) (M (j0 + 1) (ix x1)) → (∀ x1_4 : Int32, x1_4 = x1 + (1 : Int32) → (A2 M3 j0 x1_4))))))
def lX7_keeps_2 (Post : Mm → Prop) : Nat → Mm → Nat → Int32 → Prop
  | 0 => fun _ _ _ => False
  | n + 1 => fun M j0 x1 => bX7_keeps_2 Post (lX7_keeps_2 Post n) M j0 x1
def wX7_keeps (Post : Mm → Prop) (M : Mm) (j0a : Nat) : Prop :=
  (∃ n1 : Nat, lX7_keeps_2 Post n1 M j0a (0 : Int32))
abbrev rX7_keeps : Room := ({ frames := 0, cells := 0, slots := 0, locals := 0 } : Room)
def bX7_acted_57 (Post : Mm → Int32 → Prop) (A57 : Mm → Nat → Int32 → Int32 → Prop) (M : Mm) (j0 : Nat) (x1 : Int32) (x2 : Int32) : Prop :=
  (((168 : Int32) ≤ x2 → ∀ M11 : Mm, M11 = mu M j0 4 ((M j0 4) + (1 : Int32)) → (Post M11 x1)) ∧
  (¬ (168 : Int32) ≤ x2 → vp_in x2 168 ∧ (vp_in (((168 : Int32) * (M j0 4)) + x2) 672 ∧ (∀ M12 : Mm, M12 = mu M (j0 + 2) (ix (((168 : Int32) * (M j0 4)) + x2)) (M (j0 + 3) (ix x2)) → (∀ x2_13 : Int32, x2_13 = x2 + (1 : Int32) → (A57 M12 j0 x1 x2_13))))))
def lX7_acted_57 (Post : Mm → Int32 → Prop) : Nat → Mm → Nat → Int32 → Int32 → Prop
  | 0 => fun _ _ _ _ => False
  | n + 1 => fun M j0 x1 x2 => bX7_acted_57 Post (lX7_acted_57 Post n) M j0 x1 x2
def bX7_acted_16 (Post : Mm → Int32 → Prop) (A16 : Mm → Nat → Int32 → Int32 → Prop) (M : Mm) (j0 : Nat) (x1 : Int32) (x2 : Int32) : Prop :=
  (((504 : Int32) ≤ x2 → ∀ M6 : Mm, M6 = mu M j0 4 ((M j0 4) - (1 : Int32)) → ((∃ n7 : Nat, lX7_acted_57 Post n7 M6 j0 x1 (0 : Int32)))) ∧
  (¬ (504 : Int32) ≤ x2 → vp_in (x2 + (168 : Int32)) 672 ∧ (vp_in x2 672 ∧ (∀ M8 : Mm, M8 = mu M (j0 + 2) (ix x2) (M (j0 + 2) (ix (x2 + (168 : Int32)))) → (∀ x2_9 : Int32, x2_9 = x2 + (1 : Int32) → (A16 M8 j0 x1 x2_9))))))
def lX7_acted_16 (Post : Mm → Int32 → Prop) : Nat → Mm → Nat → Int32 → Int32 → Prop
  | 0 => fun _ _ _ _ => False
  | n + 1 => fun M j0 x1 x2 => bX7_acted_16 Post (lX7_acted_16 Post n) M j0 x1 x2
def wX7_acted (Post : Mm → Int32 → Prop) (M : Mm) (j0a : Nat) (x1a : Int32) : Prop :=
  ((x1a ≤ (-1000001 : Int32) → Post M x1a) ∧
  (¬ x1a ≤ (-1000001 : Int32) → ((¬ (M j0a 4) = (4 : Int32) → (∃ n3 : Nat, lX7_acted_57 Post n3 M j0a x1a (0 : Int32))) ∧
  ((M j0a 4) = (4 : Int32) → (∃ n4 : Nat, lX7_acted_16 Post n4 M j0a x1a (0 : Int32))))))
abbrev rX7_acted : Room := ({ frames := 0, cells := 0, slots := 0, locals := 0 } : Room)
def bX7_puts_2 (Post : Mm → Prop) (A2 : Mm → Nat → Int32 → Prop) (M : Mm) (j0 : Nat) (x1 : Int32) : Prop :=
  (((168 : Int32) ≤ x1 → Post M) ∧
  (¬ (168 : Int32) ≤ x1 → vp_in x1 168 ∧ (vp_in x1 168 ∧ (∀ M3 : Mm, M3 = mu M (j0 + 4) (ix x1) (M (j0 + 1) (ix x1)) → (∀ x1_4 : Int32, x1_4 = x1 + (1 : Int32) → (A2 M3 j0 x1_4))))))
def lX7_puts_2 (Post : Mm → Prop) : Nat → Mm → Nat → Int32 → Prop
  | 0 => fun _ _ _ => False
  | n + 1 => fun M j0 x1 => bX7_puts_2 Post (lX7_puts_2 Post n) M j0 x1
def wX7_puts (Post : Mm → Prop) (M : Mm) (j0a : Nat) : Prop :=
  (∃ n1 : Nat, lX7_puts_2 Post n1 M j0a (0 : Int32))
abbrev rX7_puts : Room := ({ frames := 0, cells := 0, slots := 0, locals := 0 } : Room)
def bX7_restores_2 (Post : Mm → Prop) (A2 : Mm → Nat → Int32 → Prop) (M : Mm) (j0 : Nat) (x1 : Int32) : Prop :=
  (((168 : Int32) ≤ x1 → Post M) ∧
  (¬ (168 : Int32) ≤ x1 → vp_in x1 168 ∧ (vp_in x1 168 ∧ (∀ M3 : Mm, M3 = mu M (j0 + 1) (ix x1) (M (j0 + 4) (ix x1)) → (∀ x1_4 : Int32, x1_4 = x1 + (1 : Int32) → (A2 M3 j0 x1_4))))))
def lX7_restores_2 (Post : Mm → Prop) : Nat → Mm → Nat → Int32 → Prop
  | 0 => fun _ _ _ => False
  | n + 1 => fun M j0 x1 => bX7_restores_2 Post (lX7_restores_2 Post n) M j0 x1
def wX7_restores (Post : Mm → Prop) (M : Mm) (j0a : Nat) : Prop :=
  (∃ n1 : Nat, lX7_restores_2 Post n1 M j0a (0 : Int32))
abbrev rX7_restores : Room := ({ frames := 0, cells := 0, slots := 0, locals := 0 } : Room)
def bX7_canal_78 (Post : Mm → Int32 → Prop) (A78 : Mm → Nat → Int32 → Int32 → Int32 → Int32 → Int32 → Int32 → Prop) (M : Mm) (j0 : Nat) (x1 : Int32) (x2 : Int32) (x3 : Int32) (x4 : Int32) (x5 : Int32) (x6 : Int32) : Prop :=
  (((9 : Int32) ≤ x6 → vp_in x5 168 ∧ (∀ M19 : Mm, M19 = mu M (j0 + 1) (ix x5) x1 → (vp_in (x5 + (1 : Int32)) 168 ∧ (∀ M20 : Mm, M20 = mu M19 (j0 + 1) (ix (x5 + (1 : Int32))) x2 → (vp_in (x5 + (2 : Int32)) 168 ∧ (∀ M21 : Mm, M21 = mu M20 (j0 + 1) (ix (x5 + (2 : Int32))) x3 → (vp_in (x5 + (3 : Int32)) 168 ∧ (∀ M22 : Mm, M22 = mu M21 (j0 + 1) (ix (x5 + (3 : Int32))) x4 → (vp_in (x5 + (5 : Int32)) 168 ∧ (∀ M23 : Mm, M23 = mu M22 (j0 + 1) (ix (x5 + (5 : Int32))) (-1 : Int32) → (∀ M24 : Mm, M24 = mu M23 (j0 + 1) 0 ((M23 (j0 + 1) 0) + (1 : Int32)) → (wX7_acted (fun M25 r26 => Post M25 r26) M24 j0 ((M24 (j0 + 1) 0) - (1 : Int32)))))))))))))) ∧
  (¬ (9 : Int32) ≤ x6 → vp_in (x5 + x6) 168 ∧ (∀ M27 : Mm, M27 = mu M (j0 + 1) (ix (x5 + x6)) (0 : Int32) → (∀ x6_28 : Int32, x6_28 = x6 + (1 : Int32) → (A78 M27 j0 x1 x2 x3 x4 x5 x6_28)))))
def lX7_canal_78 (Post : Mm → Int32 → Prop) : Nat → Mm → Nat → Int32 → Int32 → Int32 → Int32 → Int32 → Int32 → Prop
  | 0 => fun _ _ _ _ _ _ _ _ => False
  | n + 1 => fun M j0 x1 x2 x3 x4 x5 x6 => bX7_canal_78 Post (lX7_canal_78 Post n) M j0 x1 x2 x3 x4 x5 x6
def wX7_canal (Post : Mm → Int32 → Prop) (M : Mm) (j0a : Nat) (x1a : Int32) (x2a : Int32) (x3a : Int32) (x4a : Int32) : Prop :=
  wX7_isCanal (fun M1 r2 => ((r2 = 0 → Post M1 (-1000001 : Int32)) ∧
  (¬ r2 = 0 → wX7_in (fun M4 r5 => ((r5 = 0 → Post M4 (-1000001 : Int32)) ∧
  (¬ r5 = 0 → wX7_in (fun M7 r8 => ((r8 = 0 → Post M7 (-1000001 : Int32)) ∧
  (¬ r8 = 0 → wX7_in (fun M10 r11 => ((¬ r11 = 0 → ((¬ (M10 (j0a + 1) 0) = (8 : Int32) → wX7_keeps (fun M14 => ∀ x5_16 : Int32, x5_16 = ((10 : Int32) + ((9 : Int32) * (M14 (j0a + 1) 0))) → ((∃ n17 : Nat, lX7_canal_78 Post n17 M14 j0a x1a x2a x3a x4a x5_16 (0 : Int32)))) M10 j0a) ∧
  ((M10 (j0a + 1) 0) = (8 : Int32) → Post M10 (-1000003 : Int32)))) ∧
  (r11 = 0 → Post M10 (-1000001 : Int32)))) M7 x4a (0 : Int32) (500 : Int32)))) M4 x3a (1 : Int32) (500 : Int32)))) M1 x2a (0 : Int32) (2 : Int32)))) M j0a x1a
abbrev rX7_canal : Room := ({ frames := 2, cells := 0, slots := 0, locals := 43 } : Room)
def bX7_field_79 (Post : Mm → Int32 → Prop) (A79 : Mm → Nat → Int32 → Int32 → Int32 → Int32 → Int32 → Int32 → Prop) (M : Mm) (j0 : Nat) (x1 : Int32) (x2 : Int32) (x3 : Int32) (x4 : Int32) (x5 : Int32) (x6 : Int32) : Prop :=
  (((7 : Int32) ≤ x6 → vp_in x5 168 ∧ (∀ M19 : Mm, M19 = mu M (j0 + 1) (ix x5) x1 → (vp_in (x5 + (1 : Int32)) 168 ∧ (∀ M20 : Mm, M20 = mu M19 (j0 + 1) (ix (x5 + (1 : Int32))) x2 → (vp_in (x5 + (2 : Int32)) 168 ∧ (∀ M21 : Mm, M21 = mu M20 (j0 + 1) (ix (x5 + (2 : Int32))) x3 → (vp_in (x5 + (3 : Int32)) 168 ∧ (∀ M22 : Mm, M22 = mu M21 (j0 + 1) (ix (x5 + (3 : Int32))) x4 → (∀ M23 : Mm, M23 = mu M22 (j0 + 1) 1 ((M22 (j0 + 1) 1) + (1 : Int32)) → (wX7_acted (fun M24 r25 => Post M24 r25) M23 j0 ((M23 (j0 + 1) 1) - (1 : Int32)))))))))))) ∧
  (¬ (7 : Int32) ≤ x6 → vp_in (x5 + x6) 168 ∧ (∀ M26 : Mm, M26 = mu M (j0 + 1) (ix (x5 + x6)) (0 : Int32) → (∀ x6_27 : Int32, x6_27 = x6 + (1 : Int32) → (A79 M26 j0 x1 x2 x3 x4 x5 x6_27)))))
def lX7_field_79 (Post : Mm → Int32 → Prop) : Nat → Mm → Nat → Int32 → Int32 → Int32 → Int32 → Int32 → Int32 → Prop
  | 0 => fun _ _ _ _ _ _ _ _ => False
  | n + 1 => fun M j0 x1 x2 x3 x4 x5 x6 => bX7_field_79 Post (lX7_field_79 Post n) M j0 x1 x2 x3 x4 x5 x6
def wX7_field (Post : Mm → Int32 → Prop) (M : Mm) (j0a : Nat) (x1a : Int32) (x2a : Int32) (x3a : Int32) (x4a : Int32) : Prop :=
  wX7_isCanal (fun M1 r2 => ((r2 = 0 → Post M1 (-1000001 : Int32)) ∧
  (¬ r2 = 0 → wX7_in (fun M4 r5 => ((r5 = 0 → Post M4 (-1000001 : Int32)) ∧
  (¬ r5 = 0 → wX7_in (fun M7 r8 => ((r8 = 0 → Post M7 (-1000001 : Int32)) ∧
  (¬ r8 = 0 → wX7_in (fun M10 r11 => ((¬ r11 = 0 → ((¬ (M10 (j0a + 1) 1) = (10 : Int32) → wX7_keeps (fun M14 => ∀ x5_16 : Int32, x5_16 = ((82 : Int32) + ((7 : Int32) * (M14 (j0a + 1) 1))) → ((∃ n17 : Nat, lX7_field_79 Post n17 M14 j0a x1a x2a x3a x4a x5_16 (0 : Int32)))) M10 j0a) ∧
  ((M10 (j0a + 1) 1) = (10 : Int32) → Post M10 (-1000003 : Int32)))) ∧
  (r11 = 0 → Post M10 (-1000001 : Int32)))) M7 x4a (0 : Int32) (99 : Int32)))) M4 x3a (1 : Int32) (200 : Int32)))) M1 x2a (1 : Int32) (999 : Int32)))) M j0a x1a
abbrev rX7_field : Room := ({ frames := 2, cells := 0, slots := 0, locals := 43 } : Room)
def bX7_tended_4 (Post : Mm → Int32 → Prop) (A4 : Mm → Nat → Int32 → Int32 → Int32 → Prop) (M : Mm) (j0 : Nat) (x1 : Int32) (x2 : Int32) (x3 : Int32) : Prop :=
  (((M (j0 + 1) 0) ≤ x3 → Post M x2) ∧
  (¬ (M (j0 + 1) 0) ≤ x3 → wX7_ca (fun M3 r4 => ((¬ r4 = x1 → ∀ x2_6 : Int32, x2_6 = (x2 + (0 : Int32)) → (∀ x3_7 : Int32, x3_7 = x3 + (1 : Int32) → (A4 M3 j0 x1 x2_6 x3_7))) ∧
  (r4 = x1 → ∀ x2_8 : Int32, x2_8 = (x2 + (1 : Int32)) → (∀ x3_9 : Int32, x3_9 = x3 + (1 : Int32) → (A4 M3 j0 x1 x2_8 x3_9))))) M j0 x3 (5 : Int32)))
def lX7_tended_4 (Post : Mm → Int32 → Prop) : Nat → Mm → Nat → Int32 → Int32 → Int32 → Prop
  | 0 => fun _ _ _ _ _ => False
  | n + 1 => fun M j0 x1 x2 x3 => bX7_tended_4 Post (lX7_tended_4 Post n) M j0 x1 x2 x3
def wX7_tended (Post : Mm → Int32 → Prop) (M : Mm) (j0a : Nat) (x1a : Int32) : Prop :=
  (∃ n1 : Nat, lX7_tended_4 Post n1 M j0a x1a (0 : Int32) (1 : Int32))
abbrev rX7_tended : Room := ({ frames := 1, cells := 0, slots := 0, locals := 22 } : Room)
def bX7_tend_47 (Post : Mm → Int32 → Prop) (M : Mm) (j0 : Nat) (x1 : Int32) (x2 : Int32) : Prop :=
  wX7_tended (fun M14 r15 => ((¬ r15 = (2 : Int32) → wX7_keeps (fun M17 => vp_in (((10 : Int32) + ((9 : Int32) * x2)) + (5 : Int32)) 168 ∧ (∀ M19 : Mm, M19 = mu M17 (j0 + 1) (ix (((10 : Int32) + ((9 : Int32) * x2)) + (5 : Int32))) x1 → (wX7_tended (fun M20 r21 => wX7_acted (fun M22 r23 => Post M22 r23) M20 j0 r21) M19 j0 x1))) M14 j0) ∧
  (r15 = (2 : Int32) → Post M14 (-1000003 : Int32)))) M j0 x1
def wX7_tend (Post : Mm → Int32 → Prop) (M : Mm) (j0a : Nat) (x1a : Int32) (x2a : Int32) : Prop :=
  wX7_in (fun M1 r2 => ((r2 = 0 → Post M1 (-1000001 : Int32)) ∧
  (¬ r2 = 0 → wX7_isGate (fun M4 r5 => ((¬ r5 = 0 → wX7_ca (fun M7 r8 => ((0 ≤ r8 → Post M7 (-1000002 : Int32)) ∧
  (¬ 0 ≤ r8 → (((2 : Int32) ≤ x1a → bX7_tend_47 Post M7 j0a x1a x2a) ∧
  (¬ (2 : Int32) ≤ x1a → wX7_ca (fun M11 r12 => ((r12 = x1a → bX7_tend_47 Post M11 j0a x1a x2a) ∧
  (¬ r12 = x1a → Post M11 (-1000002 : Int32)))) M7 j0a x2a (1 : Int32)))))) M4 j0a x2a (5 : Int32)) ∧
  (r5 = 0 → Post M4 (-1000001 : Int32)))) M1 j0a x2a))) M x1a (0 : Int32) (2 : Int32)
abbrev rX7_tend : Room := ({ frames := 2, cells := 0, slots := 0, locals := 45 } : Room)
def wX7_leave (Post : Mm → Int32 → Prop) (M : Mm) (j0a : Nat) (x1a : Int32) : Prop :=
  wX7_isGate (fun M1 r2 => ((¬ r2 = 0 → wX7_ca (fun M4 r5 => ((0 ≤ r5 → wX7_keeps (fun M7 => vp_in (((10 : Int32) + ((9 : Int32) * x1a)) + (5 : Int32)) 168 ∧ (∀ M9 : Mm, M9 = mu M7 (j0a + 1) (ix (((10 : Int32) + ((9 : Int32) * x1a)) + (5 : Int32))) (-1 : Int32) → (wX7_acted (fun M10 r11 => Post M10 r11) M9 j0a r5))) M4 j0a) ∧
  (¬ 0 ≤ r5 → Post M4 (-1000002 : Int32)))) M1 j0a x1a (5 : Int32)) ∧
  (r2 = 0 → Post M1 (-1000001 : Int32)))) M j0a x1a
abbrev rX7_leave : Room := ({ frames := 2, cells := 0, slots := 0, locals := 43 } : Room)
def bX7_openOnes_4 (Post : Mm → Int32 → Prop) (A4 : Mm → Nat → Int32 → Int32 → Prop) (M : Mm) (j0 : Nat) (x1 : Int32) (x2 : Int32) : Prop :=
  (((M (j0 + 1) 0) ≤ x2 → Post M x1) ∧
  (¬ (M (j0 + 1) 0) ≤ x2 → wX7_ca (fun M3 r4 => ∀ x1_5 : Int32, x1_5 = (x1 ||| (r4 <<< (x2 &&& 31))) → (∀ x2_6 : Int32, x2_6 = x2 + (1 : Int32) → (A4 M3 j0 x1_5 x2_6))) M j0 x2 (4 : Int32)))
def lX7_openOnes_4 (Post : Mm → Int32 → Prop) : Nat → Mm → Nat → Int32 → Int32 → Prop
  | 0 => fun _ _ _ _ => False
  | n + 1 => fun M j0 x1 x2 => bX7_openOnes_4 Post (lX7_openOnes_4 Post n) M j0 x1 x2
def wX7_openOnes (Post : Mm → Int32 → Prop) (M : Mm) (j0a : Nat) : Prop :=
  (∃ n1 : Nat, lX7_openOnes_4 Post n1 M j0a (0 : Int32) (1 : Int32))
abbrev rX7_openOnes : Room := ({ frames := 1, cells := 0, slots := 0, locals := 22 } : Room)
def bX7_sets_2 (Post : Mm → Prop) (A2 : Mm → Nat → Int32 → Int32 → Prop) (M : Mm) (j0 : Nat) (x1 : Int32) (x2 : Int32) : Prop :=
  (((M (j0 + 1) 0) ≤ x2 → Post M) ∧
  (¬ (M (j0 + 1) 0) ≤ x2 → vp_in (((10 : Int32) + ((9 : Int32) * x2)) + (4 : Int32)) 168 ∧ (∀ M3 : Mm, M3 = mu M (j0 + 1) (ix (((10 : Int32) + ((9 : Int32) * x2)) + (4 : Int32))) ((x1 >>> (x2 &&& 31)) &&& (1 : Int32)) → (∀ x2_4 : Int32, x2_4 = x2 + (1 : Int32) → (A2 M3 j0 x1 x2_4)))))
def lX7_sets_2 (Post : Mm → Prop) : Nat → Mm → Nat → Int32 → Int32 → Prop
  | 0 => fun _ _ _ _ => False
  | n + 1 => fun M j0 x1 x2 => bX7_sets_2 Post (lX7_sets_2 Post n) M j0 x1 x2
def wX7_sets (Post : Mm → Prop) (M : Mm) (j0a : Nat) (x1a : Int32) : Prop :=
  (∃ n1 : Nat, lX7_sets_2 Post n1 M j0a x1a (1 : Int32))
abbrev rX7_sets : Room := ({ frames := 0, cells := 0, slots := 0, locals := 0 } : Room)
def wX7_moves (Post : Mm → Int32 → Prop) (M : Mm) (j0a : Nat) (x1a : Int32) (x2a : Int32) : Prop :=
  wX7_isGate (fun M1 r2 => ((¬ r2 = 0 → wX7_ca (fun M4 r5 => ((r5 = x2a → Post M4 (-1000002 : Int32)) ∧
  (¬ r5 = x2a → wX7_ca (fun M7 r8 => ((0 ≤ r8 → vp_in (((10 : Int32) + ((9 : Int32) * x1a)) + (4 : Int32)) 168 ∧ (∀ M10 : Mm, M10 = mu M7 (j0a + 1) (ix (((10 : Int32) + ((9 : Int32) * x1a)) + (4 : Int32))) x2a → (wX7_openOnes (fun M11 r12 => Post M11 r12) M10 j0a))) ∧
  (¬ 0 ≤ r8 → Post M7 (-1000002 : Int32)))) M4 j0a x1a (5 : Int32)))) M1 j0a x1a (4 : Int32)) ∧
  (r2 = 0 → Post M1 (-1000001 : Int32)))) M j0a x1a
abbrev rX7_moves : Room := ({ frames := 2, cells := 0, slots := 0, locals := 44 } : Room)
def wX7_open (Post : Mm → Int32 → Prop) (M : Mm) (j0a : Nat) (x1a : Int32) : Prop :=
  wX7_keeps (fun M1 => wX7_moves (fun M3 r4 => wX7_acted (fun M5 r6 => Post M5 r6) M3 j0a r4) M1 j0a x1a (1 : Int32)) M j0a
abbrev rX7_open : Room := ({ frames := 3, cells := 0, slots := 0, locals := 66 } : Room)
def wX7_close (Post : Mm → Int32 → Prop) (M : Mm) (j0a : Nat) (x1a : Int32) : Prop :=
  wX7_keeps (fun M1 => wX7_moves (fun M3 r4 => wX7_acted (fun M5 r6 => Post M5 r6) M3 j0a r4) M1 j0a x1a (0 : Int32)) M j0a
abbrev rX7_close : Room := ({ frames := 3, cells := 0, slots := 0, locals := 66 } : Room)
def bX7_calling_4 (Post : Mm → Int32 → Prop) (A4 : Mm → Nat → Int32 → Int32 → Prop) (M : Mm) (j0 : Nat) (x1 : Int32) (x2 : Int32) : Prop :=
  (((M (j0 + 1) 1) ≤ x2 → Post M x1) ∧
  (¬ (M (j0 + 1) 1) ≤ x2 → wX7_fi (fun M3 r4 => ∀ x1_5 : Int32, x1_5 = (x1 ||| (r4 <<< (x2 &&& 31))) → (∀ x2_6 : Int32, x2_6 = x2 + (1 : Int32) → (A4 M3 j0 x1_5 x2_6))) M j0 x2 (5 : Int32)))
def lX7_calling_4 (Post : Mm → Int32 → Prop) : Nat → Mm → Nat → Int32 → Int32 → Prop
  | 0 => fun _ _ _ _ => False
  | n + 1 => fun M j0 x1 x2 => bX7_calling_4 Post (lX7_calling_4 Post n) M j0 x1 x2
def wX7_calling (Post : Mm → Int32 → Prop) (M : Mm) (j0a : Nat) : Prop :=
  (∃ n1 : Nat, lX7_calling_4 Post n1 M j0a (0 : Int32) (0 : Int32))
abbrev rX7_calling : Room := ({ frames := 1, cells := 0, slots := 0, locals := 22 } : Room)
def bX7_ones_4 (Post : Mm → Int32 → Prop) (A4 : Mm → Int32 → Int32 → Int32 → Prop) (M : Mm) (x0 : Int32) (x1 : Int32) (x2 : Int32) : Prop :=
  (((10 : Int32) ≤ x2 → Post M x1) ∧
  (¬ (10 : Int32) ≤ x2 → ∀ x1_3 : Int32, x1_3 = (x1 + ((x0 >>> (x2 &&& 31)) &&& (1 : Int32))) → (∀ x2_4 : Int32, x2_4 = x2 + (1 : Int32) → (A4 M x0 x1_3 x2_4))))
def lX7_ones_4 (Post : Mm → Int32 → Prop) : Nat → Mm → Int32 → Int32 → Int32 → Prop
  | 0 => fun _ _ _ _ => False
  | n + 1 => fun M x0 x1 x2 => bX7_ones_4 Post (lX7_ones_4 Post n) M x0 x1 x2
def wX7_ones (Post : Mm → Int32 → Prop) (M : Mm) (x0a : Int32) : Prop :=
  (∃ n1 : Nat, lX7_ones_4 Post n1 M x0a (0 : Int32) (0 : Int32))
abbrev rX7_ones : Room := ({ frames := 0, cells := 0, slots := 0, locals := 0 } : Room)
def wX7_calls (Post : Mm → Int32 → Prop) (M : Mm) (j0a : Nat) (x1a : Int32) : Prop :=
  wX7_isField (fun M1 r2 => ((¬ r2 = 0 → wX7_fi (fun M4 r5 => ((r5 = (1 : Int32) → Post M4 (-1000002 : Int32)) ∧
  (¬ r5 = (1 : Int32) → wX7_wants (fun M7 r8 => ((¬ r8 = 0 → vp_in (((82 : Int32) + ((7 : Int32) * x1a)) + (5 : Int32)) 168 ∧ (∀ M10 : Mm, M10 = mu M7 (j0a + 1) (ix (((82 : Int32) + ((7 : Int32) * x1a)) + (5 : Int32))) (1 : Int32) → (wX7_calling (fun M11 r12 => wX7_ones (fun M13 r14 => Post M13 r14) M11 r12) M10 j0a))) ∧
  (r8 = 0 → Post M7 (-1000002 : Int32)))) M4 j0a x1a))) M1 j0a x1a (5 : Int32)) ∧
  (r2 = 0 → Post M1 (-1000001 : Int32)))) M j0a x1a
abbrev rX7_calls : Room := ({ frames := 2, cells := 0, slots := 0, locals := 44 } : Room)
def wX7_call (Post : Mm → Int32 → Prop) (M : Mm) (j0a : Nat) (x1a : Int32) : Prop :=
  wX7_keeps (fun M1 => wX7_calls (fun M3 r4 => wX7_acted (fun M5 r6 => Post M5 r6) M3 j0a r4) M1 j0a x1a) M j0a
abbrev rX7_call : Room := ({ frames := 3, cells := 0, slots := 0, locals := 65 } : Room)
def wX7_turn (Post : Mm → Int32 → Prop) (M : Mm) (j0a : Nat) (x1a : Int32) (x2a : Int32) : Prop :=
  wX7_areGates (fun M1 r2 => ((r2 = 0 → Post M1 (-1000001 : Int32)) ∧
  (¬ r2 = 0 → wX7_in (fun M4 r5 => ((¬ r5 = 0 → ((¬ (M4 (j0a + 1) 2) = (8 : Int32) → wX7_keeps (fun M8 => vp_in ((152 : Int32) + ((2 : Int32) * (M8 (j0a + 1) 2))) 168 ∧ (∀ M10 : Mm, M10 = mu M8 (j0a + 1) (ix ((152 : Int32) + ((2 : Int32) * (M8 (j0a + 1) 2)))) x1a → (vp_in (((152 : Int32) + ((2 : Int32) * (M10 (j0a + 1) 2))) + (1 : Int32)) 168 ∧ (∀ M11 : Mm, M11 = mu M10 (j0a + 1) (ix (((152 : Int32) + ((2 : Int32) * (M10 (j0a + 1) 2))) + (1 : Int32))) x2a → (∀ M12 : Mm, M12 = mu M11 (j0a + 1) 2 ((M11 (j0a + 1) 2) + (1 : Int32)) → (∀ M13 : Mm, M13 = mu M12 (j0a + 1) 3 (0 : Int32) → (∀ M14 : Mm, M14 = mu M13 (j0a + 1) 4 (0 : Int32) → (wX7_acted (fun M15 r16 => Post M15 r16) M14 j0a (M14 (j0a + 1) 2))))))))) M4 j0a) ∧
  ((M4 (j0a + 1) 2) = (8 : Int32) → Post M4 (-1000003 : Int32)))) ∧
  (r5 = 0 → Post M4 (-1000001 : Int32)))) M1 x2a (1 : Int32) (20 : Int32)))) M j0a x1a
abbrev rX7_turn : Room := ({ frames := 1, cells := 0, slots := 0, locals := 22 } : Room)
def wX7_noTurns (Post : Mm → Int32 → Prop) (M : Mm) (j0a : Nat) : Prop :=
  wX7_keeps (fun M1 => ∀ x1_3 : Int32, x1_3 = (M1 (j0a + 1) 2) → (∀ M4 : Mm, M4 = mu M1 (j0a + 1) 2 (0 : Int32) → (∀ M5 : Mm, M5 = mu M4 (j0a + 1) 3 (0 : Int32) → (∀ M6 : Mm, M6 = mu M5 (j0a + 1) 4 (0 : Int32) → (wX7_acted (fun M7 r8 => Post M7 r8) M6 j0a x1_3))))) M j0a
abbrev rX7_noTurns : Room := ({ frames := 1, cells := 0, slots := 0, locals := 22 } : Room)
def bX7_isBelow_24 (Post : Mm → Int32 → Prop) (A3 : Mm → Nat → Int32 → Int32 → Int32 → Int32 → Prop) (M : Mm) (j0 : Nat) (x1 : Int32) (x2 : Int32) (x3 : Int32) (x4 : Int32) : Prop :=
  wX7_ca (fun M7 r8 => A3 M7 j0 x1 x2 x3 r8) M j0 x4 (0 : Int32)
def bX7_isBelow_36 (Post : Mm → Int32 → Prop) (M : Mm) (x1 : Int32) (x2 : Int32) (x4 : Int32) : Prop :=
  ((¬ x4 = x2 → Post M (0 : Int32)) ∧
  (x4 = x2 → ((x1 = x2 → Post M (0 : Int32)) ∧
  (¬ x1 = x2 → Post M (1 : Int32)))))
def bX7_isBelow_3 (Post : Mm → Int32 → Prop) (A3 : Mm → Nat → Int32 → Int32 → Int32 → Int32 → Prop) (M : Mm) (j0 : Nat) (x1 : Int32) (x2 : Int32) (x3 : Int32) (x4 : Int32) : Prop :=
  ((x4 ≤ x2 → bX7_isBelow_36 Post M x1 x2 x4) ∧
  (¬ x4 ≤ x2 → ((x3 = 0 → bX7_isBelow_24 Post A3 M j0 x1 x2 x3 x4) ∧
  (¬ x3 = 0 → wX7_ca (fun M4 r5 => ((¬ r5 = (1 : Int32) → bX7_isBelow_36 Post M4 x1 x2 x4) ∧
  (r5 = (1 : Int32) → bX7_isBelow_24 Post A3 M4 j0 x1 x2 x3 x4))) M j0 x4 (4 : Int32)))))
def lX7_isBelow_3 (Post : Mm → Int32 → Prop) : Nat → Mm → Nat → Int32 → Int32 → Int32 → Int32 → Prop
  | 0 => fun _ _ _ _ _ _ => False
  | n + 1 => fun M j0 x1 x2 x3 x4 => bX7_isBelow_3 Post (lX7_isBelow_3 Post n) M j0 x1 x2 x3 x4
def wX7_isBelow (Post : Mm → Int32 → Prop) (M : Mm) (j0a : Nat) (x1a : Int32) (x2a : Int32) (x3a : Int32) : Prop :=
  (∃ n1 : Nat, lX7_isBelow_3 Post n1 M j0a x1a x2a x3a x1a)
abbrev rX7_isBelow : Room := ({ frames := 1, cells := 0, slots := 0, locals := 22 } : Room)
def bX7_mayTake_4 (Post : Mm → Int32 → Prop) (A4 : Mm → Nat → Int32 → Int32 → Int32 → Prop) (M : Mm) (j0 : Nat) (x1 : Int32) (x2 : Int32) (x3 : Int32) : Prop :=
  (((M (j0 + 1) 1) ≤ x3 → (x2 = 0 ∨ x2 = 1) ∧ (Post M x2)) ∧
  (¬ (M (j0 + 1) 1) ≤ x3 → ((x2 = 0 → ∀ x3_4 : Int32, x3_4 = x3 + (1 : Int32) → (A4 M j0 x1 (0 : Int32) x3_4)) ∧
  (¬ x2 = 0 → wX7_fi (fun M5 r6 => ((¬ r6 = (1 : Int32) → ∀ x3_8 : Int32, x3_8 = x3 + (1 : Int32) → (A4 M5 j0 x1 (1 : Int32) x3_8)) ∧
  (r6 = (1 : Int32) → wX7_fi (fun M9 r10 => wX7_fi (fun M11 r12 => ((r12 ≤ r10 → ∀ x3_14 : Int32, x3_14 = x3 + (1 : Int32) → (A4 M11 j0 x1 (1 : Int32) x3_14)) ∧
  (¬ r12 ≤ r10 → wX7_fi (fun M15 r16 => wX7_fi (fun M17 r18 => wX7_isBelow (fun M19 r20 => ((¬ r20 = 0 → ∀ x3_22 : Int32, x3_22 = x3 + (1 : Int32) → (A4 M19 j0 x1 (0 : Int32) x3_22)) ∧
  (r20 = 0 → ∀ x3_23 : Int32, x3_23 = x3 + (1 : Int32) → (A4 M19 j0 x1 (1 : Int32) x3_23)))) M17 j0 r16 r18 (1 : Int32)) M15 j0 x1 (0 : Int32)) M11 j0 x3 (0 : Int32)))) M9 j0 x1 (3 : Int32)) M5 j0 x3 (3 : Int32)))) M j0 x3 (5 : Int32)))))
def lX7_mayTake_4 (Post : Mm → Int32 → Prop) : Nat → Mm → Nat → Int32 → Int32 → Int32 → Prop
  | 0 => fun _ _ _ _ _ => False
  | n + 1 => fun M j0 x1 x2 x3 => bX7_mayTake_4 Post (lX7_mayTake_4 Post n) M j0 x1 x2 x3
def wX7_mayTake (Post : Mm → Int32 → Prop) (M : Mm) (j0a : Nat) (x1a : Int32) : Prop :=
  (∃ n1 : Nat, lX7_mayTake_4 Post n1 M j0a x1a (1 : Int32) (0 : Int32))
abbrev rX7_mayTake : Room := ({ frames := 2, cells := 0, slots := 0, locals := 46 } : Room)
def bX7_isWanted_4 (Post : Mm → Int32 → Prop) (A4 : Mm → Nat → Int32 → Int32 → Int32 → Prop) (M : Mm) (j0 : Nat) (x1 : Int32) (x2 : Int32) (x3 : Int32) : Prop :=
  (((M (j0 + 1) 1) ≤ x3 → (x2 = 0 ∨ x2 = 1) ∧ (Post M x2)) ∧
  (¬ (M (j0 + 1) 1) ≤ x3 → ((¬ x2 = 0 → ∀ x3_4 : Int32, x3_4 = x3 + (1 : Int32) → (A4 M j0 x1 (1 : Int32) x3_4)) ∧
  (x2 = 0 → wX7_wants (fun M5 r6 => ((r6 = 0 → ∀ x3_8 : Int32, x3_8 = x3 + (1 : Int32) → (A4 M5 j0 x1 (0 : Int32) x3_8)) ∧
  (¬ r6 = 0 → wX7_fi (fun M9 r10 => ((r10 = x1 → ∀ x3_12 : Int32, x3_12 = x3 + (1 : Int32) → (A4 M9 j0 x1 (1 : Int32) x3_12)) ∧
  (¬ r10 = x1 → wX7_fi (fun M13 r14 => wX7_isBelow (fun M15 r16 => ((r16 = 0 → ∀ x3_18 : Int32, x3_18 = x3 + (1 : Int32) → (A4 M15 j0 x1 (0 : Int32) x3_18)) ∧
  (¬ r16 = 0 → ∀ x3_19 : Int32, x3_19 = x3 + (1 : Int32) → (A4 M15 j0 x1 (1 : Int32) x3_19)))) M13 j0 r14 x1 (0 : Int32)) M9 j0 x3 (0 : Int32)))) M5 j0 x3 (0 : Int32)))) M j0 x3))))
def lX7_isWanted_4 (Post : Mm → Int32 → Prop) : Nat → Mm → Nat → Int32 → Int32 → Int32 → Prop
  | 0 => fun _ _ _ _ _ => False
  | n + 1 => fun M j0 x1 x2 x3 => bX7_isWanted_4 Post (lX7_isWanted_4 Post n) M j0 x1 x2 x3
def wX7_isWanted (Post : Mm → Int32 → Prop) (M : Mm) (j0a : Nat) (x1a : Int32) : Prop :=
  (∃ n1 : Nat, lX7_isWanted_4 Post n1 M j0a x1a (0 : Int32) (0 : Int32))
abbrev rX7_isWanted : Room := ({ frames := 2, cells := 0, slots := 0, locals := 46 } : Room)
def bX7_next_47 (Post : Mm → Int32 → Prop) (A4 : Mm → Nat → Int32 → Int32 → Int32 → Prop) (M : Mm) (j0 : Nat) (x1 : Int32) (x2 : Int32) (x3 : Int32) (t0 : Int32) : Prop :=
  ((t0 = 0 → ∀ x3_11 : Int32, x3_11 = x3 + (1 : Int32) → (A4 M j0 x1 x2 x3_11)) ∧
  (¬ t0 = 0 → ∀ x3_12 : Int32, x3_12 = x3 + (1 : Int32) → (A4 M j0 x1 x3 x3_12)))
def bX7_next_46 (Post : Mm → Int32 → Prop) (A4 : Mm → Nat → Int32 → Int32 → Int32 → Prop) (M : Mm) (j0 : Nat) (x1 : Int32) (x2 : Int32) (x3 : Int32) : Prop :=
  bX7_next_47 Post A4 M j0 x1 x2 x3 (0 : Int32)
def bX7_next_4 (Post : Mm → Int32 → Prop) (A4 : Mm → Nat → Int32 → Int32 → Int32 → Prop) (M : Mm) (j0 : Nat) (x1 : Int32) (x2 : Int32) (x3 : Int32) : Prop :=
  (((M (j0 + 1) 1) ≤ x3 → Post M x2) ∧
  (¬ (M (j0 + 1) 1) ≤ x3 → ((¬ ((x1 >>> (x3 &&& 31)) &&& (1 : Int32)) = (1 : Int32) → bX7_next_46 Post A4 M j0 x1 x2 x3) ∧
  (((x1 >>> (x3 &&& 31)) &&& (1 : Int32)) = (1 : Int32) → ((x2 < 0 → bX7_next_47 Post A4 M j0 x1 x2 x3 (1 : Int32)) ∧
  (¬ x2 < 0 → wX7_fi (fun M5 r6 => wX7_fi (fun M7 r8 => ((r8 ≤ r6 → bX7_next_46 Post A4 M7 j0 x1 x2 x3) ∧
  (¬ r8 ≤ r6 → bX7_next_47 Post A4 M7 j0 x1 x2 x3 (1 : Int32)))) M5 j0 x2 (3 : Int32)) M j0 x3 (3 : Int32)))))))
def lX7_next_4 (Post : Mm → Int32 → Prop) : Nat → Mm → Nat → Int32 → Int32 → Int32 → Prop
  | 0 => fun _ _ _ _ _ => False
  | n + 1 => fun M j0 x1 x2 x3 => bX7_next_4 Post (lX7_next_4 Post n) M j0 x1 x2 x3
def wX7_next (Post : Mm → Int32 → Prop) (M : Mm) (j0a : Nat) (x1a : Int32) : Prop :=
  (∃ n1 : Nat, lX7_next_4 Post n1 M j0a x1a (-1 : Int32) (0 : Int32))
abbrev rX7_next : Room := ({ frames := 1, cells := 0, slots := 0, locals := 22 } : Room)
def bX7_serves_218 (Post : Mm → Int32 → Prop) (A72 : Mm → Nat → Int32 → Int32 → Int32 → Int32 → Prop) (M : Mm) (j0 : Nat) (x2 : Int32) (x3 : Int32) (x4 : Int32) (t0 : Int32) (t1 : Int32) (js2 : Nat) : Prop :=
  vp_in t1 168 ∧ (∀ M45 : Mm, M45 = mu M js2 (ix t1) t0 → (wX7_next (fun M46 r47 => A72 M46 j0 x2 x3 x4 r47) M45 j0 x3))
def bX7_serves_210 (Post : Mm → Int32 → Prop) (A72 : Mm → Nat → Int32 → Int32 → Int32 → Int32 → Prop) (M : Mm) (j0 : Nat) (x2 : Int32) (x3 : Int32) (x4 : Int32) (x5 : Int32) (t0 : Int32) (js1 : Nat) : Prop :=
  wX7_fi (fun M43 r44 => bX7_serves_218 Post A72 M43 j0 x2 x3 x4 r44 t0 js1) M j0 x5 (6 : Int32)
def bX7_serves_143 (Post : Mm → Int32 → Prop) (A72 : Mm → Nat → Int32 → Int32 → Int32 → Int32 → Prop) (M : Mm) (j0 : Nat) (x2 : Int32) (x3 : Int32) (x4 : Int32) (x5 : Int32) (t0 : Int32) : Prop :=
  ∀ x4_37 : Int32, x4_37 = (x4 - t0) → (vp_in (((82 : Int32) + ((7 : Int32) * x5)) + (4 : Int32)) 168 ∧ (vp_in (((82 : Int32) + ((7 : Int32) * x5)) + (4 : Int32)) 168 ∧ (∀ M38 : Mm, M38 = mu M (j0 + 1) (ix (((82 : Int32) + ((7 : Int32) * x5)) + (4 : Int32))) ((M (j0 + 1) (ix (((82 : Int32) + ((7 : Int32) * x5)) + (4 : Int32)))) + t0) → (((t0 ≤ 0 → bX7_serves_210 Post A72 M38 j0 x2 x3 x4_37 x5 (((82 : Int32) + ((7 : Int32) * x5)) + (6 : Int32)) (j0 + 1)) ∧
  (¬ t0 ≤ 0 → wX7_wants (fun M40 r41 => ((¬ r41 = 0 → bX7_serves_210 Post A72 M40 j0 x2 x3 x4_37 x5 (((82 : Int32) + ((7 : Int32) * x5)) + (6 : Int32)) (j0 + 1)) ∧
  (r41 = 0 → bX7_serves_218 Post A72 M40 j0 x2 x3 x4_37 (M40 (j0 + 1) 5) (((82 : Int32) + ((7 : Int32) * x5)) + (6 : Int32)) (j0 + 1)))) M38 j0 x5))))))
def bX7_serves_127 (Post : Mm → Int32 → Prop) (A72 : Mm → Nat → Int32 → Int32 → Int32 → Int32 → Prop) (M : Mm) (j0 : Nat) (x2 : Int32) (x3 : Int32) (x4 : Int32) (x5 : Int32) (t0 : Int32) : Prop :=
  ((t0 ≤ x4 → bX7_serves_143 Post A72 M j0 x2 x3 x4 x5 t0) ∧
  (¬ t0 ≤ x4 → bX7_serves_143 Post A72 M j0 x2 x3 x4 x5 x4))
def bX7_serves_72 (Post : Mm → Int32 → Prop) (A72 : Mm → Nat → Int32 → Int32 → Int32 → Int32 → Prop) (M : Mm) (j0 : Nat) (x2 : Int32) (x3 : Int32) (x4 : Int32) (x5 : Int32) : Prop :=
  ((x5 < 0 → ∀ M24 : Mm, M24 = mu M (j0 + 1) 7 ((M (j0 + 1) 7) + (x2 - x4)) → (Post M24 x4)) ∧
  (¬ x5 < 0 → ∀ x3_25 : Int32, x3_25 = (x3 &&& (((1 : Int32) <<< (x5 &&& 31)) ^^^ (-1 : Int32))) → (wX7_fi (fun M26 r27 => wX7_fi (fun M28 r29 => ∀ x6_30 : Int32, x6_30 = (r27 - r29) → (wX7_fi (fun M31 r32 => ((x6_30 ≤ r32 → bX7_serves_127 Post A72 M31 j0 x2 x3_25 x4 x5 x6_30) ∧
  (¬ x6_30 ≤ r32 → wX7_fi (fun M34 r35 => bX7_serves_127 Post A72 M34 j0 x2 x3_25 x4 x5 r35) M31 j0 x5 (2 : Int32)))) M28 j0 x5 (2 : Int32))) M26 j0 x5 (4 : Int32)) M j0 x5 (1 : Int32))))
def lX7_serves_72 (Post : Mm → Int32 → Prop) : Nat → Mm → Nat → Int32 → Int32 → Int32 → Int32 → Prop
  | 0 => fun _ _ _ _ _ _ => False
  | n + 1 => fun M j0 x2 x3 x4 x5 => bX7_serves_72 Post (lX7_serves_72 Post n) M j0 x2 x3 x4 x5
def bX7_serves_5 (Post : Mm → Int32 → Prop) (A5 : Mm → Nat → Int32 → Int32 → Int32 → Int32 → Prop) (M : Mm) (j0 : Nat) (x1 : Int32) (x2 : Int32) (x3 : Int32) (x4 : Int32) : Prop :=
  (((M (j0 + 1) 1) ≤ x4 → wX7_next (fun M3 r4 => (∃ n5 : Nat, lX7_serves_72 Post n5 M3 j0 x2 x3 x2 r4)) M j0 x3) ∧
  (¬ (M (j0 + 1) 1) ≤ x4 → wX7_fi (fun M6 r7 => ((¬ r7 = x1 → ∀ x3_9 : Int32, x3_9 = (x3 ||| (0 : Int32)) → (∀ x4_10 : Int32, x4_10 = x4 + (1 : Int32) → (A5 M6 j0 x1 x2 x3_9 x4_10))) ∧
  (r7 = x1 → wX7_wants (fun M11 r12 => ((r12 = 0 → ∀ x3_14 : Int32, x3_14 = (x3 ||| (0 : Int32)) → (∀ x4_15 : Int32, x4_15 = x4 + (1 : Int32) → (A5 M11 j0 x1 x2 x3_14 x4_15))) ∧
  (¬ r12 = 0 → wX7_mayTake (fun M16 r17 => ((r17 = 0 → ∀ x3_19 : Int32, x3_19 = (x3 ||| (0 : Int32)) → (∀ x4_20 : Int32, x4_20 = x4 + (1 : Int32) → (A5 M16 j0 x1 x2 x3_19 x4_20))) ∧
  (¬ r17 = 0 → ∀ x3_21 : Int32, x3_21 = (x3 ||| ((1 : Int32) <<< (x4 &&& 31))) → (∀ x4_22 : Int32, x4_22 = x4 + (1 : Int32) → (A5 M16 j0 x1 x2 x3_21 x4_22))))) M11 j0 x4))) M6 j0 x4))) M j0 x4 (0 : Int32)))
def lX7_serves_5 (Post : Mm → Int32 → Prop) : Nat → Mm → Nat → Int32 → Int32 → Int32 → Int32 → Prop
  | 0 => fun _ _ _ _ _ _ => False
  | n + 1 => fun M j0 x1 x2 x3 x4 => bX7_serves_5 Post (lX7_serves_5 Post n) M j0 x1 x2 x3 x4
def wX7_serves (Post : Mm → Int32 → Prop) (M : Mm) (j0a : Nat) (x1a : Int32) (x2a : Int32) : Prop :=
  (∃ n1 : Nat, lX7_serves_5 Post n1 M j0a x1a x2a (0 : Int32) (0 : Int32))
abbrev rX7_serves : Room := ({ frames := 3, cells := 0, slots := 0, locals := 69 } : Room)
def wX7_lets (Post : Mm → Int32 → Prop) (M : Mm) (j0a : Nat) (x1a : Int32) (x2a : Int32) : Prop :=
  wX7_ca (fun M1 r2 => ((¬ r2 = x2a → Post M1 (0 : Int32)) ∧
  (r2 = x2a → wX7_ca (fun M4 r5 => ((¬ r5 = (1 : Int32) → Post M4 (0 : Int32)) ∧
  (r5 = (1 : Int32) → wX7_ca (fun M7 r8 => ((¬ r8 = (2 : Int32) → Post M7 (1 : Int32)) ∧
  (r8 = (2 : Int32) → wX7_isWanted (fun M10 r11 => ((r11 = 0 → Post M10 (0 : Int32)) ∧
  (¬ r11 = 0 → Post M10 (1 : Int32)))) M7 j0a x1a))) M4 j0a x1a (1 : Int32)))) M1 j0a x1a (4 : Int32)))) M j0a x1a (0 : Int32)
abbrev rX7_lets : Room := ({ frames := 3, cells := 0, slots := 0, locals := 69 } : Room)
def bX7_parts_163 (Post : Mm → Int32 → Prop) (A63 : Mm → Nat → Int32 → Int32 → Int32 → Int32 → Int32 → Int32 → Prop) (M : Mm) (j0 : Nat) (x1 : Int32) (x2 : Int32) (x3 : Int32) (x4 : Int32) (x5 : Int32) (x6 : Int32) (t0 : Int32) : Prop :=
  vp_in (((10 : Int32) + ((9 : Int32) * x6)) + (6 : Int32)) 168 ∧ (∀ M31 : Mm, M31 = mu M (j0 + 1) (ix (((10 : Int32) + ((9 : Int32) * x6)) + (6 : Int32))) t0 → (∀ x4_32 : Int32, x4_32 = (x4 - t0) → (∀ x6_33 : Int32, x6_33 = x6 + (1 : Int32) → (A63 M31 j0 x1 x2 x3 x4_32 x5 x6_33))))
def bX7_parts_137 (Post : Mm → Int32 → Prop) (A63 : Mm → Nat → Int32 → Int32 → Int32 → Int32 → Int32 → Int32 → Prop) (M : Mm) (j0 : Nat) (x1 : Int32) (x2 : Int32) (x3 : Int32) (x4 : Int32) (x5 : Int32) (x6 : Int32) (t0 : Int32) : Prop :=
  wX7_ca (fun M26 r27 => ((t0 ≤ r27 → bX7_parts_163 Post A63 M26 j0 x1 x2 x3 x4 x5 x6 t0) ∧
  (¬ t0 ≤ r27 → wX7_ca (fun M29 r30 => bX7_parts_163 Post A63 M29 j0 x1 x2 x3 x4 x5 x6 r30) M26 j0 x6 (2 : Int32)))) M j0 x6 (2 : Int32)
def bX7_parts_112 (Post : Mm → Int32 → Prop) (A63 : Mm → Nat → Int32 → Int32 → Int32 → Int32 → Int32 → Int32 → Prop) (M : Mm) (j0 : Nat) (x1 : Int32) (x2 : Int32) (x3 : Int32) (x4 : Int32) (x6 : Int32) (x7 : Int32) (t0 : Int32) (t1 : Int32) : Prop :=
  ∀ x5_22 : Int32, x5_22 = (t1 - t0) → (wX7_ca (fun M23 r24 => ((¬ r24 = (1 : Int32) → bX7_parts_137 Post A63 M23 j0 x1 x2 x3 x4 x5_22 x6 x7) ∧
  (r24 = (1 : Int32) → bX7_parts_137 Post A63 M23 j0 x1 x2 x3 x4 x5_22 x6 ((x7 + (1 : Int32)) / (2 : Int32))))) M j0 x6 (1 : Int32))
def bX7_parts_97 (Post : Mm → Int32 → Prop) (A63 : Mm → Nat → Int32 → Int32 → Int32 → Int32 → Int32 → Int32 → Prop) (M : Mm) (j0 : Nat) (x1 : Int32) (x2 : Int32) (x3 : Int32) (x4 : Int32) (x5 : Int32) (x6 : Int32) (t0 : Int32) (t1 : Int32) : Prop :=
  ∀ x7_20 : Int32, x7_20 = (t1 + t0) → (((x5 ≤ 0 → bX7_parts_112 Post A63 M j0 x1 x2 x3 x4 x6 x7_20 (0 : Int32) x5) ∧
  (¬ x5 ≤ 0 → bX7_parts_112 Post A63 M j0 x1 x2 x3 x4 x6 x7_20 (1 : Int32) x5)))
def bX7_parts_63 (Post : Mm → Int32 → Prop) (A63 : Mm → Nat → Int32 → Int32 → Int32 → Int32 → Int32 → Int32 → Prop) (M : Mm) (j0 : Nat) (x1 : Int32) (x2 : Int32) (x3 : Int32) (x4 : Int32) (x5 : Int32) (x6 : Int32) : Prop :=
  (((M (j0 + 1) 0) ≤ x6 → Post M x4) ∧
  (¬ (M (j0 + 1) 0) ≤ x6 → wX7_lets (fun M15 r16 => ((r16 = 0 → ∀ x6_18 : Int32, x6_18 = x6 + (1 : Int32) → (A63 M15 j0 x1 x2 x3 x4 x5 x6_18)) ∧
  (¬ r16 = 0 → ¬ x3 = 0 ∧ (((x5 ≤ 0 → bX7_parts_97 Post A63 M15 j0 x1 x2 x3 x4 x5 x6 (0 : Int32) (x2 / x3)) ∧
  (¬ x5 ≤ 0 → bX7_parts_97 Post A63 M15 j0 x1 x2 x3 x4 x5 x6 (1 : Int32) (x2 / x3))))))) M j0 x6 x1))
def lX7_parts_63 (Post : Mm → Int32 → Prop) : Nat → Mm → Nat → Int32 → Int32 → Int32 → Int32 → Int32 → Int32 → Prop
  | 0 => fun _ _ _ _ _ _ _ _ => False
  | n + 1 => fun M j0 x1 x2 x3 x4 x5 x6 => bX7_parts_63 Post (lX7_parts_63 Post n) M j0 x1 x2 x3 x4 x5 x6
def bX7_parts_56 (Post : Mm → Int32 → Prop) (M : Mm) (j0 : Nat) (x1 : Int32) (x2 : Int32) (x3 : Int32) (x4 : Int32) (t0 : Int32) : Prop :=
  ∀ x6_12 : Int32, x6_12 = (x1 + (1 : Int32)) → ((∃ n13 : Nat, lX7_parts_63 Post n13 M j0 x1 x2 x3 x4 t0 x6_12))
def bX7_parts_7 (Post : Mm → Int32 → Prop) (A7 : Mm → Nat → Int32 → Int32 → Int32 → Int32 → Prop) (M : Mm) (j0 : Nat) (x1 : Int32) (x2 : Int32) (x3 : Int32) (x4 : Int32) : Prop :=
  (((M (j0 + 1) 0) ≤ x4 → ((¬ x3 = 0 → ¬ x3 = 0 ∧ (bX7_parts_56 Post M j0 x1 x2 x3 x2 (x2 - x2 / x3 * x3))) ∧
  (x3 = 0 → bX7_parts_56 Post M j0 x1 x2 x3 x2 (0 : Int32)))) ∧
  (¬ (M (j0 + 1) 0) ≤ x4 → wX7_lets (fun M5 r6 => ((r6 = 0 → ∀ x3_8 : Int32, x3_8 = (x3 + (0 : Int32)) → (∀ x4_9 : Int32, x4_9 = x4 + (1 : Int32) → (A7 M5 j0 x1 x2 x3_8 x4_9))) ∧
  (¬ r6 = 0 → ∀ x3_10 : Int32, x3_10 = (x3 + (1 : Int32)) → (∀ x4_11 : Int32, x4_11 = x4 + (1 : Int32) → (A7 M5 j0 x1 x2 x3_10 x4_11))))) M j0 x4 x1))
def lX7_parts_7 (Post : Mm → Int32 → Prop) : Nat → Mm → Nat → Int32 → Int32 → Int32 → Int32 → Prop
  | 0 => fun _ _ _ _ _ _ => False
  | n + 1 => fun M j0 x1 x2 x3 x4 => bX7_parts_7 Post (lX7_parts_7 Post n) M j0 x1 x2 x3 x4
def wX7_parts (Post : Mm → Int32 → Prop) (M : Mm) (j0a : Nat) (x1a : Int32) (x2a : Int32) : Prop :=
  ∀ x4_1 : Int32, x4_1 = (x1a + (1 : Int32)) → ((∃ n2 : Nat, lX7_parts_7 Post n2 M j0a x1a x2a (0 : Int32) x4_1))
abbrev rX7_parts : Room := ({ frames := 4, cells := 0, slots := 0, locals := 91 } : Room)
def bX7_flows_230 (Post : Mm → Int32 → Prop) (A230 : Mm → Nat → Int32 → Int32 → Prop) (M : Mm) (j0 : Nat) (x2 : Int32) (x4 : Int32) : Prop :=
  (((M (j0 + 1) 1) ≤ x4 → Post M ((M (j0 + 1) 7) - x2)) ∧
  (¬ (M (j0 + 1) 1) ≤ x4 → wX7_wants (fun M32 r33 => ((r33 = 0 → vp_in (((82 : Int32) + ((7 : Int32) * x4)) + (5 : Int32)) 168 ∧ (∀ M35 : Mm, M35 = mu M32 (j0 + 1) (ix (((82 : Int32) + ((7 : Int32) * x4)) + (5 : Int32))) (0 : Int32) → (∀ x4_36 : Int32, x4_36 = x4 + (1 : Int32) → (A230 M35 j0 x2 x4_36)))) ∧
  (¬ r33 = 0 → wX7_fi (fun M37 r38 => vp_in (((82 : Int32) + ((7 : Int32) * x4)) + (5 : Int32)) 168 ∧ (∀ M39 : Mm, M39 = mu M37 (j0 + 1) (ix (((82 : Int32) + ((7 : Int32) * x4)) + (5 : Int32))) r38 → (∀ x4_40 : Int32, x4_40 = x4 + (1 : Int32) → (A230 M39 j0 x2 x4_40)))) M32 j0 x4 (5 : Int32)))) M j0 x4))
def lX7_flows_230 (Post : Mm → Int32 → Prop) : Nat → Mm → Nat → Int32 → Int32 → Prop
  | 0 => fun _ _ _ _ => False
  | n + 1 => fun M j0 x2 x4 => bX7_flows_230 Post (lX7_flows_230 Post n) M j0 x2 x4
def bX7_flows_95 (Post : Mm → Int32 → Prop) (A95 : Mm → Nat → Int32 → Int32 → Prop) (M : Mm) (j0 : Nat) (x2 : Int32) (x4 : Int32) : Prop :=
  (((M (j0 + 1) 0) ≤ x4 → (∃ n16 : Nat, lX7_flows_230 Post n16 M j0 x2 (0 : Int32))) ∧
  (¬ (M (j0 + 1) 0) ≤ x4 → wX7_ca (fun M17 r18 => wX7_ca (fun M19 r20 => ∀ x6_21 : Int32, x6_21 = (((r18 * r20) + (999 : Int32)) / (1000 : Int32)) → (vp_in (((10 : Int32) + ((9 : Int32) * x4)) + (7 : Int32)) 168 ∧ (vp_in (((10 : Int32) + ((9 : Int32) * x4)) + (7 : Int32)) 168 ∧ (∀ M22 : Mm, M22 = mu M19 (j0 + 1) (ix (((10 : Int32) + ((9 : Int32) * x4)) + (7 : Int32))) ((M19 (j0 + 1) (ix (((10 : Int32) + ((9 : Int32) * x4)) + (7 : Int32)))) + x6_21) → (∀ M23 : Mm, M23 = mu M22 (j0 + 1) 8 ((M22 (j0 + 1) 8) + x6_21) → (wX7_serves (fun M24 r25 => wX7_parts (fun M26 r27 => vp_in (((10 : Int32) + ((9 : Int32) * x4)) + (8 : Int32)) 168 ∧ (vp_in (((10 : Int32) + ((9 : Int32) * x4)) + (8 : Int32)) 168 ∧ (∀ M28 : Mm, M28 = mu M26 (j0 + 1) (ix (((10 : Int32) + ((9 : Int32) * x4)) + (8 : Int32))) ((M26 (j0 + 1) (ix (((10 : Int32) + ((9 : Int32) * x4)) + (8 : Int32)))) + r27) → (∀ M29 : Mm, M29 = mu M28 (j0 + 1) 9 ((M28 (j0 + 1) 9) + r27) → (∀ x4_30 : Int32, x4_30 = x4 + (1 : Int32) → (A95 M29 j0 x2 x4_30)))))) M24 j0 x4 r25) M23 j0 x4 (r18 - x6_21))))))) M17 j0 x4 (3 : Int32)) M j0 x4 (6 : Int32)))
def lX7_flows_95 (Post : Mm → Int32 → Prop) : Nat → Mm → Nat → Int32 → Int32 → Prop
  | 0 => fun _ _ _ _ => False
  | n + 1 => fun M j0 x2 x4 => bX7_flows_95 Post (lX7_flows_95 Post n) M j0 x2 x4
def bX7_flows_72 (Post : Mm → Int32 → Prop) (M : Mm) (j0 : Nat) (x2 : Int32) (t0 : Int32) : Prop :=
  ∀ M12 : Mm, M12 = mu M (j0 + 1) 16 t0 → (∀ M13 : Mm, M13 = mu M12 (j0 + 1) 6 ((M12 (j0 + 1) 6) + t0) → ((∃ n14 : Nat, lX7_flows_95 Post n14 M13 j0 x2 (0 : Int32))))
def bX7_flows_20 (Post : Mm → Int32 → Prop) (A20 : Mm → Nat → Int32 → Int32 → Int32 → Prop) (M : Mm) (j0 : Nat) (x1 : Int32) (x2 : Int32) (x3 : Int32) : Prop :=
  (((M (j0 + 1) 0) ≤ x3 → wX7_ca (fun M5 r6 => ((x1 ≤ r6 → bX7_flows_72 Post M5 j0 x2 x1) ∧
  (¬ x1 ≤ r6 → wX7_ca (fun M8 r9 => bX7_flows_72 Post M8 j0 x2 r9) M5 j0 (0 : Int32) (2 : Int32)))) M j0 (0 : Int32) (2 : Int32)) ∧
  (¬ (M (j0 + 1) 0) ≤ x3 → vp_in (((10 : Int32) + ((9 : Int32) * x3)) + (6 : Int32)) 168 ∧ (∀ M10 : Mm, M10 = mu M (j0 + 1) (ix (((10 : Int32) + ((9 : Int32) * x3)) + (6 : Int32))) (0 : Int32) → (∀ x3_11 : Int32, x3_11 = x3 + (1 : Int32) → (A20 M10 j0 x1 x2 x3_11)))))
def lX7_flows_20 (Post : Mm → Int32 → Prop) : Nat → Mm → Nat → Int32 → Int32 → Int32 → Prop
  | 0 => fun _ _ _ _ _ => False
  | n + 1 => fun M j0 x1 x2 x3 => bX7_flows_20 Post (lX7_flows_20 Post n) M j0 x1 x2 x3
def wX7_flows (Post : Mm → Int32 → Prop) (M : Mm) (j0a : Nat) (x1a : Int32) : Prop :=
  ∀ x2_1 : Int32, x2_1 = (M (j0a + 1) 7) → (∀ M2 : Mm, M2 = mu M (j0a + 1) 5 ((M (j0a + 1) 5) + (1 : Int32)) → ((∃ n3 : Nat, lX7_flows_20 Post n3 M2 j0a x1a x2_1 (0 : Int32))))
abbrev rX7_flows : Room := ({ frames := 5, cells := 0, slots := 0, locals := 118 } : Room)
def wX7_goes (Post : Mm → Int32 → Prop) (M : Mm) (j0a : Nat) (x1a : Int32) : Prop :=
  wX7_in (fun M1 r2 => ((¬ r2 = 0 → ((¬ (M1 (j0a + 1) 5) = (20000 : Int32) → wX7_flows (fun M5 r6 => Post M5 r6) M1 j0a x1a) ∧
  ((M1 (j0a + 1) 5) = (20000 : Int32) → Post M1 (-1000003 : Int32)))) ∧
  (r2 = 0 → Post M1 (-1000001 : Int32)))) M x1a (0 : Int32) (999 : Int32)
abbrev rX7_goes : Room := ({ frames := 6, cells := 0, slots := 0, locals := 145 } : Room)
def wX7_hour (Post : Mm → Int32 → Prop) (M : Mm) (j0a : Nat) (x1a : Int32) : Prop :=
  wX7_keeps (fun M1 => wX7_goes (fun M3 r4 => wX7_acted (fun M5 r6 => Post M5 r6) M3 j0a r4) M1 j0a x1a) M j0a
abbrev rX7_hour : Room := ({ frames := 7, cells := 0, slots := 0, locals := 166 } : Room)
def bX7_runsOne_39 (Post : Mm → Int32 → Prop) (M : Mm) (j0 : Nat) (x1 : Int32) : Prop :=
  wX7_flows (fun M5 r6 => (((M5 (j0 + 1) 2) ≤ 0 → Post M5 r6) ∧
  (¬ (M5 (j0 + 1) 2) ≤ 0 → ∀ M8 : Mm, M8 = mu M5 (j0 + 1) 4 ((M5 (j0 + 1) 4) + (1 : Int32)) → (vp_in (((152 : Int32) + ((2 : Int32) * (M8 (j0 + 1) 3))) + (1 : Int32)) 168 ∧ (((¬ (M8 (j0 + 1) 4) = (M8 (j0 + 1) (ix (((152 : Int32) + ((2 : Int32) * (M8 (j0 + 1) 3))) + (1 : Int32)))) → Post M8 r6) ∧
  ((M8 (j0 + 1) 4) = (M8 (j0 + 1) (ix (((152 : Int32) + ((2 : Int32) * (M8 (j0 + 1) 3))) + (1 : Int32)))) → ¬ (M8 (j0 + 1) 2) = 0 ∧ (∀ M10 : Mm, M10 = mu M8 (j0 + 1) 3 (((M8 (j0 + 1) 3) + (1 : Int32)) - ((M8 (j0 + 1) 3) + (1 : Int32)) / (M8 (j0 + 1) 2) * (M8 (j0 + 1) 2)) → (∀ M11 : Mm, M11 = mu M10 (j0 + 1) 4 (0 : Int32) → (Post M11 r6)))))))))) M j0 x1
def wX7_runsOne (Post : Mm → Int32 → Prop) (M : Mm) (j0a : Nat) (x1a : Int32) : Prop :=
  (((M (j0a + 1) 2) ≤ 0 → bX7_runsOne_39 Post M j0a x1a) ∧
  (¬ (M (j0a + 1) 2) ≤ 0 → ((¬ (M (j0a + 1) 4) = 0 → bX7_runsOne_39 Post M j0a x1a) ∧
  ((M (j0a + 1) 4) = 0 → vp_in ((152 : Int32) + ((2 : Int32) * (M (j0a + 1) 3))) 168 ∧ (wX7_sets (fun M3 => bX7_runsOne_39 Post M3 j0a x1a) M j0a (M (j0a + 1) (ix ((152 : Int32) + ((2 : Int32) * (M (j0a + 1) 3))))))))))
abbrev rX7_runsOne : Room := ({ frames := 6, cells := 0, slots := 0, locals := 145 } : Room)
def bX7_runs_46 (Post : Mm → Int32 → Prop) (A46 : Mm → Nat → Int32 → Int32 → Int32 → Int32 → Prop) (M : Mm) (j0 : Nat) (x1 : Int32) (x3 : Int32) (x4 : Int32) (x5 : Int32) : Prop :=
  ((x1 ≤ x5 → Post M x4) ∧
  (¬ x1 ≤ x5 → wX7_runsOne (fun M10 r11 => ∀ x4_12 : Int32, x4_12 = (x4 + r11) → (∀ x5_13 : Int32, x5_13 = x5 + (1 : Int32) → (A46 M10 j0 x1 x3 x4_12 x5_13))) M j0 x3))
def lX7_runs_46 (Post : Mm → Int32 → Prop) : Nat → Mm → Nat → Int32 → Int32 → Int32 → Int32 → Prop
  | 0 => fun _ _ _ _ _ _ => False
  | n + 1 => fun M j0 x1 x3 x4 x5 => bX7_runs_46 Post (lX7_runs_46 Post n) M j0 x1 x3 x4 x5
def wX7_runs (Post : Mm → Int32 → Prop) (M : Mm) (j0a : Nat) (x1a : Int32) (x2a : Int32) (x3a : Int32) : Prop :=
  wX7_in (fun M1 r2 => ((r2 = 0 → Post M1 (-1000001 : Int32)) ∧
  (¬ r2 = 0 → wX7_in (fun M4 r5 => ((¬ r5 = 0 → ((((M4 (j0a + 1) 5) + x1a) ≤ (20000 : Int32) → (∃ n8 : Nat, lX7_runs_46 Post n8 M4 j0a x1a x3a (0 : Int32) (0 : Int32))) ∧
  (¬ ((M4 (j0a + 1) 5) + x1a) ≤ (20000 : Int32) → Post M4 (-1000003 : Int32)))) ∧
  (r5 = 0 → Post M4 (-1000001 : Int32)))) M1 x3a (0 : Int32) (999 : Int32)))) M x1a (1 : Int32) x2a
abbrev rX7_runs : Room := ({ frames := 7, cells := 0, slots := 0, locals := 167 } : Room)
def wX7_run (Post : Mm → Int32 → Prop) (M : Mm) (j0a : Nat) (x1a : Int32) (x2a : Int32) : Prop :=
  wX7_keeps (fun M1 => wX7_runs (fun M3 r4 => wX7_acted (fun M5 r6 => Post M5 r6) M3 j0a r4) M1 j0a x1a (100 : Int32) x2a) M j0a
abbrev rX7_run : Room := ({ frames := 8, cells := 0, slots := 0, locals := 192 } : Room)
def bX7_below_6 (Post : Mm → Int32 → Prop) (A6 : Mm → Nat → Int32 → Int32 → Int32 → Prop) (M : Mm) (j0 : Nat) (x1 : Int32) (x2 : Int32) (x3 : Int32) : Prop :=
  (((M (j0 + 1) 0) ≤ x3 → Post M x2) ∧
  (¬ (M (j0 + 1) 0) ≤ x3 → wX7_isBelow (fun M4 r5 => ((r5 = 0 → ∀ x2_7 : Int32, x2_7 = (x2 ||| (0 : Int32)) → (∀ x3_8 : Int32, x3_8 = x3 + (1 : Int32) → (A6 M4 j0 x1 x2_7 x3_8))) ∧
  (¬ r5 = 0 → ∀ x2_9 : Int32, x2_9 = (x2 ||| ((1 : Int32) <<< (x3 &&& 31))) → (∀ x3_10 : Int32, x3_10 = x3 + (1 : Int32) → (A6 M4 j0 x1 x2_9 x3_10))))) M j0 x3 x1 (0 : Int32)))
def lX7_below_6 (Post : Mm → Int32 → Prop) : Nat → Mm → Nat → Int32 → Int32 → Int32 → Prop
  | 0 => fun _ _ _ _ _ => False
  | n + 1 => fun M j0 x1 x2 x3 => bX7_below_6 Post (lX7_below_6 Post n) M j0 x1 x2 x3
def wX7_below (Post : Mm → Int32 → Prop) (M : Mm) (j0a : Nat) (x1a : Int32) : Prop :=
  ∀ x3_1 : Int32, x3_1 = (x1a + (1 : Int32)) → ((∃ n2 : Nat, lX7_below_6 Post n2 M j0a x1a (0 : Int32) x3_1))
abbrev rX7_below : Room := ({ frames := 2, cells := 0, slots := 0, locals := 46 } : Room)
def bX7_canalOf_88 (Post : Mm → Int32 → Prop) (M : Mm) (j0 : Nat) (x1 : Int32) (x2 : Int32) (x3 : Int32) : Prop :=
  ((x3 = 0 → Post M (-1000004 : Int32)) ∧
  (¬ x3 = 0 → wX7_ca (fun M27 r28 => Post M27 r28) M j0 x1 x2))
def bX7_canalOf_135 (Post : Mm → Int32 → Prop) (M : Mm) (j0 : Nat) (x1 : Int32) (x2 : Int32) : Prop :=
  wX7_ca (fun M29 r30 => Post M29 r30) M j0 x1 (x2 - (1 : Int32))
def bX7_canalOf_144 (Post : Mm → Int32 → Prop) (M : Mm) (j0 : Nat) (x1 : Int32) (x2 : Int32) : Prop :=
  wX7_ca (fun M31 r32 => Post M31 r32) M j0 x1 x2
def bX7_canalOf_30 (Post : Mm → Int32 → Prop) (M : Mm) (j0 : Nat) (x1 : Int32) (x2 : Int32) (t0 : Int32) : Prop :=
  ((x2 = (0 : Int32) → bX7_canalOf_88 Post M j0 x1 x2 t0) ∧
  (¬ x2 = (0 : Int32) → ((x2 = (1 : Int32) → bX7_canalOf_88 Post M j0 x1 x2 t0) ∧
  (¬ x2 = (1 : Int32) → ((x2 = (2 : Int32) → bX7_canalOf_144 Post M j0 x1 x2) ∧
  (¬ x2 = (2 : Int32) → ((x2 = (3 : Int32) → bX7_canalOf_144 Post M j0 x1 x2) ∧
  (¬ x2 = (3 : Int32) → ((x2 = (4 : Int32) → bX7_canalOf_88 Post M j0 x1 x2 t0) ∧
  (¬ x2 = (4 : Int32) → ((x2 = (5 : Int32) → ((t0 = 0 → Post M (-1000004 : Int32)) ∧
  (¬ t0 = 0 → wX7_ca (fun M15 r16 => ((r16 < 0 → Post M15 (-1000004 : Int32)) ∧
  (¬ r16 < 0 → wX7_ca (fun M18 r19 => Post M18 r19) M15 j0 x1 (5 : Int32)))) M j0 x1 (5 : Int32)))) ∧
  (¬ x2 = (5 : Int32) → ((x2 = (6 : Int32) → wX7_below (fun M21 r22 => Post M21 r22) M j0 x1) ∧
  (¬ x2 = (6 : Int32) → ((x2 = (7 : Int32) → bX7_canalOf_135 Post M j0 x1 x2) ∧
  (¬ x2 = (7 : Int32) → ((x2 = (8 : Int32) → bX7_canalOf_135 Post M j0 x1 x2) ∧
  (¬ x2 = (8 : Int32) → ((x2 = (9 : Int32) → bX7_canalOf_135 Post M j0 x1 x2) ∧
  (¬ x2 = (9 : Int32) → bX7_canalOf_144 Post M j0 x1 x2))))))))))))))))))))
def wX7_canalOf (Post : Mm → Int32 → Prop) (M : Mm) (j0a : Nat) (x1a : Int32) (x2a : Int32) : Prop :=
  wX7_isCanal (fun M1 r2 => ((r2 = 0 → Post M1 (-1000001 : Int32)) ∧
  (¬ r2 = 0 → wX7_in (fun M4 r5 => ((¬ r5 = 0 → ((x1a ≤ 0 → bX7_canalOf_30 Post M4 j0a x1a x2a (0 : Int32)) ∧
  (¬ x1a ≤ 0 → bX7_canalOf_30 Post M4 j0a x1a x2a (1 : Int32)))) ∧
  (r5 = 0 → Post M4 (-1000001 : Int32)))) M1 x2a (0 : Int32) (9 : Int32)))) M j0a x1a
abbrev rX7_canalOf : Room := ({ frames := 3, cells := 0, slots := 0, locals := 69 } : Room)
def wX7_fieldOf (Post : Mm → Int32 → Prop) (M : Mm) (j0a : Nat) (x1a : Int32) (x2a : Int32) : Prop :=
  wX7_isField (fun M1 r2 => ((r2 = 0 → Post M1 (-1000001 : Int32)) ∧
  (¬ r2 = 0 → wX7_in (fun M4 r5 => ((¬ r5 = 0 → ((x2a = (6 : Int32) → wX7_mayTake (fun M8 r9 => ((r9 = 0 → Post M8 (0 : Int32)) ∧
  (¬ r9 = 0 → Post M8 (1 : Int32)))) M4 j0a x1a) ∧
  (¬ x2a = (6 : Int32) → ((x2a = (7 : Int32) → wX7_wants (fun M12 r13 => ((r13 = 0 → wX7_fi (fun M15 r16 => Post M15 r16) M12 j0a x1a (6 : Int32)) ∧
  (¬ r13 = 0 → Post M12 (-1000004 : Int32)))) M4 j0a x1a) ∧
  (¬ x2a = (7 : Int32) → wX7_fi (fun M17 r18 => Post M17 r18) M4 j0a x1a x2a))))) ∧
  (r5 = 0 → Post M4 (-1000001 : Int32)))) M1 x2a (0 : Int32) (7 : Int32)))) M j0a x1a
abbrev rX7_fieldOf : Room := ({ frames := 3, cells := 0, slots := 0, locals := 69 } : Room)
def wX7_turnOf (Post : Mm → Int32 → Prop) (M : Mm) (j0a : Nat) (x1a : Int32) (x2a : Int32) : Prop :=
  wX7_in (fun M1 r2 => ((r2 = 0 → Post M1 (-1000001 : Int32)) ∧
  (¬ r2 = 0 → wX7_in (fun M4 r5 => ((r5 = 0 → Post M4 (-1000001 : Int32)) ∧
  (¬ r5 = 0 → vp_in (((152 : Int32) + ((2 : Int32) * x1a)) + x2a) 168 ∧ (Post M4 (M4 (j0a + 1) (ix (((152 : Int32) + ((2 : Int32) * x1a)) + x2a))))))) M1 x2a (0 : Int32) (1 : Int32)))) M x1a (0 : Int32) ((M (j0a + 1) 2) - (1 : Int32))
abbrev rX7_turnOf : Room := ({ frames := 1, cells := 0, slots := 0, locals := 22 } : Room)
def wJxf58ca_isNaN_12338 (Post : Mm → Int32 → Prop) (M : Mm) (z0a : UInt32) : Prop :=
  (((Op.cmpValue (FP.fcmp z0a z0a) CmpOp.l) = 0 → Post M (0 : Int32)) ∧
  (¬ (Op.cmpValue (FP.fcmp z0a z0a) CmpOp.l) = 0 → Post M (1 : Int32)))
abbrev rJxf58ca_isNaN_12338 : Room := ({ frames := 0, cells := 0, slots := 0, locals := 0 } : Room)
def wJxf58ca_floatToIntBits_5c35a (Post : Mm → Int32 → Prop) (M : Mm) (z0a : UInt32) : Prop :=
  wJxf58ca_isNaN_12338 (fun M1 r2 => ((¬ r2 = 0 → Post M1 (2143289344 : Int32)) ∧
  (r2 = 0 → Post M1 (z0a.toInt32)))) M z0a
abbrev rJxf58ca_floatToIntBits_5c35a : Room := ({ frames := 1, cells := 0, slots := 0, locals := 30 } : Room)
def wX7_share (Post : Mm → Int32 → Prop) (M : Mm) (j0a : Nat) (x1a : Int32) : Prop :=
  wX7_in (fun M1 r2 => ((¬ r2 = 0 → ((¬ (M1 (j0a + 1) 6) = 0 → vp_in ((7 : Int32) + x1a) 168 ∧ (vf_n32 (FP.fdiv (FP.i2f (M1 (j0a + 1) (ix ((7 : Int32) + x1a)))) (FP.i2f (M1 (j0a + 1) 6))) ∧ (wJxf58ca_floatToIntBits_5c35a (fun M5 r6 => Post M5 r6) M1 (FP.fdiv (FP.i2f (M1 (j0a + 1) (ix ((7 : Int32) + x1a)))) (FP.i2f (M1 (j0a + 1) 6)))))) ∧
  ((M1 (j0a + 1) 6) = 0 → Post M1 (-1000004 : Int32)))) ∧
  (r2 = 0 → Post M1 (-1000001 : Int32)))) M x1a (0 : Int32) (2 : Int32)
abbrev rX7_share : Room := ({ frames := 2, cells := 0, slots := 0, locals := 50 } : Room)
def bX7_would_88 (Post : Mm → Int32 → Prop) (M : Mm) (j0 : Nat) (t0 : Int32) : Prop :=
  vp_in t0 168 ∧ (vp_in t0 168 ∧ (∀ x5_21 : Int32, x5_21 = ((M (j0 + 1) (ix t0)) - (M (j0 + 4) (ix t0))) → (wX7_restores (fun M22 => Post M22 x5_21) M j0)))
def bX7_would_48 (Post : Mm → Int32 → Prop) (M : Mm) (j0 : Nat) (x1 : Int32) (x2 : Int32) (x3 : Int32) : Prop :=
  wX7_puts (fun M14 => wX7_sets (fun M16 => wX7_flows (fun M18 r19 => (((10 : Int32) ≤ x3 → bX7_would_88 Post M18 j0 (((82 : Int32) + ((7 : Int32) * (x3 - (10 : Int32)))) + (4 : Int32))) ∧
  (¬ (10 : Int32) ≤ x3 → bX7_would_88 Post M18 j0 ((7 : Int32) + x3)))) M16 j0 x2) M14 j0 x1) M j0
def wX7_would (Post : Mm → Int32 → Prop) (M : Mm) (j0a : Nat) (x1a : Int32) (x2a : Int32) (x3a : Int32) : Prop :=
  wX7_areGates (fun M1 r2 => ((r2 = 0 → Post M1 (-1000001 : Int32)) ∧
  (¬ r2 = 0 → wX7_in (fun M4 r5 => ((r5 = 0 → Post M4 (-1000001 : Int32)) ∧
  (¬ r5 = 0 → wX7_in (fun M7 r8 => ((¬ r8 = 0 → bX7_would_48 Post M7 j0a x1a x2a x3a) ∧
  (r8 = 0 → ((x3a < (10 : Int32) → Post M7 (-1000001 : Int32)) ∧
  (¬ x3a < (10 : Int32) → wX7_isField (fun M11 r12 => ((¬ r12 = 0 → bX7_would_48 Post M11 j0a x1a x2a x3a) ∧
  (r12 = 0 → Post M11 (-1000001 : Int32)))) M7 j0a (x3a - (10 : Int32))))))) M4 x3a (0 : Int32) (2 : Int32)))) M1 x2a (0 : Int32) (999 : Int32)))) M j0a x1a
abbrev rX7_would : Room := ({ frames := 6, cells := 0, slots := 0, locals := 145 } : Room)
def bX7_haveGot_4 (Post : Mm → Int32 → Prop) (A4 : Mm → Nat → Int32 → Int32 → Int32 → Prop) (M : Mm) (j0 : Nat) (x1 : Int32) (x2 : Int32) (x3 : Int32) : Prop :=
  (((M (j0 + 1) 1) ≤ x3 → (x2 = 0 ∨ x2 = 1) ∧ (Post M x2)) ∧
  (¬ (M (j0 + 1) 1) ≤ x3 → ((x2 = 0 → ∀ x3_4 : Int32, x3_4 = x3 + (1 : Int32) → (A4 M j0 x1 (0 : Int32) x3_4)) ∧
  (¬ x2 = 0 → ((((x1 >>> (x3 &&& 31)) &&& (1 : Int32)) = 0 → ∀ x3_6 : Int32, x3_6 = x3 + (1 : Int32) → (A4 M j0 x1 (1 : Int32) x3_6)) ∧
  (¬ ((x1 >>> (x3 &&& 31)) &&& (1 : Int32)) = 0 → wX7_wants (fun M7 r8 => ((¬ r8 = 0 → ∀ x3_10 : Int32, x3_10 = x3 + (1 : Int32) → (A4 M7 j0 x1 (0 : Int32) x3_10)) ∧
  (r8 = 0 → ∀ x3_11 : Int32, x3_11 = x3 + (1 : Int32) → (A4 M7 j0 x1 (1 : Int32) x3_11)))) M j0 x3))))))
def lX7_haveGot_4 (Post : Mm → Int32 → Prop) : Nat → Mm → Nat → Int32 → Int32 → Int32 → Prop
  | 0 => fun _ _ _ _ _ => False
  | n + 1 => fun M j0 x1 x2 x3 => bX7_haveGot_4 Post (lX7_haveGot_4 Post n) M j0 x1 x2 x3
def wX7_haveGot (Post : Mm → Int32 → Prop) (M : Mm) (j0a : Nat) (x1a : Int32) : Prop :=
  (∃ n1 : Nat, lX7_haveGot_4 Post n1 M j0a x1a (1 : Int32) (0 : Int32))
abbrev rX7_haveGot : Room := ({ frames := 2, cells := 0, slots := 0, locals := 43 } : Room)
def bX7_leastGates_125 (Post : Mm → Int32 → Prop) (A52 : Mm → Nat → Int32 → Int32 → Int32 → Int32 → Int32 → Prop) (M : Mm) (j0 : Nat) (x1 : Int32) (x2 : Int32) (x3 : Int32) (x5 : Int32) (t0 : Int32) : Prop :=
  wX7_restores (fun M31 => ∀ x5_33 : Int32, x5_33 = x5 + (2 : Int32) → (A52 M31 j0 x1 x2 x3 t0 x5_33)) M j0
def bX7_leastGates_92 (Post : Mm → Int32 → Prop) (A52 : Mm → Nat → Int32 → Int32 → Int32 → Int32 → Int32 → Prop) (A92 : Mm → Nat → Int32 → Int32 → Int32 → Int32 → Int32 → Int32 → Prop) (M : Mm) (j0 : Nat) (x1 : Int32) (x2 : Int32) (x3 : Int32) (x4 : Int32) (x5 : Int32) (x6 : Int32) : Prop :=
  ((x3 ≤ x6 → wX7_haveGot (fun M25 r26 => ((r26 = 0 → bX7_leastGates_125 Post A52 M25 j0 x1 x2 x3 x5 x4) ∧
  (¬ r26 = 0 → bX7_leastGates_125 Post A52 M25 j0 x1 x2 x3 x5 x5))) M j0 x1) ∧
  (¬ x3 ≤ x6 → wX7_flows (fun M28 r29 => ∀ x6_30 : Int32, x6_30 = x6 + (1 : Int32) → (A92 M28 j0 x1 x2 x3 x4 x5 x6_30)) M j0 x2))
def lX7_leastGates_92 (Post : Mm → Int32 → Prop) (A52 : Mm → Nat → Int32 → Int32 → Int32 → Int32 → Int32 → Prop) : Nat → Mm → Nat → Int32 → Int32 → Int32 → Int32 → Int32 → Int32 → Prop
  | 0 => fun _ _ _ _ _ _ _ _ => False
  | n + 1 => fun M j0 x1 x2 x3 x4 x5 x6 => bX7_leastGates_92 Post A52 (lX7_leastGates_92 Post A52 n) M j0 x1 x2 x3 x4 x5 x6
def bX7_leastGates_83 (Post : Mm → Int32 → Prop) (A52 : Mm → Nat → Int32 → Int32 → Int32 → Int32 → Int32 → Prop) (M : Mm) (j0 : Nat) (x1 : Int32) (x2 : Int32) (x3 : Int32) (x4 : Int32) (x5 : Int32) : Prop :=
  wX7_sets (fun M21 => (∃ n23 : Nat, lX7_leastGates_92 Post A52 n23 M21 j0 x1 x2 x3 x4 x5 (0 : Int32))) M j0 x5
def bX7_leastGates_52 (Post : Mm → Int32 → Prop) (A52 : Mm → Nat → Int32 → Int32 → Int32 → Int32 → Int32 → Prop) (M : Mm) (j0 : Nat) (x1 : Int32) (x2 : Int32) (x3 : Int32) (x4 : Int32) (x5 : Int32) : Prop :=
  ((((1 : Int32) <<< ((M (j0 + 1) 0) &&& 31)) ≤ x5 → Post M x4) ∧
  (¬ ((1 : Int32) <<< ((M (j0 + 1) 0) &&& 31)) ≤ x5 → ((x4 < 0 → bX7_leastGates_83 Post A52 M j0 x1 x2 x3 x4 x5) ∧
  (¬ x4 < 0 → wX7_ones (fun M15 r16 => wX7_ones (fun M17 r18 => ((r18 ≤ r16 → ∀ x5_20 : Int32, x5_20 = x5 + (2 : Int32) → (A52 M17 j0 x1 x2 x3 x4 x5_20)) ∧
  (¬ r18 ≤ r16 → bX7_leastGates_83 Post A52 M17 j0 x1 x2 x3 x4 x5))) M15 x4) M x5))))
def lX7_leastGates_52 (Post : Mm → Int32 → Prop) : Nat → Mm → Nat → Int32 → Int32 → Int32 → Int32 → Int32 → Prop
  | 0 => fun _ _ _ _ _ _ _ => False
  | n + 1 => fun M j0 x1 x2 x3 x4 x5 => bX7_leastGates_52 Post (lX7_leastGates_52 Post n) M j0 x1 x2 x3 x4 x5
def wX7_leastGates (Post : Mm → Int32 → Prop) (M : Mm) (j0a : Nat) (x1a : Int32) (x2a : Int32) (x3a : Int32) : Prop :=
  wX7_in (fun M1 r2 => ((r2 = 0 → Post M1 (-1000001 : Int32)) ∧
  (¬ r2 = 0 → wX7_in (fun M4 r5 => ((r5 = 0 → Post M4 (-1000001 : Int32)) ∧
  (¬ r5 = 0 → wX7_in (fun M7 r8 => ((¬ r8 = 0 → wX7_puts (fun M10 => (∃ n12 : Nat, lX7_leastGates_52 Post n12 M10 j0a x1a x2a x3a (-1000004 : Int32) (0 : Int32))) M7 j0a) ∧
  (r8 = 0 → Post M7 (-1000001 : Int32)))) M4 x3a (1 : Int32) (5 : Int32)))) M1 x2a (0 : Int32) (999 : Int32)))) M x1a (0 : Int32) (((1 : Int32) <<< ((M (j0a + 1) 1) &&& 31)) - (1 : Int32))
abbrev rX7_leastGates : Room := ({ frames := 6, cells := 0, slots := 0, locals := 145 } : Room)
def bX7_fewestBuckets_61 (Post : Mm → Int32 → Prop) (A20 : Mm → Nat → Int32 → Int32 → Int32 → Prop) (M : Mm) (j0 : Nat) (x1 : Int32) (x3 : Int32) (t0 : Int32) : Prop :=
  wX7_restores (fun M16 => ∀ x3_18 : Int32, x3_18 = x3 + (1 : Int32) → (A20 M16 j0 x1 t0 x3_18)) M j0
def bX7_fewestBuckets_20 (Post : Mm → Int32 → Prop) (A20 : Mm → Nat → Int32 → Int32 → Int32 → Prop) (M : Mm) (j0 : Nat) (x1 : Int32) (x2 : Int32) (x3 : Int32) : Prop :=
  (((999 : Int32) < x3 → Post M x2) ∧
  (¬ (999 : Int32) < x3 → ((0 ≤ x2 → Post M x2) ∧
  (¬ 0 ≤ x2 → wX7_fi (fun M9 r10 => wX7_flows (fun M11 r12 => wX7_fi (fun M13 r14 => ((r14 ≤ r10 → bX7_fewestBuckets_61 Post A20 M13 j0 x1 x3 x2) ∧
  (¬ r14 ≤ r10 → bX7_fewestBuckets_61 Post A20 M13 j0 x1 x3 x3))) M11 j0 x1 (4 : Int32)) M9 j0 x3) M j0 x1 (4 : Int32)))))
def lX7_fewestBuckets_20 (Post : Mm → Int32 → Prop) : Nat → Mm → Nat → Int32 → Int32 → Int32 → Prop
  | 0 => fun _ _ _ _ _ => False
  | n + 1 => fun M j0 x1 x2 x3 => bX7_fewestBuckets_20 Post (lX7_fewestBuckets_20 Post n) M j0 x1 x2 x3
def wX7_fewestBuckets (Post : Mm → Int32 → Prop) (M : Mm) (j0a : Nat) (x1a : Int32) : Prop :=
  wX7_isField (fun M1 r2 => ((¬ r2 = 0 → wX7_puts (fun M4 => (∃ n6 : Nat, lX7_fewestBuckets_20 Post n6 M4 j0a x1a (-1000004 : Int32) (0 : Int32))) M1 j0a) ∧
  (r2 = 0 → Post M1 (-1000001 : Int32)))) M j0a x1a
abbrev rX7_fewestBuckets : Room := ({ frames := 6, cells := 0, slots := 0, locals := 145 } : Room)
def bX7_hoursFor_57 (Post : Mm → Int32 → Prop) (M : Mm) (j0 : Nat) (x2 : Int32) (x3 : Int32) : Prop :=
  wX7_haveGot (fun M15 r16 => wX7_restores (fun M17 => ((r16 = 0 → Post M17 (-1000004 : Int32)) ∧
  (¬ r16 = 0 → Post M17 x2))) M15 j0) M j0 x3
def bX7_hoursFor_31 (Post : Mm → Int32 → Prop) (A31 : Mm → Nat → Int32 → Int32 → Int32 → Prop) (M : Mm) (j0 : Nat) (x1 : Int32) (x2 : Int32) (x3 : Int32) : Prop :=
  (((100 : Int32) ≤ x2 → bX7_hoursFor_57 Post M j0 x2 x3) ∧
  (¬ (100 : Int32) ≤ x2 → wX7_haveGot (fun M9 r10 => ((¬ r10 = 0 → bX7_hoursFor_57 Post M9 j0 x2 x3) ∧
  (r10 = 0 → wX7_runsOne (fun M12 r13 => ∀ x2_14 : Int32, x2_14 = x2 + (1 : Int32) → (A31 M12 j0 x1 x2_14 x3)) M9 j0 x1))) M j0 x3))
def lX7_hoursFor_31 (Post : Mm → Int32 → Prop) : Nat → Mm → Nat → Int32 → Int32 → Int32 → Prop
  | 0 => fun _ _ _ _ _ => False
  | n + 1 => fun M j0 x1 x2 x3 => bX7_hoursFor_31 Post (lX7_hoursFor_31 Post n) M j0 x1 x2 x3
def wX7_hoursFor (Post : Mm → Int32 → Prop) (M : Mm) (j0a : Nat) (x1a : Int32) : Prop :=
  wX7_in (fun M1 r2 => ((¬ r2 = 0 → wX7_puts (fun M4 => ∀ x3_6 : Int32, x3_6 = (((1 : Int32) <<< ((M4 (j0a + 1) 1) &&& 31)) - (1 : Int32)) → ((∃ n7 : Nat, lX7_hoursFor_31 Post n7 M4 j0a x1a (0 : Int32) x3_6))) M1 j0a) ∧
  (r2 = 0 → Post M1 (-1000001 : Int32)))) M x1a (0 : Int32) (999 : Int32)
abbrev rX7_hoursFor : Room := ({ frames := 7, cells := 0, slots := 0, locals := 167 } : Room)
def bX7_rightAt_84 (Post : Mm → Int32 → Prop) (M : Mm) (x3 : Int32) : Prop :=
  ((0 ≤ x3 → Post M x3) ∧
  (¬ 0 ≤ x3 → Post M (-1000004 : Int32)))
def bX7_rightAt_54 (Post : Mm → Int32 → Prop) (A54 : Mm → Nat → Int32 → Int32 → Int32 → Int32 → Prop) (M : Mm) (j0 : Nat) (x1 : Int32) (x2 : Int32) (x3 : Int32) (x4 : Int32) : Prop :=
  ((x1 ≤ x4 → bX7_rightAt_84 Post M x3) ∧
  (¬ x1 ≤ x4 → ((x3 < 0 → bX7_rightAt_84 Post M x3) ∧
  (¬ x3 < 0 → ∀ x2_16 : Int32, x2_16 = (x2 &&& (((1 : Int32) <<< (x3 &&& 31)) ^^^ (-1 : Int32))) → (wX7_next (fun M17 r18 => ∀ x4_19 : Int32, x4_19 = x4 + (1 : Int32) → (A54 M17 j0 x1 x2_16 r18 x4_19)) M j0 x2_16)))))
def lX7_rightAt_54 (Post : Mm → Int32 → Prop) : Nat → Mm → Nat → Int32 → Int32 → Int32 → Int32 → Prop
  | 0 => fun _ _ _ _ _ _ => False
  | n + 1 => fun M j0 x1 x2 x3 x4 => bX7_rightAt_54 Post (lX7_rightAt_54 Post n) M j0 x1 x2 x3 x4
def bX7_rightAt_11 (Post : Mm → Int32 → Prop) (A11 : Mm → Nat → Int32 → Int32 → Int32 → Prop) (M : Mm) (j0 : Nat) (x1 : Int32) (x2 : Int32) (x3 : Int32) : Prop :=
  (((M (j0 + 1) 1) ≤ x3 → wX7_next (fun M4 r5 => (∃ n6 : Nat, lX7_rightAt_54 Post n6 M4 j0 x1 x2 r5 (0 : Int32))) M j0 x2) ∧
  (¬ (M (j0 + 1) 1) ≤ x3 → wX7_wants (fun M7 r8 => ((r8 = 0 → ∀ x2_10 : Int32, x2_10 = (x2 ||| (0 : Int32)) → (∀ x3_11 : Int32, x3_11 = x3 + (1 : Int32) → (A11 M7 j0 x1 x2_10 x3_11))) ∧
  (¬ r8 = 0 → ∀ x2_12 : Int32, x2_12 = (x2 ||| ((1 : Int32) <<< (x3 &&& 31))) → (∀ x3_13 : Int32, x3_13 = x3 + (1 : Int32) → (A11 M7 j0 x1 x2_12 x3_13))))) M j0 x3))
def lX7_rightAt_11 (Post : Mm → Int32 → Prop) : Nat → Mm → Nat → Int32 → Int32 → Int32 → Prop
  | 0 => fun _ _ _ _ _ => False
  | n + 1 => fun M j0 x1 x2 x3 => bX7_rightAt_11 Post (lX7_rightAt_11 Post n) M j0 x1 x2 x3
def wX7_rightAt (Post : Mm → Int32 → Prop) (M : Mm) (j0a : Nat) (x1a : Int32) : Prop :=
  ((0 ≤ x1a → (∃ n2 : Nat, lX7_rightAt_11 Post n2 M j0a x1a (0 : Int32) (0 : Int32))) ∧
  (¬ 0 ≤ x1a → Post M (-1000001 : Int32)))
abbrev rX7_rightAt : Room := ({ frames := 2, cells := 0, slots := 0, locals := 46 } : Room)
def bX7_tendedOnes_4 (Post : Mm → Int32 → Prop) (A4 : Mm → Nat → Int32 → Int32 → Prop) (M : Mm) (j0 : Nat) (x1 : Int32) (x2 : Int32) : Prop :=
  (((M (j0 + 1) 0) ≤ x2 → Post M x1) ∧
  (¬ (M (j0 + 1) 0) ≤ x2 → wX7_ca (fun M3 r4 => ((r4 < 0 → ∀ x1_6 : Int32, x1_6 = (x1 ||| (0 : Int32)) → (∀ x2_7 : Int32, x2_7 = x2 + (1 : Int32) → (A4 M3 j0 x1_6 x2_7))) ∧
  (¬ r4 < 0 → ∀ x1_8 : Int32, x1_8 = (x1 ||| ((1 : Int32) <<< (x2 &&& 31))) → (∀ x2_9 : Int32, x2_9 = x2 + (1 : Int32) → (A4 M3 j0 x1_8 x2_9))))) M j0 x2 (5 : Int32)))
def lX7_tendedOnes_4 (Post : Mm → Int32 → Prop) : Nat → Mm → Nat → Int32 → Int32 → Prop
  | 0 => fun _ _ _ _ => False
  | n + 1 => fun M j0 x1 x2 => bX7_tendedOnes_4 Post (lX7_tendedOnes_4 Post n) M j0 x1 x2
def wX7_tendedOnes (Post : Mm → Int32 → Prop) (M : Mm) (j0a : Nat) : Prop :=
  (∃ n1 : Nat, lX7_tendedOnes_4 Post n1 M j0a (0 : Int32) (1 : Int32))
abbrev rX7_tendedOnes : Room := ({ frames := 1, cells := 0, slots := 0, locals := 22 } : Room)
def bX7_wanting_4 (Post : Mm → Int32 → Prop) (A4 : Mm → Nat → Int32 → Int32 → Prop) (M : Mm) (j0 : Nat) (x1 : Int32) (x2 : Int32) : Prop :=
  (((M (j0 + 1) 1) ≤ x2 → Post M x1) ∧
  (¬ (M (j0 + 1) 1) ≤ x2 → wX7_wants (fun M3 r4 => ((r4 = 0 → ∀ x1_6 : Int32, x1_6 = (x1 + (0 : Int32)) → (∀ x2_7 : Int32, x2_7 = x2 + (1 : Int32) → (A4 M3 j0 x1_6 x2_7))) ∧
  (¬ r4 = 0 → ∀ x1_8 : Int32, x1_8 = (x1 + (1 : Int32)) → (∀ x2_9 : Int32, x2_9 = x2 + (1 : Int32) → (A4 M3 j0 x1_8 x2_9))))) M j0 x2))
def lX7_wanting_4 (Post : Mm → Int32 → Prop) : Nat → Mm → Nat → Int32 → Int32 → Prop
  | 0 => fun _ _ _ _ => False
  | n + 1 => fun M j0 x1 x2 => bX7_wanting_4 Post (lX7_wanting_4 Post n) M j0 x1 x2
def wX7_wanting (Post : Mm → Int32 → Prop) (M : Mm) (j0a : Nat) : Prop :=
  (∃ n1 : Nat, lX7_wanting_4 Post n1 M j0a (0 : Int32) (0 : Int32))
abbrev rX7_wanting : Room := ({ frames := 2, cells := 0, slots := 0, locals := 43 } : Room)
def bX7_count_80 (Post : Mm → Int32 → Prop) (M : Mm) (j0 : Nat) (x1 : Int32) : Prop :=
  vp_in x1 168 ∧ (Post M (M (j0 + 1) (ix x1)))
def bX7_count_107 (Post : Mm → Int32 → Prop) (M : Mm) (j0 : Nat) (x1 : Int32) : Prop :=
  vp_in (((5 : Int32) + x1) - (6 : Int32)) 168 ∧ (Post M (M (j0 + 1) (ix (((5 : Int32) + x1) - (6 : Int32)))))
def wX7_count (Post : Mm → Int32 → Prop) (M : Mm) (j0a : Nat) (x1a : Int32) : Prop :=
  ((x1a = (0 : Int32) → bX7_count_80 Post M j0a x1a) ∧
  (¬ x1a = (0 : Int32) → ((x1a = (1 : Int32) → bX7_count_80 Post M j0a x1a) ∧
  (¬ x1a = (1 : Int32) → ((x1a = (2 : Int32) → wX7_wanting (fun M4 r5 => Post M4 r5) M j0a) ∧
  (¬ x1a = (2 : Int32) → ((x1a = (3 : Int32) → wX7_calling (fun M7 r8 => Post M7 r8) M j0a) ∧
  (¬ x1a = (3 : Int32) → ((x1a = (4 : Int32) → wX7_openOnes (fun M10 r11 => Post M10 r11) M j0a) ∧
  (¬ x1a = (4 : Int32) → ((x1a = (5 : Int32) → wX7_tendedOnes (fun M13 r14 => Post M13 r14) M j0a) ∧
  (¬ x1a = (5 : Int32) → ((x1a = (6 : Int32) → bX7_count_107 Post M j0a x1a) ∧
  (¬ x1a = (6 : Int32) → ((x1a = (7 : Int32) → bX7_count_107 Post M j0a x1a) ∧
  (¬ x1a = (7 : Int32) → ((x1a = (8 : Int32) → bX7_count_107 Post M j0a x1a) ∧
  (¬ x1a = (8 : Int32) → ((x1a = (9 : Int32) → bX7_count_107 Post M j0a x1a) ∧
  (¬ x1a = (9 : Int32) → ((x1a = (10 : Int32) → bX7_count_107 Post M j0a x1a) ∧
  (¬ x1a = (10 : Int32) → ((x1a = (11 : Int32) → Post M (M (j0a + 1) 2)) ∧
  (¬ x1a = (11 : Int32) → ((x1a = (12 : Int32) → ((¬ (M (j0a + 1) 2) = 0 → Post M (M (j0a + 1) 3)) ∧
  ((M (j0a + 1) 2) = 0 → Post M (-1000004 : Int32)))) ∧
  (¬ x1a = (12 : Int32) → ((x1a = (13 : Int32) → Post M (M (j0a + 1) 4)) ∧
  (¬ x1a = (13 : Int32) → ((x1a = (14 : Int32) → Post M (M j0a 4)) ∧
  (¬ x1a = (14 : Int32) → ((x1a = (15 : Int32) → Post M (M j0a 6)) ∧
  (¬ x1a = (15 : Int32) → Post M (-1000001 : Int32)))))))))))))))))))))))))))))))))
abbrev rX7_count : Room := ({ frames := 3, cells := 0, slots := 0, locals := 65 } : Room)
def bX7_undo_22 (Post : Mm → Int32 → Prop) (A22 : Mm → Nat → Int32 → Prop) (M : Mm) (j0 : Nat) (x1 : Int32) : Prop :=
  (((168 : Int32) ≤ x1 → Post M (M j0 4)) ∧
  (¬ (168 : Int32) ≤ x1 → vp_in (((168 : Int32) * (M j0 4)) + x1) 672 ∧ (vp_in x1 168 ∧ (∀ M5 : Mm, M5 = mu M (j0 + 1) (ix x1) (M (j0 + 2) (ix (((168 : Int32) * (M j0 4)) + x1))) → (∀ x1_6 : Int32, x1_6 = x1 + (1 : Int32) → (A22 M5 j0 x1_6))))))
def lX7_undo_22 (Post : Mm → Int32 → Prop) : Nat → Mm → Nat → Int32 → Prop
  | 0 => fun _ _ _ => False
  | n + 1 => fun M j0 x1 => bX7_undo_22 Post (lX7_undo_22 Post n) M j0 x1
def wX7_undo (Post : Mm → Int32 → Prop) (M : Mm) (j0a : Nat) : Prop :=
  ((¬ (M j0a 4) = 0 → ∀ M2 : Mm, M2 = mu M j0a 4 ((M j0a 4) - (1 : Int32)) → ((∃ n3 : Nat, lX7_undo_22 Post n3 M2 j0a (0 : Int32)))) ∧
  ((M j0a 4) = 0 → Post M (-1000002 : Int32)))
abbrev rX7_undo : Room := ({ frames := 0, cells := 0, slots := 0, locals := 0 } : Room)
def wX7_type (Post : Mm → Int32 → Prop) (M : Mm) (j0a : Nat) (x1a : Int32) : Prop :=
  wX7_in (fun M1 r2 => ((¬ r2 = 0 → ((¬ (M1 j0a 6) = (60 : Int32) → vp_in (M1 j0a 6) 60 ∧ (∀ M5 : Mm, M5 = mu M1 (j0a + 5) (ix (M1 j0a 6)) (vp_nar .char (((x1a).toUInt32 % 65536).toInt32)) → (∀ M6 : Mm, M6 = mu M5 j0a 6 ((M5 j0a 6) + (1 : Int32)) → (Post M6 (M6 j0a 6))))) ∧
  ((M1 j0a 6) = (60 : Int32) → Post M1 (-1000003 : Int32)))) ∧
  (r2 = 0 → Post M1 (-1000001 : Int32)))) M x1a (32 : Int32) (126 : Int32)
abbrev rX7_type : Room := ({ frames := 1, cells := 0, slots := 0, locals := 22 } : Room)
def wX7_clearText (Post : Mm → Int32 → Prop) (M : Mm) (j0a : Nat) : Prop :=
  ∀ x1_1 : Int32, x1_1 = (M j0a 6) → (∀ M2 : Mm, M2 = mu M j0a 6 (0 : Int32) → (Post M2 x1_1))
abbrev rX7_clearText : Room := ({ frames := 0, cells := 0, slots := 0, locals := 0 } : Room)
def wX7_sign (Post : Mm → Int32 → Prop) (M : Mm) (j0a : Nat) : Prop :=
  (((M j0a 6) ≤ (M j0a 7) → Post M (-1 : Int32)) ∧
  (¬ (M j0a 6) ≤ (M j0a 7) → vp_in (M j0a 7) 60 ∧ (Post M (M (j0a + 5) (ix (M j0a 7))))))
abbrev rX7_sign : Room := ({ frames := 0, cells := 0, slots := 0, locals := 0 } : Room)
def bX7_readsNumber_57 (Post : Mm → Int32 → Prop) (M : Mm) (j0 : Nat) (x1 : Int32) (x2 : Int32) : Prop :=
  vp_in (M j0 9) 2 ∧ (∀ M13 : Mm, M13 = mu M (j0 + 6) (ix (M j0 9)) x2 → (∀ M14 : Mm, M14 = mu M13 j0 9 ((M13 j0 9) + (1 : Int32)) → ((((M14 j0 7) ≤ x1 → Post M14 (0 : Int32)) ∧
  (¬ (M14 j0 7) ≤ x1 → Post M14 (1 : Int32))))))
def bX7_readsNumber_7 (Post : Mm → Int32 → Prop) (A7 : Mm → Nat → Int32 → Int32 → Prop) (M : Mm) (j0 : Nat) (x1 : Int32) (x2 : Int32) : Prop :=
  wX7_sign (fun M3 r4 => wX7_in (fun M5 r6 => ((r6 = 0 → bX7_readsNumber_57 Post M5 j0 x1 x2) ∧
  (¬ r6 = 0 → (((x1 + (3 : Int32)) ≤ (M5 j0 7) → bX7_readsNumber_57 Post M5 j0 x1 x2) ∧
  (¬ (x1 + (3 : Int32)) ≤ (M5 j0 7) → wX7_sign (fun M9 r10 => ∀ x2_11 : Int32, x2_11 = ((((10 : Int32) * x2) + r10) - (48 : Int32)) → (∀ M12 : Mm, M12 = mu M9 j0 7 ((M9 j0 7) + (1 : Int32)) → (A7 M12 j0 x1 x2_11))) M5 j0))))) M3 r4 (48 : Int32) (57 : Int32)) M j0
def lX7_readsNumber_7 (Post : Mm → Int32 → Prop) : Nat → Mm → Nat → Int32 → Int32 → Prop
  | 0 => fun _ _ _ _ => False
  | n + 1 => fun M j0 x1 x2 => bX7_readsNumber_7 Post (lX7_readsNumber_7 Post n) M j0 x1 x2
def wX7_readsNumber (Post : Mm → Int32 → Prop) (M : Mm) (j0a : Nat) : Prop :=
  ∀ x1_1 : Int32, x1_1 = (M j0a 7) → ((∃ n2 : Nat, lX7_readsNumber_7 Post n2 M j0a x1_1 (0 : Int32)))
abbrev rX7_readsNumber : Room := ({ frames := 1, cells := 0, slots := 0, locals := 22 } : Room)
def bX7_readsForm_135 (Post : Mm → Int32 → Prop) (M : Mm) (j0 : Nat) (t0 : Int32) : Prop :=
  ((t0 = 0 → ∀ M28 : Mm, M28 = mu M j0 7 ((M j0 7) + (0 : Int32)) → ((t0 = 0 ∨ t0 = 1) ∧ (Post M28 t0))) ∧
  (¬ t0 = 0 → ∀ M29 : Mm, M29 = mu M j0 7 ((M j0 7) + (1 : Int32)) → ((t0 = 0 ∨ t0 = 1) ∧ (Post M29 t0))))
def bX7_readsForm_134 (Post : Mm → Int32 → Prop) (M : Mm) (j0 : Nat) : Prop :=
  bX7_readsForm_135 Post M j0 (0 : Int32)
def bX7_readsForm_117 (Post : Mm → Int32 → Prop) (M : Mm) (j0 : Nat) (x2 : Int32) : Prop :=
  ((x2 = 0 → bX7_readsForm_134 Post M j0) ∧
  (¬ x2 = 0 → wX7_sign (fun M24 r25 => ((¬ r25 = (59 : Int32) → bX7_readsForm_134 Post M24 j0) ∧
  (r25 = (59 : Int32) → bX7_readsForm_135 Post M24 j0 (1 : Int32)))) M j0))
def bX7_readsForm_116 (Post : Mm → Int32 → Prop) (M : Mm) (j0 : Nat) (t0 : Int32) : Prop :=
  bX7_readsForm_117 Post M j0 t0
def bX7_readsForm_115 (Post : Mm → Int32 → Prop) (M : Mm) (j0 : Nat) : Prop :=
  bX7_readsForm_116 Post M j0 (0 : Int32)
def bX7_readsForm_96 (Post : Mm → Int32 → Prop) (M : Mm) (j0 : Nat) (x2 : Int32) (t0 : Int32) (t1 : Int32) (js2 : Nat) : Prop :=
  ∀ M18 : Mm, M18 = mu M js2 7 (t1 + t0) → (((x2 = 0 → bX7_readsForm_115 Post M18 j0) ∧
  (¬ x2 = 0 → wX7_readsNumber (fun M20 r21 => ((r21 = 0 → bX7_readsForm_115 Post M20 j0) ∧
  (¬ r21 = 0 → bX7_readsForm_116 Post M20 j0 (1 : Int32)))) M18 j0)))
def bX7_readsForm_81 (Post : Mm → Int32 → Prop) (M : Mm) (j0 : Nat) (t0 : Int32) : Prop :=
  ((t0 = 0 → bX7_readsForm_96 Post M j0 t0 (0 : Int32) (M j0 7) j0) ∧
  (¬ t0 = 0 → bX7_readsForm_96 Post M j0 t0 (1 : Int32) (M j0 7) j0))
def bX7_readsForm_37 (Post : Mm → Int32 → Prop) (M : Mm) (j0 : Nat) (x1 : Int32) : Prop :=
  ∀ M8 : Mm, M8 = mu M j0 7 ((M j0 7) + (1 : Int32)) → (∀ M9 : Mm, M9 = mu M8 j0 9 (0 : Int32) → (wX7_readsNumber (fun M10 r11 => ((r11 = 0 → bX7_readsForm_117 Post M10 j0 r11) ∧
  (¬ r11 = 0 → ((¬ x1 = (114 : Int32) → bX7_readsForm_117 Post M10 j0 r11) ∧
  (x1 = (114 : Int32) → wX7_sign (fun M14 r15 => ((¬ r15 = (44 : Int32) → bX7_readsForm_81 Post M14 j0 (0 : Int32)) ∧
  (r15 = (44 : Int32) → bX7_readsForm_81 Post M14 j0 (1 : Int32)))) M10 j0))))) M9 j0))
def wX7_readsForm (Post : Mm → Int32 → Prop) (M : Mm) (j0a : Nat) : Prop :=
  wX7_sign (fun M1 r2 => ((r2 = (111 : Int32) → bX7_readsForm_37 Post M1 j0a r2) ∧
  (¬ r2 = (111 : Int32) → ((r2 = (99 : Int32) → bX7_readsForm_37 Post M1 j0a r2) ∧
  (¬ r2 = (99 : Int32) → ((r2 = (121 : Int32) → bX7_readsForm_37 Post M1 j0a r2) ∧
  (¬ r2 = (121 : Int32) → ((r2 = (104 : Int32) → bX7_readsForm_37 Post M1 j0a r2) ∧
  (¬ r2 = (104 : Int32) → ((r2 = (114 : Int32) → bX7_readsForm_37 Post M1 j0a r2) ∧
  (¬ r2 = (114 : Int32) → Post M1 (0 : Int32)))))))))))) M j0a
abbrev rX7_readsForm : Room := ({ frames := 2, cells := 0, slots := 0, locals := 44 } : Room)
def bX7_isInRange_44 (Post : Mm → Int32 → Prop) (M : Mm) (j0 : Nat) : Prop :=
  wX7_isGate (fun M9 r10 => (r10 = 0 ∨ r10 = 1) ∧ (Post M9 r10)) M j0 (M (j0 + 6) 0)
def wX7_isInRange (Post : Mm → Int32 → Prop) (M : Mm) (j0a : Nat) (x1a : Int32) : Prop :=
  ((x1a = (99 : Int32) → bX7_isInRange_44 Post M j0a) ∧
  (¬ x1a = (99 : Int32) → ((x1a = (111 : Int32) → bX7_isInRange_44 Post M j0a) ∧
  (¬ x1a = (111 : Int32) → ((x1a = (114 : Int32) → wX7_in (fun M4 r5 => (r5 = 0 ∨ r5 = 1) ∧ (Post M4 r5)) M (M (j0a + 6) 0) (1 : Int32) (10 : Int32)) ∧
  (¬ x1a = (114 : Int32) → ((x1a = (121 : Int32) → wX7_isField (fun M7 r8 => (r8 = 0 ∨ r8 = 1) ∧ (Post M7 r8)) M j0a (M (j0a + 6) 0)) ∧
  (¬ x1a = (121 : Int32) → Post M (1 : Int32)))))))))
abbrev rX7_isInRange : Room := ({ frames := 2, cells := 0, slots := 0, locals := 43 } : Room)
def wX7_does (Post : Mm → Int32 → Prop) (M : Mm) (j0a : Nat) (x1a : Int32) : Prop :=
  ((x1a = (99 : Int32) → wX7_moves (fun M2 r3 => Post M2 r3) M j0a (M (j0a + 6) 0) (0 : Int32)) ∧
  (¬ x1a = (99 : Int32) → ((x1a = (104 : Int32) → wX7_goes (fun M5 r6 => Post M5 r6) M j0a (M (j0a + 6) 0)) ∧
  (¬ x1a = (104 : Int32) → ((x1a = (111 : Int32) → wX7_moves (fun M8 r9 => Post M8 r9) M j0a (M (j0a + 6) 0) (1 : Int32)) ∧
  (¬ x1a = (111 : Int32) → ((x1a = (121 : Int32) → wX7_calls (fun M11 r12 => Post M11 r12) M j0a (M (j0a + 6) 0)) ∧
  (¬ x1a = (121 : Int32) → wX7_runs (fun M13 r14 => Post M13 r14) M j0a (M (j0a + 6) 0) (10 : Int32) (M (j0a + 6) 1)))))))))
abbrev rX7_does : Room := ({ frames := 8, cells := 0, slots := 0, locals := 192 } : Room)
def bX7_doesNext_84 (Post : Mm → Int32 → Prop) (M : Mm) (x3 : Int32) (t0 : Int32) (t1 : Int32) (js2 : Nat) : Prop :=
  ∀ M18 : Mm, M18 = mu M js2 12 (t1 + t0) → (((x3 ≤ (-1000001 : Int32) → Post M18 (3 : Int32)) ∧
  (¬ x3 ≤ (-1000001 : Int32) → Post M18 (0 : Int32))))
def bX7_doesNext_83 (Post : Mm → Int32 → Prop) (M : Mm) (x3 : Int32) (t0 : Int32) (js1 : Nat) : Prop :=
  bX7_doesNext_84 Post M x3 (0 : Int32) t0 js1
def wX7_doesNext (Post : Mm → Int32 → Prop) (M : Mm) (j0a : Nat) : Prop :=
  ∀ x1_1 : Int32, x1_1 = (M j0a 7) → (wX7_sign (fun M2 r3 => wX7_readsForm (fun M4 r5 => ((¬ r5 = 0 → wX7_isInRange (fun M7 r8 => ((¬ r8 = 0 → ∀ M10 : Mm, M10 = mu M7 j0a 11 (-1000004 : Int32) → (wX7_does (fun M11 r12 => ((r12 ≤ (-1000001 : Int32) → bX7_doesNext_83 Post M11 r12 (M11 j0a 12) j0a) ∧
  (¬ r12 ≤ (-1000001 : Int32) → ((r3 = (104 : Int32) → bX7_doesNext_84 Post M11 r12 r12 (M11 j0a 12) j0a) ∧
  (¬ r3 = (104 : Int32) → ((¬ r3 = (114 : Int32) → bX7_doesNext_83 Post M11 r12 (M11 j0a 12) j0a) ∧
  (r3 = (114 : Int32) → bX7_doesNext_84 Post M11 r12 r12 (M11 j0a 12) j0a))))))) M10 j0a r3)) ∧
  (r8 = 0 → ∀ M16 : Mm, M16 = mu M7 j0a 11 (0 : Int32) → (Post M16 (2 : Int32))))) M4 j0a r3) ∧
  (r5 = 0 → ∀ M17 : Mm, M17 = mu M4 j0a 11 ((M4 j0a 7) - x1_1) → (Post M17 (1 : Int32))))) M2 j0a) M j0a)
abbrev rX7_doesNext : Room := ({ frames := 9, cells := 0, slots := 0, locals := 213 } : Room)
def bX7_faulty_58 (Post : Mm → Int32 → Prop) (M : Mm) (j0 : Nat) (x1 : Int32) : Prop :=
  wX7_restores (fun M12 => Post M12 x1) M j0
def bX7_faulty_12 (Post : Mm → Int32 → Prop) (A12 : Mm → Nat → Int32 → Prop) (M : Mm) (j0 : Nat) (x1 : Int32) : Prop :=
  (((M j0 6) ≤ (M j0 7) → bX7_faulty_58 Post M j0 x1) ∧
  (¬ (M j0 6) ≤ (M j0 7) → ((¬ x1 = (-1000004 : Int32) → bX7_faulty_58 Post M j0 x1) ∧
  (x1 = (-1000004 : Int32) → ∀ x2_7 : Int32, x2_7 = (M j0 7) → (wX7_doesNext (fun M8 r9 => ∀ M10 : Mm, M10 = mu M8 j0 10 r9 → ((((M10 j0 10) ≤ 0 → A12 M10 j0 x1) ∧
  (¬ (M10 j0 10) ≤ 0 → A12 M10 j0 x2_7)))) M j0)))))
def lX7_faulty_12 (Post : Mm → Int32 → Prop) : Nat → Mm → Nat → Int32 → Prop
  | 0 => fun _ _ _ => False
  | n + 1 => fun M j0 x1 => bX7_faulty_12 Post (lX7_faulty_12 Post n) M j0 x1
def wX7_faulty (Post : Mm → Int32 → Prop) (M : Mm) (j0a : Nat) : Prop :=
  wX7_puts (fun M1 => ∀ M3 : Mm, M3 = mu M1 j0a 7 (0 : Int32) → ((∃ n4 : Nat, lX7_faulty_12 Post n4 M3 j0a (-1000004 : Int32)))) M j0a
abbrev rX7_faulty : Room := ({ frames := 10, cells := 0, slots := 0, locals := 236 } : Room)
def wX7_fault (Post : Mm → Int32 → Prop) (M : Mm) (j0a : Nat) (x1a : Int32) : Prop :=
  wX7_in (fun M1 r2 => ((¬ r2 = 0 → wX7_faulty (fun M4 r5 => ((r5 = (-1000004 : Int32) → Post M4 r5) ∧
  (¬ r5 = (-1000004 : Int32) → ((¬ x1a = 0 → ((¬ x1a = (1 : Int32) → Post M4 (M4 j0a 11)) ∧
  (x1a = (1 : Int32) → Post M4 (M4 j0a 10)))) ∧
  (x1a = 0 → Post M4 r5))))) M1 j0a) ∧
  (r2 = 0 → Post M1 (-1000001 : Int32)))) M x1a (0 : Int32) (2 : Int32)
abbrev rX7_fault : Room := ({ frames := 11, cells := 0, slots := 0, locals := 258 } : Room)
def bX7_play_26 (Post : Mm → Int32 → Prop) (A26 : Mm → Nat → Prop) (M : Mm) (j0 : Nat) : Prop :=
  (((M j0 6) ≤ (M j0 7) → wX7_acted (fun M10 r11 => Post M10 r11) M j0 (M j0 12)) ∧
  (¬ (M j0 6) ≤ (M j0 7) → wX7_doesNext (fun M12 r13 => A26 M12 j0) M j0))
def lX7_play_26 (Post : Mm → Int32 → Prop) : Nat → Mm → Nat → Prop
  | 0 => fun _ _ => False
  | n + 1 => fun M j0 => bX7_play_26 Post (lX7_play_26 Post n) M j0
def wX7_play (Post : Mm → Int32 → Prop) (M : Mm) (j0a : Nat) : Prop :=
  wX7_faulty (fun M1 r2 => ((r2 = (-1000004 : Int32) → wX7_keeps (fun M4 => ∀ M6 : Mm, M6 = mu M4 j0a 12 (0 : Int32) → (∀ M7 : Mm, M7 = mu M6 j0a 7 (0 : Int32) → ((∃ n8 : Nat, lX7_play_26 Post n8 M7 j0a)))) M1 j0a) ∧
  (¬ r2 = (-1000004 : Int32) → Post M1 (-1000002 : Int32)))) M j0a
abbrev rX7_play : Room := ({ frames := 11, cells := 0, slots := 0, locals := 258 } : Room)
