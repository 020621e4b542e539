/-! the law itself, as a predicate: printed by gen29.py -/
def bL_law (xs : Nat → Int32) (L : Nat) (A : Mm → Int32 → Int32 → Prop) (M : Mm) (x2 x3 : Int32) : Prop :=
  (((30 : Int32) ≤ x3 → wX6_count (fun M2 r3 => wX6_count (fun M4 r5 => ((x2 = 0 → False) ∧
  (¬ x2 = 0 → wX6_run (fun M7 r8 => ((r8 < 0 → False) ∧
  (¬ r8 < 0 → wX6_count (fun M10 r11 => ((¬ r11 = (r3 + (150 : Int32)) → False) ∧
  (r11 = (r3 + (150 : Int32)) → wX6_count (fun M13 r14 => ((¬ r14 = (r5 + (3 : Int32)) → False) ∧
  (r14 = (r5 + (3 : Int32)) → wL_holds (fun M16 r17 => ((r17 = 0 → False) ∧
  (¬ r17 = 0 → wX6_undo (fun M19 r20 => ((r20 < 0 → False) ∧
  (¬ r20 < 0 → wX6_count (fun M22 r23 => ((¬ r23 = r3 → False) ∧
  (r23 = r3 → wX6_count (fun M25 r26 => ((¬ r26 = r5 → False) ∧
  (r26 = r5 → wL_holds (fun M28 r29 => ((r29 = 0 → False) ∧
  (¬ r29 = 0 → True))) M25 0))) M22 0 (6 : Int32)))) M19 0 (7 : Int32)))) M16 0))) M13 0))) M10 0 (6 : Int32)))) M7 0 (7 : Int32)))) M4 0 (3 : Int32) (50 : Int32)))) M2 0 (6 : Int32)) M 0 (7 : Int32)) ∧
  (¬ (30 : Int32) ≤ x3 → ((x2 = 0 → wX6_count (fun M32 r33 => wX6_count (fun M34 r35 => ((x2 = 0 → False) ∧
  (¬ x2 = 0 → wX6_run (fun M37 r38 => ((r38 < 0 → False) ∧
  (¬ r38 < 0 → wX6_count (fun M40 r41 => ((¬ r41 = (r33 + (150 : Int32)) → False) ∧
  (r41 = (r33 + (150 : Int32)) → wX6_count (fun M43 r44 => ((¬ r44 = (r35 + (3 : Int32)) → False) ∧
  (r44 = (r35 + (3 : Int32)) → wL_holds (fun M46 r47 => ((r47 = 0 → False) ∧
  (¬ r47 = 0 → wX6_undo (fun M49 r50 => ((r50 < 0 → False) ∧
  (¬ r50 < 0 → wX6_count (fun M52 r53 => ((¬ r53 = r33 → False) ∧
  (r53 = r33 → wX6_count (fun M55 r56 => ((¬ r56 = r35 → False) ∧
  (r56 = r35 → wL_holds (fun M58 r59 => ((r59 = 0 → False) ∧
  (¬ r59 = 0 → True))) M55 0))) M52 0 (6 : Int32)))) M49 0 (7 : Int32)))) M46 0))) M43 0))) M40 0 (6 : Int32)))) M37 0 (7 : Int32)))) M34 0 (3 : Int32) (50 : Int32)))) M32 0 (6 : Int32)) M 0 (7 : Int32)) ∧
  (¬ x2 = 0 → (¬ (Int32.ofNat L) ≤ x3 → vp_in x3 L) ∧ (∀ r62 : Int32, r62 = cellF xs L x3 → (wL_acts (fun M63 r64 => ((r64 = 0 → ∀ x3_66 : Int32, x3_66 = x3 + (1 : Int32) → (A M63 (0 : Int32) x3_66)) ∧
  (¬ r64 = 0 → wL_holds (fun M67 r68 => ((r68 = 0 → ∀ x3_70 : Int32, x3_70 = x3 + (1 : Int32) → (A M67 (0 : Int32) x3_70)) ∧
  (¬ r68 = 0 → ∀ x3_71 : Int32, x3_71 = x3 + (1 : Int32) → (A M67 (1 : Int32) x3_71)))) M63 0))) M 0 r62))))))
def lL_law (xs : Nat → Int32) (L : Nat) : Nat → Mm → Int32 → Int32 → Prop
  | 0 => fun _ _ _ => False
  | n + 1 => fun M x2 x3 => bL_law xs L (lL_law xs L n) M x2 x3
def wL_law (A : Mm → Int32 → Int32 → Prop) (M : Mm) : Prop :=
  wL_holds (fun M72 r73 => ((r73 = 0 → A M72 (0 : Int32) (0 : Int32)) ∧
  (¬ r73 = 0 → wX6_canal (fun M75 r76 => ((¬ r76 = (1 : Int32) → A M75 (0 : Int32) (0 : Int32)) ∧
  (r76 = (1 : Int32) → wX6_field (fun M78 r79 => ((¬ r79 = 0 → A M78 (0 : Int32) (0 : Int32)) ∧
  (r79 = 0 → wX6_field (fun M81 r82 => ((¬ r82 = (1 : Int32) → A M81 (0 : Int32) (0 : Int32)) ∧
  (r82 = (1 : Int32) → A M81 (1 : Int32) (0 : Int32)))) M78 0 (0 : Int32) (90 : Int32) (30 : Int32) (9 : Int32)))) M75 0 (1 : Int32) (120 : Int32) (40 : Int32) (5 : Int32)))) M72 0 (0 : Int32) (0 : Int32) (100 : Int32) (20 : Int32)))) M 0
