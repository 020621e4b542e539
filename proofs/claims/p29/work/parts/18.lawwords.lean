/-! the law and its methods, as predicates: printed by gen29.py -/
def bL_holds_210 (Post : Mm → Int32 → Prop) (A57 : Mm → Nat → Int32 → Int32 → Int32 → Int32 → Int32 → Int32 → Int32 → Int32 → Int32 → Prop) (M : Mm) (j0 : Nat) (x1 : Int32) (x2 : Int32) (x3 : Int32) (x4 : Int32) (x5 : Int32) (x6 : Int32) (x7 : Int32) (x9 : Int32) : Prop :=
  wX6_count (fun M55 r56 => ((¬ r56 = 0 → ∀ x9_58 : Int32, x9_58 = x9 + (1 : Int32) → (A57 M55 j0 x1 x2 x3 x4 x5 x6 x7 (1 : Int32) x9_58)) ∧
  (r56 = 0 → wX6_fieldOf (fun M59 r60 => ((¬ r60 = (1 : Int32) → ∀ x9_62 : Int32, x9_62 = x9 + (1 : Int32) → (A57 M59 j0 x1 x2 x3 x4 x5 x6 x7 (0 : Int32) x9_62)) ∧
  (r60 = (1 : Int32) → ∀ x9_63 : Int32, x9_63 = x9 + (1 : Int32) → (A57 M59 j0 x1 x2 x3 x4 x5 x6 x7 (1 : Int32) x9_63)))) M55 j0 x9 (6 : Int32)))) M j0 (3 : Int32)
def bL_holds_192 (Post : Mm → Int32 → Prop) (A57 : Mm → Nat → Int32 → Int32 → Int32 → Int32 → Int32 → Int32 → Int32 → Int32 → Int32 → Prop) (M : Mm) (j0 : Nat) (x1 : Int32) (x2 : Int32) (x3 : Int32) (x4 : Int32) (x5 : Int32) (x6 : Int32) (x7 : Int32) (x9 : Int32) (x11 : Int32) : Prop :=
  ((x11 = 0 → bL_holds_210 Post A57 M j0 x1 x2 x3 x4 x5 x6 x7 x9) ∧
  (¬ x11 = 0 → wX6_fieldOf (fun M51 r52 => ((¬ r52 = (-1000004 : Int32) → ∀ x9_54 : Int32, x9_54 = x9 + (1 : Int32) → (A57 M51 j0 x1 x2 x3 x4 x5 x6 x7 (0 : Int32) x9_54)) ∧
  (r52 = (-1000004 : Int32) → bL_holds_210 Post A57 M51 j0 x1 x2 x3 x4 x5 x6 x7 x9))) M j0 x9 (7 : Int32)))
def bL_holds_116 (Post : Mm → Int32 → Prop) (A57 : Mm → Nat → Int32 → Int32 → Int32 → Int32 → Int32 → Int32 → Int32 → Int32 → Int32 → Prop) (M : Mm) (j0 : Nat) (x1 : Int32) (x3 : Int32) (x4 : Int32) (x5 : Int32) (x6 : Int32) (x7 : Int32) (x9 : Int32) (x10 : Int32) (x11 : Int32) (t0 : Int32) (t1 : Int32) : Prop :=
  ∀ x2_25 : Int32, x2_25 = (t1 + t0) → (wX6_fieldOf (fun M26 r27 => ∀ x3_28 : Int32, x3_28 = (x3 ||| (r27 <<< (x9 &&& 31))) → (((x10 < 0 → ∀ x9_30 : Int32, x9_30 = x9 + (1 : Int32) → (A57 M26 j0 x1 x2_25 x3_28 x4 x5 x6 x7 (0 : Int32) x9_30)) ∧
  (¬ x10 < 0 → wX6_fieldOf (fun M31 r32 => ((r32 < x10 → ∀ x9_34 : Int32, x9_34 = x9 + (1 : Int32) → (A57 M31 j0 x1 x2_25 x3_28 x4 x5 x6 x7 (0 : Int32) x9_34)) ∧
  (¬ r32 < x10 → ((¬ x11 = 0 → bL_holds_192 Post A57 M31 j0 x1 x2_25 x3_28 x4 x5 x6 x7 x9 x11) ∧
  (x11 = 0 → wX6_fieldOf (fun M36 r37 => ((¬ r37 = 0 → ∀ x9_39 : Int32, x9_39 = x9 + (1 : Int32) → (A57 M36 j0 x1 x2_25 x3_28 x4 x5 x6 x7 (0 : Int32) x9_39)) ∧
  (r37 = 0 → wX6_fieldOf (fun M40 r41 => ((r41 < (1 : Int32) → ∀ x9_43 : Int32, x9_43 = x9 + (1 : Int32) → (A57 M40 j0 x1 x2_25 x3_28 x4 x5 x6 x7 (0 : Int32) x9_43)) ∧
  (¬ r41 < (1 : Int32) → wX6_fieldOf (fun M44 r45 => wX6_count (fun M46 r47 => ((r47 < r45 → ∀ x9_49 : Int32, x9_49 = x9 + (1 : Int32) → (A57 M46 j0 x1 x2_25 x3_28 x4 x5 x6 x7 (0 : Int32) x9_49)) ∧
  (¬ r47 < r45 → bL_holds_192 Post A57 M46 j0 x1 x2_25 x3_28 x4 x5 x6 x7 x9 x11))) M44 j0 (6 : Int32)) M40 j0 x9 (7 : Int32)))) M36 j0 x9 (7 : Int32)))) M31 j0 x9 (5 : Int32)))))) M26 j0 x9 (1 : Int32))))) M j0 x9 (5 : Int32))
def bL_holds_98 (Post : Mm → Int32 → Prop) (A57 : Mm → Nat → Int32 → Int32 → Int32 → Int32 → Int32 → Int32 → Int32 → Int32 → Int32 → Prop) (M : Mm) (j0 : Nat) (x1 : Int32) (x2 : Int32) (x3 : Int32) (x4 : Int32) (x5 : Int32) (x6 : Int32) (x7 : Int32) (x9 : Int32) (x10 : Int32) (t0 : Int32) : Prop :=
  ∀ x1_23 : Int32, x1_23 = (x1 + x10) → (((t0 = 0 → bL_holds_116 Post A57 M j0 x1_23 x3 x4 x5 x6 x7 x9 x10 t0 (0 : Int32) x2) ∧
  (¬ t0 = 0 → bL_holds_116 Post A57 M j0 x1_23 x3 x4 x5 x6 x7 x9 x10 t0 (1 : Int32) x2)))
def bL_holds_331 (Post : Mm → Int32 → Prop) (A246 : Mm → Nat → Int32 → Int32 → Int32 → Int32 → Int32 → Int32 → Int32 → Int32 → Int32 → Prop) (M : Mm) (j0 : Nat) (x1 : Int32) (x2 : Int32) (x3 : Int32) (x4 : Int32) (x5 : Int32) (x6 : Int32) (x9 : Int32) (t0 : Int32) (t1 : Int32) : Prop :=
  ∀ x7_81 : Int32, x7_81 = (t1 ||| t0) → (wX6_canalOf (fun M82 r83 => ((r83 < 0 → ∀ x9_85 : Int32, x9_85 = x9 + (1 : Int32) → (A246 M82 j0 x1 x2 x3 x4 x5 x6 x7_81 (0 : Int32) x9_85)) ∧
  (¬ r83 < 0 → wX6_canalOf (fun M86 r87 => wX6_canalOf (fun M88 r89 => ((r89 < r87 → ∀ x9_91 : Int32, x9_91 = x9 + (1 : Int32) → (A246 M88 j0 x1 x2 x3 x4 x5 x6 x7_81 (0 : Int32) x9_91)) ∧
  (¬ r89 < r87 → ((x9 = 0 → ∀ x9_93 : Int32, x9_93 = x9 + (1 : Int32) → (A246 M88 j0 x1 x2 x3 x4 x5 x6 x7_81 (1 : Int32) x9_93)) ∧
  (¬ x9 = 0 → wX6_canalOf (fun M94 r95 => wX6_canalOf (fun M96 r97 => ((¬ ((r97 >>> (x9 &&& 31)) &&& (1 : Int32)) = (1 : Int32) → ∀ x9_99 : Int32, x9_99 = x9 + (1 : Int32) → (A246 M96 j0 x1 x2 x3 x4 x5 x6 x7_81 (0 : Int32) x9_99)) ∧
  (((r97 >>> (x9 &&& 31)) &&& (1 : Int32)) = (1 : Int32) → wX6_canalOf (fun M100 r101 => wX6_canalOf (fun M102 r103 => wX6_canalOf (fun M104 r105 => ((¬ (r101 &&& (r105 ^^^ (-1 : Int32))) = 0 → ∀ x9_107 : Int32, x9_107 = x9 + (1 : Int32) → (A246 M104 j0 x1 x2 x3 x4 x5 x6 x7_81 (0 : Int32) x9_107)) ∧
  ((r101 &&& (r105 ^^^ (-1 : Int32))) = 0 → ∀ x9_108 : Int32, x9_108 = x9 + (1 : Int32) → (A246 M104 j0 x1 x2 x3 x4 x5 x6 x7_81 (1 : Int32) x9_108)))) M102 j0 r103 (6 : Int32)) M100 j0 x9 (0 : Int32)) M96 j0 x9 (6 : Int32)))) M94 j0 r95 (6 : Int32)) M88 j0 x9 (0 : Int32)))))) M86 j0 x9 (2 : Int32)) M82 j0 x9 (7 : Int32)))) M j0 x9 (7 : Int32))
def bL_holds_308 (Post : Mm → Int32 → Prop) (A246 : Mm → Nat → Int32 → Int32 → Int32 → Int32 → Int32 → Int32 → Int32 → Int32 → Int32 → Prop) (M : Mm) (j0 : Nat) (x1 : Int32) (x2 : Int32) (x3 : Int32) (x4 : Int32) (x5 : Int32) (x7 : Int32) (x9 : Int32) (t0 : Int32) (t1 : Int32) : Prop :=
  ∀ x6_77 : Int32, x6_77 = (t1 ||| t0) → (wX6_canalOf (fun M78 r79 => ((r79 < 0 → bL_holds_331 Post A246 M78 j0 x1 x2 x3 x4 x5 x6_77 x9 (0 : Int32) x7) ∧
  (¬ r79 < 0 → bL_holds_331 Post A246 M78 j0 x1 x2 x3 x4 x5 x6_77 x9 ((1 : Int32) <<< (x9 &&& 31)) x7))) M j0 x9 (5 : Int32))
def bL_holds_534 (Post : Mm → Int32 → Prop) (M : Mm) (t0 : Int32) (t1 : Int32) : Prop :=
  ((¬ t1 = t0 → Post M (0 : Int32)) ∧
  (t1 = t0 → Post M (1 : Int32)))
def bL_holds_520 (Post : Mm → Int32 → Prop) (M : Mm) (j0 : Nat) (t0 : Int32) : Prop :=
  wX6_count (fun M134 r135 => ((¬ r135 = 0 → bL_holds_534 Post M134 (0 : Int32) t0) ∧
  (r135 = 0 → bL_holds_534 Post M134 (1 : Int32) t0))) M j0 (7 : Int32)
def bL_holds_430 (Post : Mm → Int32 → Prop) (M : Mm) (j0 : Nat) (x1 : Int32) (x2 : Int32) (x3 : Int32) (x4 : Int32) (x5 : Int32) (x6 : Int32) (x7 : Int32) (x8 : Int32) : Prop :=
  ((x8 = 0 → Post M (0 : Int32)) ∧
  (¬ x8 = 0 → wX6_count (fun M110 r111 => ((¬ r111 = x1 → Post M110 (0 : Int32)) ∧
  (r111 = x1 → wX6_count (fun M113 r114 => ((¬ r114 = x2 → Post M113 (0 : Int32)) ∧
  (r114 = x2 → wX6_count (fun M116 r117 => ((¬ r117 = x3 → Post M116 (0 : Int32)) ∧
  (r117 = x3 → wX6_count (fun M119 r120 => ((¬ r120 = x4 → Post M119 (0 : Int32)) ∧
  (r120 = x4 → wX6_count (fun M122 r123 => ((¬ r123 = x5 → Post M122 (0 : Int32)) ∧
  (r123 = x5 → wX6_count (fun M125 r126 => ((¬ r126 = x6 → Post M125 (0 : Int32)) ∧
  (r126 = x6 → wX6_count (fun M128 r129 => ((¬ r129 = x7 → Post M128 (0 : Int32)) ∧
  (r129 = x7 → wX6_share (fun M131 r132 => ((¬ r132 = (-1000004 : Int32) → bL_holds_520 Post M131 j0 (0 : Int32)) ∧
  (r132 = (-1000004 : Int32) → bL_holds_520 Post M131 j0 (1 : Int32)))) M128 j0 (0 : Int32)))) M125 j0 (5 : Int32)))) M122 j0 (4 : Int32)))) M119 j0 (10 : Int32)))) M116 j0 (9 : Int32)))) M113 j0 (3 : Int32)))) M110 j0 (2 : Int32)))) M j0 (8 : Int32)))
def bL_holds_246 (Post : Mm → Int32 → Prop) (A246 : Mm → Nat → Int32 → Int32 → Int32 → Int32 → Int32 → Int32 → Int32 → Int32 → Int32 → Prop) (M : Mm) (j0 : Nat) (x1 : Int32) (x2 : Int32) (x3 : Int32) (x4 : Int32) (x5 : Int32) (x6 : Int32) (x7 : Int32) (x8 : Int32) (x9 : Int32) : Prop :=
  wX6_count (fun M64 r65 => ((r65 ≤ x9 → bL_holds_430 Post M64 j0 x1 x2 x3 x4 x5 x6 x7 x8) ∧
  (¬ r65 ≤ x9 → ((x8 = 0 → bL_holds_430 Post M64 j0 x1 x2 x3 x4 x5 x6 x7 x8) ∧
  (¬ x8 = 0 → wX6_canalOf (fun M68 r69 => ∀ x4_70 : Int32, x4_70 = (x4 + r69) → (wX6_canalOf (fun M71 r72 => ∀ x5_73 : Int32, x5_73 = (x5 + r72) → (((x9 ≤ 0 → bL_holds_308 Post A246 M71 j0 x1 x2 x3 x4_70 x5_73 x7 x9 (0 : Int32) x6) ∧
  (¬ x9 ≤ 0 → wX6_canalOf (fun M75 r76 => bL_holds_308 Post A246 M75 j0 x1 x2 x3 x4_70 x5_73 x7 x9 (r76 <<< (x9 &&& 31)) x6) M71 j0 x9 (4 : Int32))))) M68 j0 x9 (9 : Int32))) M64 j0 x9 (8 : Int32)))))) M j0 (0 : Int32)
def lL_holds_246 (Post : Mm → Int32 → Prop) : Nat → Mm → Nat → Int32 → Int32 → Int32 → Int32 → Int32 → Int32 → Int32 → Int32 → Int32 → Prop
  | 0 => fun _ _ _ _ _ _ _ _ _ _ _ => False
  | n + 1 => fun M j0 x1 x2 x3 x4 x5 x6 x7 x8 x9 => bL_holds_246 Post (lL_holds_246 Post n) M j0 x1 x2 x3 x4 x5 x6 x7 x8 x9
def bL_holds_57 (Post : Mm → Int32 → Prop) (A57 : Mm → Nat → Int32 → Int32 → Int32 → Int32 → Int32 → Int32 → Int32 → Int32 → Int32 → Prop) (M : Mm) (j0 : Nat) (x1 : Int32) (x2 : Int32) (x3 : Int32) (x4 : Int32) (x5 : Int32) (x6 : Int32) (x7 : Int32) (x8 : Int32) (x9 : Int32) : Prop :=
  wX6_count (fun M12 r13 => ((r13 ≤ x9 → (∃ n15 : Nat, lL_holds_246 Post n15 M12 j0 x1 x2 x3 x4 x5 x6 x7 x8 (0 : Int32))) ∧
  (¬ r13 ≤ x9 → ((x8 = 0 → (∃ n17 : Nat, lL_holds_246 Post n17 M12 j0 x1 x2 x3 x4 x5 x6 x7 x8 (0 : Int32))) ∧
  (¬ x8 = 0 → wX6_fieldOf (fun M18 r19 => wX6_fieldOf (fun M20 r21 => ((r21 ≤ r19 → bL_holds_98 Post A57 M20 j0 x1 x2 x3 x4 x5 x6 x7 x9 r19 (0 : Int32)) ∧
  (¬ r21 ≤ r19 → bL_holds_98 Post A57 M20 j0 x1 x2 x3 x4 x5 x6 x7 x9 r19 (1 : Int32)))) M18 j0 x9 (1 : Int32)) M12 j0 x9 (4 : Int32)))))) M j0 (1 : Int32)
def lL_holds_57 (Post : Mm → Int32 → Prop) : Nat → Mm → Nat → Int32 → Int32 → Int32 → Int32 → Int32 → Int32 → Int32 → Int32 → Int32 → Prop
  | 0 => fun _ _ _ _ _ _ _ _ _ _ _ => False
  | n + 1 => fun M j0 x1 x2 x3 x4 x5 x6 x7 x8 x9 => bL_holds_57 Post (lL_holds_57 Post n) M j0 x1 x2 x3 x4 x5 x6 x7 x8 x9
def wL_holds (Post : Mm → Int32 → Prop) (M : Mm) (j0a : Nat) : Prop :=
  wX6_count (fun M1 r2 => wX6_count (fun M3 r4 => wX6_count (fun M5 r6 => wX6_count (fun M7 r8 => ((¬ r2 = ((r4 + r6) + r8) → (∃ n10 : Nat, lL_holds_57 Post n10 M7 j0a (0 : Int32) (0 : Int32) (0 : Int32) (0 : Int32) (0 : Int32) (0 : Int32) (0 : Int32) (0 : Int32) (0 : Int32))) ∧
  (r2 = ((r4 + r6) + r8) → (∃ n11 : Nat, lL_holds_57 Post n11 M7 j0a (0 : Int32) (0 : Int32) (0 : Int32) (0 : Int32) (0 : Int32) (0 : Int32) (0 : Int32) (1 : Int32) (0 : Int32))))) M5 j0a (10 : Int32)) M3 j0a (9 : Int32)) M1 j0a (8 : Int32)) M j0a (7 : Int32)
abbrev rL_holds : Room := ({ frames := 3, cells := 0, slots := 0, locals := 75 } : Room)
def bL_hour_251 (ja jb : Nat) (Post : Mm → Int32 → Prop) (A187 : Mm → Nat → Int32 → Int32 → Int32 → Prop) (A228 : Mm → Nat → Int32 → Int32 → Int32 → Int32 → Int32 → Prop) (M : Mm) (j0 : Nat) (x4 : Int32) (x10 : Int32) (x11 : Int32) (x13 : Int32) (t0 : Int32) (t1 : Int32) : Prop :=
  ∀ x12_78 : Int32, x12_78 = (t1 &&& t0) → (wX6_canalOf (fun M79 r80 => (M79 ja = M ja ∧ M79 jb = M jb) ∧ (A228 M79 j0 x4 x10 x11 x12_78 r80)) M j0 x13 (0 : Int32))
def bL_hour_228 (ja jb : Nat) (Post : Mm → Int32 → Prop) (A187 : Mm → Nat → Int32 → Int32 → Int32 → Prop) (A228 : Mm → Nat → Int32 → Int32 → Int32 → Int32 → Int32 → Prop) (M : Mm) (j0 : Nat) (x4 : Int32) (x10 : Int32) (x11 : Int32) (x12 : Int32) (x13 : Int32) : Prop :=
  ((x13 ≤ 0 → ((x11 < 0 → ∀ x10_59 : Int32, x10_59 = x10 + (1 : Int32) → (A187 M j0 x4 (0 : Int32) x10_59)) ∧
  (¬ x11 < 0 → wX6_fieldOf (fun M60 r61 => (M60 ja = M ja ∧ M60 jb = M jb) ∧ (((r61 < x11 → ∀ x10_63 : Int32, x10_63 = x10 + (1 : Int32) → (A187 M60 j0 x4 (0 : Int32) x10_63)) ∧
  (¬ r61 < x11 → ((x11 = 0 → ∀ x10_65 : Int32, x10_65 = x10 + (1 : Int32) → (A187 M60 j0 x4 (1 : Int32) x10_65)) ∧
  (¬ x11 = 0 → vp_in x10 10 ∧ (((¬ (M60 jb (ix x10)) = (1 : Int32) → ∀ x10_67 : Int32, x10_67 = x10 + (1 : Int32) → (A187 M60 j0 x4 (0 : Int32) x10_67)) ∧
  ((M60 jb (ix x10)) = (1 : Int32) → ((x12 = 0 → ∀ x10_69 : Int32, x10_69 = x10 + (1 : Int32) → (A187 M60 j0 x4 (0 : Int32) x10_69)) ∧
  (¬ x12 = 0 → wX6_fieldOf (fun M70 r71 => (M70 ja = M60 ja ∧ M70 jb = M60 jb) ∧ (wX6_canalOf (fun M72 r73 => (M72 ja = M70 ja ∧ M72 jb = M70 jb) ∧ (((r73 < x11 → ∀ x10_75 : Int32, x10_75 = x10 + (1 : Int32) → (A187 M72 j0 x4 (0 : Int32) x10_75)) ∧
  (¬ r73 < x11 → ∀ x10_76 : Int32, x10_76 = x10 + (1 : Int32) → (A187 M72 j0 x4 (1 : Int32) x10_76))))) M70 j0 r71 (7 : Int32))) M60 j0 x10 (0 : Int32)))))))))))) M j0 x10 (2 : Int32)))) ∧
  (¬ x13 ≤ 0 → ((¬ ((x4 >>> (x13 &&& 31)) &&& (1 : Int32)) = (1 : Int32) → bL_hour_251 ja jb Post A187 A228 M j0 x4 x10 x11 x13 (0 : Int32) x12) ∧
  (((x4 >>> (x13 &&& 31)) &&& (1 : Int32)) = (1 : Int32) → bL_hour_251 ja jb Post A187 A228 M j0 x4 x10 x11 x13 (1 : Int32) x12))))
def lL_hour_228 (ja jb : Nat) (Post : Mm → Int32 → Prop) (A187 : Mm → Nat → Int32 → Int32 → Int32 → Prop) : Nat → Mm → Nat → Int32 → Int32 → Int32 → Int32 → Int32 → Prop
  | 0 => fun _ _ _ _ _ _ _ => False
  | n + 1 => fun M j0 x4 x10 x11 x12 x13 => bL_hour_228 ja jb Post A187 (lL_hour_228 ja jb Post A187 n) M j0 x4 x10 x11 x12 x13
def bL_hour_335 (ja jb : Nat) (Post : Mm → Int32 → Prop) (A335 : Mm → Nat → Int32 → Int32 → Int32 → Prop) (M : Mm) (j0 : Nat) (x4 : Int32) (x9 : Int32) (x10 : Int32) : Prop :=
  wX6_count (fun M81 r82 => (M81 ja = M ja ∧ M81 jb = M jb) ∧ (((r82 ≤ x10 → (x9 = 0 ∨ x9 = 1) ∧ (Post M81 x9)) ∧
  (¬ r82 ≤ x10 → ((x9 = 0 → (x9 = 0 ∨ x9 = 1) ∧ (Post M81 x9)) ∧
  (¬ x9 = 0 → wX6_canalOf (fun M85 r86 => (M85 ja = M81 ja ∧ M85 jb = M81 jb) ∧ (((r86 = 0 → ∀ x10_88 : Int32, x10_88 = x10 + (1 : Int32) → (A335 M85 j0 x4 (1 : Int32) x10_88)) ∧
  (¬ r86 = 0 → ((¬ ((x4 >>> (x10 &&& 31)) &&& (1 : Int32)) = (1 : Int32) → ∀ x10_90 : Int32, x10_90 = x10 + (1 : Int32) → (A335 M85 j0 x4 (0 : Int32) x10_90)) ∧
  (((x4 >>> (x10 &&& 31)) &&& (1 : Int32)) = (1 : Int32) → wX6_canalOf (fun M91 r92 => (M91 ja = M85 ja ∧ M91 jb = M85 jb) ∧ (wX6_canalOf (fun M93 r94 => (M93 ja = M91 ja ∧ M93 jb = M91 jb) ∧ (wX6_canalOf (fun M95 r96 => (M95 ja = M93 ja ∧ M95 jb = M93 jb) ∧ (((r96 < r92 → ∀ x10_98 : Int32, x10_98 = x10 + (1 : Int32) → (A335 M95 j0 x4 (0 : Int32) x10_98)) ∧
  (¬ r96 < r92 → ∀ x10_99 : Int32, x10_99 = x10 + (1 : Int32) → (A335 M95 j0 x4 (1 : Int32) x10_99))))) M93 j0 r94 (7 : Int32))) M91 j0 x10 (0 : Int32))) M85 j0 x10 (7 : Int32))))))) M81 j0 x10 (7 : Int32))))))) M j0 (0 : Int32)
def lL_hour_335 (ja jb : Nat) (Post : Mm → Int32 → Prop) : Nat → Mm → Nat → Int32 → Int32 → Int32 → Prop
  | 0 => fun _ _ _ _ _ => False
  | n + 1 => fun M j0 x4 x9 x10 => bL_hour_335 ja jb Post (lL_hour_335 ja jb Post n) M j0 x4 x9 x10
def bL_hour_187 (ja jb : Nat) (Post : Mm → Int32 → Prop) (A187 : Mm → Nat → Int32 → Int32 → Int32 → Prop) (M : Mm) (j0 : Nat) (x4 : Int32) (x9 : Int32) (x10 : Int32) : Prop :=
  wX6_count (fun M45 r46 => (M45 ja = M ja ∧ M45 jb = M jb) ∧ (((r46 ≤ x10 → (∃ n48 : Nat, lL_hour_335 ja jb Post n48 M45 j0 x4 x9 (1 : Int32))) ∧
  (¬ r46 ≤ x10 → ((x9 = 0 → (∃ n50 : Nat, lL_hour_335 ja jb Post n50 M45 j0 x4 x9 (1 : Int32))) ∧
  (¬ x9 = 0 → wX6_fieldOf (fun M51 r52 => (M51 ja = M45 ja ∧ M51 jb = M45 jb) ∧ (vp_in x10 10 ∧ (∀ x11_53 : Int32, x11_53 = (r52 - (M51 ja (ix x10))) → (wX6_fieldOf (fun M54 r55 => (M54 ja = M51 ja ∧ M54 jb = M51 jb) ∧ ((∃ n56 : Nat, lL_hour_228 ja jb Post A187 n56 M54 j0 x4 x10 x11_53 (1 : Int32) r55))) M51 j0 x10 (0 : Int32))))) M45 j0 x10 (4 : Int32))))))) M j0 (1 : Int32)
def lL_hour_187 (ja jb : Nat) (Post : Mm → Int32 → Prop) : Nat → Mm → Nat → Int32 → Int32 → Int32 → Prop
  | 0 => fun _ _ _ _ _ => False
  | n + 1 => fun M j0 x4 x9 x10 => bL_hour_187 ja jb Post (lL_hour_187 ja jb Post n) M j0 x4 x9 x10
def bL_hour_174 (ja jb : Nat) (Post : Mm → Int32 → Prop) (M : Mm) (j0 : Nat) (x4 : Int32) (t0 : Int32) (t1 : Int32) : Prop :=
  ((¬ t1 = t0 → (∃ n43 : Nat, lL_hour_187 ja jb Post n43 M j0 x4 (0 : Int32) (0 : Int32))) ∧
  (t1 = t0 → (∃ n44 : Nat, lL_hour_187 ja jb Post n44 M j0 x4 (1 : Int32) (0 : Int32))))
def bL_hour_139 (ja jb : Nat) (Post : Mm → Int32 → Prop) (M : Mm) (j0 : Nat) (x1 : Int32) (x4 : Int32) (t0 : Int32) (t1 : Int32) (t2 : Int32) : Prop :=
  ((¬ t2 = (t1 + t0) → (∃ n34 : Nat, lL_hour_187 ja jb Post n34 M j0 x4 (0 : Int32) (0 : Int32))) ∧
  (t2 = (t1 + t0) → wX6_count (fun M35 r36 => (M35 ja = M ja ∧ M35 jb = M jb) ∧ (((¬ r36 = x4 → (∃ n38 : Nat, lL_hour_187 ja jb Post n38 M35 j0 x4 (0 : Int32) (0 : Int32))) ∧
  (r36 = x4 → wX6_canalOf (fun M39 r40 => (M39 ja = M35 ja ∧ M39 jb = M35 jb) ∧ ((((200 : Int32) ≤ x1 → bL_hour_174 ja jb Post M39 j0 x4 (200 : Int32) r40) ∧
  (¬ (200 : Int32) ≤ x1 → bL_hour_174 ja jb Post M39 j0 x4 x1 r40)))) M35 j0 (0 : Int32) (7 : Int32))))) M j0 (4 : Int32)))
def bL_hour_44 (ja jb : Nat) (Post : Mm → Int32 → Prop) (A44 : Mm → Nat → Int32 → Int32 → Int32 → Int32 → Int32 → Int32 → Prop) (M : Mm) (j0 : Nat) (x1 : Int32) (x4 : Int32) (x5 : Int32) (x6 : Int32) (x7 : Int32) (x8 : Int32) : Prop :=
  wX6_count (fun M10 r11 => (M10 ja = M ja ∧ M10 jb = M jb) ∧ (((r11 ≤ x8 → wX6_hour (fun M13 r14 => (M13 ja = M10 ja ∧ M13 jb = M10 jb) ∧ (wX6_count (fun M15 r16 => (M15 ja = M13 ja ∧ M15 jb = M13 jb) ∧ (((¬ r14 = (r16 - x7) → (∃ n18 : Nat, lL_hour_187 ja jb Post n18 M15 j0 x4 (0 : Int32) (0 : Int32))) ∧
  (r14 = (r16 - x7) → wX6_count (fun M19 r20 => (M19 ja = M15 ja ∧ M19 jb = M15 jb) ∧ (((¬ r20 = (x5 + (1 : Int32)) → (∃ n22 : Nat, lL_hour_187 ja jb Post n22 M19 j0 x4 (0 : Int32) (0 : Int32))) ∧
  (r20 = (x5 + (1 : Int32)) → wX6_count (fun M23 r24 => (M23 ja = M19 ja ∧ M23 jb = M19 jb) ∧ ((((200 : Int32) ≤ x1 → bL_hour_139 ja jb Post M23 j0 x1 x4 (200 : Int32) x6 r24) ∧
  (¬ (200 : Int32) ≤ x1 → bL_hour_139 ja jb Post M23 j0 x1 x4 x1 x6 r24)))) M19 j0 (7 : Int32))))) M15 j0 (6 : Int32))))) M13 j0 (8 : Int32))) M10 j0 x1) ∧
  (¬ r11 ≤ x8 → wX6_fieldOf (fun M26 r27 => (M26 ja = M10 ja ∧ M26 jb = M10 jb) ∧ (vp_in x8 10 ∧ (∀ M28 : Mm, M28 = mu M26 ja (ix x8) r27 → (wX6_fieldOf (fun M29 r30 => (M29 ja = M28 ja ∧ M29 jb = M28 jb) ∧ (vp_in x8 10 ∧ (∀ M31 : Mm, M31 = mu M29 jb (ix x8) r30 → (∀ x8_32 : Int32, x8_32 = x8 + (1 : Int32) → (A44 M31 j0 x1 x4 x5 x6 x7 x8_32))))) M28 j0 x8 (6 : Int32))))) M10 j0 x8 (4 : Int32))))) M j0 (1 : Int32)
def lL_hour_44 (ja jb : Nat) (Post : Mm → Int32 → Prop) : Nat → Mm → Nat → Int32 → Int32 → Int32 → Int32 → Int32 → Int32 → Prop
  | 0 => fun _ _ _ _ _ _ _ _ => False
  | n + 1 => fun M j0 x1 x4 x5 x6 x7 x8 => bL_hour_44 ja jb Post (lL_hour_44 ja jb Post n) M j0 x1 x4 x5 x6 x7 x8
def bL_hour_m (ja jb : Nat) (Post : Mm → Int32 → Prop) (M0 : Mm) (j0a : Nat) (x1a : Int32) : Prop :=
  wX6_count (fun M1 r2 => (M1 ja = M0 ja ∧ M1 jb = M0 jb) ∧ (wX6_count (fun M3 r4 => (M3 ja = M1 ja ∧ M3 jb = M1 jb) ∧ (wX6_count (fun M5 r6 => (M5 ja = M3 ja ∧ M5 jb = M3 jb) ∧ (wX6_count (fun M7 r8 => (M7 ja = M5 ja ∧ M7 jb = M5 jb) ∧ ((∃ n9 : Nat, lL_hour_44 ja jb Post n9 M7 j0a x1a r2 r4 r6 r8 (0 : Int32)))) M5 j0a (8 : Int32))) M3 j0a (7 : Int32))) M1 j0a (6 : Int32))) M0 j0a (4 : Int32)
def wL_hour (Post : Mm → Int32 → Prop) (M : Mm) (j0a : Nat) (x1a : Int32) : Prop := ∀ ja jb : Nat, 143 ≤ ja → ja < jb → bL_hour_m ja jb Post (mz (mz M ja) jb) j0a x1a
abbrev rL_hour : Room := ({ frames := 5, cells := 2, slots := 20, locals := 144 } : Room)
def bL_acts_102 (Post : Mm → Int32 → Prop) (M : Mm) (t0 : Int32) (t1 : Int32) : Prop :=
  ((¬ t1 = t0 → Post M (0 : Int32)) ∧
  (t1 = t0 → Post M (1 : Int32)))
def bL_acts_174 (Post : Mm → Int32 → Prop) (M : Mm) (t0 : Int32) (t1 : Int32) : Prop :=
  ((¬ t1 = t0 → Post M (0 : Int32)) ∧
  (t1 = t0 → Post M (1 : Int32)))
def bL_acts_287 (Post : Mm → Int32 → Prop) (M : Mm) (j0 : Nat) (x2 : Int32) : Prop :=
  wX6_count (fun M69 r70 => ¬ ((1 : Int32) <<< (r70 &&& 31)) = 0 ∧ (∀ x10_71 : Int32, x10_71 = ((x2 - x2 / ((1 : Int32) <<< (r70 &&& 31)) * ((1 : Int32) <<< (r70 &&& 31))) &&& (-2 : Int32)) → (∀ x11_72 : Int32, x11_72 = ((1 : Int32) + ((x2 / (256 : Int32)) - (x2 / (256 : Int32)) / (5 : Int32) * (5 : Int32))) → (wX6_count (fun M73 r74 => wX6_noTurns (fun M75 r76 => ((r76 < 0 → Post M75 (0 : Int32)) ∧
  (¬ r76 < 0 → wX6_turn (fun M78 r79 => ((¬ r79 = (1 : Int32) → Post M78 (0 : Int32)) ∧
  (r79 = (1 : Int32) → wX6_run (fun M81 r82 => ((r82 < 0 → Post M81 (0 : Int32)) ∧
  (¬ r82 < 0 → wX6_count (fun M84 r85 => ((¬ r85 = x10_71 → Post M84 (0 : Int32)) ∧
  (r85 = x10_71 → wX6_count (fun M87 r88 => ((¬ r88 = 0 → Post M87 (0 : Int32)) ∧
  (r88 = 0 → wX6_count (fun M90 r91 => ((¬ r91 = 0 → Post M90 (0 : Int32)) ∧
  (r91 = 0 → wX6_count (fun M93 r94 => ((¬ r94 = (r74 + x11_72) → Post M93 (0 : Int32)) ∧
  (r94 = (r74 + x11_72) → wX6_turnOf (fun M96 r97 => ((¬ r97 = x10_71 → Post M96 (0 : Int32)) ∧
  (r97 = x10_71 → Post M96 (1 : Int32)))) M93 j0 (0 : Int32) (0 : Int32)))) M90 j0 (6 : Int32)))) M87 j0 (13 : Int32)))) M84 j0 (12 : Int32)))) M81 j0 (4 : Int32)))) M78 j0 x11_72 ((x2 / (2048 : Int32)) - (x2 / (2048 : Int32)) / (300 : Int32) * (300 : Int32))))) M75 j0 x10_71 x11_72))) M73 j0) M69 j0 (6 : Int32))))) M j0 (0 : Int32)
def wL_acts (Post : Mm → Int32 → Prop) (M : Mm) (j0a : Nat) (x1a : Int32) : Prop :=
  ∀ x2_1 : Int32, x2_1 = (x1a / (8 : Int32)) → (∀ sw2 : Int32, sw2 = (x1a - x1a / (8 : Int32) * (8 : Int32)) → (((sw2 = (0 : Int32) → wX6_count (fun M4 r5 => ¬ r5 = 0 ∧ (wX6_canal (fun M6 r7 => ((¬ r5 = (8 : Int32) → bL_acts_102 Post M6 r5 r7) ∧
  (r5 = (8 : Int32) → bL_acts_102 Post M6 (-1000003 : Int32) r7))) M4 j0a (x2_1 - x2_1 / r5 * r5) ((x2_1 / (8 : Int32)) - (x2_1 / (8 : Int32)) / (3 : Int32) * (3 : Int32)) ((1 : Int32) + ((x2_1 / (32 : Int32)) - (x2_1 / (32 : Int32)) / (200 : Int32) * (200 : Int32))) ((x2_1 / (8192 : Int32)) - (x2_1 / (8192 : Int32)) / (300 : Int32) * (300 : Int32)))) M j0a (0 : Int32)) ∧
  (¬ sw2 = (0 : Int32) → ((sw2 = (1 : Int32) → wX6_count (fun M10 r11 => wX6_count (fun M12 r13 => ¬ r13 = 0 ∧ (wX6_field (fun M14 r15 => ((¬ r11 = (10 : Int32) → bL_acts_174 Post M14 r11 r15) ∧
  (r11 = (10 : Int32) → bL_acts_174 Post M14 (-1000003 : Int32) r15))) M12 j0a (x2_1 - x2_1 / r13 * r13) ((1 : Int32) + ((x2_1 / (8 : Int32)) - (x2_1 / (8 : Int32)) / (250 : Int32) * (250 : Int32))) ((1 : Int32) + ((x2_1 / (4096 : Int32)) - (x2_1 / (4096 : Int32)) / (80 : Int32) * (80 : Int32))) ((x2_1 / (524288 : Int32)) - (x2_1 / (524288 : Int32)) / (100 : Int32) * (100 : Int32)))) M10 j0a (0 : Int32)) M j0a (1 : Int32)) ∧
  (¬ sw2 = (1 : Int32) → ((sw2 = (2 : Int32) → wX6_count (fun M18 r19 => ((¬ r19 = 0 → wX6_count (fun M21 r22 => ¬ r22 = 0 ∧ (∀ x7_23 : Int32, x7_23 = (x2_1 - x2_1 / r22 * r22) → (wX6_fieldOf (fun M24 r25 => wX6_call (fun M26 r27 => ((¬ r27 = (-1000002 : Int32) → ((¬ r25 = 0 → Post M26 (0 : Int32)) ∧
  (r25 = 0 → wX6_fieldOf (fun M30 r31 => ((¬ r31 = (1 : Int32) → Post M30 (0 : Int32)) ∧
  (r31 = (1 : Int32) → Post M30 (1 : Int32)))) M26 j0a x7_23 (5 : Int32)))) ∧
  (r27 = (-1000002 : Int32) → ((r25 = (1 : Int32) → Post M26 (1 : Int32)) ∧
  (¬ r25 = (1 : Int32) → wX6_fieldOf (fun M34 r35 => ((r35 < 0 → Post M34 (0 : Int32)) ∧
  (¬ r35 < 0 → Post M34 (1 : Int32)))) M26 j0a x7_23 (7 : Int32)))))) M24 j0a x7_23) M21 j0a x7_23 (5 : Int32)))) M18 j0a (1 : Int32)) ∧
  (r19 = 0 → wX6_call (fun M37 r38 => ((¬ r38 = (-1000001 : Int32) → Post M37 (0 : Int32)) ∧
  (r38 = (-1000001 : Int32) → Post M37 (1 : Int32)))) M18 j0a (0 : Int32)))) M j0a (1 : Int32)) ∧
  (¬ sw2 = (2 : Int32) → ((sw2 = (3 : Int32) → bL_acts_287 Post M j0a x2_1) ∧
  (¬ sw2 = (3 : Int32) → ((sw2 = (4 : Int32) → bL_acts_287 Post M j0a x2_1) ∧
  (¬ sw2 = (4 : Int32) → ((sw2 = (5 : Int32) → wX6_count (fun M43 r44 => ((¬ r44 = (1 : Int32) → wX6_count (fun M46 r47 => ¬ (r47 - (1 : Int32)) = 0 ∧ (∀ x13_48 : Int32, x13_48 = ((1 : Int32) + (x2_1 - x2_1 / (r47 - (1 : Int32)) * (r47 - (1 : Int32)))) → (wX6_canalOf (fun M49 r50 => wX6_tend (fun M51 r52 => ((r52 ≤ 0 → wX6_canalOf (fun M54 r55 => ((¬ r55 = r50 → Post M54 (0 : Int32)) ∧
  (r55 = r50 → Post M54 (1 : Int32)))) M51 j0a x13_48 (5 : Int32)) ∧
  (¬ r52 ≤ 0 → ((¬ r50 = (-1000004 : Int32) → Post M51 (0 : Int32)) ∧
  (r50 = (-1000004 : Int32) → wX6_canalOf (fun M58 r59 => ((¬ r59 = ((x2_1 / (8 : Int32)) - (x2_1 / (8 : Int32)) / (3 : Int32) * (3 : Int32)) → Post M58 (0 : Int32)) ∧
  (r59 = ((x2_1 / (8 : Int32)) - (x2_1 / (8 : Int32)) / (3 : Int32) * (3 : Int32)) → (((2 : Int32) < r52 → Post M58 (0 : Int32)) ∧
  (¬ (2 : Int32) < r52 → Post M58 (1 : Int32)))))) M51 j0a x13_48 (5 : Int32)))))) M49 j0a ((x2_1 / (8 : Int32)) - (x2_1 / (8 : Int32)) / (3 : Int32) * (3 : Int32)) x13_48) M46 j0a x13_48 (5 : Int32)))) M43 j0a (0 : Int32)) ∧
  (r44 = (1 : Int32) → wX6_open (fun M62 r63 => ((¬ r63 = (-1000001 : Int32) → Post M62 (0 : Int32)) ∧
  (r63 = (-1000001 : Int32) → Post M62 (1 : Int32)))) M43 j0a (1 : Int32)))) M j0a (0 : Int32)) ∧
  (¬ sw2 = (5 : Int32) → wL_hour (fun M65 r66 => (r66 = 0 ∨ r66 = 1) ∧ (Post M65 r66)) M j0a (x2_1 - x2_1 / (300 : Int32) * (300 : Int32))))))))))))))))
abbrev rL_acts : Room := ({ frames := 6, cells := 2, slots := 20, locals := 177 } : Room)
