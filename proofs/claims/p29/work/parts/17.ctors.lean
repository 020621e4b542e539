/-! the constructors: printed by gen.py -/
def wsX0_init : List Cond := .code yX0_init cX0_init 2 none :: wsL_law
def wsX1_init : List Cond := .code yX1_init cX1_init 1 none :: wsL_law
def wsX5_init : List Cond := .code yX5_init cX5_init 1 none :: wsL_law
def wsX4_init : List Cond := .code yX4_init cX4_init 1 none :: wsL_law
def wsX2_init : List Cond := .code yX2_init cX2_init 2 none :: wsL_law
def wsX3_init : List Cond := .code yX3_init cX3_init 1 none :: wsL_law
def wsX6_init : List Cond := .code yX6_init cX6_init 1 none :: wsL_law
theorem gN_X0_init : GoodIn wsL_law wsX0_init := gN_of rfl q_2_18
theorem gN_X1_init : GoodIn wsL_law wsX1_init := gN_of rfl q_3_6
theorem gN_X5_init : GoodIn wsL_law wsX5_init := gN_of rfl q_3_16
theorem gN_X4_init : GoodIn wsL_law wsX4_init := gN_of rfl q_1_23
theorem gN_X2_init : GoodIn wsL_law wsX2_init := gN_of rfl q_3_22
theorem gN_X3_init : GoodIn wsL_law wsX3_init := gN_of rfl q_4_3
theorem gN_X6_init : GoodIn wsL_law wsX6_init := gN_of rfl q_1_5
theorem hdS_X0_init : yX0_init.cls ≠ "java/lang/invoke/MethodHandle" ∧ yX0_init.cls ≠ "java/lang/invoke/VarHandle" ∧ (parseMethodDescriptor yX0_init.desc).map (fun d => d.parameters.length) = some 0 := by decide +kernel
theorem hdS_X1_init : yX1_init.cls ≠ "java/lang/invoke/MethodHandle" ∧ yX1_init.cls ≠ "java/lang/invoke/VarHandle" ∧ (parseMethodDescriptor yX1_init.desc).map (fun d => d.parameters.length) = some 0 := by decide +kernel
theorem hdS_X5_init : yX5_init.cls ≠ "java/lang/invoke/MethodHandle" ∧ yX5_init.cls ≠ "java/lang/invoke/VarHandle" ∧ (parseMethodDescriptor yX5_init.desc).map (fun d => d.parameters.length) = some 0 := by decide +kernel
theorem hdS_X4_init : yX4_init.cls ≠ "java/lang/invoke/MethodHandle" ∧ yX4_init.cls ≠ "java/lang/invoke/VarHandle" ∧ (parseMethodDescriptor yX4_init.desc).map (fun d => d.parameters.length) = some 0 := by decide +kernel
theorem hdS_X2_init : yX2_init.cls ≠ "java/lang/invoke/MethodHandle" ∧ yX2_init.cls ≠ "java/lang/invoke/VarHandle" ∧ (parseMethodDescriptor yX2_init.desc).map (fun d => d.parameters.length) = some 0 := by decide +kernel
theorem hdS_X3_init : yX3_init.cls ≠ "java/lang/invoke/MethodHandle" ∧ yX3_init.cls ≠ "java/lang/invoke/VarHandle" ∧ (parseMethodDescriptor yX3_init.desc).map (fun d => d.parameters.length) = some 0 := by decide +kernel
theorem hdS_X6_init : yX6_init.cls ≠ "java/lang/invoke/MethodHandle" ∧ yX6_init.cls ≠ "java/lang/invoke/VarHandle" ∧ (parseMethodDescriptor yX6_init.desc).map (fun d => d.parameters.length) = some 0 := by decide +kernel
theorem df_0 : ∀ j, j < 10 → defaultValue (tyX0 j) = if fo 0 j = 0 then .int 0 else .null := by
  intro j hj
  match j, hj with
  | 0, _ => rfl
  | 1, _ => rfl
  | 2, _ => rfl
  | 3, _ => rfl
  | 4, _ => rfl
  | 5, _ => rfl
  | 6, _ => rfl
  | 7, _ => rfl
  | 8, _ => rfl
  | 9, _ => rfl
  | n + 10, h => omega
theorem df_1 : ∀ j, j < 9 → defaultValue (tyX1 j) = if fo 1 j = 0 then .int 0 else .null := by
  intro j hj
  match j, hj with
  | 0, _ => rfl
  | 1, _ => rfl
  | 2, _ => rfl
  | 3, _ => rfl
  | 4, _ => rfl
  | 5, _ => rfl
  | 6, _ => rfl
  | 7, _ => rfl
  | 8, _ => rfl
  | n + 9, h => omega
theorem df_2 : ∀ j, j < 2 → defaultValue (tyX2 j) = if fo 2 j = 0 then .int 0 else .null := by
  intro j hj
  match j, hj with
  | 0, _ => rfl
  | 1, _ => rfl
  | n + 2, h => omega
theorem df_3 : ∀ j, j < 9 → defaultValue (tyX3 j) = if fo 3 j = 0 then .int 0 else .null := by
  intro j hj
  match j, hj with
  | 0, _ => rfl
  | 1, _ => rfl
  | 2, _ => rfl
  | 3, _ => rfl
  | 4, _ => rfl
  | 5, _ => rfl
  | 6, _ => rfl
  | 7, _ => rfl
  | 8, _ => rfl
  | n + 9, h => omega
theorem df_4 : ∀ j, j < 11 → defaultValue (tyX4 j) = if fo 4 j = 0 then .int 0 else .null := by
  intro j hj
  match j, hj with
  | 0, _ => rfl
  | 1, _ => rfl
  | 2, _ => rfl
  | 3, _ => rfl
  | 4, _ => rfl
  | 5, _ => rfl
  | 6, _ => rfl
  | 7, _ => rfl
  | 8, _ => rfl
  | 9, _ => rfl
  | 10, _ => rfl
  | n + 11, h => omega
theorem df_5 : ∀ j, j < 5 → defaultValue (tyX5 j) = if fo 5 j = 0 then .int 0 else .null := by
  intro j hj
  match j, hj with
  | 0, _ => rfl
  | 1, _ => rfl
  | 2, _ => rfl
  | 3, _ => rfl
  | 4, _ => rfl
  | n + 5, h => omega
theorem df_6 : ∀ j, j < 4 → defaultValue (tyX6 j) = if fo 6 j = 0 then .int 0 else .null := by
  intro j hj
  match j, hj with
  | 0, _ => rfl
  | 1, _ => rfl
  | 2, _ => rfl
  | 3, _ => rfl
  | n + 4, h => omega
def wX0_init (Post : Nat → Mm → Okk → Prop) (N : Nat) (M : Mm) (ok : Okk) (j0a : Nat) : Prop :=
  j0a < N ∧ (∀ M1 : Mm, M1 = mu M j0a 0 (1 : Int32) → (kd N = 8 ∧ (∀ (M2 : Mm) (ok3 : Okk), M2 = mz M1 N → ok3 = oz ok N → ((j0a < (N + 1) ∧ N = j0a + 1) ∧ (∀ ok5 : Okk, ok5 = ou ok3 j0a 2 → (kd (N + 1) = 8 ∧ (∀ (M6 : Mm) (ok7 : Okk), M6 = mz M2 (N + 1) → ok7 = oz ok5 (N + 1) → ((j0a < (N + 2) ∧ (N + 1) = j0a + 2) ∧ (∀ ok9 : Okk, ok9 = ou ok7 j0a 3 → (kd (N + 2) = 8 ∧ (∀ (M10 : Mm) (ok11 : Okk), M10 = mz M6 (N + 2) → ok11 = oz ok9 (N + 2) → ((j0a < (N + 3) ∧ (N + 2) = j0a + 3) ∧ (∀ ok13 : Okk, ok13 = ou ok11 j0a 4 → (kd (N + 3) = 8 ∧ (∀ (M14 : Mm) (ok15 : Okk), M14 = mz M10 (N + 3) → ok15 = oz ok13 (N + 3) → ((j0a < (N + 4) ∧ (N + 3) = j0a + 4) ∧ (∀ ok17 : Okk, ok17 = ou ok15 j0a 5 → (kd (N + 4) = 8 ∧ (∀ (M18 : Mm) (ok19 : Okk), M18 = mz M14 (N + 4) → ok19 = oz ok17 (N + 4) → ((j0a < (N + 5) ∧ (N + 4) = j0a + 5) ∧ (∀ ok21 : Okk, ok21 = ou ok19 j0a 6 → (kd (N + 5) = 8 ∧ (∀ (M22 : Mm) (ok23 : Okk), M22 = mz M18 (N + 5) → ok23 = oz ok21 (N + 5) → ((j0a < (N + 6) ∧ (N + 5) = j0a + 6) ∧ (∀ ok25 : Okk, ok25 = ou ok23 j0a 7 → (kd (N + 6) = 8 ∧ (∀ (M26 : Mm) (ok27 : Okk), M26 = mz M22 (N + 6) → ok27 = oz ok25 (N + 6) → ((j0a < (N + 7) ∧ (N + 6) = j0a + 7) ∧ (∀ ok29 : Okk, ok29 = ou ok27 j0a 8 → (kd (N + 7) = 8 ∧ (∀ (M30 : Mm) (ok31 : Okk), M30 = mz M26 (N + 7) → ok31 = oz ok29 (N + 7) → ((j0a < (N + 8) ∧ (N + 7) = j0a + 8) ∧ (∀ ok33 : Okk, ok33 = ou ok31 j0a 9 → ((j0a < (N + 8) ∧ ok33 j0a 4 = true) ∧ ((j0a + 3) < (N + 8) ∧ (∀ M34 : Mm, M34 = mu M30 (j0a + 3) 0 (200 : Int32) → ((j0a < (N + 8) ∧ ok33 j0a 5 = true) ∧ ((j0a + 4) < (N + 8) ∧ (∀ M35 : Mm, M35 = mu M34 (j0a + 4) 0 (50 : Int32) → ((j0a < (N + 8) ∧ ok33 j0a 6 = true) ∧ ((j0a + 5) < (N + 8) ∧ (∀ M36 : Mm, M36 = mu M35 (j0a + 5) 0 (-1 : Int32) → ((j0a < (N + 8) ∧ ok33 j0a 6 = true) ∧ ((j0a + 5) < (N + 8) ∧ (∀ M37 : Mm, M37 = mu M36 (j0a + 5) 1 (-1 : Int32) → ((j0a < (N + 8) ∧ ok33 j0a 6 = true) ∧ ((j0a + 5) < (N + 8) ∧ (∀ M38 : Mm, M38 = mu M37 (j0a + 5) 2 (-1 : Int32) → ((j0a < (N + 8) ∧ ok33 j0a 6 = true) ∧ ((j0a + 5) < (N + 8) ∧ (∀ M39 : Mm, M39 = mu M38 (j0a + 5) 3 (-1 : Int32) → ((j0a < (N + 8) ∧ ok33 j0a 6 = true) ∧ ((j0a + 5) < (N + 8) ∧ (∀ M40 : Mm, M40 = mu M39 (j0a + 5) 4 (-1 : Int32) → ((j0a < (N + 8) ∧ ok33 j0a 6 = true) ∧ ((j0a + 5) < (N + 8) ∧ (∀ M41 : Mm, M41 = mu M40 (j0a + 5) 5 (-1 : Int32) → ((j0a < (N + 8) ∧ ok33 j0a 6 = true) ∧ ((j0a + 5) < (N + 8) ∧ (∀ M42 : Mm, M42 = mu M41 (j0a + 5) 6 (-1 : Int32) → ((j0a < (N + 8) ∧ ok33 j0a 6 = true) ∧ ((j0a + 5) < (N + 8) ∧ (∀ M43 : Mm, M43 = mu M42 (j0a + 5) 7 (-1 : Int32) → (Post (N + 8) M43 ok33))))))))))))))))))))))))))))))))))))))))))))))))))))))))))))))))
abbrev rX0_init : Room := ({ frames := 1, cells := 8, slots := 64, locals := 12 } : Room)
def wX1_init (Post : Nat → Mm → Okk → Prop) (N : Nat) (M : Mm) (ok : Okk) (j0a : Nat) : Prop :=
  kd N = 9 ∧ (∀ (M1 : Mm) (ok2 : Okk), M1 = mz M N → ok2 = oz ok N → ((j0a < (N + 1) ∧ N = j0a + 1) ∧ (∀ ok4 : Okk, ok4 = ou ok2 j0a 2 → (kd (N + 1) = 9 ∧ (∀ (M5 : Mm) (ok6 : Okk), M5 = mz M1 (N + 1) → ok6 = oz ok4 (N + 1) → ((j0a < (N + 2) ∧ (N + 1) = j0a + 2) ∧ (∀ ok8 : Okk, ok8 = ou ok6 j0a 3 → (kd (N + 2) = 9 ∧ (∀ (M9 : Mm) (ok10 : Okk), M9 = mz M5 (N + 2) → ok10 = oz ok8 (N + 2) → ((j0a < (N + 3) ∧ (N + 2) = j0a + 3) ∧ (∀ ok12 : Okk, ok12 = ou ok10 j0a 4 → (kd (N + 3) = 9 ∧ (∀ (M13 : Mm) (ok14 : Okk), M13 = mz M9 (N + 3) → ok14 = oz ok12 (N + 3) → ((j0a < (N + 4) ∧ (N + 3) = j0a + 4) ∧ (∀ ok16 : Okk, ok16 = ou ok14 j0a 5 → (kd (N + 4) = 9 ∧ (∀ (M17 : Mm) (ok18 : Okk), M17 = mz M13 (N + 4) → ok18 = oz ok16 (N + 4) → ((j0a < (N + 5) ∧ (N + 4) = j0a + 5) ∧ (∀ ok20 : Okk, ok20 = ou ok18 j0a 6 → (kd (N + 5) = 9 ∧ (∀ (M21 : Mm) (ok22 : Okk), M21 = mz M17 (N + 5) → ok22 = oz ok20 (N + 5) → ((j0a < (N + 6) ∧ (N + 5) = j0a + 6) ∧ (∀ ok24 : Okk, ok24 = ou ok22 j0a 7 → (kd (N + 6) = 9 ∧ (∀ (M25 : Mm) (ok26 : Okk), M25 = mz M21 (N + 6) → ok26 = oz ok24 (N + 6) → ((j0a < (N + 7) ∧ (N + 6) = j0a + 7) ∧ (∀ ok28 : Okk, ok28 = ou ok26 j0a 8 → (Post (N + 7) M25 ok28))))))))))))))))))))))))))))
abbrev rX1_init : Room := ({ frames := 1, cells := 7, slots := 70, locals := 12 } : Room)
def wX5_init (Post : Nat → Mm → Okk → Prop) (N : Nat) (M : Mm) (ok : Okk) (j0a : Nat) : Prop :=
  kd N = 8 ∧ (∀ (M1 : Mm) (ok2 : Okk), M1 = mz M N → ok2 = oz ok N → ((j0a < (N + 1) ∧ N = j0a + 1) ∧ (∀ ok4 : Okk, ok4 = ou ok2 j0a 3 → (kd (N + 1) = 8 ∧ (∀ (M5 : Mm) (ok6 : Okk), M5 = mz M1 (N + 1) → ok6 = oz ok4 (N + 1) → ((j0a < (N + 2) ∧ (N + 1) = j0a + 2) ∧ (∀ ok8 : Okk, ok8 = ou ok6 j0a 4 → (Post (N + 2) M5 ok8))))))))
abbrev rX5_init : Room := ({ frames := 1, cells := 2, slots := 16, locals := 12 } : Room)
def wX4_init (Post : Nat → Mm → Okk → Prop) (N : Nat) (M : Mm) (ok : Okk) (j0a : Nat) : Prop :=
  kd N = 0 ∧ (∀ (M2 : Mm) (ok3 : Okk), M2 = mz M N → ok3 = oz ok N → (N < (N + 1) ∧ (wX0_init (fun N4 M5 ok6 => (j0a < N4 ∧ N = j0a + 1) ∧ (∀ ok8 : Okk, ok8 = ou ok6 j0a 0 → (kd N4 = 1 ∧ (∀ (M10 : Mm) (ok11 : Okk), M10 = mz M5 N4 → ok11 = oz ok8 N4 → (N4 < (N4 + 1) ∧ (wX1_init (fun N12 M13 ok14 => (j0a < N12 ∧ N4 = j0a + 10) ∧ (∀ ok16 : Okk, ok16 = ou ok14 j0a 1 → (kd N12 = 5 ∧ (∀ (M18 : Mm) (ok19 : Okk), M18 = mz M13 N12 → ok19 = oz ok16 N12 → (N12 < (N12 + 1) ∧ (wX5_init (fun N20 M21 ok22 => (j0a < N20 ∧ N12 = j0a + 18) ∧ (∀ ok24 : Okk, ok24 = ou ok22 j0a 2 → (kd N20 = 8 ∧ (∀ (M25 : Mm) (ok26 : Okk), M25 = mz M21 N20 → ok26 = oz ok24 N20 → ((j0a < (N20 + 1) ∧ N20 = j0a + 21) ∧ (∀ ok28 : Okk, ok28 = ou ok26 j0a 8 → (kd (N20 + 1) = 8 ∧ (∀ (M29 : Mm) (ok30 : Okk), M29 = mz M25 (N20 + 1) → ok30 = oz ok28 (N20 + 1) → ((j0a < (N20 + 2) ∧ (N20 + 1) = j0a + 22) ∧ (∀ ok32 : Okk, ok32 = ou ok30 j0a 9 → (Post (N20 + 2) M29 ok32))))))))))) (N12 + 1) M18 ok19 N12)))))) (N4 + 1) M10 ok11 N4)))))) (N + 1) M2 ok3 N)))
abbrev rX4_init : Room := ({ frames := 2, cells := 22, slots := 190, locals := 33 } : Room)
def wX2_init (Post : Nat → Mm → Okk → Prop) (N : Nat) (M : Mm) (ok : Okk) (j0a : Nat) : Prop :=
  kd N = 11 ∧ (∀ (M1 : Mm) (ok2 : Okk), M1 = mz M N → ok2 = oz ok N → ((j0a < (N + 1) ∧ N = j0a + 1) ∧ (∀ ok4 : Okk, ok4 = ou ok2 j0a 1 → ((j0a < (N + 1) ∧ ok4 j0a 1 = true) ∧ (kd (N + 1) = 4 ∧ (∀ (M6 : Mm) (ok7 : Okk), M6 = mz M1 (N + 1) → ok7 = oz ok4 (N + 1) → ((N + 1) < (N + 2) ∧ (wX4_init (fun N8 M9 ok10 => ((j0a + 1) < N8 ∧ (N + 1) < N8 ∧ (N + 1) < 2147483648) ∧ (∀ (M12 : Mm) (ok13 : Okk), M12 = mu M9 (j0a + 1) 0 (nI (N + 1)) → ok13 = ou ok10 (j0a + 1) 0 → ((j0a < N8 ∧ ok13 j0a 1 = true) ∧ (kd N8 = 4 ∧ (∀ (M15 : Mm) (ok16 : Okk), M15 = mz M12 N8 → ok16 = oz ok13 N8 → (N8 < (N8 + 1) ∧ (wX4_init (fun N17 M18 ok19 => ((j0a + 1) < N17 ∧ N8 < N17 ∧ N8 < 2147483648) ∧ (∀ (M21 : Mm) (ok22 : Okk), M21 = mu M18 (j0a + 1) 1 (nI N8) → ok22 = ou ok19 (j0a + 1) 1 → ((j0a < N17 ∧ ok22 j0a 1 = true) ∧ (kd N17 = 4 ∧ (∀ (M24 : Mm) (ok25 : Okk), M24 = mz M21 N17 → ok25 = oz ok22 N17 → (N17 < (N17 + 1) ∧ (wX4_init (fun N26 M27 ok28 => ((j0a + 1) < N26 ∧ N17 < N26 ∧ N17 < 2147483648) ∧ (∀ (M30 : Mm) (ok31 : Okk), M30 = mu M27 (j0a + 1) 2 (nI N17) → ok31 = ou ok28 (j0a + 1) 2 → ((j0a < N26 ∧ ok31 j0a 1 = true) ∧ (kd N26 = 4 ∧ (∀ (M33 : Mm) (ok34 : Okk), M33 = mz M30 N26 → ok34 = oz ok31 N26 → (N26 < (N26 + 1) ∧ (wX4_init (fun N35 M36 ok37 => ((j0a + 1) < N35 ∧ N26 < N35 ∧ N26 < 2147483648) ∧ (∀ (M39 : Mm) (ok40 : Okk), M39 = mu M36 (j0a + 1) 3 (nI N26) → ok40 = ou ok37 (j0a + 1) 3 → (Post N35 M39 ok40))) (N26 + 1) M33 ok34 N26))))))) (N17 + 1) M24 ok25 N17))))))) (N8 + 1) M15 ok16 N8))))))) (N + 2) M6 ok7 (N + 1)))))))))
abbrev rX2_init : Room := ({ frames := 3, cells := 93, slots := 808, locals := 53 } : Room)
def wX3_init (Post : Nat → Mm → Okk → Prop) (N : Nat) (M : Mm) (ok : Okk) (j0a : Nat) : Prop :=
  kd N = 10 ∧ (∀ (M1 : Mm) (ok2 : Okk), M1 = mz M N → ok2 = oz ok N → ((j0a < (N + 1) ∧ N = j0a + 1) ∧ (∀ ok4 : Okk, ok4 = ou ok2 j0a 1 → (Post (N + 1) M1 ok4))))
abbrev rX3_init : Room := ({ frames := 1, cells := 1, slots := 60, locals := 12 } : Room)
def wX6_init (Post : Nat → Mm → Okk → Prop) (N : Nat) (M : Mm) (ok : Okk) (j0a : Nat) : Prop :=
  kd N = 4 ∧ (∀ (M2 : Mm) (ok3 : Okk), M2 = mz M N → ok3 = oz ok N → (N < (N + 1) ∧ (wX4_init (fun N4 M5 ok6 => (j0a < N4 ∧ N = j0a + 1) ∧ (∀ ok8 : Okk, ok8 = ou ok6 j0a 0 → (kd N4 = 4 ∧ (∀ (M10 : Mm) (ok11 : Okk), M10 = mz M5 N4 → ok11 = oz ok8 N4 → (N4 < (N4 + 1) ∧ (wX4_init (fun N12 M13 ok14 => (j0a < N12 ∧ N4 = j0a + 24) ∧ (∀ ok16 : Okk, ok16 = ou ok14 j0a 1 → (kd N12 = 2 ∧ (∀ (M18 : Mm) (ok19 : Okk), M18 = mz M13 N12 → ok19 = oz ok16 N12 → (N12 < (N12 + 1) ∧ (wX2_init (fun N20 M21 ok22 => (j0a < N20 ∧ N12 = j0a + 47) ∧ (∀ ok24 : Okk, ok24 = ou ok22 j0a 2 → (kd N20 = 3 ∧ (∀ (M26 : Mm) (ok27 : Okk), M26 = mz M21 N20 → ok27 = oz ok24 N20 → (N20 < (N20 + 1) ∧ (wX3_init (fun N28 M29 ok30 => (j0a < N28 ∧ N20 = j0a + 141) ∧ (∀ ok32 : Okk, ok32 = ou ok30 j0a 3 → (Post N28 M29 ok32))) (N20 + 1) M26 ok27 N20)))))) (N12 + 1) M18 ok19 N12)))))) (N4 + 1) M10 ok11 N4)))))) (N + 1) M2 ok3 N)))
abbrev rX6_init : Room := ({ frames := 4, cells := 142, slots := 1281, locals := 74 } : Room)
set_option maxHeartbeats 4000000 in
set_option maxRecDepth 100000 in
theorem mX0_init (l : Launch) (G : Gp) (j0a N : Nat) (M : Mm) (ok : Okk) (Post : Nat → Mm → Okk → Prop) (hk_j0a : kd j0a = 0) (hj_j0a : j0a < N) (h : wX0_init Post N M ok j0a) : CtN l yX0_init wsX0_init rX0_init G j0a N M ok Post 8 64 := by
  refine Met.ofW (cc := cX0_init) (maxL := 2) (ret := none) (by decide) rfl ?_
  intro p e s m args below meth c s₁ B hml hv
  obtain ⟨rfl, hK, hR⟩ := hv
  have hx := B.exec
  have hb := B.bytes
  have hr := B.returns
  have hlocks := B.notSynchronized
  have hin : meth.name = "<init>" := (name_of_methodNamed B.named B.method).1
  have hts0 := atoms_spec (ws := wsX0_init) B.pre
  have hts : ∀ w ∈ wsL_law, w.before _ s = true := fun w hw => hts0 w (List.mem_cons_of_mem _ hw)
  have hown : s.vm.findClass RX0 = some m.cls := findClass_of_methodNamed B.named
  have hS : va_S (Fr0 G) s.heap s.heap [] := va_S.rf
  have hl := lv_entry ([.ref (G.2.1 + j0a)]) (n := 2) (Nat.le_of_ble_eq_true rfl)
  rw [lg_entry_eq]
  generalize (lg_sl ([.ref (G.2.1 + j0a)]) ++ List.replicate (2 - (lg_sl ([.ref (G.2.1 + j0a)])).length) Slot.unset).toArray = ls at hl ⊢
  have hl : lv_has ls 2 [(0, .ref (G.2.1 + j0a))] := hl
  unfold wX0_init at h
  refine lv_aload_n hx hb dX0_init_0 rfl (lv_at hl 0 rfl) ?_
  refine W.objInit hx hb hown (hts _ q_2_19) (hts _ q_1_7) (hts _ q_1_8) rfl (by rw [hml]; exact hl.1) rfl dX0_init_1 (Nat.le_of_ble_eq_true rfl) (Nat.le_of_ble_eq_true rfl) ?_
  refine W.eq (g2 := F0 m 4 ls []) rfl ?_
  refine lv_aload_n hx hb dX0_init_4 rfl (lv_at hl 0 rfl) ?_
  refine lv_iconst (v := (1 : Int32)) hx hb dX0_init_5 k_iconst_1 ?_
  refine rn_puti hx hb hts inlX0 tyX0 tyX0_ok nmX0 hown hK hR hS h.1 hk_j0a cl_0 0 fq_0_0 q_2_20 rfl rfl rfl dX0_init_6 (fun M1 eM1 H locs hR hS => ?_)
  replace h := h.2
  replace h := h M1 eM1
  refine lv_aload_n hx hb dX0_init_9 rfl (lv_at hl 0 rfl) ?_
  refine lv_bipush (v := (8 : Int32)) hx hb dX0_init_10 k_bipush_8 ?_
  have hq4 := h.1
  replace h := h.2
  refine rn_int hx hb hts q_2_13 hK hR hS hq4 ac_8 ⟨by decide, by decide⟩ (Nat.le_of_ble_eq_true rfl) (Nat.le_of_ble_eq_true rfl) (Nat.le_of_ble_eq_true rfl) dX0_init_12 (fun M2 ok3 eM2 eok3 H hR hS => ?_)
  replace h := h M2 ok3 eM2 eok3
  refine rn_putr hx hb hts inlX0 tyX0 tyX0_ok nmX0 hown hin hK hR hS h.1.1 hk_j0a cl_0 2 1 fq_0_2 h.1.2 q_2_21 rfl rfl rfl (fun _ => ⟨rfl, rfl⟩) dX0_init_14 (fun ok5 eok5 H locs hR hS => ?_)
  replace h := h.2
  replace h := h ok5 eok5
  refine lv_aload_n hx hb dX0_init_17 rfl (lv_at hl 0 rfl) ?_
  refine lv_bipush (v := (8 : Int32)) hx hb dX0_init_18 k_bipush_8 ?_
  have hq8 := h.1
  replace h := h.2
  refine rn_int hx hb hts q_2_13 hK hR hS hq8 ac_8 ⟨by decide, by decide⟩ (Nat.le_of_ble_eq_true rfl) (Nat.le_of_ble_eq_true rfl) (Nat.le_of_ble_eq_true rfl) dX0_init_20 (fun M6 ok7 eM6 eok7 H hR hS => ?_)
  replace h := h M6 ok7 eM6 eok7
  refine rn_putr hx hb hts inlX0 tyX0 tyX0_ok nmX0 hown hin hK hR hS h.1.1 hk_j0a cl_0 3 2 fq_0_3 h.1.2 q_2_22 rfl rfl rfl (fun _ => ⟨rfl, rfl⟩) dX0_init_22 (fun ok9 eok9 H locs hR hS => ?_)
  replace h := h.2
  replace h := h ok9 eok9
  refine lv_aload_n hx hb dX0_init_25 rfl (lv_at hl 0 rfl) ?_
  refine lv_bipush (v := (8 : Int32)) hx hb dX0_init_26 k_bipush_8 ?_
  have hq12 := h.1
  replace h := h.2
  refine rn_int hx hb hts q_2_13 hK hR hS hq12 ac_8 ⟨by decide, by decide⟩ (Nat.le_of_ble_eq_true rfl) (Nat.le_of_ble_eq_true rfl) (Nat.le_of_ble_eq_true rfl) dX0_init_28 (fun M10 ok11 eM10 eok11 H hR hS => ?_)
  replace h := h M10 ok11 eM10 eok11
  refine rn_putr hx hb hts inlX0 tyX0 tyX0_ok nmX0 hown hin hK hR hS h.1.1 hk_j0a cl_0 4 3 fq_0_4 h.1.2 q_2_23 rfl rfl rfl (fun _ => ⟨rfl, rfl⟩) dX0_init_30 (fun ok13 eok13 H locs hR hS => ?_)
  replace h := h.2
  replace h := h ok13 eok13
  refine lv_aload_n hx hb dX0_init_33 rfl (lv_at hl 0 rfl) ?_
  refine lv_bipush (v := (8 : Int32)) hx hb dX0_init_34 k_bipush_8 ?_
  have hq16 := h.1
  replace h := h.2
  refine rn_int hx hb hts q_2_13 hK hR hS hq16 ac_8 ⟨by decide, by decide⟩ (Nat.le_of_ble_eq_true rfl) (Nat.le_of_ble_eq_true rfl) (Nat.le_of_ble_eq_true rfl) dX0_init_36 (fun M14 ok15 eM14 eok15 H hR hS => ?_)
  replace h := h M14 ok15 eM14 eok15
  refine rn_putr hx hb hts inlX0 tyX0 tyX0_ok nmX0 hown hin hK hR hS h.1.1 hk_j0a cl_0 5 4 fq_0_5 h.1.2 q_3_0 rfl rfl rfl (fun _ => ⟨rfl, rfl⟩) dX0_init_38 (fun ok17 eok17 H locs hR hS => ?_)
  replace h := h.2
  replace h := h ok17 eok17
  refine lv_aload_n hx hb dX0_init_41 rfl (lv_at hl 0 rfl) ?_
  refine lv_bipush (v := (8 : Int32)) hx hb dX0_init_42 k_bipush_8 ?_
  have hq20 := h.1
  replace h := h.2
  refine rn_int hx hb hts q_2_13 hK hR hS hq20 ac_8 ⟨by decide, by decide⟩ (Nat.le_of_ble_eq_true rfl) (Nat.le_of_ble_eq_true rfl) (Nat.le_of_ble_eq_true rfl) dX0_init_44 (fun M18 ok19 eM18 eok19 H hR hS => ?_)
  replace h := h M18 ok19 eM18 eok19
  refine rn_putr hx hb hts inlX0 tyX0 tyX0_ok nmX0 hown hin hK hR hS h.1.1 hk_j0a cl_0 6 5 fq_0_6 h.1.2 q_3_1 rfl rfl rfl (fun _ => ⟨rfl, rfl⟩) dX0_init_46 (fun ok21 eok21 H locs hR hS => ?_)
  replace h := h.2
  replace h := h ok21 eok21
  refine lv_aload_n hx hb dX0_init_49 rfl (lv_at hl 0 rfl) ?_
  refine lv_bipush (v := (8 : Int32)) hx hb dX0_init_50 k_bipush_8 ?_
  have hq24 := h.1
  replace h := h.2
  refine rn_int hx hb hts q_2_13 hK hR hS hq24 ac_8 ⟨by decide, by decide⟩ (Nat.le_of_ble_eq_true rfl) (Nat.le_of_ble_eq_true rfl) (Nat.le_of_ble_eq_true rfl) dX0_init_52 (fun M22 ok23 eM22 eok23 H hR hS => ?_)
  replace h := h M22 ok23 eM22 eok23
  refine rn_putr hx hb hts inlX0 tyX0 tyX0_ok nmX0 hown hin hK hR hS h.1.1 hk_j0a cl_0 7 6 fq_0_7 h.1.2 q_3_2 rfl rfl rfl (fun _ => ⟨rfl, rfl⟩) dX0_init_54 (fun ok25 eok25 H locs hR hS => ?_)
  replace h := h.2
  replace h := h ok25 eok25
  refine lv_aload_n hx hb dX0_init_57 rfl (lv_at hl 0 rfl) ?_
  refine lv_bipush (v := (8 : Int32)) hx hb dX0_init_58 k_bipush_8 ?_
  have hq28 := h.1
  replace h := h.2
  refine rn_int hx hb hts q_2_13 hK hR hS hq28 ac_8 ⟨by decide, by decide⟩ (Nat.le_of_ble_eq_true rfl) (Nat.le_of_ble_eq_true rfl) (Nat.le_of_ble_eq_true rfl) dX0_init_60 (fun M26 ok27 eM26 eok27 H hR hS => ?_)
  replace h := h M26 ok27 eM26 eok27
  refine rn_putr hx hb hts inlX0 tyX0 tyX0_ok nmX0 hown hin hK hR hS h.1.1 hk_j0a cl_0 8 7 fq_0_8 h.1.2 q_3_3 rfl rfl rfl (fun _ => ⟨rfl, rfl⟩) dX0_init_62 (fun ok29 eok29 H locs hR hS => ?_)
  replace h := h.2
  replace h := h ok29 eok29
  refine lv_aload_n hx hb dX0_init_65 rfl (lv_at hl 0 rfl) ?_
  refine lv_bipush (v := (8 : Int32)) hx hb dX0_init_66 k_bipush_8 ?_
  have hq32 := h.1
  replace h := h.2
  refine rn_int hx hb hts q_2_13 hK hR hS hq32 ac_8 ⟨by decide, by decide⟩ (Nat.le_of_ble_eq_true rfl) (Nat.le_of_ble_eq_true rfl) (Nat.le_of_ble_eq_true rfl) dX0_init_68 (fun M30 ok31 eM30 eok31 H hR hS => ?_)
  replace h := h M30 ok31 eM30 eok31
  refine rn_putr hx hb hts inlX0 tyX0 tyX0_ok nmX0 hown hin hK hR hS h.1.1 hk_j0a cl_0 9 8 fq_0_9 h.1.2 q_3_4 rfl rfl rfl (fun _ => ⟨rfl, rfl⟩) dX0_init_70 (fun ok33 eok33 H locs hR hS => ?_)
  replace h := h.2
  replace h := h ok33 eok33
  refine lv_aload_n hx hb dX0_init_73 rfl (lv_at hl 0 rfl) ?_
  refine rn_getr hx hb hts inlX0 hown hK hR h.1.1 hk_j0a cl_0 4 3 fq_0_4 h.1.2 q_2_23 rfl dX0_init_74 ?_
  replace h := h.2
  refine lv_iconst (v := (0 : Int32)) hx hb dX0_init_77 k_iconst_0 ?_
  refine lv_sipush (v := (200 : Int32)) hx hb dX0_init_78 k_sipush_200 ?_
  refine rn_iast hx hb hK hR hS h.1 (ky_0_4 hk_j0a) ac_8 0 ix_0 vi_0_8 dX0_init_81 (fun M34 eM34 H locs hR hS => ?_)
  replace h := h.2
  replace h := h M34 eM34
  refine lv_aload_n hx hb dX0_init_82 rfl (lv_at hl 0 rfl) ?_
  refine rn_getr hx hb hts inlX0 hown hK hR h.1.1 hk_j0a cl_0 5 4 fq_0_5 h.1.2 q_3_0 rfl dX0_init_83 ?_
  replace h := h.2
  refine lv_iconst (v := (0 : Int32)) hx hb dX0_init_86 k_iconst_0 ?_
  refine lv_bipush (v := (50 : Int32)) hx hb dX0_init_87 k_bipush_50 ?_
  refine rn_iast hx hb hK hR hS h.1 (ky_0_5 hk_j0a) ac_8 0 ix_0 vi_0_8 dX0_init_89 (fun M35 eM35 H locs hR hS => ?_)
  replace h := h.2
  replace h := h M35 eM35
  refine lv_iconst (v := (0 : Int32)) hx hb dX0_init_90 k_iconst_0 ?_
  refine lv_istore_n (lv' := [(1, .int (0 : Int32)), (0, .ref (G.2.1 + j0a))]) hx hb dX0_init_91 rfl hl (by decide) rfl (fun ls hl => ?_)
  refine lv_iload_n hx hb dX0_init_92 rfl (lv_at hl 0 rfl) ?_
  refine lv_bipush (v := (8 : Int32)) hx hb dX0_init_93 k_bipush_8 ?_
  refine lv_icmp_ge (tgt := 111) hx hb dX0_init_95 (by decide) (fun c => absurd c (by decide)) (fun _ => ?_)
  refine lv_aload_n hx hb dX0_init_98 rfl (lv_at hl 1 rfl) ?_
  refine rn_getr hx hb hts inlX0 hown hK hR h.1.1 hk_j0a cl_0 6 5 fq_0_6 h.1.2 q_3_1 rfl dX0_init_99 ?_
  replace h := h.2
  refine lv_iload_n hx hb dX0_init_102 rfl (lv_at hl 0 rfl) ?_
  refine lv_iconst (v := (-1 : Int32)) hx hb dX0_init_103 k_iconst_m1 ?_
  refine rn_iast hx hb hK hR hS h.1 (ky_0_6 hk_j0a) ac_8 0 ix_0 vi_0_8 dX0_init_104 (fun M36 eM36 H locs hR hS => ?_)
  replace h := h.2
  replace h := h M36 eM36
  refine lv_iinc (v := (1 : Int32)) (lv' := [(1, .int (1 : Int32)), (0, .ref (G.2.1 + j0a))]) hx hb dX0_init_105 hl (k := 0) rfl (by decide) (by decide) rfl (fun ls hl => ?_)
  refine lv_goto (tgt := 92) hx hb dX0_init_108 (by decide) ?_
  refine lv_iload_n hx hb dX0_init_92 rfl (lv_at hl 0 rfl) ?_
  refine lv_bipush (v := (8 : Int32)) hx hb dX0_init_93 k_bipush_8 ?_
  refine lv_icmp_ge (tgt := 111) hx hb dX0_init_95 (by decide) (fun c => absurd c (by decide)) (fun _ => ?_)
  refine lv_aload_n hx hb dX0_init_98 rfl (lv_at hl 1 rfl) ?_
  refine rn_getr hx hb hts inlX0 hown hK hR h.1.1 hk_j0a cl_0 6 5 fq_0_6 h.1.2 q_3_1 rfl dX0_init_99 ?_
  replace h := h.2
  refine lv_iload_n hx hb dX0_init_102 rfl (lv_at hl 0 rfl) ?_
  refine lv_iconst (v := (-1 : Int32)) hx hb dX0_init_103 k_iconst_m1 ?_
  refine rn_iast hx hb hK hR hS h.1 (ky_0_6 hk_j0a) ac_8 1 ix_1 vi_1_8 dX0_init_104 (fun M37 eM37 H locs hR hS => ?_)
  replace h := h.2
  replace h := h M37 eM37
  refine lv_iinc (v := (2 : Int32)) (lv' := [(1, .int (2 : Int32)), (0, .ref (G.2.1 + j0a))]) hx hb dX0_init_105 hl (k := 0) rfl (by decide) (by decide) rfl (fun ls hl => ?_)
  refine lv_goto (tgt := 92) hx hb dX0_init_108 (by decide) ?_
  refine lv_iload_n hx hb dX0_init_92 rfl (lv_at hl 0 rfl) ?_
  refine lv_bipush (v := (8 : Int32)) hx hb dX0_init_93 k_bipush_8 ?_
  refine lv_icmp_ge (tgt := 111) hx hb dX0_init_95 (by decide) (fun c => absurd c (by decide)) (fun _ => ?_)
  refine lv_aload_n hx hb dX0_init_98 rfl (lv_at hl 1 rfl) ?_
  refine rn_getr hx hb hts inlX0 hown hK hR h.1.1 hk_j0a cl_0 6 5 fq_0_6 h.1.2 q_3_1 rfl dX0_init_99 ?_
  replace h := h.2
  refine lv_iload_n hx hb dX0_init_102 rfl (lv_at hl 0 rfl) ?_
  refine lv_iconst (v := (-1 : Int32)) hx hb dX0_init_103 k_iconst_m1 ?_
  refine rn_iast hx hb hK hR hS h.1 (ky_0_6 hk_j0a) ac_8 2 ix_2 vi_2_8 dX0_init_104 (fun M38 eM38 H locs hR hS => ?_)
  replace h := h.2
  replace h := h M38 eM38
  refine lv_iinc (v := (3 : Int32)) (lv' := [(1, .int (3 : Int32)), (0, .ref (G.2.1 + j0a))]) hx hb dX0_init_105 hl (k := 0) rfl (by decide) (by decide) rfl (fun ls hl => ?_)
  refine lv_goto (tgt := 92) hx hb dX0_init_108 (by decide) ?_
  refine lv_iload_n hx hb dX0_init_92 rfl (lv_at hl 0 rfl) ?_
  refine lv_bipush (v := (8 : Int32)) hx hb dX0_init_93 k_bipush_8 ?_
  refine lv_icmp_ge (tgt := 111) hx hb dX0_init_95 (by decide) (fun c => absurd c (by decide)) (fun _ => ?_)
  refine lv_aload_n hx hb dX0_init_98 rfl (lv_at hl 1 rfl) ?_
  refine rn_getr hx hb hts inlX0 hown hK hR h.1.1 hk_j0a cl_0 6 5 fq_0_6 h.1.2 q_3_1 rfl dX0_init_99 ?_
  replace h := h.2
  refine lv_iload_n hx hb dX0_init_102 rfl (lv_at hl 0 rfl) ?_
  refine lv_iconst (v := (-1 : Int32)) hx hb dX0_init_103 k_iconst_m1 ?_
  refine rn_iast hx hb hK hR hS h.1 (ky_0_6 hk_j0a) ac_8 3 ix_3 vi_3_8 dX0_init_104 (fun M39 eM39 H locs hR hS => ?_)
  replace h := h.2
  replace h := h M39 eM39
  refine lv_iinc (v := (4 : Int32)) (lv' := [(1, .int (4 : Int32)), (0, .ref (G.2.1 + j0a))]) hx hb dX0_init_105 hl (k := 0) rfl (by decide) (by decide) rfl (fun ls hl => ?_)
  refine lv_goto (tgt := 92) hx hb dX0_init_108 (by decide) ?_
  refine lv_iload_n hx hb dX0_init_92 rfl (lv_at hl 0 rfl) ?_
  refine lv_bipush (v := (8 : Int32)) hx hb dX0_init_93 k_bipush_8 ?_
  refine lv_icmp_ge (tgt := 111) hx hb dX0_init_95 (by decide) (fun c => absurd c (by decide)) (fun _ => ?_)
  refine lv_aload_n hx hb dX0_init_98 rfl (lv_at hl 1 rfl) ?_
  refine rn_getr hx hb hts inlX0 hown hK hR h.1.1 hk_j0a cl_0 6 5 fq_0_6 h.1.2 q_3_1 rfl dX0_init_99 ?_
  replace h := h.2
  refine lv_iload_n hx hb dX0_init_102 rfl (lv_at hl 0 rfl) ?_
  refine lv_iconst (v := (-1 : Int32)) hx hb dX0_init_103 k_iconst_m1 ?_
  refine rn_iast hx hb hK hR hS h.1 (ky_0_6 hk_j0a) ac_8 4 ix_4 vi_4_8 dX0_init_104 (fun M40 eM40 H locs hR hS => ?_)
  replace h := h.2
  replace h := h M40 eM40
  refine lv_iinc (v := (5 : Int32)) (lv' := [(1, .int (5 : Int32)), (0, .ref (G.2.1 + j0a))]) hx hb dX0_init_105 hl (k := 0) rfl (by decide) (by decide) rfl (fun ls hl => ?_)
  refine lv_goto (tgt := 92) hx hb dX0_init_108 (by decide) ?_
  refine lv_iload_n hx hb dX0_init_92 rfl (lv_at hl 0 rfl) ?_
  refine lv_bipush (v := (8 : Int32)) hx hb dX0_init_93 k_bipush_8 ?_
  refine lv_icmp_ge (tgt := 111) hx hb dX0_init_95 (by decide) (fun c => absurd c (by decide)) (fun _ => ?_)
  refine lv_aload_n hx hb dX0_init_98 rfl (lv_at hl 1 rfl) ?_
  refine rn_getr hx hb hts inlX0 hown hK hR h.1.1 hk_j0a cl_0 6 5 fq_0_6 h.1.2 q_3_1 rfl dX0_init_99 ?_
  replace h := h.2
  refine lv_iload_n hx hb dX0_init_102 rfl (lv_at hl 0 rfl) ?_
  refine lv_iconst (v := (-1 : Int32)) hx hb dX0_init_103 k_iconst_m1 ?_
  refine rn_iast hx hb hK hR hS h.1 (ky_0_6 hk_j0a) ac_8 5 ix_5 vi_5_8 dX0_init_104 (fun M41 eM41 H locs hR hS => ?_)
  replace h := h.2
  replace h := h M41 eM41
  refine lv_iinc (v := (6 : Int32)) (lv' := [(1, .int (6 : Int32)), (0, .ref (G.2.1 + j0a))]) hx hb dX0_init_105 hl (k := 0) rfl (by decide) (by decide) rfl (fun ls hl => ?_)
  refine lv_goto (tgt := 92) hx hb dX0_init_108 (by decide) ?_
  refine lv_iload_n hx hb dX0_init_92 rfl (lv_at hl 0 rfl) ?_
  refine lv_bipush (v := (8 : Int32)) hx hb dX0_init_93 k_bipush_8 ?_
  refine lv_icmp_ge (tgt := 111) hx hb dX0_init_95 (by decide) (fun c => absurd c (by decide)) (fun _ => ?_)
  refine lv_aload_n hx hb dX0_init_98 rfl (lv_at hl 1 rfl) ?_
  refine rn_getr hx hb hts inlX0 hown hK hR h.1.1 hk_j0a cl_0 6 5 fq_0_6 h.1.2 q_3_1 rfl dX0_init_99 ?_
  replace h := h.2
  refine lv_iload_n hx hb dX0_init_102 rfl (lv_at hl 0 rfl) ?_
  refine lv_iconst (v := (-1 : Int32)) hx hb dX0_init_103 k_iconst_m1 ?_
  refine rn_iast hx hb hK hR hS h.1 (ky_0_6 hk_j0a) ac_8 6 ix_6 vi_6_8 dX0_init_104 (fun M42 eM42 H locs hR hS => ?_)
  replace h := h.2
  replace h := h M42 eM42
  refine lv_iinc (v := (7 : Int32)) (lv' := [(1, .int (7 : Int32)), (0, .ref (G.2.1 + j0a))]) hx hb dX0_init_105 hl (k := 0) rfl (by decide) (by decide) rfl (fun ls hl => ?_)
  refine lv_goto (tgt := 92) hx hb dX0_init_108 (by decide) ?_
  refine lv_iload_n hx hb dX0_init_92 rfl (lv_at hl 0 rfl) ?_
  refine lv_bipush (v := (8 : Int32)) hx hb dX0_init_93 k_bipush_8 ?_
  refine lv_icmp_ge (tgt := 111) hx hb dX0_init_95 (by decide) (fun c => absurd c (by decide)) (fun _ => ?_)
  refine lv_aload_n hx hb dX0_init_98 rfl (lv_at hl 1 rfl) ?_
  refine rn_getr hx hb hts inlX0 hown hK hR h.1.1 hk_j0a cl_0 6 5 fq_0_6 h.1.2 q_3_1 rfl dX0_init_99 ?_
  replace h := h.2
  refine lv_iload_n hx hb dX0_init_102 rfl (lv_at hl 0 rfl) ?_
  refine lv_iconst (v := (-1 : Int32)) hx hb dX0_init_103 k_iconst_m1 ?_
  refine rn_iast hx hb hK hR hS h.1 (ky_0_6 hk_j0a) ac_8 7 ix_7 vi_7_8 dX0_init_104 (fun M43 eM43 H locs hR hS => ?_)
  replace h := h.2
  replace h := h M43 eM43
  refine lv_iinc (v := (8 : Int32)) (lv' := [(1, .int (8 : Int32)), (0, .ref (G.2.1 + j0a))]) hx hb dX0_init_105 hl (k := 0) rfl (by decide) (by decide) rfl (fun ls hl => ?_)
  refine lv_goto (tgt := 92) hx hb dX0_init_108 (by decide) ?_
  refine lv_iload_n hx hb dX0_init_92 rfl (lv_at hl 0 rfl) ?_
  refine lv_bipush (v := (8 : Int32)) hx hb dX0_init_93 k_bipush_8 ?_
  refine lv_icmp_ge (tgt := 111) hx hb dX0_init_95 (by decide) (fun _ => ?_) (fun c => absurd (by decide) c)
  exact re_n hx hb hr hlocks hR hS h dX0_init_111
set_option maxHeartbeats 4000000 in
set_option maxRecDepth 100000 in
theorem mX1_init (l : Launch) (G : Gp) (j0a N : Nat) (M : Mm) (ok : Okk) (Post : Nat → Mm → Okk → Prop) (hk_j0a : kd j0a = 1) (hj_j0a : j0a < N) (h : wX1_init Post N M ok j0a) : CtN l yX1_init wsX1_init rX1_init G j0a N M ok Post 7 70 := by
  refine Met.ofW (cc := cX1_init) (maxL := 1) (ret := none) (by decide) rfl ?_
  intro p e s m args below meth c s₁ B hml hv
  obtain ⟨rfl, hK, hR⟩ := hv
  have hx := B.exec
  have hb := B.bytes
  have hr := B.returns
  have hlocks := B.notSynchronized
  have hin : meth.name = "<init>" := (name_of_methodNamed B.named B.method).1
  have hts0 := atoms_spec (ws := wsX1_init) B.pre
  have hts : ∀ w ∈ wsL_law, w.before _ s = true := fun w hw => hts0 w (List.mem_cons_of_mem _ hw)
  have hown : s.vm.findClass RX1 = some m.cls := findClass_of_methodNamed B.named
  have hS : va_S (Fr0 G) s.heap s.heap [] := va_S.rf
  have hl := lv_entry ([.ref (G.2.1 + j0a)]) (n := 1) (Nat.le_of_ble_eq_true rfl)
  rw [lg_entry_eq]
  generalize (lg_sl ([.ref (G.2.1 + j0a)]) ++ List.replicate (1 - (lg_sl ([.ref (G.2.1 + j0a)])).length) Slot.unset).toArray = ls at hl ⊢
  have hl : lv_has ls 1 [(0, .ref (G.2.1 + j0a))] := hl
  unfold wX1_init at h
  refine lv_aload_n hx hb dX1_init_0 rfl (lv_at hl 0 rfl) ?_
  refine W.objInit hx hb hown (hts _ q_3_7) (hts _ q_1_7) (hts _ q_1_8) rfl (by rw [hml]; exact hl.1) rfl dX1_init_1 (Nat.le_of_ble_eq_true rfl) (Nat.le_of_ble_eq_true rfl) ?_
  refine W.eq (g2 := F0 m 4 ls []) rfl ?_
  refine lv_aload_n hx hb dX1_init_4 rfl (lv_at hl 0 rfl) ?_
  refine lv_bipush (v := (10 : Int32)) hx hb dX1_init_5 k_bipush_10 ?_
  have hq3 := h.1
  replace h := h.2
  refine rn_int hx hb hts q_2_13 hK hR hS hq3 ac_9 ⟨by decide, by decide⟩ (Nat.le_of_ble_eq_true rfl) (Nat.le_of_ble_eq_true rfl) (Nat.le_of_ble_eq_true rfl) dX1_init_7 (fun M1 ok2 eM1 eok2 H hR hS => ?_)
  replace h := h M1 ok2 eM1 eok2
  refine rn_putr hx hb hts inlX1 tyX1 tyX1_ok nmX1 hown hin hK hR hS h.1.1 hk_j0a cl_1 2 1 fq_1_2 h.1.2 q_3_8 rfl rfl rfl (fun _ => ⟨rfl, rfl⟩) dX1_init_9 (fun ok4 eok4 H locs hR hS => ?_)
  replace h := h.2
  replace h := h ok4 eok4
  refine lv_aload_n hx hb dX1_init_12 rfl (lv_at hl 0 rfl) ?_
  refine lv_bipush (v := (10 : Int32)) hx hb dX1_init_13 k_bipush_10 ?_
  have hq7 := h.1
  replace h := h.2
  refine rn_int hx hb hts q_2_13 hK hR hS hq7 ac_9 ⟨by decide, by decide⟩ (Nat.le_of_ble_eq_true rfl) (Nat.le_of_ble_eq_true rfl) (Nat.le_of_ble_eq_true rfl) dX1_init_15 (fun M5 ok6 eM5 eok6 H hR hS => ?_)
  replace h := h M5 ok6 eM5 eok6
  refine rn_putr hx hb hts inlX1 tyX1 tyX1_ok nmX1 hown hin hK hR hS h.1.1 hk_j0a cl_1 3 2 fq_1_3 h.1.2 q_3_9 rfl rfl rfl (fun _ => ⟨rfl, rfl⟩) dX1_init_17 (fun ok8 eok8 H locs hR hS => ?_)
  replace h := h.2
  replace h := h ok8 eok8
  refine lv_aload_n hx hb dX1_init_20 rfl (lv_at hl 0 rfl) ?_
  refine lv_bipush (v := (10 : Int32)) hx hb dX1_init_21 k_bipush_10 ?_
  have hq11 := h.1
  replace h := h.2
  refine rn_int hx hb hts q_2_13 hK hR hS hq11 ac_9 ⟨by decide, by decide⟩ (Nat.le_of_ble_eq_true rfl) (Nat.le_of_ble_eq_true rfl) (Nat.le_of_ble_eq_true rfl) dX1_init_23 (fun M9 ok10 eM9 eok10 H hR hS => ?_)
  replace h := h M9 ok10 eM9 eok10
  refine rn_putr hx hb hts inlX1 tyX1 tyX1_ok nmX1 hown hin hK hR hS h.1.1 hk_j0a cl_1 4 3 fq_1_4 h.1.2 q_3_10 rfl rfl rfl (fun _ => ⟨rfl, rfl⟩) dX1_init_25 (fun ok12 eok12 H locs hR hS => ?_)
  replace h := h.2
  replace h := h ok12 eok12
  refine lv_aload_n hx hb dX1_init_28 rfl (lv_at hl 0 rfl) ?_
  refine lv_bipush (v := (10 : Int32)) hx hb dX1_init_29 k_bipush_10 ?_
  have hq15 := h.1
  replace h := h.2
  refine rn_int hx hb hts q_2_13 hK hR hS hq15 ac_9 ⟨by decide, by decide⟩ (Nat.le_of_ble_eq_true rfl) (Nat.le_of_ble_eq_true rfl) (Nat.le_of_ble_eq_true rfl) dX1_init_31 (fun M13 ok14 eM13 eok14 H hR hS => ?_)
  replace h := h M13 ok14 eM13 eok14
  refine rn_putr hx hb hts inlX1 tyX1 tyX1_ok nmX1 hown hin hK hR hS h.1.1 hk_j0a cl_1 5 4 fq_1_5 h.1.2 q_3_11 rfl rfl rfl (fun _ => ⟨rfl, rfl⟩) dX1_init_33 (fun ok16 eok16 H locs hR hS => ?_)
  replace h := h.2
  replace h := h ok16 eok16
  refine lv_aload_n hx hb dX1_init_36 rfl (lv_at hl 0 rfl) ?_
  refine lv_bipush (v := (10 : Int32)) hx hb dX1_init_37 k_bipush_10 ?_
  have hq19 := h.1
  replace h := h.2
  refine rn_int hx hb hts q_2_13 hK hR hS hq19 ac_9 ⟨by decide, by decide⟩ (Nat.le_of_ble_eq_true rfl) (Nat.le_of_ble_eq_true rfl) (Nat.le_of_ble_eq_true rfl) dX1_init_39 (fun M17 ok18 eM17 eok18 H hR hS => ?_)
  replace h := h M17 ok18 eM17 eok18
  refine rn_putr hx hb hts inlX1 tyX1 tyX1_ok nmX1 hown hin hK hR hS h.1.1 hk_j0a cl_1 6 5 fq_1_6 h.1.2 q_3_12 rfl rfl rfl (fun _ => ⟨rfl, rfl⟩) dX1_init_41 (fun ok20 eok20 H locs hR hS => ?_)
  replace h := h.2
  replace h := h ok20 eok20
  refine lv_aload_n hx hb dX1_init_44 rfl (lv_at hl 0 rfl) ?_
  refine lv_bipush (v := (10 : Int32)) hx hb dX1_init_45 k_bipush_10 ?_
  have hq23 := h.1
  replace h := h.2
  refine rn_int hx hb hts q_2_13 hK hR hS hq23 ac_9 ⟨by decide, by decide⟩ (Nat.le_of_ble_eq_true rfl) (Nat.le_of_ble_eq_true rfl) (Nat.le_of_ble_eq_true rfl) dX1_init_47 (fun M21 ok22 eM21 eok22 H hR hS => ?_)
  replace h := h M21 ok22 eM21 eok22
  refine rn_putr hx hb hts inlX1 tyX1 tyX1_ok nmX1 hown hin hK hR hS h.1.1 hk_j0a cl_1 7 6 fq_1_7 h.1.2 q_3_13 rfl rfl rfl (fun _ => ⟨rfl, rfl⟩) dX1_init_49 (fun ok24 eok24 H locs hR hS => ?_)
  replace h := h.2
  replace h := h ok24 eok24
  refine lv_aload_n hx hb dX1_init_52 rfl (lv_at hl 0 rfl) ?_
  refine lv_bipush (v := (10 : Int32)) hx hb dX1_init_53 k_bipush_10 ?_
  have hq27 := h.1
  replace h := h.2
  refine rn_int hx hb hts q_2_13 hK hR hS hq27 ac_9 ⟨by decide, by decide⟩ (Nat.le_of_ble_eq_true rfl) (Nat.le_of_ble_eq_true rfl) (Nat.le_of_ble_eq_true rfl) dX1_init_55 (fun M25 ok26 eM25 eok26 H hR hS => ?_)
  replace h := h M25 ok26 eM25 eok26
  refine rn_putr hx hb hts inlX1 tyX1 tyX1_ok nmX1 hown hin hK hR hS h.1.1 hk_j0a cl_1 8 7 fq_1_8 h.1.2 q_3_14 rfl rfl rfl (fun _ => ⟨rfl, rfl⟩) dX1_init_57 (fun ok28 eok28 H locs hR hS => ?_)
  replace h := h.2
  replace h := h ok28 eok28
  exact re_n hx hb hr hlocks hR hS h dX1_init_60
set_option maxHeartbeats 4000000 in
set_option maxRecDepth 100000 in
theorem mX5_init (l : Launch) (G : Gp) (j0a N : Nat) (M : Mm) (ok : Okk) (Post : Nat → Mm → Okk → Prop) (hk_j0a : kd j0a = 5) (hj_j0a : j0a < N) (h : wX5_init Post N M ok j0a) : CtN l yX5_init wsX5_init rX5_init G j0a N M ok Post 2 16 := by
  refine Met.ofW (cc := cX5_init) (maxL := 1) (ret := none) (by decide) rfl ?_
  intro p e s m args below meth c s₁ B hml hv
  obtain ⟨rfl, hK, hR⟩ := hv
  have hx := B.exec
  have hb := B.bytes
  have hr := B.returns
  have hlocks := B.notSynchronized
  have hin : meth.name = "<init>" := (name_of_methodNamed B.named B.method).1
  have hts0 := atoms_spec (ws := wsX5_init) B.pre
  have hts : ∀ w ∈ wsL_law, w.before _ s = true := fun w hw => hts0 w (List.mem_cons_of_mem _ hw)
  have hown : s.vm.findClass RX5 = some m.cls := findClass_of_methodNamed B.named
  have hS : va_S (Fr0 G) s.heap s.heap [] := va_S.rf
  have hl := lv_entry ([.ref (G.2.1 + j0a)]) (n := 1) (Nat.le_of_ble_eq_true rfl)
  rw [lg_entry_eq]
  generalize (lg_sl ([.ref (G.2.1 + j0a)]) ++ List.replicate (1 - (lg_sl ([.ref (G.2.1 + j0a)])).length) Slot.unset).toArray = ls at hl ⊢
  have hl : lv_has ls 1 [(0, .ref (G.2.1 + j0a))] := hl
  unfold wX5_init at h
  refine lv_aload_n hx hb dX5_init_0 rfl (lv_at hl 0 rfl) ?_
  refine W.objInit hx hb hown (hts _ q_3_17) (hts _ q_1_7) (hts _ q_1_8) rfl (by rw [hml]; exact hl.1) rfl dX5_init_1 (Nat.le_of_ble_eq_true rfl) (Nat.le_of_ble_eq_true rfl) ?_
  refine W.eq (g2 := F0 m 4 ls []) rfl ?_
  refine lv_aload_n hx hb dX5_init_4 rfl (lv_at hl 0 rfl) ?_
  refine lv_bipush (v := (8 : Int32)) hx hb dX5_init_5 k_bipush_8 ?_
  have hq3 := h.1
  replace h := h.2
  refine rn_int hx hb hts q_2_13 hK hR hS hq3 ac_8 ⟨by decide, by decide⟩ (Nat.le_of_ble_eq_true rfl) (Nat.le_of_ble_eq_true rfl) (Nat.le_of_ble_eq_true rfl) dX5_init_7 (fun M1 ok2 eM1 eok2 H hR hS => ?_)
  replace h := h M1 ok2 eM1 eok2
  refine rn_putr hx hb hts inlX5 tyX5 tyX5_ok nmX5 hown hin hK hR hS h.1.1 hk_j0a cl_5 3 1 fq_5_3 h.1.2 q_3_18 rfl rfl rfl (fun _ => ⟨rfl, rfl⟩) dX5_init_9 (fun ok4 eok4 H locs hR hS => ?_)
  replace h := h.2
  replace h := h ok4 eok4
  refine lv_aload_n hx hb dX5_init_12 rfl (lv_at hl 0 rfl) ?_
  refine lv_bipush (v := (8 : Int32)) hx hb dX5_init_13 k_bipush_8 ?_
  have hq7 := h.1
  replace h := h.2
  refine rn_int hx hb hts q_2_13 hK hR hS hq7 ac_8 ⟨by decide, by decide⟩ (Nat.le_of_ble_eq_true rfl) (Nat.le_of_ble_eq_true rfl) (Nat.le_of_ble_eq_true rfl) dX5_init_15 (fun M5 ok6 eM5 eok6 H hR hS => ?_)
  replace h := h M5 ok6 eM5 eok6
  refine rn_putr hx hb hts inlX5 tyX5 tyX5_ok nmX5 hown hin hK hR hS h.1.1 hk_j0a cl_5 4 2 fq_5_4 h.1.2 q_3_19 rfl rfl rfl (fun _ => ⟨rfl, rfl⟩) dX5_init_17 (fun ok8 eok8 H locs hR hS => ?_)
  replace h := h.2
  replace h := h ok8 eok8
  exact re_n hx hb hr hlocks hR hS h dX5_init_20
set_option maxHeartbeats 4000000 in
set_option maxRecDepth 100000 in
theorem mX4_init (l : Launch) (G : Gp) (j0a N : Nat) (M : Mm) (ok : Okk) (Post : Nat → Mm → Okk → Prop) (hk_j0a : kd j0a = 4) (hj_j0a : j0a < N) (h : wX4_init Post N M ok j0a) : CtN l yX4_init wsX4_init rX4_init G j0a N M ok Post 22 190 := by
  refine Met.ofW (cc := cX4_init) (maxL := 1) (ret := none) (by decide) rfl ?_
  intro p e s m args below meth c s₁ B hml hv
  obtain ⟨rfl, hK, hR⟩ := hv
  have hx := B.exec
  have hb := B.bytes
  have hr := B.returns
  have hlocks := B.notSynchronized
  have hin : meth.name = "<init>" := (name_of_methodNamed B.named B.method).1
  have hts0 := atoms_spec (ws := wsX4_init) B.pre
  have hts : ∀ w ∈ wsL_law, w.before _ s = true := fun w hw => hts0 w (List.mem_cons_of_mem _ hw)
  have hown : s.vm.findClass RX4 = some m.cls := findClass_of_methodNamed B.named
  have hS : va_S (Fr0 G) s.heap s.heap [] := va_S.rf
  have hl := lv_entry ([.ref (G.2.1 + j0a)]) (n := 1) (Nat.le_of_ble_eq_true rfl)
  rw [lg_entry_eq]
  generalize (lg_sl ([.ref (G.2.1 + j0a)]) ++ List.replicate (1 - (lg_sl ([.ref (G.2.1 + j0a)])).length) Slot.unset).toArray = ls at hl ⊢
  have hl : lv_has ls 1 [(0, .ref (G.2.1 + j0a))] := hl
  unfold wX4_init at h
  refine lv_aload_n hx hb dX4_init_0 rfl (lv_at hl 0 rfl) ?_
  refine W.objInit hx hb hown (hts _ q_2_0) (hts _ q_1_7) (hts _ q_1_8) rfl (by rw [hml]; exact hl.1) rfl dX4_init_1 (Nat.le_of_ble_eq_true rfl) (Nat.le_of_ble_eq_true rfl) ?_
  refine W.eq (g2 := F0 m 4 ls []) rfl ?_
  refine lv_aload_n hx hb dX4_init_4 rfl (lv_at hl 0 rfl) ?_
  have hq1 := h.1
  replace h := h.2
  refine rn_obj hx hb hts inlX0 tyX0 tyX0_ok hown q_2_1 q_2_2 q_2_3 hK hR hS hq1 cl_0 (by decide) df_0 rfl (Nat.le_of_ble_eq_true rfl) (Nat.le_of_ble_eq_true rfl) dX4_init_5 (fun M2 ok3 eM2 eok3 H hR hS => ?_)
  replace h := h M2 ok3 eM2 eok3
  refine lv_dup hx hb dX4_init_8 rfl ?_
  have hj7 := h.1
  replace h := h.2
  refine rn_ctor (rest := [.ref (G.2.1 + N), .ref (G.2.1 + j0a)]) ⟨hx, hb, hml, hown, hts⟩ (mX0_init l G N (N + 1) M2 ok3 _ hq1 hj7 h) (cwI 0 hts gN_X0_init rfl rfl rfl (hts _ q_2_3) (hts _ q_2_16) (hts _ q_2_17) rfl hdS_X0_init ⟨Nat.le_of_ble_eq_true rfl, Nat.le_of_ble_eq_true rfl⟩) hK hR hS hl.1 (Nat.le_of_ble_eq_true rfl) dX4_init_9 ⟨Nat.le_of_ble_eq_true rfl, Nat.le_of_ble_eq_true rfl⟩ (fun N4 M5 ok6 H locs h hR hS => ?_)
  refine rn_putr hx hb hts inlX4 tyX4 tyX4_ok nmX4 hown hin hK hR hS h.1.1 hk_j0a cl_4 0 1 fq_4_0 h.1.2 q_2_4 rfl rfl rfl (fun _ => ⟨rfl, rfl⟩) dX4_init_12 (fun ok8 eok8 H locs hR hS => ?_)
  replace h := h.2
  replace h := h ok8 eok8
  refine lv_aload_n hx hb dX4_init_15 rfl (lv_at hl 0 rfl) ?_
  have hq9 := h.1
  replace h := h.2
  refine rn_obj hx hb hts inlX1 tyX1 tyX1_ok hown q_2_5 q_2_6 q_2_7 hK hR hS hq9 cl_1 (by decide) df_1 rfl (Nat.le_of_ble_eq_true rfl) (Nat.le_of_ble_eq_true rfl) dX4_init_16 (fun M10 ok11 eM10 eok11 H hR hS => ?_)
  replace h := h M10 ok11 eM10 eok11
  refine lv_dup hx hb dX4_init_19 rfl ?_
  have hj15 := h.1
  replace h := h.2
  refine rn_ctorN (rest := [.ref (G.2.1 + N4), .ref (G.2.1 + j0a)]) ⟨hx, hb, hml, hown, hts⟩ (mX1_init l G N4 (N4 + 1) M10 ok11 _ hq9 hj15 h) ⟨va_cnB 0 hts gN_X1_init rfl rfl rfl (hK.2.1 (RX4, 20, yX1_init, "SluiceTurns") (List.mem_of_getElem? (i := 3) rfl)) (hts _ q_2_7) hdS_X1_init ⟨Nat.le_of_ble_eq_true rfl, Nat.le_of_ble_eq_true rfl⟩, rfl, hts _ q_3_5⟩ hK hR hS hl.1 (Nat.le_of_ble_eq_true rfl) dX4_init_20 ⟨Nat.le_of_ble_eq_true rfl, Nat.le_of_ble_eq_true rfl⟩ (fun N12 M13 ok14 H locs h hR hS => ?_)
  refine rn_putr hx hb hts inlX4 tyX4 tyX4_ok nmX4 hown hin hK hR hS h.1.1 hk_j0a cl_4 1 10 fq_4_1 h.1.2 q_2_8 rfl rfl rfl (fun _ => ⟨rfl, rfl⟩) dX4_init_23 (fun ok16 eok16 H locs hR hS => ?_)
  replace h := h.2
  replace h := h ok16 eok16
  refine lv_aload_n hx hb dX4_init_26 rfl (lv_at hl 0 rfl) ?_
  have hq17 := h.1
  replace h := h.2
  refine rn_obj hx hb hts inlX5 tyX5 tyX5_ok hown q_2_9 q_2_10 q_2_11 hK hR hS hq17 cl_5 (by decide) df_5 rfl (Nat.le_of_ble_eq_true rfl) (Nat.le_of_ble_eq_true rfl) dX4_init_27 (fun M18 ok19 eM18 eok19 H hR hS => ?_)
  replace h := h M18 ok19 eM18 eok19
  refine lv_dup hx hb dX4_init_30 rfl ?_
  have hj23 := h.1
  replace h := h.2
  refine rn_ctorN (rest := [.ref (G.2.1 + N12), .ref (G.2.1 + j0a)]) ⟨hx, hb, hml, hown, hts⟩ (mX5_init l G N12 (N12 + 1) M18 ok19 _ hq17 hj23 h) ⟨va_cnB 0 hts gN_X5_init rfl rfl rfl (hK.2.1 (RX4, 27, yX5_init, "SluiceTurns") (List.mem_of_getElem? (i := 4) rfl)) (hts _ q_2_11) hdS_X5_init ⟨Nat.le_of_ble_eq_true rfl, Nat.le_of_ble_eq_true rfl⟩, rfl, hts _ q_3_15⟩ hK hR hS hl.1 (Nat.le_of_ble_eq_true rfl) dX4_init_31 ⟨Nat.le_of_ble_eq_true rfl, Nat.le_of_ble_eq_true rfl⟩ (fun N20 M21 ok22 H locs h hR hS => ?_)
  refine rn_putr hx hb hts inlX4 tyX4 tyX4_ok nmX4 hown hin hK hR hS h.1.1 hk_j0a cl_4 2 18 fq_4_2 h.1.2 q_2_12 rfl rfl rfl (fun _ => ⟨rfl, rfl⟩) dX4_init_34 (fun ok24 eok24 H locs hR hS => ?_)
  replace h := h.2
  replace h := h ok24 eok24
  refine lv_aload_n hx hb dX4_init_37 rfl (lv_at hl 0 rfl) ?_
  refine lv_bipush (v := (8 : Int32)) hx hb dX4_init_38 k_bipush_8 ?_
  have hq27 := h.1
  replace h := h.2
  refine rn_int hx hb hts q_2_13 hK hR hS hq27 ac_8 ⟨by decide, by decide⟩ (Nat.le_of_ble_eq_true rfl) (Nat.le_of_ble_eq_true rfl) (Nat.le_of_ble_eq_true rfl) dX4_init_40 (fun M25 ok26 eM25 eok26 H hR hS => ?_)
  replace h := h M25 ok26 eM25 eok26
  refine rn_putr hx hb hts inlX4 tyX4 tyX4_ok nmX4 hown hin hK hR hS h.1.1 hk_j0a cl_4 8 21 fq_4_8 h.1.2 q_2_14 rfl rfl rfl (fun _ => ⟨rfl, rfl⟩) dX4_init_42 (fun ok28 eok28 H locs hR hS => ?_)
  replace h := h.2
  replace h := h ok28 eok28
  refine lv_aload_n hx hb dX4_init_45 rfl (lv_at hl 0 rfl) ?_
  refine lv_bipush (v := (8 : Int32)) hx hb dX4_init_46 k_bipush_8 ?_
  have hq31 := h.1
  replace h := h.2
  refine rn_int hx hb hts q_2_13 hK hR hS hq31 ac_8 ⟨by decide, by decide⟩ (Nat.le_of_ble_eq_true rfl) (Nat.le_of_ble_eq_true rfl) (Nat.le_of_ble_eq_true rfl) dX4_init_48 (fun M29 ok30 eM29 eok30 H hR hS => ?_)
  replace h := h M29 ok30 eM29 eok30
  refine rn_putr hx hb hts inlX4 tyX4 tyX4_ok nmX4 hown hin hK hR hS h.1.1 hk_j0a cl_4 9 22 fq_4_9 h.1.2 q_2_15 rfl rfl rfl (fun _ => ⟨rfl, rfl⟩) dX4_init_50 (fun ok32 eok32 H locs hR hS => ?_)
  replace h := h.2
  replace h := h ok32 eok32
  exact re_n hx hb hr hlocks hR hS h dX4_init_53
set_option maxHeartbeats 4000000 in
set_option maxRecDepth 100000 in
theorem mX2_init (l : Launch) (G : Gp) (j0a N : Nat) (M : Mm) (ok : Okk) (Post : Nat → Mm → Okk → Prop) (hk_j0a : kd j0a = 2) (hj_j0a : j0a < N) (h : wX2_init Post N M ok j0a) : CtN l yX2_init wsX2_init rX2_init G j0a N M ok Post 93 808 := by
  refine Met.ofW (cc := cX2_init) (maxL := 2) (ret := none) (by decide) rfl ?_
  intro p e s m args below meth c s₁ B hml hv
  obtain ⟨rfl, hK, hR⟩ := hv
  have hx := B.exec
  have hb := B.bytes
  have hr := B.returns
  have hlocks := B.notSynchronized
  have hin : meth.name = "<init>" := (name_of_methodNamed B.named B.method).1
  have hts0 := atoms_spec (ws := wsX2_init) B.pre
  have hts : ∀ w ∈ wsL_law, w.before _ s = true := fun w hw => hts0 w (List.mem_cons_of_mem _ hw)
  have hown : s.vm.findClass RX2 = some m.cls := findClass_of_methodNamed B.named
  have hS : va_S (Fr0 G) s.heap s.heap [] := va_S.rf
  have hl := lv_entry ([.ref (G.2.1 + j0a)]) (n := 2) (Nat.le_of_ble_eq_true rfl)
  rw [lg_entry_eq]
  generalize (lg_sl ([.ref (G.2.1 + j0a)]) ++ List.replicate (2 - (lg_sl ([.ref (G.2.1 + j0a)])).length) Slot.unset).toArray = ls at hl ⊢
  have hl : lv_has ls 2 [(0, .ref (G.2.1 + j0a))] := hl
  unfold wX2_init at h
  refine lv_aload_n hx hb dX2_init_0 rfl (lv_at hl 0 rfl) ?_
  refine W.objInit hx hb hown (hts _ q_3_23) (hts _ q_1_7) (hts _ q_1_8) rfl (by rw [hml]; exact hl.1) rfl dX2_init_1 (Nat.le_of_ble_eq_true rfl) (Nat.le_of_ble_eq_true rfl) ?_
  refine W.eq (g2 := F0 m 4 ls []) rfl ?_
  refine lv_aload_n hx hb dX2_init_4 rfl (lv_at hl 0 rfl) ?_
  refine lv_iconst (v := (4 : Int32)) hx hb dX2_init_5 k_iconst_4 ?_
  have hq3 := h.1
  replace h := h.2
  refine rn_ter hx hb hts hown q_4_0 hK hR hS hq3 ⟨by decide, by decide⟩ (Nat.le_of_ble_eq_true rfl) (Nat.le_of_ble_eq_true rfl) dX2_init_6 (fun M1 ok2 eM1 eok2 H hR hS => ?_)
  replace h := h M1 ok2 eM1 eok2
  refine rn_putr hx hb hts inlX2 tyX2 tyX2_ok nmX2 hown hin hK hR hS h.1.1 hk_j0a cl_2 1 1 fq_2_1 h.1.2 q_4_1 rfl rfl rfl (fun _ => ⟨rfl, rfl⟩) dX2_init_9 (fun ok4 eok4 H locs hR hS => ?_)
  replace h := h.2
  replace h := h ok4 eok4
  refine lv_iconst (v := (0 : Int32)) hx hb dX2_init_12 k_iconst_0 ?_
  refine lv_istore_n (lv' := [(1, .int (0 : Int32)), (0, .ref (G.2.1 + j0a))]) hx hb dX2_init_13 rfl hl (by decide) rfl (fun ls hl => ?_)
  refine lv_iload_n hx hb dX2_init_14 rfl (lv_at hl 0 rfl) ?_
  refine lv_iconst (v := (4 : Int32)) hx hb dX2_init_15 k_iconst_4 ?_
  refine lv_icmp_ge (tgt := 38) hx hb dX2_init_16 (by decide) (fun c => absurd c (by decide)) (fun _ => ?_)
  refine lv_aload_n hx hb dX2_init_19 rfl (lv_at hl 1 rfl) ?_
  refine rn_getr hx hb hts inlX2 hown hK hR h.1.1 hk_j0a cl_2 1 1 fq_2_1 h.1.2 q_4_1 rfl dX2_init_20 ?_
  replace h := h.2
  refine lv_iload_n hx hb dX2_init_23 rfl (lv_at hl 0 rfl) ?_
  have hq5 := h.1
  replace h := h.2
  refine rn_obj hx hb hts inlX4 tyX4 tyX4_ok hown q_4_0 q_1_10 q_1_11 hK hR hS hq5 cl_4 (by decide) df_4 rfl (Nat.le_of_ble_eq_true rfl) (Nat.le_of_ble_eq_true rfl) dX2_init_24 (fun M6 ok7 eM6 eok7 H hR hS => ?_)
  replace h := h M6 ok7 eM6 eok7
  refine lv_dup hx hb dX2_init_27 rfl ?_
  have hj11 := h.1
  replace h := h.2
  refine rn_ctorN (rest := [.ref (G.2.1 + (N + 1)), .int (0 : Int32), .ref (G.2.1 + (j0a + 1))]) ⟨hx, hb, hml, hown, hts⟩ (mX4_init l G (N + 1) (N + 2) M6 ok7 _ hq5 hj11 h) ⟨va_cnB 0 hts gN_X4_init rfl rfl rfl (hK.2.1 (RX2, 17, yX4_init, "SluiceTurns") (List.mem_of_getElem? (i := 2) rfl)) (hts _ q_1_11) hdS_X4_init ⟨Nat.le_of_ble_eq_true rfl, Nat.le_of_ble_eq_true rfl⟩, rfl, hts _ q_1_22⟩ hK hR hS hl.1 (Nat.le_of_ble_eq_true rfl) dX2_init_28 ⟨Nat.le_of_ble_eq_true rfl, Nat.le_of_ble_eq_true rfl⟩ (fun N8 M9 ok10 H locs h hR hS => ?_)
  refine rn_aast hx hb hK hR hS h.1.1 h.1.2.1 h.1.2.2 (ky_2_1 hk_j0a) hq5 0 ix_0 vi_0_4 dX2_init_31 (fun M12 ok13 eM12 eok13 H locs hR hS => ?_)
  replace h := h.2
  replace h := h M12 ok13 eM12 eok13
  refine lv_iinc (v := (1 : Int32)) (lv' := [(1, .int (1 : Int32)), (0, .ref (G.2.1 + j0a))]) hx hb dX2_init_32 hl (k := 0) rfl (by decide) (by decide) rfl (fun ls hl => ?_)
  refine lv_goto (tgt := 14) hx hb dX2_init_35 (by decide) ?_
  refine lv_iload_n hx hb dX2_init_14 rfl (lv_at hl 0 rfl) ?_
  refine lv_iconst (v := (4 : Int32)) hx hb dX2_init_15 k_iconst_4 ?_
  refine lv_icmp_ge (tgt := 38) hx hb dX2_init_16 (by decide) (fun c => absurd c (by decide)) (fun _ => ?_)
  refine lv_aload_n hx hb dX2_init_19 rfl (lv_at hl 1 rfl) ?_
  refine rn_getr hx hb hts inlX2 hown hK hR h.1.1 hk_j0a cl_2 1 1 fq_2_1 h.1.2 q_4_1 rfl dX2_init_20 ?_
  replace h := h.2
  refine lv_iload_n hx hb dX2_init_23 rfl (lv_at hl 0 rfl) ?_
  have hq14 := h.1
  replace h := h.2
  refine rn_obj hx hb hts inlX4 tyX4 tyX4_ok hown q_4_0 q_1_10 q_1_11 hK hR hS hq14 cl_4 (by decide) df_4 rfl (Nat.le_of_ble_eq_true rfl) (Nat.le_of_ble_eq_true rfl) dX2_init_24 (fun M15 ok16 eM15 eok16 H hR hS => ?_)
  replace h := h M15 ok16 eM15 eok16
  refine lv_dup hx hb dX2_init_27 rfl ?_
  have hj20 := h.1
  replace h := h.2
  refine rn_ctorN (rest := [.ref (G.2.1 + N8), .int (1 : Int32), .ref (G.2.1 + (j0a + 1))]) ⟨hx, hb, hml, hown, hts⟩ (mX4_init l G N8 (N8 + 1) M15 ok16 _ hq14 hj20 h) ⟨va_cnB 0 hts gN_X4_init rfl rfl rfl (hK.2.1 (RX2, 17, yX4_init, "SluiceTurns") (List.mem_of_getElem? (i := 2) rfl)) (hts _ q_1_11) hdS_X4_init ⟨Nat.le_of_ble_eq_true rfl, Nat.le_of_ble_eq_true rfl⟩, rfl, hts _ q_1_22⟩ hK hR hS hl.1 (Nat.le_of_ble_eq_true rfl) dX2_init_28 ⟨Nat.le_of_ble_eq_true rfl, Nat.le_of_ble_eq_true rfl⟩ (fun N17 M18 ok19 H locs h hR hS => ?_)
  refine rn_aast hx hb hK hR hS h.1.1 h.1.2.1 h.1.2.2 (ky_2_1 hk_j0a) hq14 1 ix_1 vi_1_4 dX2_init_31 (fun M21 ok22 eM21 eok22 H locs hR hS => ?_)
  replace h := h.2
  replace h := h M21 ok22 eM21 eok22
  refine lv_iinc (v := (2 : Int32)) (lv' := [(1, .int (2 : Int32)), (0, .ref (G.2.1 + j0a))]) hx hb dX2_init_32 hl (k := 0) rfl (by decide) (by decide) rfl (fun ls hl => ?_)
  refine lv_goto (tgt := 14) hx hb dX2_init_35 (by decide) ?_
  refine lv_iload_n hx hb dX2_init_14 rfl (lv_at hl 0 rfl) ?_
  refine lv_iconst (v := (4 : Int32)) hx hb dX2_init_15 k_iconst_4 ?_
  refine lv_icmp_ge (tgt := 38) hx hb dX2_init_16 (by decide) (fun c => absurd c (by decide)) (fun _ => ?_)
  refine lv_aload_n hx hb dX2_init_19 rfl (lv_at hl 1 rfl) ?_
  refine rn_getr hx hb hts inlX2 hown hK hR h.1.1 hk_j0a cl_2 1 1 fq_2_1 h.1.2 q_4_1 rfl dX2_init_20 ?_
  replace h := h.2
  refine lv_iload_n hx hb dX2_init_23 rfl (lv_at hl 0 rfl) ?_
  have hq23 := h.1
  replace h := h.2
  refine rn_obj hx hb hts inlX4 tyX4 tyX4_ok hown q_4_0 q_1_10 q_1_11 hK hR hS hq23 cl_4 (by decide) df_4 rfl (Nat.le_of_ble_eq_true rfl) (Nat.le_of_ble_eq_true rfl) dX2_init_24 (fun M24 ok25 eM24 eok25 H hR hS => ?_)
  replace h := h M24 ok25 eM24 eok25
  refine lv_dup hx hb dX2_init_27 rfl ?_
  have hj29 := h.1
  replace h := h.2
  refine rn_ctorN (rest := [.ref (G.2.1 + N17), .int (2 : Int32), .ref (G.2.1 + (j0a + 1))]) ⟨hx, hb, hml, hown, hts⟩ (mX4_init l G N17 (N17 + 1) M24 ok25 _ hq23 hj29 h) ⟨va_cnB 0 hts gN_X4_init rfl rfl rfl (hK.2.1 (RX2, 17, yX4_init, "SluiceTurns") (List.mem_of_getElem? (i := 2) rfl)) (hts _ q_1_11) hdS_X4_init ⟨Nat.le_of_ble_eq_true rfl, Nat.le_of_ble_eq_true rfl⟩, rfl, hts _ q_1_22⟩ hK hR hS hl.1 (Nat.le_of_ble_eq_true rfl) dX2_init_28 ⟨Nat.le_of_ble_eq_true rfl, Nat.le_of_ble_eq_true rfl⟩ (fun N26 M27 ok28 H locs h hR hS => ?_)
  refine rn_aast hx hb hK hR hS h.1.1 h.1.2.1 h.1.2.2 (ky_2_1 hk_j0a) hq23 2 ix_2 vi_2_4 dX2_init_31 (fun M30 ok31 eM30 eok31 H locs hR hS => ?_)
  replace h := h.2
  replace h := h M30 ok31 eM30 eok31
  refine lv_iinc (v := (3 : Int32)) (lv' := [(1, .int (3 : Int32)), (0, .ref (G.2.1 + j0a))]) hx hb dX2_init_32 hl (k := 0) rfl (by decide) (by decide) rfl (fun ls hl => ?_)
  refine lv_goto (tgt := 14) hx hb dX2_init_35 (by decide) ?_
  refine lv_iload_n hx hb dX2_init_14 rfl (lv_at hl 0 rfl) ?_
  refine lv_iconst (v := (4 : Int32)) hx hb dX2_init_15 k_iconst_4 ?_
  refine lv_icmp_ge (tgt := 38) hx hb dX2_init_16 (by decide) (fun c => absurd c (by decide)) (fun _ => ?_)
  refine lv_aload_n hx hb dX2_init_19 rfl (lv_at hl 1 rfl) ?_
  refine rn_getr hx hb hts inlX2 hown hK hR h.1.1 hk_j0a cl_2 1 1 fq_2_1 h.1.2 q_4_1 rfl dX2_init_20 ?_
  replace h := h.2
  refine lv_iload_n hx hb dX2_init_23 rfl (lv_at hl 0 rfl) ?_
  have hq32 := h.1
  replace h := h.2
  refine rn_obj hx hb hts inlX4 tyX4 tyX4_ok hown q_4_0 q_1_10 q_1_11 hK hR hS hq32 cl_4 (by decide) df_4 rfl (Nat.le_of_ble_eq_true rfl) (Nat.le_of_ble_eq_true rfl) dX2_init_24 (fun M33 ok34 eM33 eok34 H hR hS => ?_)
  replace h := h M33 ok34 eM33 eok34
  refine lv_dup hx hb dX2_init_27 rfl ?_
  have hj38 := h.1
  replace h := h.2
  refine rn_ctorN (rest := [.ref (G.2.1 + N26), .int (3 : Int32), .ref (G.2.1 + (j0a + 1))]) ⟨hx, hb, hml, hown, hts⟩ (mX4_init l G N26 (N26 + 1) M33 ok34 _ hq32 hj38 h) ⟨va_cnB 0 hts gN_X4_init rfl rfl rfl (hK.2.1 (RX2, 17, yX4_init, "SluiceTurns") (List.mem_of_getElem? (i := 2) rfl)) (hts _ q_1_11) hdS_X4_init ⟨Nat.le_of_ble_eq_true rfl, Nat.le_of_ble_eq_true rfl⟩, rfl, hts _ q_1_22⟩ hK hR hS hl.1 (Nat.le_of_ble_eq_true rfl) dX2_init_28 ⟨Nat.le_of_ble_eq_true rfl, Nat.le_of_ble_eq_true rfl⟩ (fun N35 M36 ok37 H locs h hR hS => ?_)
  refine rn_aast hx hb hK hR hS h.1.1 h.1.2.1 h.1.2.2 (ky_2_1 hk_j0a) hq32 3 ix_3 vi_3_4 dX2_init_31 (fun M39 ok40 eM39 eok40 H locs hR hS => ?_)
  replace h := h.2
  replace h := h M39 ok40 eM39 eok40
  refine lv_iinc (v := (4 : Int32)) (lv' := [(1, .int (4 : Int32)), (0, .ref (G.2.1 + j0a))]) hx hb dX2_init_32 hl (k := 0) rfl (by decide) (by decide) rfl (fun ls hl => ?_)
  refine lv_goto (tgt := 14) hx hb dX2_init_35 (by decide) ?_
  refine lv_iload_n hx hb dX2_init_14 rfl (lv_at hl 0 rfl) ?_
  refine lv_iconst (v := (4 : Int32)) hx hb dX2_init_15 k_iconst_4 ?_
  refine lv_icmp_ge (tgt := 38) hx hb dX2_init_16 (by decide) (fun _ => ?_) (fun c => absurd (by decide) c)
  exact re_n hx hb hr hlocks hR hS h dX2_init_38
set_option maxHeartbeats 4000000 in
set_option maxRecDepth 100000 in
theorem mX3_init (l : Launch) (G : Gp) (j0a N : Nat) (M : Mm) (ok : Okk) (Post : Nat → Mm → Okk → Prop) (hk_j0a : kd j0a = 3) (hj_j0a : j0a < N) (h : wX3_init Post N M ok j0a) : CtN l yX3_init wsX3_init rX3_init G j0a N M ok Post 1 60 := by
  refine Met.ofW (cc := cX3_init) (maxL := 1) (ret := none) (by decide) rfl ?_
  intro p e s m args below meth c s₁ B hml hv
  obtain ⟨rfl, hK, hR⟩ := hv
  have hx := B.exec
  have hb := B.bytes
  have hr := B.returns
  have hlocks := B.notSynchronized
  have hin : meth.name = "<init>" := (name_of_methodNamed B.named B.method).1
  have hts0 := atoms_spec (ws := wsX3_init) B.pre
  have hts : ∀ w ∈ wsL_law, w.before _ s = true := fun w hw => hts0 w (List.mem_cons_of_mem _ hw)
  have hown : s.vm.findClass RX3 = some m.cls := findClass_of_methodNamed B.named
  have hS : va_S (Fr0 G) s.heap s.heap [] := va_S.rf
  have hl := lv_entry ([.ref (G.2.1 + j0a)]) (n := 1) (Nat.le_of_ble_eq_true rfl)
  rw [lg_entry_eq]
  generalize (lg_sl ([.ref (G.2.1 + j0a)]) ++ List.replicate (1 - (lg_sl ([.ref (G.2.1 + j0a)])).length) Slot.unset).toArray = ls at hl ⊢
  have hl : lv_has ls 1 [(0, .ref (G.2.1 + j0a))] := hl
  unfold wX3_init at h
  refine lv_aload_n hx hb dX3_init_0 rfl (lv_at hl 0 rfl) ?_
  refine W.objInit hx hb hown (hts _ q_4_4) (hts _ q_1_7) (hts _ q_1_8) rfl (by rw [hml]; exact hl.1) rfl dX3_init_1 (Nat.le_of_ble_eq_true rfl) (Nat.le_of_ble_eq_true rfl) ?_
  refine W.eq (g2 := F0 m 4 ls []) rfl ?_
  refine lv_aload_n hx hb dX3_init_4 rfl (lv_at hl 0 rfl) ?_
  refine lv_bipush (v := (60 : Int32)) hx hb dX3_init_5 k_bipush_60 ?_
  have hq3 := h.1
  replace h := h.2
  refine rn_int hx hb hts q_2_13 hK hR hS hq3 ac_10 ⟨by decide, by decide⟩ (Nat.le_of_ble_eq_true rfl) (Nat.le_of_ble_eq_true rfl) (Nat.le_of_ble_eq_true rfl) dX3_init_7 (fun M1 ok2 eM1 eok2 H hR hS => ?_)
  replace h := h M1 ok2 eM1 eok2
  refine rn_putr hx hb hts inlX3 tyX3 tyX3_ok nmX3 hown hin hK hR hS h.1.1 hk_j0a cl_3 1 1 fq_3_1 h.1.2 q_4_5 rfl rfl rfl (fun _ => ⟨rfl, rfl⟩) dX3_init_9 (fun ok4 eok4 H locs hR hS => ?_)
  replace h := h.2
  replace h := h ok4 eok4
  exact re_n hx hb hr hlocks hR hS h dX3_init_12
set_option maxHeartbeats 4000000 in
set_option maxRecDepth 100000 in
theorem mX6_init (l : Launch) (G : Gp) (j0a N : Nat) (M : Mm) (ok : Okk) (Post : Nat → Mm → Okk → Prop) (hk_j0a : kd j0a = 6) (hj_j0a : j0a < N) (h : wX6_init Post N M ok j0a) : CtN l yX6_init wsX6_init rX6_init G j0a N M ok Post 142 1281 := by
  refine Met.ofW (cc := cX6_init) (maxL := 1) (ret := none) (by decide) rfl ?_
  intro p e s m args below meth c s₁ B hml hv
  obtain ⟨rfl, hK, hR⟩ := hv
  have hx := B.exec
  have hb := B.bytes
  have hr := B.returns
  have hlocks := B.notSynchronized
  have hin : meth.name = "<init>" := (name_of_methodNamed B.named B.method).1
  have hts0 := atoms_spec (ws := wsX6_init) B.pre
  have hts : ∀ w ∈ wsL_law, w.before _ s = true := fun w hw => hts0 w (List.mem_cons_of_mem _ hw)
  have hown : s.vm.findClass RX6 = some m.cls := findClass_of_methodNamed B.named
  have hS : va_S (Fr0 G) s.heap s.heap [] := va_S.rf
  have hl := lv_entry ([.ref (G.2.1 + j0a)]) (n := 1) (Nat.le_of_ble_eq_true rfl)
  rw [lg_entry_eq]
  generalize (lg_sl ([.ref (G.2.1 + j0a)]) ++ List.replicate (1 - (lg_sl ([.ref (G.2.1 + j0a)])).length) Slot.unset).toArray = ls at hl ⊢
  have hl : lv_has ls 1 [(0, .ref (G.2.1 + j0a))] := hl
  unfold wX6_init at h
  refine lv_aload_n hx hb dX6_init_0 rfl (lv_at hl 0 rfl) ?_
  refine W.objInit hx hb hown (hts _ q_1_6) (hts _ q_1_7) (hts _ q_1_8) rfl (by rw [hml]; exact hl.1) rfl dX6_init_1 (Nat.le_of_ble_eq_true rfl) (Nat.le_of_ble_eq_true rfl) ?_
  refine W.eq (g2 := F0 m 4 ls []) rfl ?_
  refine lv_aload_n hx hb dX6_init_4 rfl (lv_at hl 0 rfl) ?_
  have hq1 := h.1
  replace h := h.2
  refine rn_obj hx hb hts inlX4 tyX4 tyX4_ok hown q_1_9 q_1_10 q_1_11 hK hR hS hq1 cl_4 (by decide) df_4 rfl (Nat.le_of_ble_eq_true rfl) (Nat.le_of_ble_eq_true rfl) dX6_init_5 (fun M2 ok3 eM2 eok3 H hR hS => ?_)
  replace h := h M2 ok3 eM2 eok3
  refine lv_dup hx hb dX6_init_8 rfl ?_
  have hj7 := h.1
  replace h := h.2
  refine rn_ctorN (rest := [.ref (G.2.1 + N), .ref (G.2.1 + j0a)]) ⟨hx, hb, hml, hown, hts⟩ (mX4_init l G N (N + 1) M2 ok3 _ hq1 hj7 h) ⟨va_cnB 0 hts gN_X4_init rfl rfl rfl (hK.2.1 (RX6, 11, yX4_init, "SluiceTurns") (List.mem_of_getElem? (i := 0) rfl)) (hts _ q_1_11) hdS_X4_init ⟨Nat.le_of_ble_eq_true rfl, Nat.le_of_ble_eq_true rfl⟩, rfl, hts _ q_1_22⟩ hK hR hS hl.1 (Nat.le_of_ble_eq_true rfl) dX6_init_9 ⟨Nat.le_of_ble_eq_true rfl, Nat.le_of_ble_eq_true rfl⟩ (fun N4 M5 ok6 H locs h hR hS => ?_)
  refine rn_putr hx hb hts inlX6 tyX6 tyX6_ok nmX6 hown hin hK hR hS h.1.1 hk_j0a cl_6 0 1 fq_6_0 h.1.2 q_1_12 rfl rfl rfl (fun _ => ⟨rfl, rfl⟩) dX6_init_12 (fun ok8 eok8 H locs hR hS => ?_)
  replace h := h.2
  replace h := h ok8 eok8
  refine lv_aload_n hx hb dX6_init_15 rfl (lv_at hl 0 rfl) ?_
  have hq9 := h.1
  replace h := h.2
  refine rn_obj hx hb hts inlX4 tyX4 tyX4_ok hown q_1_9 q_1_10 q_1_11 hK hR hS hq9 cl_4 (by decide) df_4 rfl (Nat.le_of_ble_eq_true rfl) (Nat.le_of_ble_eq_true rfl) dX6_init_16 (fun M10 ok11 eM10 eok11 H hR hS => ?_)
  replace h := h M10 ok11 eM10 eok11
  refine lv_dup hx hb dX6_init_19 rfl ?_
  have hj15 := h.1
  replace h := h.2
  refine rn_ctorN (rest := [.ref (G.2.1 + N4), .ref (G.2.1 + j0a)]) ⟨hx, hb, hml, hown, hts⟩ (mX4_init l G N4 (N4 + 1) M10 ok11 _ hq9 hj15 h) ⟨va_cnB 0 hts gN_X4_init rfl rfl rfl (hK.2.1 (RX6, 11, yX4_init, "SluiceTurns") (List.mem_of_getElem? (i := 0) rfl)) (hts _ q_1_11) hdS_X4_init ⟨Nat.le_of_ble_eq_true rfl, Nat.le_of_ble_eq_true rfl⟩, rfl, hts _ q_1_22⟩ hK hR hS hl.1 (Nat.le_of_ble_eq_true rfl) dX6_init_20 ⟨Nat.le_of_ble_eq_true rfl, Nat.le_of_ble_eq_true rfl⟩ (fun N12 M13 ok14 H locs h hR hS => ?_)
  refine rn_putr hx hb hts inlX6 tyX6 tyX6_ok nmX6 hown hin hK hR hS h.1.1 hk_j0a cl_6 1 24 fq_6_1 h.1.2 q_1_13 rfl rfl rfl (fun _ => ⟨rfl, rfl⟩) dX6_init_23 (fun ok16 eok16 H locs hR hS => ?_)
  replace h := h.2
  replace h := h ok16 eok16
  refine lv_aload_n hx hb dX6_init_26 rfl (lv_at hl 0 rfl) ?_
  have hq17 := h.1
  replace h := h.2
  refine rn_obj hx hb hts inlX2 tyX2 tyX2_ok hown q_1_14 q_1_15 q_1_16 hK hR hS hq17 cl_2 (by decide) df_2 rfl (Nat.le_of_ble_eq_true rfl) (Nat.le_of_ble_eq_true rfl) dX6_init_27 (fun M18 ok19 eM18 eok19 H hR hS => ?_)
  replace h := h M18 ok19 eM18 eok19
  refine lv_dup hx hb dX6_init_30 rfl ?_
  have hj23 := h.1
  replace h := h.2
  refine rn_ctor (rest := [.ref (G.2.1 + N12), .ref (G.2.1 + j0a)]) ⟨hx, hb, hml, hown, hts⟩ (mX2_init l G N12 (N12 + 1) M18 ok19 _ hq17 hj23 h) (cwI 0 hts gN_X2_init rfl rfl rfl (hts _ q_1_16) (hts _ q_3_20) (hts _ q_3_21) rfl hdS_X2_init ⟨Nat.le_of_ble_eq_true rfl, Nat.le_of_ble_eq_true rfl⟩) hK hR hS hl.1 (Nat.le_of_ble_eq_true rfl) dX6_init_31 ⟨Nat.le_of_ble_eq_true rfl, Nat.le_of_ble_eq_true rfl⟩ (fun N20 M21 ok22 H locs h hR hS => ?_)
  refine rn_putr hx hb hts inlX6 tyX6 tyX6_ok nmX6 hown hin hK hR hS h.1.1 hk_j0a cl_6 2 47 fq_6_2 h.1.2 q_1_17 rfl rfl rfl (fun _ => ⟨rfl, rfl⟩) dX6_init_34 (fun ok24 eok24 H locs hR hS => ?_)
  replace h := h.2
  replace h := h ok24 eok24
  refine lv_aload_n hx hb dX6_init_37 rfl (lv_at hl 0 rfl) ?_
  have hq25 := h.1
  replace h := h.2
  refine rn_obj hx hb hts inlX3 tyX3 tyX3_ok hown q_1_18 q_1_19 q_1_20 hK hR hS hq25 cl_3 (by decide) df_3 rfl (Nat.le_of_ble_eq_true rfl) (Nat.le_of_ble_eq_true rfl) dX6_init_38 (fun M26 ok27 eM26 eok27 H hR hS => ?_)
  replace h := h M26 ok27 eM26 eok27
  refine lv_dup hx hb dX6_init_41 rfl ?_
  have hj31 := h.1
  replace h := h.2
  refine rn_ctorN (rest := [.ref (G.2.1 + N20), .ref (G.2.1 + j0a)]) ⟨hx, hb, hml, hown, hts⟩ (mX3_init l G N20 (N20 + 1) M26 ok27 _ hq25 hj31 h) ⟨va_cnB 0 hts gN_X3_init rfl rfl rfl (hK.2.1 (RX6, 28, yX3_init, "SluiceTurns") (List.mem_of_getElem? (i := 1) rfl)) (hts _ q_1_20) hdS_X3_init ⟨Nat.le_of_ble_eq_true rfl, Nat.le_of_ble_eq_true rfl⟩, rfl, hts _ q_4_2⟩ hK hR hS hl.1 (Nat.le_of_ble_eq_true rfl) dX6_init_42 ⟨Nat.le_of_ble_eq_true rfl, Nat.le_of_ble_eq_true rfl⟩ (fun N28 M29 ok30 H locs h hR hS => ?_)
  refine rn_putr hx hb hts inlX6 tyX6 tyX6_ok nmX6 hown hin hK hR hS h.1.1 hk_j0a cl_6 3 141 fq_6_3 h.1.2 q_1_21 rfl rfl rfl (fun _ => ⟨rfl, rfl⟩) dX6_init_45 (fun ok32 eok32 H locs hR hS => ?_)
  replace h := h.2
  replace h := h ok32 eok32
  exact re_n hx hb hr hlocks hR hS h dX6_init_48
