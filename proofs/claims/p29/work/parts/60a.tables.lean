-- the tables' words (the skeleton's part A, the places by rfl)
def lw_okq (q : MethodName × Nat) : Prop := (q.1.cls ≠ "java/lang/invoke/MethodHandle" ∧ q.1.cls ≠ "java/lang/invoke/VarHandle") ∧ Cond.instantiable q.1.cls q.2 ∈ tables_1 ∧ Cond.privateMethod q.1 ∈ tables_1 ∧ Cond.instanceMethod q.1 ∈ tables_1
theorem iT_1 : ∀ w ∈ tables_1_1, w ∈ tables_1 := by intro w h; unfold tables_1; simp only [List.mem_append, h, true_or, or_true]
theorem iT_2 : ∀ w ∈ tables_1_2, w ∈ tables_1 := by intro w h; unfold tables_1; simp only [List.mem_append, h, true_or, or_true]
theorem iT_3 : ∀ w ∈ tables_1_3, w ∈ tables_1 := by intro w h; unfold tables_1; simp only [List.mem_append, h, true_or, or_true]
theorem lw_p0 : lw_okq (⟨"SluiceTurns$History", "dropOldest", "()V"⟩, 2) := ⟨⟨by decide +kernel, by decide +kernel⟩, iT_1 _ (List.mem_of_getElem? (i := 200) rfl), iT_2 _ (List.mem_of_getElem? (i := 34) rfl), iT_2 _ (List.mem_of_getElem? (i := 35) rfl)⟩
theorem lw_p1 : lw_okq (⟨"SluiceTurns$Turns", "beginAgain", "()V"⟩, 5) := ⟨⟨by decide +kernel, by decide +kernel⟩, iT_1 _ (List.mem_of_getElem? (i := 131) rfl), iT_3 _ (List.mem_of_getElem? (i := 20) rfl), iT_3 _ (List.mem_of_getElem? (i := 21) rfl)⟩
def lw_privs_1 : List (MethodName × Nat) := [(⟨"SluiceTurns$History", "dropOldest", "()V"⟩, 2), (⟨"SluiceTurns$Turns", "beginAgain", "()V"⟩, 5)]
theorem lw_r1 : ∀ q ∈ lw_privs_1, lw_okq q := List.forall_mem_cons.mpr ⟨lw_p0, List.forall_mem_cons.mpr ⟨lw_p1, fun _ h => absurd h List.not_mem_nil⟩⟩
def lw_privs : List (MethodName × Nat) := lw_privs_1
def lw_tbl : List Cond := k2_sels lw_privs ++ tables_1
theorem lw_privs_ok : ∀ q ∈ lw_privs, lw_okq q := lw_r1

