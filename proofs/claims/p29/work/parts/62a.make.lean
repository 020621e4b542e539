/-! the constructors: what they leave, place by place (printed by program out of part 17's words) -/
theorem ou_s {ok : Okk} {j k : Nat} : ou ok j k j k = true := by simp [ou]
theorem ou_t {ok : Okk} {j k a b : Nat} (h : ok a b = true) : ou ok j k a b = true := by
  unfold ou
  by_cases e : a = j
  · rw [if_pos e]
    by_cases e2 : b = k
    · rw [if_pos e2]
    · rw [if_neg e2, ← e]; exact h
  · rw [if_neg e]; exact h
theorem oz_t {ok : Okk} {N a b : Nat} (hn : a ≠ N) (h : ok a b = true) : oz ok N a b = true := by
  unfold oz
  rw [if_neg hn]; exact h
def mX0 (M : Mm) (j : Nat) : Mm := (mu (mu (mu (mu (mu (mu (mu (mu (mu (mu (mz (mz (mz (mz (mz (mz (mz (mz (mu M j 0 (1 : Int32)) (j + 1)) ((j + 1) + 1)) ((j + 1) + 2)) ((j + 1) + 3)) ((j + 1) + 4)) ((j + 1) + 5)) ((j + 1) + 6)) ((j + 1) + 7)) (j + 3) 0 (200 : Int32)) (j + 4) 0 (50 : Int32)) (j + 5) 0 (-1 : Int32)) (j + 5) 1 (-1 : Int32)) (j + 5) 2 (-1 : Int32)) (j + 5) 3 (-1 : Int32)) (j + 5) 4 (-1 : Int32)) (j + 5) 5 (-1 : Int32)) (j + 5) 6 (-1 : Int32)) (j + 5) 7 (-1 : Int32))
def oX0 (ok : Okk) (j : Nat) : Okk := (ou (oz (ou (oz (ou (oz (ou (oz (ou (oz (ou (oz (ou (oz (ou (oz ok (j + 1)) j 2) ((j + 1) + 1)) j 3) ((j + 1) + 2)) j 4) ((j + 1) + 3)) j 5) ((j + 1) + 4)) j 6) ((j + 1) + 5)) j 7) ((j + 1) + 6)) j 8) ((j + 1) + 7)) j 9)
set_option maxHeartbeats 4000000 in
theorem sp_X0 {Post : Nat → Mm → Okk → Prop} {M : Mm} {ok : Okk} {j : Nat} (hk : kd j = 0) (h : Post (j + 9) (mX0 M j) (oX0 ok j)) : wX0_init Post (j + 1) M ok j := by
  have hj := kd_lt hk (by omega)
  unfold wX0_init
  refine ⟨by omega, ?_⟩
  intro M1 e1; subst e1
  refine ⟨(ky_of (ci := 0) (o := 1) (c' := 8) (by omega) (by decide +kernel) hk : kd (j + 1) = 8), ?_⟩
  intro M2 ok3 e1 e2; subst e1; subst e2
  refine ⟨⟨by omega, by omega⟩, ?_⟩
  intro ok5 e1; subst e1
  refine ⟨(ky_of (ci := 0) (o := 2) (c' := 8) (by omega) (by decide +kernel) hk : kd (j + 2) = 8), ?_⟩
  intro M6 ok7 e1 e2; subst e1; subst e2
  refine ⟨⟨by omega, by omega⟩, ?_⟩
  intro ok9 e1; subst e1
  refine ⟨(ky_of (ci := 0) (o := 3) (c' := 8) (by omega) (by decide +kernel) hk : kd (j + 3) = 8), ?_⟩
  intro M10 ok11 e1 e2; subst e1; subst e2
  refine ⟨⟨by omega, by omega⟩, ?_⟩
  intro ok13 e1; subst e1
  refine ⟨(ky_of (ci := 0) (o := 4) (c' := 8) (by omega) (by decide +kernel) hk : kd (j + 4) = 8), ?_⟩
  intro M14 ok15 e1 e2; subst e1; subst e2
  refine ⟨⟨by omega, by omega⟩, ?_⟩
  intro ok17 e1; subst e1
  refine ⟨(ky_of (ci := 0) (o := 5) (c' := 8) (by omega) (by decide +kernel) hk : kd (j + 5) = 8), ?_⟩
  intro M18 ok19 e1 e2; subst e1; subst e2
  refine ⟨⟨by omega, by omega⟩, ?_⟩
  intro ok21 e1; subst e1
  refine ⟨(ky_of (ci := 0) (o := 6) (c' := 8) (by omega) (by decide +kernel) hk : kd (j + 6) = 8), ?_⟩
  intro M22 ok23 e1 e2; subst e1; subst e2
  refine ⟨⟨by omega, by omega⟩, ?_⟩
  intro ok25 e1; subst e1
  refine ⟨(ky_of (ci := 0) (o := 7) (c' := 8) (by omega) (by decide +kernel) hk : kd (j + 7) = 8), ?_⟩
  intro M26 ok27 e1 e2; subst e1; subst e2
  refine ⟨⟨by omega, by omega⟩, ?_⟩
  intro ok29 e1; subst e1
  refine ⟨(ky_of (ci := 0) (o := 8) (c' := 8) (by omega) (by decide +kernel) hk : kd (j + 8) = 8), ?_⟩
  intro M30 ok31 e1 e2; subst e1; subst e2
  refine ⟨⟨by omega, by omega⟩, ?_⟩
  intro ok33 e1; subst e1
  refine ⟨⟨by omega, (by repeat' first | assumption | exact ou_s | omega | refine ou_t ?_ | refine oz_t ?_ ?_)⟩, ?_⟩
  refine ⟨by omega, ?_⟩
  intro M34 e1; subst e1
  refine ⟨⟨by omega, (by repeat' first | assumption | exact ou_s | omega | refine ou_t ?_ | refine oz_t ?_ ?_)⟩, ?_⟩
  refine ⟨by omega, ?_⟩
  intro M35 e1; subst e1
  refine ⟨⟨by omega, (by repeat' first | assumption | exact ou_s | omega | refine ou_t ?_ | refine oz_t ?_ ?_)⟩, ?_⟩
  refine ⟨by omega, ?_⟩
  intro M36 e1; subst e1
  refine ⟨⟨by omega, (by repeat' first | assumption | exact ou_s | omega | refine ou_t ?_ | refine oz_t ?_ ?_)⟩, ?_⟩
  refine ⟨by omega, ?_⟩
  intro M37 e1; subst e1
  refine ⟨⟨by omega, (by repeat' first | assumption | exact ou_s | omega | refine ou_t ?_ | refine oz_t ?_ ?_)⟩, ?_⟩
  refine ⟨by omega, ?_⟩
  intro M38 e1; subst e1
  refine ⟨⟨by omega, (by repeat' first | assumption | exact ou_s | omega | refine ou_t ?_ | refine oz_t ?_ ?_)⟩, ?_⟩
  refine ⟨by omega, ?_⟩
  intro M39 e1; subst e1
  refine ⟨⟨by omega, (by repeat' first | assumption | exact ou_s | omega | refine ou_t ?_ | refine oz_t ?_ ?_)⟩, ?_⟩
  refine ⟨by omega, ?_⟩
  intro M40 e1; subst e1
  refine ⟨⟨by omega, (by repeat' first | assumption | exact ou_s | omega | refine ou_t ?_ | refine oz_t ?_ ?_)⟩, ?_⟩
  refine ⟨by omega, ?_⟩
  intro M41 e1; subst e1
  refine ⟨⟨by omega, (by repeat' first | assumption | exact ou_s | omega | refine ou_t ?_ | refine oz_t ?_ ?_)⟩, ?_⟩
  refine ⟨by omega, ?_⟩
  intro M42 e1; subst e1
  refine ⟨⟨by omega, (by repeat' first | assumption | exact ou_s | omega | refine ou_t ?_ | refine oz_t ?_ ?_)⟩, ?_⟩
  refine ⟨by omega, ?_⟩
  intro M43 e1; subst e1
  exact h
def mX1 (M : Mm) (j : Nat) : Mm := (mz (mz (mz (mz (mz (mz (mz M (j + 1)) ((j + 1) + 1)) ((j + 1) + 2)) ((j + 1) + 3)) ((j + 1) + 4)) ((j + 1) + 5)) ((j + 1) + 6))
def oX1 (ok : Okk) (j : Nat) : Okk := (ou (oz (ou (oz (ou (oz (ou (oz (ou (oz (ou (oz (ou (oz ok (j + 1)) j 2) ((j + 1) + 1)) j 3) ((j + 1) + 2)) j 4) ((j + 1) + 3)) j 5) ((j + 1) + 4)) j 6) ((j + 1) + 5)) j 7) ((j + 1) + 6)) j 8)
set_option maxHeartbeats 4000000 in
theorem sp_X1 {Post : Nat → Mm → Okk → Prop} {M : Mm} {ok : Okk} {j : Nat} (hk : kd j = 1) (h : Post (j + 8) (mX1 M j) (oX1 ok j)) : wX1_init Post (j + 1) M ok j := by
  have hj := kd_lt hk (by omega)
  unfold wX1_init
  refine ⟨(ky_of (ci := 1) (o := 1) (c' := 9) (by omega) (by decide +kernel) hk : kd (j + 1) = 9), ?_⟩
  intro M1 ok2 e1 e2; subst e1; subst e2
  refine ⟨⟨by omega, by omega⟩, ?_⟩
  intro ok4 e1; subst e1
  refine ⟨(ky_of (ci := 1) (o := 2) (c' := 9) (by omega) (by decide +kernel) hk : kd (j + 2) = 9), ?_⟩
  intro M5 ok6 e1 e2; subst e1; subst e2
  refine ⟨⟨by omega, by omega⟩, ?_⟩
  intro ok8 e1; subst e1
  refine ⟨(ky_of (ci := 1) (o := 3) (c' := 9) (by omega) (by decide +kernel) hk : kd (j + 3) = 9), ?_⟩
  intro M9 ok10 e1 e2; subst e1; subst e2
  refine ⟨⟨by omega, by omega⟩, ?_⟩
  intro ok12 e1; subst e1
  refine ⟨(ky_of (ci := 1) (o := 4) (c' := 9) (by omega) (by decide +kernel) hk : kd (j + 4) = 9), ?_⟩
  intro M13 ok14 e1 e2; subst e1; subst e2
  refine ⟨⟨by omega, by omega⟩, ?_⟩
  intro ok16 e1; subst e1
  refine ⟨(ky_of (ci := 1) (o := 5) (c' := 9) (by omega) (by decide +kernel) hk : kd (j + 5) = 9), ?_⟩
  intro M17 ok18 e1 e2; subst e1; subst e2
  refine ⟨⟨by omega, by omega⟩, ?_⟩
  intro ok20 e1; subst e1
  refine ⟨(ky_of (ci := 1) (o := 6) (c' := 9) (by omega) (by decide +kernel) hk : kd (j + 6) = 9), ?_⟩
  intro M21 ok22 e1 e2; subst e1; subst e2
  refine ⟨⟨by omega, by omega⟩, ?_⟩
  intro ok24 e1; subst e1
  refine ⟨(ky_of (ci := 1) (o := 7) (c' := 9) (by omega) (by decide +kernel) hk : kd (j + 7) = 9), ?_⟩
  intro M25 ok26 e1 e2; subst e1; subst e2
  refine ⟨⟨by omega, by omega⟩, ?_⟩
  intro ok28 e1; subst e1
  exact h
def mX5 (M : Mm) (j : Nat) : Mm := (mz (mz M (j + 1)) ((j + 1) + 1))
def oX5 (ok : Okk) (j : Nat) : Okk := (ou (oz (ou (oz ok (j + 1)) j 3) ((j + 1) + 1)) j 4)
set_option maxHeartbeats 4000000 in
theorem sp_X5 {Post : Nat → Mm → Okk → Prop} {M : Mm} {ok : Okk} {j : Nat} (hk : kd j = 5) (h : Post (j + 3) (mX5 M j) (oX5 ok j)) : wX5_init Post (j + 1) M ok j := by
  have hj := kd_lt hk (by omega)
  unfold wX5_init
  refine ⟨(ky_of (ci := 5) (o := 1) (c' := 8) (by omega) (by decide +kernel) hk : kd (j + 1) = 8), ?_⟩
  intro M1 ok2 e1 e2; subst e1; subst e2
  refine ⟨⟨by omega, by omega⟩, ?_⟩
  intro ok4 e1; subst e1
  refine ⟨(ky_of (ci := 5) (o := 2) (c' := 8) (by omega) (by decide +kernel) hk : kd (j + 2) = 8), ?_⟩
  intro M5 ok6 e1 e2; subst e1; subst e2
  refine ⟨⟨by omega, by omega⟩, ?_⟩
  intro ok8 e1; subst e1
  exact h
def mX4 (M : Mm) (j : Nat) : Mm := (mz (mz (mX5 ((mz (mX1 ((mz (mX0 ((mz M (j + 1))) (j + 1)) (j + 10))) (j + 10)) (j + 18))) (j + 18)) (j + 21)) ((j + 21) + 1))
def oX4 (ok : Okk) (j : Nat) : Okk := (ou (oz (ou (oz (ou (oX5 ((oz (ou (oX1 ((oz (ou (oX0 ((oz ok (j + 1))) (j + 1)) j 0) (j + 10))) (j + 10)) j 1) (j + 18))) (j + 18)) j 2) (j + 21)) j 8) ((j + 21) + 1)) j 9)
set_option maxHeartbeats 4000000 in
theorem sp_X4 {Post : Nat → Mm → Okk → Prop} {M : Mm} {ok : Okk} {j : Nat} (hk : kd j = 4) (h : Post (j + 23) (mX4 M j) (oX4 ok j)) : wX4_init Post (j + 1) M ok j := by
  have hj := kd_lt hk (by omega)
  unfold wX4_init
  refine ⟨(ky_of (ci := 4) (o := 1) (c' := 0) (by omega) (by decide +kernel) hk : kd (j + 1) = 0), ?_⟩
  intro M2 ok3 e1 e2; subst e1; subst e2
  refine ⟨by omega, ?_⟩
  refine sp_X0 (j := j + 1) (ky_of (ci := 4) (o := 1) (c' := 0) (by omega) (by decide +kernel) hk) ?_
  refine ⟨⟨by omega, by omega⟩, ?_⟩
  intro ok8 e1; subst e1
  refine ⟨(ky_of (ci := 4) (o := 10) (c' := 1) (by omega) (by decide +kernel) hk : kd (j + 10) = 1), ?_⟩
  intro M10 ok11 e1 e2; subst e1; subst e2
  refine ⟨by omega, ?_⟩
  refine sp_X1 (j := j + 10) (ky_of (ci := 4) (o := 10) (c' := 1) (by omega) (by decide +kernel) hk) ?_
  refine ⟨⟨by omega, by omega⟩, ?_⟩
  intro ok16 e1; subst e1
  refine ⟨(ky_of (ci := 4) (o := 18) (c' := 5) (by omega) (by decide +kernel) hk : kd (j + 18) = 5), ?_⟩
  intro M18 ok19 e1 e2; subst e1; subst e2
  refine ⟨by omega, ?_⟩
  refine sp_X5 (j := j + 18) (ky_of (ci := 4) (o := 18) (c' := 5) (by omega) (by decide +kernel) hk) ?_
  refine ⟨⟨by omega, by omega⟩, ?_⟩
  intro ok24 e1; subst e1
  refine ⟨(ky_of (ci := 4) (o := 21) (c' := 8) (by omega) (by decide +kernel) hk : kd (j + 21) = 8), ?_⟩
  intro M25 ok26 e1 e2; subst e1; subst e2
  refine ⟨⟨by omega, by omega⟩, ?_⟩
  intro ok28 e1; subst e1
  refine ⟨(ky_of (ci := 4) (o := 22) (c' := 8) (by omega) (by decide +kernel) hk : kd (j + 22) = 8), ?_⟩
  intro M29 ok30 e1 e2; subst e1; subst e2
  refine ⟨⟨by omega, by omega⟩, ?_⟩
  intro ok32 e1; subst e1
  exact h
theorem oX4_t {ok : Okk} {j a b : Nat} (hn : a < j) (h : ok a b = true) : oX4 ok j a b = true := by
  unfold oX4 oX0 oX1 oX5
  repeat' first | assumption | omega | refine ou_t ?_ | refine oz_t ?_ ?_
def mX2 (M : Mm) (j : Nat) : Mm := (mu (mX4 ((mz (mu (mX4 ((mz (mu (mX4 ((mz (mu (mX4 ((mz (mz M (j + 1)) ((j + 1) + 1))) (j + 2)) (j + 1) 0 (nI ((j + 1) + 1))) (j + 25))) (j + 25)) (j + 1) 1 (nI (j + 25))) (j + 48))) (j + 48)) (j + 1) 2 (nI (j + 48))) (j + 71))) (j + 71)) (j + 1) 3 (nI (j + 71)))
def oX2 (ok : Okk) (j : Nat) : Okk := (ou (oX4 ((oz (ou (oX4 ((oz (ou (oX4 ((oz (ou (oX4 ((oz (ou (oz ok (j + 1)) j 1) ((j + 1) + 1))) (j + 2)) (j + 1) 0) (j + 25))) (j + 25)) (j + 1) 1) (j + 48))) (j + 48)) (j + 1) 2) (j + 71))) (j + 71)) (j + 1) 3)
set_option maxHeartbeats 4000000 in
theorem sp_X2 {Post : Nat → Mm → Okk → Prop} {M : Mm} {ok : Okk} {j : Nat} (hk : kd j = 2) (h : Post (j + 94) (mX2 M j) (oX2 ok j)) : wX2_init Post (j + 1) M ok j := by
  have hj := kd_lt hk (by omega)
  unfold wX2_init
  refine ⟨(ky_of (ci := 2) (o := 1) (c' := 11) (by omega) (by decide +kernel) hk : kd (j + 1) = 11), ?_⟩
  intro M1 ok2 e1 e2; subst e1; subst e2
  refine ⟨⟨by omega, by omega⟩, ?_⟩
  intro ok4 e1; subst e1
  refine ⟨⟨by omega, (by repeat' first | assumption | exact ou_s | omega | refine oX4_t ?_ ?_ | refine ou_t ?_ | refine oz_t ?_ ?_)⟩, ?_⟩
  refine ⟨(ky_of (ci := 2) (o := 2) (c' := 4) (by omega) (by decide +kernel) hk : kd (j + 2) = 4), ?_⟩
  intro M6 ok7 e1 e2; subst e1; subst e2
  refine ⟨by omega, ?_⟩
  refine sp_X4 (j := j + 2) (ky_of (ci := 2) (o := 2) (c' := 4) (by omega) (by decide +kernel) hk) ?_
  refine ⟨⟨by omega, by omega, by omega⟩, ?_⟩
  intro M12 ok13 e1 e2; subst e1; subst e2
  refine ⟨⟨by omega, (by repeat' first | assumption | exact ou_s | omega | refine oX4_t ?_ ?_ | refine ou_t ?_ | refine oz_t ?_ ?_)⟩, ?_⟩
  refine ⟨(ky_of (ci := 2) (o := 25) (c' := 4) (by omega) (by decide +kernel) hk : kd (j + 25) = 4), ?_⟩
  intro M15 ok16 e1 e2; subst e1; subst e2
  refine ⟨by omega, ?_⟩
  refine sp_X4 (j := j + 25) (ky_of (ci := 2) (o := 25) (c' := 4) (by omega) (by decide +kernel) hk) ?_
  refine ⟨⟨by omega, by omega, by omega⟩, ?_⟩
  intro M21 ok22 e1 e2; subst e1; subst e2
  refine ⟨⟨by omega, (by repeat' first | assumption | exact ou_s | omega | refine oX4_t ?_ ?_ | refine ou_t ?_ | refine oz_t ?_ ?_)⟩, ?_⟩
  refine ⟨(ky_of (ci := 2) (o := 48) (c' := 4) (by omega) (by decide +kernel) hk : kd (j + 48) = 4), ?_⟩
  intro M24 ok25 e1 e2; subst e1; subst e2
  refine ⟨by omega, ?_⟩
  refine sp_X4 (j := j + 48) (ky_of (ci := 2) (o := 48) (c' := 4) (by omega) (by decide +kernel) hk) ?_
  refine ⟨⟨by omega, by omega, by omega⟩, ?_⟩
  intro M30 ok31 e1 e2; subst e1; subst e2
  refine ⟨⟨by omega, (by repeat' first | assumption | exact ou_s | omega | refine oX4_t ?_ ?_ | refine ou_t ?_ | refine oz_t ?_ ?_)⟩, ?_⟩
  refine ⟨(ky_of (ci := 2) (o := 71) (c' := 4) (by omega) (by decide +kernel) hk : kd (j + 71) = 4), ?_⟩
  intro M33 ok34 e1 e2; subst e1; subst e2
  refine ⟨by omega, ?_⟩
  refine sp_X4 (j := j + 71) (ky_of (ci := 2) (o := 71) (c' := 4) (by omega) (by decide +kernel) hk) ?_
  refine ⟨⟨by omega, by omega, by omega⟩, ?_⟩
  intro M39 ok40 e1 e2; subst e1; subst e2
  exact h
def mX3 (M : Mm) (j : Nat) : Mm := (mz M (j + 1))
def oX3 (ok : Okk) (j : Nat) : Okk := (ou (oz ok (j + 1)) j 1)
set_option maxHeartbeats 4000000 in
theorem sp_X3 {Post : Nat → Mm → Okk → Prop} {M : Mm} {ok : Okk} {j : Nat} (hk : kd j = 3) (h : Post (j + 2) (mX3 M j) (oX3 ok j)) : wX3_init Post (j + 1) M ok j := by
  have hj := kd_lt hk (by omega)
  unfold wX3_init
  refine ⟨(ky_of (ci := 3) (o := 1) (c' := 10) (by omega) (by decide +kernel) hk : kd (j + 1) = 10), ?_⟩
  intro M1 ok2 e1 e2; subst e1; subst e2
  refine ⟨⟨by omega, by omega⟩, ?_⟩
  intro ok4 e1; subst e1
  exact h
def mX6 (M : Mm) (j : Nat) : Mm := (mX3 ((mz (mX2 ((mz (mX4 ((mz (mX4 ((mz M (j + 1))) (j + 1)) (j + 24))) (j + 24)) (j + 47))) (j + 47)) (j + 141))) (j + 141))
def oX6 (ok : Okk) (j : Nat) : Okk := (ou (oX3 ((oz (ou (oX2 ((oz (ou (oX4 ((oz (ou (oX4 ((oz ok (j + 1))) (j + 1)) j 0) (j + 24))) (j + 24)) j 1) (j + 47))) (j + 47)) j 2) (j + 141))) (j + 141)) j 3)
set_option maxHeartbeats 4000000 in
theorem sp_X6 {Post : Nat → Mm → Okk → Prop} {M : Mm} {ok : Okk} {j : Nat} (hk : kd j = 6) (h : Post (j + 143) (mX6 M j) (oX6 ok j)) : wX6_init Post (j + 1) M ok j := by
  have hj := kd_lt hk (by omega)
  unfold wX6_init
  refine ⟨(ky_of (ci := 6) (o := 1) (c' := 4) (by omega) (by decide +kernel) hk : kd (j + 1) = 4), ?_⟩
  intro M2 ok3 e1 e2; subst e1; subst e2
  refine ⟨by omega, ?_⟩
  refine sp_X4 (j := j + 1) (ky_of (ci := 6) (o := 1) (c' := 4) (by omega) (by decide +kernel) hk) ?_
  refine ⟨⟨by omega, by omega⟩, ?_⟩
  intro ok8 e1; subst e1
  refine ⟨(ky_of (ci := 6) (o := 24) (c' := 4) (by omega) (by decide +kernel) hk : kd (j + 24) = 4), ?_⟩
  intro M10 ok11 e1 e2; subst e1; subst e2
  refine ⟨by omega, ?_⟩
  refine sp_X4 (j := j + 24) (ky_of (ci := 6) (o := 24) (c' := 4) (by omega) (by decide +kernel) hk) ?_
  refine ⟨⟨by omega, by omega⟩, ?_⟩
  intro ok16 e1; subst e1
  refine ⟨(ky_of (ci := 6) (o := 47) (c' := 2) (by omega) (by decide +kernel) hk : kd (j + 47) = 2), ?_⟩
  intro M18 ok19 e1 e2; subst e1; subst e2
  refine ⟨by omega, ?_⟩
  refine sp_X2 (j := j + 47) (ky_of (ci := 6) (o := 47) (c' := 2) (by omega) (by decide +kernel) hk) ?_
  refine ⟨⟨by omega, by omega⟩, ?_⟩
  intro ok24 e1; subst e1
  refine ⟨(ky_of (ci := 6) (o := 141) (c' := 3) (by omega) (by decide +kernel) hk : kd (j + 141) = 3), ?_⟩
  intro M26 ok27 e1 e2; subst e1; subst e2
  refine ⟨by omega, ?_⟩
  refine sp_X3 (j := j + 141) (ky_of (ci := 6) (o := 141) (c' := 3) (by omega) (by decide +kernel) hk) ?_
  refine ⟨⟨by omega, by omega⟩, ?_⟩
  intro ok32 e1; subst e1
  exact h
def MF : Mm := mX6 (mz (fun _ _ => 0) 0) 0
def OF : Okk := oX6 (oz (fun _ _ => false) 0) 0
