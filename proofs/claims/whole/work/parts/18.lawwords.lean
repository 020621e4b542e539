/-! the law, as a predicate: printed by gen.py -/
def bL_law (xs : Nat → Int32) (L : Nat) (A : Mm → Int32 → Prop) (M : Mm) (x3 : Int32) : Prop :=
  ((((Int32.ofNat L) - (5 : Int32)) < x3 → True) ∧
  (¬ ((Int32.ofNat L) - (5 : Int32)) < x3 → vp_in x3 L ∧ (∀ sw2 : Int32, sw2 = ((xs (ix x3)) &&& (31 : Int32)) → (((sw2 = (0 : Int32) → vp_in (x3 + (1 : Int32)) L ∧ (vp_in (x3 + (2 : Int32)) L ∧ (vp_in (x3 + (3 : Int32)) L ∧ (vp_in (x3 + (4 : Int32)) L ∧ (wX6_canal (fun M4 r5 => vp_in (x3 + (1 : Int32)) L ∧ (vp_in (x3 + (2 : Int32)) L ∧ (vp_in (x3 + (3 : Int32)) L ∧ (vp_in (x3 + (4 : Int32)) L ∧ (wX7_canal (fun M6 r7 => ((r5 = r7 → ∀ x3_9 : Int32, x3_9 = x3 + (5 : Int32) → (A M6 x3_9)) ∧
  (¬ r5 = r7 → False))) M4 143 (xs (ix (x3 + (1 : Int32)))) (xs (ix (x3 + (2 : Int32)))) (xs (ix (x3 + (3 : Int32)))) (xs (ix (x3 + (4 : Int32))))))))) M 0 (xs (ix (x3 + (1 : Int32)))) (xs (ix (x3 + (2 : Int32)))) (xs (ix (x3 + (3 : Int32)))) (xs (ix (x3 + (4 : Int32))))))))) ∧
  (¬ sw2 = (0 : Int32) → ((sw2 = (1 : Int32) → vp_in (x3 + (1 : Int32)) L ∧ (vp_in (x3 + (2 : Int32)) L ∧ (vp_in (x3 + (3 : Int32)) L ∧ (vp_in (x3 + (4 : Int32)) L ∧ (wX6_field (fun M11 r12 => vp_in (x3 + (1 : Int32)) L ∧ (vp_in (x3 + (2 : Int32)) L ∧ (vp_in (x3 + (3 : Int32)) L ∧ (vp_in (x3 + (4 : Int32)) L ∧ (wX7_field (fun M13 r14 => ((r12 = r14 → ∀ x3_16 : Int32, x3_16 = x3 + (5 : Int32) → (A M13 x3_16)) ∧
  (¬ r12 = r14 → False))) M11 143 (xs (ix (x3 + (1 : Int32)))) (xs (ix (x3 + (2 : Int32)))) (xs (ix (x3 + (3 : Int32)))) (xs (ix (x3 + (4 : Int32))))))))) M 0 (xs (ix (x3 + (1 : Int32)))) (xs (ix (x3 + (2 : Int32)))) (xs (ix (x3 + (3 : Int32)))) (xs (ix (x3 + (4 : Int32))))))))) ∧
  (¬ sw2 = (1 : Int32) → ((sw2 = (2 : Int32) → vp_in (x3 + (1 : Int32)) L ∧ (vp_in (x3 + (2 : Int32)) L ∧ (wX6_tend (fun M18 r19 => vp_in (x3 + (1 : Int32)) L ∧ (vp_in (x3 + (2 : Int32)) L ∧ (wX7_tend (fun M20 r21 => ((r19 = r21 → ∀ x3_23 : Int32, x3_23 = x3 + (5 : Int32) → (A M20 x3_23)) ∧
  (¬ r19 = r21 → False))) M18 143 (xs (ix (x3 + (1 : Int32)))) (xs (ix (x3 + (2 : Int32))))))) M 0 (xs (ix (x3 + (1 : Int32)))) (xs (ix (x3 + (2 : Int32))))))) ∧
  (¬ sw2 = (2 : Int32) → ((sw2 = (3 : Int32) → vp_in (x3 + (1 : Int32)) L ∧ (wX6_leave (fun M25 r26 => vp_in (x3 + (1 : Int32)) L ∧ (wX7_leave (fun M27 r28 => ((r26 = r28 → ∀ x3_30 : Int32, x3_30 = x3 + (5 : Int32) → (A M27 x3_30)) ∧
  (¬ r26 = r28 → False))) M25 143 (xs (ix (x3 + (1 : Int32)))))) M 0 (xs (ix (x3 + (1 : Int32)))))) ∧
  (¬ sw2 = (3 : Int32) → ((sw2 = (4 : Int32) → vp_in (x3 + (1 : Int32)) L ∧ (wX6_open (fun M32 r33 => vp_in (x3 + (1 : Int32)) L ∧ (wX7_open (fun M34 r35 => ((r33 = r35 → ∀ x3_37 : Int32, x3_37 = x3 + (5 : Int32) → (A M34 x3_37)) ∧
  (¬ r33 = r35 → False))) M32 143 (xs (ix (x3 + (1 : Int32)))))) M 0 (xs (ix (x3 + (1 : Int32)))))) ∧
  (¬ sw2 = (4 : Int32) → ((sw2 = (5 : Int32) → vp_in (x3 + (1 : Int32)) L ∧ (wX6_close (fun M39 r40 => vp_in (x3 + (1 : Int32)) L ∧ (wX7_close (fun M41 r42 => ((r40 = r42 → ∀ x3_44 : Int32, x3_44 = x3 + (5 : Int32) → (A M41 x3_44)) ∧
  (¬ r40 = r42 → False))) M39 143 (xs (ix (x3 + (1 : Int32)))))) M 0 (xs (ix (x3 + (1 : Int32)))))) ∧
  (¬ sw2 = (5 : Int32) → ((sw2 = (6 : Int32) → vp_in (x3 + (1 : Int32)) L ∧ (wX6_call (fun M46 r47 => vp_in (x3 + (1 : Int32)) L ∧ (wX7_call (fun M48 r49 => ((r47 = r49 → ∀ x3_51 : Int32, x3_51 = x3 + (5 : Int32) → (A M48 x3_51)) ∧
  (¬ r47 = r49 → False))) M46 143 (xs (ix (x3 + (1 : Int32)))))) M 0 (xs (ix (x3 + (1 : Int32)))))) ∧
  (¬ sw2 = (6 : Int32) → ((sw2 = (7 : Int32) → vp_in (x3 + (1 : Int32)) L ∧ (vp_in (x3 + (2 : Int32)) L ∧ (wX6_turn (fun M53 r54 => vp_in (x3 + (1 : Int32)) L ∧ (vp_in (x3 + (2 : Int32)) L ∧ (wX7_turn (fun M55 r56 => ((r54 = r56 → ∀ x3_58 : Int32, x3_58 = x3 + (5 : Int32) → (A M55 x3_58)) ∧
  (¬ r54 = r56 → False))) M53 143 (xs (ix (x3 + (1 : Int32)))) (xs (ix (x3 + (2 : Int32))))))) M 0 (xs (ix (x3 + (1 : Int32)))) (xs (ix (x3 + (2 : Int32))))))) ∧
  (¬ sw2 = (7 : Int32) → ((sw2 = (8 : Int32) → wX6_noTurns (fun M60 r61 => wX7_noTurns (fun M62 r63 => ((r61 = r63 → ∀ x3_65 : Int32, x3_65 = x3 + (5 : Int32) → (A M62 x3_65)) ∧
  (¬ r61 = r63 → False))) M60 143) M 0) ∧
  (¬ sw2 = (8 : Int32) → ((sw2 = (9 : Int32) → vp_in (x3 + (1 : Int32)) L ∧ (wX6_hour (fun M67 r68 => vp_in (x3 + (1 : Int32)) L ∧ (wX7_hour (fun M69 r70 => ((r68 = r70 → ∀ x3_72 : Int32, x3_72 = x3 + (5 : Int32) → (A M69 x3_72)) ∧
  (¬ r68 = r70 → False))) M67 143 (xs (ix (x3 + (1 : Int32)))))) M 0 (xs (ix (x3 + (1 : Int32)))))) ∧
  (¬ sw2 = (9 : Int32) → ((sw2 = (10 : Int32) → vp_in (x3 + (1 : Int32)) L ∧ (vp_in (x3 + (2 : Int32)) L ∧ (wX6_run (fun M74 r75 => vp_in (x3 + (1 : Int32)) L ∧ (vp_in (x3 + (2 : Int32)) L ∧ (wX7_run (fun M76 r77 => ((r75 = r77 → ∀ x3_79 : Int32, x3_79 = x3 + (5 : Int32) → (A M76 x3_79)) ∧
  (¬ r75 = r77 → False))) M74 143 (xs (ix (x3 + (1 : Int32)))) (xs (ix (x3 + (2 : Int32))))))) M 0 (xs (ix (x3 + (1 : Int32)))) (xs (ix (x3 + (2 : Int32))))))) ∧
  (¬ sw2 = (10 : Int32) → ((sw2 = (11 : Int32) → vp_in (x3 + (1 : Int32)) L ∧ (vp_in (x3 + (2 : Int32)) L ∧ (wX6_canalOf (fun M81 r82 => vp_in (x3 + (1 : Int32)) L ∧ (vp_in (x3 + (2 : Int32)) L ∧ (wX7_canalOf (fun M83 r84 => ((r82 = r84 → ∀ x3_86 : Int32, x3_86 = x3 + (5 : Int32) → (A M83 x3_86)) ∧
  (¬ r82 = r84 → False))) M81 143 (xs (ix (x3 + (1 : Int32)))) (xs (ix (x3 + (2 : Int32))))))) M 0 (xs (ix (x3 + (1 : Int32)))) (xs (ix (x3 + (2 : Int32))))))) ∧
  (¬ sw2 = (11 : Int32) → ((sw2 = (12 : Int32) → vp_in (x3 + (1 : Int32)) L ∧ (vp_in (x3 + (2 : Int32)) L ∧ (wX6_fieldOf (fun M88 r89 => vp_in (x3 + (1 : Int32)) L ∧ (vp_in (x3 + (2 : Int32)) L ∧ (wX7_fieldOf (fun M90 r91 => ((r89 = r91 → ∀ x3_93 : Int32, x3_93 = x3 + (5 : Int32) → (A M90 x3_93)) ∧
  (¬ r89 = r91 → False))) M88 143 (xs (ix (x3 + (1 : Int32)))) (xs (ix (x3 + (2 : Int32))))))) M 0 (xs (ix (x3 + (1 : Int32)))) (xs (ix (x3 + (2 : Int32))))))) ∧
  (¬ sw2 = (12 : Int32) → ((sw2 = (13 : Int32) → vp_in (x3 + (1 : Int32)) L ∧ (vp_in (x3 + (2 : Int32)) L ∧ (wX6_turnOf (fun M95 r96 => vp_in (x3 + (1 : Int32)) L ∧ (vp_in (x3 + (2 : Int32)) L ∧ (wX7_turnOf (fun M97 r98 => ((r96 = r98 → ∀ x3_100 : Int32, x3_100 = x3 + (5 : Int32) → (A M97 x3_100)) ∧
  (¬ r96 = r98 → False))) M95 143 (xs (ix (x3 + (1 : Int32)))) (xs (ix (x3 + (2 : Int32))))))) M 0 (xs (ix (x3 + (1 : Int32)))) (xs (ix (x3 + (2 : Int32))))))) ∧
  (¬ sw2 = (13 : Int32) → ((sw2 = (14 : Int32) → vp_in (x3 + (1 : Int32)) L ∧ (wX6_share (fun M102 r103 => vp_in (x3 + (1 : Int32)) L ∧ (wX7_share (fun M104 r105 => ((r103 = r105 → ∀ x3_107 : Int32, x3_107 = x3 + (5 : Int32) → (A M104 x3_107)) ∧
  (¬ r103 = r105 → False))) M102 143 (xs (ix (x3 + (1 : Int32)))))) M 0 (xs (ix (x3 + (1 : Int32)))))) ∧
  (¬ sw2 = (14 : Int32) → ((sw2 = (15 : Int32) → vp_in (x3 + (1 : Int32)) L ∧ (vp_in (x3 + (2 : Int32)) L ∧ (vp_in (x3 + (3 : Int32)) L ∧ (wX6_would (fun M109 r110 => vp_in (x3 + (1 : Int32)) L ∧ (vp_in (x3 + (2 : Int32)) L ∧ (vp_in (x3 + (3 : Int32)) L ∧ (wX7_would (fun M111 r112 => ((r110 = r112 → ∀ x3_114 : Int32, x3_114 = x3 + (5 : Int32) → (A M111 x3_114)) ∧
  (¬ r110 = r112 → False))) M109 143 (xs (ix (x3 + (1 : Int32)))) (xs (ix (x3 + (2 : Int32)))) (xs (ix (x3 + (3 : Int32)))))))) M 0 (xs (ix (x3 + (1 : Int32)))) (xs (ix (x3 + (2 : Int32)))) (xs (ix (x3 + (3 : Int32)))))))) ∧
  (¬ sw2 = (15 : Int32) → ((sw2 = (16 : Int32) → vp_in (x3 + (1 : Int32)) L ∧ (vp_in (x3 + (2 : Int32)) L ∧ (vp_in (x3 + (3 : Int32)) L ∧ (wX6_leastGates (fun M116 r117 => vp_in (x3 + (1 : Int32)) L ∧ (vp_in (x3 + (2 : Int32)) L ∧ (vp_in (x3 + (3 : Int32)) L ∧ (wX7_leastGates (fun M118 r119 => ((r117 = r119 → ∀ x3_121 : Int32, x3_121 = x3 + (5 : Int32) → (A M118 x3_121)) ∧
  (¬ r117 = r119 → False))) M116 143 (xs (ix (x3 + (1 : Int32)))) (xs (ix (x3 + (2 : Int32)))) (xs (ix (x3 + (3 : Int32)))))))) M 0 (xs (ix (x3 + (1 : Int32)))) (xs (ix (x3 + (2 : Int32)))) (xs (ix (x3 + (3 : Int32)))))))) ∧
  (¬ sw2 = (16 : Int32) → ((sw2 = (17 : Int32) → vp_in (x3 + (1 : Int32)) L ∧ (wX6_fewestBuckets (fun M123 r124 => vp_in (x3 + (1 : Int32)) L ∧ (wX7_fewestBuckets (fun M125 r126 => ((r124 = r126 → ∀ x3_128 : Int32, x3_128 = x3 + (5 : Int32) → (A M125 x3_128)) ∧
  (¬ r124 = r126 → False))) M123 143 (xs (ix (x3 + (1 : Int32)))))) M 0 (xs (ix (x3 + (1 : Int32)))))) ∧
  (¬ sw2 = (17 : Int32) → ((sw2 = (18 : Int32) → vp_in (x3 + (1 : Int32)) L ∧ (wX6_hoursFor (fun M130 r131 => vp_in (x3 + (1 : Int32)) L ∧ (wX7_hoursFor (fun M132 r133 => ((r131 = r133 → ∀ x3_135 : Int32, x3_135 = x3 + (5 : Int32) → (A M132 x3_135)) ∧
  (¬ r131 = r133 → False))) M130 143 (xs (ix (x3 + (1 : Int32)))))) M 0 (xs (ix (x3 + (1 : Int32)))))) ∧
  (¬ sw2 = (18 : Int32) → ((sw2 = (19 : Int32) → vp_in (x3 + (1 : Int32)) L ∧ (wX6_rightAt (fun M137 r138 => vp_in (x3 + (1 : Int32)) L ∧ (wX7_rightAt (fun M139 r140 => ((r138 = r140 → ∀ x3_142 : Int32, x3_142 = x3 + (5 : Int32) → (A M139 x3_142)) ∧
  (¬ r138 = r140 → False))) M137 143 (xs (ix (x3 + (1 : Int32)))))) M 0 (xs (ix (x3 + (1 : Int32)))))) ∧
  (¬ sw2 = (19 : Int32) → ((sw2 = (20 : Int32) → vp_in (x3 + (1 : Int32)) L ∧ (wX6_count (fun M144 r145 => vp_in (x3 + (1 : Int32)) L ∧ (wX7_count (fun M146 r147 => ((r145 = r147 → ∀ x3_149 : Int32, x3_149 = x3 + (5 : Int32) → (A M146 x3_149)) ∧
  (¬ r145 = r147 → False))) M144 143 (xs (ix (x3 + (1 : Int32)))))) M 0 (xs (ix (x3 + (1 : Int32)))))) ∧
  (¬ sw2 = (20 : Int32) → ((sw2 = (21 : Int32) → wX6_undo (fun M151 r152 => wX7_undo (fun M153 r154 => ((r152 = r154 → ∀ x3_156 : Int32, x3_156 = x3 + (5 : Int32) → (A M153 x3_156)) ∧
  (¬ r152 = r154 → False))) M151 143) M 0) ∧
  (¬ sw2 = (21 : Int32) → ((sw2 = (22 : Int32) → vp_in (x3 + (1 : Int32)) L ∧ (wX6_type (fun M158 r159 => vp_in (x3 + (1 : Int32)) L ∧ (wX7_type (fun M160 r161 => ((r159 = r161 → ∀ x3_163 : Int32, x3_163 = x3 + (5 : Int32) → (A M160 x3_163)) ∧
  (¬ r159 = r161 → False))) M158 143 (xs (ix (x3 + (1 : Int32)))))) M 0 (xs (ix (x3 + (1 : Int32)))))) ∧
  (¬ sw2 = (22 : Int32) → ((sw2 = (23 : Int32) → wX6_clearText (fun M165 r166 => wX7_clearText (fun M167 r168 => ((r166 = r168 → ∀ x3_170 : Int32, x3_170 = x3 + (5 : Int32) → (A M167 x3_170)) ∧
  (¬ r166 = r168 → False))) M165 143) M 0) ∧
  (¬ sw2 = (23 : Int32) → ((sw2 = (24 : Int32) → vp_in (x3 + (1 : Int32)) L ∧ (wX6_fault (fun M172 r173 => vp_in (x3 + (1 : Int32)) L ∧ (wX7_fault (fun M174 r175 => ((r173 = r175 → ∀ x3_177 : Int32, x3_177 = x3 + (5 : Int32) → (A M174 x3_177)) ∧
  (¬ r173 = r175 → False))) M172 143 (xs (ix (x3 + (1 : Int32)))))) M 0 (xs (ix (x3 + (1 : Int32)))))) ∧
  (¬ sw2 = (24 : Int32) → ((sw2 = (25 : Int32) → wX6_play (fun M179 r180 => wX7_play (fun M181 r182 => ((r180 = r182 → ∀ x3_184 : Int32, x3_184 = x3 + (5 : Int32) → (A M181 x3_184)) ∧
  (¬ r180 = r182 → False))) M179 143) M 0) ∧
  (¬ sw2 = (25 : Int32) → ∀ x3_185 : Int32, x3_185 = x3 + (5 : Int32) → (A M x3_185)))))))))))))))))))))))))))))))))))))))))))))))))))))))))
def lL_law (xs : Nat → Int32) (L : Nat) : Nat → Mm → Int32 → Prop
  | 0 => fun _ _ => False
  | n + 1 => fun M x3 => bL_law xs L (lL_law xs L n) M x3
