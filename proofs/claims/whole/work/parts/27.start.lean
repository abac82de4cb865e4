/-! THE START: what the tables and the premises say, and the law from its entry -/
def fN_ : List Cond := flatC (Jvm.Cond.and given_1 narrow_1)
def tm_ (i : Nat) : Term := .string (sOwn_ i) (sIdx_ i)
abbrev tv_ (i : Nat) : Term := .field (tm_ i) "java/lang/String" "value" "[B"
set_option maxRecDepth 100000 in
theorem fs_1 : ∀ i, i < 13 → Cond.exactly (tm_ i) "java/lang/String" ∈ fN_ ∧ Cond.eq (.field (tm_ i) "java/lang/String" "coder" "B") (.int 0) ∈ fN_ ∧ Cond.arrayOf (tv_ i) .byte ∈ fN_ ∧ Cond.eq (.length (tv_ i)) (.int (Int32.ofNat (sLen_.getD i 0))) ∈ fN_ := by decide +kernel
set_option maxRecDepth 100000 in
theorem fs_2 : ∀ i, i < 13 → ∀ j, j < sLen_.getD i 0 → Cond.eq (.elem (tv_ i) (.int (Int32.ofNat j))) (.int ((sByt_.getD i []).getD j 0)) ∈ fN_ := by decide +kernel
set_option maxRecDepth 100000 in
theorem nq_0_1 : Cond.not (Cond.eq (tm_ 0) (tm_ 1)) ∈ fN_ := List.mem_of_getElem? (i := 104) (by decide +kernel)
set_option maxRecDepth 100000 in
theorem nq_0_2 : Cond.not (Cond.eq (tm_ 0) (tm_ 2)) ∈ fN_ := List.mem_of_getElem? (i := 115) (by decide +kernel)
set_option maxRecDepth 100000 in
theorem nq_0_3 : Cond.not (Cond.eq (tm_ 0) (tm_ 3)) ∈ fN_ := List.mem_of_getElem? (i := 127) (by decide +kernel)
set_option maxRecDepth 100000 in
theorem nq_0_4 : Cond.not (Cond.eq (tm_ 0) (tm_ 4)) ∈ fN_ := List.mem_of_getElem? (i := 137) (by decide +kernel)
set_option maxRecDepth 100000 in
theorem nq_0_5 : Cond.not (Cond.eq (tm_ 0) (tm_ 5)) ∈ fN_ := List.mem_of_getElem? (i := 150) (by decide +kernel)
set_option maxRecDepth 100000 in
theorem nq_0_6 : Cond.not (Cond.eq (tm_ 0) (tm_ 6)) ∈ fN_ := List.mem_of_getElem? (i := 164) (by decide +kernel)
set_option maxRecDepth 100000 in
theorem nq_0_7 : Cond.not (Cond.eq (tm_ 0) (tm_ 7)) ∈ fN_ := List.mem_of_getElem? (i := 179) (by decide +kernel)
set_option maxRecDepth 100000 in
theorem nq_0_8 : Cond.not (Cond.eq (tm_ 0) (tm_ 8)) ∈ fN_ := List.mem_of_getElem? (i := 196) (by decide +kernel)
set_option maxRecDepth 100000 in
theorem nq_0_9 : Cond.not (Cond.eq (tm_ 0) (tm_ 9)) ∈ fN_ := List.mem_of_getElem? (i := 213) (by decide +kernel)
set_option maxRecDepth 100000 in
theorem nq_0_10 : Cond.not (Cond.eq (tm_ 0) (tm_ 10)) ∈ fN_ := List.mem_of_getElem? (i := 228) (by decide +kernel)
set_option maxRecDepth 100000 in
theorem nq_0_11 : Cond.not (Cond.eq (tm_ 0) (tm_ 11)) ∈ fN_ := List.mem_of_getElem? (i := 245) (by decide +kernel)
set_option maxRecDepth 100000 in
theorem nq_0_12 : Cond.not (Cond.eq (tm_ 0) (tm_ 12)) ∈ fN_ := List.mem_of_getElem? (i := 263) (by decide +kernel)
set_option maxRecDepth 100000 in
theorem nq_1_2 : Cond.not (Cond.eq (tm_ 1) (tm_ 2)) ∈ fN_ := List.mem_of_getElem? (i := 116) (by decide +kernel)
set_option maxRecDepth 100000 in
theorem nq_1_3 : Cond.not (Cond.eq (tm_ 1) (tm_ 3)) ∈ fN_ := List.mem_of_getElem? (i := 128) (by decide +kernel)
set_option maxRecDepth 100000 in
theorem nq_1_4 : Cond.not (Cond.eq (tm_ 1) (tm_ 4)) ∈ fN_ := List.mem_of_getElem? (i := 138) (by decide +kernel)
set_option maxRecDepth 100000 in
theorem nq_1_5 : Cond.not (Cond.eq (tm_ 1) (tm_ 5)) ∈ fN_ := List.mem_of_getElem? (i := 151) (by decide +kernel)
set_option maxRecDepth 100000 in
theorem nq_1_6 : Cond.not (Cond.eq (tm_ 1) (tm_ 6)) ∈ fN_ := List.mem_of_getElem? (i := 165) (by decide +kernel)
set_option maxRecDepth 100000 in
theorem nq_1_7 : Cond.not (Cond.eq (tm_ 1) (tm_ 7)) ∈ fN_ := List.mem_of_getElem? (i := 180) (by decide +kernel)
set_option maxRecDepth 100000 in
theorem nq_1_8 : Cond.not (Cond.eq (tm_ 1) (tm_ 8)) ∈ fN_ := List.mem_of_getElem? (i := 197) (by decide +kernel)
set_option maxRecDepth 100000 in
theorem nq_1_9 : Cond.not (Cond.eq (tm_ 1) (tm_ 9)) ∈ fN_ := List.mem_of_getElem? (i := 214) (by decide +kernel)
set_option maxRecDepth 100000 in
theorem nq_1_10 : Cond.not (Cond.eq (tm_ 1) (tm_ 10)) ∈ fN_ := List.mem_of_getElem? (i := 229) (by decide +kernel)
set_option maxRecDepth 100000 in
theorem nq_1_11 : Cond.not (Cond.eq (tm_ 1) (tm_ 11)) ∈ fN_ := List.mem_of_getElem? (i := 246) (by decide +kernel)
set_option maxRecDepth 100000 in
theorem nq_1_12 : Cond.not (Cond.eq (tm_ 1) (tm_ 12)) ∈ fN_ := List.mem_of_getElem? (i := 264) (by decide +kernel)
set_option maxRecDepth 100000 in
theorem nq_2_3 : Cond.not (Cond.eq (tm_ 2) (tm_ 3)) ∈ fN_ := List.mem_of_getElem? (i := 129) (by decide +kernel)
set_option maxRecDepth 100000 in
theorem nq_2_4 : Cond.not (Cond.eq (tm_ 2) (tm_ 4)) ∈ fN_ := List.mem_of_getElem? (i := 139) (by decide +kernel)
set_option maxRecDepth 100000 in
theorem nq_2_5 : Cond.not (Cond.eq (tm_ 2) (tm_ 5)) ∈ fN_ := List.mem_of_getElem? (i := 152) (by decide +kernel)
set_option maxRecDepth 100000 in
theorem nq_2_6 : Cond.not (Cond.eq (tm_ 2) (tm_ 6)) ∈ fN_ := List.mem_of_getElem? (i := 166) (by decide +kernel)
set_option maxRecDepth 100000 in
theorem nq_2_7 : Cond.not (Cond.eq (tm_ 2) (tm_ 7)) ∈ fN_ := List.mem_of_getElem? (i := 181) (by decide +kernel)
set_option maxRecDepth 100000 in
theorem nq_2_8 : Cond.not (Cond.eq (tm_ 2) (tm_ 8)) ∈ fN_ := List.mem_of_getElem? (i := 198) (by decide +kernel)
set_option maxRecDepth 100000 in
theorem nq_2_9 : Cond.not (Cond.eq (tm_ 2) (tm_ 9)) ∈ fN_ := List.mem_of_getElem? (i := 215) (by decide +kernel)
set_option maxRecDepth 100000 in
theorem nq_2_10 : Cond.not (Cond.eq (tm_ 2) (tm_ 10)) ∈ fN_ := List.mem_of_getElem? (i := 230) (by decide +kernel)
set_option maxRecDepth 100000 in
theorem nq_2_11 : Cond.not (Cond.eq (tm_ 2) (tm_ 11)) ∈ fN_ := List.mem_of_getElem? (i := 247) (by decide +kernel)
set_option maxRecDepth 100000 in
theorem nq_2_12 : Cond.not (Cond.eq (tm_ 2) (tm_ 12)) ∈ fN_ := List.mem_of_getElem? (i := 265) (by decide +kernel)
set_option maxRecDepth 100000 in
theorem nq_3_4 : Cond.not (Cond.eq (tm_ 3) (tm_ 4)) ∈ fN_ := List.mem_of_getElem? (i := 140) (by decide +kernel)
set_option maxRecDepth 100000 in
theorem nq_3_5 : Cond.not (Cond.eq (tm_ 3) (tm_ 5)) ∈ fN_ := List.mem_of_getElem? (i := 153) (by decide +kernel)
set_option maxRecDepth 100000 in
theorem nq_3_6 : Cond.not (Cond.eq (tm_ 3) (tm_ 6)) ∈ fN_ := List.mem_of_getElem? (i := 167) (by decide +kernel)
set_option maxRecDepth 100000 in
theorem nq_3_7 : Cond.not (Cond.eq (tm_ 3) (tm_ 7)) ∈ fN_ := List.mem_of_getElem? (i := 182) (by decide +kernel)
set_option maxRecDepth 100000 in
theorem nq_3_8 : Cond.not (Cond.eq (tm_ 3) (tm_ 8)) ∈ fN_ := List.mem_of_getElem? (i := 199) (by decide +kernel)
set_option maxRecDepth 100000 in
theorem nq_3_9 : Cond.not (Cond.eq (tm_ 3) (tm_ 9)) ∈ fN_ := List.mem_of_getElem? (i := 216) (by decide +kernel)
set_option maxRecDepth 100000 in
theorem nq_3_10 : Cond.not (Cond.eq (tm_ 3) (tm_ 10)) ∈ fN_ := List.mem_of_getElem? (i := 231) (by decide +kernel)
set_option maxRecDepth 100000 in
theorem nq_3_11 : Cond.not (Cond.eq (tm_ 3) (tm_ 11)) ∈ fN_ := List.mem_of_getElem? (i := 248) (by decide +kernel)
set_option maxRecDepth 100000 in
theorem nq_3_12 : Cond.not (Cond.eq (tm_ 3) (tm_ 12)) ∈ fN_ := List.mem_of_getElem? (i := 266) (by decide +kernel)
set_option maxRecDepth 100000 in
theorem nq_4_5 : Cond.not (Cond.eq (tm_ 4) (tm_ 5)) ∈ fN_ := List.mem_of_getElem? (i := 154) (by decide +kernel)
set_option maxRecDepth 100000 in
theorem nq_4_6 : Cond.not (Cond.eq (tm_ 4) (tm_ 6)) ∈ fN_ := List.mem_of_getElem? (i := 168) (by decide +kernel)
set_option maxRecDepth 100000 in
theorem nq_4_7 : Cond.not (Cond.eq (tm_ 4) (tm_ 7)) ∈ fN_ := List.mem_of_getElem? (i := 183) (by decide +kernel)
set_option maxRecDepth 100000 in
theorem nq_4_8 : Cond.not (Cond.eq (tm_ 4) (tm_ 8)) ∈ fN_ := List.mem_of_getElem? (i := 200) (by decide +kernel)
set_option maxRecDepth 100000 in
theorem nq_4_9 : Cond.not (Cond.eq (tm_ 4) (tm_ 9)) ∈ fN_ := List.mem_of_getElem? (i := 217) (by decide +kernel)
set_option maxRecDepth 100000 in
theorem nq_4_10 : Cond.not (Cond.eq (tm_ 4) (tm_ 10)) ∈ fN_ := List.mem_of_getElem? (i := 232) (by decide +kernel)
set_option maxRecDepth 100000 in
theorem nq_4_11 : Cond.not (Cond.eq (tm_ 4) (tm_ 11)) ∈ fN_ := List.mem_of_getElem? (i := 249) (by decide +kernel)
set_option maxRecDepth 100000 in
theorem nq_4_12 : Cond.not (Cond.eq (tm_ 4) (tm_ 12)) ∈ fN_ := List.mem_of_getElem? (i := 267) (by decide +kernel)
set_option maxRecDepth 100000 in
theorem nq_5_6 : Cond.not (Cond.eq (tm_ 5) (tm_ 6)) ∈ fN_ := List.mem_of_getElem? (i := 169) (by decide +kernel)
set_option maxRecDepth 100000 in
theorem nq_5_7 : Cond.not (Cond.eq (tm_ 5) (tm_ 7)) ∈ fN_ := List.mem_of_getElem? (i := 184) (by decide +kernel)
set_option maxRecDepth 100000 in
theorem nq_5_8 : Cond.not (Cond.eq (tm_ 5) (tm_ 8)) ∈ fN_ := List.mem_of_getElem? (i := 201) (by decide +kernel)
set_option maxRecDepth 100000 in
theorem nq_5_9 : Cond.not (Cond.eq (tm_ 5) (tm_ 9)) ∈ fN_ := List.mem_of_getElem? (i := 218) (by decide +kernel)
set_option maxRecDepth 100000 in
theorem nq_5_10 : Cond.not (Cond.eq (tm_ 5) (tm_ 10)) ∈ fN_ := List.mem_of_getElem? (i := 233) (by decide +kernel)
set_option maxRecDepth 100000 in
theorem nq_5_11 : Cond.not (Cond.eq (tm_ 5) (tm_ 11)) ∈ fN_ := List.mem_of_getElem? (i := 250) (by decide +kernel)
set_option maxRecDepth 100000 in
theorem nq_5_12 : Cond.not (Cond.eq (tm_ 5) (tm_ 12)) ∈ fN_ := List.mem_of_getElem? (i := 268) (by decide +kernel)
set_option maxRecDepth 100000 in
theorem nq_6_7 : Cond.not (Cond.eq (tm_ 6) (tm_ 7)) ∈ fN_ := List.mem_of_getElem? (i := 185) (by decide +kernel)
set_option maxRecDepth 100000 in
theorem nq_6_8 : Cond.not (Cond.eq (tm_ 6) (tm_ 8)) ∈ fN_ := List.mem_of_getElem? (i := 202) (by decide +kernel)
set_option maxRecDepth 100000 in
theorem nq_6_9 : Cond.not (Cond.eq (tm_ 6) (tm_ 9)) ∈ fN_ := List.mem_of_getElem? (i := 219) (by decide +kernel)
set_option maxRecDepth 100000 in
theorem nq_6_10 : Cond.not (Cond.eq (tm_ 6) (tm_ 10)) ∈ fN_ := List.mem_of_getElem? (i := 234) (by decide +kernel)
set_option maxRecDepth 100000 in
theorem nq_6_11 : Cond.not (Cond.eq (tm_ 6) (tm_ 11)) ∈ fN_ := List.mem_of_getElem? (i := 251) (by decide +kernel)
set_option maxRecDepth 100000 in
theorem nq_6_12 : Cond.not (Cond.eq (tm_ 6) (tm_ 12)) ∈ fN_ := List.mem_of_getElem? (i := 269) (by decide +kernel)
set_option maxRecDepth 100000 in
theorem nq_7_8 : Cond.not (Cond.eq (tm_ 7) (tm_ 8)) ∈ fN_ := List.mem_of_getElem? (i := 203) (by decide +kernel)
set_option maxRecDepth 100000 in
theorem nq_7_9 : Cond.not (Cond.eq (tm_ 7) (tm_ 9)) ∈ fN_ := List.mem_of_getElem? (i := 220) (by decide +kernel)
set_option maxRecDepth 100000 in
theorem nq_7_10 : Cond.not (Cond.eq (tm_ 7) (tm_ 10)) ∈ fN_ := List.mem_of_getElem? (i := 235) (by decide +kernel)
set_option maxRecDepth 100000 in
theorem nq_7_11 : Cond.not (Cond.eq (tm_ 7) (tm_ 11)) ∈ fN_ := List.mem_of_getElem? (i := 252) (by decide +kernel)
set_option maxRecDepth 100000 in
theorem nq_7_12 : Cond.not (Cond.eq (tm_ 7) (tm_ 12)) ∈ fN_ := List.mem_of_getElem? (i := 270) (by decide +kernel)
set_option maxRecDepth 100000 in
theorem nq_8_9 : Cond.not (Cond.eq (tm_ 8) (tm_ 9)) ∈ fN_ := List.mem_of_getElem? (i := 221) (by decide +kernel)
set_option maxRecDepth 100000 in
theorem nq_8_10 : Cond.not (Cond.eq (tm_ 8) (tm_ 10)) ∈ fN_ := List.mem_of_getElem? (i := 236) (by decide +kernel)
set_option maxRecDepth 100000 in
theorem nq_8_11 : Cond.not (Cond.eq (tm_ 8) (tm_ 11)) ∈ fN_ := List.mem_of_getElem? (i := 253) (by decide +kernel)
set_option maxRecDepth 100000 in
theorem nq_8_12 : Cond.not (Cond.eq (tm_ 8) (tm_ 12)) ∈ fN_ := List.mem_of_getElem? (i := 271) (by decide +kernel)
set_option maxRecDepth 100000 in
theorem nq_9_10 : Cond.not (Cond.eq (tm_ 9) (tm_ 10)) ∈ fN_ := List.mem_of_getElem? (i := 237) (by decide +kernel)
set_option maxRecDepth 100000 in
theorem nq_9_11 : Cond.not (Cond.eq (tm_ 9) (tm_ 11)) ∈ fN_ := List.mem_of_getElem? (i := 254) (by decide +kernel)
set_option maxRecDepth 100000 in
theorem nq_9_12 : Cond.not (Cond.eq (tm_ 9) (tm_ 12)) ∈ fN_ := List.mem_of_getElem? (i := 272) (by decide +kernel)
set_option maxRecDepth 100000 in
theorem nq_10_11 : Cond.not (Cond.eq (tm_ 10) (tm_ 11)) ∈ fN_ := List.mem_of_getElem? (i := 255) (by decide +kernel)
set_option maxRecDepth 100000 in
theorem nq_10_12 : Cond.not (Cond.eq (tm_ 10) (tm_ 12)) ∈ fN_ := List.mem_of_getElem? (i := 273) (by decide +kernel)
set_option maxRecDepth 100000 in
theorem nq_11_12 : Cond.not (Cond.eq (tm_ 11) (tm_ 12)) ∈ fN_ := List.mem_of_getElem? (i := 274) (by decide +kernel)
theorem fs_3 : ∀ i, i < 13 → ∀ j, j < 13 → i ≠ j → Cond.not (Cond.eq (tm_ i) (tm_ j)) ∈ fN_ ∨ Cond.not (Cond.eq (tm_ j) (tm_ i)) ∈ fN_ := by
  intro i hi j hj hij
  rcases (show i = 0 ∨ i = 1 ∨ i = 2 ∨ i = 3 ∨ i = 4 ∨ i = 5 ∨ i = 6 ∨ i = 7 ∨ i = 8 ∨ i = 9 ∨ i = 10 ∨ i = 11 ∨ i = 12 by omega) with rfl | rfl | rfl | rfl | rfl | rfl | rfl | rfl | rfl | rfl | rfl | rfl | rfl
  · rcases (show j = 0 ∨ j = 1 ∨ j = 2 ∨ j = 3 ∨ j = 4 ∨ j = 5 ∨ j = 6 ∨ j = 7 ∨ j = 8 ∨ j = 9 ∨ j = 10 ∨ j = 11 ∨ j = 12 by omega) with rfl | rfl | rfl | rfl | rfl | rfl | rfl | rfl | rfl | rfl | rfl | rfl | rfl
    · exact absurd rfl hij
    · exact Or.inl nq_0_1
    · exact Or.inl nq_0_2
    · exact Or.inl nq_0_3
    · exact Or.inl nq_0_4
    · exact Or.inl nq_0_5
    · exact Or.inl nq_0_6
    · exact Or.inl nq_0_7
    · exact Or.inl nq_0_8
    · exact Or.inl nq_0_9
    · exact Or.inl nq_0_10
    · exact Or.inl nq_0_11
    · exact Or.inl nq_0_12
  · rcases (show j = 0 ∨ j = 1 ∨ j = 2 ∨ j = 3 ∨ j = 4 ∨ j = 5 ∨ j = 6 ∨ j = 7 ∨ j = 8 ∨ j = 9 ∨ j = 10 ∨ j = 11 ∨ j = 12 by omega) with rfl | rfl | rfl | rfl | rfl | rfl | rfl | rfl | rfl | rfl | rfl | rfl | rfl
    · exact Or.inr nq_0_1
    · exact absurd rfl hij
    · exact Or.inl nq_1_2
    · exact Or.inl nq_1_3
    · exact Or.inl nq_1_4
    · exact Or.inl nq_1_5
    · exact Or.inl nq_1_6
    · exact Or.inl nq_1_7
    · exact Or.inl nq_1_8
    · exact Or.inl nq_1_9
    · exact Or.inl nq_1_10
    · exact Or.inl nq_1_11
    · exact Or.inl nq_1_12
  · rcases (show j = 0 ∨ j = 1 ∨ j = 2 ∨ j = 3 ∨ j = 4 ∨ j = 5 ∨ j = 6 ∨ j = 7 ∨ j = 8 ∨ j = 9 ∨ j = 10 ∨ j = 11 ∨ j = 12 by omega) with rfl | rfl | rfl | rfl | rfl | rfl | rfl | rfl | rfl | rfl | rfl | rfl | rfl
    · exact Or.inr nq_0_2
    · exact Or.inr nq_1_2
    · exact absurd rfl hij
    · exact Or.inl nq_2_3
    · exact Or.inl nq_2_4
    · exact Or.inl nq_2_5
    · exact Or.inl nq_2_6
    · exact Or.inl nq_2_7
    · exact Or.inl nq_2_8
    · exact Or.inl nq_2_9
    · exact Or.inl nq_2_10
    · exact Or.inl nq_2_11
    · exact Or.inl nq_2_12
  · rcases (show j = 0 ∨ j = 1 ∨ j = 2 ∨ j = 3 ∨ j = 4 ∨ j = 5 ∨ j = 6 ∨ j = 7 ∨ j = 8 ∨ j = 9 ∨ j = 10 ∨ j = 11 ∨ j = 12 by omega) with rfl | rfl | rfl | rfl | rfl | rfl | rfl | rfl | rfl | rfl | rfl | rfl | rfl
    · exact Or.inr nq_0_3
    · exact Or.inr nq_1_3
    · exact Or.inr nq_2_3
    · exact absurd rfl hij
    · exact Or.inl nq_3_4
    · exact Or.inl nq_3_5
    · exact Or.inl nq_3_6
    · exact Or.inl nq_3_7
    · exact Or.inl nq_3_8
    · exact Or.inl nq_3_9
    · exact Or.inl nq_3_10
    · exact Or.inl nq_3_11
    · exact Or.inl nq_3_12
  · rcases (show j = 0 ∨ j = 1 ∨ j = 2 ∨ j = 3 ∨ j = 4 ∨ j = 5 ∨ j = 6 ∨ j = 7 ∨ j = 8 ∨ j = 9 ∨ j = 10 ∨ j = 11 ∨ j = 12 by omega) with rfl | rfl | rfl | rfl | rfl | rfl | rfl | rfl | rfl | rfl | rfl | rfl | rfl
    · exact Or.inr nq_0_4
    · exact Or.inr nq_1_4
    · exact Or.inr nq_2_4
    · exact Or.inr nq_3_4
    · exact absurd rfl hij
    · exact Or.inl nq_4_5
    · exact Or.inl nq_4_6
    · exact Or.inl nq_4_7
    · exact Or.inl nq_4_8
    · exact Or.inl nq_4_9
    · exact Or.inl nq_4_10
    · exact Or.inl nq_4_11
    · exact Or.inl nq_4_12
  · rcases (show j = 0 ∨ j = 1 ∨ j = 2 ∨ j = 3 ∨ j = 4 ∨ j = 5 ∨ j = 6 ∨ j = 7 ∨ j = 8 ∨ j = 9 ∨ j = 10 ∨ j = 11 ∨ j = 12 by omega) with rfl | rfl | rfl | rfl | rfl | rfl | rfl | rfl | rfl | rfl | rfl | rfl | rfl
    · exact Or.inr nq_0_5
    · exact Or.inr nq_1_5
    · exact Or.inr nq_2_5
    · exact Or.inr nq_3_5
    · exact Or.inr nq_4_5
    · exact absurd rfl hij
    · exact Or.inl nq_5_6
    · exact Or.inl nq_5_7
    · exact Or.inl nq_5_8
    · exact Or.inl nq_5_9
    · exact Or.inl nq_5_10
    · exact Or.inl nq_5_11
    · exact Or.inl nq_5_12
  · rcases (show j = 0 ∨ j = 1 ∨ j = 2 ∨ j = 3 ∨ j = 4 ∨ j = 5 ∨ j = 6 ∨ j = 7 ∨ j = 8 ∨ j = 9 ∨ j = 10 ∨ j = 11 ∨ j = 12 by omega) with rfl | rfl | rfl | rfl | rfl | rfl | rfl | rfl | rfl | rfl | rfl | rfl | rfl
    · exact Or.inr nq_0_6
    · exact Or.inr nq_1_6
    · exact Or.inr nq_2_6
    · exact Or.inr nq_3_6
    · exact Or.inr nq_4_6
    · exact Or.inr nq_5_6
    · exact absurd rfl hij
    · exact Or.inl nq_6_7
    · exact Or.inl nq_6_8
    · exact Or.inl nq_6_9
    · exact Or.inl nq_6_10
    · exact Or.inl nq_6_11
    · exact Or.inl nq_6_12
  · rcases (show j = 0 ∨ j = 1 ∨ j = 2 ∨ j = 3 ∨ j = 4 ∨ j = 5 ∨ j = 6 ∨ j = 7 ∨ j = 8 ∨ j = 9 ∨ j = 10 ∨ j = 11 ∨ j = 12 by omega) with rfl | rfl | rfl | rfl | rfl | rfl | rfl | rfl | rfl | rfl | rfl | rfl | rfl
    · exact Or.inr nq_0_7
    · exact Or.inr nq_1_7
    · exact Or.inr nq_2_7
    · exact Or.inr nq_3_7
    · exact Or.inr nq_4_7
    · exact Or.inr nq_5_7
    · exact Or.inr nq_6_7
    · exact absurd rfl hij
    · exact Or.inl nq_7_8
    · exact Or.inl nq_7_9
    · exact Or.inl nq_7_10
    · exact Or.inl nq_7_11
    · exact Or.inl nq_7_12
  · rcases (show j = 0 ∨ j = 1 ∨ j = 2 ∨ j = 3 ∨ j = 4 ∨ j = 5 ∨ j = 6 ∨ j = 7 ∨ j = 8 ∨ j = 9 ∨ j = 10 ∨ j = 11 ∨ j = 12 by omega) with rfl | rfl | rfl | rfl | rfl | rfl | rfl | rfl | rfl | rfl | rfl | rfl | rfl
    · exact Or.inr nq_0_8
    · exact Or.inr nq_1_8
    · exact Or.inr nq_2_8
    · exact Or.inr nq_3_8
    · exact Or.inr nq_4_8
    · exact Or.inr nq_5_8
    · exact Or.inr nq_6_8
    · exact Or.inr nq_7_8
    · exact absurd rfl hij
    · exact Or.inl nq_8_9
    · exact Or.inl nq_8_10
    · exact Or.inl nq_8_11
    · exact Or.inl nq_8_12
  · rcases (show j = 0 ∨ j = 1 ∨ j = 2 ∨ j = 3 ∨ j = 4 ∨ j = 5 ∨ j = 6 ∨ j = 7 ∨ j = 8 ∨ j = 9 ∨ j = 10 ∨ j = 11 ∨ j = 12 by omega) with rfl | rfl | rfl | rfl | rfl | rfl | rfl | rfl | rfl | rfl | rfl | rfl | rfl
    · exact Or.inr nq_0_9
    · exact Or.inr nq_1_9
    · exact Or.inr nq_2_9
    · exact Or.inr nq_3_9
    · exact Or.inr nq_4_9
    · exact Or.inr nq_5_9
    · exact Or.inr nq_6_9
    · exact Or.inr nq_7_9
    · exact Or.inr nq_8_9
    · exact absurd rfl hij
    · exact Or.inl nq_9_10
    · exact Or.inl nq_9_11
    · exact Or.inl nq_9_12
  · rcases (show j = 0 ∨ j = 1 ∨ j = 2 ∨ j = 3 ∨ j = 4 ∨ j = 5 ∨ j = 6 ∨ j = 7 ∨ j = 8 ∨ j = 9 ∨ j = 10 ∨ j = 11 ∨ j = 12 by omega) with rfl | rfl | rfl | rfl | rfl | rfl | rfl | rfl | rfl | rfl | rfl | rfl | rfl
    · exact Or.inr nq_0_10
    · exact Or.inr nq_1_10
    · exact Or.inr nq_2_10
    · exact Or.inr nq_3_10
    · exact Or.inr nq_4_10
    · exact Or.inr nq_5_10
    · exact Or.inr nq_6_10
    · exact Or.inr nq_7_10
    · exact Or.inr nq_8_10
    · exact Or.inr nq_9_10
    · exact absurd rfl hij
    · exact Or.inl nq_10_11
    · exact Or.inl nq_10_12
  · rcases (show j = 0 ∨ j = 1 ∨ j = 2 ∨ j = 3 ∨ j = 4 ∨ j = 5 ∨ j = 6 ∨ j = 7 ∨ j = 8 ∨ j = 9 ∨ j = 10 ∨ j = 11 ∨ j = 12 by omega) with rfl | rfl | rfl | rfl | rfl | rfl | rfl | rfl | rfl | rfl | rfl | rfl | rfl
    · exact Or.inr nq_0_11
    · exact Or.inr nq_1_11
    · exact Or.inr nq_2_11
    · exact Or.inr nq_3_11
    · exact Or.inr nq_4_11
    · exact Or.inr nq_5_11
    · exact Or.inr nq_6_11
    · exact Or.inr nq_7_11
    · exact Or.inr nq_8_11
    · exact Or.inr nq_9_11
    · exact Or.inr nq_10_11
    · exact absurd rfl hij
    · exact Or.inl nq_11_12
  · rcases (show j = 0 ∨ j = 1 ∨ j = 2 ∨ j = 3 ∨ j = 4 ∨ j = 5 ∨ j = 6 ∨ j = 7 ∨ j = 8 ∨ j = 9 ∨ j = 10 ∨ j = 11 ∨ j = 12 by omega) with rfl | rfl | rfl | rfl | rfl | rfl | rfl | rfl | rfl | rfl | rfl | rfl | rfl
    · exact Or.inr nq_0_12
    · exact Or.inr nq_1_12
    · exact Or.inr nq_2_12
    · exact Or.inr nq_3_12
    · exact Or.inr nq_4_12
    · exact Or.inr nq_5_12
    · exact Or.inr nq_6_12
    · exact Or.inr nq_7_12
    · exact Or.inr nq_8_12
    · exact Or.inr nq_9_12
    · exact Or.inr nq_10_12
    · exact Or.inr nq_11_12
    · exact absurd rfl hij
set_option maxRecDepth 100000 in
theorem fs_4 : ∀ j, j < 6 → Cond.eq (.elem (.static RX8 "UNDER" "[I") (.int (Int32.ofNat j))) (.int (un_ j)) ∈ fN_ := by decide +kernel
set_option maxRecDepth 100000 in
theorem sw_all : ∀ i, i < 13 → Cond.stringRef (sOwn_ i) (sIdx_ i) (sTx_ i) ∈ lw_tbl := by
  intro i hi
  rcases (show i = 0 ∨ i = 1 ∨ i = 2 ∨ i = 3 ∨ i = 4 ∨ i = 5 ∨ i = 6 ∨ i = 7 ∨ i = 8 ∨ i = 9 ∨ i = 10 ∨ i = 11 ∨ i = 12 by omega) with rfl | rfl | rfl | rfl | rfl | rfl | rfl | rfl | rfl | rfl | rfl | rfl | rfl
  · exact (tk_1 (List.mem_of_getElem? (i := 226) rfl))
  · exact (tk_2 (List.mem_of_getElem? (i := 65) rfl))
  · exact (tk_2 (List.mem_of_getElem? (i := 72) rfl))
  · exact (tk_2 (List.mem_of_getElem? (i := 73) rfl))
  · exact (tk_2 (List.mem_of_getElem? (i := 74) rfl))
  · exact (tk_2 (List.mem_of_getElem? (i := 75) rfl))
  · exact (tk_2 (List.mem_of_getElem? (i := 76) rfl))
  · exact (tk_2 (List.mem_of_getElem? (i := 77) rfl))
  · exact (tk_2 (List.mem_of_getElem? (i := 78) rfl))
  · exact (tk_2 (List.mem_of_getElem? (i := 79) rfl))
  · exact (tk_2 (List.mem_of_getElem? (i := 80) rfl))
  · exact (tk_2 (List.mem_of_getElem? (i := 81) rfl))
  · exact (tk_2 (List.mem_of_getElem? (i := 82) rfl))
theorem ar_of {s : State} {a : Array Value} {ty : FieldType} (hp : ∀ x, ty ≠ .object x) (h : (Cond.arrayClass ty).before a s = true) : ∃ cA : ClassId, ArrOfT s cA ty ∧ va_RA s cA ty := by
  obtain ⟨cA, kA, comp, h1, h2, h3⟩ := Cond.arrayClass_spec h
  refine ⟨cA, fun n z => ⟨fun k h => (by cases h), kA, h2, comp, h3⟩, ?_⟩
  cases ty <;> first | exact absurd rfl (hp _) | exact h1
theorem ao_of {s : State} {E : String} (h : va_AO E s) : ∃ cA : ClassId, ArrOfT s cA (.object E) ∧ va_RA s cA (.object E) := by
  obtain ⟨comp, cA, kA, h1, h2, h3, h4, h5⟩ := Cond.arrayOver_spec h
  exact ⟨cA, fun n z => ⟨fun k h => (by cases h), kA, h3, comp, h4⟩, kA, comp, h3, h4, h1, h5⟩
set_option maxHeartbeats 4000000 in
set_option maxRecDepth 100000 in
theorem start_K {p : Program} {s : State} {m : MethodId} {meth : Method} {c : Code} {b L : Nat} {xs : Nat → Int32} (C0 : lw_At p s m meth c b L xs) : ∃ (κ : Ka_) (G : va_G) (cy : Nat → ClassId), Kx_ κ G cy (fun q : Nat => s.heap.size ≤ q) s := by
  obtain ⟨hx, hb, hr, hml, hown, hts0, hX, hbl, hlocks, hgv⟩ := C0
  have hts : ∀ w ∈ wU_, w.before #[Value.ref b] s = true := fun w hw => hts0 w (List.mem_filter.mp hw).1
  have hfl : ∀ w ∈ fN_, w.before #[Value.ref b] s = true := flat_of_before _ hgv
  have hA : ∀ a : Nat, a < s.heap.size → ¬ (fun q : Nat => s.heap.size ≤ q) a := fun a h => Nat.not_le.mpr h
  obtain ⟨c0, i0, k0⟩ := u_known (C := RX0) (T := TX0) (N := 4) (n := 4) hts iw_RX0 (hts _ it_RX0)
  obtain ⟨c1, i1, k1⟩ := u_known (C := RX1) (T := TX1) (N := 5) (n := 5) hts iw_RX1 (hts _ it_RX1)
  obtain ⟨c2, i2, k2⟩ := u_known (C := RX2) (T := TX2) (N := 5) (n := 5) hts iw_RX2 (hts _ it_RX2)
  obtain ⟨c3, i3, k3⟩ := u_known (C := RX3) (T := TX3) (N := 11) (n := 11) hts iw_RX3 (hts _ it_RX3)
  obtain ⟨c4, i4, k4⟩ := u_known (C := RX4) (T := TX4) (N := 3) (n := 3) hts iw_RX4 (hts _ it_RX4)
  obtain ⟨c5, i5, k5⟩ := u_known (C := RX5) (T := TX5) (N := 3) (n := 3) hts iw_RX5 (hts _ it_RX5)
  obtain ⟨c6, i6, k6⟩ := u_known (C := RX6) (T := TX6) (N := 5) (n := 5) hts iw_RX6 (hts _ it_RX6)
  obtain ⟨c7, i7, k7⟩ := u_known (C := RX7) (T := TX7) (N := 8) (n := 8) hts iw_RX7 (hts _ it_RX7)
  obtain ⟨c8, i8, k8⟩ := u_known (C := RX8) (T := TX8) (N := 13) (n := 13) hts iw_RX8 (hts _ it_RX8)
  obtain ⟨c9, i9, k9⟩ := u_known (C := RX9) (T := TX9) (N := 42) (n := 42) hts iw_RX9 (hts _ it_RX9)
  have o0 : va_AO RX0 s := va_AO.of (hts0 _ (tk_1 (List.mem_of_getElem? (i := 34) rfl)))
  have o5 : va_AO RX5 s := va_AO.of (hts0 _ (tk_1 (List.mem_of_getElem? (i := 127) rfl)))
  have o4 : va_AO RX4 s := va_AO.of (hts0 _ (tk_1 (List.mem_of_getElem? (i := 129) rfl)))
  obtain ⟨y0, hy0⟩ := ar_of (fun x h => by cases h) (hts _ ac_int)
  obtain ⟨y1, hy1⟩ := ar_of (fun x h => by cases h) (hts _ ac_long)
  obtain ⟨y2, hy2⟩ := ar_of (fun x h => by cases h) (hts _ ac_boolean)
  obtain ⟨y3, hy3⟩ := ao_of o0
  obtain ⟨y4, hy4⟩ := ao_of o4
  obtain ⟨y5, hy5⟩ := ao_of o5
  obtain ⟨adK, adV, hS, hT⟩ := vk_Sof (args := #[Value.ref b]) (s := s) (N := 13) (tm := tm_) (len := sLen_) (byt := sByt_) (A := fun q : Nat => s.heap.size ≤ q) (by decide +kernel) (fun i hi => hfl _ (fs_1 i hi).1) (fun i hi => hfl _ (fs_1 i hi).2.1) (fun i hi => hfl _ (fs_1 i hi).2.2.1) (fun i hi => hfl _ (fs_1 i hi).2.2.2) (fun i hi j hj => hfl _ (fs_2 i hi j hj)) (fun i j hi hj hij => (fs_3 i hi j hj hij).elim (fun h => Or.inl (hfl _ h)) (fun h => Or.inr (hfl _ h))) hA
  obtain ⟨t, ht, hTa⟩ := va_Tof (args := #[Value.ref b]) (s := s) (tm := .static RX8 "UNDER" "[I") (ty := .int) (N := 6) (f := fun j => .int (un_ j)) (A := fun q : Nat => s.heap.size ≤ q) (by decide) (hfl _ (by decide +kernel)) (va_eqt (hfl _ (by decide +kernel))) (fun j hj => va_eqt (hfl _ (fs_4 j hj))) hA
  refine ⟨(adK, adV, t), ((fun k => match k with | 0 => c0 | 1 => c1 | 2 => c2 | 3 => c3 | 4 => c4 | 5 => c5 | 6 => c6 | 7 => c7 | 8 => c8 | _ => c9), (fun k => match k with | 0 => i0 | 1 => i1 | 2 => i2 | 3 => i3 | 4 => i4 | 5 => i5 | 6 => i6 | 7 => i7 | 8 => i8 | _ => i9)), (fun k => match k with | 0 => y0 | 1 => y1 | 2 => y2 | 3 => y3 | 4 => y4 | _ => y5), ⟨?_, ?_⟩, ⟨?_, ?_, o0, o4, o5⟩, ⟨?_, hTa, hS, ?_, ?_⟩, fun q h => h⟩
  · intro k q hq
    match k, hq with
    | 0, hq => cases hq; exact k0
    | 1, hq => cases hq; exact k1
    | 2, hq => cases hq; exact k2
    | 3, hq => cases hq; exact k3
    | 4, hq => cases hq; exact k4
    | 5, hq => cases hq; exact k5
    | 6, hq => cases hq; exact k6
    | 7, hq => cases hq; exact k7
    | 8, hq => cases hq; exact k8
    | 9, hq => cases hq; exact k9
    | k + 10, hq => simp [vwCl] at hq
  · intro k q hq
    match k, hq with
    | 0, hq => cases hq; exact hy0
    | 1, hq => cases hq; exact hy1
    | 2, hq => cases hq; exact hy2
    | 3, hq => cases hq; exact hy3
    | 4, hq => cases hq; exact hy4
    | 5, hq => cases hq; exact hy5
    | k + 6, hq => simp [tys_] at hq
  · intro w hw
    have hi := List.all_eq_true.mp wN_is w hw
    have hb := hts0 w (nt_ w hw)
    cases w <;> first | (simp [isN_] at hi; done) | exact va_Nw.of rfl hb
  · intro i hi
    exact vk_R.of (hts0 _ (sw_all i hi)) (hT i hi)
  · exact va_Zof (hts0 _ (tk_4 (List.mem_of_getElem? (i := 189) rfl))) (hts _ in_RX8) ht hA
  · exact va_Zof (hts0 _ (tk_1 (List.mem_of_getElem? (i := 236) rfl))) (hts _ in_RJ0) (va_eqi (hfl _ (by decide +kernel))) hA
  · exact va_Zqof (hts0 _ (tk_2 (List.mem_of_getElem? (i := 12) rfl))) (hts _ in_RJ3) (hfl _ (by decide +kernel)) hA
set_option maxHeartbeats 4000000 in
set_option maxRecDepth 100000 in
/-- the law, from its entry, out of a relation that every call keeps -/
theorem whole_of (Rel : St_ → St_ → Prop) (hs : Sims_ Rel) {p : Program} {e : Env} {s : State} {m : MethodId} {below : List Frame} {meth : Method} {c : Code} (l : Launch) {b L : Nat} {xs : Nat → Int32} (hL : L ≤ 3072) (C0 : lw_At p s m meth c b L xs) : W p l e room_1 s m #[Value.ref b] below meth c s.heap [] 0 0 (lw_Z below #[Value.ref b] s) (entryFrame m ([Value.ref b] : List Value).toArray 4) := by
  obtain ⟨κ, G, cy, K⟩ := start_K C0
  obtain ⟨hx, hb, hr, hml, hown, hts0, hX, hbl, hlocks, hgv⟩ := id C0
  have hts : ∀ w ∈ wU_, w.before #[Value.ref b] s = true := fun w hw => hts0 w (List.mem_filter.mp hw).1
  have C : CallFix p m c code 4 s #[Value.ref b] wU_ RL := ⟨hx, hb, hml, hown, hts⟩
  have hbA : ¬ (fun q : Nat => s.heap.size ≤ q) b := Nat.not_le.mpr hbl
  obtain ⟨σx, σm, hfx, hfm, hrel⟩ := hs.2.1
  obtain ⟨hkx, hkm⟩ := hs.1 σx σm hrel
  have hE : Ht_ G cy (fun q : Nat => s.heap.size ≤ q) s (fun _ => 0) e0_ s.heap [] := ⟨(fun k q h => by simp [wl_, e0_, sn_] at h), ⟨(fun i j p q h => by simp [wl_, e0_, sn_] at h), (fun k q h => by simp [wl_, e0_, sn_] at h)⟩, va_S.rf, ⟨fun _ _ => rfl, fun _ _ _ h => by cases h⟩⟩
  have hl := lv_entry ([.ref b]) (n := 4) (Nat.le_of_ble_eq_true rfl)
  rw [lg_entry_eq]
  generalize (lg_sl ([.ref b]) ++ List.replicate (4 - (lg_sl ([.ref b])).length) Slot.unset).toArray = ls at hl ⊢
  have hl : lv_has ls 4 [(0, .ref b)] := hl
  refine l_new (ad := fun _ => 0) C K hE cl_8 kl_RL_7 it_RX8 in_RX8 (fun j hj => by rcases (show j = 0 ∨ j = 1 ∨ j = 2 ∨ j = 3 ∨ j = 4 ∨ j = 5 ∨ j = 6 ∨ j = 7 ∨ j = 8 ∨ j = 9 ∨ j = 10 ∨ j = 11 ∨ j = 12 by omega) with rfl | rfl | rfl | rfl | rfl | rfl | rfl | rfl | rfl | rfl | rfl | rfl | rfl <;> rfl) (by decide) (by decide) dL_law_0 (fun adx H h ho hd => ?_)
  refine lv_dup C.1 C.2.1 dL_law_3 rfl ?_
  refine l_vA K h ho hd (x_I C K h [] (c_X8_init FU_ l κ G cy adx H.size (nw_ e0_ 8 0) 0 rfl hfx) mi_X8_init rfl rfl im_yX8_init ml_RL_9 ⟨rfl, rfl, Nat.le_of_ble_eq_true rfl, Nat.le_of_ble_eq_true rfl⟩ hl (Nat.le_of_ble_eq_true rfl) dL_law_4 ⟨by decide, by decide⟩ rfl) (fun adx1 H locs hag h ho hd => ?_)
  rw [← hag 0 (by decide)]
  refine lv_astore_n (i := 1) (lv' := [(1, .ref (adx1 0)), (0, .ref b)]) C.1 C.2.1 dL_law_7 rfl hl (by decide) rfl (fun ls hl => ?_)
  refine l_new (ad := fun _ => 0) C K h cl_9 kl_RL_10 it_RX9 in_RX9 (fun j hj => by rcases (show j = 0 ∨ j = 1 ∨ j = 2 ∨ j = 3 ∨ j = 4 ∨ j = 5 ∨ j = 6 ∨ j = 7 ∨ j = 8 ∨ j = 9 ∨ j = 10 ∨ j = 11 ∨ j = 12 ∨ j = 13 ∨ j = 14 ∨ j = 15 ∨ j = 16 ∨ j = 17 ∨ j = 18 ∨ j = 19 ∨ j = 20 ∨ j = 21 ∨ j = 22 ∨ j = 23 ∨ j = 24 ∨ j = 25 ∨ j = 26 ∨ j = 27 ∨ j = 28 ∨ j = 29 ∨ j = 30 ∨ j = 31 ∨ j = 32 ∨ j = 33 ∨ j = 34 ∨ j = 35 ∨ j = 36 ∨ j = 37 ∨ j = 38 ∨ j = 39 ∨ j = 40 ∨ j = 41 by omega) with rfl | rfl | rfl | rfl | rfl | rfl | rfl | rfl | rfl | rfl | rfl | rfl | rfl | rfl | rfl | rfl | rfl | rfl | rfl | rfl | rfl | rfl | rfl | rfl | rfl | rfl | rfl | rfl | rfl | rfl | rfl | rfl | rfl | rfl | rfl | rfl | rfl | rfl | rfl | rfl | rfl | rfl <;> rfl) (by decide) (by decide) dL_law_8 (fun adm H ho h hd => ?_)
  refine lv_dup C.1 C.2.1 dL_law_11 rfl ?_
  refine l_vA K ho h hd (x_I C K ho [] (c_X9_init l κ G cy adm H.size (nw_ e0_ 9 0) 0 rfl hfm) mi_X9_init rfl rfl im_yX9_init ml_RL_12 ⟨rfl, rfl, Nat.le_of_ble_eq_true rfl, Nat.le_of_ble_eq_true rfl⟩ hl (Nat.le_of_ble_eq_true rfl) dL_law_12 ⟨by decide, by decide⟩ rfl) (fun adm1 H locs hag2 ho h hd => ?_)
  rw [← hag2 0 (by decide)]
  refine lv_astore_n (i := 2) (lv' := [(2, .ref (adm1 0)), (1, .ref (adx1 0)), (0, .ref b)]) C.1 C.2.1 dL_law_15 rfl hl (by decide) rfl (fun ls hl => ?_)
  refine lv_iconst (v := 0) C.1 C.2.1 dL_law_16 (by decide) ?_
  refine lv_istore_n (i := 3) (lv' := [(3, .int 0), (2, .ref (adm1 0)), (1, .ref (adx1 0)), (0, .ref b)]) C.1 C.2.1 dL_law_17 rfl hl (by decide) rfl (fun ls hl => ?_)
  refine W.widen (k := 1000 + 4 * 0) (n := 20000 + 483 * 0) (by decide) (by decide) ?_
  exact law_loop hL C hX hbl K Rel hs hr hlocks (L + 6) 0 (by omega) (by omega) adx1 adm1 σx σm hrel H locs ls h ho hd.symm (lv_sub hl [3, 2, 1, 0] rfl)
