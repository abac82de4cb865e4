/-- the words that every method is given: those of the tables that stay good -/
def wU_ : List Cond := lw_tbl.filter goodWord
theorem mU_ {w : Cond} (h : w ∈ lw_tbl) (g : goodWord w = true) : w ∈ wU_ := List.mem_filter.mpr ⟨h, g⟩
theorem gU_ : GoodIn lw_tbl wU_ := fun _ h => ⟨(List.mem_filter.mp h).1, good_of_word (List.mem_filter.mp h).2⟩
theorem gV_ {w0 w1 : Cond} (h : w1 ∈ wU_) : GoodIn (w0 :: wU_) (w1 :: wU_) := fun w hw => (List.mem_cons.mp hw).elim (fun e => by rw [e]; exact ⟨List.mem_cons_of_mem _ h, good_of_word (List.mem_filter.mp h).2⟩) (fun h2 => ⟨List.mem_cons_of_mem _ h2, good_of_word (List.mem_filter.mp h2).2⟩)
theorem gL_ {w1 : Cond} (h : w1 ∈ wU_) : GoodIn lw_tbl (w1 :: wU_) := fun w hw => (List.mem_cons.mp hw).elim (fun e => by rw [e]; exact gU_ _ h) (fun h2 => gU_ _ h2)
set_option maxRecDepth 20000 in
theorem tk_1 {w : Cond} (h : w ∈ tables_1_1) : w ∈ lw_tbl := List.mem_append_right _ (show w ∈ tables_1 from List.mem_append_left _ h)
set_option maxRecDepth 20000 in
theorem tk_2 {w : Cond} (h : w ∈ tables_1_2) : w ∈ lw_tbl := List.mem_append_right _ (show w ∈ tables_1 from List.mem_append_right _ (List.mem_append_left _ h))
set_option maxRecDepth 20000 in
theorem tk_3 {w : Cond} (h : w ∈ tables_1_3) : w ∈ lw_tbl := List.mem_append_right _ (show w ∈ tables_1 from List.mem_append_right _ (List.mem_append_right _ (List.mem_append_left _ h)))
set_option maxRecDepth 20000 in
theorem tk_4 {w : Cond} (h : w ∈ tables_1_4) : w ∈ lw_tbl := List.mem_append_right _ (show w ∈ tables_1 from List.mem_append_right _ (List.mem_append_right _ (List.mem_append_right _ (List.mem_append_left _ h))))
set_option maxRecDepth 20000 in
theorem tk_5 {w : Cond} (h : w ∈ tables_1_5) : w ∈ lw_tbl := List.mem_append_right _ (show w ∈ tables_1 from List.mem_append_right _ (List.mem_append_right _ (List.mem_append_right _ (List.mem_append_right _ (List.mem_append_left _ h)))))
set_option maxRecDepth 20000 in
theorem tk_6 {w : Cond} (h : w ∈ tables_1_6) : w ∈ lw_tbl := List.mem_append_right _ (show w ∈ tables_1 from List.mem_append_right _ (List.mem_append_right _ (List.mem_append_right _ (List.mem_append_right _ (List.mem_append_right _ (List.mem_append_left _ h))))))
set_option maxRecDepth 20000 in
theorem tk_7 {w : Cond} (h : w ∈ tables_1_7) : w ∈ lw_tbl := List.mem_append_right _ (show w ∈ tables_1 from List.mem_append_right _ (List.mem_append_right _ (List.mem_append_right _ (List.mem_append_right _ (List.mem_append_right _ (List.mem_append_right _ (h)))))))
set_option maxRecDepth 20000 in
theorem in_RL : Cond.initialized RL ∈ wU_ := mU_ (tk_1 (List.mem_of_getElem? (i := 0) rfl)) rfl
set_option maxRecDepth 20000 in
theorem in_RX8 : Cond.initialized RX8 ∈ wU_ := mU_ (tk_1 (List.mem_of_getElem? (i := 1) rfl)) rfl
set_option maxRecDepth 20000 in
theorem in_RX1 : Cond.initialized RX1 ∈ wU_ := mU_ (tk_1 (List.mem_of_getElem? (i := 2) rfl)) rfl
set_option maxRecDepth 20000 in
theorem in_RX0 : Cond.initialized RX0 ∈ wU_ := mU_ (tk_1 (List.mem_of_getElem? (i := 3) rfl)) rfl
set_option maxRecDepth 20000 in
theorem in_RX3 : Cond.initialized RX3 ∈ wU_ := mU_ (tk_1 (List.mem_of_getElem? (i := 4) rfl)) rfl
set_option maxRecDepth 20000 in
theorem in_RX6 : Cond.initialized RX6 ∈ wU_ := mU_ (tk_1 (List.mem_of_getElem? (i := 5) rfl)) rfl
set_option maxRecDepth 20000 in
theorem in_RX7 : Cond.initialized RX7 ∈ wU_ := mU_ (tk_1 (List.mem_of_getElem? (i := 6) rfl)) rfl
set_option maxRecDepth 20000 in
theorem in_RX2 : Cond.initialized RX2 ∈ wU_ := mU_ (tk_1 (List.mem_of_getElem? (i := 7) rfl)) rfl
set_option maxRecDepth 20000 in
theorem in_RX4 : Cond.initialized RX4 ∈ wU_ := mU_ (tk_1 (List.mem_of_getElem? (i := 8) rfl)) rfl
set_option maxRecDepth 20000 in
theorem in_RJ0 : Cond.initialized RJ0 ∈ wU_ := mU_ (tk_1 (List.mem_of_getElem? (i := 9) rfl)) rfl
set_option maxRecDepth 20000 in
theorem in_RJ1 : Cond.initialized RJ1 ∈ wU_ := mU_ (tk_1 (List.mem_of_getElem? (i := 10) rfl)) rfl
set_option maxRecDepth 20000 in
theorem in_RJ3 : Cond.initialized RJ3 ∈ wU_ := mU_ (tk_1 (List.mem_of_getElem? (i := 11) rfl)) rfl
set_option maxRecDepth 20000 in
theorem in_RJ2 : Cond.initialized RJ2 ∈ wU_ := mU_ (tk_1 (List.mem_of_getElem? (i := 12) rfl)) rfl
set_option maxRecDepth 20000 in
theorem in_RX5 : Cond.initialized RX5 ∈ wU_ := mU_ (tk_1 (List.mem_of_getElem? (i := 13) rfl)) rfl
set_option maxRecDepth 20000 in
theorem in_RJ9 : Cond.initialized RJ9 ∈ wU_ := mU_ (tk_1 (List.mem_of_getElem? (i := 14) rfl)) rfl
set_option maxRecDepth 20000 in
theorem in_RX9 : Cond.initialized RX9 ∈ wU_ := mU_ (tk_1 (List.mem_of_getElem? (i := 15) rfl)) rfl
set_option maxRecDepth 20000 in
theorem in_RJ7 : Cond.initialized RJ7 ∈ wU_ := mU_ (tk_1 (List.mem_of_getElem? (i := 16) rfl)) rfl
set_option maxRecDepth 20000 in
theorem in_RJ13 : Cond.initialized RJ13 ∈ wU_ := mU_ (tk_1 (List.mem_of_getElem? (i := 17) rfl)) rfl
set_option maxRecDepth 20000 in
theorem in_RJ10 : Cond.initialized RJ10 ∈ wU_ := mU_ (tk_1 (List.mem_of_getElem? (i := 18) rfl)) rfl
set_option maxRecDepth 20000 in
theorem kl_RL_7 : Cond.classLink RL 7 RX8 ∈ wU_ := mU_ (tk_1 (List.mem_of_getElem? (i := 19) rfl)) rfl
set_option maxRecDepth 20000 in
theorem it_RX8 : Cond.instantiable RX8 13 ∈ wU_ := mU_ (tk_1 (List.mem_of_getElem? (i := 20) rfl)) rfl
set_option maxRecDepth 20000 in
theorem ml_RL_9 : Cond.methodLink RL 9 yX8_init ∈ wU_ := mU_ (tk_1 (List.mem_of_getElem? (i := 21) rfl)) rfl
set_option maxRecDepth 20000 in
theorem im_yX8_init : Cond.instanceMethod yX8_init ∈ wU_ := mU_ (tk_1 (List.mem_of_getElem? (i := 22) rfl)) rfl
set_option maxRecDepth 20000 in
theorem co_yX8_init : Cond.code yX8_init cX8_init 2 none ∈ wU_ := mU_ (tk_1 (List.mem_of_getElem? (i := 23) rfl)) rfl
set_option maxRecDepth 20000 in
theorem ml_RX8_3 : Cond.methodLink RX8 3 objectInit ∈ wU_ := mU_ (tk_1 (List.mem_of_getElem? (i := 24) rfl)) rfl
set_option maxRecDepth 20000 in
theorem im_objectInit : Cond.instanceMethod objectInit ∈ wU_ := mU_ (tk_1 (List.mem_of_getElem? (i := 25) rfl)) rfl
set_option maxRecDepth 20000 in
theorem co_objectInit : Cond.code objectInit ⟨#[0xb1]⟩ 1 none ∈ wU_ := mU_ (tk_1 (List.mem_of_getElem? (i := 26) rfl)) rfl
set_option maxRecDepth 20000 in
theorem kl_RX8_9 : Cond.classLink RX8 9 RX1 ∈ wU_ := mU_ (tk_1 (List.mem_of_getElem? (i := 27) rfl)) rfl
set_option maxRecDepth 20000 in
theorem it_RX1 : Cond.instantiable RX1 5 ∈ wU_ := mU_ (tk_1 (List.mem_of_getElem? (i := 28) rfl)) rfl
set_option maxRecDepth 20000 in
theorem im_yX1_init : Cond.instanceMethod yX1_init ∈ wU_ := mU_ (tk_1 (List.mem_of_getElem? (i := 30) rfl)) rfl
set_option maxRecDepth 20000 in
theorem co_yX1_init : Cond.code yX1_init cX1_init 2 none ∈ wU_ := mU_ (tk_1 (List.mem_of_getElem? (i := 31) rfl)) rfl
set_option maxRecDepth 20000 in
theorem ml_RX1_3 : Cond.methodLink RX1 3 objectInit ∈ wU_ := mU_ (tk_1 (List.mem_of_getElem? (i := 32) rfl)) rfl
set_option maxRecDepth 20000 in
theorem kl_RX1_9 : Cond.classLink RX1 9 RX0 ∈ wU_ := mU_ (tk_1 (List.mem_of_getElem? (i := 33) rfl)) rfl
set_option maxRecDepth 20000 in
theorem it_RX0 : Cond.instantiable RX0 4 ∈ wU_ := mU_ (tk_1 (List.mem_of_getElem? (i := 35) rfl)) rfl
set_option maxRecDepth 20000 in
theorem im_yX0_init : Cond.instanceMethod yX0_init ∈ wU_ := mU_ (tk_1 (List.mem_of_getElem? (i := 37) rfl)) rfl
set_option maxRecDepth 20000 in
theorem co_yX0_init : Cond.code yX0_init cX0_init 1 none ∈ wU_ := mU_ (tk_1 (List.mem_of_getElem? (i := 38) rfl)) rfl
set_option maxRecDepth 20000 in
theorem ml_RX0_1 : Cond.methodLink RX0 1 objectInit ∈ wU_ := mU_ (tk_1 (List.mem_of_getElem? (i := 39) rfl)) rfl
set_option maxRecDepth 20000 in
theorem fl_RX0_7 : Cond.fieldLink RX0 7 "FlownOnceAndLaid$Carpet" "kind" "I" ∈ wU_ := mU_ (tk_1 (List.mem_of_getElem? (i := 40) rfl)) rfl
set_option maxRecDepth 20000 in
theorem fl_RX0_13 : Cond.fieldLink RX0 13 "FlownOnceAndLaid$Carpet" "number" "I" ∈ wU_ := mU_ (tk_1 (List.mem_of_getElem? (i := 44) rfl)) rfl
set_option maxRecDepth 20000 in
theorem fl_RX0_16 : Cond.fieldLink RX0 16 "FlownOnceAndLaid$Carpet" "on" "I" ∈ wU_ := mU_ (tk_1 (List.mem_of_getElem? (i := 48) rfl)) rfl
set_option maxRecDepth 20000 in
theorem fl_RX0_19 : Cond.fieldLink RX0 19 "FlownOnceAndLaid$Carpet" "flown" "I" ∈ wU_ := mU_ (tk_1 (List.mem_of_getElem? (i := 51) rfl)) rfl
set_option maxRecDepth 20000 in
theorem fl_RX1_11 : Cond.fieldLink RX1 11 "FlownOnceAndLaid$Floor" "lying" "[LFlownOnceAndLaid$Carpet;" ∈ wU_ := mU_ (tk_1 (List.mem_of_getElem? (i := 64) rfl)) rfl
set_option maxRecDepth 20000 in
theorem fl_RX1_18 : Cond.fieldLink RX1 18 "FlownOnceAndLaid$Floor" "count" "I" ∈ wU_ := mU_ (tk_1 (List.mem_of_getElem? (i := 65) rfl)) rfl
set_option maxRecDepth 20000 in
theorem fl_RX1_56 : Cond.fieldLink RX1 56 "FlownOnceAndLaid$Floor" "night" "I" ∈ wU_ := mU_ (tk_1 (List.mem_of_getElem? (i := 68) rfl)) rfl
set_option maxRecDepth 20000 in
theorem fl_RX1_59 : Cond.fieldLink RX1 59 "FlownOnceAndLaid$Floor" "rule" "I" ∈ wU_ := mU_ (tk_1 (List.mem_of_getElem? (i := 69) rfl)) rfl
set_option maxRecDepth 20000 in
theorem fl_RX1_30 : Cond.fieldLink RX1 30 "FlownOnceAndLaid$Floor" "walls" "J" ∈ wU_ := mU_ (tk_1 (List.mem_of_getElem? (i := 71) rfl)) rfl
set_option maxRecDepth 20000 in
theorem kl_RX8_23 : Cond.classLink RX8 23 RX3 ∈ wU_ := mU_ (tk_1 (List.mem_of_getElem? (i := 84) rfl)) rfl
set_option maxRecDepth 20000 in
theorem it_RX3 : Cond.instantiable RX3 11 ∈ wU_ := mU_ (tk_1 (List.mem_of_getElem? (i := 85) rfl)) rfl
set_option maxRecDepth 20000 in
theorem im_yX3_init : Cond.instanceMethod yX3_init ∈ wU_ := mU_ (tk_1 (List.mem_of_getElem? (i := 87) rfl)) rfl
set_option maxRecDepth 20000 in
theorem co_yX3_init : Cond.code yX3_init cX3_init 1 none ∈ wU_ := mU_ (tk_1 (List.mem_of_getElem? (i := 88) rfl)) rfl
set_option maxRecDepth 20000 in
theorem ml_RX3_3 : Cond.methodLink RX3 3 objectInit ∈ wU_ := mU_ (tk_1 (List.mem_of_getElem? (i := 89) rfl)) rfl
set_option maxRecDepth 20000 in
theorem fl_RX3_9 : Cond.fieldLink RX3 9 "FlownOnceAndLaid$Reader" "tape" "[I" ∈ wU_ := mU_ (tk_1 (List.mem_of_getElem? (i := 90) rfl)) rfl
set_option maxRecDepth 20000 in
theorem fl_RX3_15 : Cond.fieldLink RX3 15 "FlownOnceAndLaid$Reader" "size" "I" ∈ wU_ := mU_ (tk_1 (List.mem_of_getElem? (i := 91) rfl)) rfl
set_option maxRecDepth 20000 in
theorem fl_RX3_19 : Cond.fieldLink RX3 19 "FlownOnceAndLaid$Reader" "tokens" "[I" ∈ wU_ := mU_ (tk_1 (List.mem_of_getElem? (i := 93) rfl)) rfl
set_option maxRecDepth 20000 in
theorem fl_RX3_22 : Cond.fieldLink RX3 22 "FlownOnceAndLaid$Reader" "places" "[I" ∈ wU_ := mU_ (tk_1 (List.mem_of_getElem? (i := 94) rfl)) rfl
set_option maxRecDepth 20000 in
theorem fl_RX3_25 : Cond.fieldLink RX3 25 "FlownOnceAndLaid$Reader" "values" "[I" ∈ wU_ := mU_ (tk_1 (List.mem_of_getElem? (i := 95) rfl)) rfl
set_option maxRecDepth 20000 in
theorem fl_RX3_28 : Cond.fieldLink RX3 28 "FlownOnceAndLaid$Reader" "tokenCount" "I" ∈ wU_ := mU_ (tk_1 (List.mem_of_getElem? (i := 96) rfl)) rfl
set_option maxRecDepth 20000 in
theorem fl_RX3_31 : Cond.fieldLink RX3 31 "FlownOnceAndLaid$Reader" "at" "I" ∈ wU_ := mU_ (tk_1 (List.mem_of_getElem? (i := 97) rfl)) rfl
set_option maxRecDepth 20000 in
theorem fl_RX3_34 : Cond.fieldLink RX3 34 "FlownOnceAndLaid$Reader" "steps" "[I" ∈ wU_ := mU_ (tk_1 (List.mem_of_getElem? (i := 98) rfl)) rfl
set_option maxRecDepth 20000 in
theorem fl_RX3_37 : Cond.fieldLink RX3 37 "FlownOnceAndLaid$Reader" "stepCount" "I" ∈ wU_ := mU_ (tk_1 (List.mem_of_getElem? (i := 99) rfl)) rfl
set_option maxRecDepth 20000 in
theorem fl_RX3_40 : Cond.fieldLink RX3 40 "FlownOnceAndLaid$Reader" "eastsEnd" "I" ∈ wU_ := mU_ (tk_1 (List.mem_of_getElem? (i := 100) rfl)) rfl
set_option maxRecDepth 20000 in
theorem fl_RX3_43 : Cond.fieldLink RX3 43 "FlownOnceAndLaid$Reader" "southsEnd" "I" ∈ wU_ := mU_ (tk_1 (List.mem_of_getElem? (i := 101) rfl)) rfl
set_option maxRecDepth 20000 in
theorem ac_int : Cond.arrayClass .int ∈ wU_ := mU_ (tk_1 (List.mem_of_getElem? (i := 125) rfl)) rfl
set_option maxRecDepth 20000 in
theorem kl_RX8_30 : Cond.classLink RX8 30 RX5 ∈ wU_ := mU_ (tk_1 (List.mem_of_getElem? (i := 126) rfl)) rfl
set_option maxRecDepth 20000 in
theorem kl_RX8_40 : Cond.classLink RX8 40 RX4 ∈ wU_ := mU_ (tk_1 (List.mem_of_getElem? (i := 128) rfl)) rfl
set_option maxRecDepth 20000 in
theorem kl_RX8_46 : Cond.classLink RX8 46 RX6 ∈ wU_ := mU_ (tk_1 (List.mem_of_getElem? (i := 130) rfl)) rfl
set_option maxRecDepth 20000 in
theorem it_RX6 : Cond.instantiable RX6 5 ∈ wU_ := mU_ (tk_1 (List.mem_of_getElem? (i := 131) rfl)) rfl
set_option maxRecDepth 20000 in
theorem im_yX6_init : Cond.instanceMethod yX6_init ∈ wU_ := mU_ (tk_1 (List.mem_of_getElem? (i := 133) rfl)) rfl
set_option maxRecDepth 20000 in
theorem co_yX6_init : Cond.code yX6_init cX6_init 1 none ∈ wU_ := mU_ (tk_1 (List.mem_of_getElem? (i := 134) rfl)) rfl
set_option maxRecDepth 20000 in
theorem ml_RX6_3 : Cond.methodLink RX6 3 objectInit ∈ wU_ := mU_ (tk_1 (List.mem_of_getElem? (i := 135) rfl)) rfl
set_option maxRecDepth 20000 in
theorem fl_RX6_11 : Cond.fieldLink RX6 11 "FlownOnceAndLaid$Thought" "names" "[I" ∈ wU_ := mU_ (tk_1 (List.mem_of_getElem? (i := 136) rfl)) rfl
set_option maxRecDepth 20000 in
theorem fl_RX6_17 : Cond.fieldLink RX6 17 "FlownOnceAndLaid$Thought" "stack" "[I" ∈ wU_ := mU_ (tk_1 (List.mem_of_getElem? (i := 137) rfl)) rfl
set_option maxRecDepth 20000 in
theorem fl_RX6_20 : Cond.fieldLink RX6 20 "FlownOnceAndLaid$Thought" "kind" "I" ∈ wU_ := mU_ (tk_1 (List.mem_of_getElem? (i := 138) rfl)) rfl
set_option maxRecDepth 20000 in
theorem fl_RX6_24 : Cond.fieldLink RX6 24 "FlownOnceAndLaid$Thought" "walls" "J" ∈ wU_ := mU_ (tk_1 (List.mem_of_getElem? (i := 139) rfl)) rfl
set_option maxRecDepth 20000 in
theorem fl_RX6_28 : Cond.fieldLink RX6 28 "FlownOnceAndLaid$Thought" "text" "LFlownOnceAndLaid$Text;" ∈ wU_ := mU_ (tk_1 (List.mem_of_getElem? (i := 140) rfl)) rfl
set_option maxRecDepth 20000 in
theorem kl_RX8_53 : Cond.classLink RX8 53 RX7 ∈ wU_ := mU_ (tk_1 (List.mem_of_getElem? (i := 152) rfl)) rfl
set_option maxRecDepth 20000 in
theorem it_RX7 : Cond.instantiable RX7 8 ∈ wU_ := mU_ (tk_1 (List.mem_of_getElem? (i := 153) rfl)) rfl
set_option maxRecDepth 20000 in
theorem im_yX7_init : Cond.instanceMethod yX7_init ∈ wU_ := mU_ (tk_1 (List.mem_of_getElem? (i := 155) rfl)) rfl
set_option maxRecDepth 20000 in
theorem co_yX7_init : Cond.code yX7_init cX7_init 1 none ∈ wU_ := mU_ (tk_1 (List.mem_of_getElem? (i := 156) rfl)) rfl
set_option maxRecDepth 20000 in
theorem ml_RX7_3 : Cond.methodLink RX7 3 objectInit ∈ wU_ := mU_ (tk_1 (List.mem_of_getElem? (i := 157) rfl)) rfl
set_option maxRecDepth 20000 in
theorem fl_RX7_9 : Cond.fieldLink RX7 9 "FlownOnceAndLaid$Ways" "steps" "[I" ∈ wU_ := mU_ (tk_1 (List.mem_of_getElem? (i := 158) rfl)) rfl
set_option maxRecDepth 20000 in
theorem fl_RX7_15 : Cond.fieldLink RX7 15 "FlownOnceAndLaid$Ways" "ahead" "[I" ∈ wU_ := mU_ (tk_1 (List.mem_of_getElem? (i := 159) rfl)) rfl
set_option maxRecDepth 20000 in
theorem fl_RX7_18 : Cond.fieldLink RX7 18 "FlownOnceAndLaid$Ways" "wordTo" "[I" ∈ wU_ := mU_ (tk_1 (List.mem_of_getElem? (i := 160) rfl)) rfl
set_option maxRecDepth 20000 in
theorem fl_RX7_21 : Cond.fieldLink RX7 21 "FlownOnceAndLaid$Ways" "order" "[I" ∈ wU_ := mU_ (tk_1 (List.mem_of_getElem? (i := 161) rfl)) rfl
set_option maxRecDepth 20000 in
theorem fl_RX7_24 : Cond.fieldLink RX7 24 "FlownOnceAndLaid$Ways" "goals" "[I" ∈ wU_ := mU_ (tk_1 (List.mem_of_getElem? (i := 162) rfl)) rfl
set_option maxRecDepth 20000 in
theorem fl_RX7_27 : Cond.fieldLink RX7 27 "FlownOnceAndLaid$Ways" "found" "I" ∈ wU_ := mU_ (tk_1 (List.mem_of_getElem? (i := 163) rfl)) rfl
set_option maxRecDepth 20000 in
theorem fl_RX7_31 : Cond.fieldLink RX7 31 "FlownOnceAndLaid$Ways" "movingWords" "I" ∈ wU_ := mU_ (tk_1 (List.mem_of_getElem? (i := 164) rfl)) rfl
set_option maxRecDepth 20000 in
theorem fl_RX7_34 : Cond.fieldLink RX7 34 "FlownOnceAndLaid$Ways" "sinkBits" "J" ∈ wU_ := mU_ (tk_1 (List.mem_of_getElem? (i := 165) rfl)) rfl
set_option maxRecDepth 20000 in
theorem kl_RX8_63 : Cond.classLink RX8 63 RX2 ∈ wU_ := mU_ (tk_1 (List.mem_of_getElem? (i := 183) rfl)) rfl
set_option maxRecDepth 20000 in
theorem it_RX2 : Cond.instantiable RX2 5 ∈ wU_ := mU_ (tk_1 (List.mem_of_getElem? (i := 184) rfl)) rfl
set_option maxRecDepth 20000 in
theorem im_yX2_init : Cond.instanceMethod yX2_init ∈ wU_ := mU_ (tk_1 (List.mem_of_getElem? (i := 186) rfl)) rfl
set_option maxRecDepth 20000 in
theorem co_yX2_init : Cond.code yX2_init cX2_init 1 none ∈ wU_ := mU_ (tk_1 (List.mem_of_getElem? (i := 187) rfl)) rfl
set_option maxRecDepth 20000 in
theorem ml_RX2_3 : Cond.methodLink RX2 3 objectInit ∈ wU_ := mU_ (tk_1 (List.mem_of_getElem? (i := 188) rfl)) rfl
set_option maxRecDepth 20000 in
theorem fl_RX2_9 : Cond.fieldLink RX2 9 "FlownOnceAndLaid$Pairs" "queue" "[I" ∈ wU_ := mU_ (tk_1 (List.mem_of_getElem? (i := 189) rfl)) rfl
set_option maxRecDepth 20000 in
theorem fl_RX2_15 : Cond.fieldLink RX2 15 "FlownOnceAndLaid$Pairs" "seen" "[J" ∈ wU_ := mU_ (tk_1 (List.mem_of_getElem? (i := 190) rfl)) rfl
set_option maxRecDepth 20000 in
theorem fl_RX2_19 : Cond.fieldLink RX2 19 "FlownOnceAndLaid$Pairs" "found" "I" ∈ wU_ := mU_ (tk_1 (List.mem_of_getElem? (i := 191) rfl)) rfl
set_option maxRecDepth 20000 in
theorem fl_RX2_23 : Cond.fieldLink RX2 23 "FlownOnceAndLaid$Pairs" "steps" "I" ∈ wU_ := mU_ (tk_1 (List.mem_of_getElem? (i := 192) rfl)) rfl
set_option maxRecDepth 20000 in
theorem fl_RX2_26 : Cond.fieldLink RX2 26 "FlownOnceAndLaid$Pairs" "on" "I" ∈ wU_ := mU_ (tk_1 (List.mem_of_getElem? (i := 194) rfl)) rfl
set_option maxRecDepth 20000 in
theorem ac_long : Cond.arrayClass .long ∈ wU_ := mU_ (tk_1 (List.mem_of_getElem? (i := 207) rfl)) rfl
set_option maxRecDepth 20000 in
theorem it_RX4 : Cond.instantiable RX4 3 ∈ wU_ := mU_ (tk_1 (List.mem_of_getElem? (i := 208) rfl)) rfl
set_option maxRecDepth 20000 in
theorem im_yX4_init : Cond.instanceMethod yX4_init ∈ wU_ := mU_ (tk_1 (List.mem_of_getElem? (i := 210) rfl)) rfl
set_option maxRecDepth 20000 in
theorem co_yX4_init : Cond.code yX4_init cX4_init 1 none ∈ wU_ := mU_ (tk_1 (List.mem_of_getElem? (i := 211) rfl)) rfl
set_option maxRecDepth 20000 in
theorem ml_RX4_3 : Cond.methodLink RX4 3 objectInit ∈ wU_ := mU_ (tk_1 (List.mem_of_getElem? (i := 212) rfl)) rfl
set_option maxRecDepth 20000 in
theorem fl_RX4_9 : Cond.fieldLink RX4 9 "FlownOnceAndLaid$Sheet" "items" "[I" ∈ wU_ := mU_ (tk_1 (List.mem_of_getElem? (i := 213) rfl)) rfl
set_option maxRecDepth 20000 in
theorem fl_RX4_15 : Cond.fieldLink RX4 15 "FlownOnceAndLaid$Sheet" "sort" "I" ∈ wU_ := mU_ (tk_1 (List.mem_of_getElem? (i := 215) rfl)) rfl
set_option maxRecDepth 20000 in
theorem fl_RX4_19 : Cond.fieldLink RX4 19 "FlownOnceAndLaid$Sheet" "size" "I" ∈ wU_ := mU_ (tk_1 (List.mem_of_getElem? (i := 217) rfl)) rfl
set_option maxRecDepth 20000 in
theorem ml_RX8_80 : Cond.methodLink RX8 80 yJ0_length_8abf5 ∈ wU_ := mU_ (tk_1 (List.mem_of_getElem? (i := 227) rfl)) rfl
set_option maxRecDepth 20000 in
theorem im_yJ0_length_8abf5 : Cond.instanceMethod yJ0_length_8abf5 ∈ wU_ := mU_ (tk_1 (List.mem_of_getElem? (i := 228) rfl)) rfl
set_option maxRecDepth 20000 in
theorem se_yJ0_length_8abf5 : Cond.selects RJ0 yJ0_length_8abf5 yJ0_length_8abf5 ∈ wU_ := mU_ (tk_1 (List.mem_of_getElem? (i := 229) rfl)) rfl
set_option maxRecDepth 20000 in
theorem co_yJ0_length_8abf5 : Cond.code yJ0_length_8abf5 cJ0_length_8abf5 1 (some .int) ∈ wU_ := mU_ (tk_1 (List.mem_of_getElem? (i := 230) rfl)) rfl
set_option maxRecDepth 20000 in
theorem ml_RJ0_335 : Cond.methodLink RJ0 335 yJ0_coder_7d493 ∈ wU_ := mU_ (tk_1 (List.mem_of_getElem? (i := 231) rfl)) rfl
set_option maxRecDepth 20000 in
theorem im_yJ0_coder_7d493 : Cond.instanceMethod yJ0_coder_7d493 ∈ wU_ := mU_ (tk_1 (List.mem_of_getElem? (i := 232) rfl)) rfl
set_option maxRecDepth 20000 in
theorem se_yJ0_coder_7d493 : Cond.selects RJ0 yJ0_coder_7d493 yJ0_coder_7d493 ∈ wU_ := mU_ (tk_1 (List.mem_of_getElem? (i := 233) rfl)) rfl
set_option maxRecDepth 20000 in
theorem co_yJ0_coder_7d493 : Cond.code yJ0_coder_7d493 cJ0_coder_7d493 1 (some .byte) ∈ wU_ := mU_ (tk_1 (List.mem_of_getElem? (i := 234) rfl)) rfl
set_option maxRecDepth 20000 in
theorem fl_RJ0_38 : Cond.fieldLink RJ0 38 "java/lang/String" "COMPACT_STRINGS" "Z" ∈ wU_ := mU_ (tk_1 (List.mem_of_getElem? (i := 235) rfl)) rfl
set_option maxRecDepth 20000 in
theorem ml_RX8_86 : Cond.methodLink RX8 86 yJ0_charAt_5068e ∈ wU_ := mU_ (tk_1 (List.mem_of_getElem? (i := 237) rfl)) rfl
set_option maxRecDepth 20000 in
theorem im_yJ0_charAt_5068e : Cond.instanceMethod yJ0_charAt_5068e ∈ wU_ := mU_ (tk_1 (List.mem_of_getElem? (i := 238) rfl)) rfl
set_option maxRecDepth 20000 in
theorem se_yJ0_charAt_5068e : Cond.selects RJ0 yJ0_charAt_5068e yJ0_charAt_5068e ∈ wU_ := mU_ (tk_1 (List.mem_of_getElem? (i := 239) rfl)) rfl
set_option maxRecDepth 20000 in
theorem co_yJ0_charAt_5068e : Cond.code yJ0_charAt_5068e cJ0_charAt_5068e 2 (some .char) ∈ wU_ := mU_ (tk_2 (List.mem_of_getElem? (i := 0) rfl)) rfl
set_option maxRecDepth 20000 in
theorem ml_RJ0_492 : Cond.methodLink RJ0 492 yJ0_isLatin1_aae02 ∈ wU_ := mU_ (tk_2 (List.mem_of_getElem? (i := 1) rfl)) rfl
set_option maxRecDepth 20000 in
theorem im_yJ0_isLatin1_aae02 : Cond.instanceMethod yJ0_isLatin1_aae02 ∈ wU_ := mU_ (tk_2 (List.mem_of_getElem? (i := 2) rfl)) rfl
set_option maxRecDepth 20000 in
theorem se_yJ0_isLatin1_aae02 : Cond.selects RJ0 yJ0_isLatin1_aae02 yJ0_isLatin1_aae02 ∈ wU_ := mU_ (tk_2 (List.mem_of_getElem? (i := 3) rfl)) rfl
set_option maxRecDepth 20000 in
theorem co_yJ0_isLatin1_aae02 : Cond.code yJ0_isLatin1_aae02 cJ0_isLatin1_aae02 1 (some .boolean) ∈ wU_ := mU_ (tk_2 (List.mem_of_getElem? (i := 4) rfl)) rfl
set_option maxRecDepth 20000 in
theorem ml_RJ0_495 : Cond.methodLink RJ0 495 yJ1_charAt_3b067 ∈ wU_ := mU_ (tk_2 (List.mem_of_getElem? (i := 5) rfl)) rfl
set_option maxRecDepth 20000 in
theorem st_yJ1_charAt_3b067 : Cond.static yJ1_charAt_3b067 ∈ wU_ := mU_ (tk_2 (List.mem_of_getElem? (i := 6) rfl)) rfl
set_option maxRecDepth 20000 in
theorem co_yJ1_charAt_3b067 : Cond.code yJ1_charAt_3b067 cJ1_charAt_3b067 2 (some .char) ∈ wU_ := mU_ (tk_2 (List.mem_of_getElem? (i := 7) rfl)) rfl
set_option maxRecDepth 20000 in
theorem ml_RJ1_9 : Cond.methodLink RJ1 9 yJ0_checkIndex_df160 ∈ wU_ := mU_ (tk_2 (List.mem_of_getElem? (i := 8) rfl)) rfl
set_option maxRecDepth 20000 in
theorem st_yJ0_checkIndex_df160 : Cond.static yJ0_checkIndex_df160 ∈ wU_ := mU_ (tk_2 (List.mem_of_getElem? (i := 9) rfl)) rfl
set_option maxRecDepth 20000 in
theorem co_yJ0_checkIndex_df160 : Cond.code yJ0_checkIndex_df160 cJ0_checkIndex_df160 2 none ∈ wU_ := mU_ (tk_2 (List.mem_of_getElem? (i := 10) rfl)) rfl
set_option maxRecDepth 20000 in
theorem fl_RJ0_1053 : Cond.fieldLink RJ0 1053 "jdk/internal/util/Preconditions" "SIOOBE_FORMATTER" "Ljava/util/function/BiFunction;" ∈ wU_ := mU_ (tk_2 (List.mem_of_getElem? (i := 11) rfl)) rfl
set_option maxRecDepth 20000 in
theorem ml_RJ0_1059 : Cond.methodLink RJ0 1059 yJ3_checkIndex_8e157 ∈ wU_ := mU_ (tk_2 (List.mem_of_getElem? (i := 13) rfl)) rfl
set_option maxRecDepth 20000 in
theorem st_yJ3_checkIndex_8e157 : Cond.static yJ3_checkIndex_8e157 ∈ wU_ := mU_ (tk_2 (List.mem_of_getElem? (i := 14) rfl)) rfl
set_option maxRecDepth 20000 in
theorem co_yJ3_checkIndex_8e157 : Cond.code yJ3_checkIndex_8e157 cJ3_checkIndex_8e157 3 (some .int) ∈ wU_ := mU_ (tk_2 (List.mem_of_getElem? (i := 15) rfl)) rfl
set_option maxRecDepth 20000 in
theorem ml_RJ0_498 : Cond.methodLink RJ0 498 yJ2_charAt_3b067 ∈ wU_ := mU_ (tk_2 (List.mem_of_getElem? (i := 16) rfl)) rfl
set_option maxRecDepth 20000 in
theorem st_yJ2_charAt_3b067 : Cond.static yJ2_charAt_3b067 ∈ wU_ := mU_ (tk_2 (List.mem_of_getElem? (i := 17) rfl)) rfl
set_option maxRecDepth 20000 in
theorem co_yJ2_charAt_3b067 : Cond.code yJ2_charAt_3b067 cJ2_charAt_3b067 2 (some .char) ∈ wU_ := mU_ (tk_2 (List.mem_of_getElem? (i := 18) rfl)) rfl
set_option maxRecDepth 20000 in
theorem ml_RJ2_67 : Cond.methodLink RJ2 67 yJ2_checkIndex_2214a ∈ wU_ := mU_ (tk_2 (List.mem_of_getElem? (i := 19) rfl)) rfl
set_option maxRecDepth 20000 in
theorem st_yJ2_checkIndex_2214a : Cond.static yJ2_checkIndex_2214a ∈ wU_ := mU_ (tk_2 (List.mem_of_getElem? (i := 20) rfl)) rfl
set_option maxRecDepth 20000 in
theorem co_yJ2_checkIndex_2214a : Cond.code yJ2_checkIndex_2214a cJ2_checkIndex_2214a 2 none ∈ wU_ := mU_ (tk_2 (List.mem_of_getElem? (i := 21) rfl)) rfl
set_option maxRecDepth 20000 in
theorem ml_RJ2_48 : Cond.methodLink RJ2 48 yJ2_length_9d52b ∈ wU_ := mU_ (tk_2 (List.mem_of_getElem? (i := 22) rfl)) rfl
set_option maxRecDepth 20000 in
theorem st_yJ2_length_9d52b : Cond.static yJ2_length_9d52b ∈ wU_ := mU_ (tk_2 (List.mem_of_getElem? (i := 23) rfl)) rfl
set_option maxRecDepth 20000 in
theorem co_yJ2_length_9d52b : Cond.code yJ2_length_9d52b cJ2_length_9d52b 1 (some .int) ∈ wU_ := mU_ (tk_2 (List.mem_of_getElem? (i := 24) rfl)) rfl
set_option maxRecDepth 20000 in
theorem ml_RJ2_414 : Cond.methodLink RJ2 414 yJ0_checkIndex_df160 ∈ wU_ := mU_ (tk_2 (List.mem_of_getElem? (i := 25) rfl)) rfl
set_option maxRecDepth 20000 in
theorem ml_RJ2_71 : Cond.methodLink RJ2 71 yJ2_getChar_3b067 ∈ wU_ := mU_ (tk_2 (List.mem_of_getElem? (i := 26) rfl)) rfl
set_option maxRecDepth 20000 in
theorem st_yJ2_getChar_3b067 : Cond.static yJ2_getChar_3b067 ∈ wU_ := mU_ (tk_2 (List.mem_of_getElem? (i := 27) rfl)) rfl
set_option maxRecDepth 20000 in
theorem co_yJ2_getChar_3b067 : Cond.code yJ2_getChar_3b067 cJ2_getChar_3b067 2 (some .char) ∈ wU_ := mU_ (tk_2 (List.mem_of_getElem? (i := 28) rfl)) rfl
set_option maxRecDepth 20000 in
theorem fl_RJ2_44 : Cond.fieldLink RJ2 44 "java/lang/StringUTF16" "$assertionsDisabled" "Z" ∈ wU_ := mU_ (tk_2 (List.mem_of_getElem? (i := 29) rfl)) rfl
set_option maxRecDepth 20000 in
theorem fl_RJ2_59 : Cond.fieldLink RJ2 59 "java/lang/StringUTF16" "HI_BYTE_SHIFT" "I" ∈ wU_ := mU_ (tk_2 (List.mem_of_getElem? (i := 31) rfl)) rfl
set_option maxRecDepth 20000 in
theorem fl_RJ2_63 : Cond.fieldLink RJ2 63 "java/lang/StringUTF16" "LO_BYTE_SHIFT" "I" ∈ wU_ := mU_ (tk_2 (List.mem_of_getElem? (i := 33) rfl)) rfl
set_option maxRecDepth 20000 in
theorem im_yX3_put : Cond.instanceMethod yX3_put ∈ wU_ := mU_ (tk_2 (List.mem_of_getElem? (i := 37) rfl)) rfl
set_option maxRecDepth 20000 in
theorem co_yX3_put : Cond.code yX3_put cX3_put 2 (some .int) ∈ wU_ := mU_ (tk_2 (List.mem_of_getElem? (i := 38) rfl)) rfl
set_option maxRecDepth 20000 in
theorem st_yX8_isBelow : Cond.static yX8_isBelow ∈ wU_ := mU_ (tk_2 (List.mem_of_getElem? (i := 40) rfl)) rfl
set_option maxRecDepth 20000 in
theorem co_yX8_isBelow : Cond.code yX8_isBelow cX8_isBelow 2 (some .boolean) ∈ wU_ := mU_ (tk_2 (List.mem_of_getElem? (i := 41) rfl)) rfl
set_option maxRecDepth 20000 in
theorem im_yX3_reads : Cond.instanceMethod yX3_reads ∈ wU_ := mU_ (tk_2 (List.mem_of_getElem? (i := 44) rfl)) rfl
set_option maxRecDepth 20000 in
theorem co_yX3_reads : Cond.code yX3_reads cX3_reads 1 (some .boolean) ∈ wU_ := mU_ (tk_2 (List.mem_of_getElem? (i := 45) rfl)) rfl
set_option maxRecDepth 20000 in
theorem ml_RX3_50 : Cond.methodLink RX3 50 yX3_findTokens ∈ wU_ := mU_ (tk_2 (List.mem_of_getElem? (i := 46) rfl)) rfl
set_option maxRecDepth 20000 in
theorem im_yX3_findTokens : Cond.instanceMethod yX3_findTokens ∈ wU_ := mU_ (tk_2 (List.mem_of_getElem? (i := 48) rfl)) rfl
set_option maxRecDepth 20000 in
theorem co_yX3_findTokens : Cond.code yX3_findTokens cX3_findTokens 5 none ∈ wU_ := mU_ (tk_2 (List.mem_of_getElem? (i := 49) rfl)) rfl
set_option maxRecDepth 20000 in
theorem ml_RX3_76 : Cond.methodLink RX3 76 yX3_letterAt ∈ wU_ := mU_ (tk_2 (List.mem_of_getElem? (i := 50) rfl)) rfl
set_option maxRecDepth 20000 in
theorem im_yX3_letterAt : Cond.instanceMethod yX3_letterAt ∈ wU_ := mU_ (tk_2 (List.mem_of_getElem? (i := 52) rfl)) rfl
set_option maxRecDepth 20000 in
theorem co_yX3_letterAt : Cond.code yX3_letterAt cX3_letterAt 2 (some .int) ∈ wU_ := mU_ (tk_2 (List.mem_of_getElem? (i := 53) rfl)) rfl
set_option maxRecDepth 20000 in
theorem ml_RX3_80 : Cond.methodLink RX3 80 yX3_isLetter ∈ wU_ := mU_ (tk_2 (List.mem_of_getElem? (i := 54) rfl)) rfl
set_option maxRecDepth 20000 in
theorem st_yX3_isLetter : Cond.static yX3_isLetter ∈ wU_ := mU_ (tk_2 (List.mem_of_getElem? (i := 55) rfl)) rfl
set_option maxRecDepth 20000 in
theorem co_yX3_isLetter : Cond.code yX3_isLetter cX3_isLetter 1 (some .boolean) ∈ wU_ := mU_ (tk_2 (List.mem_of_getElem? (i := 56) rfl)) rfl
set_option maxRecDepth 20000 in
theorem ml_RX3_83 : Cond.methodLink RX3 83 yX3_wordEnd ∈ wU_ := mU_ (tk_2 (List.mem_of_getElem? (i := 57) rfl)) rfl
set_option maxRecDepth 20000 in
theorem im_yX3_wordEnd : Cond.instanceMethod yX3_wordEnd ∈ wU_ := mU_ (tk_2 (List.mem_of_getElem? (i := 59) rfl)) rfl
set_option maxRecDepth 20000 in
theorem co_yX3_wordEnd : Cond.code yX3_wordEnd cX3_wordEnd 4 (some .int) ∈ wU_ := mU_ (tk_2 (List.mem_of_getElem? (i := 60) rfl)) rfl
set_option maxRecDepth 20000 in
theorem ml_RX3_86 : Cond.methodLink RX3 86 yX3_wordToken ∈ wU_ := mU_ (tk_2 (List.mem_of_getElem? (i := 61) rfl)) rfl
set_option maxRecDepth 20000 in
theorem im_yX3_wordToken : Cond.instanceMethod yX3_wordToken ∈ wU_ := mU_ (tk_2 (List.mem_of_getElem? (i := 63) rfl)) rfl
set_option maxRecDepth 20000 in
theorem co_yX3_wordToken : Cond.code yX3_wordToken cX3_wordToken 3 (some .int) ∈ wU_ := mU_ (tk_2 (List.mem_of_getElem? (i := 64) rfl)) rfl
set_option maxRecDepth 20000 in
theorem ml_RX3_107 : Cond.methodLink RX3 107 yX3_spells ∈ wU_ := mU_ (tk_2 (List.mem_of_getElem? (i := 66) rfl)) rfl
set_option maxRecDepth 20000 in
theorem im_yX3_spells : Cond.instanceMethod yX3_spells ∈ wU_ := mU_ (tk_2 (List.mem_of_getElem? (i := 68) rfl)) rfl
set_option maxRecDepth 20000 in
theorem co_yX3_spells : Cond.code yX3_spells cX3_spells 5 (some .boolean) ∈ wU_ := mU_ (tk_2 (List.mem_of_getElem? (i := 69) rfl)) rfl
set_option maxRecDepth 20000 in
theorem ml_RX3_133 : Cond.methodLink RX3 133 yJ0_length_8abf5 ∈ wU_ := mU_ (tk_2 (List.mem_of_getElem? (i := 70) rfl)) rfl
set_option maxRecDepth 20000 in
theorem ml_RX3_138 : Cond.methodLink RX3 138 yJ0_charAt_5068e ∈ wU_ := mU_ (tk_2 (List.mem_of_getElem? (i := 71) rfl)) rfl
set_option maxRecDepth 20000 in
theorem ml_RX3_89 : Cond.methodLink RX3 89 yX3_addToken ∈ wU_ := mU_ (tk_2 (List.mem_of_getElem? (i := 83) rfl)) rfl
set_option maxRecDepth 20000 in
theorem im_yX3_addToken : Cond.instanceMethod yX3_addToken ∈ wU_ := mU_ (tk_2 (List.mem_of_getElem? (i := 85) rfl)) rfl
set_option maxRecDepth 20000 in
theorem co_yX3_addToken : Cond.code yX3_addToken cX3_addToken 4 none ∈ wU_ := mU_ (tk_2 (List.mem_of_getElem? (i := 86) rfl)) rfl
set_option maxRecDepth 20000 in
theorem ml_RX3_93 : Cond.methodLink RX3 93 yX3_isDigit ∈ wU_ := mU_ (tk_2 (List.mem_of_getElem? (i := 87) rfl)) rfl
set_option maxRecDepth 20000 in
theorem st_yX3_isDigit : Cond.static yX3_isDigit ∈ wU_ := mU_ (tk_2 (List.mem_of_getElem? (i := 88) rfl)) rfl
set_option maxRecDepth 20000 in
theorem co_yX3_isDigit : Cond.code yX3_isDigit cX3_isDigit 1 (some .boolean) ∈ wU_ := mU_ (tk_2 (List.mem_of_getElem? (i := 89) rfl)) rfl
set_option maxRecDepth 20000 in
theorem ml_RX3_96 : Cond.methodLink RX3 96 yX3_numberEnd ∈ wU_ := mU_ (tk_2 (List.mem_of_getElem? (i := 90) rfl)) rfl
set_option maxRecDepth 20000 in
theorem im_yX3_numberEnd : Cond.instanceMethod yX3_numberEnd ∈ wU_ := mU_ (tk_2 (List.mem_of_getElem? (i := 92) rfl)) rfl
set_option maxRecDepth 20000 in
theorem co_yX3_numberEnd : Cond.code yX3_numberEnd cX3_numberEnd 4 (some .int) ∈ wU_ := mU_ (tk_2 (List.mem_of_getElem? (i := 93) rfl)) rfl
set_option maxRecDepth 20000 in
theorem ml_RX3_99 : Cond.methodLink RX3 99 yX3_numberValue ∈ wU_ := mU_ (tk_2 (List.mem_of_getElem? (i := 94) rfl)) rfl
set_option maxRecDepth 20000 in
theorem im_yX3_numberValue : Cond.instanceMethod yX3_numberValue ∈ wU_ := mU_ (tk_2 (List.mem_of_getElem? (i := 96) rfl)) rfl
set_option maxRecDepth 20000 in
theorem co_yX3_numberValue : Cond.code yX3_numberValue cX3_numberValue 5 (some .int) ∈ wU_ := mU_ (tk_2 (List.mem_of_getElem? (i := 97) rfl)) rfl
set_option maxRecDepth 20000 in
theorem ml_RX3_102 : Cond.methodLink RX3 102 yX3_isSign ∈ wU_ := mU_ (tk_2 (List.mem_of_getElem? (i := 98) rfl)) rfl
set_option maxRecDepth 20000 in
theorem st_yX3_isSign : Cond.static yX3_isSign ∈ wU_ := mU_ (tk_2 (List.mem_of_getElem? (i := 99) rfl)) rfl
set_option maxRecDepth 20000 in
theorem co_yX3_isSign : Cond.code yX3_isSign cX3_isSign 1 (some .boolean) ∈ wU_ := mU_ (tk_2 (List.mem_of_getElem? (i := 100) rfl)) rfl
set_option maxRecDepth 20000 in
theorem ml_RX3_53 : Cond.methodLink RX3 53 yX3_readPart ∈ wU_ := mU_ (tk_2 (List.mem_of_getElem? (i := 101) rfl)) rfl
set_option maxRecDepth 20000 in
theorem im_yX3_readPart : Cond.instanceMethod yX3_readPart ∈ wU_ := mU_ (tk_2 (List.mem_of_getElem? (i := 103) rfl)) rfl
set_option maxRecDepth 20000 in
theorem co_yX3_readPart : Cond.code yX3_readPart cX3_readPart 2 (some .boolean) ∈ wU_ := mU_ (tk_2 (List.mem_of_getElem? (i := 104) rfl)) rfl
set_option maxRecDepth 20000 in
theorem ml_RX3_145 : Cond.methodLink RX3 145 yX3_pass ∈ wU_ := mU_ (tk_2 (List.mem_of_getElem? (i := 105) rfl)) rfl
set_option maxRecDepth 20000 in
theorem im_yX3_pass : Cond.instanceMethod yX3_pass ∈ wU_ := mU_ (tk_2 (List.mem_of_getElem? (i := 107) rfl)) rfl
set_option maxRecDepth 20000 in
theorem co_yX3_pass : Cond.code yX3_pass cX3_pass 2 (some .boolean) ∈ wU_ := mU_ (tk_2 (List.mem_of_getElem? (i := 108) rfl)) rfl
set_option maxRecDepth 20000 in
theorem ml_RX3_57 : Cond.methodLink RX3 57 yX3_token ∈ wU_ := mU_ (tk_2 (List.mem_of_getElem? (i := 109) rfl)) rfl
set_option maxRecDepth 20000 in
theorem im_yX3_token : Cond.instanceMethod yX3_token ∈ wU_ := mU_ (tk_2 (List.mem_of_getElem? (i := 111) rfl)) rfl
set_option maxRecDepth 20000 in
theorem co_yX3_token : Cond.code yX3_token cX3_token 1 (some .int) ∈ wU_ := mU_ (tk_2 (List.mem_of_getElem? (i := 112) rfl)) rfl
set_option maxRecDepth 20000 in
theorem ml_RX3_142 : Cond.methodLink RX3 142 yX3_goOn ∈ wU_ := mU_ (tk_2 (List.mem_of_getElem? (i := 113) rfl)) rfl
set_option maxRecDepth 20000 in
theorem im_yX3_goOn : Cond.instanceMethod yX3_goOn ∈ wU_ := mU_ (tk_2 (List.mem_of_getElem? (i := 115) rfl)) rfl
set_option maxRecDepth 20000 in
theorem co_yX3_goOn : Cond.code yX3_goOn cX3_goOn 1 none ∈ wU_ := mU_ (tk_2 (List.mem_of_getElem? (i := 116) rfl)) rfl
set_option maxRecDepth 20000 in
theorem ml_RX3_148 : Cond.methodLink RX3 148 yX3_readOr ∈ wU_ := mU_ (tk_2 (List.mem_of_getElem? (i := 117) rfl)) rfl
set_option maxRecDepth 20000 in
theorem im_yX3_readOr : Cond.instanceMethod yX3_readOr ∈ wU_ := mU_ (tk_2 (List.mem_of_getElem? (i := 119) rfl)) rfl
set_option maxRecDepth 20000 in
theorem co_yX3_readOr : Cond.code yX3_readOr cX3_readOr 3 (some .boolean) ∈ wU_ := mU_ (tk_2 (List.mem_of_getElem? (i := 120) rfl)) rfl
set_option maxRecDepth 20000 in
theorem ml_RX3_151 : Cond.methodLink RX3 151 yX3_readAnd ∈ wU_ := mU_ (tk_2 (List.mem_of_getElem? (i := 121) rfl)) rfl
set_option maxRecDepth 20000 in
theorem im_yX3_readAnd : Cond.instanceMethod yX3_readAnd ∈ wU_ := mU_ (tk_2 (List.mem_of_getElem? (i := 123) rfl)) rfl
set_option maxRecDepth 20000 in
theorem co_yX3_readAnd : Cond.code yX3_readAnd cX3_readAnd 3 (some .boolean) ∈ wU_ := mU_ (tk_2 (List.mem_of_getElem? (i := 124) rfl)) rfl
set_option maxRecDepth 20000 in
theorem ml_RX3_158 : Cond.methodLink RX3 158 yX3_readNot ∈ wU_ := mU_ (tk_2 (List.mem_of_getElem? (i := 125) rfl)) rfl
set_option maxRecDepth 20000 in
theorem im_yX3_readNot : Cond.instanceMethod yX3_readNot ∈ wU_ := mU_ (tk_2 (List.mem_of_getElem? (i := 127) rfl)) rfl
set_option maxRecDepth 20000 in
theorem co_yX3_readNot : Cond.code yX3_readNot cX3_readNot 2 (some .boolean) ∈ wU_ := mU_ (tk_2 (List.mem_of_getElem? (i := 128) rfl)) rfl
set_option maxRecDepth 20000 in
theorem ml_RX3_161 : Cond.methodLink RX3 161 yX3_readComparison ∈ wU_ := mU_ (tk_2 (List.mem_of_getElem? (i := 129) rfl)) rfl
set_option maxRecDepth 20000 in
theorem im_yX3_readComparison : Cond.instanceMethod yX3_readComparison ∈ wU_ := mU_ (tk_2 (List.mem_of_getElem? (i := 131) rfl)) rfl
set_option maxRecDepth 20000 in
theorem co_yX3_readComparison : Cond.code yX3_readComparison cX3_readComparison 3 (some .boolean) ∈ wU_ := mU_ (tk_2 (List.mem_of_getElem? (i := 132) rfl)) rfl
set_option maxRecDepth 20000 in
theorem ml_RX3_164 : Cond.methodLink RX3 164 yX3_readSum ∈ wU_ := mU_ (tk_2 (List.mem_of_getElem? (i := 133) rfl)) rfl
set_option maxRecDepth 20000 in
theorem im_yX3_readSum : Cond.instanceMethod yX3_readSum ∈ wU_ := mU_ (tk_2 (List.mem_of_getElem? (i := 135) rfl)) rfl
set_option maxRecDepth 20000 in
theorem co_yX3_readSum : Cond.code yX3_readSum cX3_readSum 4 (some .boolean) ∈ wU_ := mU_ (tk_2 (List.mem_of_getElem? (i := 136) rfl)) rfl
set_option maxRecDepth 20000 in
theorem ml_RX3_167 : Cond.methodLink RX3 167 yX3_readTerm ∈ wU_ := mU_ (tk_2 (List.mem_of_getElem? (i := 137) rfl)) rfl
set_option maxRecDepth 20000 in
theorem im_yX3_readTerm : Cond.instanceMethod yX3_readTerm ∈ wU_ := mU_ (tk_2 (List.mem_of_getElem? (i := 139) rfl)) rfl
set_option maxRecDepth 20000 in
theorem co_yX3_readTerm : Cond.code yX3_readTerm cX3_readTerm 3 (some .boolean) ∈ wU_ := mU_ (tk_2 (List.mem_of_getElem? (i := 140) rfl)) rfl
set_option maxRecDepth 20000 in
theorem ml_RX3_170 : Cond.methodLink RX3 170 yX3_readOne ∈ wU_ := mU_ (tk_2 (List.mem_of_getElem? (i := 141) rfl)) rfl
set_option maxRecDepth 20000 in
theorem im_yX3_readOne : Cond.instanceMethod yX3_readOne ∈ wU_ := mU_ (tk_2 (List.mem_of_getElem? (i := 143) rfl)) rfl
set_option maxRecDepth 20000 in
theorem co_yX3_readOne : Cond.code yX3_readOne cX3_readOne 3 (some .boolean) ∈ wU_ := mU_ (tk_2 (List.mem_of_getElem? (i := 144) rfl)) rfl
set_option maxRecDepth 20000 in
theorem ml_RX3_173 : Cond.methodLink RX3 173 yX3_readNumber ∈ wU_ := mU_ (tk_2 (List.mem_of_getElem? (i := 145) rfl)) rfl
set_option maxRecDepth 20000 in
theorem im_yX3_readNumber : Cond.instanceMethod yX3_readNumber ∈ wU_ := mU_ (tk_2 (List.mem_of_getElem? (i := 147) rfl)) rfl
set_option maxRecDepth 20000 in
theorem co_yX3_readNumber : Cond.code yX3_readNumber cX3_readNumber 1 (some .boolean) ∈ wU_ := mU_ (tk_2 (List.mem_of_getElem? (i := 148) rfl)) rfl
set_option maxRecDepth 20000 in
theorem ml_RX3_154 : Cond.methodLink RX3 154 yX3_emit ∈ wU_ := mU_ (tk_2 (List.mem_of_getElem? (i := 149) rfl)) rfl
set_option maxRecDepth 20000 in
theorem im_yX3_emit : Cond.instanceMethod yX3_emit ∈ wU_ := mU_ (tk_2 (List.mem_of_getElem? (i := 151) rfl)) rfl
set_option maxRecDepth 20000 in
theorem co_yX3_emit : Cond.code yX3_emit cX3_emit 2 none ∈ wU_ := mU_ (tk_2 (List.mem_of_getElem? (i := 152) rfl)) rfl
set_option maxRecDepth 20000 in
theorem im_yX3_made : Cond.instanceMethod yX3_made ∈ wU_ := mU_ (tk_2 (List.mem_of_getElem? (i := 155) rfl)) rfl
set_option maxRecDepth 20000 in
theorem co_yX3_made : Cond.code yX3_made cX3_made 1 (some (.object "FlownOnceAndLaid$Text")) ∈ wU_ := mU_ (tk_2 (List.mem_of_getElem? (i := 156) rfl)) rfl
set_option maxRecDepth 20000 in
theorem kl_RX3_61 : Cond.classLink RX3 61 RX5 ∈ wU_ := mU_ (tk_2 (List.mem_of_getElem? (i := 157) rfl)) rfl
set_option maxRecDepth 20000 in
theorem it_RX5 : Cond.instantiable RX5 3 ∈ wU_ := mU_ (tk_2 (List.mem_of_getElem? (i := 158) rfl)) rfl
set_option maxRecDepth 20000 in
theorem ml_RX3_63 : Cond.methodLink RX3 63 yX3_stepsOf ∈ wU_ := mU_ (tk_2 (List.mem_of_getElem? (i := 159) rfl)) rfl
set_option maxRecDepth 20000 in
theorem im_yX3_stepsOf : Cond.instanceMethod yX3_stepsOf ∈ wU_ := mU_ (tk_2 (List.mem_of_getElem? (i := 161) rfl)) rfl
set_option maxRecDepth 20000 in
theorem co_yX3_stepsOf : Cond.code yX3_stepsOf cX3_stepsOf 5 (some (.array .int)) ∈ wU_ := mU_ (tk_2 (List.mem_of_getElem? (i := 162) rfl)) rfl
set_option maxRecDepth 20000 in
theorem ml_RX3_70 : Cond.methodLink RX3 70 yJ9_max_7cf53 ∈ wU_ := mU_ (tk_2 (List.mem_of_getElem? (i := 163) rfl)) rfl
set_option maxRecDepth 20000 in
theorem st_yJ9_max_7cf53 : Cond.static yJ9_max_7cf53 ∈ wU_ := mU_ (tk_2 (List.mem_of_getElem? (i := 164) rfl)) rfl
set_option maxRecDepth 20000 in
theorem co_yJ9_max_7cf53 : Cond.code yJ9_max_7cf53 cJ9_max_7cf53 2 (some .int) ∈ wU_ := mU_ (tk_2 (List.mem_of_getElem? (i := 165) rfl)) rfl
set_option maxRecDepth 20000 in
theorem im_yX5_init : Cond.instanceMethod yX5_init ∈ wU_ := mU_ (tk_2 (List.mem_of_getElem? (i := 167) rfl)) rfl
set_option maxRecDepth 20000 in
theorem co_yX5_init : Cond.code yX5_init cX5_init 4 none ∈ wU_ := mU_ (tk_2 (List.mem_of_getElem? (i := 168) rfl)) rfl
set_option maxRecDepth 20000 in
theorem ml_RX5_1 : Cond.methodLink RX5 1 objectInit ∈ wU_ := mU_ (tk_2 (List.mem_of_getElem? (i := 169) rfl)) rfl
set_option maxRecDepth 20000 in
theorem fl_RX5_7 : Cond.fieldLink RX5 7 "FlownOnceAndLaid$Text" "easts" "[I" ∈ wU_ := mU_ (tk_2 (List.mem_of_getElem? (i := 170) rfl)) rfl
set_option maxRecDepth 20000 in
theorem fl_RX5_13 : Cond.fieldLink RX5 13 "FlownOnceAndLaid$Text" "souths" "[I" ∈ wU_ := mU_ (tk_2 (List.mem_of_getElem? (i := 172) rfl)) rfl
set_option maxRecDepth 20000 in
theorem fl_RX5_16 : Cond.fieldLink RX5 16 "FlownOnceAndLaid$Text" "rises" "[I" ∈ wU_ := mU_ (tk_2 (List.mem_of_getElem? (i := 174) rfl)) rfl
set_option maxRecDepth 20000 in
theorem ac_byte : Cond.arrayClass .byte ∈ wU_ := mU_ (tk_2 (List.mem_of_getElem? (i := 183) rfl)) rfl
set_option maxRecDepth 20000 in
theorem im_yX3_clear : Cond.instanceMethod yX3_clear ∈ wU_ := mU_ (tk_2 (List.mem_of_getElem? (i := 186) rfl)) rfl
set_option maxRecDepth 20000 in
theorem co_yX3_clear : Cond.code yX3_clear cX3_clear 1 none ∈ wU_ := mU_ (tk_2 (List.mem_of_getElem? (i := 187) rfl)) rfl
set_option maxRecDepth 20000 in
theorem fl_RX8_12 : Cond.fieldLink RX8 12 "FlownOnceAndLaid" "floor" "LFlownOnceAndLaid$Floor;" ∈ wU_ := mU_ (tk_2 (List.mem_of_getElem? (i := 188) rfl)) rfl
set_option maxRecDepth 20000 in
theorem fl_RX8_16 : Cond.fieldLink RX8 16 "FlownOnceAndLaid" "kept" "LFlownOnceAndLaid$Floor;" ∈ wU_ := mU_ (tk_2 (List.mem_of_getElem? (i := 189) rfl)) rfl
set_option maxRecDepth 20000 in
theorem fl_RX8_19 : Cond.fieldLink RX8 19 "FlownOnceAndLaid" "imageIsKept" "Z" ∈ wU_ := mU_ (tk_2 (List.mem_of_getElem? (i := 190) rfl)) rfl
set_option maxRecDepth 20000 in
theorem fl_RX8_26 : Cond.fieldLink RX8 26 "FlownOnceAndLaid" "reader" "LFlownOnceAndLaid$Reader;" ∈ wU_ := mU_ (tk_2 (List.mem_of_getElem? (i := 191) rfl)) rfl
set_option maxRecDepth 20000 in
theorem fl_RX8_32 : Cond.fieldLink RX8 32 "FlownOnceAndLaid" "texts" "[LFlownOnceAndLaid$Text;" ∈ wU_ := mU_ (tk_2 (List.mem_of_getElem? (i := 192) rfl)) rfl
set_option maxRecDepth 20000 in
theorem fl_RX8_36 : Cond.fieldLink RX8 36 "FlownOnceAndLaid" "textCount" "I" ∈ wU_ := mU_ (tk_2 (List.mem_of_getElem? (i := 193) rfl)) rfl
set_option maxRecDepth 20000 in
theorem fl_RX8_42 : Cond.fieldLink RX8 42 "FlownOnceAndLaid" "sheets" "[LFlownOnceAndLaid$Sheet;" ∈ wU_ := mU_ (tk_2 (List.mem_of_getElem? (i := 194) rfl)) rfl
set_option maxRecDepth 20000 in
theorem fl_RX8_49 : Cond.fieldLink RX8 49 "FlownOnceAndLaid" "thought" "LFlownOnceAndLaid$Thought;" ∈ wU_ := mU_ (tk_2 (List.mem_of_getElem? (i := 195) rfl)) rfl
set_option maxRecDepth 20000 in
theorem fl_RX8_56 : Cond.fieldLink RX8 56 "FlownOnceAndLaid" "oneWays" "LFlownOnceAndLaid$Ways;" ∈ wU_ := mU_ (tk_2 (List.mem_of_getElem? (i := 196) rfl)) rfl
set_option maxRecDepth 20000 in
theorem fl_RX8_60 : Cond.fieldLink RX8 60 "FlownOnceAndLaid" "otherWays" "LFlownOnceAndLaid$Ways;" ∈ wU_ := mU_ (tk_2 (List.mem_of_getElem? (i := 197) rfl)) rfl
set_option maxRecDepth 20000 in
theorem fl_RX8_66 : Cond.fieldLink RX8 66 "FlownOnceAndLaid" "pairs" "LFlownOnceAndLaid$Pairs;" ∈ wU_ := mU_ (tk_2 (List.mem_of_getElem? (i := 198) rfl)) rfl
set_option maxRecDepth 20000 in
theorem fl_RX8_70 : Cond.fieldLink RX8 70 "FlownOnceAndLaid" "rowsNow" "[J" ∈ wU_ := mU_ (tk_2 (List.mem_of_getElem? (i := 199) rfl)) rfl
set_option maxRecDepth 20000 in
theorem fl_RX8_74 : Cond.fieldLink RX8 74 "FlownOnceAndLaid" "rowsNext" "[J" ∈ wU_ := mU_ (tk_2 (List.mem_of_getElem? (i := 200) rfl)) rfl
set_option maxRecDepth 20000 in
theorem ml_RL_13 : Cond.methodLink RL 13 yX8_set ∈ wU_ := mU_ (tk_2 (List.mem_of_getElem? (i := 228) rfl)) rfl
set_option maxRecDepth 20000 in
theorem im_yX8_set : Cond.instanceMethod yX8_set ∈ wU_ := mU_ (tk_2 (List.mem_of_getElem? (i := 229) rfl)) rfl
set_option maxRecDepth 20000 in
theorem se_yX8_set : Cond.selects RX8 yX8_set yX8_set ∈ wU_ := mU_ (tk_2 (List.mem_of_getElem? (i := 230) rfl)) rfl
set_option maxRecDepth 20000 in
theorem co_yX8_set : Cond.code yX8_set cX8_set 4 (some .int) ∈ wU_ := mU_ (tk_2 (List.mem_of_getElem? (i := 231) rfl)) rfl
set_option maxRecDepth 20000 in
theorem ml_RX8_105 : Cond.methodLink RX8 105 yX8_setNight ∈ wU_ := mU_ (tk_2 (List.mem_of_getElem? (i := 232) rfl)) rfl
set_option maxRecDepth 20000 in
theorem im_yX8_setNight : Cond.instanceMethod yX8_setNight ∈ wU_ := mU_ (tk_2 (List.mem_of_getElem? (i := 234) rfl)) rfl
set_option maxRecDepth 20000 in
theorem co_yX8_setNight : Cond.code yX8_setNight cX8_setNight 3 (some .int) ∈ wU_ := mU_ (tk_2 (List.mem_of_getElem? (i := 235) rfl)) rfl
set_option maxRecDepth 20000 in
theorem ml_RX8_116 : Cond.methodLink RX8 116 yX8_isBelow ∈ wU_ := mU_ (tk_2 (List.mem_of_getElem? (i := 236) rfl)) rfl
set_option maxRecDepth 20000 in
theorem ml_RX8_108 : Cond.methodLink RX8 108 yX8_setWall ∈ wU_ := mU_ (tk_2 (List.mem_of_getElem? (i := 237) rfl)) rfl
set_option maxRecDepth 20000 in
theorem im_yX8_setWall : Cond.instanceMethod yX8_setWall ∈ wU_ := mU_ (tk_2 (List.mem_of_getElem? (i := 239) rfl)) rfl
set_option maxRecDepth 20000 in
theorem co_yX8_setWall : Cond.code yX8_setWall cX8_setWall 4 (some .int) ∈ wU_ := mU_ (tk_3 (List.mem_of_getElem? (i := 0) rfl)) rfl
set_option maxRecDepth 20000 in
theorem im_yX1_wallOn : Cond.instanceMethod yX1_wallOn ∈ wU_ := mU_ (tk_3 (List.mem_of_getElem? (i := 3) rfl)) rfl
set_option maxRecDepth 20000 in
theorem co_yX1_wallOn : Cond.code yX1_wallOn cX1_wallOn 2 (some .int) ∈ wU_ := mU_ (tk_3 (List.mem_of_getElem? (i := 4) rfl)) rfl
set_option maxRecDepth 20000 in
theorem im_yX1_putWall : Cond.instanceMethod yX1_putWall ∈ wU_ := mU_ (tk_3 (List.mem_of_getElem? (i := 7) rfl)) rfl
set_option maxRecDepth 20000 in
theorem co_yX1_putWall : Cond.code yX1_putWall cX1_putWall 3 none ∈ wU_ := mU_ (tk_3 (List.mem_of_getElem? (i := 8) rfl)) rfl
set_option maxRecDepth 20000 in
theorem cl_RX1_34 : Cond.constantLong RX1 34 (-1) ∈ wU_ := mU_ (tk_3 (List.mem_of_getElem? (i := 9) rfl)) rfl
set_option maxRecDepth 20000 in
theorem ml_RX8_112 : Cond.methodLink RX8 112 yX8_setOfCarpet ∈ wU_ := mU_ (tk_3 (List.mem_of_getElem? (i := 10) rfl)) rfl
set_option maxRecDepth 20000 in
theorem im_yX8_setOfCarpet : Cond.instanceMethod yX8_setOfCarpet ∈ wU_ := mU_ (tk_3 (List.mem_of_getElem? (i := 12) rfl)) rfl
set_option maxRecDepth 20000 in
theorem co_yX8_setOfCarpet : Cond.code yX8_setOfCarpet cX8_setOfCarpet 6 (some .int) ∈ wU_ := mU_ (tk_3 (List.mem_of_getElem? (i := 13) rfl)) rfl
set_option maxRecDepth 20000 in
theorem im_yX1_carpetAt : Cond.instanceMethod yX1_carpetAt ∈ wU_ := mU_ (tk_3 (List.mem_of_getElem? (i := 16) rfl)) rfl
set_option maxRecDepth 20000 in
theorem co_yX1_carpetAt : Cond.code yX1_carpetAt cX1_carpetAt 2 (some (.object "FlownOnceAndLaid$Carpet")) ∈ wU_ := mU_ (tk_3 (List.mem_of_getElem? (i := 17) rfl)) rfl
set_option maxRecDepth 20000 in
theorem ml_RX8_134 : Cond.methodLink RX8 134 yX8_endOf ∈ wU_ := mU_ (tk_3 (List.mem_of_getElem? (i := 19) rfl)) rfl
set_option maxRecDepth 20000 in
theorem st_yX8_endOf : Cond.static yX8_endOf ∈ wU_ := mU_ (tk_3 (List.mem_of_getElem? (i := 20) rfl)) rfl
set_option maxRecDepth 20000 in
theorem co_yX8_endOf : Cond.code yX8_endOf cX8_endOf 1 (some .int) ∈ wU_ := mU_ (tk_3 (List.mem_of_getElem? (i := 21) rfl)) rfl
set_option maxRecDepth 20000 in
theorem im_yX0_tell : Cond.instanceMethod yX0_tell ∈ wU_ := mU_ (tk_3 (List.mem_of_getElem? (i := 24) rfl)) rfl
set_option maxRecDepth 20000 in
theorem co_yX0_tell : Cond.code yX0_tell cX0_tell 2 (some .int) ∈ wU_ := mU_ (tk_3 (List.mem_of_getElem? (i := 25) rfl)) rfl
set_option maxRecDepth 20000 in
theorem im_yX0_put : Cond.instanceMethod yX0_put ∈ wU_ := mU_ (tk_3 (List.mem_of_getElem? (i := 28) rfl)) rfl
set_option maxRecDepth 20000 in
theorem co_yX0_put : Cond.code yX0_put cX0_put 3 none ∈ wU_ := mU_ (tk_3 (List.mem_of_getElem? (i := 29) rfl)) rfl
set_option maxRecDepth 20000 in
theorem ml_RL_18 : Cond.methodLink RL 18 yX8_carpet ∈ wU_ := mU_ (tk_3 (List.mem_of_getElem? (i := 30) rfl)) rfl
set_option maxRecDepth 20000 in
theorem im_yX8_carpet : Cond.instanceMethod yX8_carpet ∈ wU_ := mU_ (tk_3 (List.mem_of_getElem? (i := 31) rfl)) rfl
set_option maxRecDepth 20000 in
theorem se_yX8_carpet : Cond.selects RX8 yX8_carpet yX8_carpet ∈ wU_ := mU_ (tk_3 (List.mem_of_getElem? (i := 32) rfl)) rfl
set_option maxRecDepth 20000 in
theorem co_yX8_carpet : Cond.code yX8_carpet cX8_carpet 4 (some .int) ∈ wU_ := mU_ (tk_3 (List.mem_of_getElem? (i := 33) rfl)) rfl
set_option maxRecDepth 20000 in
theorem ml_RX8_144 : Cond.methodLink RX8 144 yX8_lay ∈ wU_ := mU_ (tk_3 (List.mem_of_getElem? (i := 34) rfl)) rfl
set_option maxRecDepth 20000 in
theorem im_yX8_lay : Cond.instanceMethod yX8_lay ∈ wU_ := mU_ (tk_3 (List.mem_of_getElem? (i := 36) rfl)) rfl
set_option maxRecDepth 20000 in
theorem co_yX8_lay : Cond.code yX8_lay cX8_lay 4 (some .int) ∈ wU_ := mU_ (tk_3 (List.mem_of_getElem? (i := 37) rfl)) rfl
set_option maxRecDepth 20000 in
theorem im_yX1_add : Cond.instanceMethod yX1_add ∈ wU_ := mU_ (tk_3 (List.mem_of_getElem? (i := 40) rfl)) rfl
set_option maxRecDepth 20000 in
theorem co_yX1_add : Cond.code yX1_add cX1_add 4 (some .int) ∈ wU_ := mU_ (tk_3 (List.mem_of_getElem? (i := 41) rfl)) rfl
set_option maxRecDepth 20000 in
theorem im_yX0_become : Cond.instanceMethod yX0_become ∈ wU_ := mU_ (tk_3 (List.mem_of_getElem? (i := 44) rfl)) rfl
set_option maxRecDepth 20000 in
theorem co_yX0_become : Cond.code yX0_become cX0_become 5 none ∈ wU_ := mU_ (tk_3 (List.mem_of_getElem? (i := 45) rfl)) rfl
set_option maxRecDepth 20000 in
theorem ml_RL_22 : Cond.methodLink RL 22 yX8_told ∈ wU_ := mU_ (tk_3 (List.mem_of_getElem? (i := 46) rfl)) rfl
set_option maxRecDepth 20000 in
theorem im_yX8_told : Cond.instanceMethod yX8_told ∈ wU_ := mU_ (tk_3 (List.mem_of_getElem? (i := 47) rfl)) rfl
set_option maxRecDepth 20000 in
theorem se_yX8_told : Cond.selects RX8 yX8_told yX8_told ∈ wU_ := mU_ (tk_3 (List.mem_of_getElem? (i := 48) rfl)) rfl
set_option maxRecDepth 20000 in
theorem co_yX8_told : Cond.code yX8_told cX8_told 4 (some .int) ∈ wU_ := mU_ (tk_3 (List.mem_of_getElem? (i := 49) rfl)) rfl
set_option maxRecDepth 20000 in
theorem ml_RX8_150 : Cond.methodLink RX8 150 yX8_heightOf ∈ wU_ := mU_ (tk_3 (List.mem_of_getElem? (i := 50) rfl)) rfl
set_option maxRecDepth 20000 in
theorem im_yX8_heightOf : Cond.instanceMethod yX8_heightOf ∈ wU_ := mU_ (tk_3 (List.mem_of_getElem? (i := 52) rfl)) rfl
set_option maxRecDepth 20000 in
theorem co_yX8_heightOf : Cond.code yX8_heightOf cX8_heightOf 3 (some .int) ∈ wU_ := mU_ (tk_3 (List.mem_of_getElem? (i := 53) rfl)) rfl
set_option maxRecDepth 20000 in
theorem ml_RX8_153 : Cond.methodLink RX8 153 yX8_think ∈ wU_ := mU_ (tk_3 (List.mem_of_getElem? (i := 54) rfl)) rfl
set_option maxRecDepth 20000 in
theorem im_yX8_think : Cond.instanceMethod yX8_think ∈ wU_ := mU_ (tk_3 (List.mem_of_getElem? (i := 56) rfl)) rfl
set_option maxRecDepth 20000 in
theorem co_yX8_think : Cond.code yX8_think cX8_think 2 none ∈ wU_ := mU_ (tk_3 (List.mem_of_getElem? (i := 57) rfl)) rfl
set_option maxRecDepth 20000 in
theorem im_yX6_takeUp : Cond.instanceMethod yX6_takeUp ∈ wU_ := mU_ (tk_3 (List.mem_of_getElem? (i := 60) rfl)) rfl
set_option maxRecDepth 20000 in
theorem co_yX6_takeUp : Cond.code yX6_takeUp cX6_takeUp 5 none ∈ wU_ := mU_ (tk_3 (List.mem_of_getElem? (i := 61) rfl)) rfl
set_option maxRecDepth 20000 in
theorem ml_RX8_305 : Cond.methodLink RX8 305 yX8_textAt ∈ wU_ := mU_ (tk_3 (List.mem_of_getElem? (i := 62) rfl)) rfl
set_option maxRecDepth 20000 in
theorem im_yX8_textAt : Cond.instanceMethod yX8_textAt ∈ wU_ := mU_ (tk_3 (List.mem_of_getElem? (i := 64) rfl)) rfl
set_option maxRecDepth 20000 in
theorem co_yX8_textAt : Cond.code yX8_textAt cX8_textAt 2 (some (.object "FlownOnceAndLaid$Text")) ∈ wU_ := mU_ (tk_3 (List.mem_of_getElem? (i := 65) rfl)) rfl
set_option maxRecDepth 20000 in
theorem im_yX6_goBy : Cond.instanceMethod yX6_goBy ∈ wU_ := mU_ (tk_3 (List.mem_of_getElem? (i := 68) rfl)) rfl
set_option maxRecDepth 20000 in
theorem co_yX6_goBy : Cond.code yX6_goBy cX6_goBy 2 none ∈ wU_ := mU_ (tk_3 (List.mem_of_getElem? (i := 69) rfl)) rfl
set_option maxRecDepth 20000 in
theorem im_yX1_nearTo : Cond.instanceMethod yX1_nearTo ∈ wU_ := mU_ (tk_3 (List.mem_of_getElem? (i := 72) rfl)) rfl
set_option maxRecDepth 20000 in
theorem co_yX1_nearTo : Cond.code yX1_nearTo cX1_nearTo 6 (some .int) ∈ wU_ := mU_ (tk_3 (List.mem_of_getElem? (i := 73) rfl)) rfl
set_option maxRecDepth 20000 in
theorem ml_RX1_39 : Cond.methodLink RX1 39 yX1_carpetAt ∈ wU_ := mU_ (tk_3 (List.mem_of_getElem? (i := 74) rfl)) rfl
set_option maxRecDepth 20000 in
theorem ml_RX1_46 : Cond.methodLink RX1 46 yX1_distance ∈ wU_ := mU_ (tk_3 (List.mem_of_getElem? (i := 75) rfl)) rfl
set_option maxRecDepth 20000 in
theorem st_yX1_distance : Cond.static yX1_distance ∈ wU_ := mU_ (tk_3 (List.mem_of_getElem? (i := 76) rfl)) rfl
set_option maxRecDepth 20000 in
theorem co_yX1_distance : Cond.code yX1_distance cX1_distance 2 (some .int) ∈ wU_ := mU_ (tk_3 (List.mem_of_getElem? (i := 77) rfl)) rfl
set_option maxRecDepth 20000 in
theorem ml_RX1_50 : Cond.methodLink RX1 50 yJ9_abs_0f7a4 ∈ wU_ := mU_ (tk_3 (List.mem_of_getElem? (i := 78) rfl)) rfl
set_option maxRecDepth 20000 in
theorem st_yJ9_abs_0f7a4 : Cond.static yJ9_abs_0f7a4 ∈ wU_ := mU_ (tk_3 (List.mem_of_getElem? (i := 79) rfl)) rfl
set_option maxRecDepth 20000 in
theorem co_yJ9_abs_0f7a4 : Cond.code yJ9_abs_0f7a4 cJ9_abs_0f7a4 1 (some .int) ∈ wU_ := mU_ (tk_3 (List.mem_of_getElem? (i := 80) rfl)) rfl
set_option maxRecDepth 20000 in
theorem im_yX6_height : Cond.instanceMethod yX6_height ∈ wU_ := mU_ (tk_3 (List.mem_of_getElem? (i := 83) rfl)) rfl
set_option maxRecDepth 20000 in
theorem co_yX6_height : Cond.code yX6_height cX6_height 4 (some .int) ∈ wU_ := mU_ (tk_3 (List.mem_of_getElem? (i := 84) rfl)) rfl
set_option maxRecDepth 20000 in
theorem ml_RX6_58 : Cond.methodLink RX6 58 yX6_valueOf ∈ wU_ := mU_ (tk_3 (List.mem_of_getElem? (i := 85) rfl)) rfl
set_option maxRecDepth 20000 in
theorem im_yX6_valueOf : Cond.instanceMethod yX6_valueOf ∈ wU_ := mU_ (tk_3 (List.mem_of_getElem? (i := 87) rfl)) rfl
set_option maxRecDepth 20000 in
theorem co_yX6_valueOf : Cond.code yX6_valueOf cX6_valueOf 10 (some .int) ∈ wU_ := mU_ (tk_3 (List.mem_of_getElem? (i := 88) rfl)) rfl
set_option maxRecDepth 20000 in
theorem st_yX8_bounded : Cond.static yX8_bounded ∈ wU_ := mU_ (tk_3 (List.mem_of_getElem? (i := 90) rfl)) rfl
set_option maxRecDepth 20000 in
theorem co_yX8_bounded : Cond.code yX8_bounded cX8_bounded 3 (some .int) ∈ wU_ := mU_ (tk_3 (List.mem_of_getElem? (i := 91) rfl)) rfl
set_option maxRecDepth 20000 in
theorem ml_RX6_78 : Cond.methodLink RX6 78 yX6_heightOfKind ∈ wU_ := mU_ (tk_3 (List.mem_of_getElem? (i := 92) rfl)) rfl
set_option maxRecDepth 20000 in
theorem im_yX6_heightOfKind : Cond.instanceMethod yX6_heightOfKind ∈ wU_ := mU_ (tk_3 (List.mem_of_getElem? (i := 94) rfl)) rfl
set_option maxRecDepth 20000 in
theorem co_yX6_heightOfKind : Cond.code yX6_heightOfKind cX6_heightOfKind 3 (some .int) ∈ wU_ := mU_ (tk_3 (List.mem_of_getElem? (i := 95) rfl)) rfl
set_option maxRecDepth 20000 in
theorem im_yX6_goal : Cond.instanceMethod yX6_goal ∈ wU_ := mU_ (tk_3 (List.mem_of_getElem? (i := 98) rfl)) rfl
set_option maxRecDepth 20000 in
theorem co_yX6_goal : Cond.code yX6_goal cX6_goal 6 (some .int) ∈ wU_ := mU_ (tk_3 (List.mem_of_getElem? (i := 99) rfl)) rfl
set_option maxRecDepth 20000 in
theorem ml_RX6_41 : Cond.methodLink RX6 41 yX6_east ∈ wU_ := mU_ (tk_3 (List.mem_of_getElem? (i := 100) rfl)) rfl
set_option maxRecDepth 20000 in
theorem im_yX6_east : Cond.instanceMethod yX6_east ∈ wU_ := mU_ (tk_3 (List.mem_of_getElem? (i := 102) rfl)) rfl
set_option maxRecDepth 20000 in
theorem co_yX6_east : Cond.code yX6_east cX6_east 4 (some .int) ∈ wU_ := mU_ (tk_3 (List.mem_of_getElem? (i := 103) rfl)) rfl
set_option maxRecDepth 20000 in
theorem ml_RX6_66 : Cond.methodLink RX6 66 yX6_eastOfKind ∈ wU_ := mU_ (tk_3 (List.mem_of_getElem? (i := 104) rfl)) rfl
set_option maxRecDepth 20000 in
theorem im_yX6_eastOfKind : Cond.instanceMethod yX6_eastOfKind ∈ wU_ := mU_ (tk_3 (List.mem_of_getElem? (i := 106) rfl)) rfl
set_option maxRecDepth 20000 in
theorem co_yX6_eastOfKind : Cond.code yX6_eastOfKind cX6_eastOfKind 4 (some .int) ∈ wU_ := mU_ (tk_3 (List.mem_of_getElem? (i := 107) rfl)) rfl
set_option maxRecDepth 20000 in
theorem ml_RX6_49 : Cond.methodLink RX6 49 yX6_south ∈ wU_ := mU_ (tk_3 (List.mem_of_getElem? (i := 109) rfl)) rfl
set_option maxRecDepth 20000 in
theorem im_yX6_south : Cond.instanceMethod yX6_south ∈ wU_ := mU_ (tk_3 (List.mem_of_getElem? (i := 111) rfl)) rfl
set_option maxRecDepth 20000 in
theorem co_yX6_south : Cond.code yX6_south cX6_south 4 (some .int) ∈ wU_ := mU_ (tk_3 (List.mem_of_getElem? (i := 112) rfl)) rfl
set_option maxRecDepth 20000 in
theorem ml_RX6_72 : Cond.methodLink RX6 72 yX6_southOfKind ∈ wU_ := mU_ (tk_3 (List.mem_of_getElem? (i := 113) rfl)) rfl
set_option maxRecDepth 20000 in
theorem im_yX6_southOfKind : Cond.instanceMethod yX6_southOfKind ∈ wU_ := mU_ (tk_3 (List.mem_of_getElem? (i := 115) rfl)) rfl
set_option maxRecDepth 20000 in
theorem co_yX6_southOfKind : Cond.code yX6_southOfKind cX6_southOfKind 3 (some .int) ∈ wU_ := mU_ (tk_3 (List.mem_of_getElem? (i := 116) rfl)) rfl
set_option maxRecDepth 20000 in
theorem ml_RL_27 : Cond.methodLink RL 27 yX8_asks ∈ wU_ := mU_ (tk_3 (List.mem_of_getElem? (i := 117) rfl)) rfl
set_option maxRecDepth 20000 in
theorem im_yX8_asks : Cond.instanceMethod yX8_asks ∈ wU_ := mU_ (tk_3 (List.mem_of_getElem? (i := 118) rfl)) rfl
set_option maxRecDepth 20000 in
theorem se_yX8_asks : Cond.selects RX8 yX8_asks yX8_asks ∈ wU_ := mU_ (tk_3 (List.mem_of_getElem? (i := 119) rfl)) rfl
set_option maxRecDepth 20000 in
theorem co_yX8_asks : Cond.code yX8_asks cX8_asks 6 (some .int) ∈ wU_ := mU_ (tk_3 (List.mem_of_getElem? (i := 120) rfl)) rfl
set_option maxRecDepth 20000 in
theorem ml_RL_32 : Cond.methodLink RL 32 yX8_feed ∈ wU_ := mU_ (tk_3 (List.mem_of_getElem? (i := 123) rfl)) rfl
set_option maxRecDepth 20000 in
theorem im_yX8_feed : Cond.instanceMethod yX8_feed ∈ wU_ := mU_ (tk_3 (List.mem_of_getElem? (i := 124) rfl)) rfl
set_option maxRecDepth 20000 in
theorem se_yX8_feed : Cond.selects RX8 yX8_feed yX8_feed ∈ wU_ := mU_ (tk_3 (List.mem_of_getElem? (i := 125) rfl)) rfl
set_option maxRecDepth 20000 in
theorem co_yX8_feed : Cond.code yX8_feed cX8_feed 2 (some .int) ∈ wU_ := mU_ (tk_3 (List.mem_of_getElem? (i := 126) rfl)) rfl
set_option maxRecDepth 20000 in
theorem ml_RL_37 : Cond.methodLink RL 37 yX8_text ∈ wU_ := mU_ (tk_3 (List.mem_of_getElem? (i := 127) rfl)) rfl
set_option maxRecDepth 20000 in
theorem im_yX8_text : Cond.instanceMethod yX8_text ∈ wU_ := mU_ (tk_3 (List.mem_of_getElem? (i := 128) rfl)) rfl
set_option maxRecDepth 20000 in
theorem se_yX8_text : Cond.selects RX8 yX8_text yX8_text ∈ wU_ := mU_ (tk_3 (List.mem_of_getElem? (i := 129) rfl)) rfl
set_option maxRecDepth 20000 in
theorem co_yX8_text : Cond.code yX8_text cX8_text 2 (some .int) ∈ wU_ := mU_ (tk_3 (List.mem_of_getElem? (i := 130) rfl)) rfl
set_option maxRecDepth 20000 in
theorem im_yX3_place : Cond.instanceMethod yX3_place ∈ wU_ := mU_ (tk_3 (List.mem_of_getElem? (i := 133) rfl)) rfl
set_option maxRecDepth 20000 in
theorem co_yX3_place : Cond.code yX3_place cX3_place 1 (some .int) ∈ wU_ := mU_ (tk_3 (List.mem_of_getElem? (i := 134) rfl)) rfl
set_option maxRecDepth 20000 in
theorem ml_RL_42 : Cond.methodLink RL 42 yX8_force ∈ wU_ := mU_ (tk_3 (List.mem_of_getElem? (i := 135) rfl)) rfl
set_option maxRecDepth 20000 in
theorem im_yX8_force : Cond.instanceMethod yX8_force ∈ wU_ := mU_ (tk_3 (List.mem_of_getElem? (i := 136) rfl)) rfl
set_option maxRecDepth 20000 in
theorem se_yX8_force : Cond.selects RX8 yX8_force yX8_force ∈ wU_ := mU_ (tk_3 (List.mem_of_getElem? (i := 137) rfl)) rfl
set_option maxRecDepth 20000 in
theorem co_yX8_force : Cond.code yX8_force cX8_force 3 (some .int) ∈ wU_ := mU_ (tk_3 (List.mem_of_getElem? (i := 138) rfl)) rfl
set_option maxRecDepth 20000 in
theorem ml_RL_46 : Cond.methodLink RL 46 yX8_say ∈ wU_ := mU_ (tk_3 (List.mem_of_getElem? (i := 139) rfl)) rfl
set_option maxRecDepth 20000 in
theorem im_yX8_say : Cond.instanceMethod yX8_say ∈ wU_ := mU_ (tk_3 (List.mem_of_getElem? (i := 140) rfl)) rfl
set_option maxRecDepth 20000 in
theorem se_yX8_say : Cond.selects RX8 yX8_say yX8_say ∈ wU_ := mU_ (tk_3 (List.mem_of_getElem? (i := 141) rfl)) rfl
set_option maxRecDepth 20000 in
theorem co_yX8_say : Cond.code yX8_say cX8_say 6 (some .int) ∈ wU_ := mU_ (tk_3 (List.mem_of_getElem? (i := 142) rfl)) rfl
set_option maxRecDepth 20000 in
theorem ml_RX8_181 : Cond.methodLink RX8 181 yX8_fly ∈ wU_ := mU_ (tk_3 (List.mem_of_getElem? (i := 143) rfl)) rfl
set_option maxRecDepth 20000 in
theorem im_yX8_fly : Cond.instanceMethod yX8_fly ∈ wU_ := mU_ (tk_3 (List.mem_of_getElem? (i := 145) rfl)) rfl
set_option maxRecDepth 20000 in
theorem co_yX8_fly : Cond.code yX8_fly cX8_fly 4 (some .int) ∈ wU_ := mU_ (tk_3 (List.mem_of_getElem? (i := 146) rfl)) rfl
set_option maxRecDepth 20000 in
theorem ml_RL_50 : Cond.methodLink RL 50 yX8_flies ∈ wU_ := mU_ (tk_3 (List.mem_of_getElem? (i := 147) rfl)) rfl
set_option maxRecDepth 20000 in
theorem im_yX8_flies : Cond.instanceMethod yX8_flies ∈ wU_ := mU_ (tk_3 (List.mem_of_getElem? (i := 148) rfl)) rfl
set_option maxRecDepth 20000 in
theorem se_yX8_flies : Cond.selects RX8 yX8_flies yX8_flies ∈ wU_ := mU_ (tk_3 (List.mem_of_getElem? (i := 149) rfl)) rfl
set_option maxRecDepth 20000 in
theorem co_yX8_flies : Cond.code yX8_flies cX8_flies 11 (some .int) ∈ wU_ := mU_ (tk_3 (List.mem_of_getElem? (i := 150) rfl)) rfl
set_option maxRecDepth 20000 in
theorem ml_RX8_188 : Cond.methodLink RX8 188 yX8_refusalOfTold ∈ wU_ := mU_ (tk_3 (List.mem_of_getElem? (i := 151) rfl)) rfl
set_option maxRecDepth 20000 in
theorem im_yX8_refusalOfTold : Cond.instanceMethod yX8_refusalOfTold ∈ wU_ := mU_ (tk_3 (List.mem_of_getElem? (i := 153) rfl)) rfl
set_option maxRecDepth 20000 in
theorem co_yX8_refusalOfTold : Cond.code yX8_refusalOfTold cX8_refusalOfTold 7 (some .int) ∈ wU_ := mU_ (tk_3 (List.mem_of_getElem? (i := 154) rfl)) rfl
set_option maxRecDepth 20000 in
theorem ml_RX8_192 : Cond.methodLink RX8 192 yX8_sheetAt ∈ wU_ := mU_ (tk_3 (List.mem_of_getElem? (i := 155) rfl)) rfl
set_option maxRecDepth 20000 in
theorem im_yX8_sheetAt : Cond.instanceMethod yX8_sheetAt ∈ wU_ := mU_ (tk_3 (List.mem_of_getElem? (i := 157) rfl)) rfl
set_option maxRecDepth 20000 in
theorem co_yX8_sheetAt : Cond.code yX8_sheetAt cX8_sheetAt 2 (some (.object "FlownOnceAndLaid$Sheet")) ∈ wU_ := mU_ (tk_3 (List.mem_of_getElem? (i := 158) rfl)) rfl
set_option maxRecDepth 20000 in
theorem im_yX4_isMissing : Cond.instanceMethod yX4_isMissing ∈ wU_ := mU_ (tk_3 (List.mem_of_getElem? (i := 161) rfl)) rfl
set_option maxRecDepth 20000 in
theorem co_yX4_isMissing : Cond.code yX4_isMissing cX4_isMissing 1 (some .boolean) ∈ wU_ := mU_ (tk_3 (List.mem_of_getElem? (i := 162) rfl)) rfl
set_option maxRecDepth 20000 in
theorem im_yX4_isAllBelow : Cond.instanceMethod yX4_isAllBelow ∈ wU_ := mU_ (tk_3 (List.mem_of_getElem? (i := 165) rfl)) rfl
set_option maxRecDepth 20000 in
theorem co_yX4_isAllBelow : Cond.code yX4_isAllBelow cX4_isAllBelow 3 (some .boolean) ∈ wU_ := mU_ (tk_3 (List.mem_of_getElem? (i := 166) rfl)) rfl
set_option maxRecDepth 20000 in
theorem ml_RX4_32 : Cond.methodLink RX4 32 yX4_item ∈ wU_ := mU_ (tk_3 (List.mem_of_getElem? (i := 167) rfl)) rfl
set_option maxRecDepth 20000 in
theorem im_yX4_item : Cond.instanceMethod yX4_item ∈ wU_ := mU_ (tk_3 (List.mem_of_getElem? (i := 169) rfl)) rfl
set_option maxRecDepth 20000 in
theorem co_yX4_item : Cond.code yX4_item cX4_item 2 (some .int) ∈ wU_ := mU_ (tk_3 (List.mem_of_getElem? (i := 170) rfl)) rfl
set_option maxRecDepth 20000 in
theorem ml_RL_54 : Cond.methodLink RL 54 yX8_shortest ∈ wU_ := mU_ (tk_3 (List.mem_of_getElem? (i := 173) rfl)) rfl
set_option maxRecDepth 20000 in
theorem im_yX8_shortest : Cond.instanceMethod yX8_shortest ∈ wU_ := mU_ (tk_3 (List.mem_of_getElem? (i := 174) rfl)) rfl
set_option maxRecDepth 20000 in
theorem se_yX8_shortest : Cond.selects RX8 yX8_shortest yX8_shortest ∈ wU_ := mU_ (tk_3 (List.mem_of_getElem? (i := 175) rfl)) rfl
set_option maxRecDepth 20000 in
theorem co_yX8_shortest : Cond.code yX8_shortest cX8_shortest 4 (some .int) ∈ wU_ := mU_ (tk_3 (List.mem_of_getElem? (i := 176) rfl)) rfl
set_option maxRecDepth 20000 in
theorem ml_RX8_202 : Cond.methodLink RX8 202 yX8_explore ∈ wU_ := mU_ (tk_3 (List.mem_of_getElem? (i := 177) rfl)) rfl
set_option maxRecDepth 20000 in
theorem im_yX8_explore : Cond.instanceMethod yX8_explore ∈ wU_ := mU_ (tk_3 (List.mem_of_getElem? (i := 179) rfl)) rfl
set_option maxRecDepth 20000 in
theorem co_yX8_explore : Cond.code yX8_explore cX8_explore 4 (some .boolean) ∈ wU_ := mU_ (tk_3 (List.mem_of_getElem? (i := 180) rfl)) rfl
set_option maxRecDepth 20000 in
theorem im_yX7_explore : Cond.instanceMethod yX7_explore ∈ wU_ := mU_ (tk_3 (List.mem_of_getElem? (i := 183) rfl)) rfl
set_option maxRecDepth 20000 in
theorem co_yX7_explore : Cond.code yX7_explore cX7_explore 4 none ∈ wU_ := mU_ (tk_3 (List.mem_of_getElem? (i := 184) rfl)) rfl
set_option maxRecDepth 20000 in
theorem ml_RX7_38 : Cond.methodLink RX7 38 yJ7_fill_53178 ∈ wU_ := mU_ (tk_3 (List.mem_of_getElem? (i := 185) rfl)) rfl
set_option maxRecDepth 20000 in
theorem st_yJ7_fill_53178 : Cond.static yJ7_fill_53178 ∈ wU_ := mU_ (tk_3 (List.mem_of_getElem? (i := 186) rfl)) rfl
set_option maxRecDepth 20000 in
theorem co_yJ7_fill_53178 : Cond.code yJ7_fill_53178 cJ7_fill_53178 4 none ∈ wU_ := mU_ (tk_3 (List.mem_of_getElem? (i := 187) rfl)) rfl
set_option maxRecDepth 20000 in
theorem ml_RX7_44 : Cond.methodLink RX7 44 yX7_discover ∈ wU_ := mU_ (tk_3 (List.mem_of_getElem? (i := 188) rfl)) rfl
set_option maxRecDepth 20000 in
theorem im_yX7_discover : Cond.instanceMethod yX7_discover ∈ wU_ := mU_ (tk_3 (List.mem_of_getElem? (i := 190) rfl)) rfl
set_option maxRecDepth 20000 in
theorem co_yX7_discover : Cond.code yX7_discover cX7_discover 5 none ∈ wU_ := mU_ (tk_3 (List.mem_of_getElem? (i := 191) rfl)) rfl
set_option maxRecDepth 20000 in
theorem ml_RX7_48 : Cond.methodLink RX7 48 yX7_leave ∈ wU_ := mU_ (tk_3 (List.mem_of_getElem? (i := 193) rfl)) rfl
set_option maxRecDepth 20000 in
theorem im_yX7_leave : Cond.instanceMethod yX7_leave ∈ wU_ := mU_ (tk_3 (List.mem_of_getElem? (i := 195) rfl)) rfl
set_option maxRecDepth 20000 in
theorem co_yX7_leave : Cond.code yX7_leave cX7_leave 6 none ∈ wU_ := mU_ (tk_3 (List.mem_of_getElem? (i := 196) rfl)) rfl
set_option maxRecDepth 20000 in
theorem im_yX7_stepsTo : Cond.instanceMethod yX7_stepsTo ∈ wU_ := mU_ (tk_3 (List.mem_of_getElem? (i := 200) rfl)) rfl
set_option maxRecDepth 20000 in
theorem co_yX7_stepsTo : Cond.code yX7_stepsTo cX7_stepsTo 2 (some .int) ∈ wU_ := mU_ (tk_3 (List.mem_of_getElem? (i := 201) rfl)) rfl
set_option maxRecDepth 20000 in
theorem im_yX7_digitsTo : Cond.instanceMethod yX7_digitsTo ∈ wU_ := mU_ (tk_3 (List.mem_of_getElem? (i := 204) rfl)) rfl
set_option maxRecDepth 20000 in
theorem co_yX7_digitsTo : Cond.code yX7_digitsTo cX7_digitsTo 7 (some .int) ∈ wU_ := mU_ (tk_3 (List.mem_of_getElem? (i := 205) rfl)) rfl
set_option maxRecDepth 20000 in
theorem ml_RX7_62 : Cond.methodLink RX7 62 yX7_stepsTo ∈ wU_ := mU_ (tk_3 (List.mem_of_getElem? (i := 206) rfl)) rfl
set_option maxRecDepth 20000 in
theorem ml_RL_58 : Cond.methodLink RL 58 yX8_there ∈ wU_ := mU_ (tk_3 (List.mem_of_getElem? (i := 207) rfl)) rfl
set_option maxRecDepth 20000 in
theorem im_yX8_there : Cond.instanceMethod yX8_there ∈ wU_ := mU_ (tk_3 (List.mem_of_getElem? (i := 208) rfl)) rfl
set_option maxRecDepth 20000 in
theorem se_yX8_there : Cond.selects RX8 yX8_there yX8_there ∈ wU_ := mU_ (tk_3 (List.mem_of_getElem? (i := 209) rfl)) rfl
set_option maxRecDepth 20000 in
theorem co_yX8_there : Cond.code yX8_there cX8_there 3 (some .long) ∈ wU_ := mU_ (tk_3 (List.mem_of_getElem? (i := 210) rfl)) rfl
set_option maxRecDepth 20000 in
theorem cl_RX8_212 : Cond.constantLong RX8 212 (-4611686018427387904) ∈ wU_ := mU_ (tk_3 (List.mem_of_getElem? (i := 211) rfl)) rfl
set_option maxRecDepth 20000 in
theorem im_yX7_reached : Cond.instanceMethod yX7_reached ∈ wU_ := mU_ (tk_3 (List.mem_of_getElem? (i := 214) rfl)) rfl
set_option maxRecDepth 20000 in
theorem co_yX7_reached : Cond.code yX7_reached cX7_reached 4 (some .long) ∈ wU_ := mU_ (tk_3 (List.mem_of_getElem? (i := 215) rfl)) rfl
set_option maxRecDepth 20000 in
theorem im_yX7_sinks : Cond.instanceMethod yX7_sinks ∈ wU_ := mU_ (tk_3 (List.mem_of_getElem? (i := 218) rfl)) rfl
set_option maxRecDepth 20000 in
theorem co_yX7_sinks : Cond.code yX7_sinks cX7_sinks 1 (some .long) ∈ wU_ := mU_ (tk_3 (List.mem_of_getElem? (i := 219) rfl)) rfl
set_option maxRecDepth 20000 in
theorem ml_RL_63 : Cond.methodLink RL 63 yX8_furthest ∈ wU_ := mU_ (tk_3 (List.mem_of_getElem? (i := 220) rfl)) rfl
set_option maxRecDepth 20000 in
theorem im_yX8_furthest : Cond.instanceMethod yX8_furthest ∈ wU_ := mU_ (tk_3 (List.mem_of_getElem? (i := 221) rfl)) rfl
set_option maxRecDepth 20000 in
theorem se_yX8_furthest : Cond.selects RX8 yX8_furthest yX8_furthest ∈ wU_ := mU_ (tk_3 (List.mem_of_getElem? (i := 222) rfl)) rfl
set_option maxRecDepth 20000 in
theorem co_yX8_furthest : Cond.code yX8_furthest cX8_furthest 4 (some .int) ∈ wU_ := mU_ (tk_3 (List.mem_of_getElem? (i := 223) rfl)) rfl
set_option maxRecDepth 20000 in
theorem im_yX7_idleWords : Cond.instanceMethod yX7_idleWords ∈ wU_ := mU_ (tk_3 (List.mem_of_getElem? (i := 226) rfl)) rfl
set_option maxRecDepth 20000 in
theorem co_yX7_idleWords : Cond.code yX7_idleWords cX7_idleWords 1 (some .int) ∈ wU_ := mU_ (tk_3 (List.mem_of_getElem? (i := 227) rfl)) rfl
set_option maxRecDepth 20000 in
theorem im_yX7_furthestCell : Cond.instanceMethod yX7_furthestCell ∈ wU_ := mU_ (tk_3 (List.mem_of_getElem? (i := 230) rfl)) rfl
set_option maxRecDepth 20000 in
theorem co_yX7_furthestCell : Cond.code yX7_furthestCell cX7_furthestCell 3 (some .int) ∈ wU_ := mU_ (tk_3 (List.mem_of_getElem? (i := 231) rfl)) rfl
set_option maxRecDepth 20000 in
theorem ml_RL_67 : Cond.methodLink RL 67 yX8_meet ∈ wU_ := mU_ (tk_3 (List.mem_of_getElem? (i := 232) rfl)) rfl
set_option maxRecDepth 20000 in
theorem im_yX8_meet : Cond.instanceMethod yX8_meet ∈ wU_ := mU_ (tk_3 (List.mem_of_getElem? (i := 233) rfl)) rfl
set_option maxRecDepth 20000 in
theorem se_yX8_meet : Cond.selects RX8 yX8_meet yX8_meet ∈ wU_ := mU_ (tk_3 (List.mem_of_getElem? (i := 234) rfl)) rfl
set_option maxRecDepth 20000 in
theorem co_yX8_meet : Cond.code yX8_meet cX8_meet 4 (some .int) ∈ wU_ := mU_ (tk_3 (List.mem_of_getElem? (i := 235) rfl)) rfl
set_option maxRecDepth 20000 in
theorem im_yX2_seek : Cond.instanceMethod yX2_seek ∈ wU_ := mU_ (tk_3 (List.mem_of_getElem? (i := 238) rfl)) rfl
set_option maxRecDepth 20000 in
theorem co_yX2_seek : Cond.code yX2_seek cX2_seek 7 none ∈ wU_ := mU_ (tk_3 (List.mem_of_getElem? (i := 239) rfl)) rfl
set_option maxRecDepth 20000 in
theorem ml_RX2_29 : Cond.methodLink RX2 29 yJ7_fill_d0a16 ∈ wU_ := mU_ (tk_4 (List.mem_of_getElem? (i := 0) rfl)) rfl
set_option maxRecDepth 20000 in
theorem st_yJ7_fill_d0a16 : Cond.static yJ7_fill_d0a16 ∈ wU_ := mU_ (tk_4 (List.mem_of_getElem? (i := 1) rfl)) rfl
set_option maxRecDepth 20000 in
theorem co_yJ7_fill_d0a16 : Cond.code yJ7_fill_d0a16 cJ7_fill_d0a16 5 none ∈ wU_ := mU_ (tk_4 (List.mem_of_getElem? (i := 2) rfl)) rfl
set_option maxRecDepth 20000 in
theorem im_yX7_start : Cond.instanceMethod yX7_start ∈ wU_ := mU_ (tk_4 (List.mem_of_getElem? (i := 5) rfl)) rfl
set_option maxRecDepth 20000 in
theorem co_yX7_start : Cond.code yX7_start cX7_start 1 (some .int) ∈ wU_ := mU_ (tk_4 (List.mem_of_getElem? (i := 6) rfl)) rfl
set_option maxRecDepth 20000 in
theorem ml_RX2_41 : Cond.methodLink RX2 41 yX2_discover ∈ wU_ := mU_ (tk_4 (List.mem_of_getElem? (i := 7) rfl)) rfl
set_option maxRecDepth 20000 in
theorem im_yX2_discover : Cond.instanceMethod yX2_discover ∈ wU_ := mU_ (tk_4 (List.mem_of_getElem? (i := 9) rfl)) rfl
set_option maxRecDepth 20000 in
theorem co_yX2_discover : Cond.code yX2_discover cX2_discover 4 none ∈ wU_ := mU_ (tk_4 (List.mem_of_getElem? (i := 10) rfl)) rfl
set_option maxRecDepth 20000 in
theorem ml_RX2_45 : Cond.methodLink RX2 45 yX2_leave ∈ wU_ := mU_ (tk_4 (List.mem_of_getElem? (i := 12) rfl)) rfl
set_option maxRecDepth 20000 in
theorem im_yX2_leave : Cond.instanceMethod yX2_leave ∈ wU_ := mU_ (tk_4 (List.mem_of_getElem? (i := 14) rfl)) rfl
set_option maxRecDepth 20000 in
theorem co_yX2_leave : Cond.code yX2_leave cX2_leave 6 none ∈ wU_ := mU_ (tk_4 (List.mem_of_getElem? (i := 15) rfl)) rfl
set_option maxRecDepth 20000 in
theorem im_yX7_goalOf : Cond.instanceMethod yX7_goalOf ∈ wU_ := mU_ (tk_4 (List.mem_of_getElem? (i := 18) rfl)) rfl
set_option maxRecDepth 20000 in
theorem co_yX7_goalOf : Cond.code yX7_goalOf cX7_goalOf 4 (some .int) ∈ wU_ := mU_ (tk_4 (List.mem_of_getElem? (i := 19) rfl)) rfl
set_option maxRecDepth 20000 in
theorem ml_RL_71 : Cond.methodLink RL 71 yX8_rows ∈ wU_ := mU_ (tk_4 (List.mem_of_getElem? (i := 20) rfl)) rfl
set_option maxRecDepth 20000 in
theorem im_yX8_rows : Cond.instanceMethod yX8_rows ∈ wU_ := mU_ (tk_4 (List.mem_of_getElem? (i := 21) rfl)) rfl
set_option maxRecDepth 20000 in
theorem se_yX8_rows : Cond.selects RX8 yX8_rows yX8_rows ∈ wU_ := mU_ (tk_4 (List.mem_of_getElem? (i := 22) rfl)) rfl
set_option maxRecDepth 20000 in
theorem co_yX8_rows : Cond.code yX8_rows cX8_rows 7 (some .long) ∈ wU_ := mU_ (tk_4 (List.mem_of_getElem? (i := 23) rfl)) rfl
set_option maxRecDepth 20000 in
theorem ml_RX8_238 : Cond.methodLink RX8 238 yJ7_fill_d0a16 ∈ wU_ := mU_ (tk_4 (List.mem_of_getElem? (i := 25) rfl)) rfl
set_option maxRecDepth 20000 in
theorem im_yX7_spread : Cond.instanceMethod yX7_spread ∈ wU_ := mU_ (tk_4 (List.mem_of_getElem? (i := 28) rfl)) rfl
set_option maxRecDepth 20000 in
theorem co_yX7_spread : Cond.code yX7_spread cX7_spread 7 none ∈ wU_ := mU_ (tk_4 (List.mem_of_getElem? (i := 29) rfl)) rfl
set_option maxRecDepth 20000 in
theorem ml_RX7_66 : Cond.methodLink RX7 66 yX7_goalOf ∈ wU_ := mU_ (tk_4 (List.mem_of_getElem? (i := 30) rfl)) rfl
set_option maxRecDepth 20000 in
theorem ml_RL_76 : Cond.methodLink RL 76 yX8_highest ∈ wU_ := mU_ (tk_4 (List.mem_of_getElem? (i := 31) rfl)) rfl
set_option maxRecDepth 20000 in
theorem im_yX8_highest : Cond.instanceMethod yX8_highest ∈ wU_ := mU_ (tk_4 (List.mem_of_getElem? (i := 32) rfl)) rfl
set_option maxRecDepth 20000 in
theorem se_yX8_highest : Cond.selects RX8 yX8_highest yX8_highest ∈ wU_ := mU_ (tk_4 (List.mem_of_getElem? (i := 33) rfl)) rfl
set_option maxRecDepth 20000 in
theorem co_yX8_highest : Cond.code yX8_highest cX8_highest 6 (some .int) ∈ wU_ := mU_ (tk_4 (List.mem_of_getElem? (i := 34) rfl)) rfl
set_option maxRecDepth 20000 in
theorem ml_RL_80 : Cond.methodLink RL 80 yX8_tells ∈ wU_ := mU_ (tk_4 (List.mem_of_getElem? (i := 35) rfl)) rfl
set_option maxRecDepth 20000 in
theorem im_yX8_tells : Cond.instanceMethod yX8_tells ∈ wU_ := mU_ (tk_4 (List.mem_of_getElem? (i := 36) rfl)) rfl
set_option maxRecDepth 20000 in
theorem se_yX8_tells : Cond.selects RX8 yX8_tells yX8_tells ∈ wU_ := mU_ (tk_4 (List.mem_of_getElem? (i := 37) rfl)) rfl
set_option maxRecDepth 20000 in
theorem co_yX8_tells : Cond.code yX8_tells cX8_tells 7 (some .int) ∈ wU_ := mU_ (tk_4 (List.mem_of_getElem? (i := 38) rfl)) rfl
set_option maxRecDepth 20000 in
theorem ml_RX8_254 : Cond.methodLink RX8 254 yX8_firstThatCannotBe ∈ wU_ := mU_ (tk_4 (List.mem_of_getElem? (i := 39) rfl)) rfl
set_option maxRecDepth 20000 in
theorem im_yX8_firstThatCannotBe : Cond.instanceMethod yX8_firstThatCannotBe ∈ wU_ := mU_ (tk_4 (List.mem_of_getElem? (i := 41) rfl)) rfl
set_option maxRecDepth 20000 in
theorem co_yX8_firstThatCannotBe : Cond.code yX8_firstThatCannotBe cX8_firstThatCannotBe 4 (some .int) ∈ wU_ := mU_ (tk_4 (List.mem_of_getElem? (i := 42) rfl)) rfl
set_option maxRecDepth 20000 in
theorem ml_RX8_288 : Cond.methodLink RX8 288 yX8_cellAhead ∈ wU_ := mU_ (tk_4 (List.mem_of_getElem? (i := 43) rfl)) rfl
set_option maxRecDepth 20000 in
theorem st_yX8_cellAhead : Cond.static yX8_cellAhead ∈ wU_ := mU_ (tk_4 (List.mem_of_getElem? (i := 44) rfl)) rfl
set_option maxRecDepth 20000 in
theorem co_yX8_cellAhead : Cond.code yX8_cellAhead cX8_cellAhead 3 (some .int) ∈ wU_ := mU_ (tk_4 (List.mem_of_getElem? (i := 45) rfl)) rfl
set_option maxRecDepth 20000 in
theorem im_yX6_firstWord : Cond.instanceMethod yX6_firstWord ∈ wU_ := mU_ (tk_4 (List.mem_of_getElem? (i := 48) rfl)) rfl
set_option maxRecDepth 20000 in
theorem co_yX6_firstWord : Cond.code yX6_firstWord cX6_firstWord 4 (some .int) ∈ wU_ := mU_ (tk_4 (List.mem_of_getElem? (i := 49) rfl)) rfl
set_option maxRecDepth 20000 in
theorem ml_RX6_52 : Cond.methodLink RX6 52 yX6_goal ∈ wU_ := mU_ (tk_4 (List.mem_of_getElem? (i := 50) rfl)) rfl
set_option maxRecDepth 20000 in
theorem ml_RX8_258 : Cond.methodLink RX8 258 yX8_firstRow ∈ wU_ := mU_ (tk_4 (List.mem_of_getElem? (i := 51) rfl)) rfl
set_option maxRecDepth 20000 in
theorem im_yX8_firstRow : Cond.instanceMethod yX8_firstRow ∈ wU_ := mU_ (tk_4 (List.mem_of_getElem? (i := 53) rfl)) rfl
set_option maxRecDepth 20000 in
theorem co_yX8_firstRow : Cond.code yX8_firstRow cX8_firstRow 5 (some .int) ∈ wU_ := mU_ (tk_4 (List.mem_of_getElem? (i := 54) rfl)) rfl
set_option maxRecDepth 20000 in
theorem ml_RX8_261 : Cond.methodLink RX8 261 yX8_sureWords ∈ wU_ := mU_ (tk_4 (List.mem_of_getElem? (i := 55) rfl)) rfl
set_option maxRecDepth 20000 in
theorem im_yX8_sureWords : Cond.instanceMethod yX8_sureWords ∈ wU_ := mU_ (tk_4 (List.mem_of_getElem? (i := 57) rfl)) rfl
set_option maxRecDepth 20000 in
theorem co_yX8_sureWords : Cond.code yX8_sureWords cX8_sureWords 5 (some .int) ∈ wU_ := mU_ (tk_4 (List.mem_of_getElem? (i := 58) rfl)) rfl
set_option maxRecDepth 20000 in
theorem im_yX6_wordCount : Cond.instanceMethod yX6_wordCount ∈ wU_ := mU_ (tk_4 (List.mem_of_getElem? (i := 61) rfl)) rfl
set_option maxRecDepth 20000 in
theorem co_yX6_wordCount : Cond.code yX6_wordCount cX6_wordCount 5 (some .int) ∈ wU_ := mU_ (tk_4 (List.mem_of_getElem? (i := 62) rfl)) rfl
set_option maxRecDepth 20000 in
theorem ml_RX8_264 : Cond.methodLink RX8 264 yX8_kindsThatFit ∈ wU_ := mU_ (tk_4 (List.mem_of_getElem? (i := 63) rfl)) rfl
set_option maxRecDepth 20000 in
theorem im_yX8_kindsThatFit : Cond.instanceMethod yX8_kindsThatFit ∈ wU_ := mU_ (tk_4 (List.mem_of_getElem? (i := 65) rfl)) rfl
set_option maxRecDepth 20000 in
theorem co_yX8_kindsThatFit : Cond.code yX8_kindsThatFit cX8_kindsThatFit 5 (some .int) ∈ wU_ := mU_ (tk_4 (List.mem_of_getElem? (i := 66) rfl)) rfl
set_option maxRecDepth 20000 in
theorem im_yX6_beOfKind : Cond.instanceMethod yX6_beOfKind ∈ wU_ := mU_ (tk_4 (List.mem_of_getElem? (i := 69) rfl)) rfl
set_option maxRecDepth 20000 in
theorem co_yX6_beOfKind : Cond.code yX6_beOfKind cX6_beOfKind 2 none ∈ wU_ := mU_ (tk_4 (List.mem_of_getElem? (i := 70) rfl)) rfl
set_option maxRecDepth 20000 in
theorem ml_RX8_267 : Cond.methodLink RX8 267 yX8_numbersThatFit ∈ wU_ := mU_ (tk_4 (List.mem_of_getElem? (i := 71) rfl)) rfl
set_option maxRecDepth 20000 in
theorem im_yX8_numbersThatFit : Cond.instanceMethod yX8_numbersThatFit ∈ wU_ := mU_ (tk_4 (List.mem_of_getElem? (i := 73) rfl)) rfl
set_option maxRecDepth 20000 in
theorem co_yX8_numbersThatFit : Cond.code yX8_numbersThatFit cX8_numbersThatFit 5 (some .int) ∈ wU_ := mU_ (tk_4 (List.mem_of_getElem? (i := 74) rfl)) rfl
set_option maxRecDepth 20000 in
theorem im_yX6_beNumbered : Cond.instanceMethod yX6_beNumbered ∈ wU_ := mU_ (tk_4 (List.mem_of_getElem? (i := 77) rfl)) rfl
set_option maxRecDepth 20000 in
theorem co_yX6_beNumbered : Cond.code yX6_beNumbered cX6_beNumbered 2 none ∈ wU_ := mU_ (tk_4 (List.mem_of_getElem? (i := 78) rfl)) rfl
set_option maxRecDepth 20000 in
theorem ml_RX8_270 : Cond.methodLink RX8 270 yX8_textsThatFit ∈ wU_ := mU_ (tk_4 (List.mem_of_getElem? (i := 79) rfl)) rfl
set_option maxRecDepth 20000 in
theorem im_yX8_textsThatFit : Cond.instanceMethod yX8_textsThatFit ∈ wU_ := mU_ (tk_4 (List.mem_of_getElem? (i := 81) rfl)) rfl
set_option maxRecDepth 20000 in
theorem co_yX8_textsThatFit : Cond.code yX8_textsThatFit cX8_textsThatFit 5 (some .int) ∈ wU_ := mU_ (tk_4 (List.mem_of_getElem? (i := 82) rfl)) rfl
set_option maxRecDepth 20000 in
theorem ml_RL_84 : Cond.methodLink RL 84 yX8_ways ∈ wU_ := mU_ (tk_4 (List.mem_of_getElem? (i := 83) rfl)) rfl
set_option maxRecDepth 20000 in
theorem im_yX8_ways : Cond.instanceMethod yX8_ways ∈ wU_ := mU_ (tk_4 (List.mem_of_getElem? (i := 84) rfl)) rfl
set_option maxRecDepth 20000 in
theorem se_yX8_ways : Cond.selects RX8 yX8_ways yX8_ways ∈ wU_ := mU_ (tk_4 (List.mem_of_getElem? (i := 85) rfl)) rfl
set_option maxRecDepth 20000 in
theorem co_yX8_ways : Cond.code yX8_ways cX8_ways 7 (some .long) ∈ wU_ := mU_ (tk_4 (List.mem_of_getElem? (i := 86) rfl)) rfl
set_option maxRecDepth 20000 in
theorem ml_RX8_273 : Cond.methodLink RX8 273 yX8_howMany ∈ wU_ := mU_ (tk_4 (List.mem_of_getElem? (i := 87) rfl)) rfl
set_option maxRecDepth 20000 in
theorem im_yX8_howMany : Cond.instanceMethod yX8_howMany ∈ wU_ := mU_ (tk_4 (List.mem_of_getElem? (i := 89) rfl)) rfl
set_option maxRecDepth 20000 in
theorem co_yX8_howMany : Cond.code yX8_howMany cX8_howMany 6 (some .long) ∈ wU_ := mU_ (tk_4 (List.mem_of_getElem? (i := 90) rfl)) rfl
set_option maxRecDepth 20000 in
theorem ml_RX8_277 : Cond.methodLink RX8 277 yX8_startsThatFit ∈ wU_ := mU_ (tk_4 (List.mem_of_getElem? (i := 91) rfl)) rfl
set_option maxRecDepth 20000 in
theorem im_yX8_startsThatFit : Cond.instanceMethod yX8_startsThatFit ∈ wU_ := mU_ (tk_4 (List.mem_of_getElem? (i := 93) rfl)) rfl
set_option maxRecDepth 20000 in
theorem co_yX8_startsThatFit : Cond.code yX8_startsThatFit cX8_startsThatFit 5 (some .long) ∈ wU_ := mU_ (tk_4 (List.mem_of_getElem? (i := 94) rfl)) rfl
set_option maxRecDepth 20000 in
theorem cl_RX8_313 : Cond.constantLong RX8 313 (68719476735) ∈ wU_ := mU_ (tk_4 (List.mem_of_getElem? (i := 95) rfl)) rfl
set_option maxRecDepth 20000 in
theorem ml_RL_88 : Cond.methodLink RL 88 yX8_drawn ∈ wU_ := mU_ (tk_4 (List.mem_of_getElem? (i := 96) rfl)) rfl
set_option maxRecDepth 20000 in
theorem im_yX8_drawn : Cond.instanceMethod yX8_drawn ∈ wU_ := mU_ (tk_4 (List.mem_of_getElem? (i := 97) rfl)) rfl
set_option maxRecDepth 20000 in
theorem se_yX8_drawn : Cond.selects RX8 yX8_drawn yX8_drawn ∈ wU_ := mU_ (tk_4 (List.mem_of_getElem? (i := 98) rfl)) rfl
set_option maxRecDepth 20000 in
theorem co_yX8_drawn : Cond.code yX8_drawn cX8_drawn 8 (some .int) ∈ wU_ := mU_ (tk_4 (List.mem_of_getElem? (i := 99) rfl)) rfl
set_option maxRecDepth 20000 in
theorem ml_RX8_315 : Cond.methodLink RX8 315 yX8_drawnAfter ∈ wU_ := mU_ (tk_4 (List.mem_of_getElem? (i := 100) rfl)) rfl
set_option maxRecDepth 20000 in
theorem st_yX8_drawnAfter : Cond.static yX8_drawnAfter ∈ wU_ := mU_ (tk_4 (List.mem_of_getElem? (i := 101) rfl)) rfl
set_option maxRecDepth 20000 in
theorem co_yX8_drawnAfter : Cond.code yX8_drawnAfter cX8_drawnAfter 1 (some .int) ∈ wU_ := mU_ (tk_4 (List.mem_of_getElem? (i := 102) rfl)) rfl
set_option maxRecDepth 20000 in
theorem ck_RX8_321 : Cond.constant RX8 321 (1103515245) ∈ wU_ := mU_ (tk_4 (List.mem_of_getElem? (i := 103) rfl)) rfl
set_option maxRecDepth 20000 in
theorem ml_RX8_318 : Cond.methodLink RX8 318 yX8_wordOf ∈ wU_ := mU_ (tk_4 (List.mem_of_getElem? (i := 104) rfl)) rfl
set_option maxRecDepth 20000 in
theorem st_yX8_wordOf : Cond.static yX8_wordOf ∈ wU_ := mU_ (tk_4 (List.mem_of_getElem? (i := 105) rfl)) rfl
set_option maxRecDepth 20000 in
theorem co_yX8_wordOf : Cond.code yX8_wordOf cX8_wordOf 1 (some .int) ∈ wU_ := mU_ (tk_4 (List.mem_of_getElem? (i := 106) rfl)) rfl
set_option maxRecDepth 20000 in
theorem ml_RL_92 : Cond.methodLink RL 92 yX8_chance ∈ wU_ := mU_ (tk_4 (List.mem_of_getElem? (i := 107) rfl)) rfl
set_option maxRecDepth 20000 in
theorem im_yX8_chance : Cond.instanceMethod yX8_chance ∈ wU_ := mU_ (tk_4 (List.mem_of_getElem? (i := 108) rfl)) rfl
set_option maxRecDepth 20000 in
theorem se_yX8_chance : Cond.selects RX8 yX8_chance yX8_chance ∈ wU_ := mU_ (tk_4 (List.mem_of_getElem? (i := 109) rfl)) rfl
set_option maxRecDepth 20000 in
theorem co_yX8_chance : Cond.code yX8_chance cX8_chance 9 (some .long) ∈ wU_ := mU_ (tk_4 (List.mem_of_getElem? (i := 110) rfl)) rfl
set_option maxRecDepth 20000 in
theorem ml_RX8_322 : Cond.methodLink RX8 322 yX8_comesBy ∈ wU_ := mU_ (tk_4 (List.mem_of_getElem? (i := 111) rfl)) rfl
set_option maxRecDepth 20000 in
theorem im_yX8_comesBy : Cond.instanceMethod yX8_comesBy ∈ wU_ := mU_ (tk_4 (List.mem_of_getElem? (i := 113) rfl)) rfl
set_option maxRecDepth 20000 in
theorem co_yX8_comesBy : Cond.code yX8_comesBy cX8_comesBy 7 (some .boolean) ∈ wU_ := mU_ (tk_4 (List.mem_of_getElem? (i := 114) rfl)) rfl
set_option maxRecDepth 20000 in
theorem ml_RX8_326 : Cond.methodLink RX8 326 yX8_commonDivisor ∈ wU_ := mU_ (tk_4 (List.mem_of_getElem? (i := 115) rfl)) rfl
set_option maxRecDepth 20000 in
theorem st_yX8_commonDivisor : Cond.static yX8_commonDivisor ∈ wU_ := mU_ (tk_4 (List.mem_of_getElem? (i := 116) rfl)) rfl
set_option maxRecDepth 20000 in
theorem co_yX8_commonDivisor : Cond.code yX8_commonDivisor cX8_commonDivisor 3 (some .int) ∈ wU_ := mU_ (tk_4 (List.mem_of_getElem? (i := 117) rfl)) rfl
set_option maxRecDepth 20000 in
theorem ml_RX8_329 : Cond.methodLink RX8 329 yJ9_max_7cf53 ∈ wU_ := mU_ (tk_4 (List.mem_of_getElem? (i := 118) rfl)) rfl
set_option maxRecDepth 20000 in
theorem ml_RL_97 : Cond.methodLink RL 97 yX8_image ∈ wU_ := mU_ (tk_4 (List.mem_of_getElem? (i := 119) rfl)) rfl
set_option maxRecDepth 20000 in
theorem im_yX8_image : Cond.instanceMethod yX8_image ∈ wU_ := mU_ (tk_4 (List.mem_of_getElem? (i := 120) rfl)) rfl
set_option maxRecDepth 20000 in
theorem se_yX8_image : Cond.selects RX8 yX8_image yX8_image ∈ wU_ := mU_ (tk_4 (List.mem_of_getElem? (i := 121) rfl)) rfl
set_option maxRecDepth 20000 in
theorem co_yX8_image : Cond.code yX8_image cX8_image 1 (some .int) ∈ wU_ := mU_ (tk_4 (List.mem_of_getElem? (i := 122) rfl)) rfl
set_option maxRecDepth 20000 in
theorem im_yX1_becomeLike : Cond.instanceMethod yX1_becomeLike ∈ wU_ := mU_ (tk_4 (List.mem_of_getElem? (i := 125) rfl)) rfl
set_option maxRecDepth 20000 in
theorem co_yX1_becomeLike : Cond.code yX1_becomeLike cX1_becomeLike 4 none ∈ wU_ := mU_ (tk_4 (List.mem_of_getElem? (i := 126) rfl)) rfl
set_option maxRecDepth 20000 in
theorem ml_RL_101 : Cond.methodLink RL 101 yX8_back ∈ wU_ := mU_ (tk_4 (List.mem_of_getElem? (i := 127) rfl)) rfl
set_option maxRecDepth 20000 in
theorem im_yX8_back : Cond.instanceMethod yX8_back ∈ wU_ := mU_ (tk_4 (List.mem_of_getElem? (i := 128) rfl)) rfl
set_option maxRecDepth 20000 in
theorem se_yX8_back : Cond.selects RX8 yX8_back yX8_back ∈ wU_ := mU_ (tk_4 (List.mem_of_getElem? (i := 129) rfl)) rfl
set_option maxRecDepth 20000 in
theorem co_yX8_back : Cond.code yX8_back cX8_back 1 (some .int) ∈ wU_ := mU_ (tk_4 (List.mem_of_getElem? (i := 130) rfl)) rfl
set_option maxRecDepth 20000 in
theorem ml_RL_105 : Cond.methodLink RL 105 yX8_count ∈ wU_ := mU_ (tk_4 (List.mem_of_getElem? (i := 131) rfl)) rfl
set_option maxRecDepth 20000 in
theorem im_yX8_count : Cond.instanceMethod yX8_count ∈ wU_ := mU_ (tk_4 (List.mem_of_getElem? (i := 132) rfl)) rfl
set_option maxRecDepth 20000 in
theorem se_yX8_count : Cond.selects RX8 yX8_count yX8_count ∈ wU_ := mU_ (tk_4 (List.mem_of_getElem? (i := 133) rfl)) rfl
set_option maxRecDepth 20000 in
theorem co_yX8_count : Cond.code yX8_count cX8_count 2 (some .int) ∈ wU_ := mU_ (tk_4 (List.mem_of_getElem? (i := 134) rfl)) rfl
set_option maxRecDepth 20000 in
theorem ml_RX8_342 : Cond.methodLink RX8 342 yJ13_bitCount_95d88 ∈ wU_ := mU_ (tk_4 (List.mem_of_getElem? (i := 135) rfl)) rfl
set_option maxRecDepth 20000 in
theorem st_yJ13_bitCount_95d88 : Cond.static yJ13_bitCount_95d88 ∈ wU_ := mU_ (tk_4 (List.mem_of_getElem? (i := 136) rfl)) rfl
set_option maxRecDepth 20000 in
theorem co_yJ13_bitCount_95d88 : Cond.code yJ13_bitCount_95d88 cJ13_bitCount_95d88 2 (some .int) ∈ wU_ := mU_ (tk_4 (List.mem_of_getElem? (i := 137) rfl)) rfl
set_option maxRecDepth 20000 in
theorem cl_RJ13_314 : Cond.constantLong RJ13 314 (6148914691236517205) ∈ wU_ := mU_ (tk_4 (List.mem_of_getElem? (i := 138) rfl)) rfl
set_option maxRecDepth 20000 in
theorem cl_RJ13_316 : Cond.constantLong RJ13 316 (3689348814741910323) ∈ wU_ := mU_ (tk_4 (List.mem_of_getElem? (i := 139) rfl)) rfl
set_option maxRecDepth 20000 in
theorem cl_RJ13_318 : Cond.constantLong RJ13 318 (1085102592571150095) ∈ wU_ := mU_ (tk_4 (List.mem_of_getElem? (i := 140) rfl)) rfl
set_option maxRecDepth 20000 in
theorem im_yX1_flownCount : Cond.instanceMethod yX1_flownCount ∈ wU_ := mU_ (tk_4 (List.mem_of_getElem? (i := 143) rfl)) rfl
set_option maxRecDepth 20000 in
theorem co_yX1_flownCount : Cond.code yX1_flownCount cX1_flownCount 3 (some .int) ∈ wU_ := mU_ (tk_4 (List.mem_of_getElem? (i := 144) rfl)) rfl
set_option maxRecDepth 20000 in
theorem ml_RL_109 : Cond.methodLink RL 109 yX8_sheet ∈ wU_ := mU_ (tk_4 (List.mem_of_getElem? (i := 145) rfl)) rfl
set_option maxRecDepth 20000 in
theorem im_yX8_sheet : Cond.instanceMethod yX8_sheet ∈ wU_ := mU_ (tk_4 (List.mem_of_getElem? (i := 146) rfl)) rfl
set_option maxRecDepth 20000 in
theorem se_yX8_sheet : Cond.selects RX8 yX8_sheet yX8_sheet ∈ wU_ := mU_ (tk_4 (List.mem_of_getElem? (i := 147) rfl)) rfl
set_option maxRecDepth 20000 in
theorem co_yX8_sheet : Cond.code yX8_sheet cX8_sheet 5 (some .int) ∈ wU_ := mU_ (tk_4 (List.mem_of_getElem? (i := 148) rfl)) rfl
set_option maxRecDepth 20000 in
theorem im_yX4_makeMissing : Cond.instanceMethod yX4_makeMissing ∈ wU_ := mU_ (tk_4 (List.mem_of_getElem? (i := 151) rfl)) rfl
set_option maxRecDepth 20000 in
theorem co_yX4_makeMissing : Cond.code yX4_makeMissing cX4_makeMissing 1 none ∈ wU_ := mU_ (tk_4 (List.mem_of_getElem? (i := 152) rfl)) rfl
set_option maxRecDepth 20000 in
theorem im_yX4_makeRow : Cond.instanceMethod yX4_makeRow ∈ wU_ := mU_ (tk_4 (List.mem_of_getElem? (i := 155) rfl)) rfl
set_option maxRecDepth 20000 in
theorem co_yX4_makeRow : Cond.code yX4_makeRow cX4_makeRow 3 none ∈ wU_ := mU_ (tk_4 (List.mem_of_getElem? (i := 156) rfl)) rfl
set_option maxRecDepth 20000 in
theorem ml_RX4_22 : Cond.methodLink RX4 22 yJ7_fill_53178 ∈ wU_ := mU_ (tk_4 (List.mem_of_getElem? (i := 157) rfl)) rfl
set_option maxRecDepth 20000 in
theorem ml_RL_113 : Cond.methodLink RL 113 yX8_cell ∈ wU_ := mU_ (tk_4 (List.mem_of_getElem? (i := 158) rfl)) rfl
set_option maxRecDepth 20000 in
theorem im_yX8_cell : Cond.instanceMethod yX8_cell ∈ wU_ := mU_ (tk_4 (List.mem_of_getElem? (i := 159) rfl)) rfl
set_option maxRecDepth 20000 in
theorem se_yX8_cell : Cond.selects RX8 yX8_cell yX8_cell ∈ wU_ := mU_ (tk_4 (List.mem_of_getElem? (i := 160) rfl)) rfl
set_option maxRecDepth 20000 in
theorem co_yX8_cell : Cond.code yX8_cell cX8_cell 5 (some .int) ∈ wU_ := mU_ (tk_4 (List.mem_of_getElem? (i := 161) rfl)) rfl
set_option maxRecDepth 20000 in
theorem im_yX4_put : Cond.instanceMethod yX4_put ∈ wU_ := mU_ (tk_4 (List.mem_of_getElem? (i := 164) rfl)) rfl
set_option maxRecDepth 20000 in
theorem co_yX4_put : Cond.code yX4_put cX4_put 3 none ∈ wU_ := mU_ (tk_4 (List.mem_of_getElem? (i := 165) rfl)) rfl
set_option maxRecDepth 20000 in
theorem ml_RL_117 : Cond.methodLink RL 117 yX8_copy ∈ wU_ := mU_ (tk_4 (List.mem_of_getElem? (i := 166) rfl)) rfl
set_option maxRecDepth 20000 in
theorem im_yX8_copy : Cond.instanceMethod yX8_copy ∈ wU_ := mU_ (tk_4 (List.mem_of_getElem? (i := 167) rfl)) rfl
set_option maxRecDepth 20000 in
theorem se_yX8_copy : Cond.selects RX8 yX8_copy yX8_copy ∈ wU_ := mU_ (tk_4 (List.mem_of_getElem? (i := 168) rfl)) rfl
set_option maxRecDepth 20000 in
theorem co_yX8_copy : Cond.code yX8_copy cX8_copy 8 (some .int) ∈ wU_ := mU_ (tk_4 (List.mem_of_getElem? (i := 169) rfl)) rfl
set_option maxRecDepth 20000 in
theorem im_yX4_holds : Cond.instanceMethod yX4_holds ∈ wU_ := mU_ (tk_4 (List.mem_of_getElem? (i := 172) rfl)) rfl
set_option maxRecDepth 20000 in
theorem co_yX4_holds : Cond.code yX4_holds cX4_holds 3 (some .boolean) ∈ wU_ := mU_ (tk_4 (List.mem_of_getElem? (i := 173) rfl)) rfl
set_option maxRecDepth 20000 in
theorem ml_RX8_369 : Cond.methodLink RX8 369 (⟨RJ10, "arraycopy", "(Ljava/lang/Object;ILjava/lang/Object;II)V"⟩ : MethodName) ∈ wU_ := mU_ (tk_4 (List.mem_of_getElem? (i := 174) rfl)) rfl
set_option maxRecDepth 20000 in
theorem ml_RL_122 : Cond.methodLink RL 122 yX8_carpets ∈ wU_ := mU_ (tk_4 (List.mem_of_getElem? (i := 177) rfl)) rfl
set_option maxRecDepth 20000 in
theorem im_yX8_carpets : Cond.instanceMethod yX8_carpets ∈ wU_ := mU_ (tk_4 (List.mem_of_getElem? (i := 178) rfl)) rfl
set_option maxRecDepth 20000 in
theorem se_yX8_carpets : Cond.selects RX8 yX8_carpets yX8_carpets ∈ wU_ := mU_ (tk_4 (List.mem_of_getElem? (i := 179) rfl)) rfl
set_option maxRecDepth 20000 in
theorem co_yX8_carpets : Cond.code yX8_carpets cX8_carpets 9 (some .int) ∈ wU_ := mU_ (tk_4 (List.mem_of_getElem? (i := 180) rfl)) rfl
set_option maxRecDepth 20000 in
theorem ml_RL_126 : Cond.methodLink RL 126 yX8_taken ∈ wU_ := mU_ (tk_4 (List.mem_of_getElem? (i := 181) rfl)) rfl
set_option maxRecDepth 20000 in
theorem im_yX8_taken : Cond.instanceMethod yX8_taken ∈ wU_ := mU_ (tk_4 (List.mem_of_getElem? (i := 182) rfl)) rfl
set_option maxRecDepth 20000 in
theorem se_yX8_taken : Cond.selects RX8 yX8_taken yX8_taken ∈ wU_ := mU_ (tk_4 (List.mem_of_getElem? (i := 183) rfl)) rfl
set_option maxRecDepth 20000 in
theorem co_yX8_taken : Cond.code yX8_taken cX8_taken 4 (some .int) ∈ wU_ := mU_ (tk_4 (List.mem_of_getElem? (i := 184) rfl)) rfl
set_option maxRecDepth 20000 in
theorem ml_RX8_378 : Cond.methodLink RX8 378 yX8_isUnder ∈ wU_ := mU_ (tk_4 (List.mem_of_getElem? (i := 185) rfl)) rfl
set_option maxRecDepth 20000 in
theorem st_yX8_isUnder : Cond.static yX8_isUnder ∈ wU_ := mU_ (tk_4 (List.mem_of_getElem? (i := 186) rfl)) rfl
set_option maxRecDepth 20000 in
theorem co_yX8_isUnder : Cond.code yX8_isUnder cX8_isUnder 4 (some .boolean) ∈ wU_ := mU_ (tk_4 (List.mem_of_getElem? (i := 187) rfl)) rfl
set_option maxRecDepth 20000 in
theorem fl_RX8_384 : Cond.fieldLink RX8 384 "FlownOnceAndLaid" "UNDER" "[I" ∈ wU_ := mU_ (tk_4 (List.mem_of_getElem? (i := 188) rfl)) rfl
set_option maxRecDepth 20000 in
theorem kl_RL_10 : Cond.classLink RL 10 RX9 ∈ wU_ := mU_ (tk_4 (List.mem_of_getElem? (i := 190) rfl)) rfl
set_option maxRecDepth 20000 in
theorem it_RX9 : Cond.instantiable RX9 42 ∈ wU_ := mU_ (tk_4 (List.mem_of_getElem? (i := 191) rfl)) rfl
set_option maxRecDepth 20000 in
theorem ml_RL_12 : Cond.methodLink RL 12 yX9_init ∈ wU_ := mU_ (tk_4 (List.mem_of_getElem? (i := 192) rfl)) rfl
set_option maxRecDepth 20000 in
theorem im_yX9_init : Cond.instanceMethod yX9_init ∈ wU_ := mU_ (tk_4 (List.mem_of_getElem? (i := 193) rfl)) rfl
set_option maxRecDepth 20000 in
theorem co_yX9_init : Cond.code yX9_init cX9_init 1 none ∈ wU_ := mU_ (tk_4 (List.mem_of_getElem? (i := 194) rfl)) rfl
set_option maxRecDepth 20000 in
theorem ml_RX9_7 : Cond.methodLink RX9 7 objectInit ∈ wU_ := mU_ (tk_4 (List.mem_of_getElem? (i := 195) rfl)) rfl
set_option maxRecDepth 20000 in
theorem ml_RX9_73 : Cond.methodLink RX9 73 yX9_spell ∈ wU_ := mU_ (tk_4 (List.mem_of_getElem? (i := 196) rfl)) rfl
set_option maxRecDepth 20000 in
theorem im_yX9_spell : Cond.instanceMethod yX9_spell ∈ wU_ := mU_ (tk_4 (List.mem_of_getElem? (i := 198) rfl)) rfl
set_option maxRecDepth 20000 in
theorem co_yX9_spell : Cond.code yX9_spell cX9_spell 10 none ∈ wU_ := mU_ (tk_4 (List.mem_of_getElem? (i := 199) rfl)) rfl
set_option maxRecDepth 20000 in
theorem fl_RX9_13 : Cond.fieldLink RX9 13 "FlownOnceAndLaidModel" "texts" "[I" ∈ wU_ := mU_ (tk_4 (List.mem_of_getElem? (i := 200) rfl)) rfl
set_option maxRecDepth 20000 in
theorem fl_RX9_17 : Cond.fieldLink RX9 17 "FlownOnceAndLaidModel" "textSize" "[I" ∈ wU_ := mU_ (tk_4 (List.mem_of_getElem? (i := 201) rfl)) rfl
set_option maxRecDepth 20000 in
theorem fl_RX9_77 : Cond.fieldLink RX9 77 "FlownOnceAndLaidModel" "textCount" "I" ∈ wU_ := mU_ (tk_4 (List.mem_of_getElem? (i := 202) rfl)) rfl
set_option maxRecDepth 20000 in
theorem fl_RX9_119 : Cond.fieldLink RX9 119 "FlownOnceAndLaidModel" "rule" "I" ∈ wU_ := mU_ (tk_4 (List.mem_of_getElem? (i := 203) rfl)) rfl
set_option maxRecDepth 20000 in
theorem fl_RX9_20 : Cond.fieldLink RX9 20 "FlownOnceAndLaidModel" "tape" "[I" ∈ wU_ := mU_ (tk_4 (List.mem_of_getElem? (i := 204) rfl)) rfl
set_option maxRecDepth 20000 in
theorem fl_RX9_141 : Cond.fieldLink RX9 141 "FlownOnceAndLaidModel" "taped" "I" ∈ wU_ := mU_ (tk_4 (List.mem_of_getElem? (i := 205) rfl)) rfl
set_option maxRecDepth 20000 in
theorem fl_RX9_116 : Cond.fieldLink RX9 116 "FlownOnceAndLaidModel" "nightNow" "I" ∈ wU_ := mU_ (tk_4 (List.mem_of_getElem? (i := 206) rfl)) rfl
set_option maxRecDepth 20000 in
theorem fl_RX9_23 : Cond.fieldLink RX9 23 "FlownOnceAndLaidModel" "walls" "[I" ∈ wU_ := mU_ (tk_4 (List.mem_of_getElem? (i := 207) rfl)) rfl
set_option maxRecDepth 20000 in
theorem fl_RX9_26 : Cond.fieldLink RX9 26 "FlownOnceAndLaidModel" "kinds" "[I" ∈ wU_ := mU_ (tk_4 (List.mem_of_getElem? (i := 208) rfl)) rfl
set_option maxRecDepth 20000 in
theorem fl_RX9_29 : Cond.fieldLink RX9 29 "FlownOnceAndLaidModel" "rows" "[I" ∈ wU_ := mU_ (tk_4 (List.mem_of_getElem? (i := 209) rfl)) rfl
set_option maxRecDepth 20000 in
theorem fl_RX9_80 : Cond.fieldLink RX9 80 "FlownOnceAndLaidModel" "many" "I" ∈ wU_ := mU_ (tk_4 (List.mem_of_getElem? (i := 210) rfl)) rfl
set_option maxRecDepth 20000 in
theorem fl_RX9_197 : Cond.fieldLink RX9 197 "FlownOnceAndLaidModel" "ofWord" "I" ∈ wU_ := mU_ (tk_4 (List.mem_of_getElem? (i := 211) rfl)) rfl
set_option maxRecDepth 20000 in
theorem fl_RX9_200 : Cond.fieldLink RX9 200 "FlownOnceAndLaidModel" "ofNumber" "I" ∈ wU_ := mU_ (tk_4 (List.mem_of_getElem? (i := 212) rfl)) rfl
set_option maxRecDepth 20000 in
theorem fl_RX9_203 : Cond.fieldLink RX9 203 "FlownOnceAndLaidModel" "ofColumn" "I" ∈ wU_ := mU_ (tk_4 (List.mem_of_getElem? (i := 213) rfl)) rfl
set_option maxRecDepth 20000 in
theorem fl_RX9_206 : Cond.fieldLink RX9 206 "FlownOnceAndLaidModel" "ofRow" "I" ∈ wU_ := mU_ (tk_4 (List.mem_of_getElem? (i := 214) rfl)) rfl
set_option maxRecDepth 20000 in
theorem fl_RX9_209 : Cond.fieldLink RX9 209 "FlownOnceAndLaidModel" "ofNight" "I" ∈ wU_ := mU_ (tk_4 (List.mem_of_getElem? (i := 215) rfl)) rfl
set_option maxRecDepth 20000 in
theorem fl_RX9_212 : Cond.fieldLink RX9 212 "FlownOnceAndLaidModel" "ofFlown" "I" ∈ wU_ := mU_ (tk_4 (List.mem_of_getElem? (i := 216) rfl)) rfl
set_option maxRecDepth 20000 in
theorem fl_RX9_147 : Cond.fieldLink RX9 147 "FlownOnceAndLaidModel" "from" "I" ∈ wU_ := mU_ (tk_4 (List.mem_of_getElem? (i := 217) rfl)) rfl
set_option maxRecDepth 20000 in
theorem fl_RX9_144 : Cond.fieldLink RX9 144 "FlownOnceAndLaidModel" "size" "I" ∈ wU_ := mU_ (tk_4 (List.mem_of_getElem? (i := 218) rfl)) rfl
set_option maxRecDepth 20000 in
theorem fl_RX9_150 : Cond.fieldLink RX9 150 "FlownOnceAndLaidModel" "here" "I" ∈ wU_ := mU_ (tk_4 (List.mem_of_getElem? (i := 219) rfl)) rfl
set_option maxRecDepth 20000 in
theorem fl_RX9_159 : Cond.fieldLink RX9 159 "FlownOnceAndLaidModel" "token" "I" ∈ wU_ := mU_ (tk_4 (List.mem_of_getElem? (i := 220) rfl)) rfl
set_option maxRecDepth 20000 in
theorem fl_RX9_156 : Cond.fieldLink RX9 156 "FlownOnceAndLaidModel" "tokenAt" "I" ∈ wU_ := mU_ (tk_4 (List.mem_of_getElem? (i := 221) rfl)) rfl
set_option maxRecDepth 20000 in
theorem fl_RX9_170 : Cond.fieldLink RX9 170 "FlownOnceAndLaidModel" "tokenWorth" "J" ∈ wU_ := mU_ (tk_4 (List.mem_of_getElem? (i := 222) rfl)) rfl
set_option maxRecDepth 20000 in
theorem fl_RX9_184 : Cond.fieldLink RX9 184 "FlownOnceAndLaidModel" "open" "I" ∈ wU_ := mU_ (tk_4 (List.mem_of_getElem? (i := 223) rfl)) rfl
set_option maxRecDepth 20000 in
theorem fl_RX9_174 : Cond.fieldLink RX9 174 "FlownOnceAndLaidModel" "bad" "Z" ∈ wU_ := mU_ (tk_4 (List.mem_of_getElem? (i := 224) rfl)) rfl
set_option maxRecDepth 20000 in
theorem fl_RX9_178 : Cond.fieldLink RX9 178 "FlownOnceAndLaidModel" "fault" "I" ∈ wU_ := mU_ (tk_4 (List.mem_of_getElem? (i := 225) rfl)) rfl
set_option maxRecDepth 20000 in
theorem fl_RX9_32 : Cond.fieldLink RX9 32 "FlownOnceAndLaidModel" "leads" "[I" ∈ wU_ := mU_ (tk_4 (List.mem_of_getElem? (i := 226) rfl)) rfl
set_option maxRecDepth 20000 in
theorem fl_RX9_35 : Cond.fieldLink RX9 35 "FlownOnceAndLaidModel" "leadsOther" "[I" ∈ wU_ := mU_ (tk_4 (List.mem_of_getElem? (i := 227) rfl)) rfl
set_option maxRecDepth 20000 in
theorem fl_RX9_38 : Cond.fieldLink RX9 38 "FlownOnceAndLaidModel" "far" "[I" ∈ wU_ := mU_ (tk_4 (List.mem_of_getElem? (i := 228) rfl)) rfl
set_option maxRecDepth 20000 in
theorem fl_RX9_41 : Cond.fieldLink RX9 41 "FlownOnceAndLaidModel" "bothFar" "[I" ∈ wU_ := mU_ (tk_4 (List.mem_of_getElem? (i := 229) rfl)) rfl
set_option maxRecDepth 20000 in
theorem fl_RX9_44 : Cond.fieldLink RX9 44 "FlownOnceAndLaidModel" "rowsNow" "[J" ∈ wU_ := mU_ (tk_4 (List.mem_of_getElem? (i := 230) rfl)) rfl
set_option maxRecDepth 20000 in
theorem fl_RX9_48 : Cond.fieldLink RX9 48 "FlownOnceAndLaidModel" "rowsNext" "[J" ∈ wU_ := mU_ (tk_4 (List.mem_of_getElem? (i := 231) rfl)) rfl
set_option maxRecDepth 20000 in
theorem fl_RX9_51 : Cond.fieldLink RX9 51 "FlownOnceAndLaidModel" "wallsKept" "[I" ∈ wU_ := mU_ (tk_4 (List.mem_of_getElem? (i := 232) rfl)) rfl
set_option maxRecDepth 20000 in
theorem fl_RX9_54 : Cond.fieldLink RX9 54 "FlownOnceAndLaidModel" "rowsKept" "[I" ∈ wU_ := mU_ (tk_4 (List.mem_of_getElem? (i := 233) rfl)) rfl
set_option maxRecDepth 20000 in
theorem fl_RX9_57 : Cond.fieldLink RX9 57 "FlownOnceAndLaidModel" "manyKept" "I" ∈ wU_ := mU_ (tk_4 (List.mem_of_getElem? (i := 234) rfl)) rfl
set_option maxRecDepth 20000 in
theorem fl_RX9_420 : Cond.fieldLink RX9 420 "FlownOnceAndLaidModel" "nightKept" "I" ∈ wU_ := mU_ (tk_4 (List.mem_of_getElem? (i := 235) rfl)) rfl
set_option maxRecDepth 20000 in
theorem fl_RX9_423 : Cond.fieldLink RX9 423 "FlownOnceAndLaidModel" "ruleKept" "I" ∈ wU_ := mU_ (tk_4 (List.mem_of_getElem? (i := 236) rfl)) rfl
set_option maxRecDepth 20000 in
theorem fl_RX9_60 : Cond.fieldLink RX9 60 "FlownOnceAndLaidModel" "isThere" "[Z" ∈ wU_ := mU_ (tk_4 (List.mem_of_getElem? (i := 237) rfl)) rfl
set_option maxRecDepth 20000 in
theorem fl_RX9_64 : Cond.fieldLink RX9 64 "FlownOnceAndLaidModel" "sorts" "[I" ∈ wU_ := mU_ (tk_4 (List.mem_of_getElem? (i := 238) rfl)) rfl
set_option maxRecDepth 20000 in
theorem fl_RX9_67 : Cond.fieldLink RX9 67 "FlownOnceAndLaidModel" "sheetSize" "[I" ∈ wU_ := mU_ (tk_4 (List.mem_of_getElem? (i := 239) rfl)) rfl
set_option maxRecDepth 20000 in
theorem fl_RX9_70 : Cond.fieldLink RX9 70 "FlownOnceAndLaidModel" "items" "[I" ∈ wU_ := mU_ (tk_5 (List.mem_of_getElem? (i := 0) rfl)) rfl
set_option maxRecDepth 20000 in
theorem ac_boolean : Cond.arrayClass .boolean ∈ wU_ := mU_ (tk_5 (List.mem_of_getElem? (i := 86) rfl)) rfl
set_option maxRecDepth 20000 in
theorem ml_RL_17 : Cond.methodLink RL 17 yX9_set ∈ wU_ := mU_ (tk_5 (List.mem_of_getElem? (i := 87) rfl)) rfl
set_option maxRecDepth 20000 in
theorem im_yX9_set : Cond.instanceMethod yX9_set ∈ wU_ := mU_ (tk_5 (List.mem_of_getElem? (i := 88) rfl)) rfl
set_option maxRecDepth 20000 in
theorem se_yX9_set : Cond.selects RX9 yX9_set yX9_set ∈ wU_ := mU_ (tk_5 (List.mem_of_getElem? (i := 89) rfl)) rfl
set_option maxRecDepth 20000 in
theorem co_yX9_set : Cond.code yX9_set cX9_set 5 (some .int) ∈ wU_ := mU_ (tk_5 (List.mem_of_getElem? (i := 90) rfl)) rfl
set_option maxRecDepth 20000 in
theorem cl_RX9_98 : Cond.constantLong RX9 98 (4) ∈ wU_ := mU_ (tk_5 (List.mem_of_getElem? (i := 91) rfl)) rfl
set_option maxRecDepth 20000 in
theorem ml_RX9_83 : Cond.methodLink RX9 83 yX9_in ∈ wU_ := mU_ (tk_5 (List.mem_of_getElem? (i := 92) rfl)) rfl
set_option maxRecDepth 20000 in
theorem st_yX9_in : Cond.static yX9_in ∈ wU_ := mU_ (tk_5 (List.mem_of_getElem? (i := 93) rfl)) rfl
set_option maxRecDepth 20000 in
theorem co_yX9_in : Cond.code yX9_in cX9_in 6 (some .boolean) ∈ wU_ := mU_ (tk_5 (List.mem_of_getElem? (i := 94) rfl)) rfl
set_option maxRecDepth 20000 in
theorem ml_RX9_100 : Cond.methodLink RX9 100 yX9_isOf ∈ wU_ := mU_ (tk_5 (List.mem_of_getElem? (i := 95) rfl)) rfl
set_option maxRecDepth 20000 in
theorem im_yX9_isOf : Cond.instanceMethod yX9_isOf ∈ wU_ := mU_ (tk_5 (List.mem_of_getElem? (i := 97) rfl)) rfl
set_option maxRecDepth 20000 in
theorem co_yX9_isOf : Cond.code yX9_isOf cX9_isOf 3 (some .boolean) ∈ wU_ := mU_ (tk_5 (List.mem_of_getElem? (i := 98) rfl)) rfl
set_option maxRecDepth 20000 in
theorem ml_RX9_91 : Cond.methodLink RX9 91 yX9_isCell ∈ wU_ := mU_ (tk_5 (List.mem_of_getElem? (i := 99) rfl)) rfl
set_option maxRecDepth 20000 in
theorem st_yX9_isCell : Cond.static yX9_isCell ∈ wU_ := mU_ (tk_5 (List.mem_of_getElem? (i := 100) rfl)) rfl
set_option maxRecDepth 20000 in
theorem co_yX9_isCell : Cond.code yX9_isCell cX9_isCell 1 (some .boolean) ∈ wU_ := mU_ (tk_5 (List.mem_of_getElem? (i := 101) rfl)) rfl
set_option maxRecDepth 20000 in
theorem cl_RX9_87 : Cond.constantLong RX9 87 (35) ∈ wU_ := mU_ (tk_5 (List.mem_of_getElem? (i := 102) rfl)) rfl
set_option maxRecDepth 20000 in
theorem ml_RX9_95 : Cond.methodLink RX9 95 yX9_isOne ∈ wU_ := mU_ (tk_5 (List.mem_of_getElem? (i := 103) rfl)) rfl
set_option maxRecDepth 20000 in
theorem im_yX9_isOne : Cond.instanceMethod yX9_isOne ∈ wU_ := mU_ (tk_5 (List.mem_of_getElem? (i := 105) rfl)) rfl
set_option maxRecDepth 20000 in
theorem co_yX9_isOne : Cond.code yX9_isOne cX9_isOne 2 (some .boolean) ∈ wU_ := mU_ (tk_5 (List.mem_of_getElem? (i := 106) rfl)) rfl
set_option maxRecDepth 20000 in
theorem ml_RX9_104 : Cond.methodLink RX9 104 yX9_mostOf ∈ wU_ := mU_ (tk_5 (List.mem_of_getElem? (i := 107) rfl)) rfl
set_option maxRecDepth 20000 in
theorem st_yX9_mostOf : Cond.static yX9_mostOf ∈ wU_ := mU_ (tk_5 (List.mem_of_getElem? (i := 108) rfl)) rfl
set_option maxRecDepth 20000 in
theorem co_yX9_mostOf : Cond.code yX9_mostOf cX9_mostOf 1 (some .int) ∈ wU_ := mU_ (tk_5 (List.mem_of_getElem? (i := 109) rfl)) rfl
set_option maxRecDepth 20000 in
theorem ml_RX9_108 : Cond.methodLink RX9 108 yX9_told ∈ wU_ := mU_ (tk_5 (List.mem_of_getElem? (i := 110) rfl)) rfl
set_option maxRecDepth 20000 in
theorem im_yX9_told : Cond.instanceMethod yX9_told ∈ wU_ := mU_ (tk_5 (List.mem_of_getElem? (i := 111) rfl)) rfl
set_option maxRecDepth 20000 in
theorem se_yX9_told : Cond.selects RX9 yX9_told yX9_told ∈ wU_ := mU_ (tk_5 (List.mem_of_getElem? (i := 112) rfl)) rfl
set_option maxRecDepth 20000 in
theorem co_yX9_told : Cond.code yX9_told cX9_told 3 (some .int) ∈ wU_ := mU_ (tk_5 (List.mem_of_getElem? (i := 113) rfl)) rfl
set_option maxRecDepth 20000 in
theorem cl_RX9_126 : Cond.constantLong RX9 126 (6) ∈ wU_ := mU_ (tk_5 (List.mem_of_getElem? (i := 114) rfl)) rfl
set_option maxRecDepth 20000 in
theorem cl_RX9_128 : Cond.constantLong RX9 128 (10) ∈ wU_ := mU_ (tk_5 (List.mem_of_getElem? (i := 115) rfl)) rfl
set_option maxRecDepth 20000 in
theorem cl_RX9_130 : Cond.constantLong RX9 130 (17) ∈ wU_ := mU_ (tk_5 (List.mem_of_getElem? (i := 116) rfl)) rfl
set_option maxRecDepth 20000 in
theorem ml_RX9_132 : Cond.methodLink RX9 132 yX9_goesTo ∈ wU_ := mU_ (tk_5 (List.mem_of_getElem? (i := 117) rfl)) rfl
set_option maxRecDepth 20000 in
theorem im_yX9_goesTo : Cond.instanceMethod yX9_goesTo ∈ wU_ := mU_ (tk_5 (List.mem_of_getElem? (i := 119) rfl)) rfl
set_option maxRecDepth 20000 in
theorem co_yX9_goesTo : Cond.code yX9_goesTo cX9_goesTo 7 (some .int) ∈ wU_ := mU_ (tk_5 (List.mem_of_getElem? (i := 120) rfl)) rfl
set_option maxRecDepth 20000 in
theorem ml_RX9_352 : Cond.methodLink RX9 352 yX9_eastOf ∈ wU_ := mU_ (tk_5 (List.mem_of_getElem? (i := 121) rfl)) rfl
set_option maxRecDepth 20000 in
theorem im_yX9_eastOf : Cond.instanceMethod yX9_eastOf ∈ wU_ := mU_ (tk_5 (List.mem_of_getElem? (i := 123) rfl)) rfl
set_option maxRecDepth 20000 in
theorem co_yX9_eastOf : Cond.code yX9_eastOf cX9_eastOf 6 (some .int) ∈ wU_ := mU_ (tk_5 (List.mem_of_getElem? (i := 124) rfl)) rfl
set_option maxRecDepth 20000 in
theorem ml_RX9_348 : Cond.methodLink RX9 348 yX9_says ∈ wU_ := mU_ (tk_5 (List.mem_of_getElem? (i := 125) rfl)) rfl
set_option maxRecDepth 20000 in
theorem im_yX9_says : Cond.instanceMethod yX9_says ∈ wU_ := mU_ (tk_5 (List.mem_of_getElem? (i := 127) rfl)) rfl
set_option maxRecDepth 20000 in
theorem co_yX9_says : Cond.code yX9_says cX9_says 6 (some .int) ∈ wU_ := mU_ (tk_5 (List.mem_of_getElem? (i := 128) rfl)) rfl
set_option maxRecDepth 20000 in
theorem ml_RX9_342 : Cond.methodLink RX9 342 yX9_read ∈ wU_ := mU_ (tk_5 (List.mem_of_getElem? (i := 129) rfl)) rfl
set_option maxRecDepth 20000 in
theorem im_yX9_read : Cond.instanceMethod yX9_read ∈ wU_ := mU_ (tk_5 (List.mem_of_getElem? (i := 131) rfl)) rfl
set_option maxRecDepth 20000 in
theorem co_yX9_read : Cond.code yX9_read cX9_read 6 (some .int) ∈ wU_ := mU_ (tk_5 (List.mem_of_getElem? (i := 132) rfl)) rfl
set_option maxRecDepth 20000 in
theorem ml_RX9_190 : Cond.methodLink RX9 190 yX9_next ∈ wU_ := mU_ (tk_5 (List.mem_of_getElem? (i := 133) rfl)) rfl
set_option maxRecDepth 20000 in
theorem im_yX9_next : Cond.instanceMethod yX9_next ∈ wU_ := mU_ (tk_5 (List.mem_of_getElem? (i := 135) rfl)) rfl
set_option maxRecDepth 20000 in
theorem co_yX9_next : Cond.code yX9_next cX9_next 3 none ∈ wU_ := mU_ (tk_5 (List.mem_of_getElem? (i := 136) rfl)) rfl
set_option maxRecDepth 20000 in
theorem ml_RX9_153 : Cond.methodLink RX9 153 yX9_byteAt ∈ wU_ := mU_ (tk_5 (List.mem_of_getElem? (i := 137) rfl)) rfl
set_option maxRecDepth 20000 in
theorem im_yX9_byteAt : Cond.instanceMethod yX9_byteAt ∈ wU_ := mU_ (tk_5 (List.mem_of_getElem? (i := 139) rfl)) rfl
set_option maxRecDepth 20000 in
theorem co_yX9_byteAt : Cond.code yX9_byteAt cX9_byteAt 2 (some .int) ∈ wU_ := mU_ (tk_5 (List.mem_of_getElem? (i := 140) rfl)) rfl
set_option maxRecDepth 20000 in
theorem cl_RX9_162 : Cond.constantLong RX9 162 (97) ∈ wU_ := mU_ (tk_5 (List.mem_of_getElem? (i := 141) rfl)) rfl
set_option maxRecDepth 20000 in
theorem cl_RX9_164 : Cond.constantLong RX9 164 (122) ∈ wU_ := mU_ (tk_5 (List.mem_of_getElem? (i := 142) rfl)) rfl
set_option maxRecDepth 20000 in
theorem cl_RX9_166 : Cond.constantLong RX9 166 (48) ∈ wU_ := mU_ (tk_5 (List.mem_of_getElem? (i := 143) rfl)) rfl
set_option maxRecDepth 20000 in
theorem cl_RX9_168 : Cond.constantLong RX9 168 (57) ∈ wU_ := mU_ (tk_5 (List.mem_of_getElem? (i := 144) rfl)) rfl
set_option maxRecDepth 20000 in
theorem ml_RX9_193 : Cond.methodLink RX9 193 yX9_isWord_ ∈ wU_ := mU_ (tk_5 (List.mem_of_getElem? (i := 145) rfl)) rfl
set_option maxRecDepth 20000 in
theorem im_yX9_isWord_ : Cond.instanceMethod yX9_isWord_ ∈ wU_ := mU_ (tk_5 (List.mem_of_getElem? (i := 147) rfl)) rfl
set_option maxRecDepth 20000 in
theorem co_yX9_isWord_ : Cond.code yX9_isWord_ cX9_isWord_ 9 (some .boolean) ∈ wU_ := mU_ (tk_5 (List.mem_of_getElem? (i := 148) rfl)) rfl
set_option maxRecDepth 20000 in
theorem ml_RX9_181 : Cond.methodLink RX9 181 yX9_isLetter ∈ wU_ := mU_ (tk_5 (List.mem_of_getElem? (i := 149) rfl)) rfl
set_option maxRecDepth 20000 in
theorem im_yX9_isLetter : Cond.instanceMethod yX9_isLetter ∈ wU_ := mU_ (tk_5 (List.mem_of_getElem? (i := 151) rfl)) rfl
set_option maxRecDepth 20000 in
theorem co_yX9_isLetter : Cond.code yX9_isLetter cX9_isLetter 3 (some .boolean) ∈ wU_ := mU_ (tk_5 (List.mem_of_getElem? (i := 152) rfl)) rfl
set_option maxRecDepth 20000 in
theorem ml_RX9_338 : Cond.methodLink RX9 338 yX9_part ∈ wU_ := mU_ (tk_5 (List.mem_of_getElem? (i := 153) rfl)) rfl
set_option maxRecDepth 20000 in
theorem im_yX9_part : Cond.instanceMethod yX9_part ∈ wU_ := mU_ (tk_5 (List.mem_of_getElem? (i := 155) rfl)) rfl
set_option maxRecDepth 20000 in
theorem co_yX9_part : Cond.code yX9_part cX9_part 3 (some .int) ∈ wU_ := mU_ (tk_5 (List.mem_of_getElem? (i := 156) rfl)) rfl
set_option maxRecDepth 20000 in
theorem ml_RX9_187 : Cond.methodLink RX9 187 yX9_fail ∈ wU_ := mU_ (tk_5 (List.mem_of_getElem? (i := 157) rfl)) rfl
set_option maxRecDepth 20000 in
theorem im_yX9_fail : Cond.instanceMethod yX9_fail ∈ wU_ := mU_ (tk_5 (List.mem_of_getElem? (i := 159) rfl)) rfl
set_option maxRecDepth 20000 in
theorem co_yX9_fail : Cond.code yX9_fail cX9_fail 1 none ∈ wU_ := mU_ (tk_5 (List.mem_of_getElem? (i := 160) rfl)) rfl
set_option maxRecDepth 20000 in
theorem ml_RX9_335 : Cond.methodLink RX9 335 yX9_either0 ∈ wU_ := mU_ (tk_5 (List.mem_of_getElem? (i := 161) rfl)) rfl
set_option maxRecDepth 20000 in
theorem im_yX9_either0 : Cond.instanceMethod yX9_either0 ∈ wU_ := mU_ (tk_5 (List.mem_of_getElem? (i := 163) rfl)) rfl
set_option maxRecDepth 20000 in
theorem co_yX9_either0 : Cond.code yX9_either0 cX9_either0 3 (some .int) ∈ wU_ := mU_ (tk_5 (List.mem_of_getElem? (i := 164) rfl)) rfl
set_option maxRecDepth 20000 in
theorem ml_RX9_332 : Cond.methodLink RX9 332 yX9_both0 ∈ wU_ := mU_ (tk_5 (List.mem_of_getElem? (i := 165) rfl)) rfl
set_option maxRecDepth 20000 in
theorem im_yX9_both0 : Cond.instanceMethod yX9_both0 ∈ wU_ := mU_ (tk_5 (List.mem_of_getElem? (i := 167) rfl)) rfl
set_option maxRecDepth 20000 in
theorem co_yX9_both0 : Cond.code yX9_both0 cX9_both0 3 (some .int) ∈ wU_ := mU_ (tk_5 (List.mem_of_getElem? (i := 168) rfl)) rfl
set_option maxRecDepth 20000 in
theorem ml_RX9_329 : Cond.methodLink RX9 329 yX9_not0 ∈ wU_ := mU_ (tk_5 (List.mem_of_getElem? (i := 169) rfl)) rfl
set_option maxRecDepth 20000 in
theorem im_yX9_not0 : Cond.instanceMethod yX9_not0 ∈ wU_ := mU_ (tk_5 (List.mem_of_getElem? (i := 171) rfl)) rfl
set_option maxRecDepth 20000 in
theorem co_yX9_not0 : Cond.code yX9_not0 cX9_not0 4 (some .int) ∈ wU_ := mU_ (tk_5 (List.mem_of_getElem? (i := 172) rfl)) rfl
set_option maxRecDepth 20000 in
theorem ml_RX9_218 : Cond.methodLink RX9 218 yX9_opens ∈ wU_ := mU_ (tk_5 (List.mem_of_getElem? (i := 173) rfl)) rfl
set_option maxRecDepth 20000 in
theorem im_yX9_opens : Cond.instanceMethod yX9_opens ∈ wU_ := mU_ (tk_5 (List.mem_of_getElem? (i := 175) rfl)) rfl
set_option maxRecDepth 20000 in
theorem co_yX9_opens : Cond.code yX9_opens cX9_opens 1 (some .boolean) ∈ wU_ := mU_ (tk_5 (List.mem_of_getElem? (i := 176) rfl)) rfl
set_option maxRecDepth 20000 in
theorem ml_RX9_311 : Cond.methodLink RX9 311 yX9_not1 ∈ wU_ := mU_ (tk_5 (List.mem_of_getElem? (i := 177) rfl)) rfl
set_option maxRecDepth 20000 in
theorem im_yX9_not1 : Cond.instanceMethod yX9_not1 ∈ wU_ := mU_ (tk_5 (List.mem_of_getElem? (i := 179) rfl)) rfl
set_option maxRecDepth 20000 in
theorem co_yX9_not1 : Cond.code yX9_not1 cX9_not1 4 (some .int) ∈ wU_ := mU_ (tk_5 (List.mem_of_getElem? (i := 180) rfl)) rfl
set_option maxRecDepth 20000 in
theorem ml_RX9_293 : Cond.methodLink RX9 293 yX9_not2 ∈ wU_ := mU_ (tk_5 (List.mem_of_getElem? (i := 181) rfl)) rfl
set_option maxRecDepth 20000 in
theorem im_yX9_not2 : Cond.instanceMethod yX9_not2 ∈ wU_ := mU_ (tk_5 (List.mem_of_getElem? (i := 183) rfl)) rfl
set_option maxRecDepth 20000 in
theorem co_yX9_not2 : Cond.code yX9_not2 cX9_not2 4 (some .int) ∈ wU_ := mU_ (tk_5 (List.mem_of_getElem? (i := 184) rfl)) rfl
set_option maxRecDepth 20000 in
theorem ml_RX9_275 : Cond.methodLink RX9 275 yX9_not3 ∈ wU_ := mU_ (tk_5 (List.mem_of_getElem? (i := 185) rfl)) rfl
set_option maxRecDepth 20000 in
theorem im_yX9_not3 : Cond.instanceMethod yX9_not3 ∈ wU_ := mU_ (tk_5 (List.mem_of_getElem? (i := 187) rfl)) rfl
set_option maxRecDepth 20000 in
theorem co_yX9_not3 : Cond.code yX9_not3 cX9_not3 4 (some .int) ∈ wU_ := mU_ (tk_5 (List.mem_of_getElem? (i := 188) rfl)) rfl
set_option maxRecDepth 20000 in
theorem ml_RX9_257 : Cond.methodLink RX9 257 yX9_not4 ∈ wU_ := mU_ (tk_5 (List.mem_of_getElem? (i := 189) rfl)) rfl
set_option maxRecDepth 20000 in
theorem im_yX9_not4 : Cond.instanceMethod yX9_not4 ∈ wU_ := mU_ (tk_5 (List.mem_of_getElem? (i := 191) rfl)) rfl
set_option maxRecDepth 20000 in
theorem co_yX9_not4 : Cond.code yX9_not4 cX9_not4 4 (some .int) ∈ wU_ := mU_ (tk_5 (List.mem_of_getElem? (i := 192) rfl)) rfl
set_option maxRecDepth 20000 in
theorem ml_RX9_239 : Cond.methodLink RX9 239 yX9_not5 ∈ wU_ := mU_ (tk_5 (List.mem_of_getElem? (i := 193) rfl)) rfl
set_option maxRecDepth 20000 in
theorem im_yX9_not5 : Cond.instanceMethod yX9_not5 ∈ wU_ := mU_ (tk_5 (List.mem_of_getElem? (i := 195) rfl)) rfl
set_option maxRecDepth 20000 in
theorem co_yX9_not5 : Cond.code yX9_not5 cX9_not5 4 (some .int) ∈ wU_ := mU_ (tk_5 (List.mem_of_getElem? (i := 196) rfl)) rfl
set_option maxRecDepth 20000 in
theorem ml_RX9_234 : Cond.methodLink RX9 234 yX9_added5 ∈ wU_ := mU_ (tk_5 (List.mem_of_getElem? (i := 197) rfl)) rfl
set_option maxRecDepth 20000 in
theorem im_yX9_added5 : Cond.instanceMethod yX9_added5 ∈ wU_ := mU_ (tk_5 (List.mem_of_getElem? (i := 199) rfl)) rfl
set_option maxRecDepth 20000 in
theorem co_yX9_added5 : Cond.code yX9_added5 cX9_added5 4 (some .int) ∈ wU_ := mU_ (tk_5 (List.mem_of_getElem? (i := 200) rfl)) rfl
set_option maxRecDepth 20000 in
theorem ml_RX9_229 : Cond.methodLink RX9 229 yX9_term5 ∈ wU_ := mU_ (tk_5 (List.mem_of_getElem? (i := 201) rfl)) rfl
set_option maxRecDepth 20000 in
theorem im_yX9_term5 : Cond.instanceMethod yX9_term5 ∈ wU_ := mU_ (tk_5 (List.mem_of_getElem? (i := 203) rfl)) rfl
set_option maxRecDepth 20000 in
theorem co_yX9_term5 : Cond.code yX9_term5 cX9_term5 2 (some .int) ∈ wU_ := mU_ (tk_5 (List.mem_of_getElem? (i := 204) rfl)) rfl
set_option maxRecDepth 20000 in
theorem ml_RX9_226 : Cond.methodLink RX9 226 yX9_atom5 ∈ wU_ := mU_ (tk_5 (List.mem_of_getElem? (i := 205) rfl)) rfl
set_option maxRecDepth 20000 in
theorem im_yX9_atom5 : Cond.instanceMethod yX9_atom5 ∈ wU_ := mU_ (tk_5 (List.mem_of_getElem? (i := 207) rfl)) rfl
set_option maxRecDepth 20000 in
theorem co_yX9_atom5 : Cond.code yX9_atom5 cX9_atom5 2 (some .int) ∈ wU_ := mU_ (tk_5 (List.mem_of_getElem? (i := 208) rfl)) rfl
set_option maxRecDepth 20000 in
theorem ml_RX9_215 : Cond.methodLink RX9 215 yX9_isSign ∈ wU_ := mU_ (tk_5 (List.mem_of_getElem? (i := 209) rfl)) rfl
set_option maxRecDepth 20000 in
theorem im_yX9_isSign : Cond.instanceMethod yX9_isSign ∈ wU_ := mU_ (tk_5 (List.mem_of_getElem? (i := 211) rfl)) rfl
set_option maxRecDepth 20000 in
theorem co_yX9_isSign : Cond.code yX9_isSign cX9_isSign 2 (some .boolean) ∈ wU_ := mU_ (tk_5 (List.mem_of_getElem? (i := 212) rfl)) rfl
set_option maxRecDepth 20000 in
theorem ml_RX9_222 : Cond.methodLink RX9 222 yX9_name ∈ wU_ := mU_ (tk_5 (List.mem_of_getElem? (i := 213) rfl)) rfl
set_option maxRecDepth 20000 in
theorem im_yX9_name : Cond.instanceMethod yX9_name ∈ wU_ := mU_ (tk_5 (List.mem_of_getElem? (i := 215) rfl)) rfl
set_option maxRecDepth 20000 in
theorem co_yX9_name : Cond.code yX9_name cX9_name 1 (some .int) ∈ wU_ := mU_ (tk_5 (List.mem_of_getElem? (i := 216) rfl)) rfl
set_option maxRecDepth 20000 in
theorem cl_RX9_232 : Cond.constantLong RX9 232 (43) ∈ wU_ := mU_ (tk_5 (List.mem_of_getElem? (i := 217) rfl)) rfl
set_option maxRecDepth 20000 in
theorem cl_RX9_237 : Cond.constantLong RX9 237 (60) ∈ wU_ := mU_ (tk_5 (List.mem_of_getElem? (i := 218) rfl)) rfl
set_option maxRecDepth 20000 in
theorem ml_RX9_254 : Cond.methodLink RX9 254 yX9_added4 ∈ wU_ := mU_ (tk_5 (List.mem_of_getElem? (i := 219) rfl)) rfl
set_option maxRecDepth 20000 in
theorem im_yX9_added4 : Cond.instanceMethod yX9_added4 ∈ wU_ := mU_ (tk_5 (List.mem_of_getElem? (i := 221) rfl)) rfl
set_option maxRecDepth 20000 in
theorem co_yX9_added4 : Cond.code yX9_added4 cX9_added4 4 (some .int) ∈ wU_ := mU_ (tk_5 (List.mem_of_getElem? (i := 222) rfl)) rfl
set_option maxRecDepth 20000 in
theorem ml_RX9_251 : Cond.methodLink RX9 251 yX9_term4 ∈ wU_ := mU_ (tk_5 (List.mem_of_getElem? (i := 223) rfl)) rfl
set_option maxRecDepth 20000 in
theorem im_yX9_term4 : Cond.instanceMethod yX9_term4 ∈ wU_ := mU_ (tk_5 (List.mem_of_getElem? (i := 225) rfl)) rfl
set_option maxRecDepth 20000 in
theorem co_yX9_term4 : Cond.code yX9_term4 cX9_term4 2 (some .int) ∈ wU_ := mU_ (tk_5 (List.mem_of_getElem? (i := 226) rfl)) rfl
set_option maxRecDepth 20000 in
theorem ml_RX9_248 : Cond.methodLink RX9 248 yX9_atom4 ∈ wU_ := mU_ (tk_5 (List.mem_of_getElem? (i := 227) rfl)) rfl
set_option maxRecDepth 20000 in
theorem im_yX9_atom4 : Cond.instanceMethod yX9_atom4 ∈ wU_ := mU_ (tk_5 (List.mem_of_getElem? (i := 229) rfl)) rfl
set_option maxRecDepth 20000 in
theorem co_yX9_atom4 : Cond.code yX9_atom4 cX9_atom4 2 (some .int) ∈ wU_ := mU_ (tk_5 (List.mem_of_getElem? (i := 230) rfl)) rfl
set_option maxRecDepth 20000 in
theorem ml_RX9_245 : Cond.methodLink RX9 245 yX9_either5 ∈ wU_ := mU_ (tk_5 (List.mem_of_getElem? (i := 231) rfl)) rfl
set_option maxRecDepth 20000 in
theorem im_yX9_either5 : Cond.instanceMethod yX9_either5 ∈ wU_ := mU_ (tk_5 (List.mem_of_getElem? (i := 233) rfl)) rfl
set_option maxRecDepth 20000 in
theorem co_yX9_either5 : Cond.code yX9_either5 cX9_either5 3 (some .int) ∈ wU_ := mU_ (tk_5 (List.mem_of_getElem? (i := 234) rfl)) rfl
set_option maxRecDepth 20000 in
theorem ml_RX9_242 : Cond.methodLink RX9 242 yX9_both5 ∈ wU_ := mU_ (tk_5 (List.mem_of_getElem? (i := 235) rfl)) rfl
set_option maxRecDepth 20000 in
theorem im_yX9_both5 : Cond.instanceMethod yX9_both5 ∈ wU_ := mU_ (tk_5 (List.mem_of_getElem? (i := 237) rfl)) rfl
set_option maxRecDepth 20000 in
theorem co_yX9_both5 : Cond.code yX9_both5 cX9_both5 3 (some .int) ∈ wU_ := mU_ (tk_5 (List.mem_of_getElem? (i := 238) rfl)) rfl
set_option maxRecDepth 20000 in
theorem ml_RX9_272 : Cond.methodLink RX9 272 yX9_added3 ∈ wU_ := mU_ (tk_5 (List.mem_of_getElem? (i := 239) rfl)) rfl
set_option maxRecDepth 20000 in
theorem im_yX9_added3 : Cond.instanceMethod yX9_added3 ∈ wU_ := mU_ (tk_6 (List.mem_of_getElem? (i := 1) rfl)) rfl
set_option maxRecDepth 20000 in
theorem co_yX9_added3 : Cond.code yX9_added3 cX9_added3 4 (some .int) ∈ wU_ := mU_ (tk_6 (List.mem_of_getElem? (i := 2) rfl)) rfl
set_option maxRecDepth 20000 in
theorem ml_RX9_269 : Cond.methodLink RX9 269 yX9_term3 ∈ wU_ := mU_ (tk_6 (List.mem_of_getElem? (i := 3) rfl)) rfl
set_option maxRecDepth 20000 in
theorem im_yX9_term3 : Cond.instanceMethod yX9_term3 ∈ wU_ := mU_ (tk_6 (List.mem_of_getElem? (i := 5) rfl)) rfl
set_option maxRecDepth 20000 in
theorem co_yX9_term3 : Cond.code yX9_term3 cX9_term3 2 (some .int) ∈ wU_ := mU_ (tk_6 (List.mem_of_getElem? (i := 6) rfl)) rfl
set_option maxRecDepth 20000 in
theorem ml_RX9_266 : Cond.methodLink RX9 266 yX9_atom3 ∈ wU_ := mU_ (tk_6 (List.mem_of_getElem? (i := 7) rfl)) rfl
set_option maxRecDepth 20000 in
theorem im_yX9_atom3 : Cond.instanceMethod yX9_atom3 ∈ wU_ := mU_ (tk_6 (List.mem_of_getElem? (i := 9) rfl)) rfl
set_option maxRecDepth 20000 in
theorem co_yX9_atom3 : Cond.code yX9_atom3 cX9_atom3 2 (some .int) ∈ wU_ := mU_ (tk_6 (List.mem_of_getElem? (i := 10) rfl)) rfl
set_option maxRecDepth 20000 in
theorem ml_RX9_263 : Cond.methodLink RX9 263 yX9_either4 ∈ wU_ := mU_ (tk_6 (List.mem_of_getElem? (i := 11) rfl)) rfl
set_option maxRecDepth 20000 in
theorem im_yX9_either4 : Cond.instanceMethod yX9_either4 ∈ wU_ := mU_ (tk_6 (List.mem_of_getElem? (i := 13) rfl)) rfl
set_option maxRecDepth 20000 in
theorem co_yX9_either4 : Cond.code yX9_either4 cX9_either4 3 (some .int) ∈ wU_ := mU_ (tk_6 (List.mem_of_getElem? (i := 14) rfl)) rfl
set_option maxRecDepth 20000 in
theorem ml_RX9_260 : Cond.methodLink RX9 260 yX9_both4 ∈ wU_ := mU_ (tk_6 (List.mem_of_getElem? (i := 15) rfl)) rfl
set_option maxRecDepth 20000 in
theorem im_yX9_both4 : Cond.instanceMethod yX9_both4 ∈ wU_ := mU_ (tk_6 (List.mem_of_getElem? (i := 17) rfl)) rfl
set_option maxRecDepth 20000 in
theorem co_yX9_both4 : Cond.code yX9_both4 cX9_both4 3 (some .int) ∈ wU_ := mU_ (tk_6 (List.mem_of_getElem? (i := 18) rfl)) rfl
set_option maxRecDepth 20000 in
theorem ml_RX9_290 : Cond.methodLink RX9 290 yX9_added2 ∈ wU_ := mU_ (tk_6 (List.mem_of_getElem? (i := 19) rfl)) rfl
set_option maxRecDepth 20000 in
theorem im_yX9_added2 : Cond.instanceMethod yX9_added2 ∈ wU_ := mU_ (tk_6 (List.mem_of_getElem? (i := 21) rfl)) rfl
set_option maxRecDepth 20000 in
theorem co_yX9_added2 : Cond.code yX9_added2 cX9_added2 4 (some .int) ∈ wU_ := mU_ (tk_6 (List.mem_of_getElem? (i := 22) rfl)) rfl
set_option maxRecDepth 20000 in
theorem ml_RX9_287 : Cond.methodLink RX9 287 yX9_term2 ∈ wU_ := mU_ (tk_6 (List.mem_of_getElem? (i := 23) rfl)) rfl
set_option maxRecDepth 20000 in
theorem im_yX9_term2 : Cond.instanceMethod yX9_term2 ∈ wU_ := mU_ (tk_6 (List.mem_of_getElem? (i := 25) rfl)) rfl
set_option maxRecDepth 20000 in
theorem co_yX9_term2 : Cond.code yX9_term2 cX9_term2 2 (some .int) ∈ wU_ := mU_ (tk_6 (List.mem_of_getElem? (i := 26) rfl)) rfl
set_option maxRecDepth 20000 in
theorem ml_RX9_284 : Cond.methodLink RX9 284 yX9_atom2 ∈ wU_ := mU_ (tk_6 (List.mem_of_getElem? (i := 27) rfl)) rfl
set_option maxRecDepth 20000 in
theorem im_yX9_atom2 : Cond.instanceMethod yX9_atom2 ∈ wU_ := mU_ (tk_6 (List.mem_of_getElem? (i := 29) rfl)) rfl
set_option maxRecDepth 20000 in
theorem co_yX9_atom2 : Cond.code yX9_atom2 cX9_atom2 2 (some .int) ∈ wU_ := mU_ (tk_6 (List.mem_of_getElem? (i := 30) rfl)) rfl
set_option maxRecDepth 20000 in
theorem ml_RX9_281 : Cond.methodLink RX9 281 yX9_either3 ∈ wU_ := mU_ (tk_6 (List.mem_of_getElem? (i := 31) rfl)) rfl
set_option maxRecDepth 20000 in
theorem im_yX9_either3 : Cond.instanceMethod yX9_either3 ∈ wU_ := mU_ (tk_6 (List.mem_of_getElem? (i := 33) rfl)) rfl
set_option maxRecDepth 20000 in
theorem co_yX9_either3 : Cond.code yX9_either3 cX9_either3 3 (some .int) ∈ wU_ := mU_ (tk_6 (List.mem_of_getElem? (i := 34) rfl)) rfl
set_option maxRecDepth 20000 in
theorem ml_RX9_278 : Cond.methodLink RX9 278 yX9_both3 ∈ wU_ := mU_ (tk_6 (List.mem_of_getElem? (i := 35) rfl)) rfl
set_option maxRecDepth 20000 in
theorem im_yX9_both3 : Cond.instanceMethod yX9_both3 ∈ wU_ := mU_ (tk_6 (List.mem_of_getElem? (i := 37) rfl)) rfl
set_option maxRecDepth 20000 in
theorem co_yX9_both3 : Cond.code yX9_both3 cX9_both3 3 (some .int) ∈ wU_ := mU_ (tk_6 (List.mem_of_getElem? (i := 38) rfl)) rfl
set_option maxRecDepth 20000 in
theorem ml_RX9_308 : Cond.methodLink RX9 308 yX9_added1 ∈ wU_ := mU_ (tk_6 (List.mem_of_getElem? (i := 39) rfl)) rfl
set_option maxRecDepth 20000 in
theorem im_yX9_added1 : Cond.instanceMethod yX9_added1 ∈ wU_ := mU_ (tk_6 (List.mem_of_getElem? (i := 41) rfl)) rfl
set_option maxRecDepth 20000 in
theorem co_yX9_added1 : Cond.code yX9_added1 cX9_added1 4 (some .int) ∈ wU_ := mU_ (tk_6 (List.mem_of_getElem? (i := 42) rfl)) rfl
set_option maxRecDepth 20000 in
theorem ml_RX9_305 : Cond.methodLink RX9 305 yX9_term1 ∈ wU_ := mU_ (tk_6 (List.mem_of_getElem? (i := 43) rfl)) rfl
set_option maxRecDepth 20000 in
theorem im_yX9_term1 : Cond.instanceMethod yX9_term1 ∈ wU_ := mU_ (tk_6 (List.mem_of_getElem? (i := 45) rfl)) rfl
set_option maxRecDepth 20000 in
theorem co_yX9_term1 : Cond.code yX9_term1 cX9_term1 2 (some .int) ∈ wU_ := mU_ (tk_6 (List.mem_of_getElem? (i := 46) rfl)) rfl
set_option maxRecDepth 20000 in
theorem ml_RX9_302 : Cond.methodLink RX9 302 yX9_atom1 ∈ wU_ := mU_ (tk_6 (List.mem_of_getElem? (i := 47) rfl)) rfl
set_option maxRecDepth 20000 in
theorem im_yX9_atom1 : Cond.instanceMethod yX9_atom1 ∈ wU_ := mU_ (tk_6 (List.mem_of_getElem? (i := 49) rfl)) rfl
set_option maxRecDepth 20000 in
theorem co_yX9_atom1 : Cond.code yX9_atom1 cX9_atom1 2 (some .int) ∈ wU_ := mU_ (tk_6 (List.mem_of_getElem? (i := 50) rfl)) rfl
set_option maxRecDepth 20000 in
theorem ml_RX9_299 : Cond.methodLink RX9 299 yX9_either2 ∈ wU_ := mU_ (tk_6 (List.mem_of_getElem? (i := 51) rfl)) rfl
set_option maxRecDepth 20000 in
theorem im_yX9_either2 : Cond.instanceMethod yX9_either2 ∈ wU_ := mU_ (tk_6 (List.mem_of_getElem? (i := 53) rfl)) rfl
set_option maxRecDepth 20000 in
theorem co_yX9_either2 : Cond.code yX9_either2 cX9_either2 3 (some .int) ∈ wU_ := mU_ (tk_6 (List.mem_of_getElem? (i := 54) rfl)) rfl
set_option maxRecDepth 20000 in
theorem ml_RX9_296 : Cond.methodLink RX9 296 yX9_both2 ∈ wU_ := mU_ (tk_6 (List.mem_of_getElem? (i := 55) rfl)) rfl
set_option maxRecDepth 20000 in
theorem im_yX9_both2 : Cond.instanceMethod yX9_both2 ∈ wU_ := mU_ (tk_6 (List.mem_of_getElem? (i := 57) rfl)) rfl
set_option maxRecDepth 20000 in
theorem co_yX9_both2 : Cond.code yX9_both2 cX9_both2 3 (some .int) ∈ wU_ := mU_ (tk_6 (List.mem_of_getElem? (i := 58) rfl)) rfl
set_option maxRecDepth 20000 in
theorem ml_RX9_326 : Cond.methodLink RX9 326 yX9_added0 ∈ wU_ := mU_ (tk_6 (List.mem_of_getElem? (i := 59) rfl)) rfl
set_option maxRecDepth 20000 in
theorem im_yX9_added0 : Cond.instanceMethod yX9_added0 ∈ wU_ := mU_ (tk_6 (List.mem_of_getElem? (i := 61) rfl)) rfl
set_option maxRecDepth 20000 in
theorem co_yX9_added0 : Cond.code yX9_added0 cX9_added0 4 (some .int) ∈ wU_ := mU_ (tk_6 (List.mem_of_getElem? (i := 62) rfl)) rfl
set_option maxRecDepth 20000 in
theorem ml_RX9_323 : Cond.methodLink RX9 323 yX9_term0 ∈ wU_ := mU_ (tk_6 (List.mem_of_getElem? (i := 63) rfl)) rfl
set_option maxRecDepth 20000 in
theorem im_yX9_term0 : Cond.instanceMethod yX9_term0 ∈ wU_ := mU_ (tk_6 (List.mem_of_getElem? (i := 65) rfl)) rfl
set_option maxRecDepth 20000 in
theorem co_yX9_term0 : Cond.code yX9_term0 cX9_term0 2 (some .int) ∈ wU_ := mU_ (tk_6 (List.mem_of_getElem? (i := 66) rfl)) rfl
set_option maxRecDepth 20000 in
theorem ml_RX9_320 : Cond.methodLink RX9 320 yX9_atom0 ∈ wU_ := mU_ (tk_6 (List.mem_of_getElem? (i := 67) rfl)) rfl
set_option maxRecDepth 20000 in
theorem im_yX9_atom0 : Cond.instanceMethod yX9_atom0 ∈ wU_ := mU_ (tk_6 (List.mem_of_getElem? (i := 69) rfl)) rfl
set_option maxRecDepth 20000 in
theorem co_yX9_atom0 : Cond.code yX9_atom0 cX9_atom0 2 (some .int) ∈ wU_ := mU_ (tk_6 (List.mem_of_getElem? (i := 70) rfl)) rfl
set_option maxRecDepth 20000 in
theorem ml_RX9_317 : Cond.methodLink RX9 317 yX9_either1 ∈ wU_ := mU_ (tk_6 (List.mem_of_getElem? (i := 71) rfl)) rfl
set_option maxRecDepth 20000 in
theorem im_yX9_either1 : Cond.instanceMethod yX9_either1 ∈ wU_ := mU_ (tk_6 (List.mem_of_getElem? (i := 73) rfl)) rfl
set_option maxRecDepth 20000 in
theorem co_yX9_either1 : Cond.code yX9_either1 cX9_either1 3 (some .int) ∈ wU_ := mU_ (tk_6 (List.mem_of_getElem? (i := 74) rfl)) rfl
set_option maxRecDepth 20000 in
theorem ml_RX9_314 : Cond.methodLink RX9 314 yX9_both1 ∈ wU_ := mU_ (tk_6 (List.mem_of_getElem? (i := 75) rfl)) rfl
set_option maxRecDepth 20000 in
theorem im_yX9_both1 : Cond.instanceMethod yX9_both1 ∈ wU_ := mU_ (tk_6 (List.mem_of_getElem? (i := 77) rfl)) rfl
set_option maxRecDepth 20000 in
theorem co_yX9_both1 : Cond.code yX9_both1 cX9_both1 3 (some .int) ∈ wU_ := mU_ (tk_6 (List.mem_of_getElem? (i := 78) rfl)) rfl
set_option maxRecDepth 20000 in
theorem ml_RX9_345 : Cond.methodLink RX9 345 yX9_within ∈ wU_ := mU_ (tk_6 (List.mem_of_getElem? (i := 79) rfl)) rfl
set_option maxRecDepth 20000 in
theorem st_yX9_within : Cond.static yX9_within ∈ wU_ := mU_ (tk_6 (List.mem_of_getElem? (i := 80) rfl)) rfl
set_option maxRecDepth 20000 in
theorem co_yX9_within : Cond.code yX9_within cX9_within 3 (some .int) ∈ wU_ := mU_ (tk_6 (List.mem_of_getElem? (i := 81) rfl)) rfl
set_option maxRecDepth 20000 in
theorem ml_RX9_355 : Cond.methodLink RX9 355 yX9_southOf ∈ wU_ := mU_ (tk_6 (List.mem_of_getElem? (i := 82) rfl)) rfl
set_option maxRecDepth 20000 in
theorem im_yX9_southOf : Cond.instanceMethod yX9_southOf ∈ wU_ := mU_ (tk_6 (List.mem_of_getElem? (i := 84) rfl)) rfl
set_option maxRecDepth 20000 in
theorem co_yX9_southOf : Cond.code yX9_southOf cX9_southOf 6 (some .int) ∈ wU_ := mU_ (tk_6 (List.mem_of_getElem? (i := 85) rfl)) rfl
set_option maxRecDepth 20000 in
theorem cl_RX9_122 : Cond.constantLong RX9 122 (5) ∈ wU_ := mU_ (tk_6 (List.mem_of_getElem? (i := 86) rfl)) rfl
set_option maxRecDepth 20000 in
theorem ml_RX9_136 : Cond.methodLink RX9 136 yX9_highOf ∈ wU_ := mU_ (tk_6 (List.mem_of_getElem? (i := 87) rfl)) rfl
set_option maxRecDepth 20000 in
theorem im_yX9_highOf : Cond.instanceMethod yX9_highOf ∈ wU_ := mU_ (tk_6 (List.mem_of_getElem? (i := 89) rfl)) rfl
set_option maxRecDepth 20000 in
theorem co_yX9_highOf : Cond.code yX9_highOf cX9_highOf 6 (some .int) ∈ wU_ := mU_ (tk_6 (List.mem_of_getElem? (i := 90) rfl)) rfl
set_option maxRecDepth 20000 in
theorem ml_RX9_358 : Cond.methodLink RX9 358 yX9_steps ∈ wU_ := mU_ (tk_6 (List.mem_of_getElem? (i := 91) rfl)) rfl
set_option maxRecDepth 20000 in
theorem st_yX9_steps : Cond.static yX9_steps ∈ wU_ := mU_ (tk_6 (List.mem_of_getElem? (i := 92) rfl)) rfl
set_option maxRecDepth 20000 in
theorem co_yX9_steps : Cond.code yX9_steps cX9_steps 4 (some .int) ∈ wU_ := mU_ (tk_6 (List.mem_of_getElem? (i := 93) rfl)) rfl
set_option maxRecDepth 20000 in
theorem ml_RX9_112 : Cond.methodLink RX9 112 yX9_lays ∈ wU_ := mU_ (tk_6 (List.mem_of_getElem? (i := 94) rfl)) rfl
set_option maxRecDepth 20000 in
theorem im_yX9_lays : Cond.instanceMethod yX9_lays ∈ wU_ := mU_ (tk_6 (List.mem_of_getElem? (i := 96) rfl)) rfl
set_option maxRecDepth 20000 in
theorem co_yX9_lays : Cond.code yX9_lays cX9_lays 4 none ∈ wU_ := mU_ (tk_6 (List.mem_of_getElem? (i := 97) rfl)) rfl
set_option maxRecDepth 20000 in
theorem ml_RL_21 : Cond.methodLink RL 21 yX9_carpet ∈ wU_ := mU_ (tk_6 (List.mem_of_getElem? (i := 98) rfl)) rfl
set_option maxRecDepth 20000 in
theorem im_yX9_carpet : Cond.instanceMethod yX9_carpet ∈ wU_ := mU_ (tk_6 (List.mem_of_getElem? (i := 99) rfl)) rfl
set_option maxRecDepth 20000 in
theorem se_yX9_carpet : Cond.selects RX9 yX9_carpet yX9_carpet ∈ wU_ := mU_ (tk_6 (List.mem_of_getElem? (i := 100) rfl)) rfl
set_option maxRecDepth 20000 in
theorem co_yX9_carpet : Cond.code yX9_carpet cX9_carpet 4 (some .int) ∈ wU_ := mU_ (tk_6 (List.mem_of_getElem? (i := 101) rfl)) rfl
set_option maxRecDepth 20000 in
theorem cl_RX9_124 : Cond.constantLong RX9 124 (9) ∈ wU_ := mU_ (tk_6 (List.mem_of_getElem? (i := 102) rfl)) rfl
set_option maxRecDepth 20000 in
theorem ml_RL_26 : Cond.methodLink RL 26 yX9_told ∈ wU_ := mU_ (tk_6 (List.mem_of_getElem? (i := 103) rfl)) rfl
set_option maxRecDepth 20000 in
theorem ml_RL_36 : Cond.methodLink RL 36 yX9_feed ∈ wU_ := mU_ (tk_6 (List.mem_of_getElem? (i := 104) rfl)) rfl
set_option maxRecDepth 20000 in
theorem im_yX9_feed : Cond.instanceMethod yX9_feed ∈ wU_ := mU_ (tk_6 (List.mem_of_getElem? (i := 105) rfl)) rfl
set_option maxRecDepth 20000 in
theorem se_yX9_feed : Cond.selects RX9 yX9_feed yX9_feed ∈ wU_ := mU_ (tk_6 (List.mem_of_getElem? (i := 106) rfl)) rfl
set_option maxRecDepth 20000 in
theorem co_yX9_feed : Cond.code yX9_feed cX9_feed 2 (some .int) ∈ wU_ := mU_ (tk_6 (List.mem_of_getElem? (i := 107) rfl)) rfl
set_option maxRecDepth 20000 in
theorem cl_RX9_139 : Cond.constantLong RX9 139 (255) ∈ wU_ := mU_ (tk_6 (List.mem_of_getElem? (i := 108) rfl)) rfl
set_option maxRecDepth 20000 in
theorem ml_RL_41 : Cond.methodLink RL 41 yX9_text ∈ wU_ := mU_ (tk_6 (List.mem_of_getElem? (i := 109) rfl)) rfl
set_option maxRecDepth 20000 in
theorem im_yX9_text : Cond.instanceMethod yX9_text ∈ wU_ := mU_ (tk_6 (List.mem_of_getElem? (i := 110) rfl)) rfl
set_option maxRecDepth 20000 in
theorem se_yX9_text : Cond.selects RX9 yX9_text yX9_text ∈ wU_ := mU_ (tk_6 (List.mem_of_getElem? (i := 111) rfl)) rfl
set_option maxRecDepth 20000 in
theorem co_yX9_text : Cond.code yX9_text cX9_text 2 (some .int) ∈ wU_ := mU_ (tk_6 (List.mem_of_getElem? (i := 112) rfl)) rfl
set_option maxRecDepth 20000 in
theorem ml_RL_45 : Cond.methodLink RL 45 yX9_force ∈ wU_ := mU_ (tk_6 (List.mem_of_getElem? (i := 113) rfl)) rfl
set_option maxRecDepth 20000 in
theorem im_yX9_force : Cond.instanceMethod yX9_force ∈ wU_ := mU_ (tk_6 (List.mem_of_getElem? (i := 114) rfl)) rfl
set_option maxRecDepth 20000 in
theorem se_yX9_force : Cond.selects RX9 yX9_force yX9_force ∈ wU_ := mU_ (tk_6 (List.mem_of_getElem? (i := 115) rfl)) rfl
set_option maxRecDepth 20000 in
theorem co_yX9_force : Cond.code yX9_force cX9_force 3 (some .int) ∈ wU_ := mU_ (tk_6 (List.mem_of_getElem? (i := 116) rfl)) rfl
set_option maxRecDepth 20000 in
theorem ml_RL_31 : Cond.methodLink RL 31 yX9_asks ∈ wU_ := mU_ (tk_6 (List.mem_of_getElem? (i := 117) rfl)) rfl
set_option maxRecDepth 20000 in
theorem im_yX9_asks : Cond.instanceMethod yX9_asks ∈ wU_ := mU_ (tk_6 (List.mem_of_getElem? (i := 118) rfl)) rfl
set_option maxRecDepth 20000 in
theorem se_yX9_asks : Cond.selects RX9 yX9_asks yX9_asks ∈ wU_ := mU_ (tk_6 (List.mem_of_getElem? (i := 119) rfl)) rfl
set_option maxRecDepth 20000 in
theorem co_yX9_asks : Cond.code yX9_asks cX9_asks 5 (some .int) ∈ wU_ := mU_ (tk_6 (List.mem_of_getElem? (i := 120) rfl)) rfl
set_option maxRecDepth 20000 in
theorem ml_RX9_361 : Cond.methodLink RX9 361 yX9_isWord ∈ wU_ := mU_ (tk_6 (List.mem_of_getElem? (i := 121) rfl)) rfl
set_option maxRecDepth 20000 in
theorem st_yX9_isWord : Cond.static yX9_isWord ∈ wU_ := mU_ (tk_6 (List.mem_of_getElem? (i := 122) rfl)) rfl
set_option maxRecDepth 20000 in
theorem co_yX9_isWord : Cond.code yX9_isWord cX9_isWord 1 (some .boolean) ∈ wU_ := mU_ (tk_6 (List.mem_of_getElem? (i := 123) rfl)) rfl
set_option maxRecDepth 20000 in
theorem cl_RX9_89 : Cond.constantLong RX9 89 (7) ∈ wU_ := mU_ (tk_6 (List.mem_of_getElem? (i := 124) rfl)) rfl
set_option maxRecDepth 20000 in
theorem ml_RL_49 : Cond.methodLink RL 49 yX9_say ∈ wU_ := mU_ (tk_6 (List.mem_of_getElem? (i := 125) rfl)) rfl
set_option maxRecDepth 20000 in
theorem im_yX9_say : Cond.instanceMethod yX9_say ∈ wU_ := mU_ (tk_6 (List.mem_of_getElem? (i := 126) rfl)) rfl
set_option maxRecDepth 20000 in
theorem se_yX9_say : Cond.selects RX9 yX9_say yX9_say ∈ wU_ := mU_ (tk_6 (List.mem_of_getElem? (i := 127) rfl)) rfl
set_option maxRecDepth 20000 in
theorem co_yX9_say : Cond.code yX9_say cX9_say 5 (some .int) ∈ wU_ := mU_ (tk_6 (List.mem_of_getElem? (i := 128) rfl)) rfl
set_option maxRecDepth 20000 in
theorem ml_RX9_363 : Cond.methodLink RX9 363 yX9_flies1 ∈ wU_ := mU_ (tk_6 (List.mem_of_getElem? (i := 129) rfl)) rfl
set_option maxRecDepth 20000 in
theorem im_yX9_flies1 : Cond.instanceMethod yX9_flies1 ∈ wU_ := mU_ (tk_6 (List.mem_of_getElem? (i := 131) rfl)) rfl
set_option maxRecDepth 20000 in
theorem co_yX9_flies1 : Cond.code yX9_flies1 cX9_flies1 4 (some .int) ∈ wU_ := mU_ (tk_6 (List.mem_of_getElem? (i := 132) rfl)) rfl
set_option maxRecDepth 20000 in
theorem ml_RL_53 : Cond.methodLink RL 53 yX9_flies ∈ wU_ := mU_ (tk_6 (List.mem_of_getElem? (i := 133) rfl)) rfl
set_option maxRecDepth 20000 in
theorem im_yX9_flies : Cond.instanceMethod yX9_flies ∈ wU_ := mU_ (tk_6 (List.mem_of_getElem? (i := 134) rfl)) rfl
set_option maxRecDepth 20000 in
theorem se_yX9_flies : Cond.selects RX9 yX9_flies yX9_flies ∈ wU_ := mU_ (tk_6 (List.mem_of_getElem? (i := 135) rfl)) rfl
set_option maxRecDepth 20000 in
theorem co_yX9_flies : Cond.code yX9_flies cX9_flies 8 (some .int) ∈ wU_ := mU_ (tk_6 (List.mem_of_getElem? (i := 136) rfl)) rfl
set_option maxRecDepth 20000 in
theorem ml_RX9_366 : Cond.methodLink RX9 366 yX9_isSheet ∈ wU_ := mU_ (tk_6 (List.mem_of_getElem? (i := 137) rfl)) rfl
set_option maxRecDepth 20000 in
theorem st_yX9_isSheet : Cond.static yX9_isSheet ∈ wU_ := mU_ (tk_6 (List.mem_of_getElem? (i := 138) rfl)) rfl
set_option maxRecDepth 20000 in
theorem co_yX9_isSheet : Cond.code yX9_isSheet cX9_isSheet 1 (some .boolean) ∈ wU_ := mU_ (tk_6 (List.mem_of_getElem? (i := 139) rfl)) rfl
set_option maxRecDepth 20000 in
theorem cl_RX9_426 : Cond.constantLong RX9 426 (3) ∈ wU_ := mU_ (tk_6 (List.mem_of_getElem? (i := 140) rfl)) rfl
set_option maxRecDepth 20000 in
theorem ml_RL_57 : Cond.methodLink RL 57 yX9_shortest ∈ wU_ := mU_ (tk_6 (List.mem_of_getElem? (i := 141) rfl)) rfl
set_option maxRecDepth 20000 in
theorem im_yX9_shortest : Cond.instanceMethod yX9_shortest ∈ wU_ := mU_ (tk_6 (List.mem_of_getElem? (i := 142) rfl)) rfl
set_option maxRecDepth 20000 in
theorem se_yX9_shortest : Cond.selects RX9 yX9_shortest yX9_shortest ∈ wU_ := mU_ (tk_6 (List.mem_of_getElem? (i := 143) rfl)) rfl
set_option maxRecDepth 20000 in
theorem co_yX9_shortest : Cond.code yX9_shortest cX9_shortest 8 (some .int) ∈ wU_ := mU_ (tk_6 (List.mem_of_getElem? (i := 144) rfl)) rfl
set_option maxRecDepth 20000 in
theorem ml_RX9_370 : Cond.methodLink RX9 370 yX9_tables ∈ wU_ := mU_ (tk_6 (List.mem_of_getElem? (i := 145) rfl)) rfl
set_option maxRecDepth 20000 in
theorem im_yX9_tables : Cond.instanceMethod yX9_tables ∈ wU_ := mU_ (tk_6 (List.mem_of_getElem? (i := 147) rfl)) rfl
set_option maxRecDepth 20000 in
theorem co_yX9_tables : Cond.code yX9_tables cX9_tables 5 none ∈ wU_ := mU_ (tk_6 (List.mem_of_getElem? (i := 148) rfl)) rfl
set_option maxRecDepth 20000 in
theorem ml_RX9_374 : Cond.methodLink RX9 374 yX9_gathers ∈ wU_ := mU_ (tk_6 (List.mem_of_getElem? (i := 149) rfl)) rfl
set_option maxRecDepth 20000 in
theorem im_yX9_gathers : Cond.instanceMethod yX9_gathers ∈ wU_ := mU_ (tk_6 (List.mem_of_getElem? (i := 151) rfl)) rfl
set_option maxRecDepth 20000 in
theorem co_yX9_gathers : Cond.code yX9_gathers cX9_gathers 5 none ∈ wU_ := mU_ (tk_6 (List.mem_of_getElem? (i := 152) rfl)) rfl
set_option maxRecDepth 20000 in
theorem ck_RX9_369 : Cond.constant RX9 369 (1000000) ∈ wU_ := mU_ (tk_6 (List.mem_of_getElem? (i := 153) rfl)) rfl
set_option maxRecDepth 20000 in
theorem ml_RL_62 : Cond.methodLink RL 62 yX9_there ∈ wU_ := mU_ (tk_6 (List.mem_of_getElem? (i := 154) rfl)) rfl
set_option maxRecDepth 20000 in
theorem im_yX9_there : Cond.instanceMethod yX9_there ∈ wU_ := mU_ (tk_6 (List.mem_of_getElem? (i := 155) rfl)) rfl
set_option maxRecDepth 20000 in
theorem se_yX9_there : Cond.selects RX9 yX9_there yX9_there ∈ wU_ := mU_ (tk_6 (List.mem_of_getElem? (i := 156) rfl)) rfl
set_option maxRecDepth 20000 in
theorem co_yX9_there : Cond.code yX9_there cX9_there 6 (some .long) ∈ wU_ := mU_ (tk_6 (List.mem_of_getElem? (i := 157) rfl)) rfl
set_option maxRecDepth 20000 in
theorem cl_RX9_378 : Cond.constantLong RX9 378 (-4611686018427387904) ∈ wU_ := mU_ (tk_6 (List.mem_of_getElem? (i := 158) rfl)) rfl
set_option maxRecDepth 20000 in
theorem ml_RX9_380 : Cond.methodLink RX9 380 yX9_spreads ∈ wU_ := mU_ (tk_6 (List.mem_of_getElem? (i := 159) rfl)) rfl
set_option maxRecDepth 20000 in
theorem im_yX9_spreads : Cond.instanceMethod yX9_spreads ∈ wU_ := mU_ (tk_6 (List.mem_of_getElem? (i := 161) rfl)) rfl
set_option maxRecDepth 20000 in
theorem co_yX9_spreads : Cond.code yX9_spreads cX9_spreads 5 none ∈ wU_ := mU_ (tk_6 (List.mem_of_getElem? (i := 162) rfl)) rfl
set_option maxRecDepth 20000 in
theorem ml_RX9_383 : Cond.methodLink RX9 383 yX9_isSink ∈ wU_ := mU_ (tk_6 (List.mem_of_getElem? (i := 163) rfl)) rfl
set_option maxRecDepth 20000 in
theorem im_yX9_isSink : Cond.instanceMethod yX9_isSink ∈ wU_ := mU_ (tk_6 (List.mem_of_getElem? (i := 165) rfl)) rfl
set_option maxRecDepth 20000 in
theorem co_yX9_isSink : Cond.code yX9_isSink cX9_isSink 3 (some .boolean) ∈ wU_ := mU_ (tk_6 (List.mem_of_getElem? (i := 166) rfl)) rfl
set_option maxRecDepth 20000 in
theorem ml_RL_66 : Cond.methodLink RL 66 yX9_furthest ∈ wU_ := mU_ (tk_6 (List.mem_of_getElem? (i := 167) rfl)) rfl
set_option maxRecDepth 20000 in
theorem im_yX9_furthest : Cond.instanceMethod yX9_furthest ∈ wU_ := mU_ (tk_6 (List.mem_of_getElem? (i := 168) rfl)) rfl
set_option maxRecDepth 20000 in
theorem se_yX9_furthest : Cond.selects RX9 yX9_furthest yX9_furthest ∈ wU_ := mU_ (tk_6 (List.mem_of_getElem? (i := 169) rfl)) rfl
set_option maxRecDepth 20000 in
theorem co_yX9_furthest : Cond.code yX9_furthest cX9_furthest 7 (some .int) ∈ wU_ := mU_ (tk_6 (List.mem_of_getElem? (i := 170) rfl)) rfl
set_option maxRecDepth 20000 in
theorem cl_RX9_386 : Cond.constantLong RX9 386 (2) ∈ wU_ := mU_ (tk_6 (List.mem_of_getElem? (i := 171) rfl)) rfl
set_option maxRecDepth 20000 in
theorem ml_RL_70 : Cond.methodLink RL 70 yX9_meet ∈ wU_ := mU_ (tk_6 (List.mem_of_getElem? (i := 172) rfl)) rfl
set_option maxRecDepth 20000 in
theorem im_yX9_meet : Cond.instanceMethod yX9_meet ∈ wU_ := mU_ (tk_6 (List.mem_of_getElem? (i := 173) rfl)) rfl
set_option maxRecDepth 20000 in
theorem se_yX9_meet : Cond.selects RX9 yX9_meet yX9_meet ∈ wU_ := mU_ (tk_6 (List.mem_of_getElem? (i := 174) rfl)) rfl
set_option maxRecDepth 20000 in
theorem co_yX9_meet : Cond.code yX9_meet cX9_meet 6 (some .int) ∈ wU_ := mU_ (tk_6 (List.mem_of_getElem? (i := 175) rfl)) rfl
set_option maxRecDepth 20000 in
theorem ml_RX9_391 : Cond.methodLink RX9 391 yX9_gathersBoth ∈ wU_ := mU_ (tk_6 (List.mem_of_getElem? (i := 176) rfl)) rfl
set_option maxRecDepth 20000 in
theorem im_yX9_gathersBoth : Cond.instanceMethod yX9_gathersBoth ∈ wU_ := mU_ (tk_6 (List.mem_of_getElem? (i := 178) rfl)) rfl
set_option maxRecDepth 20000 in
theorem co_yX9_gathersBoth : Cond.code yX9_gathersBoth cX9_gathersBoth 5 none ∈ wU_ := mU_ (tk_6 (List.mem_of_getElem? (i := 179) rfl)) rfl
set_option maxRecDepth 20000 in
theorem ml_RX9_388 : Cond.methodLink RX9 388 yX9_bothLead ∈ wU_ := mU_ (tk_6 (List.mem_of_getElem? (i := 180) rfl)) rfl
set_option maxRecDepth 20000 in
theorem im_yX9_bothLead : Cond.instanceMethod yX9_bothLead ∈ wU_ := mU_ (tk_6 (List.mem_of_getElem? (i := 182) rfl)) rfl
set_option maxRecDepth 20000 in
theorem co_yX9_bothLead : Cond.code yX9_bothLead cX9_bothLead 3 (some .int) ∈ wU_ := mU_ (tk_6 (List.mem_of_getElem? (i := 183) rfl)) rfl
set_option maxRecDepth 20000 in
theorem ml_RL_75 : Cond.methodLink RL 75 yX9_rows ∈ wU_ := mU_ (tk_6 (List.mem_of_getElem? (i := 184) rfl)) rfl
set_option maxRecDepth 20000 in
theorem im_yX9_rows : Cond.instanceMethod yX9_rows ∈ wU_ := mU_ (tk_6 (List.mem_of_getElem? (i := 185) rfl)) rfl
set_option maxRecDepth 20000 in
theorem se_yX9_rows : Cond.selects RX9 yX9_rows yX9_rows ∈ wU_ := mU_ (tk_6 (List.mem_of_getElem? (i := 186) rfl)) rfl
set_option maxRecDepth 20000 in
theorem co_yX9_rows : Cond.code yX9_rows cX9_rows 6 (some .long) ∈ wU_ := mU_ (tk_6 (List.mem_of_getElem? (i := 187) rfl)) rfl
set_option maxRecDepth 20000 in
theorem cl_RX9_394 : Cond.constantLong RX9 394 (20) ∈ wU_ := mU_ (tk_6 (List.mem_of_getElem? (i := 188) rfl)) rfl
set_option maxRecDepth 20000 in
theorem ml_RL_79 : Cond.methodLink RL 79 yX9_highest ∈ wU_ := mU_ (tk_6 (List.mem_of_getElem? (i := 189) rfl)) rfl
set_option maxRecDepth 20000 in
theorem im_yX9_highest : Cond.instanceMethod yX9_highest ∈ wU_ := mU_ (tk_6 (List.mem_of_getElem? (i := 190) rfl)) rfl
set_option maxRecDepth 20000 in
theorem se_yX9_highest : Cond.selects RX9 yX9_highest yX9_highest ∈ wU_ := mU_ (tk_6 (List.mem_of_getElem? (i := 191) rfl)) rfl
set_option maxRecDepth 20000 in
theorem co_yX9_highest : Cond.code yX9_highest cX9_highest 6 (some .int) ∈ wU_ := mU_ (tk_6 (List.mem_of_getElem? (i := 192) rfl)) rfl
set_option maxRecDepth 20000 in
theorem ml_RL_83 : Cond.methodLink RL 83 yX9_tells ∈ wU_ := mU_ (tk_6 (List.mem_of_getElem? (i := 193) rfl)) rfl
set_option maxRecDepth 20000 in
theorem im_yX9_tells : Cond.instanceMethod yX9_tells ∈ wU_ := mU_ (tk_6 (List.mem_of_getElem? (i := 194) rfl)) rfl
set_option maxRecDepth 20000 in
theorem se_yX9_tells : Cond.selects RX9 yX9_tells yX9_tells ∈ wU_ := mU_ (tk_6 (List.mem_of_getElem? (i := 195) rfl)) rfl
set_option maxRecDepth 20000 in
theorem co_yX9_tells : Cond.code yX9_tells cX9_tells 10 (some .int) ∈ wU_ := mU_ (tk_6 (List.mem_of_getElem? (i := 196) rfl)) rfl
set_option maxRecDepth 20000 in
theorem ml_RX9_406 : Cond.methodLink RX9 406 yX9_toldBad ∈ wU_ := mU_ (tk_6 (List.mem_of_getElem? (i := 197) rfl)) rfl
set_option maxRecDepth 20000 in
theorem im_yX9_toldBad : Cond.instanceMethod yX9_toldBad ∈ wU_ := mU_ (tk_6 (List.mem_of_getElem? (i := 199) rfl)) rfl
set_option maxRecDepth 20000 in
theorem co_yX9_toldBad : Cond.code yX9_toldBad cX9_toldBad 5 (some .int) ∈ wU_ := mU_ (tk_6 (List.mem_of_getElem? (i := 200) rfl)) rfl
set_option maxRecDepth 20000 in
theorem ml_RX9_403 : Cond.methodLink RX9 403 yX9_firstOther ∈ wU_ := mU_ (tk_6 (List.mem_of_getElem? (i := 201) rfl)) rfl
set_option maxRecDepth 20000 in
theorem im_yX9_firstOther : Cond.instanceMethod yX9_firstOther ∈ wU_ := mU_ (tk_6 (List.mem_of_getElem? (i := 203) rfl)) rfl
set_option maxRecDepth 20000 in
theorem co_yX9_firstOther : Cond.code yX9_firstOther cX9_firstOther 4 (some .int) ∈ wU_ := mU_ (tk_6 (List.mem_of_getElem? (i := 204) rfl)) rfl
set_option maxRecDepth 20000 in
theorem ml_RX9_399 : Cond.methodLink RX9 399 yX9_wordsAt ∈ wU_ := mU_ (tk_6 (List.mem_of_getElem? (i := 205) rfl)) rfl
set_option maxRecDepth 20000 in
theorem im_yX9_wordsAt : Cond.instanceMethod yX9_wordsAt ∈ wU_ := mU_ (tk_6 (List.mem_of_getElem? (i := 207) rfl)) rfl
set_option maxRecDepth 20000 in
theorem co_yX9_wordsAt : Cond.code yX9_wordsAt cX9_wordsAt 9 (some .int) ∈ wU_ := mU_ (tk_6 (List.mem_of_getElem? (i := 208) rfl)) rfl
set_option maxRecDepth 20000 in
theorem ml_RX9_396 : Cond.methodLink RX9 396 yX9_ahead ∈ wU_ := mU_ (tk_6 (List.mem_of_getElem? (i := 209) rfl)) rfl
set_option maxRecDepth 20000 in
theorem im_yX9_ahead : Cond.instanceMethod yX9_ahead ∈ wU_ := mU_ (tk_6 (List.mem_of_getElem? (i := 211) rfl)) rfl
set_option maxRecDepth 20000 in
theorem co_yX9_ahead : Cond.code yX9_ahead cX9_ahead 4 (some .int) ∈ wU_ := mU_ (tk_6 (List.mem_of_getElem? (i := 212) rfl)) rfl
set_option maxRecDepth 20000 in
theorem ml_RX9_410 : Cond.methodLink RX9 410 yX9_firstRow ∈ wU_ := mU_ (tk_6 (List.mem_of_getElem? (i := 213) rfl)) rfl
set_option maxRecDepth 20000 in
theorem im_yX9_firstRow : Cond.instanceMethod yX9_firstRow ∈ wU_ := mU_ (tk_6 (List.mem_of_getElem? (i := 215) rfl)) rfl
set_option maxRecDepth 20000 in
theorem co_yX9_firstRow : Cond.code yX9_firstRow cX9_firstRow 5 (some .int) ∈ wU_ := mU_ (tk_6 (List.mem_of_getElem? (i := 216) rfl)) rfl
set_option maxRecDepth 20000 in
theorem ml_RL_87 : Cond.methodLink RL 87 yX9_ways ∈ wU_ := mU_ (tk_6 (List.mem_of_getElem? (i := 217) rfl)) rfl
set_option maxRecDepth 20000 in
theorem im_yX9_ways : Cond.instanceMethod yX9_ways ∈ wU_ := mU_ (tk_6 (List.mem_of_getElem? (i := 218) rfl)) rfl
set_option maxRecDepth 20000 in
theorem se_yX9_ways : Cond.selects RX9 yX9_ways yX9_ways ∈ wU_ := mU_ (tk_6 (List.mem_of_getElem? (i := 219) rfl)) rfl
set_option maxRecDepth 20000 in
theorem co_yX9_ways : Cond.code yX9_ways cX9_ways 8 (some .long) ∈ wU_ := mU_ (tk_6 (List.mem_of_getElem? (i := 220) rfl)) rfl
set_option maxRecDepth 20000 in
theorem ml_RL_91 : Cond.methodLink RL 91 yX9_drawn ∈ wU_ := mU_ (tk_6 (List.mem_of_getElem? (i := 221) rfl)) rfl
set_option maxRecDepth 20000 in
theorem im_yX9_drawn : Cond.instanceMethod yX9_drawn ∈ wU_ := mU_ (tk_6 (List.mem_of_getElem? (i := 222) rfl)) rfl
set_option maxRecDepth 20000 in
theorem se_yX9_drawn : Cond.selects RX9 yX9_drawn yX9_drawn ∈ wU_ := mU_ (tk_6 (List.mem_of_getElem? (i := 223) rfl)) rfl
set_option maxRecDepth 20000 in
theorem co_yX9_drawn : Cond.code yX9_drawn cX9_drawn 7 (some .int) ∈ wU_ := mU_ (tk_6 (List.mem_of_getElem? (i := 224) rfl)) rfl
set_option maxRecDepth 20000 in
theorem cl_RX9_413 : Cond.constantLong RX9 413 (99) ∈ wU_ := mU_ (tk_6 (List.mem_of_getElem? (i := 225) rfl)) rfl
set_option maxRecDepth 20000 in
theorem ck_RX9_415 : Cond.constant RX9 415 (1103515245) ∈ wU_ := mU_ (tk_6 (List.mem_of_getElem? (i := 226) rfl)) rfl
set_option maxRecDepth 20000 in
theorem ml_RL_96 : Cond.methodLink RL 96 yX9_chance ∈ wU_ := mU_ (tk_6 (List.mem_of_getElem? (i := 227) rfl)) rfl
set_option maxRecDepth 20000 in
theorem im_yX9_chance : Cond.instanceMethod yX9_chance ∈ wU_ := mU_ (tk_6 (List.mem_of_getElem? (i := 228) rfl)) rfl
set_option maxRecDepth 20000 in
theorem se_yX9_chance : Cond.selects RX9 yX9_chance yX9_chance ∈ wU_ := mU_ (tk_6 (List.mem_of_getElem? (i := 229) rfl)) rfl
set_option maxRecDepth 20000 in
theorem co_yX9_chance : Cond.code yX9_chance cX9_chance 14 (some .long) ∈ wU_ := mU_ (tk_6 (List.mem_of_getElem? (i := 230) rfl)) rfl
set_option maxRecDepth 20000 in
theorem ml_RX9_416 : Cond.methodLink RX9 416 yX9_comesBy ∈ wU_ := mU_ (tk_6 (List.mem_of_getElem? (i := 231) rfl)) rfl
set_option maxRecDepth 20000 in
theorem im_yX9_comesBy : Cond.instanceMethod yX9_comesBy ∈ wU_ := mU_ (tk_6 (List.mem_of_getElem? (i := 233) rfl)) rfl
set_option maxRecDepth 20000 in
theorem co_yX9_comesBy : Cond.code yX9_comesBy cX9_comesBy 7 (some .boolean) ∈ wU_ := mU_ (tk_6 (List.mem_of_getElem? (i := 234) rfl)) rfl
set_option maxRecDepth 20000 in
theorem ml_RL_100 : Cond.methodLink RL 100 yX9_image ∈ wU_ := mU_ (tk_6 (List.mem_of_getElem? (i := 235) rfl)) rfl
set_option maxRecDepth 20000 in
theorem im_yX9_image : Cond.instanceMethod yX9_image ∈ wU_ := mU_ (tk_6 (List.mem_of_getElem? (i := 236) rfl)) rfl
set_option maxRecDepth 20000 in
theorem se_yX9_image : Cond.selects RX9 yX9_image yX9_image ∈ wU_ := mU_ (tk_6 (List.mem_of_getElem? (i := 237) rfl)) rfl
set_option maxRecDepth 20000 in
theorem co_yX9_image : Cond.code yX9_image cX9_image 2 (some .int) ∈ wU_ := mU_ (tk_6 (List.mem_of_getElem? (i := 238) rfl)) rfl
set_option maxRecDepth 20000 in
theorem ml_RL_104 : Cond.methodLink RL 104 yX9_back ∈ wU_ := mU_ (tk_6 (List.mem_of_getElem? (i := 239) rfl)) rfl
set_option maxRecDepth 20000 in
theorem im_yX9_back : Cond.instanceMethod yX9_back ∈ wU_ := mU_ (tk_7 (List.mem_of_getElem? (i := 0) rfl)) rfl
set_option maxRecDepth 20000 in
theorem se_yX9_back : Cond.selects RX9 yX9_back yX9_back ∈ wU_ := mU_ (tk_7 (List.mem_of_getElem? (i := 1) rfl)) rfl
set_option maxRecDepth 20000 in
theorem co_yX9_back : Cond.code yX9_back cX9_back 2 (some .int) ∈ wU_ := mU_ (tk_7 (List.mem_of_getElem? (i := 2) rfl)) rfl
set_option maxRecDepth 20000 in
theorem ml_RL_108 : Cond.methodLink RL 108 yX9_count ∈ wU_ := mU_ (tk_7 (List.mem_of_getElem? (i := 3) rfl)) rfl
set_option maxRecDepth 20000 in
theorem im_yX9_count : Cond.instanceMethod yX9_count ∈ wU_ := mU_ (tk_7 (List.mem_of_getElem? (i := 4) rfl)) rfl
set_option maxRecDepth 20000 in
theorem se_yX9_count : Cond.selects RX9 yX9_count yX9_count ∈ wU_ := mU_ (tk_7 (List.mem_of_getElem? (i := 5) rfl)) rfl
set_option maxRecDepth 20000 in
theorem co_yX9_count : Cond.code yX9_count cX9_count 4 (some .int) ∈ wU_ := mU_ (tk_7 (List.mem_of_getElem? (i := 6) rfl)) rfl
set_option maxRecDepth 20000 in
theorem ml_RL_112 : Cond.methodLink RL 112 yX9_sheet ∈ wU_ := mU_ (tk_7 (List.mem_of_getElem? (i := 7) rfl)) rfl
set_option maxRecDepth 20000 in
theorem im_yX9_sheet : Cond.instanceMethod yX9_sheet ∈ wU_ := mU_ (tk_7 (List.mem_of_getElem? (i := 8) rfl)) rfl
set_option maxRecDepth 20000 in
theorem se_yX9_sheet : Cond.selects RX9 yX9_sheet yX9_sheet ∈ wU_ := mU_ (tk_7 (List.mem_of_getElem? (i := 9) rfl)) rfl
set_option maxRecDepth 20000 in
theorem co_yX9_sheet : Cond.code yX9_sheet cX9_sheet 5 (some .int) ∈ wU_ := mU_ (tk_7 (List.mem_of_getElem? (i := 10) rfl)) rfl
set_option maxRecDepth 20000 in
theorem cl_RX9_428 : Cond.constantLong RX9 428 (-1) ∈ wU_ := mU_ (tk_7 (List.mem_of_getElem? (i := 11) rfl)) rfl
set_option maxRecDepth 20000 in
theorem ml_RL_116 : Cond.methodLink RL 116 yX9_cell ∈ wU_ := mU_ (tk_7 (List.mem_of_getElem? (i := 12) rfl)) rfl
set_option maxRecDepth 20000 in
theorem im_yX9_cell : Cond.instanceMethod yX9_cell ∈ wU_ := mU_ (tk_7 (List.mem_of_getElem? (i := 13) rfl)) rfl
set_option maxRecDepth 20000 in
theorem se_yX9_cell : Cond.selects RX9 yX9_cell yX9_cell ∈ wU_ := mU_ (tk_7 (List.mem_of_getElem? (i := 14) rfl)) rfl
set_option maxRecDepth 20000 in
theorem co_yX9_cell : Cond.code yX9_cell cX9_cell 4 (some .int) ∈ wU_ := mU_ (tk_7 (List.mem_of_getElem? (i := 15) rfl)) rfl
set_option maxRecDepth 20000 in
theorem ml_RL_121 : Cond.methodLink RL 121 yX9_copy ∈ wU_ := mU_ (tk_7 (List.mem_of_getElem? (i := 16) rfl)) rfl
set_option maxRecDepth 20000 in
theorem im_yX9_copy : Cond.instanceMethod yX9_copy ∈ wU_ := mU_ (tk_7 (List.mem_of_getElem? (i := 17) rfl)) rfl
set_option maxRecDepth 20000 in
theorem se_yX9_copy : Cond.selects RX9 yX9_copy yX9_copy ∈ wU_ := mU_ (tk_7 (List.mem_of_getElem? (i := 18) rfl)) rfl
set_option maxRecDepth 20000 in
theorem co_yX9_copy : Cond.code yX9_copy cX9_copy 9 (some .int) ∈ wU_ := mU_ (tk_7 (List.mem_of_getElem? (i := 19) rfl)) rfl
set_option maxRecDepth 20000 in
theorem ml_RL_125 : Cond.methodLink RL 125 yX9_carpets ∈ wU_ := mU_ (tk_7 (List.mem_of_getElem? (i := 20) rfl)) rfl
set_option maxRecDepth 20000 in
theorem im_yX9_carpets : Cond.instanceMethod yX9_carpets ∈ wU_ := mU_ (tk_7 (List.mem_of_getElem? (i := 21) rfl)) rfl
set_option maxRecDepth 20000 in
theorem se_yX9_carpets : Cond.selects RX9 yX9_carpets yX9_carpets ∈ wU_ := mU_ (tk_7 (List.mem_of_getElem? (i := 22) rfl)) rfl
set_option maxRecDepth 20000 in
theorem co_yX9_carpets : Cond.code yX9_carpets cX9_carpets 8 (some .int) ∈ wU_ := mU_ (tk_7 (List.mem_of_getElem? (i := 23) rfl)) rfl
set_option maxRecDepth 20000 in
theorem ml_RX9_430 : Cond.methodLink RX9 430 yX9_carpet ∈ wU_ := mU_ (tk_7 (List.mem_of_getElem? (i := 24) rfl)) rfl
set_option maxRecDepth 20000 in
theorem ml_RL_129 : Cond.methodLink RL 129 yX9_taken ∈ wU_ := mU_ (tk_7 (List.mem_of_getElem? (i := 25) rfl)) rfl
set_option maxRecDepth 20000 in
theorem im_yX9_taken : Cond.instanceMethod yX9_taken ∈ wU_ := mU_ (tk_7 (List.mem_of_getElem? (i := 26) rfl)) rfl
set_option maxRecDepth 20000 in
theorem se_yX9_taken : Cond.selects RX9 yX9_taken yX9_taken ∈ wU_ := mU_ (tk_7 (List.mem_of_getElem? (i := 27) rfl)) rfl
set_option maxRecDepth 20000 in
theorem co_yX9_taken : Cond.code yX9_taken cX9_taken 4 (some .int) ∈ wU_ := mU_ (tk_7 (List.mem_of_getElem? (i := 28) rfl)) rfl
set_option maxRecDepth 20000 in
theorem ml_RX9_433 : Cond.methodLink RX9 433 yX9_over ∈ wU_ := mU_ (tk_7 (List.mem_of_getElem? (i := 29) rfl)) rfl
set_option maxRecDepth 20000 in
theorem st_yX9_over : Cond.static yX9_over ∈ wU_ := mU_ (tk_7 (List.mem_of_getElem? (i := 30) rfl)) rfl
set_option maxRecDepth 20000 in
theorem co_yX9_over : Cond.code yX9_over cX9_over 1 (some .int) ∈ wU_ := mU_ (tk_7 (List.mem_of_getElem? (i := 31) rfl)) rfl
set_option maxRecDepth 20000 in
theorem fl_RJ0_9 : Cond.fieldLink RJ0 9 "java/lang/String" "value" "[B" ∈ wU_ := mU_ (tk_7 (List.mem_of_getElem? (i := 32) rfl)) rfl
set_option maxRecDepth 20000 in
theorem fl_RJ0_15 : Cond.fieldLink RJ0 15 "java/lang/String" "coder" "B" ∈ wU_ := mU_ (tk_7 (List.mem_of_getElem? (i := 33) rfl)) rfl
set_option maxRecDepth 20000 in
theorem se_yX3_put : Cond.selects RX3 yX3_put yX3_put ∈ wU_ := mU_ (List.mem_append_left _ (List.mem_of_getElem? (l := k2_sels lw_privs) (i := 0) rfl)) rfl
set_option maxRecDepth 20000 in
theorem se_yX3_reads : Cond.selects RX3 yX3_reads yX3_reads ∈ wU_ := mU_ (List.mem_append_left _ (List.mem_of_getElem? (l := k2_sels lw_privs) (i := 1) rfl)) rfl
set_option maxRecDepth 20000 in
theorem se_yX3_findTokens : Cond.selects RX3 yX3_findTokens yX3_findTokens ∈ wU_ := mU_ (List.mem_append_left _ (List.mem_of_getElem? (l := k2_sels lw_privs) (i := 2) rfl)) rfl
set_option maxRecDepth 20000 in
theorem se_yX3_letterAt : Cond.selects RX3 yX3_letterAt yX3_letterAt ∈ wU_ := mU_ (List.mem_append_left _ (List.mem_of_getElem? (l := k2_sels lw_privs) (i := 3) rfl)) rfl
set_option maxRecDepth 20000 in
theorem se_yX3_wordEnd : Cond.selects RX3 yX3_wordEnd yX3_wordEnd ∈ wU_ := mU_ (List.mem_append_left _ (List.mem_of_getElem? (l := k2_sels lw_privs) (i := 4) rfl)) rfl
set_option maxRecDepth 20000 in
theorem se_yX3_wordToken : Cond.selects RX3 yX3_wordToken yX3_wordToken ∈ wU_ := mU_ (List.mem_append_left _ (List.mem_of_getElem? (l := k2_sels lw_privs) (i := 5) rfl)) rfl
set_option maxRecDepth 20000 in
theorem se_yX3_spells : Cond.selects RX3 yX3_spells yX3_spells ∈ wU_ := mU_ (List.mem_append_left _ (List.mem_of_getElem? (l := k2_sels lw_privs) (i := 6) rfl)) rfl
set_option maxRecDepth 20000 in
theorem se_yX3_addToken : Cond.selects RX3 yX3_addToken yX3_addToken ∈ wU_ := mU_ (List.mem_append_left _ (List.mem_of_getElem? (l := k2_sels lw_privs) (i := 7) rfl)) rfl
set_option maxRecDepth 20000 in
theorem se_yX3_numberEnd : Cond.selects RX3 yX3_numberEnd yX3_numberEnd ∈ wU_ := mU_ (List.mem_append_left _ (List.mem_of_getElem? (l := k2_sels lw_privs) (i := 8) rfl)) rfl
set_option maxRecDepth 20000 in
theorem se_yX3_numberValue : Cond.selects RX3 yX3_numberValue yX3_numberValue ∈ wU_ := mU_ (List.mem_append_left _ (List.mem_of_getElem? (l := k2_sels lw_privs) (i := 9) rfl)) rfl
set_option maxRecDepth 20000 in
theorem se_yX3_readPart : Cond.selects RX3 yX3_readPart yX3_readPart ∈ wU_ := mU_ (List.mem_append_left _ (List.mem_of_getElem? (l := k2_sels lw_privs) (i := 10) rfl)) rfl
set_option maxRecDepth 20000 in
theorem se_yX3_pass : Cond.selects RX3 yX3_pass yX3_pass ∈ wU_ := mU_ (List.mem_append_left _ (List.mem_of_getElem? (l := k2_sels lw_privs) (i := 11) rfl)) rfl
set_option maxRecDepth 20000 in
theorem se_yX3_token : Cond.selects RX3 yX3_token yX3_token ∈ wU_ := mU_ (List.mem_append_left _ (List.mem_of_getElem? (l := k2_sels lw_privs) (i := 12) rfl)) rfl
set_option maxRecDepth 20000 in
theorem se_yX3_goOn : Cond.selects RX3 yX3_goOn yX3_goOn ∈ wU_ := mU_ (List.mem_append_left _ (List.mem_of_getElem? (l := k2_sels lw_privs) (i := 13) rfl)) rfl
set_option maxRecDepth 20000 in
theorem se_yX3_readOr : Cond.selects RX3 yX3_readOr yX3_readOr ∈ wU_ := mU_ (List.mem_append_left _ (List.mem_of_getElem? (l := k2_sels lw_privs) (i := 14) rfl)) rfl
set_option maxRecDepth 20000 in
theorem se_yX3_readAnd : Cond.selects RX3 yX3_readAnd yX3_readAnd ∈ wU_ := mU_ (List.mem_append_left _ (List.mem_of_getElem? (l := k2_sels lw_privs) (i := 15) rfl)) rfl
set_option maxRecDepth 20000 in
theorem se_yX3_readNot : Cond.selects RX3 yX3_readNot yX3_readNot ∈ wU_ := mU_ (List.mem_append_left _ (List.mem_of_getElem? (l := k2_sels lw_privs) (i := 16) rfl)) rfl
set_option maxRecDepth 20000 in
theorem se_yX3_readComparison : Cond.selects RX3 yX3_readComparison yX3_readComparison ∈ wU_ := mU_ (List.mem_append_left _ (List.mem_of_getElem? (l := k2_sels lw_privs) (i := 17) rfl)) rfl
set_option maxRecDepth 20000 in
theorem se_yX3_readSum : Cond.selects RX3 yX3_readSum yX3_readSum ∈ wU_ := mU_ (List.mem_append_left _ (List.mem_of_getElem? (l := k2_sels lw_privs) (i := 18) rfl)) rfl
set_option maxRecDepth 20000 in
theorem se_yX3_readTerm : Cond.selects RX3 yX3_readTerm yX3_readTerm ∈ wU_ := mU_ (List.mem_append_left _ (List.mem_of_getElem? (l := k2_sels lw_privs) (i := 19) rfl)) rfl
set_option maxRecDepth 20000 in
theorem se_yX3_readOne : Cond.selects RX3 yX3_readOne yX3_readOne ∈ wU_ := mU_ (List.mem_append_left _ (List.mem_of_getElem? (l := k2_sels lw_privs) (i := 20) rfl)) rfl
set_option maxRecDepth 20000 in
theorem se_yX3_readNumber : Cond.selects RX3 yX3_readNumber yX3_readNumber ∈ wU_ := mU_ (List.mem_append_left _ (List.mem_of_getElem? (l := k2_sels lw_privs) (i := 21) rfl)) rfl
set_option maxRecDepth 20000 in
theorem se_yX3_emit : Cond.selects RX3 yX3_emit yX3_emit ∈ wU_ := mU_ (List.mem_append_left _ (List.mem_of_getElem? (l := k2_sels lw_privs) (i := 22) rfl)) rfl
set_option maxRecDepth 20000 in
theorem se_yX3_made : Cond.selects RX3 yX3_made yX3_made ∈ wU_ := mU_ (List.mem_append_left _ (List.mem_of_getElem? (l := k2_sels lw_privs) (i := 23) rfl)) rfl
set_option maxRecDepth 20000 in
theorem se_yX3_stepsOf : Cond.selects RX3 yX3_stepsOf yX3_stepsOf ∈ wU_ := mU_ (List.mem_append_left _ (List.mem_of_getElem? (l := k2_sels lw_privs) (i := 24) rfl)) rfl
set_option maxRecDepth 20000 in
theorem se_yX3_clear : Cond.selects RX3 yX3_clear yX3_clear ∈ wU_ := mU_ (List.mem_append_left _ (List.mem_of_getElem? (l := k2_sels lw_privs) (i := 25) rfl)) rfl
set_option maxRecDepth 20000 in
theorem se_yX8_setNight : Cond.selects RX8 yX8_setNight yX8_setNight ∈ wU_ := mU_ (List.mem_append_left _ (List.mem_of_getElem? (l := k2_sels lw_privs) (i := 26) rfl)) rfl
set_option maxRecDepth 20000 in
theorem se_yX8_setWall : Cond.selects RX8 yX8_setWall yX8_setWall ∈ wU_ := mU_ (List.mem_append_left _ (List.mem_of_getElem? (l := k2_sels lw_privs) (i := 27) rfl)) rfl
set_option maxRecDepth 20000 in
theorem se_yX1_wallOn : Cond.selects RX1 yX1_wallOn yX1_wallOn ∈ wU_ := mU_ (List.mem_append_left _ (List.mem_of_getElem? (l := k2_sels lw_privs) (i := 28) rfl)) rfl
set_option maxRecDepth 20000 in
theorem se_yX1_putWall : Cond.selects RX1 yX1_putWall yX1_putWall ∈ wU_ := mU_ (List.mem_append_left _ (List.mem_of_getElem? (l := k2_sels lw_privs) (i := 29) rfl)) rfl
set_option maxRecDepth 20000 in
theorem se_yX8_setOfCarpet : Cond.selects RX8 yX8_setOfCarpet yX8_setOfCarpet ∈ wU_ := mU_ (List.mem_append_left _ (List.mem_of_getElem? (l := k2_sels lw_privs) (i := 30) rfl)) rfl
set_option maxRecDepth 20000 in
theorem se_yX1_carpetAt : Cond.selects RX1 yX1_carpetAt yX1_carpetAt ∈ wU_ := mU_ (List.mem_append_left _ (List.mem_of_getElem? (l := k2_sels lw_privs) (i := 31) rfl)) rfl
set_option maxRecDepth 20000 in
theorem se_yX0_tell : Cond.selects RX0 yX0_tell yX0_tell ∈ wU_ := mU_ (List.mem_append_left _ (List.mem_of_getElem? (l := k2_sels lw_privs) (i := 32) rfl)) rfl
set_option maxRecDepth 20000 in
theorem se_yX0_put : Cond.selects RX0 yX0_put yX0_put ∈ wU_ := mU_ (List.mem_append_left _ (List.mem_of_getElem? (l := k2_sels lw_privs) (i := 33) rfl)) rfl
set_option maxRecDepth 20000 in
theorem se_yX8_lay : Cond.selects RX8 yX8_lay yX8_lay ∈ wU_ := mU_ (List.mem_append_left _ (List.mem_of_getElem? (l := k2_sels lw_privs) (i := 34) rfl)) rfl
set_option maxRecDepth 20000 in
theorem se_yX1_add : Cond.selects RX1 yX1_add yX1_add ∈ wU_ := mU_ (List.mem_append_left _ (List.mem_of_getElem? (l := k2_sels lw_privs) (i := 35) rfl)) rfl
set_option maxRecDepth 20000 in
theorem se_yX0_become : Cond.selects RX0 yX0_become yX0_become ∈ wU_ := mU_ (List.mem_append_left _ (List.mem_of_getElem? (l := k2_sels lw_privs) (i := 36) rfl)) rfl
set_option maxRecDepth 20000 in
theorem se_yX8_heightOf : Cond.selects RX8 yX8_heightOf yX8_heightOf ∈ wU_ := mU_ (List.mem_append_left _ (List.mem_of_getElem? (l := k2_sels lw_privs) (i := 37) rfl)) rfl
set_option maxRecDepth 20000 in
theorem se_yX8_think : Cond.selects RX8 yX8_think yX8_think ∈ wU_ := mU_ (List.mem_append_left _ (List.mem_of_getElem? (l := k2_sels lw_privs) (i := 38) rfl)) rfl
set_option maxRecDepth 20000 in
theorem se_yX6_takeUp : Cond.selects RX6 yX6_takeUp yX6_takeUp ∈ wU_ := mU_ (List.mem_append_left _ (List.mem_of_getElem? (l := k2_sels lw_privs) (i := 39) rfl)) rfl
set_option maxRecDepth 20000 in
theorem se_yX8_textAt : Cond.selects RX8 yX8_textAt yX8_textAt ∈ wU_ := mU_ (List.mem_append_left _ (List.mem_of_getElem? (l := k2_sels lw_privs) (i := 40) rfl)) rfl
set_option maxRecDepth 20000 in
theorem se_yX6_goBy : Cond.selects RX6 yX6_goBy yX6_goBy ∈ wU_ := mU_ (List.mem_append_left _ (List.mem_of_getElem? (l := k2_sels lw_privs) (i := 41) rfl)) rfl
set_option maxRecDepth 20000 in
theorem se_yX1_nearTo : Cond.selects RX1 yX1_nearTo yX1_nearTo ∈ wU_ := mU_ (List.mem_append_left _ (List.mem_of_getElem? (l := k2_sels lw_privs) (i := 42) rfl)) rfl
set_option maxRecDepth 20000 in
theorem se_yX6_height : Cond.selects RX6 yX6_height yX6_height ∈ wU_ := mU_ (List.mem_append_left _ (List.mem_of_getElem? (l := k2_sels lw_privs) (i := 43) rfl)) rfl
set_option maxRecDepth 20000 in
theorem se_yX6_valueOf : Cond.selects RX6 yX6_valueOf yX6_valueOf ∈ wU_ := mU_ (List.mem_append_left _ (List.mem_of_getElem? (l := k2_sels lw_privs) (i := 44) rfl)) rfl
set_option maxRecDepth 20000 in
theorem se_yX6_heightOfKind : Cond.selects RX6 yX6_heightOfKind yX6_heightOfKind ∈ wU_ := mU_ (List.mem_append_left _ (List.mem_of_getElem? (l := k2_sels lw_privs) (i := 45) rfl)) rfl
set_option maxRecDepth 20000 in
theorem se_yX6_goal : Cond.selects RX6 yX6_goal yX6_goal ∈ wU_ := mU_ (List.mem_append_left _ (List.mem_of_getElem? (l := k2_sels lw_privs) (i := 46) rfl)) rfl
set_option maxRecDepth 20000 in
theorem se_yX6_east : Cond.selects RX6 yX6_east yX6_east ∈ wU_ := mU_ (List.mem_append_left _ (List.mem_of_getElem? (l := k2_sels lw_privs) (i := 47) rfl)) rfl
set_option maxRecDepth 20000 in
theorem se_yX6_eastOfKind : Cond.selects RX6 yX6_eastOfKind yX6_eastOfKind ∈ wU_ := mU_ (List.mem_append_left _ (List.mem_of_getElem? (l := k2_sels lw_privs) (i := 48) rfl)) rfl
set_option maxRecDepth 20000 in
theorem se_yX6_south : Cond.selects RX6 yX6_south yX6_south ∈ wU_ := mU_ (List.mem_append_left _ (List.mem_of_getElem? (l := k2_sels lw_privs) (i := 49) rfl)) rfl
set_option maxRecDepth 20000 in
theorem se_yX6_southOfKind : Cond.selects RX6 yX6_southOfKind yX6_southOfKind ∈ wU_ := mU_ (List.mem_append_left _ (List.mem_of_getElem? (l := k2_sels lw_privs) (i := 50) rfl)) rfl
set_option maxRecDepth 20000 in
theorem se_yX3_place : Cond.selects RX3 yX3_place yX3_place ∈ wU_ := mU_ (List.mem_append_left _ (List.mem_of_getElem? (l := k2_sels lw_privs) (i := 51) rfl)) rfl
set_option maxRecDepth 20000 in
theorem se_yX8_fly : Cond.selects RX8 yX8_fly yX8_fly ∈ wU_ := mU_ (List.mem_append_left _ (List.mem_of_getElem? (l := k2_sels lw_privs) (i := 52) rfl)) rfl
set_option maxRecDepth 20000 in
theorem se_yX8_refusalOfTold : Cond.selects RX8 yX8_refusalOfTold yX8_refusalOfTold ∈ wU_ := mU_ (List.mem_append_left _ (List.mem_of_getElem? (l := k2_sels lw_privs) (i := 53) rfl)) rfl
set_option maxRecDepth 20000 in
theorem se_yX8_sheetAt : Cond.selects RX8 yX8_sheetAt yX8_sheetAt ∈ wU_ := mU_ (List.mem_append_left _ (List.mem_of_getElem? (l := k2_sels lw_privs) (i := 54) rfl)) rfl
set_option maxRecDepth 20000 in
theorem se_yX4_isMissing : Cond.selects RX4 yX4_isMissing yX4_isMissing ∈ wU_ := mU_ (List.mem_append_left _ (List.mem_of_getElem? (l := k2_sels lw_privs) (i := 55) rfl)) rfl
set_option maxRecDepth 20000 in
theorem se_yX4_isAllBelow : Cond.selects RX4 yX4_isAllBelow yX4_isAllBelow ∈ wU_ := mU_ (List.mem_append_left _ (List.mem_of_getElem? (l := k2_sels lw_privs) (i := 56) rfl)) rfl
set_option maxRecDepth 20000 in
theorem se_yX4_item : Cond.selects RX4 yX4_item yX4_item ∈ wU_ := mU_ (List.mem_append_left _ (List.mem_of_getElem? (l := k2_sels lw_privs) (i := 57) rfl)) rfl
set_option maxRecDepth 20000 in
theorem se_yX8_explore : Cond.selects RX8 yX8_explore yX8_explore ∈ wU_ := mU_ (List.mem_append_left _ (List.mem_of_getElem? (l := k2_sels lw_privs) (i := 58) rfl)) rfl
set_option maxRecDepth 20000 in
theorem se_yX7_explore : Cond.selects RX7 yX7_explore yX7_explore ∈ wU_ := mU_ (List.mem_append_left _ (List.mem_of_getElem? (l := k2_sels lw_privs) (i := 59) rfl)) rfl
set_option maxRecDepth 20000 in
theorem se_yX7_discover : Cond.selects RX7 yX7_discover yX7_discover ∈ wU_ := mU_ (List.mem_append_left _ (List.mem_of_getElem? (l := k2_sels lw_privs) (i := 60) rfl)) rfl
set_option maxRecDepth 20000 in
theorem se_yX7_leave : Cond.selects RX7 yX7_leave yX7_leave ∈ wU_ := mU_ (List.mem_append_left _ (List.mem_of_getElem? (l := k2_sels lw_privs) (i := 61) rfl)) rfl
set_option maxRecDepth 20000 in
theorem se_yX7_stepsTo : Cond.selects RX7 yX7_stepsTo yX7_stepsTo ∈ wU_ := mU_ (List.mem_append_left _ (List.mem_of_getElem? (l := k2_sels lw_privs) (i := 62) rfl)) rfl
set_option maxRecDepth 20000 in
theorem se_yX7_digitsTo : Cond.selects RX7 yX7_digitsTo yX7_digitsTo ∈ wU_ := mU_ (List.mem_append_left _ (List.mem_of_getElem? (l := k2_sels lw_privs) (i := 63) rfl)) rfl
set_option maxRecDepth 20000 in
theorem se_yX7_reached : Cond.selects RX7 yX7_reached yX7_reached ∈ wU_ := mU_ (List.mem_append_left _ (List.mem_of_getElem? (l := k2_sels lw_privs) (i := 64) rfl)) rfl
set_option maxRecDepth 20000 in
theorem se_yX7_sinks : Cond.selects RX7 yX7_sinks yX7_sinks ∈ wU_ := mU_ (List.mem_append_left _ (List.mem_of_getElem? (l := k2_sels lw_privs) (i := 65) rfl)) rfl
set_option maxRecDepth 20000 in
theorem se_yX7_idleWords : Cond.selects RX7 yX7_idleWords yX7_idleWords ∈ wU_ := mU_ (List.mem_append_left _ (List.mem_of_getElem? (l := k2_sels lw_privs) (i := 66) rfl)) rfl
set_option maxRecDepth 20000 in
theorem se_yX7_furthestCell : Cond.selects RX7 yX7_furthestCell yX7_furthestCell ∈ wU_ := mU_ (List.mem_append_left _ (List.mem_of_getElem? (l := k2_sels lw_privs) (i := 67) rfl)) rfl
set_option maxRecDepth 20000 in
theorem se_yX2_seek : Cond.selects RX2 yX2_seek yX2_seek ∈ wU_ := mU_ (List.mem_append_left _ (List.mem_of_getElem? (l := k2_sels lw_privs) (i := 68) rfl)) rfl
set_option maxRecDepth 20000 in
theorem se_yX7_start : Cond.selects RX7 yX7_start yX7_start ∈ wU_ := mU_ (List.mem_append_left _ (List.mem_of_getElem? (l := k2_sels lw_privs) (i := 69) rfl)) rfl
set_option maxRecDepth 20000 in
theorem se_yX2_discover : Cond.selects RX2 yX2_discover yX2_discover ∈ wU_ := mU_ (List.mem_append_left _ (List.mem_of_getElem? (l := k2_sels lw_privs) (i := 70) rfl)) rfl
set_option maxRecDepth 20000 in
theorem se_yX2_leave : Cond.selects RX2 yX2_leave yX2_leave ∈ wU_ := mU_ (List.mem_append_left _ (List.mem_of_getElem? (l := k2_sels lw_privs) (i := 71) rfl)) rfl
set_option maxRecDepth 20000 in
theorem se_yX7_goalOf : Cond.selects RX7 yX7_goalOf yX7_goalOf ∈ wU_ := mU_ (List.mem_append_left _ (List.mem_of_getElem? (l := k2_sels lw_privs) (i := 72) rfl)) rfl
set_option maxRecDepth 20000 in
theorem se_yX7_spread : Cond.selects RX7 yX7_spread yX7_spread ∈ wU_ := mU_ (List.mem_append_left _ (List.mem_of_getElem? (l := k2_sels lw_privs) (i := 73) rfl)) rfl
set_option maxRecDepth 20000 in
theorem se_yX8_firstThatCannotBe : Cond.selects RX8 yX8_firstThatCannotBe yX8_firstThatCannotBe ∈ wU_ := mU_ (List.mem_append_left _ (List.mem_of_getElem? (l := k2_sels lw_privs) (i := 74) rfl)) rfl
set_option maxRecDepth 20000 in
theorem se_yX6_firstWord : Cond.selects RX6 yX6_firstWord yX6_firstWord ∈ wU_ := mU_ (List.mem_append_left _ (List.mem_of_getElem? (l := k2_sels lw_privs) (i := 75) rfl)) rfl
set_option maxRecDepth 20000 in
theorem se_yX8_firstRow : Cond.selects RX8 yX8_firstRow yX8_firstRow ∈ wU_ := mU_ (List.mem_append_left _ (List.mem_of_getElem? (l := k2_sels lw_privs) (i := 76) rfl)) rfl
set_option maxRecDepth 20000 in
theorem se_yX8_sureWords : Cond.selects RX8 yX8_sureWords yX8_sureWords ∈ wU_ := mU_ (List.mem_append_left _ (List.mem_of_getElem? (l := k2_sels lw_privs) (i := 77) rfl)) rfl
set_option maxRecDepth 20000 in
theorem se_yX6_wordCount : Cond.selects RX6 yX6_wordCount yX6_wordCount ∈ wU_ := mU_ (List.mem_append_left _ (List.mem_of_getElem? (l := k2_sels lw_privs) (i := 78) rfl)) rfl
set_option maxRecDepth 20000 in
theorem se_yX8_kindsThatFit : Cond.selects RX8 yX8_kindsThatFit yX8_kindsThatFit ∈ wU_ := mU_ (List.mem_append_left _ (List.mem_of_getElem? (l := k2_sels lw_privs) (i := 79) rfl)) rfl
set_option maxRecDepth 20000 in
theorem se_yX6_beOfKind : Cond.selects RX6 yX6_beOfKind yX6_beOfKind ∈ wU_ := mU_ (List.mem_append_left _ (List.mem_of_getElem? (l := k2_sels lw_privs) (i := 80) rfl)) rfl
set_option maxRecDepth 20000 in
theorem se_yX8_numbersThatFit : Cond.selects RX8 yX8_numbersThatFit yX8_numbersThatFit ∈ wU_ := mU_ (List.mem_append_left _ (List.mem_of_getElem? (l := k2_sels lw_privs) (i := 81) rfl)) rfl
set_option maxRecDepth 20000 in
theorem se_yX6_beNumbered : Cond.selects RX6 yX6_beNumbered yX6_beNumbered ∈ wU_ := mU_ (List.mem_append_left _ (List.mem_of_getElem? (l := k2_sels lw_privs) (i := 82) rfl)) rfl
set_option maxRecDepth 20000 in
theorem se_yX8_textsThatFit : Cond.selects RX8 yX8_textsThatFit yX8_textsThatFit ∈ wU_ := mU_ (List.mem_append_left _ (List.mem_of_getElem? (l := k2_sels lw_privs) (i := 83) rfl)) rfl
set_option maxRecDepth 20000 in
theorem se_yX8_howMany : Cond.selects RX8 yX8_howMany yX8_howMany ∈ wU_ := mU_ (List.mem_append_left _ (List.mem_of_getElem? (l := k2_sels lw_privs) (i := 84) rfl)) rfl
set_option maxRecDepth 20000 in
theorem se_yX8_startsThatFit : Cond.selects RX8 yX8_startsThatFit yX8_startsThatFit ∈ wU_ := mU_ (List.mem_append_left _ (List.mem_of_getElem? (l := k2_sels lw_privs) (i := 85) rfl)) rfl
set_option maxRecDepth 20000 in
theorem se_yX8_comesBy : Cond.selects RX8 yX8_comesBy yX8_comesBy ∈ wU_ := mU_ (List.mem_append_left _ (List.mem_of_getElem? (l := k2_sels lw_privs) (i := 86) rfl)) rfl
set_option maxRecDepth 20000 in
theorem se_yX1_becomeLike : Cond.selects RX1 yX1_becomeLike yX1_becomeLike ∈ wU_ := mU_ (List.mem_append_left _ (List.mem_of_getElem? (l := k2_sels lw_privs) (i := 87) rfl)) rfl
set_option maxRecDepth 20000 in
theorem se_yX1_flownCount : Cond.selects RX1 yX1_flownCount yX1_flownCount ∈ wU_ := mU_ (List.mem_append_left _ (List.mem_of_getElem? (l := k2_sels lw_privs) (i := 88) rfl)) rfl
set_option maxRecDepth 20000 in
theorem se_yX4_makeMissing : Cond.selects RX4 yX4_makeMissing yX4_makeMissing ∈ wU_ := mU_ (List.mem_append_left _ (List.mem_of_getElem? (l := k2_sels lw_privs) (i := 89) rfl)) rfl
set_option maxRecDepth 20000 in
theorem se_yX4_makeRow : Cond.selects RX4 yX4_makeRow yX4_makeRow ∈ wU_ := mU_ (List.mem_append_left _ (List.mem_of_getElem? (l := k2_sels lw_privs) (i := 90) rfl)) rfl
set_option maxRecDepth 20000 in
theorem se_yX4_put : Cond.selects RX4 yX4_put yX4_put ∈ wU_ := mU_ (List.mem_append_left _ (List.mem_of_getElem? (l := k2_sels lw_privs) (i := 91) rfl)) rfl
set_option maxRecDepth 20000 in
theorem se_yX4_holds : Cond.selects RX4 yX4_holds yX4_holds ∈ wU_ := mU_ (List.mem_append_left _ (List.mem_of_getElem? (l := k2_sels lw_privs) (i := 92) rfl)) rfl
set_option maxRecDepth 20000 in
theorem se_yX9_spell : Cond.selects RX9 yX9_spell yX9_spell ∈ wU_ := mU_ (List.mem_append_left _ (List.mem_of_getElem? (l := k2_sels lw_privs) (i := 93) rfl)) rfl
set_option maxRecDepth 20000 in
theorem se_yX9_isOf : Cond.selects RX9 yX9_isOf yX9_isOf ∈ wU_ := mU_ (List.mem_append_left _ (List.mem_of_getElem? (l := k2_sels lw_privs) (i := 94) rfl)) rfl
set_option maxRecDepth 20000 in
theorem se_yX9_isOne : Cond.selects RX9 yX9_isOne yX9_isOne ∈ wU_ := mU_ (List.mem_append_left _ (List.mem_of_getElem? (l := k2_sels lw_privs) (i := 95) rfl)) rfl
set_option maxRecDepth 20000 in
theorem se_yX9_goesTo : Cond.selects RX9 yX9_goesTo yX9_goesTo ∈ wU_ := mU_ (List.mem_append_left _ (List.mem_of_getElem? (l := k2_sels lw_privs) (i := 96) rfl)) rfl
set_option maxRecDepth 20000 in
theorem se_yX9_eastOf : Cond.selects RX9 yX9_eastOf yX9_eastOf ∈ wU_ := mU_ (List.mem_append_left _ (List.mem_of_getElem? (l := k2_sels lw_privs) (i := 97) rfl)) rfl
set_option maxRecDepth 20000 in
theorem se_yX9_says : Cond.selects RX9 yX9_says yX9_says ∈ wU_ := mU_ (List.mem_append_left _ (List.mem_of_getElem? (l := k2_sels lw_privs) (i := 98) rfl)) rfl
set_option maxRecDepth 20000 in
theorem se_yX9_read : Cond.selects RX9 yX9_read yX9_read ∈ wU_ := mU_ (List.mem_append_left _ (List.mem_of_getElem? (l := k2_sels lw_privs) (i := 99) rfl)) rfl
set_option maxRecDepth 20000 in
theorem se_yX9_next : Cond.selects RX9 yX9_next yX9_next ∈ wU_ := mU_ (List.mem_append_left _ (List.mem_of_getElem? (l := k2_sels lw_privs) (i := 100) rfl)) rfl
set_option maxRecDepth 20000 in
theorem se_yX9_byteAt : Cond.selects RX9 yX9_byteAt yX9_byteAt ∈ wU_ := mU_ (List.mem_append_left _ (List.mem_of_getElem? (l := k2_sels lw_privs) (i := 101) rfl)) rfl
set_option maxRecDepth 20000 in
theorem se_yX9_isWord_ : Cond.selects RX9 yX9_isWord_ yX9_isWord_ ∈ wU_ := mU_ (List.mem_append_left _ (List.mem_of_getElem? (l := k2_sels lw_privs) (i := 102) rfl)) rfl
set_option maxRecDepth 20000 in
theorem se_yX9_isLetter : Cond.selects RX9 yX9_isLetter yX9_isLetter ∈ wU_ := mU_ (List.mem_append_left _ (List.mem_of_getElem? (l := k2_sels lw_privs) (i := 103) rfl)) rfl
set_option maxRecDepth 20000 in
theorem se_yX9_part : Cond.selects RX9 yX9_part yX9_part ∈ wU_ := mU_ (List.mem_append_left _ (List.mem_of_getElem? (l := k2_sels lw_privs) (i := 104) rfl)) rfl
set_option maxRecDepth 20000 in
theorem se_yX9_fail : Cond.selects RX9 yX9_fail yX9_fail ∈ wU_ := mU_ (List.mem_append_left _ (List.mem_of_getElem? (l := k2_sels lw_privs) (i := 105) rfl)) rfl
set_option maxRecDepth 20000 in
theorem se_yX9_either0 : Cond.selects RX9 yX9_either0 yX9_either0 ∈ wU_ := mU_ (List.mem_append_left _ (List.mem_of_getElem? (l := k2_sels lw_privs) (i := 106) rfl)) rfl
set_option maxRecDepth 20000 in
theorem se_yX9_both0 : Cond.selects RX9 yX9_both0 yX9_both0 ∈ wU_ := mU_ (List.mem_append_left _ (List.mem_of_getElem? (l := k2_sels lw_privs) (i := 107) rfl)) rfl
set_option maxRecDepth 20000 in
theorem se_yX9_not0 : Cond.selects RX9 yX9_not0 yX9_not0 ∈ wU_ := mU_ (List.mem_append_left _ (List.mem_of_getElem? (l := k2_sels lw_privs) (i := 108) rfl)) rfl
set_option maxRecDepth 20000 in
theorem se_yX9_opens : Cond.selects RX9 yX9_opens yX9_opens ∈ wU_ := mU_ (List.mem_append_left _ (List.mem_of_getElem? (l := k2_sels lw_privs) (i := 109) rfl)) rfl
set_option maxRecDepth 20000 in
theorem se_yX9_not1 : Cond.selects RX9 yX9_not1 yX9_not1 ∈ wU_ := mU_ (List.mem_append_left _ (List.mem_of_getElem? (l := k2_sels lw_privs) (i := 110) rfl)) rfl
set_option maxRecDepth 20000 in
theorem se_yX9_not2 : Cond.selects RX9 yX9_not2 yX9_not2 ∈ wU_ := mU_ (List.mem_append_left _ (List.mem_of_getElem? (l := k2_sels lw_privs) (i := 111) rfl)) rfl
set_option maxRecDepth 20000 in
theorem se_yX9_not3 : Cond.selects RX9 yX9_not3 yX9_not3 ∈ wU_ := mU_ (List.mem_append_left _ (List.mem_of_getElem? (l := k2_sels lw_privs) (i := 112) rfl)) rfl
set_option maxRecDepth 20000 in
theorem se_yX9_not4 : Cond.selects RX9 yX9_not4 yX9_not4 ∈ wU_ := mU_ (List.mem_append_left _ (List.mem_of_getElem? (l := k2_sels lw_privs) (i := 113) rfl)) rfl
set_option maxRecDepth 20000 in
theorem se_yX9_not5 : Cond.selects RX9 yX9_not5 yX9_not5 ∈ wU_ := mU_ (List.mem_append_left _ (List.mem_of_getElem? (l := k2_sels lw_privs) (i := 114) rfl)) rfl
set_option maxRecDepth 20000 in
theorem se_yX9_added5 : Cond.selects RX9 yX9_added5 yX9_added5 ∈ wU_ := mU_ (List.mem_append_left _ (List.mem_of_getElem? (l := k2_sels lw_privs) (i := 115) rfl)) rfl
set_option maxRecDepth 20000 in
theorem se_yX9_term5 : Cond.selects RX9 yX9_term5 yX9_term5 ∈ wU_ := mU_ (List.mem_append_left _ (List.mem_of_getElem? (l := k2_sels lw_privs) (i := 116) rfl)) rfl
set_option maxRecDepth 20000 in
theorem se_yX9_atom5 : Cond.selects RX9 yX9_atom5 yX9_atom5 ∈ wU_ := mU_ (List.mem_append_left _ (List.mem_of_getElem? (l := k2_sels lw_privs) (i := 117) rfl)) rfl
set_option maxRecDepth 20000 in
theorem se_yX9_isSign : Cond.selects RX9 yX9_isSign yX9_isSign ∈ wU_ := mU_ (List.mem_append_left _ (List.mem_of_getElem? (l := k2_sels lw_privs) (i := 118) rfl)) rfl
set_option maxRecDepth 20000 in
theorem se_yX9_name : Cond.selects RX9 yX9_name yX9_name ∈ wU_ := mU_ (List.mem_append_left _ (List.mem_of_getElem? (l := k2_sels lw_privs) (i := 119) rfl)) rfl
set_option maxRecDepth 20000 in
theorem se_yX9_added4 : Cond.selects RX9 yX9_added4 yX9_added4 ∈ wU_ := mU_ (List.mem_append_left _ (List.mem_of_getElem? (l := k2_sels lw_privs) (i := 120) rfl)) rfl
set_option maxRecDepth 20000 in
theorem se_yX9_term4 : Cond.selects RX9 yX9_term4 yX9_term4 ∈ wU_ := mU_ (List.mem_append_left _ (List.mem_of_getElem? (l := k2_sels lw_privs) (i := 121) rfl)) rfl
set_option maxRecDepth 20000 in
theorem se_yX9_atom4 : Cond.selects RX9 yX9_atom4 yX9_atom4 ∈ wU_ := mU_ (List.mem_append_left _ (List.mem_of_getElem? (l := k2_sels lw_privs) (i := 122) rfl)) rfl
set_option maxRecDepth 20000 in
theorem se_yX9_either5 : Cond.selects RX9 yX9_either5 yX9_either5 ∈ wU_ := mU_ (List.mem_append_left _ (List.mem_of_getElem? (l := k2_sels lw_privs) (i := 123) rfl)) rfl
set_option maxRecDepth 20000 in
theorem se_yX9_both5 : Cond.selects RX9 yX9_both5 yX9_both5 ∈ wU_ := mU_ (List.mem_append_left _ (List.mem_of_getElem? (l := k2_sels lw_privs) (i := 124) rfl)) rfl
set_option maxRecDepth 20000 in
theorem se_yX9_added3 : Cond.selects RX9 yX9_added3 yX9_added3 ∈ wU_ := mU_ (List.mem_append_left _ (List.mem_of_getElem? (l := k2_sels lw_privs) (i := 125) rfl)) rfl
set_option maxRecDepth 20000 in
theorem se_yX9_term3 : Cond.selects RX9 yX9_term3 yX9_term3 ∈ wU_ := mU_ (List.mem_append_left _ (List.mem_of_getElem? (l := k2_sels lw_privs) (i := 126) rfl)) rfl
set_option maxRecDepth 20000 in
theorem se_yX9_atom3 : Cond.selects RX9 yX9_atom3 yX9_atom3 ∈ wU_ := mU_ (List.mem_append_left _ (List.mem_of_getElem? (l := k2_sels lw_privs) (i := 127) rfl)) rfl
set_option maxRecDepth 20000 in
theorem se_yX9_either4 : Cond.selects RX9 yX9_either4 yX9_either4 ∈ wU_ := mU_ (List.mem_append_left _ (List.mem_of_getElem? (l := k2_sels lw_privs) (i := 128) rfl)) rfl
set_option maxRecDepth 20000 in
theorem se_yX9_both4 : Cond.selects RX9 yX9_both4 yX9_both4 ∈ wU_ := mU_ (List.mem_append_left _ (List.mem_of_getElem? (l := k2_sels lw_privs) (i := 129) rfl)) rfl
set_option maxRecDepth 20000 in
theorem se_yX9_added2 : Cond.selects RX9 yX9_added2 yX9_added2 ∈ wU_ := mU_ (List.mem_append_left _ (List.mem_of_getElem? (l := k2_sels lw_privs) (i := 130) rfl)) rfl
set_option maxRecDepth 20000 in
theorem se_yX9_term2 : Cond.selects RX9 yX9_term2 yX9_term2 ∈ wU_ := mU_ (List.mem_append_left _ (List.mem_of_getElem? (l := k2_sels lw_privs) (i := 131) rfl)) rfl
set_option maxRecDepth 20000 in
theorem se_yX9_atom2 : Cond.selects RX9 yX9_atom2 yX9_atom2 ∈ wU_ := mU_ (List.mem_append_left _ (List.mem_of_getElem? (l := k2_sels lw_privs) (i := 132) rfl)) rfl
set_option maxRecDepth 20000 in
theorem se_yX9_either3 : Cond.selects RX9 yX9_either3 yX9_either3 ∈ wU_ := mU_ (List.mem_append_left _ (List.mem_of_getElem? (l := k2_sels lw_privs) (i := 133) rfl)) rfl
set_option maxRecDepth 20000 in
theorem se_yX9_both3 : Cond.selects RX9 yX9_both3 yX9_both3 ∈ wU_ := mU_ (List.mem_append_left _ (List.mem_of_getElem? (l := k2_sels lw_privs) (i := 134) rfl)) rfl
set_option maxRecDepth 20000 in
theorem se_yX9_added1 : Cond.selects RX9 yX9_added1 yX9_added1 ∈ wU_ := mU_ (List.mem_append_left _ (List.mem_of_getElem? (l := k2_sels lw_privs) (i := 135) rfl)) rfl
set_option maxRecDepth 20000 in
theorem se_yX9_term1 : Cond.selects RX9 yX9_term1 yX9_term1 ∈ wU_ := mU_ (List.mem_append_left _ (List.mem_of_getElem? (l := k2_sels lw_privs) (i := 136) rfl)) rfl
set_option maxRecDepth 20000 in
theorem se_yX9_atom1 : Cond.selects RX9 yX9_atom1 yX9_atom1 ∈ wU_ := mU_ (List.mem_append_left _ (List.mem_of_getElem? (l := k2_sels lw_privs) (i := 137) rfl)) rfl
set_option maxRecDepth 20000 in
theorem se_yX9_either2 : Cond.selects RX9 yX9_either2 yX9_either2 ∈ wU_ := mU_ (List.mem_append_left _ (List.mem_of_getElem? (l := k2_sels lw_privs) (i := 138) rfl)) rfl
set_option maxRecDepth 20000 in
theorem se_yX9_both2 : Cond.selects RX9 yX9_both2 yX9_both2 ∈ wU_ := mU_ (List.mem_append_left _ (List.mem_of_getElem? (l := k2_sels lw_privs) (i := 139) rfl)) rfl
set_option maxRecDepth 20000 in
theorem se_yX9_added0 : Cond.selects RX9 yX9_added0 yX9_added0 ∈ wU_ := mU_ (List.mem_append_left _ (List.mem_of_getElem? (l := k2_sels lw_privs) (i := 140) rfl)) rfl
set_option maxRecDepth 20000 in
theorem se_yX9_term0 : Cond.selects RX9 yX9_term0 yX9_term0 ∈ wU_ := mU_ (List.mem_append_left _ (List.mem_of_getElem? (l := k2_sels lw_privs) (i := 141) rfl)) rfl
set_option maxRecDepth 20000 in
theorem se_yX9_atom0 : Cond.selects RX9 yX9_atom0 yX9_atom0 ∈ wU_ := mU_ (List.mem_append_left _ (List.mem_of_getElem? (l := k2_sels lw_privs) (i := 142) rfl)) rfl
set_option maxRecDepth 20000 in
theorem se_yX9_either1 : Cond.selects RX9 yX9_either1 yX9_either1 ∈ wU_ := mU_ (List.mem_append_left _ (List.mem_of_getElem? (l := k2_sels lw_privs) (i := 143) rfl)) rfl
set_option maxRecDepth 20000 in
theorem se_yX9_both1 : Cond.selects RX9 yX9_both1 yX9_both1 ∈ wU_ := mU_ (List.mem_append_left _ (List.mem_of_getElem? (l := k2_sels lw_privs) (i := 144) rfl)) rfl
set_option maxRecDepth 20000 in
theorem se_yX9_southOf : Cond.selects RX9 yX9_southOf yX9_southOf ∈ wU_ := mU_ (List.mem_append_left _ (List.mem_of_getElem? (l := k2_sels lw_privs) (i := 145) rfl)) rfl
set_option maxRecDepth 20000 in
theorem se_yX9_highOf : Cond.selects RX9 yX9_highOf yX9_highOf ∈ wU_ := mU_ (List.mem_append_left _ (List.mem_of_getElem? (l := k2_sels lw_privs) (i := 146) rfl)) rfl
set_option maxRecDepth 20000 in
theorem se_yX9_lays : Cond.selects RX9 yX9_lays yX9_lays ∈ wU_ := mU_ (List.mem_append_left _ (List.mem_of_getElem? (l := k2_sels lw_privs) (i := 147) rfl)) rfl
set_option maxRecDepth 20000 in
theorem se_yX9_flies1 : Cond.selects RX9 yX9_flies1 yX9_flies1 ∈ wU_ := mU_ (List.mem_append_left _ (List.mem_of_getElem? (l := k2_sels lw_privs) (i := 148) rfl)) rfl
set_option maxRecDepth 20000 in
theorem se_yX9_tables : Cond.selects RX9 yX9_tables yX9_tables ∈ wU_ := mU_ (List.mem_append_left _ (List.mem_of_getElem? (l := k2_sels lw_privs) (i := 149) rfl)) rfl
set_option maxRecDepth 20000 in
theorem se_yX9_gathers : Cond.selects RX9 yX9_gathers yX9_gathers ∈ wU_ := mU_ (List.mem_append_left _ (List.mem_of_getElem? (l := k2_sels lw_privs) (i := 150) rfl)) rfl
set_option maxRecDepth 20000 in
theorem se_yX9_spreads : Cond.selects RX9 yX9_spreads yX9_spreads ∈ wU_ := mU_ (List.mem_append_left _ (List.mem_of_getElem? (l := k2_sels lw_privs) (i := 151) rfl)) rfl
set_option maxRecDepth 20000 in
theorem se_yX9_isSink : Cond.selects RX9 yX9_isSink yX9_isSink ∈ wU_ := mU_ (List.mem_append_left _ (List.mem_of_getElem? (l := k2_sels lw_privs) (i := 152) rfl)) rfl
set_option maxRecDepth 20000 in
theorem se_yX9_gathersBoth : Cond.selects RX9 yX9_gathersBoth yX9_gathersBoth ∈ wU_ := mU_ (List.mem_append_left _ (List.mem_of_getElem? (l := k2_sels lw_privs) (i := 153) rfl)) rfl
set_option maxRecDepth 20000 in
theorem se_yX9_bothLead : Cond.selects RX9 yX9_bothLead yX9_bothLead ∈ wU_ := mU_ (List.mem_append_left _ (List.mem_of_getElem? (l := k2_sels lw_privs) (i := 154) rfl)) rfl
set_option maxRecDepth 20000 in
theorem se_yX9_toldBad : Cond.selects RX9 yX9_toldBad yX9_toldBad ∈ wU_ := mU_ (List.mem_append_left _ (List.mem_of_getElem? (l := k2_sels lw_privs) (i := 155) rfl)) rfl
set_option maxRecDepth 20000 in
theorem se_yX9_firstOther : Cond.selects RX9 yX9_firstOther yX9_firstOther ∈ wU_ := mU_ (List.mem_append_left _ (List.mem_of_getElem? (l := k2_sels lw_privs) (i := 156) rfl)) rfl
set_option maxRecDepth 20000 in
theorem se_yX9_wordsAt : Cond.selects RX9 yX9_wordsAt yX9_wordsAt ∈ wU_ := mU_ (List.mem_append_left _ (List.mem_of_getElem? (l := k2_sels lw_privs) (i := 157) rfl)) rfl
set_option maxRecDepth 20000 in
theorem se_yX9_ahead : Cond.selects RX9 yX9_ahead yX9_ahead ∈ wU_ := mU_ (List.mem_append_left _ (List.mem_of_getElem? (l := k2_sels lw_privs) (i := 158) rfl)) rfl
set_option maxRecDepth 20000 in
theorem se_yX9_firstRow : Cond.selects RX9 yX9_firstRow yX9_firstRow ∈ wU_ := mU_ (List.mem_append_left _ (List.mem_of_getElem? (l := k2_sels lw_privs) (i := 159) rfl)) rfl
set_option maxRecDepth 20000 in
theorem se_yX9_comesBy : Cond.selects RX9 yX9_comesBy yX9_comesBy ∈ wU_ := mU_ (List.mem_append_left _ (List.mem_of_getElem? (l := k2_sels lw_privs) (i := 160) rfl)) rfl
set_option maxRecDepth 20000 in
theorem iw_RX0 : ∀ w ∈ u_ws RX0 TX0 4, w ∈ wU_ := by
  rw [show u_ws RX0 TX0 4 = [Cond.lays "FlownOnceAndLaid$Carpet" "FlownOnceAndLaid$Carpet" "kind" "I", Cond.lays "FlownOnceAndLaid$Carpet" "FlownOnceAndLaid$Carpet" "number" "I", Cond.lays "FlownOnceAndLaid$Carpet" "FlownOnceAndLaid$Carpet" "on" "I", Cond.lays "FlownOnceAndLaid$Carpet" "FlownOnceAndLaid$Carpet" "flown" "I"] from rfl]
  exact List.forall_mem_cons.mpr ⟨mU_ (tk_1 (List.mem_of_getElem? (i := 55) rfl)) rfl, List.forall_mem_cons.mpr ⟨mU_ (tk_1 (List.mem_of_getElem? (i := 57) rfl)) rfl, List.forall_mem_cons.mpr ⟨mU_ (tk_1 (List.mem_of_getElem? (i := 59) rfl)) rfl, List.forall_mem_cons.mpr ⟨mU_ (tk_1 (List.mem_of_getElem? (i := 61) rfl)) rfl, fun _ h => absurd h List.not_mem_nil⟩⟩⟩⟩
set_option maxRecDepth 20000 in
theorem iw_RX1 : ∀ w ∈ u_ws RX1 TX1 5, w ∈ wU_ := by
  rw [show u_ws RX1 TX1 5 = [Cond.laysFinal "FlownOnceAndLaid$Floor" "FlownOnceAndLaid$Floor" "lying" "[LFlownOnceAndLaid$Carpet;", Cond.lays "FlownOnceAndLaid$Floor" "FlownOnceAndLaid$Floor" "count" "I", Cond.lays "FlownOnceAndLaid$Floor" "FlownOnceAndLaid$Floor" "night" "I", Cond.lays "FlownOnceAndLaid$Floor" "FlownOnceAndLaid$Floor" "rule" "I", Cond.lays "FlownOnceAndLaid$Floor" "FlownOnceAndLaid$Floor" "walls" "J"] from rfl]
  exact List.forall_mem_cons.mpr ⟨mU_ (tk_1 (List.mem_of_getElem? (i := 73) rfl)) rfl, List.forall_mem_cons.mpr ⟨mU_ (tk_1 (List.mem_of_getElem? (i := 75) rfl)) rfl, List.forall_mem_cons.mpr ⟨mU_ (tk_1 (List.mem_of_getElem? (i := 77) rfl)) rfl, List.forall_mem_cons.mpr ⟨mU_ (tk_1 (List.mem_of_getElem? (i := 79) rfl)) rfl, List.forall_mem_cons.mpr ⟨mU_ (tk_1 (List.mem_of_getElem? (i := 81) rfl)) rfl, fun _ h => absurd h List.not_mem_nil⟩⟩⟩⟩⟩
set_option maxRecDepth 20000 in
theorem iw_RX2 : ∀ w ∈ u_ws RX2 TX2 5, w ∈ wU_ := by
  rw [show u_ws RX2 TX2 5 = [Cond.laysFinal "FlownOnceAndLaid$Pairs" "FlownOnceAndLaid$Pairs" "queue" "[I", Cond.laysFinal "FlownOnceAndLaid$Pairs" "FlownOnceAndLaid$Pairs" "seen" "[J", Cond.lays "FlownOnceAndLaid$Pairs" "FlownOnceAndLaid$Pairs" "found" "I", Cond.lays "FlownOnceAndLaid$Pairs" "FlownOnceAndLaid$Pairs" "steps" "I", Cond.lays "FlownOnceAndLaid$Pairs" "FlownOnceAndLaid$Pairs" "on" "I"] from rfl]
  exact List.forall_mem_cons.mpr ⟨mU_ (tk_1 (List.mem_of_getElem? (i := 196) rfl)) rfl, List.forall_mem_cons.mpr ⟨mU_ (tk_1 (List.mem_of_getElem? (i := 198) rfl)) rfl, List.forall_mem_cons.mpr ⟨mU_ (tk_1 (List.mem_of_getElem? (i := 200) rfl)) rfl, List.forall_mem_cons.mpr ⟨mU_ (tk_1 (List.mem_of_getElem? (i := 202) rfl)) rfl, List.forall_mem_cons.mpr ⟨mU_ (tk_1 (List.mem_of_getElem? (i := 204) rfl)) rfl, fun _ h => absurd h List.not_mem_nil⟩⟩⟩⟩⟩
set_option maxRecDepth 20000 in
theorem iw_RX3 : ∀ w ∈ u_ws RX3 TX3 11, w ∈ wU_ := by
  rw [show u_ws RX3 TX3 11 = [Cond.laysFinal "FlownOnceAndLaid$Reader" "FlownOnceAndLaid$Reader" "tape" "[I", Cond.lays "FlownOnceAndLaid$Reader" "FlownOnceAndLaid$Reader" "size" "I", Cond.laysFinal "FlownOnceAndLaid$Reader" "FlownOnceAndLaid$Reader" "tokens" "[I", Cond.laysFinal "FlownOnceAndLaid$Reader" "FlownOnceAndLaid$Reader" "places" "[I", Cond.laysFinal "FlownOnceAndLaid$Reader" "FlownOnceAndLaid$Reader" "values" "[I", Cond.lays "FlownOnceAndLaid$Reader" "FlownOnceAndLaid$Reader" "tokenCount" "I", Cond.lays "FlownOnceAndLaid$Reader" "FlownOnceAndLaid$Reader" "at" "I", Cond.laysFinal "FlownOnceAndLaid$Reader" "FlownOnceAndLaid$Reader" "steps" "[I", Cond.lays "FlownOnceAndLaid$Reader" "FlownOnceAndLaid$Reader" "stepCount" "I", Cond.lays "FlownOnceAndLaid$Reader" "FlownOnceAndLaid$Reader" "eastsEnd" "I", Cond.lays "FlownOnceAndLaid$Reader" "FlownOnceAndLaid$Reader" "southsEnd" "I"] from rfl]
  exact List.forall_mem_cons.mpr ⟨mU_ (tk_1 (List.mem_of_getElem? (i := 102) rfl)) rfl, List.forall_mem_cons.mpr ⟨mU_ (tk_1 (List.mem_of_getElem? (i := 104) rfl)) rfl, List.forall_mem_cons.mpr ⟨mU_ (tk_1 (List.mem_of_getElem? (i := 106) rfl)) rfl, List.forall_mem_cons.mpr ⟨mU_ (tk_1 (List.mem_of_getElem? (i := 108) rfl)) rfl, List.forall_mem_cons.mpr ⟨mU_ (tk_1 (List.mem_of_getElem? (i := 110) rfl)) rfl, List.forall_mem_cons.mpr ⟨mU_ (tk_1 (List.mem_of_getElem? (i := 112) rfl)) rfl, List.forall_mem_cons.mpr ⟨mU_ (tk_1 (List.mem_of_getElem? (i := 114) rfl)) rfl, List.forall_mem_cons.mpr ⟨mU_ (tk_1 (List.mem_of_getElem? (i := 116) rfl)) rfl, List.forall_mem_cons.mpr ⟨mU_ (tk_1 (List.mem_of_getElem? (i := 118) rfl)) rfl, List.forall_mem_cons.mpr ⟨mU_ (tk_1 (List.mem_of_getElem? (i := 120) rfl)) rfl, List.forall_mem_cons.mpr ⟨mU_ (tk_1 (List.mem_of_getElem? (i := 122) rfl)) rfl, fun _ h => absurd h List.not_mem_nil⟩⟩⟩⟩⟩⟩⟩⟩⟩⟩⟩
set_option maxRecDepth 20000 in
theorem iw_RX4 : ∀ w ∈ u_ws RX4 TX4 3, w ∈ wU_ := by
  rw [show u_ws RX4 TX4 3 = [Cond.laysFinal "FlownOnceAndLaid$Sheet" "FlownOnceAndLaid$Sheet" "items" "[I", Cond.lays "FlownOnceAndLaid$Sheet" "FlownOnceAndLaid$Sheet" "sort" "I", Cond.lays "FlownOnceAndLaid$Sheet" "FlownOnceAndLaid$Sheet" "size" "I"] from rfl]
  exact List.forall_mem_cons.mpr ⟨mU_ (tk_1 (List.mem_of_getElem? (i := 219) rfl)) rfl, List.forall_mem_cons.mpr ⟨mU_ (tk_1 (List.mem_of_getElem? (i := 221) rfl)) rfl, List.forall_mem_cons.mpr ⟨mU_ (tk_1 (List.mem_of_getElem? (i := 223) rfl)) rfl, fun _ h => absurd h List.not_mem_nil⟩⟩⟩
set_option maxRecDepth 20000 in
theorem iw_RX5 : ∀ w ∈ u_ws RX5 TX5 3, w ∈ wU_ := by
  rw [show u_ws RX5 TX5 3 = [Cond.laysFinal "FlownOnceAndLaid$Text" "FlownOnceAndLaid$Text" "easts" "[I", Cond.laysFinal "FlownOnceAndLaid$Text" "FlownOnceAndLaid$Text" "souths" "[I", Cond.laysFinal "FlownOnceAndLaid$Text" "FlownOnceAndLaid$Text" "rises" "[I"] from rfl]
  exact List.forall_mem_cons.mpr ⟨mU_ (tk_2 (List.mem_of_getElem? (i := 176) rfl)) rfl, List.forall_mem_cons.mpr ⟨mU_ (tk_2 (List.mem_of_getElem? (i := 178) rfl)) rfl, List.forall_mem_cons.mpr ⟨mU_ (tk_2 (List.mem_of_getElem? (i := 180) rfl)) rfl, fun _ h => absurd h List.not_mem_nil⟩⟩⟩
set_option maxRecDepth 20000 in
theorem iw_RX6 : ∀ w ∈ u_ws RX6 TX6 5, w ∈ wU_ := by
  rw [show u_ws RX6 TX6 5 = [Cond.laysFinal "FlownOnceAndLaid$Thought" "FlownOnceAndLaid$Thought" "names" "[I", Cond.laysFinal "FlownOnceAndLaid$Thought" "FlownOnceAndLaid$Thought" "stack" "[I", Cond.lays "FlownOnceAndLaid$Thought" "FlownOnceAndLaid$Thought" "kind" "I", Cond.lays "FlownOnceAndLaid$Thought" "FlownOnceAndLaid$Thought" "walls" "J", Cond.lays "FlownOnceAndLaid$Thought" "FlownOnceAndLaid$Thought" "text" "LFlownOnceAndLaid$Text;"] from rfl]
  exact List.forall_mem_cons.mpr ⟨mU_ (tk_1 (List.mem_of_getElem? (i := 141) rfl)) rfl, List.forall_mem_cons.mpr ⟨mU_ (tk_1 (List.mem_of_getElem? (i := 143) rfl)) rfl, List.forall_mem_cons.mpr ⟨mU_ (tk_1 (List.mem_of_getElem? (i := 145) rfl)) rfl, List.forall_mem_cons.mpr ⟨mU_ (tk_1 (List.mem_of_getElem? (i := 147) rfl)) rfl, List.forall_mem_cons.mpr ⟨mU_ (tk_1 (List.mem_of_getElem? (i := 149) rfl)) rfl, fun _ h => absurd h List.not_mem_nil⟩⟩⟩⟩⟩
set_option maxRecDepth 20000 in
theorem iw_RX7 : ∀ w ∈ u_ws RX7 TX7 8, w ∈ wU_ := by
  rw [show u_ws RX7 TX7 8 = [Cond.laysFinal "FlownOnceAndLaid$Ways" "FlownOnceAndLaid$Ways" "steps" "[I", Cond.laysFinal "FlownOnceAndLaid$Ways" "FlownOnceAndLaid$Ways" "ahead" "[I", Cond.laysFinal "FlownOnceAndLaid$Ways" "FlownOnceAndLaid$Ways" "wordTo" "[I", Cond.laysFinal "FlownOnceAndLaid$Ways" "FlownOnceAndLaid$Ways" "order" "[I", Cond.laysFinal "FlownOnceAndLaid$Ways" "FlownOnceAndLaid$Ways" "goals" "[I", Cond.lays "FlownOnceAndLaid$Ways" "FlownOnceAndLaid$Ways" "found" "I", Cond.lays "FlownOnceAndLaid$Ways" "FlownOnceAndLaid$Ways" "movingWords" "I", Cond.lays "FlownOnceAndLaid$Ways" "FlownOnceAndLaid$Ways" "sinkBits" "J"] from rfl]
  exact List.forall_mem_cons.mpr ⟨mU_ (tk_1 (List.mem_of_getElem? (i := 166) rfl)) rfl, List.forall_mem_cons.mpr ⟨mU_ (tk_1 (List.mem_of_getElem? (i := 168) rfl)) rfl, List.forall_mem_cons.mpr ⟨mU_ (tk_1 (List.mem_of_getElem? (i := 170) rfl)) rfl, List.forall_mem_cons.mpr ⟨mU_ (tk_1 (List.mem_of_getElem? (i := 172) rfl)) rfl, List.forall_mem_cons.mpr ⟨mU_ (tk_1 (List.mem_of_getElem? (i := 174) rfl)) rfl, List.forall_mem_cons.mpr ⟨mU_ (tk_1 (List.mem_of_getElem? (i := 176) rfl)) rfl, List.forall_mem_cons.mpr ⟨mU_ (tk_1 (List.mem_of_getElem? (i := 178) rfl)) rfl, List.forall_mem_cons.mpr ⟨mU_ (tk_1 (List.mem_of_getElem? (i := 180) rfl)) rfl, fun _ h => absurd h List.not_mem_nil⟩⟩⟩⟩⟩⟩⟩⟩
set_option maxRecDepth 20000 in
theorem iw_RX8 : ∀ w ∈ u_ws RX8 TX8 13, w ∈ wU_ := by
  rw [show u_ws RX8 TX8 13 = [Cond.laysFinal "FlownOnceAndLaid" "FlownOnceAndLaid" "floor" "LFlownOnceAndLaid$Floor;", Cond.laysFinal "FlownOnceAndLaid" "FlownOnceAndLaid" "kept" "LFlownOnceAndLaid$Floor;", Cond.lays "FlownOnceAndLaid" "FlownOnceAndLaid" "imageIsKept" "Z", Cond.laysFinal "FlownOnceAndLaid" "FlownOnceAndLaid" "reader" "LFlownOnceAndLaid$Reader;", Cond.laysFinal "FlownOnceAndLaid" "FlownOnceAndLaid" "texts" "[LFlownOnceAndLaid$Text;", Cond.lays "FlownOnceAndLaid" "FlownOnceAndLaid" "textCount" "I", Cond.laysFinal "FlownOnceAndLaid" "FlownOnceAndLaid" "sheets" "[LFlownOnceAndLaid$Sheet;", Cond.laysFinal "FlownOnceAndLaid" "FlownOnceAndLaid" "thought" "LFlownOnceAndLaid$Thought;", Cond.laysFinal "FlownOnceAndLaid" "FlownOnceAndLaid" "oneWays" "LFlownOnceAndLaid$Ways;", Cond.laysFinal "FlownOnceAndLaid" "FlownOnceAndLaid" "otherWays" "LFlownOnceAndLaid$Ways;", Cond.laysFinal "FlownOnceAndLaid" "FlownOnceAndLaid" "pairs" "LFlownOnceAndLaid$Pairs;", Cond.lays "FlownOnceAndLaid" "FlownOnceAndLaid" "rowsNow" "[J", Cond.lays "FlownOnceAndLaid" "FlownOnceAndLaid" "rowsNext" "[J"] from rfl]
  exact List.forall_mem_cons.mpr ⟨mU_ (tk_2 (List.mem_of_getElem? (i := 201) rfl)) rfl, List.forall_mem_cons.mpr ⟨mU_ (tk_2 (List.mem_of_getElem? (i := 203) rfl)) rfl, List.forall_mem_cons.mpr ⟨mU_ (tk_2 (List.mem_of_getElem? (i := 205) rfl)) rfl, List.forall_mem_cons.mpr ⟨mU_ (tk_2 (List.mem_of_getElem? (i := 207) rfl)) rfl, List.forall_mem_cons.mpr ⟨mU_ (tk_2 (List.mem_of_getElem? (i := 209) rfl)) rfl, List.forall_mem_cons.mpr ⟨mU_ (tk_2 (List.mem_of_getElem? (i := 211) rfl)) rfl, List.forall_mem_cons.mpr ⟨mU_ (tk_2 (List.mem_of_getElem? (i := 213) rfl)) rfl, List.forall_mem_cons.mpr ⟨mU_ (tk_2 (List.mem_of_getElem? (i := 215) rfl)) rfl, List.forall_mem_cons.mpr ⟨mU_ (tk_2 (List.mem_of_getElem? (i := 217) rfl)) rfl, List.forall_mem_cons.mpr ⟨mU_ (tk_2 (List.mem_of_getElem? (i := 219) rfl)) rfl, List.forall_mem_cons.mpr ⟨mU_ (tk_2 (List.mem_of_getElem? (i := 221) rfl)) rfl, List.forall_mem_cons.mpr ⟨mU_ (tk_2 (List.mem_of_getElem? (i := 223) rfl)) rfl, List.forall_mem_cons.mpr ⟨mU_ (tk_2 (List.mem_of_getElem? (i := 225) rfl)) rfl, fun _ h => absurd h List.not_mem_nil⟩⟩⟩⟩⟩⟩⟩⟩⟩⟩⟩⟩⟩
set_option maxRecDepth 20000 in
theorem iw_RX9 : ∀ w ∈ u_ws RX9 TX9 42, w ∈ wU_ := by
  rw [show u_ws RX9 TX9 42 = [Cond.lays "FlownOnceAndLaidModel" "FlownOnceAndLaidModel" "thrown" "I", Cond.laysFinal "FlownOnceAndLaidModel" "FlownOnceAndLaidModel" "texts" "[I", Cond.laysFinal "FlownOnceAndLaidModel" "FlownOnceAndLaidModel" "textSize" "[I", Cond.lays "FlownOnceAndLaidModel" "FlownOnceAndLaidModel" "textCount" "I", Cond.lays "FlownOnceAndLaidModel" "FlownOnceAndLaidModel" "rule" "I", Cond.laysFinal "FlownOnceAndLaidModel" "FlownOnceAndLaidModel" "tape" "[I", Cond.lays "FlownOnceAndLaidModel" "FlownOnceAndLaidModel" "taped" "I", Cond.lays "FlownOnceAndLaidModel" "FlownOnceAndLaidModel" "nightNow" "I", Cond.laysFinal "FlownOnceAndLaidModel" "FlownOnceAndLaidModel" "walls" "[I", Cond.laysFinal "FlownOnceAndLaidModel" "FlownOnceAndLaidModel" "kinds" "[I", Cond.laysFinal "FlownOnceAndLaidModel" "FlownOnceAndLaidModel" "rows" "[I", Cond.lays "FlownOnceAndLaidModel" "FlownOnceAndLaidModel" "many" "I", Cond.lays "FlownOnceAndLaidModel" "FlownOnceAndLaidModel" "ofWord" "I", Cond.lays "FlownOnceAndLaidModel" "FlownOnceAndLaidModel" "ofNumber" "I", Cond.lays "FlownOnceAndLaidModel" "FlownOnceAndLaidModel" "ofColumn" "I", Cond.lays "FlownOnceAndLaidModel" "FlownOnceAndLaidModel" "ofRow" "I", Cond.lays "FlownOnceAndLaidModel" "FlownOnceAndLaidModel" "ofNight" "I", Cond.lays "FlownOnceAndLaidModel" "FlownOnceAndLaidModel" "ofFlown" "I", Cond.lays "FlownOnceAndLaidModel" "FlownOnceAndLaidModel" "from" "I", Cond.lays "FlownOnceAndLaidModel" "FlownOnceAndLaidModel" "size" "I", Cond.lays "FlownOnceAndLaidModel" "FlownOnceAndLaidModel" "here" "I", Cond.lays "FlownOnceAndLaidModel" "FlownOnceAndLaidModel" "token" "I", Cond.lays "FlownOnceAndLaidModel" "FlownOnceAndLaidModel" "tokenAt" "I", Cond.lays "FlownOnceAndLaidModel" "FlownOnceAndLaidModel" "tokenWorth" "J", Cond.lays "FlownOnceAndLaidModel" "FlownOnceAndLaidModel" "open" "I", Cond.lays "FlownOnceAndLaidModel" "FlownOnceAndLaidModel" "bad" "Z", Cond.lays "FlownOnceAndLaidModel" "FlownOnceAndLaidModel" "fault" "I", Cond.laysFinal "FlownOnceAndLaidModel" "FlownOnceAndLaidModel" "leads" "[I", Cond.laysFinal "FlownOnceAndLaidModel" "FlownOnceAndLaidModel" "leadsOther" "[I", Cond.laysFinal "FlownOnceAndLaidModel" "FlownOnceAndLaidModel" "far" "[I", Cond.laysFinal "FlownOnceAndLaidModel" "FlownOnceAndLaidModel" "bothFar" "[I", Cond.laysFinal "FlownOnceAndLaidModel" "FlownOnceAndLaidModel" "rowsNow" "[J", Cond.laysFinal "FlownOnceAndLaidModel" "FlownOnceAndLaidModel" "rowsNext" "[J", Cond.laysFinal "FlownOnceAndLaidModel" "FlownOnceAndLaidModel" "wallsKept" "[I", Cond.laysFinal "FlownOnceAndLaidModel" "FlownOnceAndLaidModel" "rowsKept" "[I", Cond.lays "FlownOnceAndLaidModel" "FlownOnceAndLaidModel" "manyKept" "I", Cond.lays "FlownOnceAndLaidModel" "FlownOnceAndLaidModel" "nightKept" "I", Cond.lays "FlownOnceAndLaidModel" "FlownOnceAndLaidModel" "ruleKept" "I", Cond.laysFinal "FlownOnceAndLaidModel" "FlownOnceAndLaidModel" "isThere" "[Z", Cond.laysFinal "FlownOnceAndLaidModel" "FlownOnceAndLaidModel" "sorts" "[I", Cond.laysFinal "FlownOnceAndLaidModel" "FlownOnceAndLaidModel" "sheetSize" "[I", Cond.laysFinal "FlownOnceAndLaidModel" "FlownOnceAndLaidModel" "items" "[I"] from rfl]
  exact List.forall_mem_cons.mpr ⟨mU_ (tk_5 (List.mem_of_getElem? (i := 1) rfl)) rfl, List.forall_mem_cons.mpr ⟨mU_ (tk_5 (List.mem_of_getElem? (i := 3) rfl)) rfl, List.forall_mem_cons.mpr ⟨mU_ (tk_5 (List.mem_of_getElem? (i := 5) rfl)) rfl, List.forall_mem_cons.mpr ⟨mU_ (tk_5 (List.mem_of_getElem? (i := 7) rfl)) rfl, List.forall_mem_cons.mpr ⟨mU_ (tk_5 (List.mem_of_getElem? (i := 9) rfl)) rfl, List.forall_mem_cons.mpr ⟨mU_ (tk_5 (List.mem_of_getElem? (i := 11) rfl)) rfl, List.forall_mem_cons.mpr ⟨mU_ (tk_5 (List.mem_of_getElem? (i := 13) rfl)) rfl, List.forall_mem_cons.mpr ⟨mU_ (tk_5 (List.mem_of_getElem? (i := 15) rfl)) rfl, List.forall_mem_cons.mpr ⟨mU_ (tk_5 (List.mem_of_getElem? (i := 17) rfl)) rfl, List.forall_mem_cons.mpr ⟨mU_ (tk_5 (List.mem_of_getElem? (i := 19) rfl)) rfl, List.forall_mem_cons.mpr ⟨mU_ (tk_5 (List.mem_of_getElem? (i := 21) rfl)) rfl, List.forall_mem_cons.mpr ⟨mU_ (tk_5 (List.mem_of_getElem? (i := 23) rfl)) rfl, List.forall_mem_cons.mpr ⟨mU_ (tk_5 (List.mem_of_getElem? (i := 25) rfl)) rfl, List.forall_mem_cons.mpr ⟨mU_ (tk_5 (List.mem_of_getElem? (i := 27) rfl)) rfl, List.forall_mem_cons.mpr ⟨mU_ (tk_5 (List.mem_of_getElem? (i := 29) rfl)) rfl, List.forall_mem_cons.mpr ⟨mU_ (tk_5 (List.mem_of_getElem? (i := 31) rfl)) rfl, List.forall_mem_cons.mpr ⟨mU_ (tk_5 (List.mem_of_getElem? (i := 33) rfl)) rfl, List.forall_mem_cons.mpr ⟨mU_ (tk_5 (List.mem_of_getElem? (i := 35) rfl)) rfl, List.forall_mem_cons.mpr ⟨mU_ (tk_5 (List.mem_of_getElem? (i := 37) rfl)) rfl, List.forall_mem_cons.mpr ⟨mU_ (tk_5 (List.mem_of_getElem? (i := 39) rfl)) rfl, List.forall_mem_cons.mpr ⟨mU_ (tk_5 (List.mem_of_getElem? (i := 41) rfl)) rfl, List.forall_mem_cons.mpr ⟨mU_ (tk_5 (List.mem_of_getElem? (i := 43) rfl)) rfl, List.forall_mem_cons.mpr ⟨mU_ (tk_5 (List.mem_of_getElem? (i := 45) rfl)) rfl, List.forall_mem_cons.mpr ⟨mU_ (tk_5 (List.mem_of_getElem? (i := 47) rfl)) rfl, List.forall_mem_cons.mpr ⟨mU_ (tk_5 (List.mem_of_getElem? (i := 49) rfl)) rfl, List.forall_mem_cons.mpr ⟨mU_ (tk_5 (List.mem_of_getElem? (i := 51) rfl)) rfl, List.forall_mem_cons.mpr ⟨mU_ (tk_5 (List.mem_of_getElem? (i := 53) rfl)) rfl, List.forall_mem_cons.mpr ⟨mU_ (tk_5 (List.mem_of_getElem? (i := 55) rfl)) rfl, List.forall_mem_cons.mpr ⟨mU_ (tk_5 (List.mem_of_getElem? (i := 57) rfl)) rfl, List.forall_mem_cons.mpr ⟨mU_ (tk_5 (List.mem_of_getElem? (i := 59) rfl)) rfl, List.forall_mem_cons.mpr ⟨mU_ (tk_5 (List.mem_of_getElem? (i := 61) rfl)) rfl, List.forall_mem_cons.mpr ⟨mU_ (tk_5 (List.mem_of_getElem? (i := 63) rfl)) rfl, List.forall_mem_cons.mpr ⟨mU_ (tk_5 (List.mem_of_getElem? (i := 65) rfl)) rfl, List.forall_mem_cons.mpr ⟨mU_ (tk_5 (List.mem_of_getElem? (i := 67) rfl)) rfl, List.forall_mem_cons.mpr ⟨mU_ (tk_5 (List.mem_of_getElem? (i := 69) rfl)) rfl, List.forall_mem_cons.mpr ⟨mU_ (tk_5 (List.mem_of_getElem? (i := 71) rfl)) rfl, List.forall_mem_cons.mpr ⟨mU_ (tk_5 (List.mem_of_getElem? (i := 73) rfl)) rfl, List.forall_mem_cons.mpr ⟨mU_ (tk_5 (List.mem_of_getElem? (i := 75) rfl)) rfl, List.forall_mem_cons.mpr ⟨mU_ (tk_5 (List.mem_of_getElem? (i := 77) rfl)) rfl, List.forall_mem_cons.mpr ⟨mU_ (tk_5 (List.mem_of_getElem? (i := 79) rfl)) rfl, List.forall_mem_cons.mpr ⟨mU_ (tk_5 (List.mem_of_getElem? (i := 81) rfl)) rfl, List.forall_mem_cons.mpr ⟨mU_ (tk_5 (List.mem_of_getElem? (i := 83) rfl)) rfl, fun _ h => absurd h List.not_mem_nil⟩⟩⟩⟩⟩⟩⟩⟩⟩⟩⟩⟩⟩⟩⟩⟩⟩⟩⟩⟩⟩⟩⟩⟩⟩⟩⟩⟩⟩⟩⟩⟩⟩⟩⟩⟩⟩⟩⟩⟩⟩⟩
/-- the links between nest mates -/
def wN_ : List Cond := [Cond.methodLinkNest RX8 11 yX1_init "FlownOnceAndLaid", Cond.methodLinkNest RX1 17 yX0_init "FlownOnceAndLaid", Cond.fieldLinkNest RX6 32 "FlownOnceAndLaid$Carpet" "kind" "I" "FlownOnceAndLaid", Cond.fieldLinkNest RX1 62 "FlownOnceAndLaid$Carpet" "kind" "I" "FlownOnceAndLaid", Cond.fieldLinkNest RX8 375 "FlownOnceAndLaid$Carpet" "kind" "I" "FlownOnceAndLaid", Cond.fieldLinkNest RX6 35 "FlownOnceAndLaid$Carpet" "number" "I" "FlownOnceAndLaid", Cond.fieldLinkNest RX1 65 "FlownOnceAndLaid$Carpet" "number" "I" "FlownOnceAndLaid", Cond.fieldLinkNest RX8 381 "FlownOnceAndLaid$Carpet" "number" "I" "FlownOnceAndLaid", Cond.fieldLinkNest RX1 43 "FlownOnceAndLaid$Carpet" "on" "I" "FlownOnceAndLaid", Cond.fieldLinkNest RX8 157 "FlownOnceAndLaid$Carpet" "on" "I" "FlownOnceAndLaid", Cond.fieldLinkNest RX6 38 "FlownOnceAndLaid$Carpet" "flown" "I" "FlownOnceAndLaid", Cond.fieldLinkNest RX1 36 "FlownOnceAndLaid$Carpet" "flown" "I" "FlownOnceAndLaid", Cond.fieldLinkNest RX8 185 "FlownOnceAndLaid$Carpet" "flown" "I" "FlownOnceAndLaid", Cond.fieldLinkNest RX8 248 "FlownOnceAndLaid$Floor" "count" "I" "FlownOnceAndLaid", Cond.fieldLinkNest RX8 120 "FlownOnceAndLaid$Floor" "night" "I" "FlownOnceAndLaid", Cond.fieldLinkNest RX8 178 "FlownOnceAndLaid$Floor" "rule" "I" "FlownOnceAndLaid", Cond.fieldLinkNest RX8 338 "FlownOnceAndLaid$Floor" "walls" "J" "FlownOnceAndLaid", Cond.methodLinkNest RX8 25 yX3_init "FlownOnceAndLaid", Cond.fieldLinkNest RX8 351 "FlownOnceAndLaid$Reader" "size" "I" "FlownOnceAndLaid", Cond.methodLinkNest RX8 48 yX6_init "FlownOnceAndLaid", Cond.methodLinkNest RX8 55 yX7_init "FlownOnceAndLaid", Cond.methodLinkNest RX8 65 yX2_init "FlownOnceAndLaid", Cond.fieldLinkNest RX8 231 "FlownOnceAndLaid$Pairs" "steps" "I" "FlownOnceAndLaid", Cond.fieldLinkNest RX8 234 "FlownOnceAndLaid$Pairs" "on" "I" "FlownOnceAndLaid", Cond.methodLinkNest RX8 77 yX4_init "FlownOnceAndLaid", Cond.fieldLinkNest RX8 365 "FlownOnceAndLaid$Sheet" "items" "[I" "FlownOnceAndLaid", Cond.fieldLinkNest RX8 359 "FlownOnceAndLaid$Sheet" "sort" "I" "FlownOnceAndLaid", Cond.fieldLinkNest RX8 196 "FlownOnceAndLaid$Sheet" "size" "I" "FlownOnceAndLaid", Cond.methodLinkNest RX8 90 yX3_put "FlownOnceAndLaid", Cond.methodLinkNest RX3 46 yX8_isBelow "FlownOnceAndLaid", Cond.methodLinkNest RX8 94 yX3_reads "FlownOnceAndLaid", Cond.methodLinkNest RX8 98 yX3_made "FlownOnceAndLaid", Cond.methodLinkNest RX3 67 yX5_init "FlownOnceAndLaid", Cond.fieldLinkNest RX6 55 "FlownOnceAndLaid$Text" "easts" "[I" "FlownOnceAndLaid", Cond.fieldLinkNest RX6 69 "FlownOnceAndLaid$Text" "souths" "[I" "FlownOnceAndLaid", Cond.fieldLinkNest RX6 75 "FlownOnceAndLaid$Text" "rises" "[I" "FlownOnceAndLaid", Cond.methodLinkNest RX8 102 yX3_clear "FlownOnceAndLaid", Cond.methodLinkNest RX8 123 yX1_wallOn "FlownOnceAndLaid", Cond.methodLinkNest RX8 126 yX1_putWall "FlownOnceAndLaid", Cond.methodLinkNest RX8 130 yX1_carpetAt "FlownOnceAndLaid", Cond.methodLinkNest RX1 22 yX8_isBelow "FlownOnceAndLaid", Cond.methodLinkNest RX8 137 yX0_tell "FlownOnceAndLaid", Cond.methodLinkNest RX8 142 yX0_put "FlownOnceAndLaid", Cond.methodLinkNest RX8 147 yX1_add "FlownOnceAndLaid", Cond.methodLinkNest RX1 26 yX0_become "FlownOnceAndLaid", Cond.methodLinkNest RX8 387 yX6_takeUp "FlownOnceAndLaid", Cond.methodLinkNest RX8 309 yX6_goBy "FlownOnceAndLaid", Cond.methodLinkNest RX8 163 yX1_nearTo "FlownOnceAndLaid", Cond.methodLinkNest RX8 166 yX6_height "FlownOnceAndLaid", Cond.methodLinkNest RX6 62 yX8_bounded "FlownOnceAndLaid", Cond.methodLinkNest RX8 160 yX6_goal "FlownOnceAndLaid", Cond.methodLinkNest RX6 45 yX8_isBelow "FlownOnceAndLaid", Cond.methodLinkNest RX8 169 yX6_east "FlownOnceAndLaid", Cond.methodLinkNest RX8 172 yX6_south "FlownOnceAndLaid", Cond.methodLinkNest RX8 175 yX3_place "FlownOnceAndLaid", Cond.methodLinkNest RX8 281 yX4_isMissing "FlownOnceAndLaid", Cond.methodLinkNest RX8 284 yX4_isAllBelow "FlownOnceAndLaid", Cond.methodLinkNest RX4 28 yX8_isBelow "FlownOnceAndLaid", Cond.methodLinkNest RX8 199 yX4_item "FlownOnceAndLaid", Cond.methodLinkNest RX8 251 yX7_explore "FlownOnceAndLaid", Cond.methodLinkNest RX7 52 yX8_isBelow "FlownOnceAndLaid", Cond.methodLinkNest RX7 56 yX6_goal "FlownOnceAndLaid", Cond.methodLinkNest RX8 206 yX7_stepsTo "FlownOnceAndLaid", Cond.methodLinkNest RX8 209 yX7_digitsTo "FlownOnceAndLaid", Cond.methodLinkNest RX8 214 yX7_reached "FlownOnceAndLaid", Cond.methodLinkNest RX8 218 yX7_sinks "FlownOnceAndLaid", Cond.methodLinkNest RX8 221 yX7_idleWords "FlownOnceAndLaid", Cond.methodLinkNest RX8 224 yX7_furthestCell "FlownOnceAndLaid", Cond.methodLinkNest RX8 227 yX2_seek "FlownOnceAndLaid", Cond.methodLinkNest RX2 35 yX7_start "FlownOnceAndLaid", Cond.methodLinkNest RX2 53 yX8_isBelow "FlownOnceAndLaid", Cond.methodLinkNest RX2 49 yX7_goalOf "FlownOnceAndLaid", Cond.methodLinkNest RX8 235 yX7_start "FlownOnceAndLaid", Cond.methodLinkNest RX8 244 yX7_spread "FlownOnceAndLaid", Cond.methodLinkNest RX8 292 yX6_firstWord "FlownOnceAndLaid", Cond.methodLinkNest RX8 295 yX6_wordCount "FlownOnceAndLaid", Cond.methodLinkNest RX8 298 yX6_beOfKind "FlownOnceAndLaid", Cond.methodLinkNest RX8 302 yX6_beNumbered "FlownOnceAndLaid", Cond.methodLinkNest RX8 334 yX1_becomeLike "FlownOnceAndLaid", Cond.methodLinkNest RX8 348 yX1_flownCount "FlownOnceAndLaid", Cond.methodLinkNest RX8 352 yX4_makeMissing "FlownOnceAndLaid", Cond.methodLinkNest RX8 355 yX4_makeRow "FlownOnceAndLaid", Cond.methodLinkNest RX8 358 yX4_put "FlownOnceAndLaid", Cond.methodLinkNest RX8 362 yX4_holds "FlownOnceAndLaid"]
set_option maxRecDepth 20000 in
theorem nm_RX8_11 : Cond.methodLinkNest RX8 11 yX1_init "FlownOnceAndLaid" ∈ wN_ := List.mem_of_getElem? (i := 0) rfl
set_option maxRecDepth 20000 in
theorem nm_RX1_17 : Cond.methodLinkNest RX1 17 yX0_init "FlownOnceAndLaid" ∈ wN_ := List.mem_of_getElem? (i := 1) rfl
set_option maxRecDepth 20000 in
theorem nf_RX6_32 : Cond.fieldLinkNest RX6 32 "FlownOnceAndLaid$Carpet" "kind" "I" "FlownOnceAndLaid" ∈ wN_ := List.mem_of_getElem? (i := 2) rfl
set_option maxRecDepth 20000 in
theorem nf_RX1_62 : Cond.fieldLinkNest RX1 62 "FlownOnceAndLaid$Carpet" "kind" "I" "FlownOnceAndLaid" ∈ wN_ := List.mem_of_getElem? (i := 3) rfl
set_option maxRecDepth 20000 in
theorem nf_RX8_375 : Cond.fieldLinkNest RX8 375 "FlownOnceAndLaid$Carpet" "kind" "I" "FlownOnceAndLaid" ∈ wN_ := List.mem_of_getElem? (i := 4) rfl
set_option maxRecDepth 20000 in
theorem nf_RX6_35 : Cond.fieldLinkNest RX6 35 "FlownOnceAndLaid$Carpet" "number" "I" "FlownOnceAndLaid" ∈ wN_ := List.mem_of_getElem? (i := 5) rfl
set_option maxRecDepth 20000 in
theorem nf_RX1_65 : Cond.fieldLinkNest RX1 65 "FlownOnceAndLaid$Carpet" "number" "I" "FlownOnceAndLaid" ∈ wN_ := List.mem_of_getElem? (i := 6) rfl
set_option maxRecDepth 20000 in
theorem nf_RX8_381 : Cond.fieldLinkNest RX8 381 "FlownOnceAndLaid$Carpet" "number" "I" "FlownOnceAndLaid" ∈ wN_ := List.mem_of_getElem? (i := 7) rfl
set_option maxRecDepth 20000 in
theorem nf_RX1_43 : Cond.fieldLinkNest RX1 43 "FlownOnceAndLaid$Carpet" "on" "I" "FlownOnceAndLaid" ∈ wN_ := List.mem_of_getElem? (i := 8) rfl
set_option maxRecDepth 20000 in
theorem nf_RX8_157 : Cond.fieldLinkNest RX8 157 "FlownOnceAndLaid$Carpet" "on" "I" "FlownOnceAndLaid" ∈ wN_ := List.mem_of_getElem? (i := 9) rfl
set_option maxRecDepth 20000 in
theorem nf_RX6_38 : Cond.fieldLinkNest RX6 38 "FlownOnceAndLaid$Carpet" "flown" "I" "FlownOnceAndLaid" ∈ wN_ := List.mem_of_getElem? (i := 10) rfl
set_option maxRecDepth 20000 in
theorem nf_RX1_36 : Cond.fieldLinkNest RX1 36 "FlownOnceAndLaid$Carpet" "flown" "I" "FlownOnceAndLaid" ∈ wN_ := List.mem_of_getElem? (i := 11) rfl
set_option maxRecDepth 20000 in
theorem nf_RX8_185 : Cond.fieldLinkNest RX8 185 "FlownOnceAndLaid$Carpet" "flown" "I" "FlownOnceAndLaid" ∈ wN_ := List.mem_of_getElem? (i := 12) rfl
set_option maxRecDepth 20000 in
theorem nf_RX8_248 : Cond.fieldLinkNest RX8 248 "FlownOnceAndLaid$Floor" "count" "I" "FlownOnceAndLaid" ∈ wN_ := List.mem_of_getElem? (i := 13) rfl
set_option maxRecDepth 20000 in
theorem nf_RX8_120 : Cond.fieldLinkNest RX8 120 "FlownOnceAndLaid$Floor" "night" "I" "FlownOnceAndLaid" ∈ wN_ := List.mem_of_getElem? (i := 14) rfl
set_option maxRecDepth 20000 in
theorem nf_RX8_178 : Cond.fieldLinkNest RX8 178 "FlownOnceAndLaid$Floor" "rule" "I" "FlownOnceAndLaid" ∈ wN_ := List.mem_of_getElem? (i := 15) rfl
set_option maxRecDepth 20000 in
theorem nf_RX8_338 : Cond.fieldLinkNest RX8 338 "FlownOnceAndLaid$Floor" "walls" "J" "FlownOnceAndLaid" ∈ wN_ := List.mem_of_getElem? (i := 16) rfl
set_option maxRecDepth 20000 in
theorem nm_RX8_25 : Cond.methodLinkNest RX8 25 yX3_init "FlownOnceAndLaid" ∈ wN_ := List.mem_of_getElem? (i := 17) rfl
set_option maxRecDepth 20000 in
theorem nf_RX8_351 : Cond.fieldLinkNest RX8 351 "FlownOnceAndLaid$Reader" "size" "I" "FlownOnceAndLaid" ∈ wN_ := List.mem_of_getElem? (i := 18) rfl
set_option maxRecDepth 20000 in
theorem nm_RX8_48 : Cond.methodLinkNest RX8 48 yX6_init "FlownOnceAndLaid" ∈ wN_ := List.mem_of_getElem? (i := 19) rfl
set_option maxRecDepth 20000 in
theorem nm_RX8_55 : Cond.methodLinkNest RX8 55 yX7_init "FlownOnceAndLaid" ∈ wN_ := List.mem_of_getElem? (i := 20) rfl
set_option maxRecDepth 20000 in
theorem nm_RX8_65 : Cond.methodLinkNest RX8 65 yX2_init "FlownOnceAndLaid" ∈ wN_ := List.mem_of_getElem? (i := 21) rfl
set_option maxRecDepth 20000 in
theorem nf_RX8_231 : Cond.fieldLinkNest RX8 231 "FlownOnceAndLaid$Pairs" "steps" "I" "FlownOnceAndLaid" ∈ wN_ := List.mem_of_getElem? (i := 22) rfl
set_option maxRecDepth 20000 in
theorem nf_RX8_234 : Cond.fieldLinkNest RX8 234 "FlownOnceAndLaid$Pairs" "on" "I" "FlownOnceAndLaid" ∈ wN_ := List.mem_of_getElem? (i := 23) rfl
set_option maxRecDepth 20000 in
theorem nm_RX8_77 : Cond.methodLinkNest RX8 77 yX4_init "FlownOnceAndLaid" ∈ wN_ := List.mem_of_getElem? (i := 24) rfl
set_option maxRecDepth 20000 in
theorem nf_RX8_365 : Cond.fieldLinkNest RX8 365 "FlownOnceAndLaid$Sheet" "items" "[I" "FlownOnceAndLaid" ∈ wN_ := List.mem_of_getElem? (i := 25) rfl
set_option maxRecDepth 20000 in
theorem nf_RX8_359 : Cond.fieldLinkNest RX8 359 "FlownOnceAndLaid$Sheet" "sort" "I" "FlownOnceAndLaid" ∈ wN_ := List.mem_of_getElem? (i := 26) rfl
set_option maxRecDepth 20000 in
theorem nf_RX8_196 : Cond.fieldLinkNest RX8 196 "FlownOnceAndLaid$Sheet" "size" "I" "FlownOnceAndLaid" ∈ wN_ := List.mem_of_getElem? (i := 27) rfl
set_option maxRecDepth 20000 in
theorem nm_RX8_90 : Cond.methodLinkNest RX8 90 yX3_put "FlownOnceAndLaid" ∈ wN_ := List.mem_of_getElem? (i := 28) rfl
set_option maxRecDepth 20000 in
theorem nm_RX3_46 : Cond.methodLinkNest RX3 46 yX8_isBelow "FlownOnceAndLaid" ∈ wN_ := List.mem_of_getElem? (i := 29) rfl
set_option maxRecDepth 20000 in
theorem nm_RX8_94 : Cond.methodLinkNest RX8 94 yX3_reads "FlownOnceAndLaid" ∈ wN_ := List.mem_of_getElem? (i := 30) rfl
set_option maxRecDepth 20000 in
theorem nm_RX8_98 : Cond.methodLinkNest RX8 98 yX3_made "FlownOnceAndLaid" ∈ wN_ := List.mem_of_getElem? (i := 31) rfl
set_option maxRecDepth 20000 in
theorem nm_RX3_67 : Cond.methodLinkNest RX3 67 yX5_init "FlownOnceAndLaid" ∈ wN_ := List.mem_of_getElem? (i := 32) rfl
set_option maxRecDepth 20000 in
theorem nf_RX6_55 : Cond.fieldLinkNest RX6 55 "FlownOnceAndLaid$Text" "easts" "[I" "FlownOnceAndLaid" ∈ wN_ := List.mem_of_getElem? (i := 33) rfl
set_option maxRecDepth 20000 in
theorem nf_RX6_69 : Cond.fieldLinkNest RX6 69 "FlownOnceAndLaid$Text" "souths" "[I" "FlownOnceAndLaid" ∈ wN_ := List.mem_of_getElem? (i := 34) rfl
set_option maxRecDepth 20000 in
theorem nf_RX6_75 : Cond.fieldLinkNest RX6 75 "FlownOnceAndLaid$Text" "rises" "[I" "FlownOnceAndLaid" ∈ wN_ := List.mem_of_getElem? (i := 35) rfl
set_option maxRecDepth 20000 in
theorem nm_RX8_102 : Cond.methodLinkNest RX8 102 yX3_clear "FlownOnceAndLaid" ∈ wN_ := List.mem_of_getElem? (i := 36) rfl
set_option maxRecDepth 20000 in
theorem nm_RX8_123 : Cond.methodLinkNest RX8 123 yX1_wallOn "FlownOnceAndLaid" ∈ wN_ := List.mem_of_getElem? (i := 37) rfl
set_option maxRecDepth 20000 in
theorem nm_RX8_126 : Cond.methodLinkNest RX8 126 yX1_putWall "FlownOnceAndLaid" ∈ wN_ := List.mem_of_getElem? (i := 38) rfl
set_option maxRecDepth 20000 in
theorem nm_RX8_130 : Cond.methodLinkNest RX8 130 yX1_carpetAt "FlownOnceAndLaid" ∈ wN_ := List.mem_of_getElem? (i := 39) rfl
set_option maxRecDepth 20000 in
theorem nm_RX1_22 : Cond.methodLinkNest RX1 22 yX8_isBelow "FlownOnceAndLaid" ∈ wN_ := List.mem_of_getElem? (i := 40) rfl
set_option maxRecDepth 20000 in
theorem nm_RX8_137 : Cond.methodLinkNest RX8 137 yX0_tell "FlownOnceAndLaid" ∈ wN_ := List.mem_of_getElem? (i := 41) rfl
set_option maxRecDepth 20000 in
theorem nm_RX8_142 : Cond.methodLinkNest RX8 142 yX0_put "FlownOnceAndLaid" ∈ wN_ := List.mem_of_getElem? (i := 42) rfl
set_option maxRecDepth 20000 in
theorem nm_RX8_147 : Cond.methodLinkNest RX8 147 yX1_add "FlownOnceAndLaid" ∈ wN_ := List.mem_of_getElem? (i := 43) rfl
set_option maxRecDepth 20000 in
theorem nm_RX1_26 : Cond.methodLinkNest RX1 26 yX0_become "FlownOnceAndLaid" ∈ wN_ := List.mem_of_getElem? (i := 44) rfl
set_option maxRecDepth 20000 in
theorem nm_RX8_387 : Cond.methodLinkNest RX8 387 yX6_takeUp "FlownOnceAndLaid" ∈ wN_ := List.mem_of_getElem? (i := 45) rfl
set_option maxRecDepth 20000 in
theorem nm_RX8_309 : Cond.methodLinkNest RX8 309 yX6_goBy "FlownOnceAndLaid" ∈ wN_ := List.mem_of_getElem? (i := 46) rfl
set_option maxRecDepth 20000 in
theorem nm_RX8_163 : Cond.methodLinkNest RX8 163 yX1_nearTo "FlownOnceAndLaid" ∈ wN_ := List.mem_of_getElem? (i := 47) rfl
set_option maxRecDepth 20000 in
theorem nm_RX8_166 : Cond.methodLinkNest RX8 166 yX6_height "FlownOnceAndLaid" ∈ wN_ := List.mem_of_getElem? (i := 48) rfl
set_option maxRecDepth 20000 in
theorem nm_RX6_62 : Cond.methodLinkNest RX6 62 yX8_bounded "FlownOnceAndLaid" ∈ wN_ := List.mem_of_getElem? (i := 49) rfl
set_option maxRecDepth 20000 in
theorem nm_RX8_160 : Cond.methodLinkNest RX8 160 yX6_goal "FlownOnceAndLaid" ∈ wN_ := List.mem_of_getElem? (i := 50) rfl
set_option maxRecDepth 20000 in
theorem nm_RX6_45 : Cond.methodLinkNest RX6 45 yX8_isBelow "FlownOnceAndLaid" ∈ wN_ := List.mem_of_getElem? (i := 51) rfl
set_option maxRecDepth 20000 in
theorem nm_RX8_169 : Cond.methodLinkNest RX8 169 yX6_east "FlownOnceAndLaid" ∈ wN_ := List.mem_of_getElem? (i := 52) rfl
set_option maxRecDepth 20000 in
theorem nm_RX8_172 : Cond.methodLinkNest RX8 172 yX6_south "FlownOnceAndLaid" ∈ wN_ := List.mem_of_getElem? (i := 53) rfl
set_option maxRecDepth 20000 in
theorem nm_RX8_175 : Cond.methodLinkNest RX8 175 yX3_place "FlownOnceAndLaid" ∈ wN_ := List.mem_of_getElem? (i := 54) rfl
set_option maxRecDepth 20000 in
theorem nm_RX8_281 : Cond.methodLinkNest RX8 281 yX4_isMissing "FlownOnceAndLaid" ∈ wN_ := List.mem_of_getElem? (i := 55) rfl
set_option maxRecDepth 20000 in
theorem nm_RX8_284 : Cond.methodLinkNest RX8 284 yX4_isAllBelow "FlownOnceAndLaid" ∈ wN_ := List.mem_of_getElem? (i := 56) rfl
set_option maxRecDepth 20000 in
theorem nm_RX4_28 : Cond.methodLinkNest RX4 28 yX8_isBelow "FlownOnceAndLaid" ∈ wN_ := List.mem_of_getElem? (i := 57) rfl
set_option maxRecDepth 20000 in
theorem nm_RX8_199 : Cond.methodLinkNest RX8 199 yX4_item "FlownOnceAndLaid" ∈ wN_ := List.mem_of_getElem? (i := 58) rfl
set_option maxRecDepth 20000 in
theorem nm_RX8_251 : Cond.methodLinkNest RX8 251 yX7_explore "FlownOnceAndLaid" ∈ wN_ := List.mem_of_getElem? (i := 59) rfl
set_option maxRecDepth 20000 in
theorem nm_RX7_52 : Cond.methodLinkNest RX7 52 yX8_isBelow "FlownOnceAndLaid" ∈ wN_ := List.mem_of_getElem? (i := 60) rfl
set_option maxRecDepth 20000 in
theorem nm_RX7_56 : Cond.methodLinkNest RX7 56 yX6_goal "FlownOnceAndLaid" ∈ wN_ := List.mem_of_getElem? (i := 61) rfl
set_option maxRecDepth 20000 in
theorem nm_RX8_206 : Cond.methodLinkNest RX8 206 yX7_stepsTo "FlownOnceAndLaid" ∈ wN_ := List.mem_of_getElem? (i := 62) rfl
set_option maxRecDepth 20000 in
theorem nm_RX8_209 : Cond.methodLinkNest RX8 209 yX7_digitsTo "FlownOnceAndLaid" ∈ wN_ := List.mem_of_getElem? (i := 63) rfl
set_option maxRecDepth 20000 in
theorem nm_RX8_214 : Cond.methodLinkNest RX8 214 yX7_reached "FlownOnceAndLaid" ∈ wN_ := List.mem_of_getElem? (i := 64) rfl
set_option maxRecDepth 20000 in
theorem nm_RX8_218 : Cond.methodLinkNest RX8 218 yX7_sinks "FlownOnceAndLaid" ∈ wN_ := List.mem_of_getElem? (i := 65) rfl
set_option maxRecDepth 20000 in
theorem nm_RX8_221 : Cond.methodLinkNest RX8 221 yX7_idleWords "FlownOnceAndLaid" ∈ wN_ := List.mem_of_getElem? (i := 66) rfl
set_option maxRecDepth 20000 in
theorem nm_RX8_224 : Cond.methodLinkNest RX8 224 yX7_furthestCell "FlownOnceAndLaid" ∈ wN_ := List.mem_of_getElem? (i := 67) rfl
set_option maxRecDepth 20000 in
theorem nm_RX8_227 : Cond.methodLinkNest RX8 227 yX2_seek "FlownOnceAndLaid" ∈ wN_ := List.mem_of_getElem? (i := 68) rfl
set_option maxRecDepth 20000 in
theorem nm_RX2_35 : Cond.methodLinkNest RX2 35 yX7_start "FlownOnceAndLaid" ∈ wN_ := List.mem_of_getElem? (i := 69) rfl
set_option maxRecDepth 20000 in
theorem nm_RX2_53 : Cond.methodLinkNest RX2 53 yX8_isBelow "FlownOnceAndLaid" ∈ wN_ := List.mem_of_getElem? (i := 70) rfl
set_option maxRecDepth 20000 in
theorem nm_RX2_49 : Cond.methodLinkNest RX2 49 yX7_goalOf "FlownOnceAndLaid" ∈ wN_ := List.mem_of_getElem? (i := 71) rfl
set_option maxRecDepth 20000 in
theorem nm_RX8_235 : Cond.methodLinkNest RX8 235 yX7_start "FlownOnceAndLaid" ∈ wN_ := List.mem_of_getElem? (i := 72) rfl
set_option maxRecDepth 20000 in
theorem nm_RX8_244 : Cond.methodLinkNest RX8 244 yX7_spread "FlownOnceAndLaid" ∈ wN_ := List.mem_of_getElem? (i := 73) rfl
set_option maxRecDepth 20000 in
theorem nm_RX8_292 : Cond.methodLinkNest RX8 292 yX6_firstWord "FlownOnceAndLaid" ∈ wN_ := List.mem_of_getElem? (i := 74) rfl
set_option maxRecDepth 20000 in
theorem nm_RX8_295 : Cond.methodLinkNest RX8 295 yX6_wordCount "FlownOnceAndLaid" ∈ wN_ := List.mem_of_getElem? (i := 75) rfl
set_option maxRecDepth 20000 in
theorem nm_RX8_298 : Cond.methodLinkNest RX8 298 yX6_beOfKind "FlownOnceAndLaid" ∈ wN_ := List.mem_of_getElem? (i := 76) rfl
set_option maxRecDepth 20000 in
theorem nm_RX8_302 : Cond.methodLinkNest RX8 302 yX6_beNumbered "FlownOnceAndLaid" ∈ wN_ := List.mem_of_getElem? (i := 77) rfl
set_option maxRecDepth 20000 in
theorem nm_RX8_334 : Cond.methodLinkNest RX8 334 yX1_becomeLike "FlownOnceAndLaid" ∈ wN_ := List.mem_of_getElem? (i := 78) rfl
set_option maxRecDepth 20000 in
theorem nm_RX8_348 : Cond.methodLinkNest RX8 348 yX1_flownCount "FlownOnceAndLaid" ∈ wN_ := List.mem_of_getElem? (i := 79) rfl
set_option maxRecDepth 20000 in
theorem nm_RX8_352 : Cond.methodLinkNest RX8 352 yX4_makeMissing "FlownOnceAndLaid" ∈ wN_ := List.mem_of_getElem? (i := 80) rfl
set_option maxRecDepth 20000 in
theorem nm_RX8_355 : Cond.methodLinkNest RX8 355 yX4_makeRow "FlownOnceAndLaid" ∈ wN_ := List.mem_of_getElem? (i := 81) rfl
set_option maxRecDepth 20000 in
theorem nm_RX8_358 : Cond.methodLinkNest RX8 358 yX4_put "FlownOnceAndLaid" ∈ wN_ := List.mem_of_getElem? (i := 82) rfl
set_option maxRecDepth 20000 in
theorem nm_RX8_362 : Cond.methodLinkNest RX8 362 yX4_holds "FlownOnceAndLaid" ∈ wN_ := List.mem_of_getElem? (i := 83) rfl
set_option maxRecDepth 20000 in
theorem nt_ : ∀ w ∈ wN_, w ∈ lw_tbl := List.forall_mem_cons.mpr ⟨tk_1 (List.mem_of_getElem? (i := 29) rfl), List.forall_mem_cons.mpr ⟨tk_1 (List.mem_of_getElem? (i := 36) rfl), List.forall_mem_cons.mpr ⟨tk_1 (List.mem_of_getElem? (i := 41) rfl), List.forall_mem_cons.mpr ⟨tk_1 (List.mem_of_getElem? (i := 42) rfl), List.forall_mem_cons.mpr ⟨tk_1 (List.mem_of_getElem? (i := 43) rfl), List.forall_mem_cons.mpr ⟨tk_1 (List.mem_of_getElem? (i := 45) rfl), List.forall_mem_cons.mpr ⟨tk_1 (List.mem_of_getElem? (i := 46) rfl), List.forall_mem_cons.mpr ⟨tk_1 (List.mem_of_getElem? (i := 47) rfl), List.forall_mem_cons.mpr ⟨tk_1 (List.mem_of_getElem? (i := 49) rfl), List.forall_mem_cons.mpr ⟨tk_1 (List.mem_of_getElem? (i := 50) rfl), List.forall_mem_cons.mpr ⟨tk_1 (List.mem_of_getElem? (i := 52) rfl), List.forall_mem_cons.mpr ⟨tk_1 (List.mem_of_getElem? (i := 53) rfl), List.forall_mem_cons.mpr ⟨tk_1 (List.mem_of_getElem? (i := 54) rfl), List.forall_mem_cons.mpr ⟨tk_1 (List.mem_of_getElem? (i := 66) rfl), List.forall_mem_cons.mpr ⟨tk_1 (List.mem_of_getElem? (i := 67) rfl), List.forall_mem_cons.mpr ⟨tk_1 (List.mem_of_getElem? (i := 70) rfl), List.forall_mem_cons.mpr ⟨tk_1 (List.mem_of_getElem? (i := 72) rfl), List.forall_mem_cons.mpr ⟨tk_1 (List.mem_of_getElem? (i := 86) rfl), List.forall_mem_cons.mpr ⟨tk_1 (List.mem_of_getElem? (i := 92) rfl), List.forall_mem_cons.mpr ⟨tk_1 (List.mem_of_getElem? (i := 132) rfl), List.forall_mem_cons.mpr ⟨tk_1 (List.mem_of_getElem? (i := 154) rfl), List.forall_mem_cons.mpr ⟨tk_1 (List.mem_of_getElem? (i := 185) rfl), List.forall_mem_cons.mpr ⟨tk_1 (List.mem_of_getElem? (i := 193) rfl), List.forall_mem_cons.mpr ⟨tk_1 (List.mem_of_getElem? (i := 195) rfl), List.forall_mem_cons.mpr ⟨tk_1 (List.mem_of_getElem? (i := 209) rfl), List.forall_mem_cons.mpr ⟨tk_1 (List.mem_of_getElem? (i := 214) rfl), List.forall_mem_cons.mpr ⟨tk_1 (List.mem_of_getElem? (i := 216) rfl), List.forall_mem_cons.mpr ⟨tk_1 (List.mem_of_getElem? (i := 218) rfl), List.forall_mem_cons.mpr ⟨tk_2 (List.mem_of_getElem? (i := 35) rfl), List.forall_mem_cons.mpr ⟨tk_2 (List.mem_of_getElem? (i := 39) rfl), List.forall_mem_cons.mpr ⟨tk_2 (List.mem_of_getElem? (i := 42) rfl), List.forall_mem_cons.mpr ⟨tk_2 (List.mem_of_getElem? (i := 153) rfl), List.forall_mem_cons.mpr ⟨tk_2 (List.mem_of_getElem? (i := 166) rfl), List.forall_mem_cons.mpr ⟨tk_2 (List.mem_of_getElem? (i := 171) rfl), List.forall_mem_cons.mpr ⟨tk_2 (List.mem_of_getElem? (i := 173) rfl), List.forall_mem_cons.mpr ⟨tk_2 (List.mem_of_getElem? (i := 175) rfl), List.forall_mem_cons.mpr ⟨tk_2 (List.mem_of_getElem? (i := 184) rfl), List.forall_mem_cons.mpr ⟨tk_3 (List.mem_of_getElem? (i := 1) rfl), List.forall_mem_cons.mpr ⟨tk_3 (List.mem_of_getElem? (i := 5) rfl), List.forall_mem_cons.mpr ⟨tk_3 (List.mem_of_getElem? (i := 14) rfl), List.forall_mem_cons.mpr ⟨tk_3 (List.mem_of_getElem? (i := 18) rfl), List.forall_mem_cons.mpr ⟨tk_3 (List.mem_of_getElem? (i := 22) rfl), List.forall_mem_cons.mpr ⟨tk_3 (List.mem_of_getElem? (i := 26) rfl), List.forall_mem_cons.mpr ⟨tk_3 (List.mem_of_getElem? (i := 38) rfl), List.forall_mem_cons.mpr ⟨tk_3 (List.mem_of_getElem? (i := 42) rfl), List.forall_mem_cons.mpr ⟨tk_3 (List.mem_of_getElem? (i := 58) rfl), List.forall_mem_cons.mpr ⟨tk_3 (List.mem_of_getElem? (i := 66) rfl), List.forall_mem_cons.mpr ⟨tk_3 (List.mem_of_getElem? (i := 70) rfl), List.forall_mem_cons.mpr ⟨tk_3 (List.mem_of_getElem? (i := 81) rfl), List.forall_mem_cons.mpr ⟨tk_3 (List.mem_of_getElem? (i := 89) rfl), List.forall_mem_cons.mpr ⟨tk_3 (List.mem_of_getElem? (i := 96) rfl), List.forall_mem_cons.mpr ⟨tk_3 (List.mem_of_getElem? (i := 108) rfl), List.forall_mem_cons.mpr ⟨tk_3 (List.mem_of_getElem? (i := 121) rfl), List.forall_mem_cons.mpr ⟨tk_3 (List.mem_of_getElem? (i := 122) rfl), List.forall_mem_cons.mpr ⟨tk_3 (List.mem_of_getElem? (i := 131) rfl), List.forall_mem_cons.mpr ⟨tk_3 (List.mem_of_getElem? (i := 159) rfl), List.forall_mem_cons.mpr ⟨tk_3 (List.mem_of_getElem? (i := 163) rfl), List.forall_mem_cons.mpr ⟨tk_3 (List.mem_of_getElem? (i := 171) rfl), List.forall_mem_cons.mpr ⟨tk_3 (List.mem_of_getElem? (i := 172) rfl), List.forall_mem_cons.mpr ⟨tk_3 (List.mem_of_getElem? (i := 181) rfl), List.forall_mem_cons.mpr ⟨tk_3 (List.mem_of_getElem? (i := 192) rfl), List.forall_mem_cons.mpr ⟨tk_3 (List.mem_of_getElem? (i := 197) rfl), List.forall_mem_cons.mpr ⟨tk_3 (List.mem_of_getElem? (i := 198) rfl), List.forall_mem_cons.mpr ⟨tk_3 (List.mem_of_getElem? (i := 202) rfl), List.forall_mem_cons.mpr ⟨tk_3 (List.mem_of_getElem? (i := 212) rfl), List.forall_mem_cons.mpr ⟨tk_3 (List.mem_of_getElem? (i := 216) rfl), List.forall_mem_cons.mpr ⟨tk_3 (List.mem_of_getElem? (i := 224) rfl), List.forall_mem_cons.mpr ⟨tk_3 (List.mem_of_getElem? (i := 228) rfl), List.forall_mem_cons.mpr ⟨tk_3 (List.mem_of_getElem? (i := 236) rfl), List.forall_mem_cons.mpr ⟨tk_4 (List.mem_of_getElem? (i := 3) rfl), List.forall_mem_cons.mpr ⟨tk_4 (List.mem_of_getElem? (i := 11) rfl), List.forall_mem_cons.mpr ⟨tk_4 (List.mem_of_getElem? (i := 16) rfl), List.forall_mem_cons.mpr ⟨tk_4 (List.mem_of_getElem? (i := 24) rfl), List.forall_mem_cons.mpr ⟨tk_4 (List.mem_of_getElem? (i := 26) rfl), List.forall_mem_cons.mpr ⟨tk_4 (List.mem_of_getElem? (i := 46) rfl), List.forall_mem_cons.mpr ⟨tk_4 (List.mem_of_getElem? (i := 59) rfl), List.forall_mem_cons.mpr ⟨tk_4 (List.mem_of_getElem? (i := 67) rfl), List.forall_mem_cons.mpr ⟨tk_4 (List.mem_of_getElem? (i := 75) rfl), List.forall_mem_cons.mpr ⟨tk_4 (List.mem_of_getElem? (i := 123) rfl), List.forall_mem_cons.mpr ⟨tk_4 (List.mem_of_getElem? (i := 141) rfl), List.forall_mem_cons.mpr ⟨tk_4 (List.mem_of_getElem? (i := 149) rfl), List.forall_mem_cons.mpr ⟨tk_4 (List.mem_of_getElem? (i := 153) rfl), List.forall_mem_cons.mpr ⟨tk_4 (List.mem_of_getElem? (i := 162) rfl), List.forall_mem_cons.mpr ⟨tk_4 (List.mem_of_getElem? (i := 170) rfl), fun _ h => absurd h List.not_mem_nil⟩⟩⟩⟩⟩⟩⟩⟩⟩⟩⟩⟩⟩⟩⟩⟩⟩⟩⟩⟩⟩⟩⟩⟩⟩⟩⟩⟩⟩⟩⟩⟩⟩⟩⟩⟩⟩⟩⟩⟩⟩⟩⟩⟩⟩⟩⟩⟩⟩⟩⟩⟩⟩⟩⟩⟩⟩⟩⟩⟩⟩⟩⟩⟩⟩⟩⟩⟩⟩⟩⟩⟩⟩⟩⟩⟩⟩⟩⟩⟩⟩⟩⟩⟩
