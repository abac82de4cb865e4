/-! THE TEXTS: String.length, String.charAt of the constants -/
theorem ch_ok : ∀ t, t < 13 → ∀ j, j < sLen_.getD t 0 → ((((sByt_.getD t []).getD j 0) &&& 255).toUInt32 % 65536).toInt32 = (sByt_.getD t []).getD j 0 := by decide +kernel
section XT
variable {p : Program} {l : Launch} {e : Env} {R : Room} {s : State} {m : MethodId} {args : Array Value} {below : List Frame} {meth : Method} {c : Code} {H : Heap} {locs : List Loc} {cells slots : Nat} {Q : State → Prop}
variable {cc : ByteArray} {pc nL idx : Nat} {ls : Array Slot} {st rest : List Value} {own : String} {κ : Ka_} {G : va_G} {cy : Nat → ClassId} {A : Nat → Prop} {ad : Nat → Nat} {σ σ' : St_}
variable {y : MethodName} {bytes : ByteArray} {maxL mc ms n : Nat} {ret : Option FieldType} {rm : Room} {Qc : Array Value → State → Outcome → State → Prop} {free : Addr → Prop}
theorem x_VS (C : CallFix p m c cc nL s args wU_ own) (K : Kx_ κ G cy A s) (h : Ht_ G cy A s ad σ H locs) {i : Nat} (hi : i < 13) (As : List Value) (hM : Met l y (Cond.code y bytes maxL ret :: wU_) rm (va_Pc (.ref (κ.1 i) :: As) (Pr_ κ G cy ad σ H.size)) Qc mc ms free) (hI : Mi_ y bytes maxL ret n) (hn : As.length = n) (him : Cond.instanceMethod y ∈ wU_) (hse : Cond.selects RJ0 y y ∈ wU_) (hl : Cond.methodLink own idx y ∈ wU_) (hrm : rm.cells = mc ∧ rm.slots = ms ∧ rm.frames + 1 ≤ R.frames ∧ 8 + (maxL + 11) + rm.locals ≤ R.locals) {lv : List (Nat × Value)} (hls : lv_has ls nL lv) (hcat : (rest.map fun v => v.category).sum ≤ 8) (d : decode cc pc = .ok (.invokevirtual idx, 3)) (hf : cells + mc ≤ R.cells ∧ slots + ms ≤ R.slots) (hst : st = As.reverse ++ .ref (κ.1 i) :: rest) :
    va_Run p l e R s m args below meth c H locs cells slots mc ms (F0 m pc ls st) rest (Qc (Value.ref (κ.1 i) :: As).toArray) free :=
  va_runV C hM ⟨callB_of n C.2.2.2.2 (gW_ hI.1) rfl hrm.1 hrm.2.1 (C.2.2.2.2 _ hI.2.1) (C.2.2.2.2 _ hl) ⟨hI.2.2.1, hI.2.2.2.1, hI.2.2.2.2⟩ hrm.2.2, C.2.2.2.2 _ him, C.2.2.2.2 _ hse⟩ ⟨Pr_.blind, vk_recv K.2.2.1.2.2.1 hi h.2.2.1, h.pre K⟩ rfl hn hls.1 hst (lv_room hcat) d hf
end XT
theorem mi_J0_coder : Mi_ yJ0_coder_7d493 cJ0_coder_7d493 1 (some .byte) 0 := ⟨co_yJ0_coder_7d493, in_RJ0, by decide, by decide, by decide +kernel⟩
theorem mi_J0_isLatin1 : Mi_ yJ0_isLatin1_aae02 cJ0_isLatin1_aae02 1 (some .boolean) 0 := ⟨co_yJ0_isLatin1_aae02, in_RJ0, by decide, by decide, by decide +kernel⟩
theorem mi_J0_length_8abf5 : Mi_ yJ0_length_8abf5 cJ0_length_8abf5 1 (some .int) 0 := ⟨co_yJ0_length_8abf5, in_RJ0, by decide, by decide, by decide +kernel⟩
theorem mi_J0_charAt_5068e : Mi_ yJ0_charAt_5068e cJ0_charAt_5068e 2 (some .char) 1 := ⟨co_yJ0_charAt_5068e, in_RJ0, by decide, by decide, by decide +kernel⟩
theorem mi_J0_checkIndex : Mi_ yJ0_checkIndex_df160 cJ0_checkIndex_df160 2 none 2 := ⟨co_yJ0_checkIndex_df160, in_RJ0, by decide, by decide, by decide +kernel⟩
theorem mi_J1_charAt : Mi_ yJ1_charAt_3b067 cJ1_charAt_3b067 2 (some .char) 2 := ⟨co_yJ1_charAt_3b067, in_RJ1, by decide, by decide, by decide +kernel⟩
theorem mi_J3_checkIndex : Mi_ yJ3_checkIndex_8e157 cJ3_checkIndex_8e157 3 (some .int) 3 := ⟨co_yJ3_checkIndex_8e157, in_RJ3, by decide, by decide, by decide +kernel⟩
set_option maxHeartbeats 4000000 in
theorem c_J0_coder (l : Launch) (κ : Ka_) (G : va_G) (cy : Nat → ClassId) (ad : Nat → Nat) (sz : Nat) (σ : St_) (i : Nat) (hi : i < 13) : Met l yJ0_coder_7d493 (Cond.code yJ0_coder_7d493 cJ0_coder_7d493 1 (some .byte) :: wU_) { frames := 0, cells := 0, slots := 0, locals := 0 } (va_Pc [.ref (κ.1 i)] (Pr_ κ G cy ad σ sz)) (Qi_ G cy ad σ σ sz 0) 0 0 (va_A (wl_ cy ad σ) sz) := by
  refine x_met (by decide) (fun p e R s m below meth c ls hR C hr hlk hin _ K h hl => ?_) (Nat.le_of_ble_eq_true rfl)
  refine va_gets C.1 C.2.1 K.2.2.1.2.2.2.1 h.2.2.1 C.2.2.2.1 (C.2.2.2.2 _ fl_RJ0_38) (fun _ z => z) dJ0_coder_7d493_0 ?_
  refine lv_if_eq (tgt := 13) C.1 C.2.1 dJ0_coder_7d493_3 (by decide) (fun z => absurd z (by decide)) (fun _ => ?_)
  refine lv_aload_n C.1 C.2.1 dJ0_coder_7d493_6 rfl (lv_at hl 0 rfl) ?_
  refine vk_getf C.1 C.2.1 (K.2.2.1.2.2.1.1 i hi).2.1 h.2.2.1 C.2.2.2.1 (C.2.2.2.2 _ fl_RJ0_15) (fun _ z => z) dJ0_coder_7d493_7 ?_
  refine lv_goto (tgt := 14) C.1 C.2.1 dJ0_coder_7d493_10 (by decide) ?_
  exact x_rz C hr hlk h Ex_.rf rfl rfl rfl dJ0_coder_7d493_14
set_option maxHeartbeats 4000000 in
theorem c_J0_isLatin1 (l : Launch) (κ : Ka_) (G : va_G) (cy : Nat → ClassId) (ad : Nat → Nat) (sz : Nat) (σ : St_) (i : Nat) (hi : i < 13) : Met l yJ0_isLatin1_aae02 (Cond.code yJ0_isLatin1_aae02 cJ0_isLatin1_aae02 1 (some .boolean) :: wU_) { frames := 0, cells := 0, slots := 0, locals := 0 } (va_Pc [.ref (κ.1 i)] (Pr_ κ G cy ad σ sz)) (Qi_ G cy ad σ σ sz 1) 0 0 (va_A (wl_ cy ad σ) sz) := by
  refine x_met (by decide) (fun p e R s m below meth c ls hR C hr hlk hin _ K h hl => ?_) (Nat.le_of_ble_eq_true rfl)
  refine va_gets C.1 C.2.1 K.2.2.1.2.2.2.1 h.2.2.1 C.2.2.2.1 (C.2.2.2.2 _ fl_RJ0_38) (fun _ z => z) dJ0_isLatin1_aae02_0 ?_
  refine lv_if_eq (tgt := 17) C.1 C.2.1 dJ0_isLatin1_aae02_3 (by decide) (fun z => absurd z (by decide)) (fun _ => ?_)
  refine lv_aload_n C.1 C.2.1 dJ0_isLatin1_aae02_6 rfl (lv_at hl 0 rfl) ?_
  refine vk_getf C.1 C.2.1 (K.2.2.1.2.2.1.1 i hi).2.1 h.2.2.1 C.2.2.2.1 (C.2.2.2.2 _ fl_RJ0_15) (fun _ z => z) dJ0_isLatin1_aae02_7 ?_
  refine lv_if_ne (tgt := 17) C.1 C.2.1 dJ0_isLatin1_aae02_10 (by decide) (fun z => absurd rfl z) (fun _ => ?_)
  refine lv_iconst (v := 1) C.1 C.2.1 dJ0_isLatin1_aae02_13 (by decide) ?_
  refine lv_goto (tgt := 18) C.1 C.2.1 dJ0_isLatin1_aae02_14 (by decide) ?_
  exact x_rz C hr hlk h Ex_.rf rfl rfl rfl dJ0_isLatin1_aae02_18
set_option maxHeartbeats 4000000 in
theorem c_J0_length_8abf5 (l : Launch) (κ : Ka_) (G : va_G) (cy : Nat → ClassId) (ad : Nat → Nat) (sz : Nat) (σ : St_) (i : Nat) (hi : i < 13) : Met l yJ0_length_8abf5 (Cond.code yJ0_length_8abf5 cJ0_length_8abf5 1 (some .int) :: wU_) { frames := 1, cells := 0, slots := 0, locals := 20 } (va_Pc [.ref (κ.1 i)] (Pr_ κ G cy ad σ sz)) (Qi_ G cy ad σ σ sz (nI (sLen_.getD i 0))) 0 0 (va_A (wl_ cy ad σ) sz) := by
  refine x_met (by decide) (fun p e R s m below meth c ls hR C hr hlk hin _ K h hl => ?_) (Nat.le_of_ble_eq_true rfl)
  refine lv_aload_n C.1 C.2.1 dJ0_length_8abf5_0 rfl (lv_at hl 0 rfl) ?_
  refine vk_getf C.1 C.2.1 (K.2.2.1.2.2.1.1 i hi).2.2.1 h.2.2.1 C.2.2.2.1 (C.2.2.2.2 _ fl_RJ0_9) (fun _ z => z) dJ0_length_8abf5_1 ?_
  refine va_tlen C.1 C.2.1 (K.2.2.1.2.2.1.1 i hi).2.2.2 h.2.2.1 rfl dJ0_length_8abf5_4 ?_
  refine lv_aload_n C.1 C.2.1 dJ0_length_8abf5_5 rfl (lv_at hl 0 rfl) ?_
  refine x_ai K h (x_VS C K h hi [] (c_J0_coder l κ G cy ad s.heap.size σ i hi) mi_J0_coder rfl im_yJ0_coder_7d493 se_yJ0_coder_7d493 ml_RJ0_335 ⟨rfl, rfl, Nat.le_trans (by decide) hR.1, Nat.le_trans (by decide) hR.2.1⟩ hl (Nat.le_of_ble_eq_true rfl) dJ0_length_8abf5_6 ⟨Nat.zero_le _, Nat.zero_le _⟩ rfl) (fun H locs h hX => ?_)
  refine lv_ishr C.1 C.2.1 dJ0_length_8abf5_9 ?_
  exact x_ri C hr hlk h Ex_.rf (sb_shr0 _) rfl dJ0_length_8abf5_10
set_option maxHeartbeats 4000000 in
theorem c_J3_checkIndex (l : Launch) (κ : Ka_) (G : va_G) (cy : Nat → ClassId) (ad : Nat → Nat) (sz : Nat) (σ : St_) (x1 x2 : Int32) (o : Option Nat) (h1 : ¬ x1 < 0) (h2 : x1 < x2) : Met l yJ3_checkIndex_8e157 (Cond.code yJ3_checkIndex_8e157 cJ3_checkIndex_8e157 3 (some .int) :: wU_) { frames := 0, cells := 0, slots := 0, locals := 0 } (va_Pc [.int x1, .int x2, va_rf o] (Pr_ κ G cy ad σ sz)) (Qi_ G cy ad σ σ sz x1) 0 0 (va_A (wl_ cy ad σ) sz) := by
  refine x_met (by decide) (fun p e R s m below meth c ls hR C hr hlk hin _ K h hl => ?_) (by cases o <;> exact Nat.le_of_ble_eq_true rfl)
  refine lv_iload_n C.1 C.2.1 dJ3_checkIndex_8e157_0 rfl (lv_at hl 0 rfl) ?_
  refine lv_if_lt (tgt := 9) C.1 C.2.1 dJ3_checkIndex_8e157_1 (by decide) (fun z => absurd z h1) (fun _ => ?_)
  refine lv_iload_n C.1 C.2.1 dJ3_checkIndex_8e157_4 rfl (lv_at hl 0 rfl) ?_
  refine lv_iload_n C.1 C.2.1 dJ3_checkIndex_8e157_5 rfl (lv_at hl 1 rfl) ?_
  refine lv_icmp_lt (tgt := 16) C.1 C.2.1 dJ3_checkIndex_8e157_6 (by decide) (fun _ => ?_) (fun z => absurd h2 z)
  refine lv_iload_n C.1 C.2.1 dJ3_checkIndex_8e157_16 rfl (lv_at hl 0 rfl) ?_
  exact x_ri C hr hlk h Ex_.rf rfl rfl dJ3_checkIndex_8e157_17
set_option maxHeartbeats 4000000 in
theorem c_J0_checkIndex (l : Launch) (κ : Ka_) (G : va_G) (cy : Nat → ClassId) (ad : Nat → Nat) (sz : Nat) (σ : St_) (x1 x2 : Int32) (h1 : ¬ x1 < 0) (h2 : x1 < x2) : Met l yJ0_checkIndex_df160 (Cond.code yJ0_checkIndex_df160 cJ0_checkIndex_df160 2 none :: wU_) { frames := 1, cells := 0, slots := 0, locals := 22 } (va_Pc [.int x1, .int x2] (Pr_ κ G cy ad σ sz)) (Qv_ G cy ad σ σ sz) 0 0 (va_A (wl_ cy ad σ) sz) := by
  refine x_met (by decide) (fun p e R s m below meth c ls hR C hr hlk hin hs0 K h hl => ?_) (Nat.le_of_ble_eq_true rfl)
  have go : ∀ o : Option Nat, va_Z "jdk/internal/util/Preconditions" "SIOOBE_FORMATTER" "Ljava/util/function/BiFunction;" (va_rf o) (va_A (wl_ cy ad σ) sz) s s.heap → W p l e R s m [Value.int x1, Value.int x2].toArray below meth c s.heap [] 0 0 (MQ below (Qv_ G cy ad σ σ sz) [Value.int x1, Value.int x2].toArray s 0 0 (va_A (wl_ cy ad σ) sz)) (F0 m 0 ls []) := by
    intro o hZ
    refine lv_iload_n C.1 C.2.1 dJ0_checkIndex_df160_0 rfl (lv_at hl 0 rfl) ?_
    refine lv_iload_n C.1 C.2.1 dJ0_checkIndex_df160_1 rfl (lv_at hl 1 rfl) ?_
    refine va_gets C.1 C.2.1 hZ h.2.2.1 C.2.2.2.1 (C.2.2.2.2 _ fl_RJ0_1053) (fun _ z => z) dJ0_checkIndex_df160_2 ?_
    refine x_ai K h (x_S C K h [.int x1, .int x2, va_rf o] (c_J3_checkIndex l κ G cy ad s.heap.size σ x1 x2 o h1 h2) mi_J3_checkIndex rfl st_yJ3_checkIndex_8e157 ml_RJ0_1059 ⟨rfl, rfl, Nat.le_trans (by decide) hR.1, Nat.le_trans (by decide) hR.2.1⟩ hl (Nat.le_of_ble_eq_true rfl) dJ0_checkIndex_df160_5 ⟨Nat.zero_le _, Nat.zero_le _⟩ rfl) (fun H locs h hX => ?_)
    refine lv_pop C.1 C.2.1 dJ0_checkIndex_df160_8 rfl ?_
    exact x_rv C hr hlk h Ex_.rf rfl dJ0_checkIndex_df160_9
  rcases K.2.2.1.2.2.2.2 with hZ | ⟨t, hZ⟩
  · exact go none hZ
  · exact go (some t) hZ
set_option maxHeartbeats 4000000 in
theorem c_J1_charAt (l : Launch) (κ : Ka_) (G : va_G) (cy : Nat → ClassId) (ad : Nat → Nat) (sz : Nat) (σ : St_) (i : Nat) (hi : i < 13) (x1 : Int32) {j : Nat} (hj : ix_ x1 (sLen_.getD i 0) = some j) : Met l yJ1_charAt_3b067 (Cond.code yJ1_charAt_3b067 cJ1_charAt_3b067 2 (some .char) :: wU_) { frames := 2, cells := 0, slots := 0, locals := 43 } (va_Pc [.ref (κ.2.1 i), .int x1] (Pr_ κ G cy ad σ sz)) (Qi_ G cy ad σ σ sz ((sByt_.getD i []).getD j 0)) 0 0 (va_A (wl_ cy ad σ) sz) := by
  obtain ⟨hj1, hj2⟩ := ix_in hj
  have hlen : sLen_.getD i 0 < 2 ^ 31 := by
    have : ∀ i, i < 13 → sLen_.getD i 0 < 2 ^ 31 := by decide +kernel
    exact this i hi
  have hjl : j < sLen_.getD i 0 := by
    rw [← hj2]
    exact Nat.not_le.mp fun z => hj1 (Or.inr z)
  have hlt : x1 < nI (sLen_.getD i 0) := by
    obtain ⟨k, hk1, hk2⟩ := vp_in_of hj1 hlen
    rw [hk2]
    exact nI_lt hk1 hlen
  refine x_met (by decide) (fun p e R s m below meth c ls hR C hr hlk hin _ K h hl => ?_) (Nat.le_of_ble_eq_true rfl)
  refine lv_iload_n C.1 C.2.1 dJ1_charAt_3b067_0 rfl (lv_at hl 1 rfl) ?_
  refine lv_aload_n C.1 C.2.1 dJ1_charAt_3b067_1 rfl (lv_at hl 0 rfl) ?_
  refine va_tlen C.1 C.2.1 (K.2.2.1.2.2.1.1 i hi).2.2.2 h.2.2.1 rfl dJ1_charAt_3b067_2 ?_
  refine x_av K h (x_S C K h [.int x1, .int (nI (sLen_.getD i 0))] (c_J0_checkIndex l κ G cy ad s.heap.size σ x1 (nI (sLen_.getD i 0)) (fun z => hj1 (Or.inl z)) hlt) mi_J0_checkIndex rfl st_yJ0_checkIndex_df160 ml_RJ1_9 ⟨rfl, rfl, Nat.le_trans (by decide) hR.1, Nat.le_trans (by decide) hR.2.1⟩ hl (Nat.le_of_ble_eq_true rfl) dJ1_charAt_3b067_3 ⟨Nat.zero_le _, Nat.zero_le _⟩ rfl) (fun H locs h hX => ?_)
  refine lv_aload_n C.1 C.2.1 dJ1_charAt_3b067_6 rfl (lv_at hl 0 rfl) ?_
  refine lv_iload_n C.1 C.2.1 dJ1_charAt_3b067_7 rfl (lv_at hl 1 rfl) ?_
  refine va_tb (v := .int ((sByt_.getD i []).getD j 0)) C.1 C.2.1 (K.2.2.1.2.2.1.1 i hi).2.2.2 h.2.2.1 hj1 (by rw [hj2]) dJ1_charAt_3b067_8 ?_
  refine lv_sipush (v := 255) C.1 C.2.1 dJ1_charAt_3b067_9 (by decide) ?_
  refine lv_iand C.1 C.2.1 dJ1_charAt_3b067_12 ?_
  refine lv_i2c C.1 C.2.1 dJ1_charAt_3b067_13 rfl ?_
  exact x_rz C hr hlk h Ex_.rf (pk_nc _) (ch_ok i hi j hjl) rfl dJ1_charAt_3b067_14
set_option maxHeartbeats 4000000 in
theorem c_J0_charAt_5068e (l : Launch) (κ : Ka_) (G : va_G) (cy : Nat → ClassId) (ad : Nat → Nat) (sz : Nat) (σ : St_) (i : Nat) (x1 : Int32) (hi : i < 13) {j : Nat} (hj : ix_ x1 (sLen_.getD i 0) = some j) : Met l yJ0_charAt_5068e (Cond.code yJ0_charAt_5068e cJ0_charAt_5068e 2 (some .char) :: wU_) { frames := 3, cells := 0, slots := 0, locals := 64 } (va_Pc [.ref (κ.1 i), .int x1] (Pr_ κ G cy ad σ sz)) (Qi_ G cy ad σ σ sz ((sByt_.getD i []).getD j 0)) 0 0 (va_A (wl_ cy ad σ) sz) := by
  obtain ⟨hj1, hj2⟩ := ix_in hj
  have hjl : j < sLen_.getD i 0 := by
    rw [← hj2]
    exact Nat.not_le.mp fun z => hj1 (Or.inr z)
  refine x_met (by decide) (fun p e R s m below meth c ls hR C hr hlk hin _ K h hl => ?_) (Nat.le_of_ble_eq_true rfl)
  refine lv_aload_n C.1 C.2.1 dJ0_charAt_5068e_0 rfl (lv_at hl 0 rfl) ?_
  refine x_ai K h (x_VS C K h hi [] (c_J0_isLatin1 l κ G cy ad s.heap.size σ i hi) mi_J0_isLatin1 rfl im_yJ0_isLatin1_aae02 se_yJ0_isLatin1_aae02 ml_RJ0_492 ⟨rfl, rfl, Nat.le_trans (by decide) hR.1, Nat.le_trans (by decide) hR.2.1⟩ hl (Nat.le_of_ble_eq_true rfl) dJ0_charAt_5068e_1 ⟨Nat.zero_le _, Nat.zero_le _⟩ rfl) (fun H locs h hX => ?_)
  refine lv_if_eq (tgt := 16) C.1 C.2.1 dJ0_charAt_5068e_4 (by decide) (fun z => absurd z (by decide)) (fun _ => ?_)
  refine lv_aload_n C.1 C.2.1 dJ0_charAt_5068e_7 rfl (lv_at hl 0 rfl) ?_
  refine vk_getf C.1 C.2.1 (K.2.2.1.2.2.1.1 i hi).2.2.1 h.2.2.1 C.2.2.2.1 (C.2.2.2.2 _ fl_RJ0_9) (fun _ z => z) dJ0_charAt_5068e_8 ?_
  refine lv_iload_n C.1 C.2.1 dJ0_charAt_5068e_11 rfl (lv_at hl 1 rfl) ?_
  refine x_ai K h (x_S C K h [.ref (κ.2.1 i), .int x1] (c_J1_charAt l κ G cy ad H.size σ i hi x1 hj) mi_J1_charAt rfl st_yJ1_charAt_3b067 ml_RJ0_495 ⟨rfl, rfl, Nat.le_trans (by decide) hR.1, Nat.le_trans (by decide) hR.2.1⟩ hl (Nat.le_of_ble_eq_true rfl) dJ0_charAt_5068e_12 ⟨Nat.zero_le _, Nat.zero_le _⟩ rfl) (fun H locs h hX => ?_)
  exact x_rz C hr hlk h Ex_.rf (by have := ch_ok i hi j hjl; rw [← this]; exact pk_nc _) rfl rfl dJ0_charAt_5068e_15
