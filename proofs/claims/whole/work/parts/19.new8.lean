-- X8_init
theorem mi_X8_init : Mi_ yX8_init cX8_init 2 none 0 := ⟨co_yX8_init, in_RX8, by decide, by decide, by decide +kernel⟩
def f_X8_init_156 (fu : Nat) : Nat → St_ → Nat → Int32 → Option St_
  | 0 => fun _ _ _ => none
  | n + 1 => fun σ  v0  v1 => if (nI (sLen_.getD 0 0)) ≤ v1 then (dr_ σ 3 (sr_ σ v0 3)).bind fun b2 => (f_X3_reads fu σ b2).bind fun q3 => if q3.1 = 0 then (dr_ (ui_ q3.2 v0 5 (1 : Int32)) 3 (sr_ (ui_ q3.2 v0 5 (1 : Int32)) v0 3)).bind fun b6 => some (f_X3_clear (ui_ q3.2 v0 5 (1 : Int32)) b6) else (dr_ q3.2 15 (sr_ q3.2 v0 4)).bind fun b8 => (dr_ q3.2 3 (sr_ q3.2 v0 3)).bind fun b9 => (f_X3_made fu q3.2 b9).bind fun q10 => (dr_ q10.2 5 q10.1).bind fun b16 => (ix_ (0 : Int32) (ln_ q10.2 b8)).bind fun j17 => (dr_ (ui_ (ur_ q10.2 b8 j17 (some b16)) v0 5 (1 : Int32)) 3 (sr_ (ui_ (ur_ q10.2 b8 j17 (some b16)) v0 5 (1 : Int32)) v0 3)).bind fun b18 => some (f_X3_clear (ui_ (ur_ q10.2 b8 j17 (some b16)) v0 5 (1 : Int32)) b18) else (dr_ σ 3 (sr_ σ v0 3)).bind fun b20 => (ix_ v1 (sLen_.getD 0 0)).bind fun j21 => (f_X3_put σ b20 ((sByt_.getD 0 []).getD j21 0)).bind fun q22 => (f_X8_init_156 fu n) q22.2 v0 (v1 + (1 : Int32))
set_option maxHeartbeats 4000000 in
set_option maxRecDepth 100000 in
theorem w_X8_init_156 {p : Program} {l : Launch} {e : Env} {R : Room} {s : State} {m : MethodId} {args : Array Value} {below : List Frame} {meth : Method} {c : Code} {κ : Ka_} {G : va_G} {cy : Nat → ClassId} {ad0 : Nat → Nat} {sz : Nat} {σ0 : St_} (fu : Nat) (C : CallFix p m c cX8_init 2 s args wU_ RX8) (K : Kx_ κ G cy (va_A (wl_ cy ad0 σ0) sz) s) (hr : meth.sig.returnType = none) (hlk : meth.locks = false) (hin : meth.name = "<init>") (hR : 163 ≤ R.frames ∧ 8141 ≤ R.locals ∧ 58 ≤ R.cells ∧ 3965 ≤ R.slots) {q : St_} : ∀ n : Nat, ∀ (ad : Nat → Nat) (σ : St_) (v0 : Nat) (v1 : Int32), Ag_ (sn_ σ0) ad0 ad → Ex_ σ0 σ → kd_ σ v0 = 8 → f_X8_init_156 fu n σ v0 v1 = some q → ∀ (H : Heap) (locs : List Loc) (ls : Array Slot), Ht_ G cy (va_A (wl_ cy ad0 σ0) sz) s ad σ H locs → lv_has ls 2 [(0, .ref (ad v0)), (1, .int v1)] → W p l e R s m args below meth c H locs 54 3482 (MQ below (QvA_ G cy ad0 σ0 q sz) args s 58 3965 (va_A (wl_ cy ad0 σ0) sz)) (F0 m 156 ls []) := by
  intro n
  induction n with
  | zero =>
    intro ad σ v0 v1 hag hE hk_v0 hf H locs ls h hl
    cases hf
  | succ n ih =>
    intro ad σ v0 v1 hag hE hk_v0 hf H locs ls h hl
    have hf : (if (nI (sLen_.getD 0 0)) ≤ v1 then (dr_ σ 3 (sr_ σ v0 3)).bind fun b2 => (f_X3_reads fu σ b2).bind fun q3 => if q3.1 = 0 then (dr_ (ui_ q3.2 v0 5 (1 : Int32)) 3 (sr_ (ui_ q3.2 v0 5 (1 : Int32)) v0 3)).bind fun b6 => some (f_X3_clear (ui_ q3.2 v0 5 (1 : Int32)) b6) else (dr_ q3.2 15 (sr_ q3.2 v0 4)).bind fun b8 => (dr_ q3.2 3 (sr_ q3.2 v0 3)).bind fun b9 => (f_X3_made fu q3.2 b9).bind fun q10 => (dr_ q10.2 5 q10.1).bind fun b16 => (ix_ (0 : Int32) (ln_ q10.2 b8)).bind fun j17 => (dr_ (ui_ (ur_ q10.2 b8 j17 (some b16)) v0 5 (1 : Int32)) 3 (sr_ (ui_ (ur_ q10.2 b8 j17 (some b16)) v0 5 (1 : Int32)) v0 3)).bind fun b18 => some (f_X3_clear (ui_ (ur_ q10.2 b8 j17 (some b16)) v0 5 (1 : Int32)) b18) else (dr_ σ 3 (sr_ σ v0 3)).bind fun b20 => (ix_ v1 (sLen_.getD 0 0)).bind fun j21 => (f_X3_put σ b20 ((sByt_.getD 0 []).getD j21 0)).bind fun q22 => (f_X8_init_156 fu n) q22.2 v0 (v1 + (1 : Int32))) = some q := hf
    refine lv_iload_n C.1 C.2.1 dX8_init_156 rfl (lv_at hl 1 rfl) ?_
    refine va_ldcS C.1 C.2.1 C.2.2.2.1 (K.2.1.2.1 0 (by decide)) dX8_init_157 ?_
    refine x_ai K h (x_VS C K h (by decide) [] (c_J0_length_8abf5 l κ G cy ad H.size σ 0 (by decide)) mi_J0_length_8abf5 rfl im_yJ0_length_8abf5 se_yJ0_length_8abf5 ml_RX8_80 ⟨rfl, rfl, Nat.le_trans (Nat.le_of_ble_eq_true rfl) hR.1, Nat.le_trans (Nat.le_of_ble_eq_true rfl) hR.2.1⟩ hl (Nat.le_of_ble_eq_true rfl) dX8_init_159 ⟨Nat.le_trans (by decide) hR.2.2.1, Nat.le_trans (by decide) hR.2.2.2⟩ rfl) (fun H locs h hX => ?_)
    refine lv_icmp_ge (tgt := 185) C.1 C.2.1 dX8_init_162 (by decide) (fun c1 => ?_) (fun c1 => ?_)
    · have hf := if_t hf c1
      refine lv_aload_n C.1 C.2.1 dX8_init_185 rfl (lv_at hl 0 rfl) ?_
      obtain ⟨b2, hb_b2, hf⟩ := ob_ hf
      obtain ⟨hq_b2, hk_b2⟩ := dr_in hb_b2
      refine x_get (v := .ref (ad b2)) C K h cl_8 hk_v0 3 (by decide) fl_RX8_26 (hv_r (o := sr_ σ v0 3) rfl hq_b2) dX8_init_186 ?_
      obtain ⟨q3, hq_q3, hf⟩ := ob_ hf
      refine x_az K h (x_VN C K h [] (c_X3_reads fu l κ G cy ad H.size σ b2 hk_b2 hq_q3) mi_X3_reads rfl im_yX3_reads se_yX3_reads nm_RX8_94 cl_3 hk_b2 ⟨rfl, rfl, Nat.le_trans (Nat.le_of_ble_eq_true rfl) hR.1, Nat.le_trans (Nat.le_of_ble_eq_true rfl) hR.2.1⟩ hl (Nat.le_of_ble_eq_true rfl) dX8_init_189 ⟨Nat.le_trans (by decide) hR.2.2.1, Nat.le_trans (by decide) hR.2.2.2⟩ rfl) (fun H locs h hX hz4 => ?_)
      have hE := hE.trans hX
      have hk_v0 := hX.k hk_v0 (by decide)
      refine lv_if_eq (tgt := 208) C.1 C.2.1 dX8_init_192 (by decide) (fun c5 => ?_) (fun c5 => ?_)
      · have hf := if_t hf c5
        refine lv_aload_n C.1 C.2.1 dX8_init_208 rfl (lv_at hl 0 rfl) ?_
        refine lv_iconst (v := (1 : Int32)) C.1 C.2.1 dX8_init_209 (by decide) ?_
        refine x_putI C K h cl_8 hk_v0 5 (by decide) fl_RX8_36 rfl rfl rfl (Nat.le_of_ble_eq_true rfl) (fun _ _ _ => rfl) dX8_init_210 (fun H locs h => ?_)
        have hE := hE.up (up_i q3.2 v0 5 (1 : Int32))
        refine lv_aload_n C.1 C.2.1 dX8_init_213 rfl (lv_at hl 0 rfl) ?_
        obtain ⟨b6, hb_b6, hf⟩ := ob_ hf
        obtain ⟨hq_b6, hk_b6⟩ := dr_in hb_b6
        refine x_get (v := .ref (ad b6)) C K h cl_8 hk_v0 3 (by decide) fl_RX8_26 (hv_r (o := sr_ (ui_ q3.2 v0 5 (1 : Int32)) v0 3) rfl hq_b6) dX8_init_214 ?_
        refine x_av K h (x_VN C K h [] (c_X3_clear l κ G cy ad H.size (ui_ q3.2 v0 5 (1 : Int32)) b6 hk_b6 rfl) mi_X3_clear rfl im_yX3_clear se_yX3_clear nm_RX8_102 cl_3 hk_b6 ⟨rfl, rfl, Nat.le_trans (Nat.le_of_ble_eq_true rfl) hR.1, Nat.le_trans (Nat.le_of_ble_eq_true rfl) hR.2.1⟩ hl (Nat.le_of_ble_eq_true rfl) dX8_init_217 ⟨Nat.le_trans (by decide) hR.2.2.1, Nat.le_trans (by decide) hR.2.2.2⟩ rfl) (fun H locs h hX => ?_)
        have hE := hE.trans hX
        have hk_v0 := hX.k hk_v0 (by decide)
        exact x_rvA (Nat.le_of_ble_eq_true rfl) (Nat.le_of_ble_eq_true rfl) C hr hlk hag h hE (Option.some.inj hf) dX8_init_220
      · have hf := if_f hf c5
        refine lv_aload_n C.1 C.2.1 dX8_init_195 rfl (lv_at hl 0 rfl) ?_
        obtain ⟨b8, hb_b8, hf⟩ := ob_ hf
        obtain ⟨hq_b8, hk_b8⟩ := dr_in hb_b8
        refine x_get (v := .ref (ad b8)) C K h cl_8 hk_v0 4 (by decide) fl_RX8_32 (hv_r (o := sr_ q3.2 v0 4) rfl hq_b8) dX8_init_196 ?_
        refine lv_iconst (v := (0 : Int32)) C.1 C.2.1 dX8_init_199 (by decide) ?_
        refine lv_aload_n C.1 C.2.1 dX8_init_200 rfl (lv_at hl 0 rfl) ?_
        obtain ⟨b9, hb_b9, hf⟩ := ob_ hf
        obtain ⟨hq_b9, hk_b9⟩ := dr_in hb_b9
        refine x_get (v := .ref (ad b9)) C K h cl_8 hk_v0 3 (by decide) fl_RX8_26 (hv_r (o := sr_ q3.2 v0 3) rfl hq_b9) dX8_init_201 ?_
        obtain ⟨q10, hq_q10, hf⟩ := ob_ hf
        have ea12 := h.lt hk_v0 (by decide)
        have ea13 := h.lt hk_b8 (by decide)
        obtain ⟨o14, σ15⟩ := q10
        try dsimp only at hf
        refine x_aqA K h (x_VN C K h [] (c_X3_made fu l κ G cy ad H.size q3.2 b9 hk_b9 hq_q10) mi_X3_made rfl im_yX3_made se_yX3_made nm_RX8_98 cl_3 hk_b9 ⟨rfl, rfl, Nat.le_trans (Nat.le_of_ble_eq_true rfl) hR.1, Nat.le_trans (Nat.le_of_ble_eq_true rfl) hR.2.1⟩ hl (Nat.le_of_ble_eq_true rfl) dX8_init_204 ⟨Nat.le_trans (by decide) hR.2.2.1, Nat.le_trans (by decide) hR.2.2.2⟩ rfl) (fun ad11 H locs had11 h hX => ?_)
        try dsimp only at h hX ⊢
        rw [← had11 v0 ea12] at hl
        rw [← had11 b8 ea13]
        have hag := hag.trans hE.1 had11
        have hE := hE.trans hX
        have hk_v0 := hX.k hk_v0 (by decide)
        have hk_b8 := hX.k hk_b8 (by decide)
        refine W.widen (k := 58) (n := 3965) (by decide) (by decide) ?_
        obtain ⟨b16, hb_b16, hf_b16⟩ := ob_ hf
        obtain ⟨hq_b16, hk_b16⟩ := dr_in hb_b16
        subst hq_b16
        have hf := hf_b16
        obtain ⟨j17, hj_j17, hf⟩ := ob_ hf
        have hEn := hE.up (up_r σ15 b8 j17 (some b16) (fun z hz => by cases hz; exact h.lt hk_b16 (by decide)))
        have hE := hEn
        refine x_aast C K h 5 (by decide) rfl (fun _ _ _ _ => rfl) cl_5 hk_b8 hk_b16 hj_j17 dX8_init_207 (fun H locs h => ?_)
        refine lv_aload_n C.1 C.2.1 dX8_init_208 rfl (lv_at hl 0 rfl) ?_
        refine lv_iconst (v := (1 : Int32)) C.1 C.2.1 dX8_init_209 (by decide) ?_
        refine x_putI C K h cl_8 hk_v0 5 (by decide) fl_RX8_36 rfl rfl rfl (Nat.le_of_ble_eq_true rfl) (fun _ _ _ => rfl) dX8_init_210 (fun H locs h => ?_)
        have hE := hE.up (up_i (ur_ σ15 b8 j17 (some b16)) v0 5 (1 : Int32))
        refine lv_aload_n C.1 C.2.1 dX8_init_213 rfl (lv_at hl 0 rfl) ?_
        obtain ⟨b18, hb_b18, hf⟩ := ob_ hf
        obtain ⟨hq_b18, hk_b18⟩ := dr_in hb_b18
        refine x_get (v := .ref (ad11 b18)) C K h cl_8 hk_v0 3 (by decide) fl_RX8_26 (hv_r (o := sr_ (ui_ (ur_ σ15 b8 j17 (some b16)) v0 5 (1 : Int32)) v0 3) rfl hq_b18) dX8_init_214 ?_
        refine x_av K h (x_VN C K h [] (c_X3_clear l κ G cy ad11 H.size (ui_ (ur_ σ15 b8 j17 (some b16)) v0 5 (1 : Int32)) b18 hk_b18 rfl) mi_X3_clear rfl im_yX3_clear se_yX3_clear nm_RX8_102 cl_3 hk_b18 ⟨rfl, rfl, Nat.le_trans (Nat.le_of_ble_eq_true rfl) hR.1, Nat.le_trans (Nat.le_of_ble_eq_true rfl) hR.2.1⟩ hl (Nat.le_of_ble_eq_true rfl) dX8_init_217 ⟨Nat.le_trans (by decide) hR.2.2.1, Nat.le_trans (by decide) hR.2.2.2⟩ rfl) (fun H locs h hX => ?_)
        have hE := hE.trans hX
        have hk_v0 := hX.k hk_v0 (by decide)
        exact x_rvA (Nat.le_of_ble_eq_true rfl) (Nat.le_of_ble_eq_true rfl) C hr hlk hag h hE (Option.some.inj hf) dX8_init_220
    · have hf := if_f hf c1
      refine lv_aload_n C.1 C.2.1 dX8_init_165 rfl (lv_at hl 0 rfl) ?_
      obtain ⟨b20, hb_b20, hf⟩ := ob_ hf
      obtain ⟨hq_b20, hk_b20⟩ := dr_in hb_b20
      refine x_get (v := .ref (ad b20)) C K h cl_8 hk_v0 3 (by decide) fl_RX8_26 (hv_r (o := sr_ σ v0 3) rfl hq_b20) dX8_init_166 ?_
      refine va_ldcS C.1 C.2.1 C.2.2.2.1 (K.2.1.2.1 0 (by decide)) dX8_init_169 ?_
      refine lv_iload_n C.1 C.2.1 dX8_init_171 rfl (lv_at hl 1 rfl) ?_
      obtain ⟨j21, hj_j21, hf⟩ := ob_ hf
      refine x_ai K h (x_VS C K h (by decide) [.int v1] (c_J0_charAt_5068e l κ G cy ad H.size σ 0 v1 (by decide) hj_j21) mi_J0_charAt_5068e rfl im_yJ0_charAt_5068e se_yJ0_charAt_5068e ml_RX8_86 ⟨rfl, rfl, Nat.le_trans (Nat.le_of_ble_eq_true rfl) hR.1, Nat.le_trans (Nat.le_of_ble_eq_true rfl) hR.2.1⟩ hl (Nat.le_of_ble_eq_true rfl) dX8_init_172 ⟨Nat.le_trans (by decide) hR.2.2.1, Nat.le_trans (by decide) hR.2.2.2⟩ rfl) (fun H locs h hX => ?_)
      obtain ⟨q22, hq_q22, hf⟩ := ob_ hf
      refine x_ai K h (x_VN C K h [.int ((sByt_.getD 0 []).getD j21 0)] (c_X3_put l κ G cy ad H.size σ b20 ((sByt_.getD 0 []).getD j21 0) hk_b20 hq_q22) mi_X3_put rfl im_yX3_put se_yX3_put nm_RX8_90 cl_3 hk_b20 ⟨rfl, rfl, Nat.le_trans (Nat.le_of_ble_eq_true rfl) hR.1, Nat.le_trans (Nat.le_of_ble_eq_true rfl) hR.2.1⟩ hl (Nat.le_of_ble_eq_true rfl) dX8_init_175 ⟨Nat.le_trans (by decide) hR.2.2.1, Nat.le_trans (by decide) hR.2.2.2⟩ rfl) (fun H locs h hX => ?_)
      have hE := hE.trans hX
      have hk_v0 := hX.k hk_v0 (by decide)
      refine lv_pop C.1 C.2.1 dX8_init_178 rfl ?_
      refine lv_iinc (v := v1 + (1 : Int32)) (lv' := [(1, .int (v1 + (1 : Int32))), (0, .ref (ad v0))]) C.1 C.2.1 dX8_init_179 hl (k := 1) rfl rfl (by decide) rfl (fun ls hl => ?_)
      refine lv_goto (tgt := 156) C.1 C.2.1 dX8_init_182 (by decide) ?_
      refine W.widen (k := 54) (n := 3482) (by decide) (by decide) ?_
      exact ih ad q22.2 v0 (v1 + (1 : Int32)) hag hE hk_v0 hf _ _ _ h (lv_sub hl [1, 0] rfl)
def f_X8_init (fu : Nat) (σ : St_) (a0 : Nat) : Option St_ := lt_ (sn_ σ) fun b4 => lt_ (nw_ σ 1 0) fun σ2 => (f_X1_init fu σ2 b4).bind fun q5 => lt_ (sn_ (ur_ q5 a0 0 (some b4))) fun b12 => lt_ (nw_ (ur_ q5 a0 0 (some b4)) 1 0) fun σ10 => (f_X1_init fu σ10 b12).bind fun q13 => lt_ (sn_ (ui_ (ur_ q13 a0 1 (some b12)) a0 2 (0 : Int32))) fun b20 => lt_ (nw_ (ui_ (ur_ q13 a0 1 (some b12)) a0 2 (0 : Int32)) 3 0) fun σ18 => (f_X3_init σ18 b20).bind fun q21 => lt_ (sn_ (ur_ q21 a0 3 (some b20))) fun b28 => lt_ (nw_ (ur_ q21 a0 3 (some b20)) 15 (6 : Int32).toNatClampNeg) fun σ26 => lt_ (sn_ (ui_ (ur_ σ26 a0 4 (some b28)) a0 5 (0 : Int32))) fun b32 => lt_ (nw_ (ui_ (ur_ σ26 a0 4 (some b28)) a0 5 (0 : Int32)) 14 (4 : Int32).toNatClampNeg) fun σ30 => lt_ (sn_ (ur_ σ30 a0 6 (some b32))) fun b36 => lt_ (nw_ (ur_ σ30 a0 6 (some b32)) 6 0) fun σ34 => (f_X6_init σ34 b36).bind fun q37 => lt_ (sn_ (ur_ q37 a0 7 (some b36))) fun b44 => lt_ (nw_ (ur_ q37 a0 7 (some b36)) 7 0) fun σ42 => (f_X7_init σ42 b44).bind fun q45 => lt_ (sn_ (ur_ q45 a0 8 (some b44))) fun b52 => lt_ (nw_ (ur_ q45 a0 8 (some b44)) 7 0) fun σ50 => (f_X7_init σ50 b52).bind fun q53 => lt_ (sn_ (ur_ q53 a0 9 (some b52))) fun b60 => lt_ (nw_ (ur_ q53 a0 9 (some b52)) 2 0) fun σ58 => (f_X2_init σ58 b60).bind fun q61 => lt_ (sn_ (ur_ q61 a0 10 (some b60))) fun b68 => lt_ (nw_ (ur_ q61 a0 10 (some b60)) 11 (36 : Int32).toNatClampNeg) fun σ66 => lt_ (sn_ (ur_ σ66 a0 11 (some b68))) fun b72 => lt_ (nw_ (ur_ σ66 a0 11 (some b68)) 11 (36 : Int32).toNatClampNeg) fun σ70 => (dr_ (ur_ σ70 a0 12 (some b72)) 14 (sr_ (ur_ σ70 a0 12 (some b72)) a0 6)).bind fun b73 => if (nI (ln_ (ur_ σ70 a0 12 (some b72)) b73)) ≤ (0 : Int32) then f_X8_init_156 fu fu (ur_ σ70 a0 12 (some b72)) a0 (0 : Int32) else lt_ (sn_ (ur_ σ70 a0 12 (some b72))) fun b79 => lt_ (nw_ (ur_ σ70 a0 12 (some b72)) 4 0) fun σ76 => (f_X4_init σ76 b79).bind fun q80 => (ix_ (0 : Int32) (ln_ q80 b73)).bind fun j85 => (dr_ (ur_ q80 b73 j85 (some b79)) 14 (sr_ (ur_ q80 b73 j85 (some b79)) a0 6)).bind fun b86 => if (nI (ln_ (ur_ q80 b73 j85 (some b79)) b86)) ≤ ((0 : Int32) + (1 : Int32)) then f_X8_init_156 fu fu (ur_ q80 b73 j85 (some b79)) a0 (0 : Int32) else lt_ (sn_ (ur_ q80 b73 j85 (some b79))) fun b92 => lt_ (nw_ (ur_ q80 b73 j85 (some b79)) 4 0) fun σ89 => (f_X4_init σ89 b92).bind fun q93 => (ix_ ((0 : Int32) + (1 : Int32)) (ln_ q93 b86)).bind fun j98 => (dr_ (ur_ q93 b86 j98 (some b92)) 14 (sr_ (ur_ q93 b86 j98 (some b92)) a0 6)).bind fun b99 => if (nI (ln_ (ur_ q93 b86 j98 (some b92)) b99)) ≤ (((0 : Int32) + (1 : Int32)) + (1 : Int32)) then f_X8_init_156 fu fu (ur_ q93 b86 j98 (some b92)) a0 (0 : Int32) else lt_ (sn_ (ur_ q93 b86 j98 (some b92))) fun b105 => lt_ (nw_ (ur_ q93 b86 j98 (some b92)) 4 0) fun σ102 => (f_X4_init σ102 b105).bind fun q106 => (ix_ (((0 : Int32) + (1 : Int32)) + (1 : Int32)) (ln_ q106 b99)).bind fun j111 => (dr_ (ur_ q106 b99 j111 (some b105)) 14 (sr_ (ur_ q106 b99 j111 (some b105)) a0 6)).bind fun b112 => if (nI (ln_ (ur_ q106 b99 j111 (some b105)) b112)) ≤ ((((0 : Int32) + (1 : Int32)) + (1 : Int32)) + (1 : Int32)) then f_X8_init_156 fu fu (ur_ q106 b99 j111 (some b105)) a0 (0 : Int32) else lt_ (sn_ (ur_ q106 b99 j111 (some b105))) fun b118 => lt_ (nw_ (ur_ q106 b99 j111 (some b105)) 4 0) fun σ115 => (f_X4_init σ115 b118).bind fun q119 => (ix_ ((((0 : Int32) + (1 : Int32)) + (1 : Int32)) + (1 : Int32)) (ln_ q119 b112)).bind fun j124 => (dr_ (ur_ q119 b112 j124 (some b118)) 14 (sr_ (ur_ q119 b112 j124 (some b118)) a0 6)).bind fun b125 => if (nI (ln_ (ur_ q119 b112 j124 (some b118)) b125)) ≤ (((((0 : Int32) + (1 : Int32)) + (1 : Int32)) + (1 : Int32)) + (1 : Int32)) then f_X8_init_156 fu fu (ur_ q119 b112 j124 (some b118)) a0 (0 : Int32) else lt_ (sn_ (ur_ q119 b112 j124 (some b118))) fun b131 => lt_ (nw_ (ur_ q119 b112 j124 (some b118)) 4 0) fun σ128 => (f_X4_init σ128 b131).bind fun q132 => (ix_ (((((0 : Int32) + (1 : Int32)) + (1 : Int32)) + (1 : Int32)) + (1 : Int32)) (ln_ q132 b125)).bind fun j137 => (dr_ (ur_ q132 b125 j137 (some b131)) 14 (sr_ (ur_ q132 b125 j137 (some b131)) a0 6)).bind fun b138 => if (nI (ln_ (ur_ q132 b125 j137 (some b131)) b138)) ≤ ((((((0 : Int32) + (1 : Int32)) + (1 : Int32)) + (1 : Int32)) + (1 : Int32)) + (1 : Int32)) then f_X8_init_156 fu fu (ur_ q132 b125 j137 (some b131)) a0 (0 : Int32) else lt_ (sn_ (ur_ q132 b125 j137 (some b131))) fun b144 => lt_ (nw_ (ur_ q132 b125 j137 (some b131)) 4 0) fun σ141 => (f_X4_init σ141 b144).bind fun q145 => (ix_ ((((((0 : Int32) + (1 : Int32)) + (1 : Int32)) + (1 : Int32)) + (1 : Int32)) + (1 : Int32)) (ln_ q145 b138)).bind fun j150 => none
set_option maxHeartbeats 4000000 in
set_option maxRecDepth 100000 in
theorem w_X8_init {p : Program} {l : Launch} {e : Env} {R : Room} {s : State} {m : MethodId} {args : Array Value} {below : List Frame} {meth : Method} {c : Code} {κ : Ka_} {G : va_G} {cy : Nat → ClassId} {ad0 : Nat → Nat} {sz : Nat} {σ0 : St_} (fu : Nat) (C : CallFix p m c cX8_init 2 s args wU_ RX8) (K : Kx_ κ G cy (va_A (wl_ cy ad0 σ0) sz) s) (hr : meth.sig.returnType = none) (hlk : meth.locks = false) (hin : meth.name = "<init>") (hR : 163 ≤ R.frames ∧ 8141 ≤ R.locals ∧ 58 ≤ R.cells ∧ 3965 ≤ R.slots) {q : St_} : ∀ (ad : Nat → Nat) (σ : St_) (a0 : Nat), Ag_ (sn_ σ0) ad0 ad → Ex_ σ0 σ → kd_ σ a0 = 8 → f_X8_init fu σ a0 = some q → ∀ (H : Heap) (locs : List Loc) (ls : Array Slot), Ht_ G cy (va_A (wl_ cy ad0 σ0) sz) s ad σ H locs → lv_has ls 2 [(0, .ref (ad a0))] → W p l e R s m args below meth c H locs 0 0 (MQ below (QvA_ G cy ad0 σ0 q sz) args s 58 3965 (va_A (wl_ cy ad0 σ0) sz)) (F0 m 0 ls []) := by
  intro ad σ a0 hag hE hk_a0 hf H locs ls h hl
  have hf : (lt_ (sn_ σ) fun b4 => lt_ (nw_ σ 1 0) fun σ2 => (f_X1_init fu σ2 b4).bind fun q5 => lt_ (sn_ (ur_ q5 a0 0 (some b4))) fun b12 => lt_ (nw_ (ur_ q5 a0 0 (some b4)) 1 0) fun σ10 => (f_X1_init fu σ10 b12).bind fun q13 => lt_ (sn_ (ui_ (ur_ q13 a0 1 (some b12)) a0 2 (0 : Int32))) fun b20 => lt_ (nw_ (ui_ (ur_ q13 a0 1 (some b12)) a0 2 (0 : Int32)) 3 0) fun σ18 => (f_X3_init σ18 b20).bind fun q21 => lt_ (sn_ (ur_ q21 a0 3 (some b20))) fun b28 => lt_ (nw_ (ur_ q21 a0 3 (some b20)) 15 (6 : Int32).toNatClampNeg) fun σ26 => lt_ (sn_ (ui_ (ur_ σ26 a0 4 (some b28)) a0 5 (0 : Int32))) fun b32 => lt_ (nw_ (ui_ (ur_ σ26 a0 4 (some b28)) a0 5 (0 : Int32)) 14 (4 : Int32).toNatClampNeg) fun σ30 => lt_ (sn_ (ur_ σ30 a0 6 (some b32))) fun b36 => lt_ (nw_ (ur_ σ30 a0 6 (some b32)) 6 0) fun σ34 => (f_X6_init σ34 b36).bind fun q37 => lt_ (sn_ (ur_ q37 a0 7 (some b36))) fun b44 => lt_ (nw_ (ur_ q37 a0 7 (some b36)) 7 0) fun σ42 => (f_X7_init σ42 b44).bind fun q45 => lt_ (sn_ (ur_ q45 a0 8 (some b44))) fun b52 => lt_ (nw_ (ur_ q45 a0 8 (some b44)) 7 0) fun σ50 => (f_X7_init σ50 b52).bind fun q53 => lt_ (sn_ (ur_ q53 a0 9 (some b52))) fun b60 => lt_ (nw_ (ur_ q53 a0 9 (some b52)) 2 0) fun σ58 => (f_X2_init σ58 b60).bind fun q61 => lt_ (sn_ (ur_ q61 a0 10 (some b60))) fun b68 => lt_ (nw_ (ur_ q61 a0 10 (some b60)) 11 (36 : Int32).toNatClampNeg) fun σ66 => lt_ (sn_ (ur_ σ66 a0 11 (some b68))) fun b72 => lt_ (nw_ (ur_ σ66 a0 11 (some b68)) 11 (36 : Int32).toNatClampNeg) fun σ70 => (dr_ (ur_ σ70 a0 12 (some b72)) 14 (sr_ (ur_ σ70 a0 12 (some b72)) a0 6)).bind fun b73 => if (nI (ln_ (ur_ σ70 a0 12 (some b72)) b73)) ≤ (0 : Int32) then f_X8_init_156 fu fu (ur_ σ70 a0 12 (some b72)) a0 (0 : Int32) else lt_ (sn_ (ur_ σ70 a0 12 (some b72))) fun b79 => lt_ (nw_ (ur_ σ70 a0 12 (some b72)) 4 0) fun σ76 => (f_X4_init σ76 b79).bind fun q80 => (ix_ (0 : Int32) (ln_ q80 b73)).bind fun j85 => (dr_ (ur_ q80 b73 j85 (some b79)) 14 (sr_ (ur_ q80 b73 j85 (some b79)) a0 6)).bind fun b86 => if (nI (ln_ (ur_ q80 b73 j85 (some b79)) b86)) ≤ ((0 : Int32) + (1 : Int32)) then f_X8_init_156 fu fu (ur_ q80 b73 j85 (some b79)) a0 (0 : Int32) else lt_ (sn_ (ur_ q80 b73 j85 (some b79))) fun b92 => lt_ (nw_ (ur_ q80 b73 j85 (some b79)) 4 0) fun σ89 => (f_X4_init σ89 b92).bind fun q93 => (ix_ ((0 : Int32) + (1 : Int32)) (ln_ q93 b86)).bind fun j98 => (dr_ (ur_ q93 b86 j98 (some b92)) 14 (sr_ (ur_ q93 b86 j98 (some b92)) a0 6)).bind fun b99 => if (nI (ln_ (ur_ q93 b86 j98 (some b92)) b99)) ≤ (((0 : Int32) + (1 : Int32)) + (1 : Int32)) then f_X8_init_156 fu fu (ur_ q93 b86 j98 (some b92)) a0 (0 : Int32) else lt_ (sn_ (ur_ q93 b86 j98 (some b92))) fun b105 => lt_ (nw_ (ur_ q93 b86 j98 (some b92)) 4 0) fun σ102 => (f_X4_init σ102 b105).bind fun q106 => (ix_ (((0 : Int32) + (1 : Int32)) + (1 : Int32)) (ln_ q106 b99)).bind fun j111 => (dr_ (ur_ q106 b99 j111 (some b105)) 14 (sr_ (ur_ q106 b99 j111 (some b105)) a0 6)).bind fun b112 => if (nI (ln_ (ur_ q106 b99 j111 (some b105)) b112)) ≤ ((((0 : Int32) + (1 : Int32)) + (1 : Int32)) + (1 : Int32)) then f_X8_init_156 fu fu (ur_ q106 b99 j111 (some b105)) a0 (0 : Int32) else lt_ (sn_ (ur_ q106 b99 j111 (some b105))) fun b118 => lt_ (nw_ (ur_ q106 b99 j111 (some b105)) 4 0) fun σ115 => (f_X4_init σ115 b118).bind fun q119 => (ix_ ((((0 : Int32) + (1 : Int32)) + (1 : Int32)) + (1 : Int32)) (ln_ q119 b112)).bind fun j124 => (dr_ (ur_ q119 b112 j124 (some b118)) 14 (sr_ (ur_ q119 b112 j124 (some b118)) a0 6)).bind fun b125 => if (nI (ln_ (ur_ q119 b112 j124 (some b118)) b125)) ≤ (((((0 : Int32) + (1 : Int32)) + (1 : Int32)) + (1 : Int32)) + (1 : Int32)) then f_X8_init_156 fu fu (ur_ q119 b112 j124 (some b118)) a0 (0 : Int32) else lt_ (sn_ (ur_ q119 b112 j124 (some b118))) fun b131 => lt_ (nw_ (ur_ q119 b112 j124 (some b118)) 4 0) fun σ128 => (f_X4_init σ128 b131).bind fun q132 => (ix_ (((((0 : Int32) + (1 : Int32)) + (1 : Int32)) + (1 : Int32)) + (1 : Int32)) (ln_ q132 b125)).bind fun j137 => (dr_ (ur_ q132 b125 j137 (some b131)) 14 (sr_ (ur_ q132 b125 j137 (some b131)) a0 6)).bind fun b138 => if (nI (ln_ (ur_ q132 b125 j137 (some b131)) b138)) ≤ ((((((0 : Int32) + (1 : Int32)) + (1 : Int32)) + (1 : Int32)) + (1 : Int32)) + (1 : Int32)) then f_X8_init_156 fu fu (ur_ q132 b125 j137 (some b131)) a0 (0 : Int32) else lt_ (sn_ (ur_ q132 b125 j137 (some b131))) fun b144 => lt_ (nw_ (ur_ q132 b125 j137 (some b131)) 4 0) fun σ141 => (f_X4_init σ141 b144).bind fun q145 => (ix_ ((((((0 : Int32) + (1 : Int32)) + (1 : Int32)) + (1 : Int32)) + (1 : Int32)) + (1 : Int32)) (ln_ q145 b138)).bind fun j150 => none) = some q := hf
  refine lv_aload_n C.1 C.2.1 dX8_init_0 rfl (lv_at hl 0 rfl) ?_
  refine x_obj C hl ml_RX8_3 (Nat.le_trans (by decide) hR.1) (Nat.le_trans (by decide) hR.2.1) (Nat.le_of_ble_eq_true rfl) dX8_init_1 ?_
  refine lv_aload_n C.1 C.2.1 dX8_init_4 rfl (lv_at hl 0 rfl) ?_
  have ea3 := h.lt hk_a0 (by decide)
  obtain ⟨b4, eb4, hf⟩ := lt_in hf
  obtain ⟨σ2, eσ2, hf⟩ := lt_in hf
  refine x_new C K h cl_1 kl_RX8_9 it_RX1 in_RX1 (fun j hj => by rcases (show j = 0 ∨ j = 1 ∨ j = 2 ∨ j = 3 ∨ j = 4 by omega) with rfl | rfl | rfl | rfl | rfl <;> rfl) (Nat.le_trans (by decide) hR.2.2.1) (Nat.le_trans (by decide) hR.2.2.2) dX8_init_5 (fun ad1 H had1 h hX => ?_)
  rw [← eσ2] at h hX
  rw [← eb4]
  rw [← had1 a0 ea3] at hl
  rw [← had1 a0 ea3]
  have hag := hag.trans hE.1 had1
  have hE := hE.trans hX
  have hk_a0 := hX.k hk_a0 (by decide)
  refine W.widen (k := 1) (n := 5) (by decide) (by decide) ?_
  have hk_b4 : kd_ σ2 b4 = 1 := by rw [eσ2, eb4]; exact nw_kd _ _ _
  refine lv_dup C.1 C.2.1 dX8_init_8 rfl ?_
  obtain ⟨q5, hq_q5, hf⟩ := ob_ hf
  have ea7 := h.lt hk_a0 (by decide)
  have ea8 := h.lt hk_b4 (by decide)
  refine x_avA K h (x_IN C K h [] (c_X1_init fu l κ G cy ad1 H.size σ2 b4 hk_b4 hq_q5) mi_X1_init rfl rfl im_yX1_init nm_RX8_11 ⟨rfl, rfl, Nat.le_trans (Nat.le_of_ble_eq_true rfl) hR.1, Nat.le_trans (Nat.le_of_ble_eq_true rfl) hR.2.1⟩ hl (Nat.le_of_ble_eq_true rfl) dX8_init_9 ⟨Nat.le_trans (by decide) hR.2.2.1, Nat.le_trans (by decide) hR.2.2.2⟩ rfl) (fun ad6 H locs had6 h hX => ?_)
  rw [← had6 a0 ea7] at hl
  rw [← had6 a0 ea7]
  rw [← had6 b4 ea8]
  have hag := hag.trans hE.1 had6
  have hE := hE.trans hX
  have hk_a0 := hX.k hk_a0 (by decide)
  have hk_b4 := hX.k hk_b4 (by decide)
  refine W.widen (k := 8) (n := 33) (by decide) (by decide) ?_
  have hE := hE.up (up_r q5 a0 0 (some b4) (fun b hb => by cases hb; exact h.lt hk_b4 (by decide)))
  refine x_putRF (v := (some b4)) C K hin h cl_8 hk_a0 0 (by decide) fl_RX8_12 rfl rfl (fun b hb => by cases hb; exact h.lt hk_b4 (by decide)) (rv_nar _ _) (rv_fit _ _ (by decide)) (Nat.le_of_ble_eq_true rfl) (fun _ _ _ => rfl) dX8_init_12 (fun H locs h => ?_)
  refine lv_aload_n C.1 C.2.1 dX8_init_15 rfl (lv_at hl 0 rfl) ?_
  have ea11 := h.lt hk_a0 (by decide)
  obtain ⟨b12, eb12, hf⟩ := lt_in hf
  obtain ⟨σ10, eσ10, hf⟩ := lt_in hf
  refine x_new C K h cl_1 kl_RX8_9 it_RX1 in_RX1 (fun j hj => by rcases (show j = 0 ∨ j = 1 ∨ j = 2 ∨ j = 3 ∨ j = 4 by omega) with rfl | rfl | rfl | rfl | rfl <;> rfl) (Nat.le_trans (by decide) hR.2.2.1) (Nat.le_trans (by decide) hR.2.2.2) dX8_init_16 (fun ad9 H had9 h hX => ?_)
  rw [← eσ10] at h hX
  rw [← eb12]
  rw [← had9 a0 ea11] at hl
  rw [← had9 a0 ea11]
  have hag := hag.trans hE.1 had9
  have hE := hE.trans hX
  have hk_a0 := hX.k hk_a0 (by decide)
  refine W.widen (k := 9) (n := 38) (by decide) (by decide) ?_
  have hk_b12 : kd_ σ10 b12 = 1 := by rw [eσ10, eb12]; exact nw_kd _ _ _
  refine lv_dup C.1 C.2.1 dX8_init_19 rfl ?_
  obtain ⟨q13, hq_q13, hf⟩ := ob_ hf
  have ea15 := h.lt hk_a0 (by decide)
  have ea16 := h.lt hk_b12 (by decide)
  refine x_avA K h (x_IN C K h [] (c_X1_init fu l κ G cy ad9 H.size σ10 b12 hk_b12 hq_q13) mi_X1_init rfl rfl im_yX1_init nm_RX8_11 ⟨rfl, rfl, Nat.le_trans (Nat.le_of_ble_eq_true rfl) hR.1, Nat.le_trans (Nat.le_of_ble_eq_true rfl) hR.2.1⟩ hl (Nat.le_of_ble_eq_true rfl) dX8_init_20 ⟨Nat.le_trans (by decide) hR.2.2.1, Nat.le_trans (by decide) hR.2.2.2⟩ rfl) (fun ad14 H locs had14 h hX => ?_)
  rw [← had14 a0 ea15] at hl
  rw [← had14 a0 ea15]
  rw [← had14 b12 ea16]
  have hag := hag.trans hE.1 had14
  have hE := hE.trans hX
  have hk_a0 := hX.k hk_a0 (by decide)
  have hk_b12 := hX.k hk_b12 (by decide)
  refine W.widen (k := 16) (n := 66) (by decide) (by decide) ?_
  have hE := hE.up (up_r q13 a0 1 (some b12) (fun b hb => by cases hb; exact h.lt hk_b12 (by decide)))
  refine x_putRF (v := (some b12)) C K hin h cl_8 hk_a0 1 (by decide) fl_RX8_16 rfl rfl (fun b hb => by cases hb; exact h.lt hk_b12 (by decide)) (rv_nar _ _) (rv_fit _ _ (by decide)) (Nat.le_of_ble_eq_true rfl) (fun _ _ _ => rfl) dX8_init_23 (fun H locs h => ?_)
  refine lv_aload_n C.1 C.2.1 dX8_init_26 rfl (lv_at hl 0 rfl) ?_
  refine lv_iconst (v := (0 : Int32)) C.1 C.2.1 dX8_init_27 (by decide) ?_
  refine x_putI C K h cl_8 hk_a0 2 (by decide) fl_RX8_19 rfl (by decide) (by decide) (Nat.le_of_ble_eq_true rfl) (fun _ _ _ => rfl) dX8_init_28 (fun H locs h => ?_)
  have hE := hE.up (up_i (ur_ q13 a0 1 (some b12)) a0 2 (0 : Int32))
  refine lv_aload_n C.1 C.2.1 dX8_init_31 rfl (lv_at hl 0 rfl) ?_
  have ea19 := h.lt hk_a0 (by decide)
  obtain ⟨b20, eb20, hf⟩ := lt_in hf
  obtain ⟨σ18, eσ18, hf⟩ := lt_in hf
  refine x_new C K h cl_3 kl_RX8_23 it_RX3 in_RX3 (fun j hj => by rcases (show j = 0 ∨ j = 1 ∨ j = 2 ∨ j = 3 ∨ j = 4 ∨ j = 5 ∨ j = 6 ∨ j = 7 ∨ j = 8 ∨ j = 9 ∨ j = 10 by omega) with rfl | rfl | rfl | rfl | rfl | rfl | rfl | rfl | rfl | rfl | rfl <;> rfl) (Nat.le_trans (by decide) hR.2.2.1) (Nat.le_trans (by decide) hR.2.2.2) dX8_init_32 (fun ad17 H had17 h hX => ?_)
  rw [← eσ18] at h hX
  rw [← eb20]
  rw [← had17 a0 ea19] at hl
  rw [← had17 a0 ea19]
  have hag := hag.trans hE.1 had17
  have hE := hE.trans hX
  have hk_a0 := hX.k hk_a0 (by decide)
  refine W.widen (k := 17) (n := 77) (by decide) (by decide) ?_
  have hk_b20 : kd_ σ18 b20 = 3 := by rw [eσ18, eb20]; exact nw_kd _ _ _
  refine lv_dup C.1 C.2.1 dX8_init_35 rfl ?_
  obtain ⟨q21, hq_q21, hf⟩ := ob_ hf
  have ea23 := h.lt hk_a0 (by decide)
  have ea24 := h.lt hk_b20 (by decide)
  refine x_avA K h (x_IN C K h [] (c_X3_init l κ G cy ad17 H.size σ18 b20 hk_b20 hq_q21) mi_X3_init rfl rfl im_yX3_init nm_RX8_25 ⟨rfl, rfl, Nat.le_trans (Nat.le_of_ble_eq_true rfl) hR.1, Nat.le_trans (Nat.le_of_ble_eq_true rfl) hR.2.1⟩ hl (Nat.le_of_ble_eq_true rfl) dX8_init_36 ⟨Nat.le_trans (by decide) hR.2.2.1, Nat.le_trans (by decide) hR.2.2.2⟩ rfl) (fun ad22 H locs had22 h hX => ?_)
  rw [← had22 a0 ea23] at hl
  rw [← had22 a0 ea23]
  rw [← had22 b20 ea24]
  have hag := hag.trans hE.1 had22
  have hE := hE.trans hX
  have hk_a0 := hX.k hk_a0 (by decide)
  have hk_b20 := hX.k hk_b20 (by decide)
  refine W.widen (k := 22) (n := 877) (by decide) (by decide) ?_
  have hE := hE.up (up_r q21 a0 3 (some b20) (fun b hb => by cases hb; exact h.lt hk_b20 (by decide)))
  refine x_putRF (v := (some b20)) C K hin h cl_8 hk_a0 3 (by decide) fl_RX8_26 rfl rfl (fun b hb => by cases hb; exact h.lt hk_b20 (by decide)) (rv_nar _ _) (rv_fit _ _ (by decide)) (Nat.le_of_ble_eq_true rfl) (fun _ _ _ => rfl) dX8_init_39 (fun H locs h => ?_)
  refine lv_aload_n C.1 C.2.1 dX8_init_42 rfl (lv_at hl 0 rfl) ?_
  refine lv_bipush (v := (6 : Int32)) C.1 C.2.1 dX8_init_43 (by decide) ?_
  have ea27 := h.lt hk_a0 (by decide)
  obtain ⟨b28, eb28, hf⟩ := lt_in hf
  obtain ⟨σ26, eσ26, hf⟩ := lt_in hf
  refine x_newq C K h kl_RX8_30 K.2.1.2.2.2.2 5 15 rfl (fun _ => rfl) (by decide) (by decide) (Nat.le_trans (by decide) hR.2.2.1) (Nat.le_trans (by decide) hR.2.2.2) dX8_init_45 (fun ad25 H had25 h hX => ?_)
  rw [← eσ26] at h hX
  rw [← eb28]
  rw [← had25 a0 ea27] at hl
  rw [← had25 a0 ea27]
  have hag := hag.trans hE.1 had25
  have hE := hE.trans hX
  have hk_a0 := hX.k hk_a0 (by decide)
  refine W.widen (k := 23) (n := 883) (by decide) (by decide) ?_
  have hk_b28 : kd_ σ26 b28 = 15 := by rw [eσ26, eb28]; exact nw_kd _ _ _
  have hE := hE.up (up_r σ26 a0 4 (some b28) (fun b hb => by cases hb; exact h.lt hk_b28 (by decide)))
  refine x_putRF (v := (some b28)) C K hin h cl_8 hk_a0 4 (by decide) fl_RX8_32 rfl rfl (fun b hb => by cases hb; exact h.lt hk_b28 (by decide)) (rv_nar _ _) (rv_fit _ _ (by decide)) (Nat.le_of_ble_eq_true rfl) (fun _ _ _ => rfl) dX8_init_48 (fun H locs h => ?_)
  refine lv_aload_n C.1 C.2.1 dX8_init_51 rfl (lv_at hl 0 rfl) ?_
  refine lv_iconst (v := (0 : Int32)) C.1 C.2.1 dX8_init_52 (by decide) ?_
  refine x_putI C K h cl_8 hk_a0 5 (by decide) fl_RX8_36 rfl rfl rfl (Nat.le_of_ble_eq_true rfl) (fun _ _ _ => rfl) dX8_init_53 (fun H locs h => ?_)
  have hE := hE.up (up_i (ur_ σ26 a0 4 (some b28)) a0 5 (0 : Int32))
  refine lv_aload_n C.1 C.2.1 dX8_init_56 rfl (lv_at hl 0 rfl) ?_
  refine lv_iconst (v := (4 : Int32)) C.1 C.2.1 dX8_init_57 (by decide) ?_
  have ea31 := h.lt hk_a0 (by decide)
  obtain ⟨b32, eb32, hf⟩ := lt_in hf
  obtain ⟨σ30, eσ30, hf⟩ := lt_in hf
  refine x_newq C K h kl_RX8_40 K.2.1.2.2.2.1 4 14 rfl (fun _ => rfl) (by decide) (by decide) (Nat.le_trans (by decide) hR.2.2.1) (Nat.le_trans (by decide) hR.2.2.2) dX8_init_58 (fun ad29 H had29 h hX => ?_)
  rw [← eσ30] at h hX
  rw [← eb32]
  rw [← had29 a0 ea31] at hl
  rw [← had29 a0 ea31]
  have hag := hag.trans hE.1 had29
  have hE := hE.trans hX
  have hk_a0 := hX.k hk_a0 (by decide)
  refine W.widen (k := 24) (n := 887) (by decide) (by decide) ?_
  have hk_b32 : kd_ σ30 b32 = 14 := by rw [eσ30, eb32]; exact nw_kd _ _ _
  have hE := hE.up (up_r σ30 a0 6 (some b32) (fun b hb => by cases hb; exact h.lt hk_b32 (by decide)))
  refine x_putRF (v := (some b32)) C K hin h cl_8 hk_a0 6 (by decide) fl_RX8_42 rfl rfl (fun b hb => by cases hb; exact h.lt hk_b32 (by decide)) (rv_nar _ _) (rv_fit _ _ (by decide)) (Nat.le_of_ble_eq_true rfl) (fun _ _ _ => rfl) dX8_init_61 (fun H locs h => ?_)
  refine lv_aload_n C.1 C.2.1 dX8_init_64 rfl (lv_at hl 0 rfl) ?_
  have ea35 := h.lt hk_a0 (by decide)
  obtain ⟨b36, eb36, hf⟩ := lt_in hf
  obtain ⟨σ34, eσ34, hf⟩ := lt_in hf
  refine x_new C K h cl_6 kl_RX8_46 it_RX6 in_RX6 (fun j hj => by rcases (show j = 0 ∨ j = 1 ∨ j = 2 ∨ j = 3 ∨ j = 4 by omega) with rfl | rfl | rfl | rfl | rfl <;> rfl) (Nat.le_trans (by decide) hR.2.2.1) (Nat.le_trans (by decide) hR.2.2.2) dX8_init_65 (fun ad33 H had33 h hX => ?_)
  rw [← eσ34] at h hX
  rw [← eb36]
  rw [← had33 a0 ea35] at hl
  rw [← had33 a0 ea35]
  have hag := hag.trans hE.1 had33
  have hE := hE.trans hX
  have hk_a0 := hX.k hk_a0 (by decide)
  refine W.widen (k := 25) (n := 892) (by decide) (by decide) ?_
  have hk_b36 : kd_ σ34 b36 = 6 := by rw [eσ34, eb36]; exact nw_kd _ _ _
  refine lv_dup C.1 C.2.1 dX8_init_68 rfl ?_
  obtain ⟨q37, hq_q37, hf⟩ := ob_ hf
  have ea39 := h.lt hk_a0 (by decide)
  have ea40 := h.lt hk_b36 (by decide)
  refine x_avA K h (x_IN C K h [] (c_X6_init l κ G cy ad33 H.size σ34 b36 hk_b36 hq_q37) mi_X6_init rfl rfl im_yX6_init nm_RX8_48 ⟨rfl, rfl, Nat.le_trans (Nat.le_of_ble_eq_true rfl) hR.1, Nat.le_trans (Nat.le_of_ble_eq_true rfl) hR.2.1⟩ hl (Nat.le_of_ble_eq_true rfl) dX8_init_69 ⟨Nat.le_trans (by decide) hR.2.2.1, Nat.le_trans (by decide) hR.2.2.2⟩ rfl) (fun ad38 H locs had38 h hX => ?_)
  rw [← had38 a0 ea39] at hl
  rw [← had38 a0 ea39]
  rw [← had38 b36 ea40]
  have hag := hag.trans hE.1 had38
  have hE := hE.trans hX
  have hk_a0 := hX.k hk_a0 (by decide)
  have hk_b36 := hX.k hk_b36 (by decide)
  refine W.widen (k := 27) (n := 978) (by decide) (by decide) ?_
  have hE := hE.up (up_r q37 a0 7 (some b36) (fun b hb => by cases hb; exact h.lt hk_b36 (by decide)))
  refine x_putRF (v := (some b36)) C K hin h cl_8 hk_a0 7 (by decide) fl_RX8_49 rfl rfl (fun b hb => by cases hb; exact h.lt hk_b36 (by decide)) (rv_nar _ _) (rv_fit _ _ (by decide)) (Nat.le_of_ble_eq_true rfl) (fun _ _ _ => rfl) dX8_init_72 (fun H locs h => ?_)
  refine lv_aload_n C.1 C.2.1 dX8_init_75 rfl (lv_at hl 0 rfl) ?_
  have ea43 := h.lt hk_a0 (by decide)
  obtain ⟨b44, eb44, hf⟩ := lt_in hf
  obtain ⟨σ42, eσ42, hf⟩ := lt_in hf
  refine x_new C K h cl_7 kl_RX8_53 it_RX7 in_RX7 (fun j hj => by rcases (show j = 0 ∨ j = 1 ∨ j = 2 ∨ j = 3 ∨ j = 4 ∨ j = 5 ∨ j = 6 ∨ j = 7 by omega) with rfl | rfl | rfl | rfl | rfl | rfl | rfl | rfl <;> rfl) (Nat.le_trans (by decide) hR.2.2.1) (Nat.le_trans (by decide) hR.2.2.2) dX8_init_76 (fun ad41 H had41 h hX => ?_)
  rw [← eσ42] at h hX
  rw [← eb44]
  rw [← had41 a0 ea43] at hl
  rw [← had41 a0 ea43]
  have hag := hag.trans hE.1 had41
  have hE := hE.trans hX
  have hk_a0 := hX.k hk_a0 (by decide)
  refine W.widen (k := 28) (n := 986) (by decide) (by decide) ?_
  have hk_b44 : kd_ σ42 b44 = 7 := by rw [eσ42, eb44]; exact nw_kd _ _ _
  refine lv_dup C.1 C.2.1 dX8_init_79 rfl ?_
  obtain ⟨q45, hq_q45, hf⟩ := ob_ hf
  have ea47 := h.lt hk_a0 (by decide)
  have ea48 := h.lt hk_b44 (by decide)
  refine x_avA K h (x_IN C K h [] (c_X7_init l κ G cy ad41 H.size σ42 b44 hk_b44 hq_q45) mi_X7_init rfl rfl im_yX7_init nm_RX8_55 ⟨rfl, rfl, Nat.le_trans (Nat.le_of_ble_eq_true rfl) hR.1, Nat.le_trans (Nat.le_of_ble_eq_true rfl) hR.2.1⟩ hl (Nat.le_of_ble_eq_true rfl) dX8_init_80 ⟨Nat.le_trans (by decide) hR.2.2.1, Nat.le_trans (by decide) hR.2.2.2⟩ rfl) (fun ad46 H locs had46 h hX => ?_)
  rw [← had46 a0 ea47] at hl
  rw [← had46 a0 ea47]
  rw [← had46 b44 ea48]
  have hag := hag.trans hE.1 had46
  have hE := hE.trans hX
  have hk_a0 := hX.k hk_a0 (by decide)
  have hk_b44 := hX.k hk_b44 (by decide)
  refine W.widen (k := 33) (n := 1418) (by decide) (by decide) ?_
  have hE := hE.up (up_r q45 a0 8 (some b44) (fun b hb => by cases hb; exact h.lt hk_b44 (by decide)))
  refine x_putRF (v := (some b44)) C K hin h cl_8 hk_a0 8 (by decide) fl_RX8_56 rfl rfl (fun b hb => by cases hb; exact h.lt hk_b44 (by decide)) (rv_nar _ _) (rv_fit _ _ (by decide)) (Nat.le_of_ble_eq_true rfl) (fun _ _ _ => rfl) dX8_init_83 (fun H locs h => ?_)
  refine lv_aload_n C.1 C.2.1 dX8_init_86 rfl (lv_at hl 0 rfl) ?_
  have ea51 := h.lt hk_a0 (by decide)
  obtain ⟨b52, eb52, hf⟩ := lt_in hf
  obtain ⟨σ50, eσ50, hf⟩ := lt_in hf
  refine x_new C K h cl_7 kl_RX8_53 it_RX7 in_RX7 (fun j hj => by rcases (show j = 0 ∨ j = 1 ∨ j = 2 ∨ j = 3 ∨ j = 4 ∨ j = 5 ∨ j = 6 ∨ j = 7 by omega) with rfl | rfl | rfl | rfl | rfl | rfl | rfl | rfl <;> rfl) (Nat.le_trans (by decide) hR.2.2.1) (Nat.le_trans (by decide) hR.2.2.2) dX8_init_87 (fun ad49 H had49 h hX => ?_)
  rw [← eσ50] at h hX
  rw [← eb52]
  rw [← had49 a0 ea51] at hl
  rw [← had49 a0 ea51]
  have hag := hag.trans hE.1 had49
  have hE := hE.trans hX
  have hk_a0 := hX.k hk_a0 (by decide)
  refine W.widen (k := 34) (n := 1426) (by decide) (by decide) ?_
  have hk_b52 : kd_ σ50 b52 = 7 := by rw [eσ50, eb52]; exact nw_kd _ _ _
  refine lv_dup C.1 C.2.1 dX8_init_90 rfl ?_
  obtain ⟨q53, hq_q53, hf⟩ := ob_ hf
  have ea55 := h.lt hk_a0 (by decide)
  have ea56 := h.lt hk_b52 (by decide)
  refine x_avA K h (x_IN C K h [] (c_X7_init l κ G cy ad49 H.size σ50 b52 hk_b52 hq_q53) mi_X7_init rfl rfl im_yX7_init nm_RX8_55 ⟨rfl, rfl, Nat.le_trans (Nat.le_of_ble_eq_true rfl) hR.1, Nat.le_trans (Nat.le_of_ble_eq_true rfl) hR.2.1⟩ hl (Nat.le_of_ble_eq_true rfl) dX8_init_91 ⟨Nat.le_trans (by decide) hR.2.2.1, Nat.le_trans (by decide) hR.2.2.2⟩ rfl) (fun ad54 H locs had54 h hX => ?_)
  rw [← had54 a0 ea55] at hl
  rw [← had54 a0 ea55]
  rw [← had54 b52 ea56]
  have hag := hag.trans hE.1 had54
  have hE := hE.trans hX
  have hk_a0 := hX.k hk_a0 (by decide)
  have hk_b52 := hX.k hk_b52 (by decide)
  refine W.widen (k := 39) (n := 1858) (by decide) (by decide) ?_
  have hE := hE.up (up_r q53 a0 9 (some b52) (fun b hb => by cases hb; exact h.lt hk_b52 (by decide)))
  refine x_putRF (v := (some b52)) C K hin h cl_8 hk_a0 9 (by decide) fl_RX8_60 rfl rfl (fun b hb => by cases hb; exact h.lt hk_b52 (by decide)) (rv_nar _ _) (rv_fit _ _ (by decide)) (Nat.le_of_ble_eq_true rfl) (fun _ _ _ => rfl) dX8_init_94 (fun H locs h => ?_)
  refine lv_aload_n C.1 C.2.1 dX8_init_97 rfl (lv_at hl 0 rfl) ?_
  have ea59 := h.lt hk_a0 (by decide)
  obtain ⟨b60, eb60, hf⟩ := lt_in hf
  obtain ⟨σ58, eσ58, hf⟩ := lt_in hf
  refine x_new C K h cl_2 kl_RX8_63 it_RX2 in_RX2 (fun j hj => by rcases (show j = 0 ∨ j = 1 ∨ j = 2 ∨ j = 3 ∨ j = 4 by omega) with rfl | rfl | rfl | rfl | rfl <;> rfl) (Nat.le_trans (by decide) hR.2.2.1) (Nat.le_trans (by decide) hR.2.2.2) dX8_init_98 (fun ad57 H had57 h hX => ?_)
  rw [← eσ58] at h hX
  rw [← eb60]
  rw [← had57 a0 ea59] at hl
  rw [← had57 a0 ea59]
  have hag := hag.trans hE.1 had57
  have hE := hE.trans hX
  have hk_a0 := hX.k hk_a0 (by decide)
  refine W.widen (k := 40) (n := 1863) (by decide) (by decide) ?_
  have hk_b60 : kd_ σ58 b60 = 2 := by rw [eσ58, eb60]; exact nw_kd _ _ _
  refine lv_dup C.1 C.2.1 dX8_init_101 rfl ?_
  obtain ⟨q61, hq_q61, hf⟩ := ob_ hf
  have ea63 := h.lt hk_a0 (by decide)
  have ea64 := h.lt hk_b60 (by decide)
  refine x_avA K h (x_IN C K h [] (c_X2_init l κ G cy ad57 H.size σ58 b60 hk_b60 hq_q61) mi_X2_init rfl rfl im_yX2_init nm_RX8_65 ⟨rfl, rfl, Nat.le_trans (Nat.le_of_ble_eq_true rfl) hR.1, Nat.le_trans (Nat.le_of_ble_eq_true rfl) hR.2.1⟩ hl (Nat.le_of_ble_eq_true rfl) dX8_init_102 ⟨Nat.le_trans (by decide) hR.2.2.1, Nat.le_trans (by decide) hR.2.2.2⟩ rfl) (fun ad62 H locs had62 h hX => ?_)
  rw [← had62 a0 ea63] at hl
  rw [← had62 a0 ea63]
  rw [← had62 b60 ea64]
  have hag := hag.trans hE.1 had62
  have hE := hE.trans hX
  have hk_a0 := hX.k hk_a0 (by decide)
  have hk_b60 := hX.k hk_b60 (by decide)
  refine W.widen (k := 42) (n := 3195) (by decide) (by decide) ?_
  have hE := hE.up (up_r q61 a0 10 (some b60) (fun b hb => by cases hb; exact h.lt hk_b60 (by decide)))
  refine x_putRF (v := (some b60)) C K hin h cl_8 hk_a0 10 (by decide) fl_RX8_66 rfl rfl (fun b hb => by cases hb; exact h.lt hk_b60 (by decide)) (rv_nar _ _) (rv_fit _ _ (by decide)) (Nat.le_of_ble_eq_true rfl) (fun _ _ _ => rfl) dX8_init_105 (fun H locs h => ?_)
  refine lv_aload_n C.1 C.2.1 dX8_init_108 rfl (lv_at hl 0 rfl) ?_
  refine lv_bipush (v := (36 : Int32)) C.1 C.2.1 dX8_init_109 (by decide) ?_
  have ea67 := h.lt hk_a0 (by decide)
  obtain ⟨b68, eb68, hf⟩ := lt_in hf
  obtain ⟨σ66, eσ66, hf⟩ := lt_in hf
  refine x_newa C K h (ty := .long) rfl ac_long 1 11 rfl (fun x hx => by cases hx) (a0 := fun n => (n, .inr (.inl fun _ => 0))) (fun _ => rfl) (fun _ _ => rfl) (by decide) (by decide) (Nat.le_trans (by decide) hR.2.2.1) (Nat.le_trans (by decide) hR.2.2.2) dX8_init_111 (fun ad65 H had65 h hX => ?_)
  rw [← eσ66] at h hX
  rw [← eb68]
  rw [← had65 a0 ea67] at hl
  rw [← had65 a0 ea67]
  have hag := hag.trans hE.1 had65
  have hE := hE.trans hX
  have hk_a0 := hX.k hk_a0 (by decide)
  refine W.widen (k := 43) (n := 3231) (by decide) (by decide) ?_
  have hk_b68 : kd_ σ66 b68 = 11 := by rw [eσ66, eb68]; exact nw_kd _ _ _
  have hE := hE.up (up_r σ66 a0 11 (some b68) (fun b hb => by cases hb; exact h.lt hk_b68 (by decide)))
  refine x_putR (v := (some b68)) C K h cl_8 hk_a0 11 (by decide) fl_RX8_70 rfl (fun b hb => by cases hb; exact h.lt hk_b68 (by decide)) (rv_nar _ _) (rv_fit _ _ (by decide)) (Nat.le_of_ble_eq_true rfl) (fun _ _ _ => rfl) dX8_init_113 (fun H locs h => ?_)
  refine lv_aload_n C.1 C.2.1 dX8_init_116 rfl (lv_at hl 0 rfl) ?_
  refine lv_bipush (v := (36 : Int32)) C.1 C.2.1 dX8_init_117 (by decide) ?_
  have ea71 := h.lt hk_a0 (by decide)
  obtain ⟨b72, eb72, hf⟩ := lt_in hf
  obtain ⟨σ70, eσ70, hf⟩ := lt_in hf
  refine x_newa C K h (ty := .long) rfl ac_long 1 11 rfl (fun x hx => by cases hx) (a0 := fun n => (n, .inr (.inl fun _ => 0))) (fun _ => rfl) (fun _ _ => rfl) (by decide) (by decide) (Nat.le_trans (by decide) hR.2.2.1) (Nat.le_trans (by decide) hR.2.2.2) dX8_init_119 (fun ad69 H had69 h hX => ?_)
  rw [← eσ70] at h hX
  rw [← eb72]
  rw [← had69 a0 ea71] at hl
  rw [← had69 a0 ea71]
  have hag := hag.trans hE.1 had69
  have hE := hE.trans hX
  have hk_a0 := hX.k hk_a0 (by decide)
  refine W.widen (k := 44) (n := 3267) (by decide) (by decide) ?_
  have hk_b72 : kd_ σ70 b72 = 11 := by rw [eσ70, eb72]; exact nw_kd _ _ _
  have hE := hE.up (up_r σ70 a0 12 (some b72) (fun b hb => by cases hb; exact h.lt hk_b72 (by decide)))
  refine x_putR (v := (some b72)) C K h cl_8 hk_a0 12 (by decide) fl_RX8_74 rfl (fun b hb => by cases hb; exact h.lt hk_b72 (by decide)) (rv_nar _ _) (rv_fit _ _ (by decide)) (Nat.le_of_ble_eq_true rfl) (fun _ _ _ => rfl) dX8_init_121 (fun H locs h => ?_)
  refine lv_iconst (v := (0 : Int32)) C.1 C.2.1 dX8_init_124 (by decide) ?_
  refine lv_istore_n (i := 1) (lv' := [(1, .int (0 : Int32)), (0, .ref (ad69 a0))]) C.1 C.2.1 dX8_init_125 rfl hl (by decide) rfl (fun ls hl => ?_)
  refine lv_iload_n C.1 C.2.1 dX8_init_126 rfl (lv_at hl 0 rfl) ?_
  refine lv_aload_n C.1 C.2.1 dX8_init_127 rfl (lv_at hl 1 rfl) ?_
  obtain ⟨b73, hb_b73, hf⟩ := ob_ hf
  obtain ⟨hq_b73, hk_b73⟩ := dr_in hb_b73
  refine x_get (v := .ref (ad69 b73)) C K h cl_8 hk_a0 6 (by decide) fl_RX8_42 (hv_r (o := sr_ (ur_ σ70 a0 12 (some b72)) a0 6) rfl hq_b73) dX8_init_128 ?_
  refine x_rlen C K h 4 (by decide) rfl (fun _ _ _ _ => rfl) hk_b73 dX8_init_131 ?_
  refine lv_icmp_ge (tgt := 154) C.1 C.2.1 dX8_init_132 (by decide) (fun c74 => ?_) (fun c74 => ?_)
  · have hf := if_t hf c74
    refine lv_iconst (v := (0 : Int32)) C.1 C.2.1 dX8_init_154 (by decide) ?_
    refine lv_istore_n (i := 1) (lv' := [(1, .int (0 : Int32)), (0, .ref (ad69 a0))]) C.1 C.2.1 dX8_init_155 rfl hl (by decide) rfl (fun ls hl => ?_)
    refine W.widen (k := 54) (n := 3482) (by decide) (by decide) ?_
    exact w_X8_init_156 fu C K hr hlk hin hR fu ad69 (ur_ σ70 a0 12 (some b72)) a0 (0 : Int32) hag hE hk_a0 hf _ _ _ h (lv_sub hl [1, 0] rfl)
  · have hf := if_f hf c74
    refine lv_aload_n C.1 C.2.1 dX8_init_135 rfl (lv_at hl 1 rfl) ?_
    refine x_get (v := .ref (ad69 b73)) C K h cl_8 hk_a0 6 (by decide) fl_RX8_42 (hv_r (o := sr_ (ur_ σ70 a0 12 (some b72)) a0 6) rfl hq_b73) dX8_init_136 ?_
    refine lv_iload_n C.1 C.2.1 dX8_init_139 rfl (lv_at hl 0 rfl) ?_
    have ea77 := h.lt hk_a0 (by decide)
    have ea78 := h.lt hk_b73 (by decide)
    obtain ⟨b79, eb79, hf⟩ := lt_in hf
    obtain ⟨σ76, eσ76, hf⟩ := lt_in hf
    refine x_new C K h cl_4 kl_RX8_40 it_RX4 in_RX4 (fun j hj => by rcases (show j = 0 ∨ j = 1 ∨ j = 2 by omega) with rfl | rfl | rfl <;> rfl) (Nat.le_trans (by decide) hR.2.2.1) (Nat.le_trans (by decide) hR.2.2.2) dX8_init_140 (fun ad75 H had75 h hX => ?_)
    rw [← eσ76] at h hX
    rw [← eb79]
    rw [← had75 a0 ea77] at hl
    rw [← had75 b73 ea78]
    have hag := hag.trans hE.1 had75
    have hE := hE.trans hX
    have hk_a0 := hX.k hk_a0 (by decide)
    have hk_b73 := hX.k hk_b73 (by decide)
    refine W.widen (k := 45) (n := 3270) (by decide) (by decide) ?_
    have hk_b79 : kd_ σ76 b79 = 4 := by rw [eσ76, eb79]; exact nw_kd _ _ _
    refine lv_dup C.1 C.2.1 dX8_init_143 rfl ?_
    obtain ⟨q80, hq_q80, hf⟩ := ob_ hf
    have ea82 := h.lt hk_a0 (by decide)
    have ea83 := h.lt hk_b73 (by decide)
    have ea84 := h.lt hk_b79 (by decide)
    refine x_avA K h (x_IN C K h [] (c_X4_init l κ G cy ad75 H.size σ76 b79 hk_b79 hq_q80) mi_X4_init rfl rfl im_yX4_init nm_RX8_77 ⟨rfl, rfl, Nat.le_trans (Nat.le_of_ble_eq_true rfl) hR.1, Nat.le_trans (Nat.le_of_ble_eq_true rfl) hR.2.1⟩ hl (Nat.le_of_ble_eq_true rfl) dX8_init_144 ⟨Nat.le_trans (by decide) hR.2.2.1, Nat.le_trans (by decide) hR.2.2.2⟩ rfl) (fun ad81 H locs had81 h hX => ?_)
    rw [← had81 a0 ea82] at hl
    rw [← had81 b73 ea83]
    rw [← had81 b79 ea84]
    have hag := hag.trans hE.1 had81
    have hE := hE.trans hX
    have hk_a0 := hX.k hk_a0 (by decide)
    have hk_b73 := hX.k hk_b73 (by decide)
    have hk_b79 := hX.k hk_b79 (by decide)
    refine W.widen (k := 46) (n := 3310) (by decide) (by decide) ?_
    obtain ⟨j85, hj_j85, hf⟩ := ob_ hf
    have hEn := hE.up (up_r q80 b73 j85 (some b79) (fun z hz => by cases hz; exact h.lt hk_b79 (by decide)))
    have hE := hEn
    refine x_aast C K h 4 (by decide) rfl (fun _ _ _ _ => rfl) cl_4 hk_b73 hk_b79 hj_j85 dX8_init_147 (fun H locs h => ?_)
    refine lv_iinc (v := (0 : Int32) + (1 : Int32)) (lv' := [(1, .int ((0 : Int32) + (1 : Int32))), (0, .ref (ad81 a0))]) C.1 C.2.1 dX8_init_148 hl (k := 0) rfl rfl (by decide) rfl (fun ls hl => ?_)
    refine lv_goto (tgt := 126) C.1 C.2.1 dX8_init_151 (by decide) ?_
    refine lv_iload_n C.1 C.2.1 dX8_init_126 rfl (lv_at hl 0 rfl) ?_
    refine lv_aload_n C.1 C.2.1 dX8_init_127 rfl (lv_at hl 1 rfl) ?_
    obtain ⟨b86, hb_b86, hf⟩ := ob_ hf
    obtain ⟨hq_b86, hk_b86⟩ := dr_in hb_b86
    refine x_get (v := .ref (ad81 b86)) C K h cl_8 hk_a0 6 (by decide) fl_RX8_42 (hv_r (o := sr_ (ur_ q80 b73 j85 (some b79)) a0 6) rfl hq_b86) dX8_init_128 ?_
    refine x_rlen C K h 4 (by decide) rfl (fun _ _ _ _ => rfl) hk_b86 dX8_init_131 ?_
    refine lv_icmp_ge (tgt := 154) C.1 C.2.1 dX8_init_132 (by decide) (fun c87 => ?_) (fun c87 => ?_)
    · have hf := if_t hf c87
      refine lv_iconst (v := (0 : Int32)) C.1 C.2.1 dX8_init_154 (by decide) ?_
      refine lv_istore_n (i := 1) (lv' := [(1, .int (0 : Int32)), (0, .ref (ad81 a0))]) C.1 C.2.1 dX8_init_155 rfl hl (by decide) rfl (fun ls hl => ?_)
      refine W.widen (k := 54) (n := 3482) (by decide) (by decide) ?_
      exact w_X8_init_156 fu C K hr hlk hin hR fu ad81 (ur_ q80 b73 j85 (some b79)) a0 (0 : Int32) hag hE hk_a0 hf _ _ _ h (lv_sub hl [1, 0] rfl)
    · have hf := if_f hf c87
      refine lv_aload_n C.1 C.2.1 dX8_init_135 rfl (lv_at hl 1 rfl) ?_
      refine x_get (v := .ref (ad81 b86)) C K h cl_8 hk_a0 6 (by decide) fl_RX8_42 (hv_r (o := sr_ (ur_ q80 b73 j85 (some b79)) a0 6) rfl hq_b86) dX8_init_136 ?_
      refine lv_iload_n C.1 C.2.1 dX8_init_139 rfl (lv_at hl 0 rfl) ?_
      have ea90 := h.lt hk_a0 (by decide)
      have ea91 := h.lt hk_b86 (by decide)
      obtain ⟨b92, eb92, hf⟩ := lt_in hf
      obtain ⟨σ89, eσ89, hf⟩ := lt_in hf
      refine x_new C K h cl_4 kl_RX8_40 it_RX4 in_RX4 (fun j hj => by rcases (show j = 0 ∨ j = 1 ∨ j = 2 by omega) with rfl | rfl | rfl <;> rfl) (Nat.le_trans (by decide) hR.2.2.1) (Nat.le_trans (by decide) hR.2.2.2) dX8_init_140 (fun ad88 H had88 h hX => ?_)
      rw [← eσ89] at h hX
      rw [← eb92]
      rw [← had88 a0 ea90] at hl
      rw [← had88 b86 ea91]
      have hag := hag.trans hE.1 had88
      have hE := hE.trans hX
      have hk_a0 := hX.k hk_a0 (by decide)
      have hk_b86 := hX.k hk_b86 (by decide)
      refine W.widen (k := 47) (n := 3313) (by decide) (by decide) ?_
      have hk_b92 : kd_ σ89 b92 = 4 := by rw [eσ89, eb92]; exact nw_kd _ _ _
      refine lv_dup C.1 C.2.1 dX8_init_143 rfl ?_
      obtain ⟨q93, hq_q93, hf⟩ := ob_ hf
      have ea95 := h.lt hk_a0 (by decide)
      have ea96 := h.lt hk_b86 (by decide)
      have ea97 := h.lt hk_b92 (by decide)
      refine x_avA K h (x_IN C K h [] (c_X4_init l κ G cy ad88 H.size σ89 b92 hk_b92 hq_q93) mi_X4_init rfl rfl im_yX4_init nm_RX8_77 ⟨rfl, rfl, Nat.le_trans (Nat.le_of_ble_eq_true rfl) hR.1, Nat.le_trans (Nat.le_of_ble_eq_true rfl) hR.2.1⟩ hl (Nat.le_of_ble_eq_true rfl) dX8_init_144 ⟨Nat.le_trans (by decide) hR.2.2.1, Nat.le_trans (by decide) hR.2.2.2⟩ rfl) (fun ad94 H locs had94 h hX => ?_)
      rw [← had94 a0 ea95] at hl
      rw [← had94 b86 ea96]
      rw [← had94 b92 ea97]
      have hag := hag.trans hE.1 had94
      have hE := hE.trans hX
      have hk_a0 := hX.k hk_a0 (by decide)
      have hk_b86 := hX.k hk_b86 (by decide)
      have hk_b92 := hX.k hk_b92 (by decide)
      refine W.widen (k := 48) (n := 3353) (by decide) (by decide) ?_
      obtain ⟨j98, hj_j98, hf⟩ := ob_ hf
      have hEn := hE.up (up_r q93 b86 j98 (some b92) (fun z hz => by cases hz; exact h.lt hk_b92 (by decide)))
      have hE := hEn
      refine x_aast C K h 4 (by decide) rfl (fun _ _ _ _ => rfl) cl_4 hk_b86 hk_b92 hj_j98 dX8_init_147 (fun H locs h => ?_)
      refine lv_iinc (v := ((0 : Int32) + (1 : Int32)) + (1 : Int32)) (lv' := [(1, .int (((0 : Int32) + (1 : Int32)) + (1 : Int32))), (0, .ref (ad94 a0))]) C.1 C.2.1 dX8_init_148 hl (k := 0) rfl rfl (by decide) rfl (fun ls hl => ?_)
      refine lv_goto (tgt := 126) C.1 C.2.1 dX8_init_151 (by decide) ?_
      refine lv_iload_n C.1 C.2.1 dX8_init_126 rfl (lv_at hl 0 rfl) ?_
      refine lv_aload_n C.1 C.2.1 dX8_init_127 rfl (lv_at hl 1 rfl) ?_
      obtain ⟨b99, hb_b99, hf⟩ := ob_ hf
      obtain ⟨hq_b99, hk_b99⟩ := dr_in hb_b99
      refine x_get (v := .ref (ad94 b99)) C K h cl_8 hk_a0 6 (by decide) fl_RX8_42 (hv_r (o := sr_ (ur_ q93 b86 j98 (some b92)) a0 6) rfl hq_b99) dX8_init_128 ?_
      refine x_rlen C K h 4 (by decide) rfl (fun _ _ _ _ => rfl) hk_b99 dX8_init_131 ?_
      refine lv_icmp_ge (tgt := 154) C.1 C.2.1 dX8_init_132 (by decide) (fun c100 => ?_) (fun c100 => ?_)
      · have hf := if_t hf c100
        refine lv_iconst (v := (0 : Int32)) C.1 C.2.1 dX8_init_154 (by decide) ?_
        refine lv_istore_n (i := 1) (lv' := [(1, .int (0 : Int32)), (0, .ref (ad94 a0))]) C.1 C.2.1 dX8_init_155 rfl hl (by decide) rfl (fun ls hl => ?_)
        refine W.widen (k := 54) (n := 3482) (by decide) (by decide) ?_
        exact w_X8_init_156 fu C K hr hlk hin hR fu ad94 (ur_ q93 b86 j98 (some b92)) a0 (0 : Int32) hag hE hk_a0 hf _ _ _ h (lv_sub hl [1, 0] rfl)
      · have hf := if_f hf c100
        refine lv_aload_n C.1 C.2.1 dX8_init_135 rfl (lv_at hl 1 rfl) ?_
        refine x_get (v := .ref (ad94 b99)) C K h cl_8 hk_a0 6 (by decide) fl_RX8_42 (hv_r (o := sr_ (ur_ q93 b86 j98 (some b92)) a0 6) rfl hq_b99) dX8_init_136 ?_
        refine lv_iload_n C.1 C.2.1 dX8_init_139 rfl (lv_at hl 0 rfl) ?_
        have ea103 := h.lt hk_a0 (by decide)
        have ea104 := h.lt hk_b99 (by decide)
        obtain ⟨b105, eb105, hf⟩ := lt_in hf
        obtain ⟨σ102, eσ102, hf⟩ := lt_in hf
        refine x_new C K h cl_4 kl_RX8_40 it_RX4 in_RX4 (fun j hj => by rcases (show j = 0 ∨ j = 1 ∨ j = 2 by omega) with rfl | rfl | rfl <;> rfl) (Nat.le_trans (by decide) hR.2.2.1) (Nat.le_trans (by decide) hR.2.2.2) dX8_init_140 (fun ad101 H had101 h hX => ?_)
        rw [← eσ102] at h hX
        rw [← eb105]
        rw [← had101 a0 ea103] at hl
        rw [← had101 b99 ea104]
        have hag := hag.trans hE.1 had101
        have hE := hE.trans hX
        have hk_a0 := hX.k hk_a0 (by decide)
        have hk_b99 := hX.k hk_b99 (by decide)
        refine W.widen (k := 49) (n := 3356) (by decide) (by decide) ?_
        have hk_b105 : kd_ σ102 b105 = 4 := by rw [eσ102, eb105]; exact nw_kd _ _ _
        refine lv_dup C.1 C.2.1 dX8_init_143 rfl ?_
        obtain ⟨q106, hq_q106, hf⟩ := ob_ hf
        have ea108 := h.lt hk_a0 (by decide)
        have ea109 := h.lt hk_b99 (by decide)
        have ea110 := h.lt hk_b105 (by decide)
        refine x_avA K h (x_IN C K h [] (c_X4_init l κ G cy ad101 H.size σ102 b105 hk_b105 hq_q106) mi_X4_init rfl rfl im_yX4_init nm_RX8_77 ⟨rfl, rfl, Nat.le_trans (Nat.le_of_ble_eq_true rfl) hR.1, Nat.le_trans (Nat.le_of_ble_eq_true rfl) hR.2.1⟩ hl (Nat.le_of_ble_eq_true rfl) dX8_init_144 ⟨Nat.le_trans (by decide) hR.2.2.1, Nat.le_trans (by decide) hR.2.2.2⟩ rfl) (fun ad107 H locs had107 h hX => ?_)
        rw [← had107 a0 ea108] at hl
        rw [← had107 b99 ea109]
        rw [← had107 b105 ea110]
        have hag := hag.trans hE.1 had107
        have hE := hE.trans hX
        have hk_a0 := hX.k hk_a0 (by decide)
        have hk_b99 := hX.k hk_b99 (by decide)
        have hk_b105 := hX.k hk_b105 (by decide)
        refine W.widen (k := 50) (n := 3396) (by decide) (by decide) ?_
        obtain ⟨j111, hj_j111, hf⟩ := ob_ hf
        have hEn := hE.up (up_r q106 b99 j111 (some b105) (fun z hz => by cases hz; exact h.lt hk_b105 (by decide)))
        have hE := hEn
        refine x_aast C K h 4 (by decide) rfl (fun _ _ _ _ => rfl) cl_4 hk_b99 hk_b105 hj_j111 dX8_init_147 (fun H locs h => ?_)
        refine lv_iinc (v := (((0 : Int32) + (1 : Int32)) + (1 : Int32)) + (1 : Int32)) (lv' := [(1, .int ((((0 : Int32) + (1 : Int32)) + (1 : Int32)) + (1 : Int32))), (0, .ref (ad107 a0))]) C.1 C.2.1 dX8_init_148 hl (k := 0) rfl rfl (by decide) rfl (fun ls hl => ?_)
        refine lv_goto (tgt := 126) C.1 C.2.1 dX8_init_151 (by decide) ?_
        refine lv_iload_n C.1 C.2.1 dX8_init_126 rfl (lv_at hl 0 rfl) ?_
        refine lv_aload_n C.1 C.2.1 dX8_init_127 rfl (lv_at hl 1 rfl) ?_
        obtain ⟨b112, hb_b112, hf⟩ := ob_ hf
        obtain ⟨hq_b112, hk_b112⟩ := dr_in hb_b112
        refine x_get (v := .ref (ad107 b112)) C K h cl_8 hk_a0 6 (by decide) fl_RX8_42 (hv_r (o := sr_ (ur_ q106 b99 j111 (some b105)) a0 6) rfl hq_b112) dX8_init_128 ?_
        refine x_rlen C K h 4 (by decide) rfl (fun _ _ _ _ => rfl) hk_b112 dX8_init_131 ?_
        refine lv_icmp_ge (tgt := 154) C.1 C.2.1 dX8_init_132 (by decide) (fun c113 => ?_) (fun c113 => ?_)
        · have hf := if_t hf c113
          refine lv_iconst (v := (0 : Int32)) C.1 C.2.1 dX8_init_154 (by decide) ?_
          refine lv_istore_n (i := 1) (lv' := [(1, .int (0 : Int32)), (0, .ref (ad107 a0))]) C.1 C.2.1 dX8_init_155 rfl hl (by decide) rfl (fun ls hl => ?_)
          refine W.widen (k := 54) (n := 3482) (by decide) (by decide) ?_
          exact w_X8_init_156 fu C K hr hlk hin hR fu ad107 (ur_ q106 b99 j111 (some b105)) a0 (0 : Int32) hag hE hk_a0 hf _ _ _ h (lv_sub hl [1, 0] rfl)
        · have hf := if_f hf c113
          refine lv_aload_n C.1 C.2.1 dX8_init_135 rfl (lv_at hl 1 rfl) ?_
          refine x_get (v := .ref (ad107 b112)) C K h cl_8 hk_a0 6 (by decide) fl_RX8_42 (hv_r (o := sr_ (ur_ q106 b99 j111 (some b105)) a0 6) rfl hq_b112) dX8_init_136 ?_
          refine lv_iload_n C.1 C.2.1 dX8_init_139 rfl (lv_at hl 0 rfl) ?_
          have ea116 := h.lt hk_a0 (by decide)
          have ea117 := h.lt hk_b112 (by decide)
          obtain ⟨b118, eb118, hf⟩ := lt_in hf
          obtain ⟨σ115, eσ115, hf⟩ := lt_in hf
          refine x_new C K h cl_4 kl_RX8_40 it_RX4 in_RX4 (fun j hj => by rcases (show j = 0 ∨ j = 1 ∨ j = 2 by omega) with rfl | rfl | rfl <;> rfl) (Nat.le_trans (by decide) hR.2.2.1) (Nat.le_trans (by decide) hR.2.2.2) dX8_init_140 (fun ad114 H had114 h hX => ?_)
          rw [← eσ115] at h hX
          rw [← eb118]
          rw [← had114 a0 ea116] at hl
          rw [← had114 b112 ea117]
          have hag := hag.trans hE.1 had114
          have hE := hE.trans hX
          have hk_a0 := hX.k hk_a0 (by decide)
          have hk_b112 := hX.k hk_b112 (by decide)
          refine W.widen (k := 51) (n := 3399) (by decide) (by decide) ?_
          have hk_b118 : kd_ σ115 b118 = 4 := by rw [eσ115, eb118]; exact nw_kd _ _ _
          refine lv_dup C.1 C.2.1 dX8_init_143 rfl ?_
          obtain ⟨q119, hq_q119, hf⟩ := ob_ hf
          have ea121 := h.lt hk_a0 (by decide)
          have ea122 := h.lt hk_b112 (by decide)
          have ea123 := h.lt hk_b118 (by decide)
          refine x_avA K h (x_IN C K h [] (c_X4_init l κ G cy ad114 H.size σ115 b118 hk_b118 hq_q119) mi_X4_init rfl rfl im_yX4_init nm_RX8_77 ⟨rfl, rfl, Nat.le_trans (Nat.le_of_ble_eq_true rfl) hR.1, Nat.le_trans (Nat.le_of_ble_eq_true rfl) hR.2.1⟩ hl (Nat.le_of_ble_eq_true rfl) dX8_init_144 ⟨Nat.le_trans (by decide) hR.2.2.1, Nat.le_trans (by decide) hR.2.2.2⟩ rfl) (fun ad120 H locs had120 h hX => ?_)
          rw [← had120 a0 ea121] at hl
          rw [← had120 b112 ea122]
          rw [← had120 b118 ea123]
          have hag := hag.trans hE.1 had120
          have hE := hE.trans hX
          have hk_a0 := hX.k hk_a0 (by decide)
          have hk_b112 := hX.k hk_b112 (by decide)
          have hk_b118 := hX.k hk_b118 (by decide)
          refine W.widen (k := 52) (n := 3439) (by decide) (by decide) ?_
          obtain ⟨j124, hj_j124, hf⟩ := ob_ hf
          have hEn := hE.up (up_r q119 b112 j124 (some b118) (fun z hz => by cases hz; exact h.lt hk_b118 (by decide)))
          have hE := hEn
          refine x_aast C K h 4 (by decide) rfl (fun _ _ _ _ => rfl) cl_4 hk_b112 hk_b118 hj_j124 dX8_init_147 (fun H locs h => ?_)
          refine lv_iinc (v := ((((0 : Int32) + (1 : Int32)) + (1 : Int32)) + (1 : Int32)) + (1 : Int32)) (lv' := [(1, .int (((((0 : Int32) + (1 : Int32)) + (1 : Int32)) + (1 : Int32)) + (1 : Int32))), (0, .ref (ad120 a0))]) C.1 C.2.1 dX8_init_148 hl (k := 0) rfl rfl (by decide) rfl (fun ls hl => ?_)
          refine lv_goto (tgt := 126) C.1 C.2.1 dX8_init_151 (by decide) ?_
          refine lv_iload_n C.1 C.2.1 dX8_init_126 rfl (lv_at hl 0 rfl) ?_
          refine lv_aload_n C.1 C.2.1 dX8_init_127 rfl (lv_at hl 1 rfl) ?_
          obtain ⟨b125, hb_b125, hf⟩ := ob_ hf
          obtain ⟨hq_b125, hk_b125⟩ := dr_in hb_b125
          refine x_get (v := .ref (ad120 b125)) C K h cl_8 hk_a0 6 (by decide) fl_RX8_42 (hv_r (o := sr_ (ur_ q119 b112 j124 (some b118)) a0 6) rfl hq_b125) dX8_init_128 ?_
          refine x_rlen C K h 4 (by decide) rfl (fun _ _ _ _ => rfl) hk_b125 dX8_init_131 ?_
          refine lv_icmp_ge (tgt := 154) C.1 C.2.1 dX8_init_132 (by decide) (fun c126 => ?_) (fun c126 => ?_)
          · have hf := if_t hf c126
            refine lv_iconst (v := (0 : Int32)) C.1 C.2.1 dX8_init_154 (by decide) ?_
            refine lv_istore_n (i := 1) (lv' := [(1, .int (0 : Int32)), (0, .ref (ad120 a0))]) C.1 C.2.1 dX8_init_155 rfl hl (by decide) rfl (fun ls hl => ?_)
            refine W.widen (k := 54) (n := 3482) (by decide) (by decide) ?_
            exact w_X8_init_156 fu C K hr hlk hin hR fu ad120 (ur_ q119 b112 j124 (some b118)) a0 (0 : Int32) hag hE hk_a0 hf _ _ _ h (lv_sub hl [1, 0] rfl)
          · have hf := if_f hf c126
            refine lv_aload_n C.1 C.2.1 dX8_init_135 rfl (lv_at hl 1 rfl) ?_
            refine x_get (v := .ref (ad120 b125)) C K h cl_8 hk_a0 6 (by decide) fl_RX8_42 (hv_r (o := sr_ (ur_ q119 b112 j124 (some b118)) a0 6) rfl hq_b125) dX8_init_136 ?_
            refine lv_iload_n C.1 C.2.1 dX8_init_139 rfl (lv_at hl 0 rfl) ?_
            have ea129 := h.lt hk_a0 (by decide)
            have ea130 := h.lt hk_b125 (by decide)
            obtain ⟨b131, eb131, hf⟩ := lt_in hf
            obtain ⟨σ128, eσ128, hf⟩ := lt_in hf
            refine x_new C K h cl_4 kl_RX8_40 it_RX4 in_RX4 (fun j hj => by rcases (show j = 0 ∨ j = 1 ∨ j = 2 by omega) with rfl | rfl | rfl <;> rfl) (Nat.le_trans (by decide) hR.2.2.1) (Nat.le_trans (by decide) hR.2.2.2) dX8_init_140 (fun ad127 H had127 h hX => ?_)
            rw [← eσ128] at h hX
            rw [← eb131]
            rw [← had127 a0 ea129] at hl
            rw [← had127 b125 ea130]
            have hag := hag.trans hE.1 had127
            have hE := hE.trans hX
            have hk_a0 := hX.k hk_a0 (by decide)
            have hk_b125 := hX.k hk_b125 (by decide)
            refine W.widen (k := 53) (n := 3442) (by decide) (by decide) ?_
            have hk_b131 : kd_ σ128 b131 = 4 := by rw [eσ128, eb131]; exact nw_kd _ _ _
            refine lv_dup C.1 C.2.1 dX8_init_143 rfl ?_
            obtain ⟨q132, hq_q132, hf⟩ := ob_ hf
            have ea134 := h.lt hk_a0 (by decide)
            have ea135 := h.lt hk_b125 (by decide)
            have ea136 := h.lt hk_b131 (by decide)
            refine x_avA K h (x_IN C K h [] (c_X4_init l κ G cy ad127 H.size σ128 b131 hk_b131 hq_q132) mi_X4_init rfl rfl im_yX4_init nm_RX8_77 ⟨rfl, rfl, Nat.le_trans (Nat.le_of_ble_eq_true rfl) hR.1, Nat.le_trans (Nat.le_of_ble_eq_true rfl) hR.2.1⟩ hl (Nat.le_of_ble_eq_true rfl) dX8_init_144 ⟨Nat.le_trans (by decide) hR.2.2.1, Nat.le_trans (by decide) hR.2.2.2⟩ rfl) (fun ad133 H locs had133 h hX => ?_)
            rw [← had133 a0 ea134] at hl
            rw [← had133 b125 ea135]
            rw [← had133 b131 ea136]
            have hag := hag.trans hE.1 had133
            have hE := hE.trans hX
            have hk_a0 := hX.k hk_a0 (by decide)
            have hk_b125 := hX.k hk_b125 (by decide)
            have hk_b131 := hX.k hk_b131 (by decide)
            refine W.widen (k := 54) (n := 3482) (by decide) (by decide) ?_
            obtain ⟨j137, hj_j137, hf⟩ := ob_ hf
            have hEn := hE.up (up_r q132 b125 j137 (some b131) (fun z hz => by cases hz; exact h.lt hk_b131 (by decide)))
            have hE := hEn
            refine x_aast C K h 4 (by decide) rfl (fun _ _ _ _ => rfl) cl_4 hk_b125 hk_b131 hj_j137 dX8_init_147 (fun H locs h => ?_)
            refine lv_iinc (v := (((((0 : Int32) + (1 : Int32)) + (1 : Int32)) + (1 : Int32)) + (1 : Int32)) + (1 : Int32)) (lv' := [(1, .int ((((((0 : Int32) + (1 : Int32)) + (1 : Int32)) + (1 : Int32)) + (1 : Int32)) + (1 : Int32))), (0, .ref (ad133 a0))]) C.1 C.2.1 dX8_init_148 hl (k := 0) rfl rfl (by decide) rfl (fun ls hl => ?_)
            refine lv_goto (tgt := 126) C.1 C.2.1 dX8_init_151 (by decide) ?_
            refine lv_iload_n C.1 C.2.1 dX8_init_126 rfl (lv_at hl 0 rfl) ?_
            refine lv_aload_n C.1 C.2.1 dX8_init_127 rfl (lv_at hl 1 rfl) ?_
            obtain ⟨b138, hb_b138, hf⟩ := ob_ hf
            obtain ⟨hq_b138, hk_b138⟩ := dr_in hb_b138
            refine x_get (v := .ref (ad133 b138)) C K h cl_8 hk_a0 6 (by decide) fl_RX8_42 (hv_r (o := sr_ (ur_ q132 b125 j137 (some b131)) a0 6) rfl hq_b138) dX8_init_128 ?_
            refine x_rlen C K h 4 (by decide) rfl (fun _ _ _ _ => rfl) hk_b138 dX8_init_131 ?_
            refine lv_icmp_ge (tgt := 154) C.1 C.2.1 dX8_init_132 (by decide) (fun c139 => ?_) (fun c139 => ?_)
            · have hf := if_t hf c139
              refine lv_iconst (v := (0 : Int32)) C.1 C.2.1 dX8_init_154 (by decide) ?_
              refine lv_istore_n (i := 1) (lv' := [(1, .int (0 : Int32)), (0, .ref (ad133 a0))]) C.1 C.2.1 dX8_init_155 rfl hl (by decide) rfl (fun ls hl => ?_)
              refine W.widen (k := 54) (n := 3482) (by decide) (by decide) ?_
              exact w_X8_init_156 fu C K hr hlk hin hR fu ad133 (ur_ q132 b125 j137 (some b131)) a0 (0 : Int32) hag hE hk_a0 hf _ _ _ h (lv_sub hl [1, 0] rfl)
            · have hf := if_f hf c139
              refine lv_aload_n C.1 C.2.1 dX8_init_135 rfl (lv_at hl 1 rfl) ?_
              refine x_get (v := .ref (ad133 b138)) C K h cl_8 hk_a0 6 (by decide) fl_RX8_42 (hv_r (o := sr_ (ur_ q132 b125 j137 (some b131)) a0 6) rfl hq_b138) dX8_init_136 ?_
              refine lv_iload_n C.1 C.2.1 dX8_init_139 rfl (lv_at hl 0 rfl) ?_
              have ea142 := h.lt hk_a0 (by decide)
              have ea143 := h.lt hk_b138 (by decide)
              obtain ⟨b144, eb144, hf⟩ := lt_in hf
              obtain ⟨σ141, eσ141, hf⟩ := lt_in hf
              refine x_new C K h cl_4 kl_RX8_40 it_RX4 in_RX4 (fun j hj => by rcases (show j = 0 ∨ j = 1 ∨ j = 2 by omega) with rfl | rfl | rfl <;> rfl) (Nat.le_trans (by decide) hR.2.2.1) (Nat.le_trans (by decide) hR.2.2.2) dX8_init_140 (fun ad140 H had140 h hX => ?_)
              rw [← eσ141] at h hX
              rw [← eb144]
              rw [← had140 a0 ea142] at hl
              rw [← had140 b138 ea143]
              have hag := hag.trans hE.1 had140
              have hE := hE.trans hX
              have hk_a0 := hX.k hk_a0 (by decide)
              have hk_b138 := hX.k hk_b138 (by decide)
              refine W.widen (k := 55) (n := 3485) (by decide) (by decide) ?_
              have hk_b144 : kd_ σ141 b144 = 4 := by rw [eσ141, eb144]; exact nw_kd _ _ _
              refine lv_dup C.1 C.2.1 dX8_init_143 rfl ?_
              obtain ⟨q145, hq_q145, hf⟩ := ob_ hf
              have ea147 := h.lt hk_a0 (by decide)
              have ea148 := h.lt hk_b138 (by decide)
              have ea149 := h.lt hk_b144 (by decide)
              refine x_avA K h (x_IN C K h [] (c_X4_init l κ G cy ad140 H.size σ141 b144 hk_b144 hq_q145) mi_X4_init rfl rfl im_yX4_init nm_RX8_77 ⟨rfl, rfl, Nat.le_trans (Nat.le_of_ble_eq_true rfl) hR.1, Nat.le_trans (Nat.le_of_ble_eq_true rfl) hR.2.1⟩ hl (Nat.le_of_ble_eq_true rfl) dX8_init_144 ⟨Nat.le_trans (by decide) hR.2.2.1, Nat.le_trans (by decide) hR.2.2.2⟩ rfl) (fun ad146 H locs had146 h hX => ?_)
              rw [← had146 a0 ea147] at hl
              rw [← had146 b138 ea148]
              rw [← had146 b144 ea149]
              have hag := hag.trans hE.1 had146
              have hE := hE.trans hX
              have hk_a0 := hX.k hk_a0 (by decide)
              have hk_b138 := hX.k hk_b138 (by decide)
              have hk_b144 := hX.k hk_b144 (by decide)
              refine W.widen (k := 56) (n := 3525) (by decide) (by decide) ?_
              obtain ⟨j150, hj_j150, hf⟩ := ob_ hf
              have hEn := hE.up (up_r q145 b138 j150 (some b144) (fun z hz => by cases hz; exact h.lt hk_b144 (by decide)))
              have hE := hEn
              refine x_aast C K h 4 (by decide) rfl (fun _ _ _ _ => rfl) cl_4 hk_b138 hk_b144 hj_j150 dX8_init_147 (fun H locs h => ?_)
              refine lv_iinc (v := ((((((0 : Int32) + (1 : Int32)) + (1 : Int32)) + (1 : Int32)) + (1 : Int32)) + (1 : Int32)) + (1 : Int32)) (lv' := [(1, .int (((((((0 : Int32) + (1 : Int32)) + (1 : Int32)) + (1 : Int32)) + (1 : Int32)) + (1 : Int32)) + (1 : Int32))), (0, .ref (ad146 a0))]) C.1 C.2.1 dX8_init_148 hl (k := 0) rfl rfl (by decide) rfl (fun ls hl => ?_)
              refine lv_goto (tgt := 126) C.1 C.2.1 dX8_init_151 (by decide) ?_
              cases hf
theorem c_X8_init (fu : Nat) (l : Launch) (κ : Ka_) (G : va_G) (cy : Nat → ClassId) (ad : Nat → Nat) (sz : Nat) (σ : St_) (a0 : Nat) (hk_a0 : kd_ σ a0 = 8) {q : St_} (hf : f_X8_init fu σ a0 = some q) : Met l yX8_init (Cond.code yX8_init cX8_init 2 none :: wU_) { frames := 163, cells := 58, slots := 3965, locals := 8141 } (va_Pc [.ref (ad a0)] (Pr_ κ G cy ad σ sz)) (QvA_ G cy ad σ q sz) 58 3965 (va_A (wl_ cy ad σ) sz) :=
  x_met (by decide) (fun p e R s m below meth c ls hR C hr hlk hin _ K h hl => w_X8_init fu C K hr hlk hin hR ad σ a0 Ag_.rf Ex_.rf hk_a0 hf s.heap [] ls h hl) (Nat.le_of_ble_eq_true rfl)
