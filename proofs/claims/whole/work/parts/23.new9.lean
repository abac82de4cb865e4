-- X9_init
theorem mi_X9_init : Mi_ yX9_init cX9_init 1 none 0 := ⟨co_yX9_init, in_RX9, by decide, by decide, by decide +kernel⟩
def f_X9_init (σ : St_) (a0 : Nat) : Option St_ := lt_ (sn_ σ) fun b4 => lt_ (nw_ σ 10 (960 : Int32).toNatClampNeg) fun σ2 => lt_ (sn_ (ur_ σ2 a0 1 (some b4))) fun b8 => lt_ (nw_ (ur_ σ2 a0 1 (some b4)) 10 (6 : Int32).toNatClampNeg) fun σ6 => lt_ (sn_ (ur_ σ6 a0 2 (some b8))) fun b12 => lt_ (nw_ (ur_ σ6 a0 2 (some b8)) 10 (160 : Int32).toNatClampNeg) fun σ10 => lt_ (sn_ (ur_ σ10 a0 5 (some b12))) fun b16 => lt_ (nw_ (ur_ σ10 a0 5 (some b12)) 10 (36 : Int32).toNatClampNeg) fun σ14 => lt_ (sn_ (ur_ σ14 a0 8 (some b16))) fun b20 => lt_ (nw_ (ur_ σ14 a0 8 (some b16)) 10 (4 : Int32).toNatClampNeg) fun σ18 => lt_ (sn_ (ur_ σ18 a0 9 (some b20))) fun b24 => lt_ (nw_ (ur_ σ18 a0 9 (some b20)) 10 (12 : Int32).toNatClampNeg) fun σ22 => lt_ (sn_ (ur_ σ22 a0 10 (some b24))) fun b28 => lt_ (nw_ (ur_ σ22 a0 10 (some b24)) 10 (288 : Int32).toNatClampNeg) fun σ26 => lt_ (sn_ (ur_ σ26 a0 27 (some b28))) fun b32 => lt_ (nw_ (ur_ σ26 a0 27 (some b28)) 10 (288 : Int32).toNatClampNeg) fun σ30 => lt_ (sn_ (ur_ σ30 a0 28 (some b32))) fun b36 => lt_ (nw_ (ur_ σ30 a0 28 (some b32)) 10 (36 : Int32).toNatClampNeg) fun σ34 => lt_ (sn_ (ur_ σ34 a0 29 (some b36))) fun b40 => lt_ (nw_ (ur_ σ34 a0 29 (some b36)) 10 (1296 : Int32).toNatClampNeg) fun σ38 => lt_ (sn_ (ur_ σ38 a0 30 (some b40))) fun b44 => lt_ (nw_ (ur_ σ38 a0 30 (some b40)) 11 (36 : Int32).toNatClampNeg) fun σ42 => lt_ (sn_ (ur_ σ42 a0 31 (some b44))) fun b48 => lt_ (nw_ (ur_ σ42 a0 31 (some b44)) 11 (36 : Int32).toNatClampNeg) fun σ46 => lt_ (sn_ (ur_ σ46 a0 32 (some b48))) fun b52 => lt_ (nw_ (ur_ σ46 a0 32 (some b48)) 10 (36 : Int32).toNatClampNeg) fun σ50 => lt_ (sn_ (ur_ σ50 a0 33 (some b52))) fun b56 => lt_ (nw_ (ur_ σ50 a0 33 (some b52)) 10 (12 : Int32).toNatClampNeg) fun σ54 => lt_ (sn_ (ui_ (ur_ σ54 a0 34 (some b56)) a0 35 (-1 : Int32))) fun b60 => lt_ (nw_ (ui_ (ur_ σ54 a0 34 (some b56)) a0 35 (-1 : Int32)) 12 (4 : Int32).toNatClampNeg) fun σ58 => lt_ (sn_ (ur_ σ58 a0 38 (some b60))) fun b64 => lt_ (nw_ (ur_ σ58 a0 38 (some b60)) 10 (4 : Int32).toNatClampNeg) fun σ62 => lt_ (sn_ (ur_ σ62 a0 39 (some b64))) fun b68 => lt_ (nw_ (ur_ σ62 a0 39 (some b64)) 10 (4 : Int32).toNatClampNeg) fun σ66 => lt_ (sn_ (ur_ σ66 a0 40 (some b68))) fun b72 => lt_ (nw_ (ur_ σ66 a0 40 (some b68)) 10 (160 : Int32).toNatClampNeg) fun σ70 => (f_X9_spell (ur_ σ70 a0 41 (some b72)) a0 (0 : Int32) (101 : Int32) (97 : Int32) (115 : Int32) (116 : Int32) (115 : Int32) (32 : Int32) (49 : Int32) (32 : Int32)).bind fun q73 => (f_X9_spell q73 a0 (8 : Int32) (45 : Int32) (32 : Int32) (119 : Int32) (111 : Int32) (114 : Int32) (100 : Int32) (32 : Int32) (59 : Int32)).bind fun q74 => (f_X9_spell q74 a0 (16 : Int32) (32 : Int32) (115 : Int32) (111 : Int32) (117 : Int32) (116 : Int32) (104 : Int32) (115 : Int32) (32 : Int32)).bind fun q75 => (f_X9_spell q75 a0 (24 : Int32) (119 : Int32) (111 : Int32) (114 : Int32) (100 : Int32) (32 : Int32) (45 : Int32) (32 : Int32) (50 : Int32)).bind fun q76 => (f_X9_spell q76 a0 (32 : Int32) (32 : Int32) (59 : Int32) (32 : Int32) (114 : Int32) (105 : Int32) (115 : Int32) (101 : Int32) (115 : Int32)).bind fun q77 => (f_X9_spell q77 a0 (40 : Int32) (32 : Int32) (49 : Int32) (32 : Int32) (59 : Int32) (32 : Int32) (32 : Int32) (32 : Int32) (32 : Int32)).bind fun q78 => (dr_ q78 10 (sr_ q78 a0 2)).bind fun b79 => (ix_ (0 : Int32) (ln_ q78 b79)).bind fun j80 => some (ui_ (ui_ q78 b79 j80 (48 : Int32)) a0 3 (1 : Int32))
set_option maxHeartbeats 4000000 in
set_option maxRecDepth 100000 in
theorem w_X9_init {p : Program} {l : Launch} {e : Env} {R : Room} {s : State} {m : MethodId} {args : Array Value} {below : List Frame} {meth : Method} {c : Code} {κ : Ka_} {G : va_G} {cy : Nat → ClassId} {ad0 : Nat → Nat} {sz : Nat} {σ0 : St_} (C : CallFix p m c cX9_init 1 s args wU_ RX9) (K : Kx_ κ G cy (va_A (wl_ cy ad0 σ0) sz) s) (hr : meth.sig.returnType = none) (hlk : meth.locks = false) (hin : meth.name = "<init>") (hR : 1 ≤ R.frames ∧ 29 ≤ R.locals ∧ 18 ≤ R.cells ∧ 3378 ≤ R.slots) {q : St_} : ∀ (ad : Nat → Nat) (σ : St_) (a0 : Nat), Ag_ (sn_ σ0) ad0 ad → Ex_ σ0 σ → kd_ σ a0 = 9 → f_X9_init σ a0 = some q → ∀ (H : Heap) (locs : List Loc) (ls : Array Slot), Ht_ G cy (va_A (wl_ cy ad0 σ0) sz) s ad σ H locs → lv_has ls 1 [(0, .ref (ad a0))] → W p l e R s m args below meth c H locs 0 0 (MQ below (QvA_ G cy ad0 σ0 q sz) args s 18 3378 (va_A (wl_ cy ad0 σ0) sz)) (F0 m 0 ls []) := by
  intro ad σ a0 hag hE hk_a0 hf H locs ls h hl
  have hf : (lt_ (sn_ σ) fun b4 => lt_ (nw_ σ 10 (960 : Int32).toNatClampNeg) fun σ2 => lt_ (sn_ (ur_ σ2 a0 1 (some b4))) fun b8 => lt_ (nw_ (ur_ σ2 a0 1 (some b4)) 10 (6 : Int32).toNatClampNeg) fun σ6 => lt_ (sn_ (ur_ σ6 a0 2 (some b8))) fun b12 => lt_ (nw_ (ur_ σ6 a0 2 (some b8)) 10 (160 : Int32).toNatClampNeg) fun σ10 => lt_ (sn_ (ur_ σ10 a0 5 (some b12))) fun b16 => lt_ (nw_ (ur_ σ10 a0 5 (some b12)) 10 (36 : Int32).toNatClampNeg) fun σ14 => lt_ (sn_ (ur_ σ14 a0 8 (some b16))) fun b20 => lt_ (nw_ (ur_ σ14 a0 8 (some b16)) 10 (4 : Int32).toNatClampNeg) fun σ18 => lt_ (sn_ (ur_ σ18 a0 9 (some b20))) fun b24 => lt_ (nw_ (ur_ σ18 a0 9 (some b20)) 10 (12 : Int32).toNatClampNeg) fun σ22 => lt_ (sn_ (ur_ σ22 a0 10 (some b24))) fun b28 => lt_ (nw_ (ur_ σ22 a0 10 (some b24)) 10 (288 : Int32).toNatClampNeg) fun σ26 => lt_ (sn_ (ur_ σ26 a0 27 (some b28))) fun b32 => lt_ (nw_ (ur_ σ26 a0 27 (some b28)) 10 (288 : Int32).toNatClampNeg) fun σ30 => lt_ (sn_ (ur_ σ30 a0 28 (some b32))) fun b36 => lt_ (nw_ (ur_ σ30 a0 28 (some b32)) 10 (36 : Int32).toNatClampNeg) fun σ34 => lt_ (sn_ (ur_ σ34 a0 29 (some b36))) fun b40 => lt_ (nw_ (ur_ σ34 a0 29 (some b36)) 10 (1296 : Int32).toNatClampNeg) fun σ38 => lt_ (sn_ (ur_ σ38 a0 30 (some b40))) fun b44 => lt_ (nw_ (ur_ σ38 a0 30 (some b40)) 11 (36 : Int32).toNatClampNeg) fun σ42 => lt_ (sn_ (ur_ σ42 a0 31 (some b44))) fun b48 => lt_ (nw_ (ur_ σ42 a0 31 (some b44)) 11 (36 : Int32).toNatClampNeg) fun σ46 => lt_ (sn_ (ur_ σ46 a0 32 (some b48))) fun b52 => lt_ (nw_ (ur_ σ46 a0 32 (some b48)) 10 (36 : Int32).toNatClampNeg) fun σ50 => lt_ (sn_ (ur_ σ50 a0 33 (some b52))) fun b56 => lt_ (nw_ (ur_ σ50 a0 33 (some b52)) 10 (12 : Int32).toNatClampNeg) fun σ54 => lt_ (sn_ (ui_ (ur_ σ54 a0 34 (some b56)) a0 35 (-1 : Int32))) fun b60 => lt_ (nw_ (ui_ (ur_ σ54 a0 34 (some b56)) a0 35 (-1 : Int32)) 12 (4 : Int32).toNatClampNeg) fun σ58 => lt_ (sn_ (ur_ σ58 a0 38 (some b60))) fun b64 => lt_ (nw_ (ur_ σ58 a0 38 (some b60)) 10 (4 : Int32).toNatClampNeg) fun σ62 => lt_ (sn_ (ur_ σ62 a0 39 (some b64))) fun b68 => lt_ (nw_ (ur_ σ62 a0 39 (some b64)) 10 (4 : Int32).toNatClampNeg) fun σ66 => lt_ (sn_ (ur_ σ66 a0 40 (some b68))) fun b72 => lt_ (nw_ (ur_ σ66 a0 40 (some b68)) 10 (160 : Int32).toNatClampNeg) fun σ70 => (f_X9_spell (ur_ σ70 a0 41 (some b72)) a0 (0 : Int32) (101 : Int32) (97 : Int32) (115 : Int32) (116 : Int32) (115 : Int32) (32 : Int32) (49 : Int32) (32 : Int32)).bind fun q73 => (f_X9_spell q73 a0 (8 : Int32) (45 : Int32) (32 : Int32) (119 : Int32) (111 : Int32) (114 : Int32) (100 : Int32) (32 : Int32) (59 : Int32)).bind fun q74 => (f_X9_spell q74 a0 (16 : Int32) (32 : Int32) (115 : Int32) (111 : Int32) (117 : Int32) (116 : Int32) (104 : Int32) (115 : Int32) (32 : Int32)).bind fun q75 => (f_X9_spell q75 a0 (24 : Int32) (119 : Int32) (111 : Int32) (114 : Int32) (100 : Int32) (32 : Int32) (45 : Int32) (32 : Int32) (50 : Int32)).bind fun q76 => (f_X9_spell q76 a0 (32 : Int32) (32 : Int32) (59 : Int32) (32 : Int32) (114 : Int32) (105 : Int32) (115 : Int32) (101 : Int32) (115 : Int32)).bind fun q77 => (f_X9_spell q77 a0 (40 : Int32) (32 : Int32) (49 : Int32) (32 : Int32) (59 : Int32) (32 : Int32) (32 : Int32) (32 : Int32) (32 : Int32)).bind fun q78 => (dr_ q78 10 (sr_ q78 a0 2)).bind fun b79 => (ix_ (0 : Int32) (ln_ q78 b79)).bind fun j80 => some (ui_ (ui_ q78 b79 j80 (48 : Int32)) a0 3 (1 : Int32))) = some q := hf
  refine lv_aload_n C.1 C.2.1 dX9_init_0 rfl (lv_at hl 0 rfl) ?_
  refine x_obj C hl ml_RX9_7 (Nat.le_trans (by decide) hR.1) (Nat.le_trans (by decide) hR.2.1) (Nat.le_of_ble_eq_true rfl) dX9_init_1 ?_
  refine lv_aload_n C.1 C.2.1 dX9_init_4 rfl (lv_at hl 0 rfl) ?_
  refine lv_sipush (v := (960 : Int32)) C.1 C.2.1 dX9_init_5 (by decide) ?_
  have ea3 := h.lt hk_a0 (by decide)
  obtain ⟨b4, eb4, hf⟩ := lt_in hf
  obtain ⟨σ2, eσ2, hf⟩ := lt_in hf
  refine x_newa C K h (ty := .int) rfl ac_int 0 10 rfl (fun x hx => by cases hx) (a0 := fun n => (n, .inl fun _ => 0)) (fun _ => rfl) (fun _ _ => rfl) (by decide) (by decide) (Nat.le_trans (by decide) hR.2.2.1) (Nat.le_trans (by decide) hR.2.2.2) dX9_init_8 (fun ad1 H had1 h hX => ?_)
  rw [← eσ2] at h hX
  rw [← eb4]
  rw [← had1 a0 ea3] at hl
  rw [← had1 a0 ea3]
  have hag := hag.trans hE.1 had1
  have hE := hE.trans hX
  have hk_a0 := hX.k hk_a0 (by decide)
  refine W.widen (k := 1) (n := 960) (by decide) (by decide) ?_
  have hk_b4 : kd_ σ2 b4 = 10 := by rw [eσ2, eb4]; exact nw_kd _ _ _
  have hE := hE.up (up_r σ2 a0 1 (some b4) (fun b hb => by cases hb; exact h.lt hk_b4 (by decide)))
  refine x_putRF (v := (some b4)) C K hin h cl_9 hk_a0 1 (by decide) fl_RX9_13 rfl rfl (fun b hb => by cases hb; exact h.lt hk_b4 (by decide)) (rv_nar _ _) (rv_fit _ _ (by decide)) (Nat.le_of_ble_eq_true rfl) (fun _ _ _ => rfl) dX9_init_10 (fun H locs h => ?_)
  refine lv_aload_n C.1 C.2.1 dX9_init_13 rfl (lv_at hl 0 rfl) ?_
  refine lv_bipush (v := (6 : Int32)) C.1 C.2.1 dX9_init_14 (by decide) ?_
  have ea7 := h.lt hk_a0 (by decide)
  obtain ⟨b8, eb8, hf⟩ := lt_in hf
  obtain ⟨σ6, eσ6, hf⟩ := lt_in hf
  refine x_newa C K h (ty := .int) rfl ac_int 0 10 rfl (fun x hx => by cases hx) (a0 := fun n => (n, .inl fun _ => 0)) (fun _ => rfl) (fun _ _ => rfl) (by decide) (by decide) (Nat.le_trans (by decide) hR.2.2.1) (Nat.le_trans (by decide) hR.2.2.2) dX9_init_16 (fun ad5 H had5 h hX => ?_)
  rw [← eσ6] at h hX
  rw [← eb8]
  rw [← had5 a0 ea7] at hl
  rw [← had5 a0 ea7]
  have hag := hag.trans hE.1 had5
  have hE := hE.trans hX
  have hk_a0 := hX.k hk_a0 (by decide)
  refine W.widen (k := 2) (n := 966) (by decide) (by decide) ?_
  have hk_b8 : kd_ σ6 b8 = 10 := by rw [eσ6, eb8]; exact nw_kd _ _ _
  have hE := hE.up (up_r σ6 a0 2 (some b8) (fun b hb => by cases hb; exact h.lt hk_b8 (by decide)))
  refine x_putRF (v := (some b8)) C K hin h cl_9 hk_a0 2 (by decide) fl_RX9_17 rfl rfl (fun b hb => by cases hb; exact h.lt hk_b8 (by decide)) (rv_nar _ _) (rv_fit _ _ (by decide)) (Nat.le_of_ble_eq_true rfl) (fun _ _ _ => rfl) dX9_init_18 (fun H locs h => ?_)
  refine lv_aload_n C.1 C.2.1 dX9_init_21 rfl (lv_at hl 0 rfl) ?_
  refine lv_sipush (v := (160 : Int32)) C.1 C.2.1 dX9_init_22 (by decide) ?_
  have ea11 := h.lt hk_a0 (by decide)
  obtain ⟨b12, eb12, hf⟩ := lt_in hf
  obtain ⟨σ10, eσ10, hf⟩ := lt_in hf
  refine x_newa C K h (ty := .int) rfl ac_int 0 10 rfl (fun x hx => by cases hx) (a0 := fun n => (n, .inl fun _ => 0)) (fun _ => rfl) (fun _ _ => rfl) (by decide) (by decide) (Nat.le_trans (by decide) hR.2.2.1) (Nat.le_trans (by decide) hR.2.2.2) dX9_init_25 (fun ad9 H had9 h hX => ?_)
  rw [← eσ10] at h hX
  rw [← eb12]
  rw [← had9 a0 ea11] at hl
  rw [← had9 a0 ea11]
  have hag := hag.trans hE.1 had9
  have hE := hE.trans hX
  have hk_a0 := hX.k hk_a0 (by decide)
  refine W.widen (k := 3) (n := 1126) (by decide) (by decide) ?_
  have hk_b12 : kd_ σ10 b12 = 10 := by rw [eσ10, eb12]; exact nw_kd _ _ _
  have hE := hE.up (up_r σ10 a0 5 (some b12) (fun b hb => by cases hb; exact h.lt hk_b12 (by decide)))
  refine x_putRF (v := (some b12)) C K hin h cl_9 hk_a0 5 (by decide) fl_RX9_20 rfl rfl (fun b hb => by cases hb; exact h.lt hk_b12 (by decide)) (rv_nar _ _) (rv_fit _ _ (by decide)) (Nat.le_of_ble_eq_true rfl) (fun _ _ _ => rfl) dX9_init_27 (fun H locs h => ?_)
  refine lv_aload_n C.1 C.2.1 dX9_init_30 rfl (lv_at hl 0 rfl) ?_
  refine lv_bipush (v := (36 : Int32)) C.1 C.2.1 dX9_init_31 (by decide) ?_
  have ea15 := h.lt hk_a0 (by decide)
  obtain ⟨b16, eb16, hf⟩ := lt_in hf
  obtain ⟨σ14, eσ14, hf⟩ := lt_in hf
  refine x_newa C K h (ty := .int) rfl ac_int 0 10 rfl (fun x hx => by cases hx) (a0 := fun n => (n, .inl fun _ => 0)) (fun _ => rfl) (fun _ _ => rfl) (by decide) (by decide) (Nat.le_trans (by decide) hR.2.2.1) (Nat.le_trans (by decide) hR.2.2.2) dX9_init_33 (fun ad13 H had13 h hX => ?_)
  rw [← eσ14] at h hX
  rw [← eb16]
  rw [← had13 a0 ea15] at hl
  rw [← had13 a0 ea15]
  have hag := hag.trans hE.1 had13
  have hE := hE.trans hX
  have hk_a0 := hX.k hk_a0 (by decide)
  refine W.widen (k := 4) (n := 1162) (by decide) (by decide) ?_
  have hk_b16 : kd_ σ14 b16 = 10 := by rw [eσ14, eb16]; exact nw_kd _ _ _
  have hE := hE.up (up_r σ14 a0 8 (some b16) (fun b hb => by cases hb; exact h.lt hk_b16 (by decide)))
  refine x_putRF (v := (some b16)) C K hin h cl_9 hk_a0 8 (by decide) fl_RX9_23 rfl rfl (fun b hb => by cases hb; exact h.lt hk_b16 (by decide)) (rv_nar _ _) (rv_fit _ _ (by decide)) (Nat.le_of_ble_eq_true rfl) (fun _ _ _ => rfl) dX9_init_35 (fun H locs h => ?_)
  refine lv_aload_n C.1 C.2.1 dX9_init_38 rfl (lv_at hl 0 rfl) ?_
  refine lv_iconst (v := (4 : Int32)) C.1 C.2.1 dX9_init_39 (by decide) ?_
  have ea19 := h.lt hk_a0 (by decide)
  obtain ⟨b20, eb20, hf⟩ := lt_in hf
  obtain ⟨σ18, eσ18, hf⟩ := lt_in hf
  refine x_newa C K h (ty := .int) rfl ac_int 0 10 rfl (fun x hx => by cases hx) (a0 := fun n => (n, .inl fun _ => 0)) (fun _ => rfl) (fun _ _ => rfl) (by decide) (by decide) (Nat.le_trans (by decide) hR.2.2.1) (Nat.le_trans (by decide) hR.2.2.2) dX9_init_40 (fun ad17 H had17 h hX => ?_)
  rw [← eσ18] at h hX
  rw [← eb20]
  rw [← had17 a0 ea19] at hl
  rw [← had17 a0 ea19]
  have hag := hag.trans hE.1 had17
  have hE := hE.trans hX
  have hk_a0 := hX.k hk_a0 (by decide)
  refine W.widen (k := 5) (n := 1166) (by decide) (by decide) ?_
  have hk_b20 : kd_ σ18 b20 = 10 := by rw [eσ18, eb20]; exact nw_kd _ _ _
  have hE := hE.up (up_r σ18 a0 9 (some b20) (fun b hb => by cases hb; exact h.lt hk_b20 (by decide)))
  refine x_putRF (v := (some b20)) C K hin h cl_9 hk_a0 9 (by decide) fl_RX9_26 rfl rfl (fun b hb => by cases hb; exact h.lt hk_b20 (by decide)) (rv_nar _ _) (rv_fit _ _ (by decide)) (Nat.le_of_ble_eq_true rfl) (fun _ _ _ => rfl) dX9_init_42 (fun H locs h => ?_)
  refine lv_aload_n C.1 C.2.1 dX9_init_45 rfl (lv_at hl 0 rfl) ?_
  refine lv_bipush (v := (12 : Int32)) C.1 C.2.1 dX9_init_46 (by decide) ?_
  have ea23 := h.lt hk_a0 (by decide)
  obtain ⟨b24, eb24, hf⟩ := lt_in hf
  obtain ⟨σ22, eσ22, hf⟩ := lt_in hf
  refine x_newa C K h (ty := .int) rfl ac_int 0 10 rfl (fun x hx => by cases hx) (a0 := fun n => (n, .inl fun _ => 0)) (fun _ => rfl) (fun _ _ => rfl) (by decide) (by decide) (Nat.le_trans (by decide) hR.2.2.1) (Nat.le_trans (by decide) hR.2.2.2) dX9_init_48 (fun ad21 H had21 h hX => ?_)
  rw [← eσ22] at h hX
  rw [← eb24]
  rw [← had21 a0 ea23] at hl
  rw [← had21 a0 ea23]
  have hag := hag.trans hE.1 had21
  have hE := hE.trans hX
  have hk_a0 := hX.k hk_a0 (by decide)
  refine W.widen (k := 6) (n := 1178) (by decide) (by decide) ?_
  have hk_b24 : kd_ σ22 b24 = 10 := by rw [eσ22, eb24]; exact nw_kd _ _ _
  have hE := hE.up (up_r σ22 a0 10 (some b24) (fun b hb => by cases hb; exact h.lt hk_b24 (by decide)))
  refine x_putRF (v := (some b24)) C K hin h cl_9 hk_a0 10 (by decide) fl_RX9_29 rfl rfl (fun b hb => by cases hb; exact h.lt hk_b24 (by decide)) (rv_nar _ _) (rv_fit _ _ (by decide)) (Nat.le_of_ble_eq_true rfl) (fun _ _ _ => rfl) dX9_init_50 (fun H locs h => ?_)
  refine lv_aload_n C.1 C.2.1 dX9_init_53 rfl (lv_at hl 0 rfl) ?_
  refine lv_sipush (v := (288 : Int32)) C.1 C.2.1 dX9_init_54 (by decide) ?_
  have ea27 := h.lt hk_a0 (by decide)
  obtain ⟨b28, eb28, hf⟩ := lt_in hf
  obtain ⟨σ26, eσ26, hf⟩ := lt_in hf
  refine x_newa C K h (ty := .int) rfl ac_int 0 10 rfl (fun x hx => by cases hx) (a0 := fun n => (n, .inl fun _ => 0)) (fun _ => rfl) (fun _ _ => rfl) (by decide) (by decide) (Nat.le_trans (by decide) hR.2.2.1) (Nat.le_trans (by decide) hR.2.2.2) dX9_init_57 (fun ad25 H had25 h hX => ?_)
  rw [← eσ26] at h hX
  rw [← eb28]
  rw [← had25 a0 ea27] at hl
  rw [← had25 a0 ea27]
  have hag := hag.trans hE.1 had25
  have hE := hE.trans hX
  have hk_a0 := hX.k hk_a0 (by decide)
  refine W.widen (k := 7) (n := 1466) (by decide) (by decide) ?_
  have hk_b28 : kd_ σ26 b28 = 10 := by rw [eσ26, eb28]; exact nw_kd _ _ _
  have hE := hE.up (up_r σ26 a0 27 (some b28) (fun b hb => by cases hb; exact h.lt hk_b28 (by decide)))
  refine x_putRF (v := (some b28)) C K hin h cl_9 hk_a0 27 (by decide) fl_RX9_32 rfl rfl (fun b hb => by cases hb; exact h.lt hk_b28 (by decide)) (rv_nar _ _) (rv_fit _ _ (by decide)) (Nat.le_of_ble_eq_true rfl) (fun _ _ _ => rfl) dX9_init_59 (fun H locs h => ?_)
  refine lv_aload_n C.1 C.2.1 dX9_init_62 rfl (lv_at hl 0 rfl) ?_
  refine lv_sipush (v := (288 : Int32)) C.1 C.2.1 dX9_init_63 (by decide) ?_
  have ea31 := h.lt hk_a0 (by decide)
  obtain ⟨b32, eb32, hf⟩ := lt_in hf
  obtain ⟨σ30, eσ30, hf⟩ := lt_in hf
  refine x_newa C K h (ty := .int) rfl ac_int 0 10 rfl (fun x hx => by cases hx) (a0 := fun n => (n, .inl fun _ => 0)) (fun _ => rfl) (fun _ _ => rfl) (by decide) (by decide) (Nat.le_trans (by decide) hR.2.2.1) (Nat.le_trans (by decide) hR.2.2.2) dX9_init_66 (fun ad29 H had29 h hX => ?_)
  rw [← eσ30] at h hX
  rw [← eb32]
  rw [← had29 a0 ea31] at hl
  rw [← had29 a0 ea31]
  have hag := hag.trans hE.1 had29
  have hE := hE.trans hX
  have hk_a0 := hX.k hk_a0 (by decide)
  refine W.widen (k := 8) (n := 1754) (by decide) (by decide) ?_
  have hk_b32 : kd_ σ30 b32 = 10 := by rw [eσ30, eb32]; exact nw_kd _ _ _
  have hE := hE.up (up_r σ30 a0 28 (some b32) (fun b hb => by cases hb; exact h.lt hk_b32 (by decide)))
  refine x_putRF (v := (some b32)) C K hin h cl_9 hk_a0 28 (by decide) fl_RX9_35 rfl rfl (fun b hb => by cases hb; exact h.lt hk_b32 (by decide)) (rv_nar _ _) (rv_fit _ _ (by decide)) (Nat.le_of_ble_eq_true rfl) (fun _ _ _ => rfl) dX9_init_68 (fun H locs h => ?_)
  refine lv_aload_n C.1 C.2.1 dX9_init_71 rfl (lv_at hl 0 rfl) ?_
  refine lv_bipush (v := (36 : Int32)) C.1 C.2.1 dX9_init_72 (by decide) ?_
  have ea35 := h.lt hk_a0 (by decide)
  obtain ⟨b36, eb36, hf⟩ := lt_in hf
  obtain ⟨σ34, eσ34, hf⟩ := lt_in hf
  refine x_newa C K h (ty := .int) rfl ac_int 0 10 rfl (fun x hx => by cases hx) (a0 := fun n => (n, .inl fun _ => 0)) (fun _ => rfl) (fun _ _ => rfl) (by decide) (by decide) (Nat.le_trans (by decide) hR.2.2.1) (Nat.le_trans (by decide) hR.2.2.2) dX9_init_74 (fun ad33 H had33 h hX => ?_)
  rw [← eσ34] at h hX
  rw [← eb36]
  rw [← had33 a0 ea35] at hl
  rw [← had33 a0 ea35]
  have hag := hag.trans hE.1 had33
  have hE := hE.trans hX
  have hk_a0 := hX.k hk_a0 (by decide)
  refine W.widen (k := 9) (n := 1790) (by decide) (by decide) ?_
  have hk_b36 : kd_ σ34 b36 = 10 := by rw [eσ34, eb36]; exact nw_kd _ _ _
  have hE := hE.up (up_r σ34 a0 29 (some b36) (fun b hb => by cases hb; exact h.lt hk_b36 (by decide)))
  refine x_putRF (v := (some b36)) C K hin h cl_9 hk_a0 29 (by decide) fl_RX9_38 rfl rfl (fun b hb => by cases hb; exact h.lt hk_b36 (by decide)) (rv_nar _ _) (rv_fit _ _ (by decide)) (Nat.le_of_ble_eq_true rfl) (fun _ _ _ => rfl) dX9_init_76 (fun H locs h => ?_)
  refine lv_aload_n C.1 C.2.1 dX9_init_79 rfl (lv_at hl 0 rfl) ?_
  refine lv_sipush (v := (1296 : Int32)) C.1 C.2.1 dX9_init_80 (by decide) ?_
  have ea39 := h.lt hk_a0 (by decide)
  obtain ⟨b40, eb40, hf⟩ := lt_in hf
  obtain ⟨σ38, eσ38, hf⟩ := lt_in hf
  refine x_newa C K h (ty := .int) rfl ac_int 0 10 rfl (fun x hx => by cases hx) (a0 := fun n => (n, .inl fun _ => 0)) (fun _ => rfl) (fun _ _ => rfl) (by decide) (by decide) (Nat.le_trans (by decide) hR.2.2.1) (Nat.le_trans (by decide) hR.2.2.2) dX9_init_83 (fun ad37 H had37 h hX => ?_)
  rw [← eσ38] at h hX
  rw [← eb40]
  rw [← had37 a0 ea39] at hl
  rw [← had37 a0 ea39]
  have hag := hag.trans hE.1 had37
  have hE := hE.trans hX
  have hk_a0 := hX.k hk_a0 (by decide)
  refine W.widen (k := 10) (n := 3086) (by decide) (by decide) ?_
  have hk_b40 : kd_ σ38 b40 = 10 := by rw [eσ38, eb40]; exact nw_kd _ _ _
  have hE := hE.up (up_r σ38 a0 30 (some b40) (fun b hb => by cases hb; exact h.lt hk_b40 (by decide)))
  refine x_putRF (v := (some b40)) C K hin h cl_9 hk_a0 30 (by decide) fl_RX9_41 rfl rfl (fun b hb => by cases hb; exact h.lt hk_b40 (by decide)) (rv_nar _ _) (rv_fit _ _ (by decide)) (Nat.le_of_ble_eq_true rfl) (fun _ _ _ => rfl) dX9_init_85 (fun H locs h => ?_)
  refine lv_aload_n C.1 C.2.1 dX9_init_88 rfl (lv_at hl 0 rfl) ?_
  refine lv_bipush (v := (36 : Int32)) C.1 C.2.1 dX9_init_89 (by decide) ?_
  have ea43 := h.lt hk_a0 (by decide)
  obtain ⟨b44, eb44, hf⟩ := lt_in hf
  obtain ⟨σ42, eσ42, hf⟩ := lt_in hf
  refine x_newa C K h (ty := .long) rfl ac_long 1 11 rfl (fun x hx => by cases hx) (a0 := fun n => (n, .inr (.inl fun _ => 0))) (fun _ => rfl) (fun _ _ => rfl) (by decide) (by decide) (Nat.le_trans (by decide) hR.2.2.1) (Nat.le_trans (by decide) hR.2.2.2) dX9_init_91 (fun ad41 H had41 h hX => ?_)
  rw [← eσ42] at h hX
  rw [← eb44]
  rw [← had41 a0 ea43] at hl
  rw [← had41 a0 ea43]
  have hag := hag.trans hE.1 had41
  have hE := hE.trans hX
  have hk_a0 := hX.k hk_a0 (by decide)
  refine W.widen (k := 11) (n := 3122) (by decide) (by decide) ?_
  have hk_b44 : kd_ σ42 b44 = 11 := by rw [eσ42, eb44]; exact nw_kd _ _ _
  have hE := hE.up (up_r σ42 a0 31 (some b44) (fun b hb => by cases hb; exact h.lt hk_b44 (by decide)))
  refine x_putRF (v := (some b44)) C K hin h cl_9 hk_a0 31 (by decide) fl_RX9_44 rfl rfl (fun b hb => by cases hb; exact h.lt hk_b44 (by decide)) (rv_nar _ _) (rv_fit _ _ (by decide)) (Nat.le_of_ble_eq_true rfl) (fun _ _ _ => rfl) dX9_init_93 (fun H locs h => ?_)
  refine lv_aload_n C.1 C.2.1 dX9_init_96 rfl (lv_at hl 0 rfl) ?_
  refine lv_bipush (v := (36 : Int32)) C.1 C.2.1 dX9_init_97 (by decide) ?_
  have ea47 := h.lt hk_a0 (by decide)
  obtain ⟨b48, eb48, hf⟩ := lt_in hf
  obtain ⟨σ46, eσ46, hf⟩ := lt_in hf
  refine x_newa C K h (ty := .long) rfl ac_long 1 11 rfl (fun x hx => by cases hx) (a0 := fun n => (n, .inr (.inl fun _ => 0))) (fun _ => rfl) (fun _ _ => rfl) (by decide) (by decide) (Nat.le_trans (by decide) hR.2.2.1) (Nat.le_trans (by decide) hR.2.2.2) dX9_init_99 (fun ad45 H had45 h hX => ?_)
  rw [← eσ46] at h hX
  rw [← eb48]
  rw [← had45 a0 ea47] at hl
  rw [← had45 a0 ea47]
  have hag := hag.trans hE.1 had45
  have hE := hE.trans hX
  have hk_a0 := hX.k hk_a0 (by decide)
  refine W.widen (k := 12) (n := 3158) (by decide) (by decide) ?_
  have hk_b48 : kd_ σ46 b48 = 11 := by rw [eσ46, eb48]; exact nw_kd _ _ _
  have hE := hE.up (up_r σ46 a0 32 (some b48) (fun b hb => by cases hb; exact h.lt hk_b48 (by decide)))
  refine x_putRF (v := (some b48)) C K hin h cl_9 hk_a0 32 (by decide) fl_RX9_48 rfl rfl (fun b hb => by cases hb; exact h.lt hk_b48 (by decide)) (rv_nar _ _) (rv_fit _ _ (by decide)) (Nat.le_of_ble_eq_true rfl) (fun _ _ _ => rfl) dX9_init_101 (fun H locs h => ?_)
  refine lv_aload_n C.1 C.2.1 dX9_init_104 rfl (lv_at hl 0 rfl) ?_
  refine lv_bipush (v := (36 : Int32)) C.1 C.2.1 dX9_init_105 (by decide) ?_
  have ea51 := h.lt hk_a0 (by decide)
  obtain ⟨b52, eb52, hf⟩ := lt_in hf
  obtain ⟨σ50, eσ50, hf⟩ := lt_in hf
  refine x_newa C K h (ty := .int) rfl ac_int 0 10 rfl (fun x hx => by cases hx) (a0 := fun n => (n, .inl fun _ => 0)) (fun _ => rfl) (fun _ _ => rfl) (by decide) (by decide) (Nat.le_trans (by decide) hR.2.2.1) (Nat.le_trans (by decide) hR.2.2.2) dX9_init_107 (fun ad49 H had49 h hX => ?_)
  rw [← eσ50] at h hX
  rw [← eb52]
  rw [← had49 a0 ea51] at hl
  rw [← had49 a0 ea51]
  have hag := hag.trans hE.1 had49
  have hE := hE.trans hX
  have hk_a0 := hX.k hk_a0 (by decide)
  refine W.widen (k := 13) (n := 3194) (by decide) (by decide) ?_
  have hk_b52 : kd_ σ50 b52 = 10 := by rw [eσ50, eb52]; exact nw_kd _ _ _
  have hE := hE.up (up_r σ50 a0 33 (some b52) (fun b hb => by cases hb; exact h.lt hk_b52 (by decide)))
  refine x_putRF (v := (some b52)) C K hin h cl_9 hk_a0 33 (by decide) fl_RX9_51 rfl rfl (fun b hb => by cases hb; exact h.lt hk_b52 (by decide)) (rv_nar _ _) (rv_fit _ _ (by decide)) (Nat.le_of_ble_eq_true rfl) (fun _ _ _ => rfl) dX9_init_109 (fun H locs h => ?_)
  refine lv_aload_n C.1 C.2.1 dX9_init_112 rfl (lv_at hl 0 rfl) ?_
  refine lv_bipush (v := (12 : Int32)) C.1 C.2.1 dX9_init_113 (by decide) ?_
  have ea55 := h.lt hk_a0 (by decide)
  obtain ⟨b56, eb56, hf⟩ := lt_in hf
  obtain ⟨σ54, eσ54, hf⟩ := lt_in hf
  refine x_newa C K h (ty := .int) rfl ac_int 0 10 rfl (fun x hx => by cases hx) (a0 := fun n => (n, .inl fun _ => 0)) (fun _ => rfl) (fun _ _ => rfl) (by decide) (by decide) (Nat.le_trans (by decide) hR.2.2.1) (Nat.le_trans (by decide) hR.2.2.2) dX9_init_115 (fun ad53 H had53 h hX => ?_)
  rw [← eσ54] at h hX
  rw [← eb56]
  rw [← had53 a0 ea55] at hl
  rw [← had53 a0 ea55]
  have hag := hag.trans hE.1 had53
  have hE := hE.trans hX
  have hk_a0 := hX.k hk_a0 (by decide)
  refine W.widen (k := 14) (n := 3206) (by decide) (by decide) ?_
  have hk_b56 : kd_ σ54 b56 = 10 := by rw [eσ54, eb56]; exact nw_kd _ _ _
  have hE := hE.up (up_r σ54 a0 34 (some b56) (fun b hb => by cases hb; exact h.lt hk_b56 (by decide)))
  refine x_putRF (v := (some b56)) C K hin h cl_9 hk_a0 34 (by decide) fl_RX9_54 rfl rfl (fun b hb => by cases hb; exact h.lt hk_b56 (by decide)) (rv_nar _ _) (rv_fit _ _ (by decide)) (Nat.le_of_ble_eq_true rfl) (fun _ _ _ => rfl) dX9_init_117 (fun H locs h => ?_)
  refine lv_aload_n C.1 C.2.1 dX9_init_120 rfl (lv_at hl 0 rfl) ?_
  refine lv_iconst (v := (-1 : Int32)) C.1 C.2.1 dX9_init_121 (by decide) ?_
  refine x_putI C K h cl_9 hk_a0 35 (by decide) fl_RX9_57 rfl rfl rfl (Nat.le_of_ble_eq_true rfl) (fun _ _ _ => rfl) dX9_init_122 (fun H locs h => ?_)
  have hE := hE.up (up_i (ur_ σ54 a0 34 (some b56)) a0 35 (-1 : Int32))
  refine lv_aload_n C.1 C.2.1 dX9_init_125 rfl (lv_at hl 0 rfl) ?_
  refine lv_iconst (v := (4 : Int32)) C.1 C.2.1 dX9_init_126 (by decide) ?_
  have ea59 := h.lt hk_a0 (by decide)
  obtain ⟨b60, eb60, hf⟩ := lt_in hf
  obtain ⟨σ58, eσ58, hf⟩ := lt_in hf
  refine x_newa C K h (ty := .boolean) rfl ac_boolean 2 12 rfl (fun x hx => by cases hx) (a0 := fun n => (n, .inl fun _ => 0)) (fun _ => rfl) (fun _ _ => rfl) (by decide) (by decide) (Nat.le_trans (by decide) hR.2.2.1) (Nat.le_trans (by decide) hR.2.2.2) dX9_init_127 (fun ad57 H had57 h hX => ?_)
  rw [← eσ58] at h hX
  rw [← eb60]
  rw [← had57 a0 ea59] at hl
  rw [← had57 a0 ea59]
  have hag := hag.trans hE.1 had57
  have hE := hE.trans hX
  have hk_a0 := hX.k hk_a0 (by decide)
  refine W.widen (k := 15) (n := 3210) (by decide) (by decide) ?_
  have hk_b60 : kd_ σ58 b60 = 12 := by rw [eσ58, eb60]; exact nw_kd _ _ _
  have hE := hE.up (up_r σ58 a0 38 (some b60) (fun b hb => by cases hb; exact h.lt hk_b60 (by decide)))
  refine x_putRF (v := (some b60)) C K hin h cl_9 hk_a0 38 (by decide) fl_RX9_60 rfl rfl (fun b hb => by cases hb; exact h.lt hk_b60 (by decide)) (rv_nar _ _) (rv_fit _ _ (by decide)) (Nat.le_of_ble_eq_true rfl) (fun _ _ _ => rfl) dX9_init_129 (fun H locs h => ?_)
  refine lv_aload_n C.1 C.2.1 dX9_init_132 rfl (lv_at hl 0 rfl) ?_
  refine lv_iconst (v := (4 : Int32)) C.1 C.2.1 dX9_init_133 (by decide) ?_
  have ea63 := h.lt hk_a0 (by decide)
  obtain ⟨b64, eb64, hf⟩ := lt_in hf
  obtain ⟨σ62, eσ62, hf⟩ := lt_in hf
  refine x_newa C K h (ty := .int) rfl ac_int 0 10 rfl (fun x hx => by cases hx) (a0 := fun n => (n, .inl fun _ => 0)) (fun _ => rfl) (fun _ _ => rfl) (by decide) (by decide) (Nat.le_trans (by decide) hR.2.2.1) (Nat.le_trans (by decide) hR.2.2.2) dX9_init_134 (fun ad61 H had61 h hX => ?_)
  rw [← eσ62] at h hX
  rw [← eb64]
  rw [← had61 a0 ea63] at hl
  rw [← had61 a0 ea63]
  have hag := hag.trans hE.1 had61
  have hE := hE.trans hX
  have hk_a0 := hX.k hk_a0 (by decide)
  refine W.widen (k := 16) (n := 3214) (by decide) (by decide) ?_
  have hk_b64 : kd_ σ62 b64 = 10 := by rw [eσ62, eb64]; exact nw_kd _ _ _
  have hE := hE.up (up_r σ62 a0 39 (some b64) (fun b hb => by cases hb; exact h.lt hk_b64 (by decide)))
  refine x_putRF (v := (some b64)) C K hin h cl_9 hk_a0 39 (by decide) fl_RX9_64 rfl rfl (fun b hb => by cases hb; exact h.lt hk_b64 (by decide)) (rv_nar _ _) (rv_fit _ _ (by decide)) (Nat.le_of_ble_eq_true rfl) (fun _ _ _ => rfl) dX9_init_136 (fun H locs h => ?_)
  refine lv_aload_n C.1 C.2.1 dX9_init_139 rfl (lv_at hl 0 rfl) ?_
  refine lv_iconst (v := (4 : Int32)) C.1 C.2.1 dX9_init_140 (by decide) ?_
  have ea67 := h.lt hk_a0 (by decide)
  obtain ⟨b68, eb68, hf⟩ := lt_in hf
  obtain ⟨σ66, eσ66, hf⟩ := lt_in hf
  refine x_newa C K h (ty := .int) rfl ac_int 0 10 rfl (fun x hx => by cases hx) (a0 := fun n => (n, .inl fun _ => 0)) (fun _ => rfl) (fun _ _ => rfl) (by decide) (by decide) (Nat.le_trans (by decide) hR.2.2.1) (Nat.le_trans (by decide) hR.2.2.2) dX9_init_141 (fun ad65 H had65 h hX => ?_)
  rw [← eσ66] at h hX
  rw [← eb68]
  rw [← had65 a0 ea67] at hl
  rw [← had65 a0 ea67]
  have hag := hag.trans hE.1 had65
  have hE := hE.trans hX
  have hk_a0 := hX.k hk_a0 (by decide)
  refine W.widen (k := 17) (n := 3218) (by decide) (by decide) ?_
  have hk_b68 : kd_ σ66 b68 = 10 := by rw [eσ66, eb68]; exact nw_kd _ _ _
  have hE := hE.up (up_r σ66 a0 40 (some b68) (fun b hb => by cases hb; exact h.lt hk_b68 (by decide)))
  refine x_putRF (v := (some b68)) C K hin h cl_9 hk_a0 40 (by decide) fl_RX9_67 rfl rfl (fun b hb => by cases hb; exact h.lt hk_b68 (by decide)) (rv_nar _ _) (rv_fit _ _ (by decide)) (Nat.le_of_ble_eq_true rfl) (fun _ _ _ => rfl) dX9_init_143 (fun H locs h => ?_)
  refine lv_aload_n C.1 C.2.1 dX9_init_146 rfl (lv_at hl 0 rfl) ?_
  refine lv_sipush (v := (160 : Int32)) C.1 C.2.1 dX9_init_147 (by decide) ?_
  have ea71 := h.lt hk_a0 (by decide)
  obtain ⟨b72, eb72, hf⟩ := lt_in hf
  obtain ⟨σ70, eσ70, hf⟩ := lt_in hf
  refine x_newa C K h (ty := .int) rfl ac_int 0 10 rfl (fun x hx => by cases hx) (a0 := fun n => (n, .inl fun _ => 0)) (fun _ => rfl) (fun _ _ => rfl) (by decide) (by decide) (Nat.le_trans (by decide) hR.2.2.1) (Nat.le_trans (by decide) hR.2.2.2) dX9_init_150 (fun ad69 H had69 h hX => ?_)
  rw [← eσ70] at h hX
  rw [← eb72]
  rw [← had69 a0 ea71] at hl
  rw [← had69 a0 ea71]
  have hag := hag.trans hE.1 had69
  have hE := hE.trans hX
  have hk_a0 := hX.k hk_a0 (by decide)
  refine W.widen (k := 18) (n := 3378) (by decide) (by decide) ?_
  have hk_b72 : kd_ σ70 b72 = 10 := by rw [eσ70, eb72]; exact nw_kd _ _ _
  have hE := hE.up (up_r σ70 a0 41 (some b72) (fun b hb => by cases hb; exact h.lt hk_b72 (by decide)))
  refine x_putRF (v := (some b72)) C K hin h cl_9 hk_a0 41 (by decide) fl_RX9_70 rfl rfl (fun b hb => by cases hb; exact h.lt hk_b72 (by decide)) (rv_nar _ _) (rv_fit _ _ (by decide)) (Nat.le_of_ble_eq_true rfl) (fun _ _ _ => rfl) dX9_init_152 (fun H locs h => ?_)
  refine lv_aload_n C.1 C.2.1 dX9_init_155 rfl (lv_at hl 0 rfl) ?_
  refine lv_iconst (v := (0 : Int32)) C.1 C.2.1 dX9_init_156 (by decide) ?_
  refine lv_bipush (v := (101 : Int32)) C.1 C.2.1 dX9_init_157 (by decide) ?_
  refine lv_bipush (v := (97 : Int32)) C.1 C.2.1 dX9_init_159 (by decide) ?_
  refine lv_bipush (v := (115 : Int32)) C.1 C.2.1 dX9_init_161 (by decide) ?_
  refine lv_bipush (v := (116 : Int32)) C.1 C.2.1 dX9_init_163 (by decide) ?_
  refine lv_bipush (v := (115 : Int32)) C.1 C.2.1 dX9_init_165 (by decide) ?_
  refine lv_bipush (v := (32 : Int32)) C.1 C.2.1 dX9_init_167 (by decide) ?_
  refine lv_bipush (v := (49 : Int32)) C.1 C.2.1 dX9_init_169 (by decide) ?_
  refine lv_bipush (v := (32 : Int32)) C.1 C.2.1 dX9_init_171 (by decide) ?_
  obtain ⟨q73, hq_q73, hf⟩ := ob_ hf
  refine x_av K h (x_V C K h [.int (0 : Int32), .int (101 : Int32), .int (97 : Int32), .int (115 : Int32), .int (116 : Int32), .int (115 : Int32), .int (32 : Int32), .int (49 : Int32), .int (32 : Int32)] (c_X9_spell l κ G cy ad69 H.size (ur_ σ70 a0 41 (some b72)) a0 (0 : Int32) (101 : Int32) (97 : Int32) (115 : Int32) (116 : Int32) (115 : Int32) (32 : Int32) (49 : Int32) (32 : Int32) hk_a0 hq_q73) mi_X9_spell rfl im_yX9_spell se_yX9_spell ml_RX9_73 cl_9 hk_a0 ⟨rfl, rfl, Nat.le_trans (Nat.le_of_ble_eq_true rfl) hR.1, Nat.le_trans (Nat.le_of_ble_eq_true rfl) hR.2.1⟩ hl (Nat.le_of_ble_eq_true rfl) dX9_init_173 ⟨Nat.le_trans (by decide) hR.2.2.1, Nat.le_trans (by decide) hR.2.2.2⟩ rfl) (fun H locs h hX => ?_)
  have hE := hE.trans hX
  have hk_a0 := hX.k hk_a0 (by decide)
  refine lv_aload_n C.1 C.2.1 dX9_init_176 rfl (lv_at hl 0 rfl) ?_
  refine lv_bipush (v := (8 : Int32)) C.1 C.2.1 dX9_init_177 (by decide) ?_
  refine lv_bipush (v := (45 : Int32)) C.1 C.2.1 dX9_init_179 (by decide) ?_
  refine lv_bipush (v := (32 : Int32)) C.1 C.2.1 dX9_init_181 (by decide) ?_
  refine lv_bipush (v := (119 : Int32)) C.1 C.2.1 dX9_init_183 (by decide) ?_
  refine lv_bipush (v := (111 : Int32)) C.1 C.2.1 dX9_init_185 (by decide) ?_
  refine lv_bipush (v := (114 : Int32)) C.1 C.2.1 dX9_init_187 (by decide) ?_
  refine lv_bipush (v := (100 : Int32)) C.1 C.2.1 dX9_init_189 (by decide) ?_
  refine lv_bipush (v := (32 : Int32)) C.1 C.2.1 dX9_init_191 (by decide) ?_
  refine lv_bipush (v := (59 : Int32)) C.1 C.2.1 dX9_init_193 (by decide) ?_
  obtain ⟨q74, hq_q74, hf⟩ := ob_ hf
  refine x_av K h (x_V C K h [.int (8 : Int32), .int (45 : Int32), .int (32 : Int32), .int (119 : Int32), .int (111 : Int32), .int (114 : Int32), .int (100 : Int32), .int (32 : Int32), .int (59 : Int32)] (c_X9_spell l κ G cy ad69 H.size q73 a0 (8 : Int32) (45 : Int32) (32 : Int32) (119 : Int32) (111 : Int32) (114 : Int32) (100 : Int32) (32 : Int32) (59 : Int32) hk_a0 hq_q74) mi_X9_spell rfl im_yX9_spell se_yX9_spell ml_RX9_73 cl_9 hk_a0 ⟨rfl, rfl, Nat.le_trans (Nat.le_of_ble_eq_true rfl) hR.1, Nat.le_trans (Nat.le_of_ble_eq_true rfl) hR.2.1⟩ hl (Nat.le_of_ble_eq_true rfl) dX9_init_195 ⟨Nat.le_trans (by decide) hR.2.2.1, Nat.le_trans (by decide) hR.2.2.2⟩ rfl) (fun H locs h hX => ?_)
  have hE := hE.trans hX
  have hk_a0 := hX.k hk_a0 (by decide)
  refine lv_aload_n C.1 C.2.1 dX9_init_198 rfl (lv_at hl 0 rfl) ?_
  refine lv_bipush (v := (16 : Int32)) C.1 C.2.1 dX9_init_199 (by decide) ?_
  refine lv_bipush (v := (32 : Int32)) C.1 C.2.1 dX9_init_201 (by decide) ?_
  refine lv_bipush (v := (115 : Int32)) C.1 C.2.1 dX9_init_203 (by decide) ?_
  refine lv_bipush (v := (111 : Int32)) C.1 C.2.1 dX9_init_205 (by decide) ?_
  refine lv_bipush (v := (117 : Int32)) C.1 C.2.1 dX9_init_207 (by decide) ?_
  refine lv_bipush (v := (116 : Int32)) C.1 C.2.1 dX9_init_209 (by decide) ?_
  refine lv_bipush (v := (104 : Int32)) C.1 C.2.1 dX9_init_211 (by decide) ?_
  refine lv_bipush (v := (115 : Int32)) C.1 C.2.1 dX9_init_213 (by decide) ?_
  refine lv_bipush (v := (32 : Int32)) C.1 C.2.1 dX9_init_215 (by decide) ?_
  obtain ⟨q75, hq_q75, hf⟩ := ob_ hf
  refine x_av K h (x_V C K h [.int (16 : Int32), .int (32 : Int32), .int (115 : Int32), .int (111 : Int32), .int (117 : Int32), .int (116 : Int32), .int (104 : Int32), .int (115 : Int32), .int (32 : Int32)] (c_X9_spell l κ G cy ad69 H.size q74 a0 (16 : Int32) (32 : Int32) (115 : Int32) (111 : Int32) (117 : Int32) (116 : Int32) (104 : Int32) (115 : Int32) (32 : Int32) hk_a0 hq_q75) mi_X9_spell rfl im_yX9_spell se_yX9_spell ml_RX9_73 cl_9 hk_a0 ⟨rfl, rfl, Nat.le_trans (Nat.le_of_ble_eq_true rfl) hR.1, Nat.le_trans (Nat.le_of_ble_eq_true rfl) hR.2.1⟩ hl (Nat.le_of_ble_eq_true rfl) dX9_init_217 ⟨Nat.le_trans (by decide) hR.2.2.1, Nat.le_trans (by decide) hR.2.2.2⟩ rfl) (fun H locs h hX => ?_)
  have hE := hE.trans hX
  have hk_a0 := hX.k hk_a0 (by decide)
  refine lv_aload_n C.1 C.2.1 dX9_init_220 rfl (lv_at hl 0 rfl) ?_
  refine lv_bipush (v := (24 : Int32)) C.1 C.2.1 dX9_init_221 (by decide) ?_
  refine lv_bipush (v := (119 : Int32)) C.1 C.2.1 dX9_init_223 (by decide) ?_
  refine lv_bipush (v := (111 : Int32)) C.1 C.2.1 dX9_init_225 (by decide) ?_
  refine lv_bipush (v := (114 : Int32)) C.1 C.2.1 dX9_init_227 (by decide) ?_
  refine lv_bipush (v := (100 : Int32)) C.1 C.2.1 dX9_init_229 (by decide) ?_
  refine lv_bipush (v := (32 : Int32)) C.1 C.2.1 dX9_init_231 (by decide) ?_
  refine lv_bipush (v := (45 : Int32)) C.1 C.2.1 dX9_init_233 (by decide) ?_
  refine lv_bipush (v := (32 : Int32)) C.1 C.2.1 dX9_init_235 (by decide) ?_
  refine lv_bipush (v := (50 : Int32)) C.1 C.2.1 dX9_init_237 (by decide) ?_
  obtain ⟨q76, hq_q76, hf⟩ := ob_ hf
  refine x_av K h (x_V C K h [.int (24 : Int32), .int (119 : Int32), .int (111 : Int32), .int (114 : Int32), .int (100 : Int32), .int (32 : Int32), .int (45 : Int32), .int (32 : Int32), .int (50 : Int32)] (c_X9_spell l κ G cy ad69 H.size q75 a0 (24 : Int32) (119 : Int32) (111 : Int32) (114 : Int32) (100 : Int32) (32 : Int32) (45 : Int32) (32 : Int32) (50 : Int32) hk_a0 hq_q76) mi_X9_spell rfl im_yX9_spell se_yX9_spell ml_RX9_73 cl_9 hk_a0 ⟨rfl, rfl, Nat.le_trans (Nat.le_of_ble_eq_true rfl) hR.1, Nat.le_trans (Nat.le_of_ble_eq_true rfl) hR.2.1⟩ hl (Nat.le_of_ble_eq_true rfl) dX9_init_239 ⟨Nat.le_trans (by decide) hR.2.2.1, Nat.le_trans (by decide) hR.2.2.2⟩ rfl) (fun H locs h hX => ?_)
  have hE := hE.trans hX
  have hk_a0 := hX.k hk_a0 (by decide)
  refine lv_aload_n C.1 C.2.1 dX9_init_242 rfl (lv_at hl 0 rfl) ?_
  refine lv_bipush (v := (32 : Int32)) C.1 C.2.1 dX9_init_243 (by decide) ?_
  refine lv_bipush (v := (32 : Int32)) C.1 C.2.1 dX9_init_245 (by decide) ?_
  refine lv_bipush (v := (59 : Int32)) C.1 C.2.1 dX9_init_247 (by decide) ?_
  refine lv_bipush (v := (32 : Int32)) C.1 C.2.1 dX9_init_249 (by decide) ?_
  refine lv_bipush (v := (114 : Int32)) C.1 C.2.1 dX9_init_251 (by decide) ?_
  refine lv_bipush (v := (105 : Int32)) C.1 C.2.1 dX9_init_253 (by decide) ?_
  refine lv_bipush (v := (115 : Int32)) C.1 C.2.1 dX9_init_255 (by decide) ?_
  refine lv_bipush (v := (101 : Int32)) C.1 C.2.1 dX9_init_257 (by decide) ?_
  refine lv_bipush (v := (115 : Int32)) C.1 C.2.1 dX9_init_259 (by decide) ?_
  obtain ⟨q77, hq_q77, hf⟩ := ob_ hf
  refine x_av K h (x_V C K h [.int (32 : Int32), .int (32 : Int32), .int (59 : Int32), .int (32 : Int32), .int (114 : Int32), .int (105 : Int32), .int (115 : Int32), .int (101 : Int32), .int (115 : Int32)] (c_X9_spell l κ G cy ad69 H.size q76 a0 (32 : Int32) (32 : Int32) (59 : Int32) (32 : Int32) (114 : Int32) (105 : Int32) (115 : Int32) (101 : Int32) (115 : Int32) hk_a0 hq_q77) mi_X9_spell rfl im_yX9_spell se_yX9_spell ml_RX9_73 cl_9 hk_a0 ⟨rfl, rfl, Nat.le_trans (Nat.le_of_ble_eq_true rfl) hR.1, Nat.le_trans (Nat.le_of_ble_eq_true rfl) hR.2.1⟩ hl (Nat.le_of_ble_eq_true rfl) dX9_init_261 ⟨Nat.le_trans (by decide) hR.2.2.1, Nat.le_trans (by decide) hR.2.2.2⟩ rfl) (fun H locs h hX => ?_)
  have hE := hE.trans hX
  have hk_a0 := hX.k hk_a0 (by decide)
  refine lv_aload_n C.1 C.2.1 dX9_init_264 rfl (lv_at hl 0 rfl) ?_
  refine lv_bipush (v := (40 : Int32)) C.1 C.2.1 dX9_init_265 (by decide) ?_
  refine lv_bipush (v := (32 : Int32)) C.1 C.2.1 dX9_init_267 (by decide) ?_
  refine lv_bipush (v := (49 : Int32)) C.1 C.2.1 dX9_init_269 (by decide) ?_
  refine lv_bipush (v := (32 : Int32)) C.1 C.2.1 dX9_init_271 (by decide) ?_
  refine lv_bipush (v := (59 : Int32)) C.1 C.2.1 dX9_init_273 (by decide) ?_
  refine lv_bipush (v := (32 : Int32)) C.1 C.2.1 dX9_init_275 (by decide) ?_
  refine lv_bipush (v := (32 : Int32)) C.1 C.2.1 dX9_init_277 (by decide) ?_
  refine lv_bipush (v := (32 : Int32)) C.1 C.2.1 dX9_init_279 (by decide) ?_
  refine lv_bipush (v := (32 : Int32)) C.1 C.2.1 dX9_init_281 (by decide) ?_
  obtain ⟨q78, hq_q78, hf⟩ := ob_ hf
  refine x_av K h (x_V C K h [.int (40 : Int32), .int (32 : Int32), .int (49 : Int32), .int (32 : Int32), .int (59 : Int32), .int (32 : Int32), .int (32 : Int32), .int (32 : Int32), .int (32 : Int32)] (c_X9_spell l κ G cy ad69 H.size q77 a0 (40 : Int32) (32 : Int32) (49 : Int32) (32 : Int32) (59 : Int32) (32 : Int32) (32 : Int32) (32 : Int32) (32 : Int32) hk_a0 hq_q78) mi_X9_spell rfl im_yX9_spell se_yX9_spell ml_RX9_73 cl_9 hk_a0 ⟨rfl, rfl, Nat.le_trans (Nat.le_of_ble_eq_true rfl) hR.1, Nat.le_trans (Nat.le_of_ble_eq_true rfl) hR.2.1⟩ hl (Nat.le_of_ble_eq_true rfl) dX9_init_283 ⟨Nat.le_trans (by decide) hR.2.2.1, Nat.le_trans (by decide) hR.2.2.2⟩ rfl) (fun H locs h hX => ?_)
  have hE := hE.trans hX
  have hk_a0 := hX.k hk_a0 (by decide)
  refine lv_aload_n C.1 C.2.1 dX9_init_286 rfl (lv_at hl 0 rfl) ?_
  obtain ⟨b79, hb_b79, hf⟩ := ob_ hf
  obtain ⟨hq_b79, hk_b79⟩ := dr_in hb_b79
  refine x_get (v := .ref (ad69 b79)) C K h cl_9 hk_a0 2 (by decide) fl_RX9_17 (hv_r (o := sr_ q78 a0 2) rfl hq_b79) dX9_init_287 ?_
  refine lv_iconst (v := (0 : Int32)) C.1 C.2.1 dX9_init_290 (by decide) ?_
  refine lv_bipush (v := (48 : Int32)) C.1 C.2.1 dX9_init_291 (by decide) ?_
  obtain ⟨j80, hj_j80, hf⟩ := ob_ hf
  refine x_iast C K h hk_b79 hj_j80 dX9_init_293 (fun H locs h => ?_)
  have hE := hE.up (up_i q78 b79 j80 (48 : Int32))
  refine lv_aload_n C.1 C.2.1 dX9_init_294 rfl (lv_at hl 0 rfl) ?_
  refine lv_iconst (v := (1 : Int32)) C.1 C.2.1 dX9_init_295 (by decide) ?_
  refine x_putI C K h cl_9 hk_a0 3 (by decide) fl_RX9_77 rfl rfl rfl (Nat.le_of_ble_eq_true rfl) (fun _ _ _ => rfl) dX9_init_296 (fun H locs h => ?_)
  have hE := hE.up (up_i (ui_ q78 b79 j80 (48 : Int32)) a0 3 (1 : Int32))
  exact x_rvA (Nat.le_of_ble_eq_true rfl) (Nat.le_of_ble_eq_true rfl) C hr hlk hag h hE (Option.some.inj hf) dX9_init_299
theorem c_X9_init (l : Launch) (κ : Ka_) (G : va_G) (cy : Nat → ClassId) (ad : Nat → Nat) (sz : Nat) (σ : St_) (a0 : Nat) (hk_a0 : kd_ σ a0 = 9) {q : St_} (hf : f_X9_init σ a0 = some q) : Met l yX9_init (Cond.code yX9_init cX9_init 1 none :: wU_) { frames := 1, cells := 18, slots := 3378, locals := 29 } (va_Pc [.ref (ad a0)] (Pr_ κ G cy ad σ sz)) (QvA_ G cy ad σ q sz) 18 3378 (va_A (wl_ cy ad σ) sz) :=
  x_met (by decide) (fun p e R s m below meth c ls hR C hr hlk hin _ K h hl => w_X9_init C K hr hlk hin hR ad σ a0 Ag_.rf Ex_.rf hk_a0 hf s.heap [] ls h hl) (Nat.le_of_ble_eq_true rfl)
