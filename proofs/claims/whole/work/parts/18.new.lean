-- X0_init
theorem mi_X0_init : Mi_ yX0_init cX0_init 1 none 0 := ⟨co_yX0_init, in_RX0, by decide, by decide, by decide +kernel⟩
def f_X0_init (σ : St_) (a0 : Nat) : St_ := σ
set_option maxHeartbeats 4000000 in
set_option maxRecDepth 100000 in
theorem w_X0_init {p : Program} {l : Launch} {e : Env} {R : Room} {s : State} {m : MethodId} {args : Array Value} {below : List Frame} {meth : Method} {c : Code} {κ : Ka_} {G : va_G} {cy : Nat → ClassId} {ad : Nat → Nat} {sz : Nat} {σ0 : St_} (C : CallFix p m c cX0_init 1 s args wU_ RX0) (K : Kx_ κ G cy (va_A (wl_ cy ad σ0) sz) s) (hr : meth.sig.returnType = none) (hlk : meth.locks = false) (hin : meth.name = "<init>") (hR : 1 ≤ R.frames ∧ 20 ≤ R.locals) {q : St_} : ∀ (σ : St_) (a0 : Nat), Ex_ σ0 σ → kd_ σ a0 = 0 → f_X0_init σ a0 = q → ∀ (H : Heap) (locs : List Loc) (ls : Array Slot), Ht_ G cy (va_A (wl_ cy ad σ0) sz) s ad σ H locs → lv_has ls 1 [(0, .ref (ad a0))] → W p l e R s m args below meth c H locs 0 0 (MQ below (Qv_ G cy ad σ0 q sz) args s 0 0 (va_A (wl_ cy ad σ0) sz)) (F0 m 0 ls []) := by
  intro σ a0 hE hk_a0 hf H locs ls h hl
  have hf : (σ) = q := hf
  refine lv_aload_n C.1 C.2.1 dX0_init_0 rfl (lv_at hl 0 rfl) ?_
  refine x_obj C hl ml_RX0_1 (Nat.le_trans (by decide) hR.1) (Nat.le_trans (by decide) hR.2) (Nat.le_of_ble_eq_true rfl) dX0_init_1 ?_
  exact x_rv C hr hlk h hE hf dX0_init_4
theorem c_X0_init (l : Launch) (κ : Ka_) (G : va_G) (cy : Nat → ClassId) (ad : Nat → Nat) (sz : Nat) (σ : St_) (a0 : Nat) (hk_a0 : kd_ σ a0 = 0) {q : St_} (hf : f_X0_init σ a0 = q) : Met l yX0_init (Cond.code yX0_init cX0_init 1 none :: wU_) { frames := 1, cells := 0, slots := 0, locals := 20 } (va_Pc [.ref (ad a0)] (Pr_ κ G cy ad σ sz)) (Qv_ G cy ad σ q sz) 0 0 (va_A (wl_ cy ad σ) sz) :=
  x_met (by decide) (fun p e R s m below meth c ls hR C hr hlk hin _ K h hl => w_X0_init C K hr hlk hin ⟨hR.1, hR.2.1⟩ σ a0 Ex_.rf hk_a0 hf s.heap [] ls h hl) (Nat.le_of_ble_eq_true rfl)
-- X5_init
theorem mi_X5_init : Mi_ yX5_init cX5_init 4 none 3 := ⟨co_yX5_init, in_RX5, by decide, by decide, by decide +kernel⟩
def f_X5_init (σ : St_) (a0 : Nat) (x1 : Nat) (x2 : Nat) (x3 : Nat) : St_ := ur_ (ur_ (ur_ σ a0 0 (some x1)) a0 1 (some x2)) a0 2 (some x3)
set_option maxHeartbeats 4000000 in
set_option maxRecDepth 100000 in
theorem w_X5_init {p : Program} {l : Launch} {e : Env} {R : Room} {s : State} {m : MethodId} {args : Array Value} {below : List Frame} {meth : Method} {c : Code} {κ : Ka_} {G : va_G} {cy : Nat → ClassId} {ad : Nat → Nat} {sz : Nat} {σ0 : St_} (C : CallFix p m c cX5_init 4 s args wU_ RX5) (K : Kx_ κ G cy (va_A (wl_ cy ad σ0) sz) s) (hr : meth.sig.returnType = none) (hlk : meth.locks = false) (hin : meth.name = "<init>") (hR : 1 ≤ R.frames ∧ 20 ≤ R.locals) {q : St_} : ∀ (σ : St_) (a0 : Nat) (x1 : Nat) (x2 : Nat) (x3 : Nat), Ex_ σ0 σ → kd_ σ a0 = 5 → kd_ σ x1 = 10 → kd_ σ x2 = 10 → kd_ σ x3 = 10 → f_X5_init σ a0 x1 x2 x3 = q → ∀ (H : Heap) (locs : List Loc) (ls : Array Slot), Ht_ G cy (va_A (wl_ cy ad σ0) sz) s ad σ H locs → lv_has ls 4 [(0, .ref (ad a0)), (1, .ref (ad x1)), (2, .ref (ad x2)), (3, .ref (ad x3))] → W p l e R s m args below meth c H locs 0 0 (MQ below (Qv_ G cy ad σ0 q sz) args s 0 0 (va_A (wl_ cy ad σ0) sz)) (F0 m 0 ls []) := by
  intro σ a0 x1 x2 x3 hE hk_a0 hk_x1 hk_x2 hk_x3 hf H locs ls h hl
  have hf : (ur_ (ur_ (ur_ σ a0 0 (some x1)) a0 1 (some x2)) a0 2 (some x3)) = q := hf
  refine lv_aload_n C.1 C.2.1 dX5_init_0 rfl (lv_at hl 0 rfl) ?_
  refine x_obj C hl ml_RX5_1 (Nat.le_trans (by decide) hR.1) (Nat.le_trans (by decide) hR.2) (Nat.le_of_ble_eq_true rfl) dX5_init_1 ?_
  refine lv_aload_n C.1 C.2.1 dX5_init_4 rfl (lv_at hl 0 rfl) ?_
  refine lv_aload_n C.1 C.2.1 dX5_init_5 rfl (lv_at hl 1 rfl) ?_
  have hE := hE.up (up_r σ a0 0 (some x1) (fun b hb => by cases hb; exact h.lt hk_x1 (by decide)))
  refine x_putRF (v := (some x1)) C K hin h cl_5 hk_a0 0 (by decide) fl_RX5_7 rfl rfl (fun b hb => by cases hb; exact h.lt hk_x1 (by decide)) (rv_nar _ _) (rv_fit _ _ (by decide)) (Nat.le_of_ble_eq_true rfl) (fun _ _ _ => rfl) dX5_init_6 (fun H locs h => ?_)
  refine lv_aload_n C.1 C.2.1 dX5_init_9 rfl (lv_at hl 0 rfl) ?_
  refine lv_aload_n C.1 C.2.1 dX5_init_10 rfl (lv_at hl 2 rfl) ?_
  have hE := hE.up (up_r (ur_ σ a0 0 (some x1)) a0 1 (some x2) (fun b hb => by cases hb; exact h.lt hk_x2 (by decide)))
  refine x_putRF (v := (some x2)) C K hin h cl_5 hk_a0 1 (by decide) fl_RX5_13 rfl rfl (fun b hb => by cases hb; exact h.lt hk_x2 (by decide)) (rv_nar _ _) (rv_fit _ _ (by decide)) (Nat.le_of_ble_eq_true rfl) (fun _ _ _ => rfl) dX5_init_11 (fun H locs h => ?_)
  refine lv_aload_n C.1 C.2.1 dX5_init_14 rfl (lv_at hl 0 rfl) ?_
  refine lv_aload_n C.1 C.2.1 dX5_init_15 rfl (lv_at hl 3 rfl) ?_
  have hE := hE.up (up_r (ur_ (ur_ σ a0 0 (some x1)) a0 1 (some x2)) a0 2 (some x3) (fun b hb => by cases hb; exact h.lt hk_x3 (by decide)))
  refine x_putRF (v := (some x3)) C K hin h cl_5 hk_a0 2 (by decide) fl_RX5_16 rfl rfl (fun b hb => by cases hb; exact h.lt hk_x3 (by decide)) (rv_nar _ _) (rv_fit _ _ (by decide)) (Nat.le_of_ble_eq_true rfl) (fun _ _ _ => rfl) dX5_init_16 (fun H locs h => ?_)
  exact x_rv C hr hlk h hE hf dX5_init_19
theorem c_X5_init (l : Launch) (κ : Ka_) (G : va_G) (cy : Nat → ClassId) (ad : Nat → Nat) (sz : Nat) (σ : St_) (a0 : Nat) (x1 : Nat) (x2 : Nat) (x3 : Nat) (hk_a0 : kd_ σ a0 = 5) (hk_x1 : kd_ σ x1 = 10) (hk_x2 : kd_ σ x2 = 10) (hk_x3 : kd_ σ x3 = 10) {q : St_} (hf : f_X5_init σ a0 x1 x2 x3 = q) : Met l yX5_init (Cond.code yX5_init cX5_init 4 none :: wU_) { frames := 1, cells := 0, slots := 0, locals := 20 } (va_Pc [.ref (ad a0), .ref (ad x1), .ref (ad x2), .ref (ad x3)] (Pr_ κ G cy ad σ sz)) (Qv_ G cy ad σ q sz) 0 0 (va_A (wl_ cy ad σ) sz) :=
  x_met (by decide) (fun p e R s m below meth c ls hR C hr hlk hin _ K h hl => w_X5_init C K hr hlk hin ⟨hR.1, hR.2.1⟩ σ a0 x1 x2 x3 Ex_.rf hk_a0 hk_x1 hk_x2 hk_x3 hf s.heap [] ls h hl) (Nat.le_of_ble_eq_true rfl)
-- X4_init
theorem mi_X4_init : Mi_ yX4_init cX4_init 1 none 0 := ⟨co_yX4_init, in_RX4, by decide, by decide, by decide +kernel⟩
def f_X4_init (σ : St_) (a0 : Nat) : Option St_ := lt_ (sn_ σ) fun b4 => lt_ (nw_ σ 10 (40 : Int32).toNatClampNeg) fun σ2 => some (ui_ (ui_ (ur_ σ2 a0 0 (some b4)) a0 1 (-1 : Int32)) a0 2 (0 : Int32))
set_option maxHeartbeats 4000000 in
set_option maxRecDepth 100000 in
theorem w_X4_init {p : Program} {l : Launch} {e : Env} {R : Room} {s : State} {m : MethodId} {args : Array Value} {below : List Frame} {meth : Method} {c : Code} {κ : Ka_} {G : va_G} {cy : Nat → ClassId} {ad0 : Nat → Nat} {sz : Nat} {σ0 : St_} (C : CallFix p m c cX4_init 1 s args wU_ RX4) (K : Kx_ κ G cy (va_A (wl_ cy ad0 σ0) sz) s) (hr : meth.sig.returnType = none) (hlk : meth.locks = false) (hin : meth.name = "<init>") (hR : 1 ≤ R.frames ∧ 20 ≤ R.locals ∧ 1 ≤ R.cells ∧ 40 ≤ R.slots) {q : St_} : ∀ (ad : Nat → Nat) (σ : St_) (a0 : Nat), Ag_ (sn_ σ0) ad0 ad → Ex_ σ0 σ → kd_ σ a0 = 4 → f_X4_init σ a0 = some q → ∀ (H : Heap) (locs : List Loc) (ls : Array Slot), Ht_ G cy (va_A (wl_ cy ad0 σ0) sz) s ad σ H locs → lv_has ls 1 [(0, .ref (ad a0))] → W p l e R s m args below meth c H locs 0 0 (MQ below (QvA_ G cy ad0 σ0 q sz) args s 1 40 (va_A (wl_ cy ad0 σ0) sz)) (F0 m 0 ls []) := by
  intro ad σ a0 hag hE hk_a0 hf H locs ls h hl
  have hf : (lt_ (sn_ σ) fun b4 => lt_ (nw_ σ 10 (40 : Int32).toNatClampNeg) fun σ2 => some (ui_ (ui_ (ur_ σ2 a0 0 (some b4)) a0 1 (-1 : Int32)) a0 2 (0 : Int32))) = some q := hf
  refine lv_aload_n C.1 C.2.1 dX4_init_0 rfl (lv_at hl 0 rfl) ?_
  refine x_obj C hl ml_RX4_3 (Nat.le_trans (by decide) hR.1) (Nat.le_trans (by decide) hR.2.1) (Nat.le_of_ble_eq_true rfl) dX4_init_1 ?_
  refine lv_aload_n C.1 C.2.1 dX4_init_4 rfl (lv_at hl 0 rfl) ?_
  refine lv_bipush (v := (40 : Int32)) C.1 C.2.1 dX4_init_5 (by decide) ?_
  have ea3 := h.lt hk_a0 (by decide)
  obtain ⟨b4, eb4, hf⟩ := lt_in hf
  obtain ⟨σ2, eσ2, hf⟩ := lt_in hf
  refine x_newa C K h (ty := .int) rfl ac_int 0 10 rfl (fun x hx => by cases hx) (a0 := fun n => (n, .inl fun _ => 0)) (fun _ => rfl) (fun _ _ => rfl) (by decide) (by decide) (Nat.le_trans (by decide) hR.2.2.1) (Nat.le_trans (by decide) hR.2.2.2) dX4_init_7 (fun ad1 H had1 h hX => ?_)
  rw [← eσ2] at h hX
  rw [← eb4]
  rw [← had1 a0 ea3] at hl
  rw [← had1 a0 ea3]
  have hag := hag.trans hE.1 had1
  have hE := hE.trans hX
  have hk_a0 := hX.k hk_a0 (by decide)
  refine W.widen (k := 1) (n := 40) (by decide) (by decide) ?_
  have hk_b4 : kd_ σ2 b4 = 10 := by rw [eσ2, eb4]; exact nw_kd _ _ _
  have hE := hE.up (up_r σ2 a0 0 (some b4) (fun b hb => by cases hb; exact h.lt hk_b4 (by decide)))
  refine x_putRF (v := (some b4)) C K hin h cl_4 hk_a0 0 (by decide) fl_RX4_9 rfl rfl (fun b hb => by cases hb; exact h.lt hk_b4 (by decide)) (rv_nar _ _) (rv_fit _ _ (by decide)) (Nat.le_of_ble_eq_true rfl) (fun _ _ _ => rfl) dX4_init_9 (fun H locs h => ?_)
  refine lv_aload_n C.1 C.2.1 dX4_init_12 rfl (lv_at hl 0 rfl) ?_
  refine lv_iconst (v := (-1 : Int32)) C.1 C.2.1 dX4_init_13 (by decide) ?_
  refine x_putI C K h cl_4 hk_a0 1 (by decide) fl_RX4_15 rfl rfl rfl (Nat.le_of_ble_eq_true rfl) (fun _ _ _ => rfl) dX4_init_14 (fun H locs h => ?_)
  have hE := hE.up (up_i (ur_ σ2 a0 0 (some b4)) a0 1 (-1 : Int32))
  refine lv_aload_n C.1 C.2.1 dX4_init_17 rfl (lv_at hl 0 rfl) ?_
  refine lv_iconst (v := (0 : Int32)) C.1 C.2.1 dX4_init_18 (by decide) ?_
  refine x_putI C K h cl_4 hk_a0 2 (by decide) fl_RX4_19 rfl rfl rfl (Nat.le_of_ble_eq_true rfl) (fun _ _ _ => rfl) dX4_init_19 (fun H locs h => ?_)
  have hE := hE.up (up_i (ui_ (ur_ σ2 a0 0 (some b4)) a0 1 (-1 : Int32)) a0 2 (0 : Int32))
  exact x_rvA (Nat.le_of_ble_eq_true rfl) (Nat.le_of_ble_eq_true rfl) C hr hlk hag h hE (Option.some.inj hf) dX4_init_22
theorem c_X4_init (l : Launch) (κ : Ka_) (G : va_G) (cy : Nat → ClassId) (ad : Nat → Nat) (sz : Nat) (σ : St_) (a0 : Nat) (hk_a0 : kd_ σ a0 = 4) {q : St_} (hf : f_X4_init σ a0 = some q) : Met l yX4_init (Cond.code yX4_init cX4_init 1 none :: wU_) { frames := 1, cells := 1, slots := 40, locals := 20 } (va_Pc [.ref (ad a0)] (Pr_ κ G cy ad σ sz)) (QvA_ G cy ad σ q sz) 1 40 (va_A (wl_ cy ad σ) sz) :=
  x_met (by decide) (fun p e R s m below meth c ls hR C hr hlk hin _ K h hl => w_X4_init C K hr hlk hin hR ad σ a0 Ag_.rf Ex_.rf hk_a0 hf s.heap [] ls h hl) (Nat.le_of_ble_eq_true rfl)
-- X1_init
theorem mi_X1_init : Mi_ yX1_init cX1_init 2 none 0 := ⟨co_yX1_init, in_RX1, by decide, by decide, by decide +kernel⟩
def f_X1_init (fu : Nat) (σ : St_) (a0 : Nat) : Option St_ := lt_ (sn_ σ) fun b4 => lt_ (nw_ σ 13 (4 : Int32).toNatClampNeg) fun σ2 => (dr_ (ur_ σ2 a0 0 (some b4)) 13 (sr_ (ur_ σ2 a0 0 (some b4)) a0 0)).bind fun b5 => if (nI (ln_ (ur_ σ2 a0 0 (some b4)) b5)) ≤ (0 : Int32) then some (ur_ σ2 a0 0 (some b4)) else lt_ (sn_ (ur_ σ2 a0 0 (some b4))) fun b11 => lt_ (nw_ (ur_ σ2 a0 0 (some b4)) 0 0) fun σ8 => (ix_ (0 : Int32) (ln_ (f_X0_init σ8 b11) b5)).bind fun j13 => (dr_ (ur_ (f_X0_init σ8 b11) b5 j13 (some b11)) 13 (sr_ (ur_ (f_X0_init σ8 b11) b5 j13 (some b11)) a0 0)).bind fun b14 => if (nI (ln_ (ur_ (f_X0_init σ8 b11) b5 j13 (some b11)) b14)) ≤ ((0 : Int32) + (1 : Int32)) then some (ur_ (f_X0_init σ8 b11) b5 j13 (some b11)) else lt_ (sn_ (ur_ (f_X0_init σ8 b11) b5 j13 (some b11))) fun b20 => lt_ (nw_ (ur_ (f_X0_init σ8 b11) b5 j13 (some b11)) 0 0) fun σ17 => (ix_ ((0 : Int32) + (1 : Int32)) (ln_ (f_X0_init σ17 b20) b14)).bind fun j22 => (dr_ (ur_ (f_X0_init σ17 b20) b14 j22 (some b20)) 13 (sr_ (ur_ (f_X0_init σ17 b20) b14 j22 (some b20)) a0 0)).bind fun b23 => if (nI (ln_ (ur_ (f_X0_init σ17 b20) b14 j22 (some b20)) b23)) ≤ (((0 : Int32) + (1 : Int32)) + (1 : Int32)) then some (ur_ (f_X0_init σ17 b20) b14 j22 (some b20)) else lt_ (sn_ (ur_ (f_X0_init σ17 b20) b14 j22 (some b20))) fun b29 => lt_ (nw_ (ur_ (f_X0_init σ17 b20) b14 j22 (some b20)) 0 0) fun σ26 => (ix_ (((0 : Int32) + (1 : Int32)) + (1 : Int32)) (ln_ (f_X0_init σ26 b29) b23)).bind fun j31 => (dr_ (ur_ (f_X0_init σ26 b29) b23 j31 (some b29)) 13 (sr_ (ur_ (f_X0_init σ26 b29) b23 j31 (some b29)) a0 0)).bind fun b32 => if (nI (ln_ (ur_ (f_X0_init σ26 b29) b23 j31 (some b29)) b32)) ≤ ((((0 : Int32) + (1 : Int32)) + (1 : Int32)) + (1 : Int32)) then some (ur_ (f_X0_init σ26 b29) b23 j31 (some b29)) else lt_ (sn_ (ur_ (f_X0_init σ26 b29) b23 j31 (some b29))) fun b38 => lt_ (nw_ (ur_ (f_X0_init σ26 b29) b23 j31 (some b29)) 0 0) fun σ35 => (ix_ ((((0 : Int32) + (1 : Int32)) + (1 : Int32)) + (1 : Int32)) (ln_ (f_X0_init σ35 b38) b32)).bind fun j40 => (dr_ (ur_ (f_X0_init σ35 b38) b32 j40 (some b38)) 13 (sr_ (ur_ (f_X0_init σ35 b38) b32 j40 (some b38)) a0 0)).bind fun b41 => if (nI (ln_ (ur_ (f_X0_init σ35 b38) b32 j40 (some b38)) b41)) ≤ (((((0 : Int32) + (1 : Int32)) + (1 : Int32)) + (1 : Int32)) + (1 : Int32)) then some (ur_ (f_X0_init σ35 b38) b32 j40 (some b38)) else lt_ (sn_ (ur_ (f_X0_init σ35 b38) b32 j40 (some b38))) fun b47 => lt_ (nw_ (ur_ (f_X0_init σ35 b38) b32 j40 (some b38)) 0 0) fun σ44 => (ix_ (((((0 : Int32) + (1 : Int32)) + (1 : Int32)) + (1 : Int32)) + (1 : Int32)) (ln_ (f_X0_init σ44 b47) b41)).bind fun j49 => (dr_ (ur_ (f_X0_init σ44 b47) b41 j49 (some b47)) 13 (sr_ (ur_ (f_X0_init σ44 b47) b41 j49 (some b47)) a0 0)).bind fun b50 => if (nI (ln_ (ur_ (f_X0_init σ44 b47) b41 j49 (some b47)) b50)) ≤ ((((((0 : Int32) + (1 : Int32)) + (1 : Int32)) + (1 : Int32)) + (1 : Int32)) + (1 : Int32)) then some (ur_ (f_X0_init σ44 b47) b41 j49 (some b47)) else lt_ (sn_ (ur_ (f_X0_init σ44 b47) b41 j49 (some b47))) fun b56 => lt_ (nw_ (ur_ (f_X0_init σ44 b47) b41 j49 (some b47)) 0 0) fun σ53 => (ix_ ((((((0 : Int32) + (1 : Int32)) + (1 : Int32)) + (1 : Int32)) + (1 : Int32)) + (1 : Int32)) (ln_ (f_X0_init σ53 b56) b50)).bind fun j58 => none
set_option maxHeartbeats 4000000 in
set_option maxRecDepth 100000 in
theorem w_X1_init {p : Program} {l : Launch} {e : Env} {R : Room} {s : State} {m : MethodId} {args : Array Value} {below : List Frame} {meth : Method} {c : Code} {κ : Ka_} {G : va_G} {cy : Nat → ClassId} {ad0 : Nat → Nat} {sz : Nat} {σ0 : St_} (fu : Nat) (C : CallFix p m c cX1_init 2 s args wU_ RX1) (K : Kx_ κ G cy (va_A (wl_ cy ad0 σ0) sz) s) (hr : meth.sig.returnType = none) (hlk : meth.locks = false) (hin : meth.name = "<init>") (hR : 2 ≤ R.frames ∧ 40 ≤ R.locals ∧ 7 ≤ R.cells ∧ 28 ≤ R.slots) {q : St_} : ∀ (ad : Nat → Nat) (σ : St_) (a0 : Nat), Ag_ (sn_ σ0) ad0 ad → Ex_ σ0 σ → kd_ σ a0 = 1 → f_X1_init fu σ a0 = some q → ∀ (H : Heap) (locs : List Loc) (ls : Array Slot), Ht_ G cy (va_A (wl_ cy ad0 σ0) sz) s ad σ H locs → lv_has ls 2 [(0, .ref (ad a0))] → W p l e R s m args below meth c H locs 0 0 (MQ below (QvA_ G cy ad0 σ0 q sz) args s 7 28 (va_A (wl_ cy ad0 σ0) sz)) (F0 m 0 ls []) := by
  intro ad σ a0 hag hE hk_a0 hf H locs ls h hl
  have hf : (lt_ (sn_ σ) fun b4 => lt_ (nw_ σ 13 (4 : Int32).toNatClampNeg) fun σ2 => (dr_ (ur_ σ2 a0 0 (some b4)) 13 (sr_ (ur_ σ2 a0 0 (some b4)) a0 0)).bind fun b5 => if (nI (ln_ (ur_ σ2 a0 0 (some b4)) b5)) ≤ (0 : Int32) then some (ur_ σ2 a0 0 (some b4)) else lt_ (sn_ (ur_ σ2 a0 0 (some b4))) fun b11 => lt_ (nw_ (ur_ σ2 a0 0 (some b4)) 0 0) fun σ8 => (ix_ (0 : Int32) (ln_ (f_X0_init σ8 b11) b5)).bind fun j13 => (dr_ (ur_ (f_X0_init σ8 b11) b5 j13 (some b11)) 13 (sr_ (ur_ (f_X0_init σ8 b11) b5 j13 (some b11)) a0 0)).bind fun b14 => if (nI (ln_ (ur_ (f_X0_init σ8 b11) b5 j13 (some b11)) b14)) ≤ ((0 : Int32) + (1 : Int32)) then some (ur_ (f_X0_init σ8 b11) b5 j13 (some b11)) else lt_ (sn_ (ur_ (f_X0_init σ8 b11) b5 j13 (some b11))) fun b20 => lt_ (nw_ (ur_ (f_X0_init σ8 b11) b5 j13 (some b11)) 0 0) fun σ17 => (ix_ ((0 : Int32) + (1 : Int32)) (ln_ (f_X0_init σ17 b20) b14)).bind fun j22 => (dr_ (ur_ (f_X0_init σ17 b20) b14 j22 (some b20)) 13 (sr_ (ur_ (f_X0_init σ17 b20) b14 j22 (some b20)) a0 0)).bind fun b23 => if (nI (ln_ (ur_ (f_X0_init σ17 b20) b14 j22 (some b20)) b23)) ≤ (((0 : Int32) + (1 : Int32)) + (1 : Int32)) then some (ur_ (f_X0_init σ17 b20) b14 j22 (some b20)) else lt_ (sn_ (ur_ (f_X0_init σ17 b20) b14 j22 (some b20))) fun b29 => lt_ (nw_ (ur_ (f_X0_init σ17 b20) b14 j22 (some b20)) 0 0) fun σ26 => (ix_ (((0 : Int32) + (1 : Int32)) + (1 : Int32)) (ln_ (f_X0_init σ26 b29) b23)).bind fun j31 => (dr_ (ur_ (f_X0_init σ26 b29) b23 j31 (some b29)) 13 (sr_ (ur_ (f_X0_init σ26 b29) b23 j31 (some b29)) a0 0)).bind fun b32 => if (nI (ln_ (ur_ (f_X0_init σ26 b29) b23 j31 (some b29)) b32)) ≤ ((((0 : Int32) + (1 : Int32)) + (1 : Int32)) + (1 : Int32)) then some (ur_ (f_X0_init σ26 b29) b23 j31 (some b29)) else lt_ (sn_ (ur_ (f_X0_init σ26 b29) b23 j31 (some b29))) fun b38 => lt_ (nw_ (ur_ (f_X0_init σ26 b29) b23 j31 (some b29)) 0 0) fun σ35 => (ix_ ((((0 : Int32) + (1 : Int32)) + (1 : Int32)) + (1 : Int32)) (ln_ (f_X0_init σ35 b38) b32)).bind fun j40 => (dr_ (ur_ (f_X0_init σ35 b38) b32 j40 (some b38)) 13 (sr_ (ur_ (f_X0_init σ35 b38) b32 j40 (some b38)) a0 0)).bind fun b41 => if (nI (ln_ (ur_ (f_X0_init σ35 b38) b32 j40 (some b38)) b41)) ≤ (((((0 : Int32) + (1 : Int32)) + (1 : Int32)) + (1 : Int32)) + (1 : Int32)) then some (ur_ (f_X0_init σ35 b38) b32 j40 (some b38)) else lt_ (sn_ (ur_ (f_X0_init σ35 b38) b32 j40 (some b38))) fun b47 => lt_ (nw_ (ur_ (f_X0_init σ35 b38) b32 j40 (some b38)) 0 0) fun σ44 => (ix_ (((((0 : Int32) + (1 : Int32)) + (1 : Int32)) + (1 : Int32)) + (1 : Int32)) (ln_ (f_X0_init σ44 b47) b41)).bind fun j49 => (dr_ (ur_ (f_X0_init σ44 b47) b41 j49 (some b47)) 13 (sr_ (ur_ (f_X0_init σ44 b47) b41 j49 (some b47)) a0 0)).bind fun b50 => if (nI (ln_ (ur_ (f_X0_init σ44 b47) b41 j49 (some b47)) b50)) ≤ ((((((0 : Int32) + (1 : Int32)) + (1 : Int32)) + (1 : Int32)) + (1 : Int32)) + (1 : Int32)) then some (ur_ (f_X0_init σ44 b47) b41 j49 (some b47)) else lt_ (sn_ (ur_ (f_X0_init σ44 b47) b41 j49 (some b47))) fun b56 => lt_ (nw_ (ur_ (f_X0_init σ44 b47) b41 j49 (some b47)) 0 0) fun σ53 => (ix_ ((((((0 : Int32) + (1 : Int32)) + (1 : Int32)) + (1 : Int32)) + (1 : Int32)) + (1 : Int32)) (ln_ (f_X0_init σ53 b56) b50)).bind fun j58 => none) = some q := hf
  refine lv_aload_n C.1 C.2.1 dX1_init_0 rfl (lv_at hl 0 rfl) ?_
  refine x_obj C hl ml_RX1_3 (Nat.le_trans (by decide) hR.1) (Nat.le_trans (by decide) hR.2.1) (Nat.le_of_ble_eq_true rfl) dX1_init_1 ?_
  refine lv_aload_n C.1 C.2.1 dX1_init_4 rfl (lv_at hl 0 rfl) ?_
  refine lv_iconst (v := (4 : Int32)) C.1 C.2.1 dX1_init_5 (by decide) ?_
  have ea3 := h.lt hk_a0 (by decide)
  obtain ⟨b4, eb4, hf⟩ := lt_in hf
  obtain ⟨σ2, eσ2, hf⟩ := lt_in hf
  refine x_newq C K h kl_RX1_9 K.2.1.2.2.1 3 13 rfl (fun _ => rfl) (by decide) (by decide) (Nat.le_trans (by decide) hR.2.2.1) (Nat.le_trans (by decide) hR.2.2.2) dX1_init_6 (fun ad1 H had1 h hX => ?_)
  rw [← eσ2] at h hX
  rw [← eb4]
  rw [← had1 a0 ea3] at hl
  rw [← had1 a0 ea3]
  have hag := hag.trans hE.1 had1
  have hE := hE.trans hX
  have hk_a0 := hX.k hk_a0 (by decide)
  refine W.widen (k := 1) (n := 4) (by decide) (by decide) ?_
  have hk_b4 : kd_ σ2 b4 = 13 := by rw [eσ2, eb4]; exact nw_kd _ _ _
  have hE := hE.up (up_r σ2 a0 0 (some b4) (fun b hb => by cases hb; exact h.lt hk_b4 (by decide)))
  refine x_putRF (v := (some b4)) C K hin h cl_1 hk_a0 0 (by decide) fl_RX1_11 rfl rfl (fun b hb => by cases hb; exact h.lt hk_b4 (by decide)) (rv_nar _ _) (rv_fit _ _ (by decide)) (Nat.le_of_ble_eq_true rfl) (fun _ _ _ => rfl) dX1_init_9 (fun H locs h => ?_)
  refine lv_iconst (v := (0 : Int32)) C.1 C.2.1 dX1_init_12 (by decide) ?_
  refine lv_istore_n (i := 1) (lv' := [(1, .int (0 : Int32)), (0, .ref (ad1 a0))]) C.1 C.2.1 dX1_init_13 rfl hl (by decide) rfl (fun ls hl => ?_)
  refine lv_iload_n C.1 C.2.1 dX1_init_14 rfl (lv_at hl 0 rfl) ?_
  refine lv_aload_n C.1 C.2.1 dX1_init_15 rfl (lv_at hl 1 rfl) ?_
  obtain ⟨b5, hb_b5, hf⟩ := ob_ hf
  obtain ⟨hq_b5, hk_b5⟩ := dr_in hb_b5
  refine x_get (v := .ref (ad1 b5)) C K h cl_1 hk_a0 0 (by decide) fl_RX1_11 (hv_r (o := sr_ (ur_ σ2 a0 0 (some b4)) a0 0) rfl hq_b5) dX1_init_16 ?_
  refine x_rlen C K h 3 (by decide) rfl (fun _ _ _ _ => rfl) hk_b5 dX1_init_19 ?_
  refine lv_icmp_ge (tgt := 42) C.1 C.2.1 dX1_init_20 (by decide) (fun c6 => ?_) (fun c6 => ?_)
  · have hf := if_t hf c6
    exact x_rvA (Nat.le_of_ble_eq_true rfl) (Nat.le_of_ble_eq_true rfl) C hr hlk hag h hE (Option.some.inj hf) dX1_init_42
  · have hf := if_f hf c6
    refine lv_aload_n C.1 C.2.1 dX1_init_23 rfl (lv_at hl 1 rfl) ?_
    refine x_get (v := .ref (ad1 b5)) C K h cl_1 hk_a0 0 (by decide) fl_RX1_11 (hv_r (o := sr_ (ur_ σ2 a0 0 (some b4)) a0 0) rfl hq_b5) dX1_init_24 ?_
    refine lv_iload_n C.1 C.2.1 dX1_init_27 rfl (lv_at hl 0 rfl) ?_
    have ea9 := h.lt hk_a0 (by decide)
    have ea10 := h.lt hk_b5 (by decide)
    obtain ⟨b11, eb11, hf⟩ := lt_in hf
    obtain ⟨σ8, eσ8, hf⟩ := lt_in hf
    refine x_new C K h cl_0 kl_RX1_9 it_RX0 in_RX0 (fun j hj => by rcases (show j = 0 ∨ j = 1 ∨ j = 2 ∨ j = 3 by omega) with rfl | rfl | rfl | rfl <;> rfl) (Nat.le_trans (by decide) hR.2.2.1) (Nat.le_trans (by decide) hR.2.2.2) dX1_init_28 (fun ad7 H had7 h hX => ?_)
    rw [← eσ8] at h hX
    rw [← eb11]
    rw [← had7 a0 ea9] at hl
    rw [← had7 b5 ea10]
    have hag := hag.trans hE.1 had7
    have hE := hE.trans hX
    have hk_a0 := hX.k hk_a0 (by decide)
    have hk_b5 := hX.k hk_b5 (by decide)
    refine W.widen (k := 2) (n := 8) (by decide) (by decide) ?_
    have hk_b11 : kd_ σ8 b11 = 0 := by rw [eσ8, eb11]; exact nw_kd _ _ _
    refine lv_dup C.1 C.2.1 dX1_init_31 rfl ?_
    refine x_av K h (x_IN C K h [] (c_X0_init l κ G cy ad7 H.size σ8 b11 hk_b11 rfl) mi_X0_init rfl rfl im_yX0_init nm_RX1_17 ⟨rfl, rfl, Nat.le_trans (Nat.le_of_ble_eq_true rfl) hR.1, Nat.le_trans (Nat.le_of_ble_eq_true rfl) hR.2.1⟩ hl (Nat.le_of_ble_eq_true rfl) dX1_init_32 ⟨Nat.le_trans (by decide) hR.2.2.1, Nat.le_trans (by decide) hR.2.2.2⟩ rfl) (fun H locs h hX => ?_)
    have hE := hE.trans hX
    have hk_a0 := hX.k hk_a0 (by decide)
    have hk_b5 := hX.k hk_b5 (by decide)
    have hk_b11 := hX.k hk_b11 (by decide)
    obtain ⟨j13, hj_j13, hf⟩ := ob_ hf
    have hEn := hE.up (up_r (f_X0_init σ8 b11) b5 j13 (some b11) (fun z hz => by cases hz; exact h.lt hk_b11 (by decide)))
    have hE := hEn
    refine x_aast C K h 3 (by decide) rfl (fun _ _ _ _ => rfl) cl_0 hk_b5 hk_b11 hj_j13 dX1_init_35 (fun H locs h => ?_)
    refine lv_iinc (v := (0 : Int32) + (1 : Int32)) (lv' := [(1, .int ((0 : Int32) + (1 : Int32))), (0, .ref (ad7 a0))]) C.1 C.2.1 dX1_init_36 hl (k := 0) rfl rfl (by decide) rfl (fun ls hl => ?_)
    refine lv_goto (tgt := 14) C.1 C.2.1 dX1_init_39 (by decide) ?_
    refine lv_iload_n C.1 C.2.1 dX1_init_14 rfl (lv_at hl 0 rfl) ?_
    refine lv_aload_n C.1 C.2.1 dX1_init_15 rfl (lv_at hl 1 rfl) ?_
    obtain ⟨b14, hb_b14, hf⟩ := ob_ hf
    obtain ⟨hq_b14, hk_b14⟩ := dr_in hb_b14
    refine x_get (v := .ref (ad7 b14)) C K h cl_1 hk_a0 0 (by decide) fl_RX1_11 (hv_r (o := sr_ (ur_ (f_X0_init σ8 b11) b5 j13 (some b11)) a0 0) rfl hq_b14) dX1_init_16 ?_
    refine x_rlen C K h 3 (by decide) rfl (fun _ _ _ _ => rfl) hk_b14 dX1_init_19 ?_
    refine lv_icmp_ge (tgt := 42) C.1 C.2.1 dX1_init_20 (by decide) (fun c15 => ?_) (fun c15 => ?_)
    · have hf := if_t hf c15
      exact x_rvA (Nat.le_of_ble_eq_true rfl) (Nat.le_of_ble_eq_true rfl) C hr hlk hag h hE (Option.some.inj hf) dX1_init_42
    · have hf := if_f hf c15
      refine lv_aload_n C.1 C.2.1 dX1_init_23 rfl (lv_at hl 1 rfl) ?_
      refine x_get (v := .ref (ad7 b14)) C K h cl_1 hk_a0 0 (by decide) fl_RX1_11 (hv_r (o := sr_ (ur_ (f_X0_init σ8 b11) b5 j13 (some b11)) a0 0) rfl hq_b14) dX1_init_24 ?_
      refine lv_iload_n C.1 C.2.1 dX1_init_27 rfl (lv_at hl 0 rfl) ?_
      have ea18 := h.lt hk_a0 (by decide)
      have ea19 := h.lt hk_b14 (by decide)
      obtain ⟨b20, eb20, hf⟩ := lt_in hf
      obtain ⟨σ17, eσ17, hf⟩ := lt_in hf
      refine x_new C K h cl_0 kl_RX1_9 it_RX0 in_RX0 (fun j hj => by rcases (show j = 0 ∨ j = 1 ∨ j = 2 ∨ j = 3 by omega) with rfl | rfl | rfl | rfl <;> rfl) (Nat.le_trans (by decide) hR.2.2.1) (Nat.le_trans (by decide) hR.2.2.2) dX1_init_28 (fun ad16 H had16 h hX => ?_)
      rw [← eσ17] at h hX
      rw [← eb20]
      rw [← had16 a0 ea18] at hl
      rw [← had16 b14 ea19]
      have hag := hag.trans hE.1 had16
      have hE := hE.trans hX
      have hk_a0 := hX.k hk_a0 (by decide)
      have hk_b14 := hX.k hk_b14 (by decide)
      refine W.widen (k := 3) (n := 12) (by decide) (by decide) ?_
      have hk_b20 : kd_ σ17 b20 = 0 := by rw [eσ17, eb20]; exact nw_kd _ _ _
      refine lv_dup C.1 C.2.1 dX1_init_31 rfl ?_
      refine x_av K h (x_IN C K h [] (c_X0_init l κ G cy ad16 H.size σ17 b20 hk_b20 rfl) mi_X0_init rfl rfl im_yX0_init nm_RX1_17 ⟨rfl, rfl, Nat.le_trans (Nat.le_of_ble_eq_true rfl) hR.1, Nat.le_trans (Nat.le_of_ble_eq_true rfl) hR.2.1⟩ hl (Nat.le_of_ble_eq_true rfl) dX1_init_32 ⟨Nat.le_trans (by decide) hR.2.2.1, Nat.le_trans (by decide) hR.2.2.2⟩ rfl) (fun H locs h hX => ?_)
      have hE := hE.trans hX
      have hk_a0 := hX.k hk_a0 (by decide)
      have hk_b14 := hX.k hk_b14 (by decide)
      have hk_b20 := hX.k hk_b20 (by decide)
      obtain ⟨j22, hj_j22, hf⟩ := ob_ hf
      have hEn := hE.up (up_r (f_X0_init σ17 b20) b14 j22 (some b20) (fun z hz => by cases hz; exact h.lt hk_b20 (by decide)))
      have hE := hEn
      refine x_aast C K h 3 (by decide) rfl (fun _ _ _ _ => rfl) cl_0 hk_b14 hk_b20 hj_j22 dX1_init_35 (fun H locs h => ?_)
      refine lv_iinc (v := ((0 : Int32) + (1 : Int32)) + (1 : Int32)) (lv' := [(1, .int (((0 : Int32) + (1 : Int32)) + (1 : Int32))), (0, .ref (ad16 a0))]) C.1 C.2.1 dX1_init_36 hl (k := 0) rfl rfl (by decide) rfl (fun ls hl => ?_)
      refine lv_goto (tgt := 14) C.1 C.2.1 dX1_init_39 (by decide) ?_
      refine lv_iload_n C.1 C.2.1 dX1_init_14 rfl (lv_at hl 0 rfl) ?_
      refine lv_aload_n C.1 C.2.1 dX1_init_15 rfl (lv_at hl 1 rfl) ?_
      obtain ⟨b23, hb_b23, hf⟩ := ob_ hf
      obtain ⟨hq_b23, hk_b23⟩ := dr_in hb_b23
      refine x_get (v := .ref (ad16 b23)) C K h cl_1 hk_a0 0 (by decide) fl_RX1_11 (hv_r (o := sr_ (ur_ (f_X0_init σ17 b20) b14 j22 (some b20)) a0 0) rfl hq_b23) dX1_init_16 ?_
      refine x_rlen C K h 3 (by decide) rfl (fun _ _ _ _ => rfl) hk_b23 dX1_init_19 ?_
      refine lv_icmp_ge (tgt := 42) C.1 C.2.1 dX1_init_20 (by decide) (fun c24 => ?_) (fun c24 => ?_)
      · have hf := if_t hf c24
        exact x_rvA (Nat.le_of_ble_eq_true rfl) (Nat.le_of_ble_eq_true rfl) C hr hlk hag h hE (Option.some.inj hf) dX1_init_42
      · have hf := if_f hf c24
        refine lv_aload_n C.1 C.2.1 dX1_init_23 rfl (lv_at hl 1 rfl) ?_
        refine x_get (v := .ref (ad16 b23)) C K h cl_1 hk_a0 0 (by decide) fl_RX1_11 (hv_r (o := sr_ (ur_ (f_X0_init σ17 b20) b14 j22 (some b20)) a0 0) rfl hq_b23) dX1_init_24 ?_
        refine lv_iload_n C.1 C.2.1 dX1_init_27 rfl (lv_at hl 0 rfl) ?_
        have ea27 := h.lt hk_a0 (by decide)
        have ea28 := h.lt hk_b23 (by decide)
        obtain ⟨b29, eb29, hf⟩ := lt_in hf
        obtain ⟨σ26, eσ26, hf⟩ := lt_in hf
        refine x_new C K h cl_0 kl_RX1_9 it_RX0 in_RX0 (fun j hj => by rcases (show j = 0 ∨ j = 1 ∨ j = 2 ∨ j = 3 by omega) with rfl | rfl | rfl | rfl <;> rfl) (Nat.le_trans (by decide) hR.2.2.1) (Nat.le_trans (by decide) hR.2.2.2) dX1_init_28 (fun ad25 H had25 h hX => ?_)
        rw [← eσ26] at h hX
        rw [← eb29]
        rw [← had25 a0 ea27] at hl
        rw [← had25 b23 ea28]
        have hag := hag.trans hE.1 had25
        have hE := hE.trans hX
        have hk_a0 := hX.k hk_a0 (by decide)
        have hk_b23 := hX.k hk_b23 (by decide)
        refine W.widen (k := 4) (n := 16) (by decide) (by decide) ?_
        have hk_b29 : kd_ σ26 b29 = 0 := by rw [eσ26, eb29]; exact nw_kd _ _ _
        refine lv_dup C.1 C.2.1 dX1_init_31 rfl ?_
        refine x_av K h (x_IN C K h [] (c_X0_init l κ G cy ad25 H.size σ26 b29 hk_b29 rfl) mi_X0_init rfl rfl im_yX0_init nm_RX1_17 ⟨rfl, rfl, Nat.le_trans (Nat.le_of_ble_eq_true rfl) hR.1, Nat.le_trans (Nat.le_of_ble_eq_true rfl) hR.2.1⟩ hl (Nat.le_of_ble_eq_true rfl) dX1_init_32 ⟨Nat.le_trans (by decide) hR.2.2.1, Nat.le_trans (by decide) hR.2.2.2⟩ rfl) (fun H locs h hX => ?_)
        have hE := hE.trans hX
        have hk_a0 := hX.k hk_a0 (by decide)
        have hk_b23 := hX.k hk_b23 (by decide)
        have hk_b29 := hX.k hk_b29 (by decide)
        obtain ⟨j31, hj_j31, hf⟩ := ob_ hf
        have hEn := hE.up (up_r (f_X0_init σ26 b29) b23 j31 (some b29) (fun z hz => by cases hz; exact h.lt hk_b29 (by decide)))
        have hE := hEn
        refine x_aast C K h 3 (by decide) rfl (fun _ _ _ _ => rfl) cl_0 hk_b23 hk_b29 hj_j31 dX1_init_35 (fun H locs h => ?_)
        refine lv_iinc (v := (((0 : Int32) + (1 : Int32)) + (1 : Int32)) + (1 : Int32)) (lv' := [(1, .int ((((0 : Int32) + (1 : Int32)) + (1 : Int32)) + (1 : Int32))), (0, .ref (ad25 a0))]) C.1 C.2.1 dX1_init_36 hl (k := 0) rfl rfl (by decide) rfl (fun ls hl => ?_)
        refine lv_goto (tgt := 14) C.1 C.2.1 dX1_init_39 (by decide) ?_
        refine lv_iload_n C.1 C.2.1 dX1_init_14 rfl (lv_at hl 0 rfl) ?_
        refine lv_aload_n C.1 C.2.1 dX1_init_15 rfl (lv_at hl 1 rfl) ?_
        obtain ⟨b32, hb_b32, hf⟩ := ob_ hf
        obtain ⟨hq_b32, hk_b32⟩ := dr_in hb_b32
        refine x_get (v := .ref (ad25 b32)) C K h cl_1 hk_a0 0 (by decide) fl_RX1_11 (hv_r (o := sr_ (ur_ (f_X0_init σ26 b29) b23 j31 (some b29)) a0 0) rfl hq_b32) dX1_init_16 ?_
        refine x_rlen C K h 3 (by decide) rfl (fun _ _ _ _ => rfl) hk_b32 dX1_init_19 ?_
        refine lv_icmp_ge (tgt := 42) C.1 C.2.1 dX1_init_20 (by decide) (fun c33 => ?_) (fun c33 => ?_)
        · have hf := if_t hf c33
          exact x_rvA (Nat.le_of_ble_eq_true rfl) (Nat.le_of_ble_eq_true rfl) C hr hlk hag h hE (Option.some.inj hf) dX1_init_42
        · have hf := if_f hf c33
          refine lv_aload_n C.1 C.2.1 dX1_init_23 rfl (lv_at hl 1 rfl) ?_
          refine x_get (v := .ref (ad25 b32)) C K h cl_1 hk_a0 0 (by decide) fl_RX1_11 (hv_r (o := sr_ (ur_ (f_X0_init σ26 b29) b23 j31 (some b29)) a0 0) rfl hq_b32) dX1_init_24 ?_
          refine lv_iload_n C.1 C.2.1 dX1_init_27 rfl (lv_at hl 0 rfl) ?_
          have ea36 := h.lt hk_a0 (by decide)
          have ea37 := h.lt hk_b32 (by decide)
          obtain ⟨b38, eb38, hf⟩ := lt_in hf
          obtain ⟨σ35, eσ35, hf⟩ := lt_in hf
          refine x_new C K h cl_0 kl_RX1_9 it_RX0 in_RX0 (fun j hj => by rcases (show j = 0 ∨ j = 1 ∨ j = 2 ∨ j = 3 by omega) with rfl | rfl | rfl | rfl <;> rfl) (Nat.le_trans (by decide) hR.2.2.1) (Nat.le_trans (by decide) hR.2.2.2) dX1_init_28 (fun ad34 H had34 h hX => ?_)
          rw [← eσ35] at h hX
          rw [← eb38]
          rw [← had34 a0 ea36] at hl
          rw [← had34 b32 ea37]
          have hag := hag.trans hE.1 had34
          have hE := hE.trans hX
          have hk_a0 := hX.k hk_a0 (by decide)
          have hk_b32 := hX.k hk_b32 (by decide)
          refine W.widen (k := 5) (n := 20) (by decide) (by decide) ?_
          have hk_b38 : kd_ σ35 b38 = 0 := by rw [eσ35, eb38]; exact nw_kd _ _ _
          refine lv_dup C.1 C.2.1 dX1_init_31 rfl ?_
          refine x_av K h (x_IN C K h [] (c_X0_init l κ G cy ad34 H.size σ35 b38 hk_b38 rfl) mi_X0_init rfl rfl im_yX0_init nm_RX1_17 ⟨rfl, rfl, Nat.le_trans (Nat.le_of_ble_eq_true rfl) hR.1, Nat.le_trans (Nat.le_of_ble_eq_true rfl) hR.2.1⟩ hl (Nat.le_of_ble_eq_true rfl) dX1_init_32 ⟨Nat.le_trans (by decide) hR.2.2.1, Nat.le_trans (by decide) hR.2.2.2⟩ rfl) (fun H locs h hX => ?_)
          have hE := hE.trans hX
          have hk_a0 := hX.k hk_a0 (by decide)
          have hk_b32 := hX.k hk_b32 (by decide)
          have hk_b38 := hX.k hk_b38 (by decide)
          obtain ⟨j40, hj_j40, hf⟩ := ob_ hf
          have hEn := hE.up (up_r (f_X0_init σ35 b38) b32 j40 (some b38) (fun z hz => by cases hz; exact h.lt hk_b38 (by decide)))
          have hE := hEn
          refine x_aast C K h 3 (by decide) rfl (fun _ _ _ _ => rfl) cl_0 hk_b32 hk_b38 hj_j40 dX1_init_35 (fun H locs h => ?_)
          refine lv_iinc (v := ((((0 : Int32) + (1 : Int32)) + (1 : Int32)) + (1 : Int32)) + (1 : Int32)) (lv' := [(1, .int (((((0 : Int32) + (1 : Int32)) + (1 : Int32)) + (1 : Int32)) + (1 : Int32))), (0, .ref (ad34 a0))]) C.1 C.2.1 dX1_init_36 hl (k := 0) rfl rfl (by decide) rfl (fun ls hl => ?_)
          refine lv_goto (tgt := 14) C.1 C.2.1 dX1_init_39 (by decide) ?_
          refine lv_iload_n C.1 C.2.1 dX1_init_14 rfl (lv_at hl 0 rfl) ?_
          refine lv_aload_n C.1 C.2.1 dX1_init_15 rfl (lv_at hl 1 rfl) ?_
          obtain ⟨b41, hb_b41, hf⟩ := ob_ hf
          obtain ⟨hq_b41, hk_b41⟩ := dr_in hb_b41
          refine x_get (v := .ref (ad34 b41)) C K h cl_1 hk_a0 0 (by decide) fl_RX1_11 (hv_r (o := sr_ (ur_ (f_X0_init σ35 b38) b32 j40 (some b38)) a0 0) rfl hq_b41) dX1_init_16 ?_
          refine x_rlen C K h 3 (by decide) rfl (fun _ _ _ _ => rfl) hk_b41 dX1_init_19 ?_
          refine lv_icmp_ge (tgt := 42) C.1 C.2.1 dX1_init_20 (by decide) (fun c42 => ?_) (fun c42 => ?_)
          · have hf := if_t hf c42
            exact x_rvA (Nat.le_of_ble_eq_true rfl) (Nat.le_of_ble_eq_true rfl) C hr hlk hag h hE (Option.some.inj hf) dX1_init_42
          · have hf := if_f hf c42
            refine lv_aload_n C.1 C.2.1 dX1_init_23 rfl (lv_at hl 1 rfl) ?_
            refine x_get (v := .ref (ad34 b41)) C K h cl_1 hk_a0 0 (by decide) fl_RX1_11 (hv_r (o := sr_ (ur_ (f_X0_init σ35 b38) b32 j40 (some b38)) a0 0) rfl hq_b41) dX1_init_24 ?_
            refine lv_iload_n C.1 C.2.1 dX1_init_27 rfl (lv_at hl 0 rfl) ?_
            have ea45 := h.lt hk_a0 (by decide)
            have ea46 := h.lt hk_b41 (by decide)
            obtain ⟨b47, eb47, hf⟩ := lt_in hf
            obtain ⟨σ44, eσ44, hf⟩ := lt_in hf
            refine x_new C K h cl_0 kl_RX1_9 it_RX0 in_RX0 (fun j hj => by rcases (show j = 0 ∨ j = 1 ∨ j = 2 ∨ j = 3 by omega) with rfl | rfl | rfl | rfl <;> rfl) (Nat.le_trans (by decide) hR.2.2.1) (Nat.le_trans (by decide) hR.2.2.2) dX1_init_28 (fun ad43 H had43 h hX => ?_)
            rw [← eσ44] at h hX
            rw [← eb47]
            rw [← had43 a0 ea45] at hl
            rw [← had43 b41 ea46]
            have hag := hag.trans hE.1 had43
            have hE := hE.trans hX
            have hk_a0 := hX.k hk_a0 (by decide)
            have hk_b41 := hX.k hk_b41 (by decide)
            refine W.widen (k := 6) (n := 24) (by decide) (by decide) ?_
            have hk_b47 : kd_ σ44 b47 = 0 := by rw [eσ44, eb47]; exact nw_kd _ _ _
            refine lv_dup C.1 C.2.1 dX1_init_31 rfl ?_
            refine x_av K h (x_IN C K h [] (c_X0_init l κ G cy ad43 H.size σ44 b47 hk_b47 rfl) mi_X0_init rfl rfl im_yX0_init nm_RX1_17 ⟨rfl, rfl, Nat.le_trans (Nat.le_of_ble_eq_true rfl) hR.1, Nat.le_trans (Nat.le_of_ble_eq_true rfl) hR.2.1⟩ hl (Nat.le_of_ble_eq_true rfl) dX1_init_32 ⟨Nat.le_trans (by decide) hR.2.2.1, Nat.le_trans (by decide) hR.2.2.2⟩ rfl) (fun H locs h hX => ?_)
            have hE := hE.trans hX
            have hk_a0 := hX.k hk_a0 (by decide)
            have hk_b41 := hX.k hk_b41 (by decide)
            have hk_b47 := hX.k hk_b47 (by decide)
            obtain ⟨j49, hj_j49, hf⟩ := ob_ hf
            have hEn := hE.up (up_r (f_X0_init σ44 b47) b41 j49 (some b47) (fun z hz => by cases hz; exact h.lt hk_b47 (by decide)))
            have hE := hEn
            refine x_aast C K h 3 (by decide) rfl (fun _ _ _ _ => rfl) cl_0 hk_b41 hk_b47 hj_j49 dX1_init_35 (fun H locs h => ?_)
            refine lv_iinc (v := (((((0 : Int32) + (1 : Int32)) + (1 : Int32)) + (1 : Int32)) + (1 : Int32)) + (1 : Int32)) (lv' := [(1, .int ((((((0 : Int32) + (1 : Int32)) + (1 : Int32)) + (1 : Int32)) + (1 : Int32)) + (1 : Int32))), (0, .ref (ad43 a0))]) C.1 C.2.1 dX1_init_36 hl (k := 0) rfl rfl (by decide) rfl (fun ls hl => ?_)
            refine lv_goto (tgt := 14) C.1 C.2.1 dX1_init_39 (by decide) ?_
            refine lv_iload_n C.1 C.2.1 dX1_init_14 rfl (lv_at hl 0 rfl) ?_
            refine lv_aload_n C.1 C.2.1 dX1_init_15 rfl (lv_at hl 1 rfl) ?_
            obtain ⟨b50, hb_b50, hf⟩ := ob_ hf
            obtain ⟨hq_b50, hk_b50⟩ := dr_in hb_b50
            refine x_get (v := .ref (ad43 b50)) C K h cl_1 hk_a0 0 (by decide) fl_RX1_11 (hv_r (o := sr_ (ur_ (f_X0_init σ44 b47) b41 j49 (some b47)) a0 0) rfl hq_b50) dX1_init_16 ?_
            refine x_rlen C K h 3 (by decide) rfl (fun _ _ _ _ => rfl) hk_b50 dX1_init_19 ?_
            refine lv_icmp_ge (tgt := 42) C.1 C.2.1 dX1_init_20 (by decide) (fun c51 => ?_) (fun c51 => ?_)
            · have hf := if_t hf c51
              exact x_rvA (Nat.le_of_ble_eq_true rfl) (Nat.le_of_ble_eq_true rfl) C hr hlk hag h hE (Option.some.inj hf) dX1_init_42
            · have hf := if_f hf c51
              refine lv_aload_n C.1 C.2.1 dX1_init_23 rfl (lv_at hl 1 rfl) ?_
              refine x_get (v := .ref (ad43 b50)) C K h cl_1 hk_a0 0 (by decide) fl_RX1_11 (hv_r (o := sr_ (ur_ (f_X0_init σ44 b47) b41 j49 (some b47)) a0 0) rfl hq_b50) dX1_init_24 ?_
              refine lv_iload_n C.1 C.2.1 dX1_init_27 rfl (lv_at hl 0 rfl) ?_
              have ea54 := h.lt hk_a0 (by decide)
              have ea55 := h.lt hk_b50 (by decide)
              obtain ⟨b56, eb56, hf⟩ := lt_in hf
              obtain ⟨σ53, eσ53, hf⟩ := lt_in hf
              refine x_new C K h cl_0 kl_RX1_9 it_RX0 in_RX0 (fun j hj => by rcases (show j = 0 ∨ j = 1 ∨ j = 2 ∨ j = 3 by omega) with rfl | rfl | rfl | rfl <;> rfl) (Nat.le_trans (by decide) hR.2.2.1) (Nat.le_trans (by decide) hR.2.2.2) dX1_init_28 (fun ad52 H had52 h hX => ?_)
              rw [← eσ53] at h hX
              rw [← eb56]
              rw [← had52 a0 ea54] at hl
              rw [← had52 b50 ea55]
              have hag := hag.trans hE.1 had52
              have hE := hE.trans hX
              have hk_a0 := hX.k hk_a0 (by decide)
              have hk_b50 := hX.k hk_b50 (by decide)
              refine W.widen (k := 7) (n := 28) (by decide) (by decide) ?_
              have hk_b56 : kd_ σ53 b56 = 0 := by rw [eσ53, eb56]; exact nw_kd _ _ _
              refine lv_dup C.1 C.2.1 dX1_init_31 rfl ?_
              refine x_av K h (x_IN C K h [] (c_X0_init l κ G cy ad52 H.size σ53 b56 hk_b56 rfl) mi_X0_init rfl rfl im_yX0_init nm_RX1_17 ⟨rfl, rfl, Nat.le_trans (Nat.le_of_ble_eq_true rfl) hR.1, Nat.le_trans (Nat.le_of_ble_eq_true rfl) hR.2.1⟩ hl (Nat.le_of_ble_eq_true rfl) dX1_init_32 ⟨Nat.le_trans (by decide) hR.2.2.1, Nat.le_trans (by decide) hR.2.2.2⟩ rfl) (fun H locs h hX => ?_)
              have hE := hE.trans hX
              have hk_a0 := hX.k hk_a0 (by decide)
              have hk_b50 := hX.k hk_b50 (by decide)
              have hk_b56 := hX.k hk_b56 (by decide)
              obtain ⟨j58, hj_j58, hf⟩ := ob_ hf
              have hEn := hE.up (up_r (f_X0_init σ53 b56) b50 j58 (some b56) (fun z hz => by cases hz; exact h.lt hk_b56 (by decide)))
              have hE := hEn
              refine x_aast C K h 3 (by decide) rfl (fun _ _ _ _ => rfl) cl_0 hk_b50 hk_b56 hj_j58 dX1_init_35 (fun H locs h => ?_)
              refine lv_iinc (v := ((((((0 : Int32) + (1 : Int32)) + (1 : Int32)) + (1 : Int32)) + (1 : Int32)) + (1 : Int32)) + (1 : Int32)) (lv' := [(1, .int (((((((0 : Int32) + (1 : Int32)) + (1 : Int32)) + (1 : Int32)) + (1 : Int32)) + (1 : Int32)) + (1 : Int32))), (0, .ref (ad52 a0))]) C.1 C.2.1 dX1_init_36 hl (k := 0) rfl rfl (by decide) rfl (fun ls hl => ?_)
              refine lv_goto (tgt := 14) C.1 C.2.1 dX1_init_39 (by decide) ?_
              cases hf
theorem c_X1_init (fu : Nat) (l : Launch) (κ : Ka_) (G : va_G) (cy : Nat → ClassId) (ad : Nat → Nat) (sz : Nat) (σ : St_) (a0 : Nat) (hk_a0 : kd_ σ a0 = 1) {q : St_} (hf : f_X1_init fu σ a0 = some q) : Met l yX1_init (Cond.code yX1_init cX1_init 2 none :: wU_) { frames := 2, cells := 7, slots := 28, locals := 40 } (va_Pc [.ref (ad a0)] (Pr_ κ G cy ad σ sz)) (QvA_ G cy ad σ q sz) 7 28 (va_A (wl_ cy ad σ) sz) :=
  x_met (by decide) (fun p e R s m below meth c ls hR C hr hlk hin _ K h hl => w_X1_init fu C K hr hlk hin hR ad σ a0 Ag_.rf Ex_.rf hk_a0 hf s.heap [] ls h hl) (Nat.le_of_ble_eq_true rfl)
-- X2_init
theorem mi_X2_init : Mi_ yX2_init cX2_init 1 none 0 := ⟨co_yX2_init, in_RX2, by decide, by decide, by decide +kernel⟩
def f_X2_init (σ : St_) (a0 : Nat) : Option St_ := lt_ (sn_ σ) fun b4 => lt_ (nw_ σ 10 (1296 : Int32).toNatClampNeg) fun σ2 => lt_ (sn_ (ur_ σ2 a0 0 (some b4))) fun b8 => lt_ (nw_ (ur_ σ2 a0 0 (some b4)) 11 (36 : Int32).toNatClampNeg) fun σ6 => some (ui_ (ui_ (ui_ (ur_ σ6 a0 1 (some b8)) a0 2 (0 : Int32)) a0 3 (-1 : Int32)) a0 4 (-1 : Int32))
set_option maxHeartbeats 4000000 in
set_option maxRecDepth 100000 in
theorem w_X2_init {p : Program} {l : Launch} {e : Env} {R : Room} {s : State} {m : MethodId} {args : Array Value} {below : List Frame} {meth : Method} {c : Code} {κ : Ka_} {G : va_G} {cy : Nat → ClassId} {ad0 : Nat → Nat} {sz : Nat} {σ0 : St_} (C : CallFix p m c cX2_init 1 s args wU_ RX2) (K : Kx_ κ G cy (va_A (wl_ cy ad0 σ0) sz) s) (hr : meth.sig.returnType = none) (hlk : meth.locks = false) (hin : meth.name = "<init>") (hR : 1 ≤ R.frames ∧ 20 ≤ R.locals ∧ 2 ≤ R.cells ∧ 1332 ≤ R.slots) {q : St_} : ∀ (ad : Nat → Nat) (σ : St_) (a0 : Nat), Ag_ (sn_ σ0) ad0 ad → Ex_ σ0 σ → kd_ σ a0 = 2 → f_X2_init σ a0 = some q → ∀ (H : Heap) (locs : List Loc) (ls : Array Slot), Ht_ G cy (va_A (wl_ cy ad0 σ0) sz) s ad σ H locs → lv_has ls 1 [(0, .ref (ad a0))] → W p l e R s m args below meth c H locs 0 0 (MQ below (QvA_ G cy ad0 σ0 q sz) args s 2 1332 (va_A (wl_ cy ad0 σ0) sz)) (F0 m 0 ls []) := by
  intro ad σ a0 hag hE hk_a0 hf H locs ls h hl
  have hf : (lt_ (sn_ σ) fun b4 => lt_ (nw_ σ 10 (1296 : Int32).toNatClampNeg) fun σ2 => lt_ (sn_ (ur_ σ2 a0 0 (some b4))) fun b8 => lt_ (nw_ (ur_ σ2 a0 0 (some b4)) 11 (36 : Int32).toNatClampNeg) fun σ6 => some (ui_ (ui_ (ui_ (ur_ σ6 a0 1 (some b8)) a0 2 (0 : Int32)) a0 3 (-1 : Int32)) a0 4 (-1 : Int32))) = some q := hf
  refine lv_aload_n C.1 C.2.1 dX2_init_0 rfl (lv_at hl 0 rfl) ?_
  refine x_obj C hl ml_RX2_3 (Nat.le_trans (by decide) hR.1) (Nat.le_trans (by decide) hR.2.1) (Nat.le_of_ble_eq_true rfl) dX2_init_1 ?_
  refine lv_aload_n C.1 C.2.1 dX2_init_4 rfl (lv_at hl 0 rfl) ?_
  refine lv_sipush (v := (1296 : Int32)) C.1 C.2.1 dX2_init_5 (by decide) ?_
  have ea3 := h.lt hk_a0 (by decide)
  obtain ⟨b4, eb4, hf⟩ := lt_in hf
  obtain ⟨σ2, eσ2, hf⟩ := lt_in hf
  refine x_newa C K h (ty := .int) rfl ac_int 0 10 rfl (fun x hx => by cases hx) (a0 := fun n => (n, .inl fun _ => 0)) (fun _ => rfl) (fun _ _ => rfl) (by decide) (by decide) (Nat.le_trans (by decide) hR.2.2.1) (Nat.le_trans (by decide) hR.2.2.2) dX2_init_8 (fun ad1 H had1 h hX => ?_)
  rw [← eσ2] at h hX
  rw [← eb4]
  rw [← had1 a0 ea3] at hl
  rw [← had1 a0 ea3]
  have hag := hag.trans hE.1 had1
  have hE := hE.trans hX
  have hk_a0 := hX.k hk_a0 (by decide)
  refine W.widen (k := 1) (n := 1296) (by decide) (by decide) ?_
  have hk_b4 : kd_ σ2 b4 = 10 := by rw [eσ2, eb4]; exact nw_kd _ _ _
  have hE := hE.up (up_r σ2 a0 0 (some b4) (fun b hb => by cases hb; exact h.lt hk_b4 (by decide)))
  refine x_putRF (v := (some b4)) C K hin h cl_2 hk_a0 0 (by decide) fl_RX2_9 rfl rfl (fun b hb => by cases hb; exact h.lt hk_b4 (by decide)) (rv_nar _ _) (rv_fit _ _ (by decide)) (Nat.le_of_ble_eq_true rfl) (fun _ _ _ => rfl) dX2_init_10 (fun H locs h => ?_)
  refine lv_aload_n C.1 C.2.1 dX2_init_13 rfl (lv_at hl 0 rfl) ?_
  refine lv_bipush (v := (36 : Int32)) C.1 C.2.1 dX2_init_14 (by decide) ?_
  have ea7 := h.lt hk_a0 (by decide)
  obtain ⟨b8, eb8, hf⟩ := lt_in hf
  obtain ⟨σ6, eσ6, hf⟩ := lt_in hf
  refine x_newa C K h (ty := .long) rfl ac_long 1 11 rfl (fun x hx => by cases hx) (a0 := fun n => (n, .inr (.inl fun _ => 0))) (fun _ => rfl) (fun _ _ => rfl) (by decide) (by decide) (Nat.le_trans (by decide) hR.2.2.1) (Nat.le_trans (by decide) hR.2.2.2) dX2_init_16 (fun ad5 H had5 h hX => ?_)
  rw [← eσ6] at h hX
  rw [← eb8]
  rw [← had5 a0 ea7] at hl
  rw [← had5 a0 ea7]
  have hag := hag.trans hE.1 had5
  have hE := hE.trans hX
  have hk_a0 := hX.k hk_a0 (by decide)
  refine W.widen (k := 2) (n := 1332) (by decide) (by decide) ?_
  have hk_b8 : kd_ σ6 b8 = 11 := by rw [eσ6, eb8]; exact nw_kd _ _ _
  have hE := hE.up (up_r σ6 a0 1 (some b8) (fun b hb => by cases hb; exact h.lt hk_b8 (by decide)))
  refine x_putRF (v := (some b8)) C K hin h cl_2 hk_a0 1 (by decide) fl_RX2_15 rfl rfl (fun b hb => by cases hb; exact h.lt hk_b8 (by decide)) (rv_nar _ _) (rv_fit _ _ (by decide)) (Nat.le_of_ble_eq_true rfl) (fun _ _ _ => rfl) dX2_init_18 (fun H locs h => ?_)
  refine lv_aload_n C.1 C.2.1 dX2_init_21 rfl (lv_at hl 0 rfl) ?_
  refine lv_iconst (v := (0 : Int32)) C.1 C.2.1 dX2_init_22 (by decide) ?_
  refine x_putI C K h cl_2 hk_a0 2 (by decide) fl_RX2_19 rfl rfl rfl (Nat.le_of_ble_eq_true rfl) (fun _ _ _ => rfl) dX2_init_23 (fun H locs h => ?_)
  have hE := hE.up (up_i (ur_ σ6 a0 1 (some b8)) a0 2 (0 : Int32))
  refine lv_aload_n C.1 C.2.1 dX2_init_26 rfl (lv_at hl 0 rfl) ?_
  refine lv_iconst (v := (-1 : Int32)) C.1 C.2.1 dX2_init_27 (by decide) ?_
  refine x_putI C K h cl_2 hk_a0 3 (by decide) fl_RX2_23 rfl rfl rfl (Nat.le_of_ble_eq_true rfl) (fun _ _ _ => rfl) dX2_init_28 (fun H locs h => ?_)
  have hE := hE.up (up_i (ui_ (ur_ σ6 a0 1 (some b8)) a0 2 (0 : Int32)) a0 3 (-1 : Int32))
  refine lv_aload_n C.1 C.2.1 dX2_init_31 rfl (lv_at hl 0 rfl) ?_
  refine lv_iconst (v := (-1 : Int32)) C.1 C.2.1 dX2_init_32 (by decide) ?_
  refine x_putI C K h cl_2 hk_a0 4 (by decide) fl_RX2_26 rfl rfl rfl (Nat.le_of_ble_eq_true rfl) (fun _ _ _ => rfl) dX2_init_33 (fun H locs h => ?_)
  have hE := hE.up (up_i (ui_ (ui_ (ur_ σ6 a0 1 (some b8)) a0 2 (0 : Int32)) a0 3 (-1 : Int32)) a0 4 (-1 : Int32))
  exact x_rvA (Nat.le_of_ble_eq_true rfl) (Nat.le_of_ble_eq_true rfl) C hr hlk hag h hE (Option.some.inj hf) dX2_init_36
theorem c_X2_init (l : Launch) (κ : Ka_) (G : va_G) (cy : Nat → ClassId) (ad : Nat → Nat) (sz : Nat) (σ : St_) (a0 : Nat) (hk_a0 : kd_ σ a0 = 2) {q : St_} (hf : f_X2_init σ a0 = some q) : Met l yX2_init (Cond.code yX2_init cX2_init 1 none :: wU_) { frames := 1, cells := 2, slots := 1332, locals := 20 } (va_Pc [.ref (ad a0)] (Pr_ κ G cy ad σ sz)) (QvA_ G cy ad σ q sz) 2 1332 (va_A (wl_ cy ad σ) sz) :=
  x_met (by decide) (fun p e R s m below meth c ls hR C hr hlk hin _ K h hl => w_X2_init C K hr hlk hin hR ad σ a0 Ag_.rf Ex_.rf hk_a0 hf s.heap [] ls h hl) (Nat.le_of_ble_eq_true rfl)
-- X3_init
theorem mi_X3_init : Mi_ yX3_init cX3_init 1 none 0 := ⟨co_yX3_init, in_RX3, by decide, by decide, by decide +kernel⟩
def f_X3_init (σ : St_) (a0 : Nat) : Option St_ := lt_ (sn_ σ) fun b4 => lt_ (nw_ σ 10 (160 : Int32).toNatClampNeg) fun σ2 => lt_ (sn_ (ui_ (ur_ σ2 a0 0 (some b4)) a0 1 (0 : Int32))) fun b8 => lt_ (nw_ (ui_ (ur_ σ2 a0 0 (some b4)) a0 1 (0 : Int32)) 10 (160 : Int32).toNatClampNeg) fun σ6 => lt_ (sn_ (ur_ σ6 a0 2 (some b8))) fun b12 => lt_ (nw_ (ur_ σ6 a0 2 (some b8)) 10 (160 : Int32).toNatClampNeg) fun σ10 => lt_ (sn_ (ur_ σ10 a0 3 (some b12))) fun b16 => lt_ (nw_ (ur_ σ10 a0 3 (some b12)) 10 (160 : Int32).toNatClampNeg) fun σ14 => lt_ (sn_ (ui_ (ui_ (ur_ σ14 a0 4 (some b16)) a0 5 (0 : Int32)) a0 6 (0 : Int32))) fun b20 => lt_ (nw_ (ui_ (ui_ (ur_ σ14 a0 4 (some b16)) a0 5 (0 : Int32)) a0 6 (0 : Int32)) 10 (160 : Int32).toNatClampNeg) fun σ18 => some (ui_ (ui_ (ui_ (ur_ σ18 a0 7 (some b20)) a0 8 (0 : Int32)) a0 9 (0 : Int32)) a0 10 (0 : Int32))
set_option maxHeartbeats 4000000 in
set_option maxRecDepth 100000 in
theorem w_X3_init {p : Program} {l : Launch} {e : Env} {R : Room} {s : State} {m : MethodId} {args : Array Value} {below : List Frame} {meth : Method} {c : Code} {κ : Ka_} {G : va_G} {cy : Nat → ClassId} {ad0 : Nat → Nat} {sz : Nat} {σ0 : St_} (C : CallFix p m c cX3_init 1 s args wU_ RX3) (K : Kx_ κ G cy (va_A (wl_ cy ad0 σ0) sz) s) (hr : meth.sig.returnType = none) (hlk : meth.locks = false) (hin : meth.name = "<init>") (hR : 1 ≤ R.frames ∧ 20 ≤ R.locals ∧ 5 ≤ R.cells ∧ 800 ≤ R.slots) {q : St_} : ∀ (ad : Nat → Nat) (σ : St_) (a0 : Nat), Ag_ (sn_ σ0) ad0 ad → Ex_ σ0 σ → kd_ σ a0 = 3 → f_X3_init σ a0 = some q → ∀ (H : Heap) (locs : List Loc) (ls : Array Slot), Ht_ G cy (va_A (wl_ cy ad0 σ0) sz) s ad σ H locs → lv_has ls 1 [(0, .ref (ad a0))] → W p l e R s m args below meth c H locs 0 0 (MQ below (QvA_ G cy ad0 σ0 q sz) args s 5 800 (va_A (wl_ cy ad0 σ0) sz)) (F0 m 0 ls []) := by
  intro ad σ a0 hag hE hk_a0 hf H locs ls h hl
  have hf : (lt_ (sn_ σ) fun b4 => lt_ (nw_ σ 10 (160 : Int32).toNatClampNeg) fun σ2 => lt_ (sn_ (ui_ (ur_ σ2 a0 0 (some b4)) a0 1 (0 : Int32))) fun b8 => lt_ (nw_ (ui_ (ur_ σ2 a0 0 (some b4)) a0 1 (0 : Int32)) 10 (160 : Int32).toNatClampNeg) fun σ6 => lt_ (sn_ (ur_ σ6 a0 2 (some b8))) fun b12 => lt_ (nw_ (ur_ σ6 a0 2 (some b8)) 10 (160 : Int32).toNatClampNeg) fun σ10 => lt_ (sn_ (ur_ σ10 a0 3 (some b12))) fun b16 => lt_ (nw_ (ur_ σ10 a0 3 (some b12)) 10 (160 : Int32).toNatClampNeg) fun σ14 => lt_ (sn_ (ui_ (ui_ (ur_ σ14 a0 4 (some b16)) a0 5 (0 : Int32)) a0 6 (0 : Int32))) fun b20 => lt_ (nw_ (ui_ (ui_ (ur_ σ14 a0 4 (some b16)) a0 5 (0 : Int32)) a0 6 (0 : Int32)) 10 (160 : Int32).toNatClampNeg) fun σ18 => some (ui_ (ui_ (ui_ (ur_ σ18 a0 7 (some b20)) a0 8 (0 : Int32)) a0 9 (0 : Int32)) a0 10 (0 : Int32))) = some q := hf
  refine lv_aload_n C.1 C.2.1 dX3_init_0 rfl (lv_at hl 0 rfl) ?_
  refine x_obj C hl ml_RX3_3 (Nat.le_trans (by decide) hR.1) (Nat.le_trans (by decide) hR.2.1) (Nat.le_of_ble_eq_true rfl) dX3_init_1 ?_
  refine lv_aload_n C.1 C.2.1 dX3_init_4 rfl (lv_at hl 0 rfl) ?_
  refine lv_sipush (v := (160 : Int32)) C.1 C.2.1 dX3_init_5 (by decide) ?_
  have ea3 := h.lt hk_a0 (by decide)
  obtain ⟨b4, eb4, hf⟩ := lt_in hf
  obtain ⟨σ2, eσ2, hf⟩ := lt_in hf
  refine x_newa C K h (ty := .int) rfl ac_int 0 10 rfl (fun x hx => by cases hx) (a0 := fun n => (n, .inl fun _ => 0)) (fun _ => rfl) (fun _ _ => rfl) (by decide) (by decide) (Nat.le_trans (by decide) hR.2.2.1) (Nat.le_trans (by decide) hR.2.2.2) dX3_init_8 (fun ad1 H had1 h hX => ?_)
  rw [← eσ2] at h hX
  rw [← eb4]
  rw [← had1 a0 ea3] at hl
  rw [← had1 a0 ea3]
  have hag := hag.trans hE.1 had1
  have hE := hE.trans hX
  have hk_a0 := hX.k hk_a0 (by decide)
  refine W.widen (k := 1) (n := 160) (by decide) (by decide) ?_
  have hk_b4 : kd_ σ2 b4 = 10 := by rw [eσ2, eb4]; exact nw_kd _ _ _
  have hE := hE.up (up_r σ2 a0 0 (some b4) (fun b hb => by cases hb; exact h.lt hk_b4 (by decide)))
  refine x_putRF (v := (some b4)) C K hin h cl_3 hk_a0 0 (by decide) fl_RX3_9 rfl rfl (fun b hb => by cases hb; exact h.lt hk_b4 (by decide)) (rv_nar _ _) (rv_fit _ _ (by decide)) (Nat.le_of_ble_eq_true rfl) (fun _ _ _ => rfl) dX3_init_10 (fun H locs h => ?_)
  refine lv_aload_n C.1 C.2.1 dX3_init_13 rfl (lv_at hl 0 rfl) ?_
  refine lv_iconst (v := (0 : Int32)) C.1 C.2.1 dX3_init_14 (by decide) ?_
  refine x_putI C K h cl_3 hk_a0 1 (by decide) fl_RX3_15 rfl rfl rfl (Nat.le_of_ble_eq_true rfl) (fun _ _ _ => rfl) dX3_init_15 (fun H locs h => ?_)
  have hE := hE.up (up_i (ur_ σ2 a0 0 (some b4)) a0 1 (0 : Int32))
  refine lv_aload_n C.1 C.2.1 dX3_init_18 rfl (lv_at hl 0 rfl) ?_
  refine lv_sipush (v := (160 : Int32)) C.1 C.2.1 dX3_init_19 (by decide) ?_
  have ea7 := h.lt hk_a0 (by decide)
  obtain ⟨b8, eb8, hf⟩ := lt_in hf
  obtain ⟨σ6, eσ6, hf⟩ := lt_in hf
  refine x_newa C K h (ty := .int) rfl ac_int 0 10 rfl (fun x hx => by cases hx) (a0 := fun n => (n, .inl fun _ => 0)) (fun _ => rfl) (fun _ _ => rfl) (by decide) (by decide) (Nat.le_trans (by decide) hR.2.2.1) (Nat.le_trans (by decide) hR.2.2.2) dX3_init_22 (fun ad5 H had5 h hX => ?_)
  rw [← eσ6] at h hX
  rw [← eb8]
  rw [← had5 a0 ea7] at hl
  rw [← had5 a0 ea7]
  have hag := hag.trans hE.1 had5
  have hE := hE.trans hX
  have hk_a0 := hX.k hk_a0 (by decide)
  refine W.widen (k := 2) (n := 320) (by decide) (by decide) ?_
  have hk_b8 : kd_ σ6 b8 = 10 := by rw [eσ6, eb8]; exact nw_kd _ _ _
  have hE := hE.up (up_r σ6 a0 2 (some b8) (fun b hb => by cases hb; exact h.lt hk_b8 (by decide)))
  refine x_putRF (v := (some b8)) C K hin h cl_3 hk_a0 2 (by decide) fl_RX3_19 rfl rfl (fun b hb => by cases hb; exact h.lt hk_b8 (by decide)) (rv_nar _ _) (rv_fit _ _ (by decide)) (Nat.le_of_ble_eq_true rfl) (fun _ _ _ => rfl) dX3_init_24 (fun H locs h => ?_)
  refine lv_aload_n C.1 C.2.1 dX3_init_27 rfl (lv_at hl 0 rfl) ?_
  refine lv_sipush (v := (160 : Int32)) C.1 C.2.1 dX3_init_28 (by decide) ?_
  have ea11 := h.lt hk_a0 (by decide)
  obtain ⟨b12, eb12, hf⟩ := lt_in hf
  obtain ⟨σ10, eσ10, hf⟩ := lt_in hf
  refine x_newa C K h (ty := .int) rfl ac_int 0 10 rfl (fun x hx => by cases hx) (a0 := fun n => (n, .inl fun _ => 0)) (fun _ => rfl) (fun _ _ => rfl) (by decide) (by decide) (Nat.le_trans (by decide) hR.2.2.1) (Nat.le_trans (by decide) hR.2.2.2) dX3_init_31 (fun ad9 H had9 h hX => ?_)
  rw [← eσ10] at h hX
  rw [← eb12]
  rw [← had9 a0 ea11] at hl
  rw [← had9 a0 ea11]
  have hag := hag.trans hE.1 had9
  have hE := hE.trans hX
  have hk_a0 := hX.k hk_a0 (by decide)
  refine W.widen (k := 3) (n := 480) (by decide) (by decide) ?_
  have hk_b12 : kd_ σ10 b12 = 10 := by rw [eσ10, eb12]; exact nw_kd _ _ _
  have hE := hE.up (up_r σ10 a0 3 (some b12) (fun b hb => by cases hb; exact h.lt hk_b12 (by decide)))
  refine x_putRF (v := (some b12)) C K hin h cl_3 hk_a0 3 (by decide) fl_RX3_22 rfl rfl (fun b hb => by cases hb; exact h.lt hk_b12 (by decide)) (rv_nar _ _) (rv_fit _ _ (by decide)) (Nat.le_of_ble_eq_true rfl) (fun _ _ _ => rfl) dX3_init_33 (fun H locs h => ?_)
  refine lv_aload_n C.1 C.2.1 dX3_init_36 rfl (lv_at hl 0 rfl) ?_
  refine lv_sipush (v := (160 : Int32)) C.1 C.2.1 dX3_init_37 (by decide) ?_
  have ea15 := h.lt hk_a0 (by decide)
  obtain ⟨b16, eb16, hf⟩ := lt_in hf
  obtain ⟨σ14, eσ14, hf⟩ := lt_in hf
  refine x_newa C K h (ty := .int) rfl ac_int 0 10 rfl (fun x hx => by cases hx) (a0 := fun n => (n, .inl fun _ => 0)) (fun _ => rfl) (fun _ _ => rfl) (by decide) (by decide) (Nat.le_trans (by decide) hR.2.2.1) (Nat.le_trans (by decide) hR.2.2.2) dX3_init_40 (fun ad13 H had13 h hX => ?_)
  rw [← eσ14] at h hX
  rw [← eb16]
  rw [← had13 a0 ea15] at hl
  rw [← had13 a0 ea15]
  have hag := hag.trans hE.1 had13
  have hE := hE.trans hX
  have hk_a0 := hX.k hk_a0 (by decide)
  refine W.widen (k := 4) (n := 640) (by decide) (by decide) ?_
  have hk_b16 : kd_ σ14 b16 = 10 := by rw [eσ14, eb16]; exact nw_kd _ _ _
  have hE := hE.up (up_r σ14 a0 4 (some b16) (fun b hb => by cases hb; exact h.lt hk_b16 (by decide)))
  refine x_putRF (v := (some b16)) C K hin h cl_3 hk_a0 4 (by decide) fl_RX3_25 rfl rfl (fun b hb => by cases hb; exact h.lt hk_b16 (by decide)) (rv_nar _ _) (rv_fit _ _ (by decide)) (Nat.le_of_ble_eq_true rfl) (fun _ _ _ => rfl) dX3_init_42 (fun H locs h => ?_)
  refine lv_aload_n C.1 C.2.1 dX3_init_45 rfl (lv_at hl 0 rfl) ?_
  refine lv_iconst (v := (0 : Int32)) C.1 C.2.1 dX3_init_46 (by decide) ?_
  refine x_putI C K h cl_3 hk_a0 5 (by decide) fl_RX3_28 rfl rfl rfl (Nat.le_of_ble_eq_true rfl) (fun _ _ _ => rfl) dX3_init_47 (fun H locs h => ?_)
  have hE := hE.up (up_i (ur_ σ14 a0 4 (some b16)) a0 5 (0 : Int32))
  refine lv_aload_n C.1 C.2.1 dX3_init_50 rfl (lv_at hl 0 rfl) ?_
  refine lv_iconst (v := (0 : Int32)) C.1 C.2.1 dX3_init_51 (by decide) ?_
  refine x_putI C K h cl_3 hk_a0 6 (by decide) fl_RX3_31 rfl rfl rfl (Nat.le_of_ble_eq_true rfl) (fun _ _ _ => rfl) dX3_init_52 (fun H locs h => ?_)
  have hE := hE.up (up_i (ui_ (ur_ σ14 a0 4 (some b16)) a0 5 (0 : Int32)) a0 6 (0 : Int32))
  refine lv_aload_n C.1 C.2.1 dX3_init_55 rfl (lv_at hl 0 rfl) ?_
  refine lv_sipush (v := (160 : Int32)) C.1 C.2.1 dX3_init_56 (by decide) ?_
  have ea19 := h.lt hk_a0 (by decide)
  obtain ⟨b20, eb20, hf⟩ := lt_in hf
  obtain ⟨σ18, eσ18, hf⟩ := lt_in hf
  refine x_newa C K h (ty := .int) rfl ac_int 0 10 rfl (fun x hx => by cases hx) (a0 := fun n => (n, .inl fun _ => 0)) (fun _ => rfl) (fun _ _ => rfl) (by decide) (by decide) (Nat.le_trans (by decide) hR.2.2.1) (Nat.le_trans (by decide) hR.2.2.2) dX3_init_59 (fun ad17 H had17 h hX => ?_)
  rw [← eσ18] at h hX
  rw [← eb20]
  rw [← had17 a0 ea19] at hl
  rw [← had17 a0 ea19]
  have hag := hag.trans hE.1 had17
  have hE := hE.trans hX
  have hk_a0 := hX.k hk_a0 (by decide)
  refine W.widen (k := 5) (n := 800) (by decide) (by decide) ?_
  have hk_b20 : kd_ σ18 b20 = 10 := by rw [eσ18, eb20]; exact nw_kd _ _ _
  have hE := hE.up (up_r σ18 a0 7 (some b20) (fun b hb => by cases hb; exact h.lt hk_b20 (by decide)))
  refine x_putRF (v := (some b20)) C K hin h cl_3 hk_a0 7 (by decide) fl_RX3_34 rfl rfl (fun b hb => by cases hb; exact h.lt hk_b20 (by decide)) (rv_nar _ _) (rv_fit _ _ (by decide)) (Nat.le_of_ble_eq_true rfl) (fun _ _ _ => rfl) dX3_init_61 (fun H locs h => ?_)
  refine lv_aload_n C.1 C.2.1 dX3_init_64 rfl (lv_at hl 0 rfl) ?_
  refine lv_iconst (v := (0 : Int32)) C.1 C.2.1 dX3_init_65 (by decide) ?_
  refine x_putI C K h cl_3 hk_a0 8 (by decide) fl_RX3_37 rfl rfl rfl (Nat.le_of_ble_eq_true rfl) (fun _ _ _ => rfl) dX3_init_66 (fun H locs h => ?_)
  have hE := hE.up (up_i (ur_ σ18 a0 7 (some b20)) a0 8 (0 : Int32))
  refine lv_aload_n C.1 C.2.1 dX3_init_69 rfl (lv_at hl 0 rfl) ?_
  refine lv_iconst (v := (0 : Int32)) C.1 C.2.1 dX3_init_70 (by decide) ?_
  refine x_putI C K h cl_3 hk_a0 9 (by decide) fl_RX3_40 rfl rfl rfl (Nat.le_of_ble_eq_true rfl) (fun _ _ _ => rfl) dX3_init_71 (fun H locs h => ?_)
  have hE := hE.up (up_i (ui_ (ur_ σ18 a0 7 (some b20)) a0 8 (0 : Int32)) a0 9 (0 : Int32))
  refine lv_aload_n C.1 C.2.1 dX3_init_74 rfl (lv_at hl 0 rfl) ?_
  refine lv_iconst (v := (0 : Int32)) C.1 C.2.1 dX3_init_75 (by decide) ?_
  refine x_putI C K h cl_3 hk_a0 10 (by decide) fl_RX3_43 rfl rfl rfl (Nat.le_of_ble_eq_true rfl) (fun _ _ _ => rfl) dX3_init_76 (fun H locs h => ?_)
  have hE := hE.up (up_i (ui_ (ui_ (ur_ σ18 a0 7 (some b20)) a0 8 (0 : Int32)) a0 9 (0 : Int32)) a0 10 (0 : Int32))
  exact x_rvA (Nat.le_of_ble_eq_true rfl) (Nat.le_of_ble_eq_true rfl) C hr hlk hag h hE (Option.some.inj hf) dX3_init_79
theorem c_X3_init (l : Launch) (κ : Ka_) (G : va_G) (cy : Nat → ClassId) (ad : Nat → Nat) (sz : Nat) (σ : St_) (a0 : Nat) (hk_a0 : kd_ σ a0 = 3) {q : St_} (hf : f_X3_init σ a0 = some q) : Met l yX3_init (Cond.code yX3_init cX3_init 1 none :: wU_) { frames := 1, cells := 5, slots := 800, locals := 20 } (va_Pc [.ref (ad a0)] (Pr_ κ G cy ad σ sz)) (QvA_ G cy ad σ q sz) 5 800 (va_A (wl_ cy ad σ) sz) :=
  x_met (by decide) (fun p e R s m below meth c ls hR C hr hlk hin _ K h hl => w_X3_init C K hr hlk hin hR ad σ a0 Ag_.rf Ex_.rf hk_a0 hf s.heap [] ls h hl) (Nat.le_of_ble_eq_true rfl)
-- X6_init
theorem mi_X6_init : Mi_ yX6_init cX6_init 1 none 0 := ⟨co_yX6_init, in_RX6, by decide, by decide, by decide +kernel⟩
def f_X6_init (σ : St_) (a0 : Nat) : Option St_ := lt_ (sn_ σ) fun b4 => lt_ (nw_ σ 10 (6 : Int32).toNatClampNeg) fun σ2 => lt_ (sn_ (ur_ σ2 a0 0 (some b4))) fun b8 => lt_ (nw_ (ur_ σ2 a0 0 (some b4)) 10 (80 : Int32).toNatClampNeg) fun σ6 => some (ur_ (ul_ (ui_ (ur_ σ6 a0 1 (some b8)) a0 2 (0 : Int32)) a0 3 (0 : Int64)) a0 4 none)
set_option maxHeartbeats 4000000 in
set_option maxRecDepth 100000 in
theorem w_X6_init {p : Program} {l : Launch} {e : Env} {R : Room} {s : State} {m : MethodId} {args : Array Value} {below : List Frame} {meth : Method} {c : Code} {κ : Ka_} {G : va_G} {cy : Nat → ClassId} {ad0 : Nat → Nat} {sz : Nat} {σ0 : St_} (C : CallFix p m c cX6_init 1 s args wU_ RX6) (K : Kx_ κ G cy (va_A (wl_ cy ad0 σ0) sz) s) (hr : meth.sig.returnType = none) (hlk : meth.locks = false) (hin : meth.name = "<init>") (hR : 1 ≤ R.frames ∧ 20 ≤ R.locals ∧ 2 ≤ R.cells ∧ 86 ≤ R.slots) {q : St_} : ∀ (ad : Nat → Nat) (σ : St_) (a0 : Nat), Ag_ (sn_ σ0) ad0 ad → Ex_ σ0 σ → kd_ σ a0 = 6 → f_X6_init σ a0 = some q → ∀ (H : Heap) (locs : List Loc) (ls : Array Slot), Ht_ G cy (va_A (wl_ cy ad0 σ0) sz) s ad σ H locs → lv_has ls 1 [(0, .ref (ad a0))] → W p l e R s m args below meth c H locs 0 0 (MQ below (QvA_ G cy ad0 σ0 q sz) args s 2 86 (va_A (wl_ cy ad0 σ0) sz)) (F0 m 0 ls []) := by
  intro ad σ a0 hag hE hk_a0 hf H locs ls h hl
  have hf : (lt_ (sn_ σ) fun b4 => lt_ (nw_ σ 10 (6 : Int32).toNatClampNeg) fun σ2 => lt_ (sn_ (ur_ σ2 a0 0 (some b4))) fun b8 => lt_ (nw_ (ur_ σ2 a0 0 (some b4)) 10 (80 : Int32).toNatClampNeg) fun σ6 => some (ur_ (ul_ (ui_ (ur_ σ6 a0 1 (some b8)) a0 2 (0 : Int32)) a0 3 (0 : Int64)) a0 4 none)) = some q := hf
  refine lv_aload_n C.1 C.2.1 dX6_init_0 rfl (lv_at hl 0 rfl) ?_
  refine x_obj C hl ml_RX6_3 (Nat.le_trans (by decide) hR.1) (Nat.le_trans (by decide) hR.2.1) (Nat.le_of_ble_eq_true rfl) dX6_init_1 ?_
  refine lv_aload_n C.1 C.2.1 dX6_init_4 rfl (lv_at hl 0 rfl) ?_
  refine lv_bipush (v := (6 : Int32)) C.1 C.2.1 dX6_init_5 (by decide) ?_
  have ea3 := h.lt hk_a0 (by decide)
  obtain ⟨b4, eb4, hf⟩ := lt_in hf
  obtain ⟨σ2, eσ2, hf⟩ := lt_in hf
  refine x_newa C K h (ty := .int) rfl ac_int 0 10 rfl (fun x hx => by cases hx) (a0 := fun n => (n, .inl fun _ => 0)) (fun _ => rfl) (fun _ _ => rfl) (by decide) (by decide) (Nat.le_trans (by decide) hR.2.2.1) (Nat.le_trans (by decide) hR.2.2.2) dX6_init_7 (fun ad1 H had1 h hX => ?_)
  rw [← eσ2] at h hX
  rw [← eb4]
  rw [← had1 a0 ea3] at hl
  rw [← had1 a0 ea3]
  have hag := hag.trans hE.1 had1
  have hE := hE.trans hX
  have hk_a0 := hX.k hk_a0 (by decide)
  refine W.widen (k := 1) (n := 6) (by decide) (by decide) ?_
  have hk_b4 : kd_ σ2 b4 = 10 := by rw [eσ2, eb4]; exact nw_kd _ _ _
  have hE := hE.up (up_r σ2 a0 0 (some b4) (fun b hb => by cases hb; exact h.lt hk_b4 (by decide)))
  refine x_putRF (v := (some b4)) C K hin h cl_6 hk_a0 0 (by decide) fl_RX6_11 rfl rfl (fun b hb => by cases hb; exact h.lt hk_b4 (by decide)) (rv_nar _ _) (rv_fit _ _ (by decide)) (Nat.le_of_ble_eq_true rfl) (fun _ _ _ => rfl) dX6_init_9 (fun H locs h => ?_)
  refine lv_aload_n C.1 C.2.1 dX6_init_12 rfl (lv_at hl 0 rfl) ?_
  refine lv_bipush (v := (80 : Int32)) C.1 C.2.1 dX6_init_13 (by decide) ?_
  have ea7 := h.lt hk_a0 (by decide)
  obtain ⟨b8, eb8, hf⟩ := lt_in hf
  obtain ⟨σ6, eσ6, hf⟩ := lt_in hf
  refine x_newa C K h (ty := .int) rfl ac_int 0 10 rfl (fun x hx => by cases hx) (a0 := fun n => (n, .inl fun _ => 0)) (fun _ => rfl) (fun _ _ => rfl) (by decide) (by decide) (Nat.le_trans (by decide) hR.2.2.1) (Nat.le_trans (by decide) hR.2.2.2) dX6_init_15 (fun ad5 H had5 h hX => ?_)
  rw [← eσ6] at h hX
  rw [← eb8]
  rw [← had5 a0 ea7] at hl
  rw [← had5 a0 ea7]
  have hag := hag.trans hE.1 had5
  have hE := hE.trans hX
  have hk_a0 := hX.k hk_a0 (by decide)
  refine W.widen (k := 2) (n := 86) (by decide) (by decide) ?_
  have hk_b8 : kd_ σ6 b8 = 10 := by rw [eσ6, eb8]; exact nw_kd _ _ _
  have hE := hE.up (up_r σ6 a0 1 (some b8) (fun b hb => by cases hb; exact h.lt hk_b8 (by decide)))
  refine x_putRF (v := (some b8)) C K hin h cl_6 hk_a0 1 (by decide) fl_RX6_17 rfl rfl (fun b hb => by cases hb; exact h.lt hk_b8 (by decide)) (rv_nar _ _) (rv_fit _ _ (by decide)) (Nat.le_of_ble_eq_true rfl) (fun _ _ _ => rfl) dX6_init_17 (fun H locs h => ?_)
  refine lv_aload_n C.1 C.2.1 dX6_init_20 rfl (lv_at hl 0 rfl) ?_
  refine lv_iconst (v := (0 : Int32)) C.1 C.2.1 dX6_init_21 (by decide) ?_
  refine x_putI C K h cl_6 hk_a0 2 (by decide) fl_RX6_20 rfl rfl rfl (Nat.le_of_ble_eq_true rfl) (fun _ _ _ => rfl) dX6_init_22 (fun H locs h => ?_)
  have hE := hE.up (up_i (ur_ σ6 a0 1 (some b8)) a0 2 (0 : Int32))
  refine lv_aload_n C.1 C.2.1 dX6_init_25 rfl (lv_at hl 0 rfl) ?_
  refine lv_lconst (v := (0 : Int64)) C.1 C.2.1 dX6_init_26 (by decide) ?_
  refine x_putL C K h cl_6 hk_a0 3 (by decide) fl_RX6_24 rfl rfl rfl (Nat.le_of_ble_eq_true rfl) (fun _ _ _ => rfl) dX6_init_27 (fun H locs h => ?_)
  have hE := hE.up (up_l (ui_ (ur_ σ6 a0 1 (some b8)) a0 2 (0 : Int32)) a0 3 (0 : Int64))
  refine lv_aload_n C.1 C.2.1 dX6_init_30 rfl (lv_at hl 0 rfl) ?_
  refine lv_null C.1 C.2.1 dX6_init_31 ?_
  have hE := hE.up (up_r (ul_ (ui_ (ur_ σ6 a0 1 (some b8)) a0 2 (0 : Int32)) a0 3 (0 : Int64)) a0 4 none (fun b hb => by cases hb))
  refine x_putR (v := none) C K h cl_6 hk_a0 4 (by decide) fl_RX6_28 rfl (fun b hb => by cases hb) (rv_nar _ _) (rv_fit _ _ (by decide)) (Nat.le_of_ble_eq_true rfl) (fun _ _ _ => rfl) dX6_init_32 (fun H locs h => ?_)
  exact x_rvA (Nat.le_of_ble_eq_true rfl) (Nat.le_of_ble_eq_true rfl) C hr hlk hag h hE (Option.some.inj hf) dX6_init_35
theorem c_X6_init (l : Launch) (κ : Ka_) (G : va_G) (cy : Nat → ClassId) (ad : Nat → Nat) (sz : Nat) (σ : St_) (a0 : Nat) (hk_a0 : kd_ σ a0 = 6) {q : St_} (hf : f_X6_init σ a0 = some q) : Met l yX6_init (Cond.code yX6_init cX6_init 1 none :: wU_) { frames := 1, cells := 2, slots := 86, locals := 20 } (va_Pc [.ref (ad a0)] (Pr_ κ G cy ad σ sz)) (QvA_ G cy ad σ q sz) 2 86 (va_A (wl_ cy ad σ) sz) :=
  x_met (by decide) (fun p e R s m below meth c ls hR C hr hlk hin _ K h hl => w_X6_init C K hr hlk hin hR ad σ a0 Ag_.rf Ex_.rf hk_a0 hf s.heap [] ls h hl) (Nat.le_of_ble_eq_true rfl)
-- X7_init
theorem mi_X7_init : Mi_ yX7_init cX7_init 1 none 0 := ⟨co_yX7_init, in_RX7, by decide, by decide, by decide +kernel⟩
def f_X7_init (σ : St_) (a0 : Nat) : Option St_ := lt_ (sn_ σ) fun b4 => lt_ (nw_ σ 10 (36 : Int32).toNatClampNeg) fun σ2 => lt_ (sn_ (ur_ σ2 a0 0 (some b4))) fun b8 => lt_ (nw_ (ur_ σ2 a0 0 (some b4)) 10 (36 : Int32).toNatClampNeg) fun σ6 => lt_ (sn_ (ur_ σ6 a0 1 (some b8))) fun b12 => lt_ (nw_ (ur_ σ6 a0 1 (some b8)) 10 (36 : Int32).toNatClampNeg) fun σ10 => lt_ (sn_ (ur_ σ10 a0 2 (some b12))) fun b16 => lt_ (nw_ (ur_ σ10 a0 2 (some b12)) 10 (36 : Int32).toNatClampNeg) fun σ14 => lt_ (sn_ (ur_ σ14 a0 3 (some b16))) fun b20 => lt_ (nw_ (ur_ σ14 a0 3 (some b16)) 10 (288 : Int32).toNatClampNeg) fun σ18 => some (ul_ (ui_ (ui_ (ur_ σ18 a0 4 (some b20)) a0 5 (0 : Int32)) a0 6 (0 : Int32)) a0 7 (0 : Int64))
set_option maxHeartbeats 4000000 in
set_option maxRecDepth 100000 in
theorem w_X7_init {p : Program} {l : Launch} {e : Env} {R : Room} {s : State} {m : MethodId} {args : Array Value} {below : List Frame} {meth : Method} {c : Code} {κ : Ka_} {G : va_G} {cy : Nat → ClassId} {ad0 : Nat → Nat} {sz : Nat} {σ0 : St_} (C : CallFix p m c cX7_init 1 s args wU_ RX7) (K : Kx_ κ G cy (va_A (wl_ cy ad0 σ0) sz) s) (hr : meth.sig.returnType = none) (hlk : meth.locks = false) (hin : meth.name = "<init>") (hR : 1 ≤ R.frames ∧ 20 ≤ R.locals ∧ 5 ≤ R.cells ∧ 432 ≤ R.slots) {q : St_} : ∀ (ad : Nat → Nat) (σ : St_) (a0 : Nat), Ag_ (sn_ σ0) ad0 ad → Ex_ σ0 σ → kd_ σ a0 = 7 → f_X7_init σ a0 = some q → ∀ (H : Heap) (locs : List Loc) (ls : Array Slot), Ht_ G cy (va_A (wl_ cy ad0 σ0) sz) s ad σ H locs → lv_has ls 1 [(0, .ref (ad a0))] → W p l e R s m args below meth c H locs 0 0 (MQ below (QvA_ G cy ad0 σ0 q sz) args s 5 432 (va_A (wl_ cy ad0 σ0) sz)) (F0 m 0 ls []) := by
  intro ad σ a0 hag hE hk_a0 hf H locs ls h hl
  have hf : (lt_ (sn_ σ) fun b4 => lt_ (nw_ σ 10 (36 : Int32).toNatClampNeg) fun σ2 => lt_ (sn_ (ur_ σ2 a0 0 (some b4))) fun b8 => lt_ (nw_ (ur_ σ2 a0 0 (some b4)) 10 (36 : Int32).toNatClampNeg) fun σ6 => lt_ (sn_ (ur_ σ6 a0 1 (some b8))) fun b12 => lt_ (nw_ (ur_ σ6 a0 1 (some b8)) 10 (36 : Int32).toNatClampNeg) fun σ10 => lt_ (sn_ (ur_ σ10 a0 2 (some b12))) fun b16 => lt_ (nw_ (ur_ σ10 a0 2 (some b12)) 10 (36 : Int32).toNatClampNeg) fun σ14 => lt_ (sn_ (ur_ σ14 a0 3 (some b16))) fun b20 => lt_ (nw_ (ur_ σ14 a0 3 (some b16)) 10 (288 : Int32).toNatClampNeg) fun σ18 => some (ul_ (ui_ (ui_ (ur_ σ18 a0 4 (some b20)) a0 5 (0 : Int32)) a0 6 (0 : Int32)) a0 7 (0 : Int64))) = some q := hf
  refine lv_aload_n C.1 C.2.1 dX7_init_0 rfl (lv_at hl 0 rfl) ?_
  refine x_obj C hl ml_RX7_3 (Nat.le_trans (by decide) hR.1) (Nat.le_trans (by decide) hR.2.1) (Nat.le_of_ble_eq_true rfl) dX7_init_1 ?_
  refine lv_aload_n C.1 C.2.1 dX7_init_4 rfl (lv_at hl 0 rfl) ?_
  refine lv_bipush (v := (36 : Int32)) C.1 C.2.1 dX7_init_5 (by decide) ?_
  have ea3 := h.lt hk_a0 (by decide)
  obtain ⟨b4, eb4, hf⟩ := lt_in hf
  obtain ⟨σ2, eσ2, hf⟩ := lt_in hf
  refine x_newa C K h (ty := .int) rfl ac_int 0 10 rfl (fun x hx => by cases hx) (a0 := fun n => (n, .inl fun _ => 0)) (fun _ => rfl) (fun _ _ => rfl) (by decide) (by decide) (Nat.le_trans (by decide) hR.2.2.1) (Nat.le_trans (by decide) hR.2.2.2) dX7_init_7 (fun ad1 H had1 h hX => ?_)
  rw [← eσ2] at h hX
  rw [← eb4]
  rw [← had1 a0 ea3] at hl
  rw [← had1 a0 ea3]
  have hag := hag.trans hE.1 had1
  have hE := hE.trans hX
  have hk_a0 := hX.k hk_a0 (by decide)
  refine W.widen (k := 1) (n := 36) (by decide) (by decide) ?_
  have hk_b4 : kd_ σ2 b4 = 10 := by rw [eσ2, eb4]; exact nw_kd _ _ _
  have hE := hE.up (up_r σ2 a0 0 (some b4) (fun b hb => by cases hb; exact h.lt hk_b4 (by decide)))
  refine x_putRF (v := (some b4)) C K hin h cl_7 hk_a0 0 (by decide) fl_RX7_9 rfl rfl (fun b hb => by cases hb; exact h.lt hk_b4 (by decide)) (rv_nar _ _) (rv_fit _ _ (by decide)) (Nat.le_of_ble_eq_true rfl) (fun _ _ _ => rfl) dX7_init_9 (fun H locs h => ?_)
  refine lv_aload_n C.1 C.2.1 dX7_init_12 rfl (lv_at hl 0 rfl) ?_
  refine lv_bipush (v := (36 : Int32)) C.1 C.2.1 dX7_init_13 (by decide) ?_
  have ea7 := h.lt hk_a0 (by decide)
  obtain ⟨b8, eb8, hf⟩ := lt_in hf
  obtain ⟨σ6, eσ6, hf⟩ := lt_in hf
  refine x_newa C K h (ty := .int) rfl ac_int 0 10 rfl (fun x hx => by cases hx) (a0 := fun n => (n, .inl fun _ => 0)) (fun _ => rfl) (fun _ _ => rfl) (by decide) (by decide) (Nat.le_trans (by decide) hR.2.2.1) (Nat.le_trans (by decide) hR.2.2.2) dX7_init_15 (fun ad5 H had5 h hX => ?_)
  rw [← eσ6] at h hX
  rw [← eb8]
  rw [← had5 a0 ea7] at hl
  rw [← had5 a0 ea7]
  have hag := hag.trans hE.1 had5
  have hE := hE.trans hX
  have hk_a0 := hX.k hk_a0 (by decide)
  refine W.widen (k := 2) (n := 72) (by decide) (by decide) ?_
  have hk_b8 : kd_ σ6 b8 = 10 := by rw [eσ6, eb8]; exact nw_kd _ _ _
  have hE := hE.up (up_r σ6 a0 1 (some b8) (fun b hb => by cases hb; exact h.lt hk_b8 (by decide)))
  refine x_putRF (v := (some b8)) C K hin h cl_7 hk_a0 1 (by decide) fl_RX7_15 rfl rfl (fun b hb => by cases hb; exact h.lt hk_b8 (by decide)) (rv_nar _ _) (rv_fit _ _ (by decide)) (Nat.le_of_ble_eq_true rfl) (fun _ _ _ => rfl) dX7_init_17 (fun H locs h => ?_)
  refine lv_aload_n C.1 C.2.1 dX7_init_20 rfl (lv_at hl 0 rfl) ?_
  refine lv_bipush (v := (36 : Int32)) C.1 C.2.1 dX7_init_21 (by decide) ?_
  have ea11 := h.lt hk_a0 (by decide)
  obtain ⟨b12, eb12, hf⟩ := lt_in hf
  obtain ⟨σ10, eσ10, hf⟩ := lt_in hf
  refine x_newa C K h (ty := .int) rfl ac_int 0 10 rfl (fun x hx => by cases hx) (a0 := fun n => (n, .inl fun _ => 0)) (fun _ => rfl) (fun _ _ => rfl) (by decide) (by decide) (Nat.le_trans (by decide) hR.2.2.1) (Nat.le_trans (by decide) hR.2.2.2) dX7_init_23 (fun ad9 H had9 h hX => ?_)
  rw [← eσ10] at h hX
  rw [← eb12]
  rw [← had9 a0 ea11] at hl
  rw [← had9 a0 ea11]
  have hag := hag.trans hE.1 had9
  have hE := hE.trans hX
  have hk_a0 := hX.k hk_a0 (by decide)
  refine W.widen (k := 3) (n := 108) (by decide) (by decide) ?_
  have hk_b12 : kd_ σ10 b12 = 10 := by rw [eσ10, eb12]; exact nw_kd _ _ _
  have hE := hE.up (up_r σ10 a0 2 (some b12) (fun b hb => by cases hb; exact h.lt hk_b12 (by decide)))
  refine x_putRF (v := (some b12)) C K hin h cl_7 hk_a0 2 (by decide) fl_RX7_18 rfl rfl (fun b hb => by cases hb; exact h.lt hk_b12 (by decide)) (rv_nar _ _) (rv_fit _ _ (by decide)) (Nat.le_of_ble_eq_true rfl) (fun _ _ _ => rfl) dX7_init_25 (fun H locs h => ?_)
  refine lv_aload_n C.1 C.2.1 dX7_init_28 rfl (lv_at hl 0 rfl) ?_
  refine lv_bipush (v := (36 : Int32)) C.1 C.2.1 dX7_init_29 (by decide) ?_
  have ea15 := h.lt hk_a0 (by decide)
  obtain ⟨b16, eb16, hf⟩ := lt_in hf
  obtain ⟨σ14, eσ14, hf⟩ := lt_in hf
  refine x_newa C K h (ty := .int) rfl ac_int 0 10 rfl (fun x hx => by cases hx) (a0 := fun n => (n, .inl fun _ => 0)) (fun _ => rfl) (fun _ _ => rfl) (by decide) (by decide) (Nat.le_trans (by decide) hR.2.2.1) (Nat.le_trans (by decide) hR.2.2.2) dX7_init_31 (fun ad13 H had13 h hX => ?_)
  rw [← eσ14] at h hX
  rw [← eb16]
  rw [← had13 a0 ea15] at hl
  rw [← had13 a0 ea15]
  have hag := hag.trans hE.1 had13
  have hE := hE.trans hX
  have hk_a0 := hX.k hk_a0 (by decide)
  refine W.widen (k := 4) (n := 144) (by decide) (by decide) ?_
  have hk_b16 : kd_ σ14 b16 = 10 := by rw [eσ14, eb16]; exact nw_kd _ _ _
  have hE := hE.up (up_r σ14 a0 3 (some b16) (fun b hb => by cases hb; exact h.lt hk_b16 (by decide)))
  refine x_putRF (v := (some b16)) C K hin h cl_7 hk_a0 3 (by decide) fl_RX7_21 rfl rfl (fun b hb => by cases hb; exact h.lt hk_b16 (by decide)) (rv_nar _ _) (rv_fit _ _ (by decide)) (Nat.le_of_ble_eq_true rfl) (fun _ _ _ => rfl) dX7_init_33 (fun H locs h => ?_)
  refine lv_aload_n C.1 C.2.1 dX7_init_36 rfl (lv_at hl 0 rfl) ?_
  refine lv_sipush (v := (288 : Int32)) C.1 C.2.1 dX7_init_37 (by decide) ?_
  have ea19 := h.lt hk_a0 (by decide)
  obtain ⟨b20, eb20, hf⟩ := lt_in hf
  obtain ⟨σ18, eσ18, hf⟩ := lt_in hf
  refine x_newa C K h (ty := .int) rfl ac_int 0 10 rfl (fun x hx => by cases hx) (a0 := fun n => (n, .inl fun _ => 0)) (fun _ => rfl) (fun _ _ => rfl) (by decide) (by decide) (Nat.le_trans (by decide) hR.2.2.1) (Nat.le_trans (by decide) hR.2.2.2) dX7_init_40 (fun ad17 H had17 h hX => ?_)
  rw [← eσ18] at h hX
  rw [← eb20]
  rw [← had17 a0 ea19] at hl
  rw [← had17 a0 ea19]
  have hag := hag.trans hE.1 had17
  have hE := hE.trans hX
  have hk_a0 := hX.k hk_a0 (by decide)
  refine W.widen (k := 5) (n := 432) (by decide) (by decide) ?_
  have hk_b20 : kd_ σ18 b20 = 10 := by rw [eσ18, eb20]; exact nw_kd _ _ _
  have hE := hE.up (up_r σ18 a0 4 (some b20) (fun b hb => by cases hb; exact h.lt hk_b20 (by decide)))
  refine x_putRF (v := (some b20)) C K hin h cl_7 hk_a0 4 (by decide) fl_RX7_24 rfl rfl (fun b hb => by cases hb; exact h.lt hk_b20 (by decide)) (rv_nar _ _) (rv_fit _ _ (by decide)) (Nat.le_of_ble_eq_true rfl) (fun _ _ _ => rfl) dX7_init_42 (fun H locs h => ?_)
  refine lv_aload_n C.1 C.2.1 dX7_init_45 rfl (lv_at hl 0 rfl) ?_
  refine lv_iconst (v := (0 : Int32)) C.1 C.2.1 dX7_init_46 (by decide) ?_
  refine x_putI C K h cl_7 hk_a0 5 (by decide) fl_RX7_27 rfl rfl rfl (Nat.le_of_ble_eq_true rfl) (fun _ _ _ => rfl) dX7_init_47 (fun H locs h => ?_)
  have hE := hE.up (up_i (ur_ σ18 a0 4 (some b20)) a0 5 (0 : Int32))
  refine lv_aload_n C.1 C.2.1 dX7_init_50 rfl (lv_at hl 0 rfl) ?_
  refine lv_iconst (v := (0 : Int32)) C.1 C.2.1 dX7_init_51 (by decide) ?_
  refine x_putI C K h cl_7 hk_a0 6 (by decide) fl_RX7_31 rfl rfl rfl (Nat.le_of_ble_eq_true rfl) (fun _ _ _ => rfl) dX7_init_52 (fun H locs h => ?_)
  have hE := hE.up (up_i (ui_ (ur_ σ18 a0 4 (some b20)) a0 5 (0 : Int32)) a0 6 (0 : Int32))
  refine lv_aload_n C.1 C.2.1 dX7_init_55 rfl (lv_at hl 0 rfl) ?_
  refine lv_lconst (v := (0 : Int64)) C.1 C.2.1 dX7_init_56 (by decide) ?_
  refine x_putL C K h cl_7 hk_a0 7 (by decide) fl_RX7_34 rfl rfl rfl (Nat.le_of_ble_eq_true rfl) (fun _ _ _ => rfl) dX7_init_57 (fun H locs h => ?_)
  have hE := hE.up (up_l (ui_ (ui_ (ur_ σ18 a0 4 (some b20)) a0 5 (0 : Int32)) a0 6 (0 : Int32)) a0 7 (0 : Int64))
  exact x_rvA (Nat.le_of_ble_eq_true rfl) (Nat.le_of_ble_eq_true rfl) C hr hlk hag h hE (Option.some.inj hf) dX7_init_60
theorem c_X7_init (l : Launch) (κ : Ka_) (G : va_G) (cy : Nat → ClassId) (ad : Nat → Nat) (sz : Nat) (σ : St_) (a0 : Nat) (hk_a0 : kd_ σ a0 = 7) {q : St_} (hf : f_X7_init σ a0 = some q) : Met l yX7_init (Cond.code yX7_init cX7_init 1 none :: wU_) { frames := 1, cells := 5, slots := 432, locals := 20 } (va_Pc [.ref (ad a0)] (Pr_ κ G cy ad σ sz)) (QvA_ G cy ad σ q sz) 5 432 (va_A (wl_ cy ad σ) sz) :=
  x_met (by decide) (fun p e R s m below meth c ls hR C hr hlk hin _ K h hl => w_X7_init C K hr hlk hin hR ad σ a0 Ag_.rf Ex_.rf hk_a0 hf s.heap [] ls h hl) (Nat.le_of_ble_eq_true rfl)
-- X3_stepsOf
theorem mi_X3_stepsOf : Mi_ yX3_stepsOf cX3_stepsOf 5 (some (.array .int)) 2 := ⟨co_yX3_stepsOf, in_RX3, by decide, by decide, by decide +kernel⟩
def f_X3_stepsOf_13 (fu : Nat) : Nat → St_ → Nat → Int32 → Nat → Int32 → Option (Option Nat × St_)
  | 0 => fun _ _ _ _ _ => none
  | n + 1 => fun σ  v0  v1  v3  v4 => if (nI (ln_ σ v3)) ≤ v4 then some ((some v3), σ) else (dr_ σ 10 (sr_ σ v0 7)).bind fun b2 => if (nI (ln_ σ b2)) ≤ (v1 + v4) then some ((some v3), σ) else (ix_ (v1 + v4) (ln_ σ b2)).bind fun j4 => (ix_ v4 (ln_ σ v3)).bind fun j5 => (f_X3_stepsOf_13 fu n) (ui_ σ v3 j5 (si_ σ b2 j4)) v0 v1 v3 (v4 + (1 : Int32))
set_option maxHeartbeats 4000000 in
set_option maxRecDepth 100000 in
theorem w_X3_stepsOf_13 {p : Program} {l : Launch} {e : Env} {R : Room} {s : State} {m : MethodId} {args : Array Value} {below : List Frame} {meth : Method} {c : Code} {κ : Ka_} {G : va_G} {cy : Nat → ClassId} {ad0 : Nat → Nat} {sz : Nat} {σ0 : St_} (fu : Nat) (C : CallFix p m c cX3_stepsOf 5 s args wU_ RX3) (K : Kx_ κ G cy (va_A (wl_ cy ad0 σ0) sz) s) (hr : meth.sig.returnType = some (.array .int)) (hlk : meth.locks = false) (hR : 1 ≤ R.frames ∧ 30 ≤ R.locals ∧ 1 ≤ R.cells ∧ 160 ≤ R.slots) {q : Option Nat × St_} : ∀ n : Nat, ∀ (ad : Nat → Nat) (σ : St_) (v0 : Nat) (v1 : Int32) (v3 : Nat) (v4 : Int32), Ag_ (sn_ σ0) ad0 ad → Ex_ σ0 σ → kd_ σ v0 = 3 → kd_ σ v3 = 10 → f_X3_stepsOf_13 fu n σ v0 v1 v3 v4 = some q → ∀ (H : Heap) (locs : List Loc) (ls : Array Slot), Ht_ G cy (va_A (wl_ cy ad0 σ0) sz) s ad σ H locs → lv_has ls 5 [(0, .ref (ad v0)), (1, .int v1), (3, .ref (ad v3)), (4, .int v4)] → W p l e R s m args below meth c H locs 1 160 (MQ below (QqA_ G cy ad0 σ0 q.2 sz q.1) args s 1 160 (va_A (wl_ cy ad0 σ0) sz)) (F0 m 13 ls []) := by
  intro n
  induction n with
  | zero =>
    intro ad σ v0 v1 v3 v4 hag hE hk_v0 hk_v3 hf H locs ls h hl
    cases hf
  | succ n ih =>
    intro ad σ v0 v1 v3 v4 hag hE hk_v0 hk_v3 hf H locs ls h hl
    have hf : (if (nI (ln_ σ v3)) ≤ v4 then some ((some v3), σ) else (dr_ σ 10 (sr_ σ v0 7)).bind fun b2 => if (nI (ln_ σ b2)) ≤ (v1 + v4) then some ((some v3), σ) else (ix_ (v1 + v4) (ln_ σ b2)).bind fun j4 => (ix_ v4 (ln_ σ v3)).bind fun j5 => (f_X3_stepsOf_13 fu n) (ui_ σ v3 j5 (si_ σ b2 j4)) v0 v1 v3 (v4 + (1 : Int32))) = some q := hf
    refine lv_iload C.1 C.2.1 dX3_stepsOf_13 (lv_at hl 3 rfl) ?_
    refine lv_aload_n C.1 C.2.1 dX3_stepsOf_15 rfl (lv_at hl 2 rfl) ?_
    refine x_ilen C K h hk_v3 dX3_stepsOf_16 ?_
    refine lv_icmp_ge (tgt := 51) C.1 C.2.1 dX3_stepsOf_17 (by decide) (fun c1 => ?_) (fun c1 => ?_)
    · have hf := if_t hf c1
      refine lv_aload_n C.1 C.2.1 dX3_stepsOf_51 rfl (lv_at hl 2 rfl) ?_
      exact x_rqA (v := (some v3)) (Or.inr ⟨_, rfl⟩) (Nat.le_of_ble_eq_true rfl) (Nat.le_of_ble_eq_true rfl) C hr hlk hag h hE (pf_1 (Option.some.inj hf)) (pf_2 (Option.some.inj hf)) dX3_stepsOf_52
    · have hf := if_f hf c1
      refine lv_iload_n C.1 C.2.1 dX3_stepsOf_20 rfl (lv_at hl 1 rfl) ?_
      refine lv_iload C.1 C.2.1 dX3_stepsOf_21 (lv_at hl 3 rfl) ?_
      refine lv_iadd C.1 C.2.1 dX3_stepsOf_23 ?_
      refine lv_aload_n C.1 C.2.1 dX3_stepsOf_24 rfl (lv_at hl 0 rfl) ?_
      obtain ⟨b2, hb_b2, hf⟩ := ob_ hf
      obtain ⟨hq_b2, hk_b2⟩ := dr_in hb_b2
      refine x_get (v := .ref (ad b2)) C K h cl_3 hk_v0 7 (by decide) fl_RX3_34 (hv_r (o := sr_ σ v0 7) rfl hq_b2) dX3_stepsOf_25 ?_
      refine x_ilen C K h hk_b2 dX3_stepsOf_28 ?_
      refine lv_icmp_ge (tgt := 51) C.1 C.2.1 dX3_stepsOf_29 (by decide) (fun c3 => ?_) (fun c3 => ?_)
      · have hf := if_t hf c3
        refine lv_aload_n C.1 C.2.1 dX3_stepsOf_51 rfl (lv_at hl 2 rfl) ?_
        exact x_rqA (v := (some v3)) (Or.inr ⟨_, rfl⟩) (Nat.le_of_ble_eq_true rfl) (Nat.le_of_ble_eq_true rfl) C hr hlk hag h hE (pf_1 (Option.some.inj hf)) (pf_2 (Option.some.inj hf)) dX3_stepsOf_52
      · have hf := if_f hf c3
        refine lv_aload_n C.1 C.2.1 dX3_stepsOf_32 rfl (lv_at hl 2 rfl) ?_
        refine lv_iload C.1 C.2.1 dX3_stepsOf_33 (lv_at hl 3 rfl) ?_
        refine lv_aload_n C.1 C.2.1 dX3_stepsOf_35 rfl (lv_at hl 0 rfl) ?_
        refine x_get (v := .ref (ad b2)) C K h cl_3 hk_v0 7 (by decide) fl_RX3_34 (hv_r (o := sr_ σ v0 7) rfl hq_b2) dX3_stepsOf_36 ?_
        refine lv_iload_n C.1 C.2.1 dX3_stepsOf_39 rfl (lv_at hl 1 rfl) ?_
        refine lv_iload C.1 C.2.1 dX3_stepsOf_40 (lv_at hl 3 rfl) ?_
        refine lv_iadd C.1 C.2.1 dX3_stepsOf_42 ?_
        obtain ⟨j4, hj_j4, hf⟩ := ob_ hf
        refine x_iald C K h hk_b2 hj_j4 dX3_stepsOf_43 ?_
        obtain ⟨j5, hj_j5, hf⟩ := ob_ hf
        refine x_iast C K h hk_v3 hj_j5 dX3_stepsOf_44 (fun H locs h => ?_)
        have hE := hE.up (up_i σ v3 j5 (si_ σ b2 j4))
        refine lv_iinc (v := v4 + (1 : Int32)) (lv' := [(4, .int (v4 + (1 : Int32))), (0, .ref (ad v0)), (1, .int v1), (3, .ref (ad v3))]) C.1 C.2.1 dX3_stepsOf_45 hl (k := 3) rfl rfl (by decide) rfl (fun ls hl => ?_)
        refine lv_goto (tgt := 13) C.1 C.2.1 dX3_stepsOf_48 (by decide) ?_
        refine W.widen (k := 1) (n := 160) (by decide) (by decide) ?_
        exact ih ad (ui_ σ v3 j5 (si_ σ b2 j4)) v0 v1 v3 (v4 + (1 : Int32)) hag hE hk_v0 hk_v3 hf _ _ _ h (lv_sub hl [1, 2, 3, 0] rfl)
def f_X3_stepsOf (fu : Nat) (σ : St_) (a0 : Nat) (x1 : Int32) (x2 : Int32) : Option (Option Nat × St_) := if (¬ (if (0 : Int32) < (x2 - x1) then (x2 - x1) else (0 : Int32)) < 0 ∧ (if (0 : Int32) < (x2 - x1) then (x2 - x1) else (0 : Int32)).toNatClampNeg ≤ 160) then lt_ (sn_ σ) fun b7 => lt_ (nw_ σ 10 (if (0 : Int32) < (x2 - x1) then (x2 - x1) else (0 : Int32)).toNatClampNeg) fun σ4 => f_X3_stepsOf_13 fu fu σ4 a0 x1 b7 (0 : Int32) else none
set_option maxHeartbeats 4000000 in
set_option maxRecDepth 100000 in
theorem w_X3_stepsOf {p : Program} {l : Launch} {e : Env} {R : Room} {s : State} {m : MethodId} {args : Array Value} {below : List Frame} {meth : Method} {c : Code} {κ : Ka_} {G : va_G} {cy : Nat → ClassId} {ad0 : Nat → Nat} {sz : Nat} {σ0 : St_} (fu : Nat) (C : CallFix p m c cX3_stepsOf 5 s args wU_ RX3) (K : Kx_ κ G cy (va_A (wl_ cy ad0 σ0) sz) s) (hr : meth.sig.returnType = some (.array .int)) (hlk : meth.locks = false) (hR : 1 ≤ R.frames ∧ 30 ≤ R.locals ∧ 1 ≤ R.cells ∧ 160 ≤ R.slots) {q : Option Nat × St_} : ∀ (ad : Nat → Nat) (σ : St_) (a0 : Nat) (x1 : Int32) (x2 : Int32), Ag_ (sn_ σ0) ad0 ad → Ex_ σ0 σ → kd_ σ a0 = 3 → f_X3_stepsOf fu σ a0 x1 x2 = some q → ∀ (H : Heap) (locs : List Loc) (ls : Array Slot), Ht_ G cy (va_A (wl_ cy ad0 σ0) sz) s ad σ H locs → lv_has ls 5 [(0, .ref (ad a0)), (1, .int x1), (2, .int x2)] → W p l e R s m args below meth c H locs 0 0 (MQ below (QqA_ G cy ad0 σ0 q.2 sz q.1) args s 1 160 (va_A (wl_ cy ad0 σ0) sz)) (F0 m 0 ls []) := by
  intro ad σ a0 x1 x2 hag hE hk_a0 hf H locs ls h hl
  have hf : (if (¬ (if (0 : Int32) < (x2 - x1) then (x2 - x1) else (0 : Int32)) < 0 ∧ (if (0 : Int32) < (x2 - x1) then (x2 - x1) else (0 : Int32)).toNatClampNeg ≤ 160) then lt_ (sn_ σ) fun b7 => lt_ (nw_ σ 10 (if (0 : Int32) < (x2 - x1) then (x2 - x1) else (0 : Int32)).toNatClampNeg) fun σ4 => f_X3_stepsOf_13 fu fu σ4 a0 x1 b7 (0 : Int32) else none) = some q := hf
  refine lv_iconst (v := (0 : Int32)) C.1 C.2.1 dX3_stepsOf_0 (by decide) ?_
  refine lv_iload_n C.1 C.2.1 dX3_stepsOf_1 rfl (lv_at hl 2 rfl) ?_
  refine lv_iload_n C.1 C.2.1 dX3_stepsOf_2 rfl (lv_at hl 1 rfl) ?_
  refine lv_isub C.1 C.2.1 dX3_stepsOf_3 ?_
  refine va_mmax C.1 C.2.1 (C.2.2.1.trans hl.1.symm) C.2.2.2.1 (C.2.2.2.2 _ ml_RX3_70) (C.2.2.2.2 _ st_yJ9_max_7cf53) (C.2.2.2.2 _ in_RJ9) (C.2.2.2.2 _ co_yJ9_max_7cf53) (Nat.le_trans (by decide) hR.1) (Nat.le_trans (Nat.le_of_ble_eq_true rfl) hR.2.1) (Nat.le_trans (by decide) hR.2.2.1) (Nat.le_trans (by decide) hR.2.2.2) dX3_stepsOf_4 ?_
  obtain ⟨hg5, hf⟩ := gd_ hf
  have ea6 := h.lt hk_a0 (by decide)
  obtain ⟨b7, eb7, hf⟩ := lt_in hf
  obtain ⟨σ4, eσ4, hf⟩ := lt_in hf
  refine x_newa C K h (ty := .int) rfl ac_int 0 10 rfl (fun x hx => by cases hx) (a0 := fun n => (n, .inl fun _ => 0)) (fun _ => rfl) (fun _ _ => rfl) hg5.1 (Nat.le_trans (Nat.mul_le_mul_right _ hg5.2) (by decide)) (Nat.le_trans (by decide) hR.2.2.1) (Nat.le_trans (Nat.add_le_add_left hg5.2 _) (Nat.le_trans (by decide) hR.2.2.2)) dX3_stepsOf_7 (fun ad3 H had3 h hX => ?_)
  rw [← eσ4] at h hX
  rw [← eb7]
  refine W.widen (k := 1) (n := 160) (by decide) (Nat.add_le_add_left hg5.2 _) ?_
  rw [← had3 a0 ea6] at hl
  have hag := hag.trans hE.1 had3
  have hE := hE.trans hX
  have hk_a0 := hX.k hk_a0 (by decide)
  refine W.widen (k := 1) (n := 160) (by decide) (by decide) ?_
  have hk_b7 : kd_ σ4 b7 = 10 := by rw [eσ4, eb7]; exact nw_kd _ _ _
  refine lv_astore_n (i := 3) (lv' := [(3, .ref (ad3 b7)), (0, .ref (ad3 a0)), (1, .int x1), (2, .int x2)]) C.1 C.2.1 dX3_stepsOf_9 rfl hl (by decide) rfl (fun ls hl => ?_)
  refine lv_iconst (v := (0 : Int32)) C.1 C.2.1 dX3_stepsOf_10 (by decide) ?_
  refine lv_istore (i := 4) (lv' := [(4, .int (0 : Int32)), (3, .ref (ad3 b7)), (0, .ref (ad3 a0)), (1, .int x1), (2, .int x2)]) C.1 C.2.1 dX3_stepsOf_11 hl (by decide) rfl (fun ls hl => ?_)
  refine W.widen (k := 1) (n := 160) (by decide) (by decide) ?_
  exact w_X3_stepsOf_13 fu C K hr hlk hR fu ad3 σ4 a0 x1 b7 (0 : Int32) hag hE hk_a0 hk_b7 hf _ _ _ h (lv_sub hl [2, 3, 1, 0] rfl)
theorem c_X3_stepsOf (fu : Nat) (l : Launch) (κ : Ka_) (G : va_G) (cy : Nat → ClassId) (ad : Nat → Nat) (sz : Nat) (σ : St_) (a0 : Nat) (x1 : Int32) (x2 : Int32) (hk_a0 : kd_ σ a0 = 3) {q : Option Nat × St_} (hf : f_X3_stepsOf fu σ a0 x1 x2 = some q) : Met l yX3_stepsOf (Cond.code yX3_stepsOf cX3_stepsOf 5 (some (.array .int)) :: wU_) { frames := 1, cells := 1, slots := 160, locals := 30 } (va_Pc [.ref (ad a0), .int x1, .int x2] (Pr_ κ G cy ad σ sz)) (QqA_ G cy ad σ q.2 sz q.1) 1 160 (va_A (wl_ cy ad σ) sz) :=
  x_met (by decide) (fun p e R s m below meth c ls hR C hr hlk hin _ K h hl => w_X3_stepsOf fu C K hr hlk hR ad σ a0 x1 x2 Ag_.rf Ex_.rf hk_a0 hf s.heap [] ls h hl) (Nat.le_of_ble_eq_true rfl)
-- X3_made
theorem mi_X3_made : Mi_ yX3_made cX3_made 1 (some (.object "FlownOnceAndLaid$Text")) 0 := ⟨co_yX3_made, in_RX3, by decide, by decide, by decide +kernel⟩
def f_X3_made (fu : Nat) (σ : St_) (a0 : Nat) : Option (Option Nat × St_) := lt_ (sn_ σ) fun b4 => lt_ (nw_ σ 5 0) fun σ2 => (f_X3_stepsOf fu σ2 a0 (0 : Int32) (si_ σ2 a0 9)).bind fun q5 => (dr_ q5.2 10 q5.1).bind fun b11 => (f_X3_stepsOf fu q5.2 a0 (si_ q5.2 a0 9) (si_ q5.2 a0 10)).bind fun q12 => (dr_ q12.2 10 q12.1).bind fun b19 => (f_X3_stepsOf fu q12.2 a0 (si_ q12.2 a0 10) (si_ q12.2 a0 8)).bind fun q20 => (dr_ q20.2 10 q20.1).bind fun b28 => some ((some b4), f_X5_init q20.2 b4 b11 b19 b28)
set_option maxHeartbeats 4000000 in
set_option maxRecDepth 100000 in
theorem w_X3_made {p : Program} {l : Launch} {e : Env} {R : Room} {s : State} {m : MethodId} {args : Array Value} {below : List Frame} {meth : Method} {c : Code} {κ : Ka_} {G : va_G} {cy : Nat → ClassId} {ad0 : Nat → Nat} {sz : Nat} {σ0 : St_} (fu : Nat) (C : CallFix p m c cX3_made 1 s args wU_ RX3) (K : Kx_ κ G cy (va_A (wl_ cy ad0 σ0) sz) s) (hr : meth.sig.returnType = some (.object "FlownOnceAndLaid$Text")) (hlk : meth.locks = false) (hR : 2 ≤ R.frames ∧ 54 ≤ R.locals ∧ 4 ≤ R.cells ∧ 483 ≤ R.slots) {q : Option Nat × St_} : ∀ (ad : Nat → Nat) (σ : St_) (a0 : Nat), Ag_ (sn_ σ0) ad0 ad → Ex_ σ0 σ → kd_ σ a0 = 3 → f_X3_made fu σ a0 = some q → ∀ (H : Heap) (locs : List Loc) (ls : Array Slot), Ht_ G cy (va_A (wl_ cy ad0 σ0) sz) s ad σ H locs → lv_has ls 1 [(0, .ref (ad a0))] → W p l e R s m args below meth c H locs 0 0 (MQ below (QqA_ G cy ad0 σ0 q.2 sz q.1) args s 4 483 (va_A (wl_ cy ad0 σ0) sz)) (F0 m 0 ls []) := by
  intro ad σ a0 hag hE hk_a0 hf H locs ls h hl
  have hf : (lt_ (sn_ σ) fun b4 => lt_ (nw_ σ 5 0) fun σ2 => (f_X3_stepsOf fu σ2 a0 (0 : Int32) (si_ σ2 a0 9)).bind fun q5 => (dr_ q5.2 10 q5.1).bind fun b11 => (f_X3_stepsOf fu q5.2 a0 (si_ q5.2 a0 9) (si_ q5.2 a0 10)).bind fun q12 => (dr_ q12.2 10 q12.1).bind fun b19 => (f_X3_stepsOf fu q12.2 a0 (si_ q12.2 a0 10) (si_ q12.2 a0 8)).bind fun q20 => (dr_ q20.2 10 q20.1).bind fun b28 => some ((some b4), f_X5_init q20.2 b4 b11 b19 b28)) = some q := hf
  have ea3 := h.lt hk_a0 (by decide)
  obtain ⟨b4, eb4, hf⟩ := lt_in hf
  obtain ⟨σ2, eσ2, hf⟩ := lt_in hf
  refine x_new C K h cl_5 kl_RX3_61 it_RX5 in_RX5 (fun j hj => by rcases (show j = 0 ∨ j = 1 ∨ j = 2 by omega) with rfl | rfl | rfl <;> rfl) (Nat.le_trans (by decide) hR.2.2.1) (Nat.le_trans (by decide) hR.2.2.2) dX3_made_0 (fun ad1 H had1 h hX => ?_)
  rw [← eσ2] at h hX
  rw [← eb4]
  rw [← had1 a0 ea3] at hl
  have hag := hag.trans hE.1 had1
  have hE := hE.trans hX
  have hk_a0 := hX.k hk_a0 (by decide)
  refine W.widen (k := 1) (n := 3) (by decide) (by decide) ?_
  have hk_b4 : kd_ σ2 b4 = 5 := by rw [eσ2, eb4]; exact nw_kd _ _ _
  refine lv_dup C.1 C.2.1 dX3_made_3 rfl ?_
  refine lv_aload_n C.1 C.2.1 dX3_made_4 rfl (lv_at hl 0 rfl) ?_
  refine lv_iconst (v := (0 : Int32)) C.1 C.2.1 dX3_made_5 (by decide) ?_
  refine lv_aload_n C.1 C.2.1 dX3_made_6 rfl (lv_at hl 0 rfl) ?_
  refine x_get (v := .int (si_ σ2 a0 9)) C K h cl_3 hk_a0 9 (by decide) fl_RX3_40 rfl dX3_made_7 ?_
  obtain ⟨q5, hq_q5, hf⟩ := ob_ hf
  have ea7 := h.lt hk_a0 (by decide)
  have ea8 := h.lt hk_b4 (by decide)
  obtain ⟨o9, σ10⟩ := q5
  try dsimp only at hf
  refine x_aqA K h (x_V C K h [.int (0 : Int32), .int (si_ σ2 a0 9)] (c_X3_stepsOf fu l κ G cy ad1 H.size σ2 a0 (0 : Int32) (si_ σ2 a0 9) hk_a0 hq_q5) mi_X3_stepsOf rfl im_yX3_stepsOf se_yX3_stepsOf ml_RX3_63 cl_3 hk_a0 ⟨rfl, rfl, Nat.le_trans (Nat.le_of_ble_eq_true rfl) hR.1, Nat.le_trans (Nat.le_of_ble_eq_true rfl) hR.2.1⟩ hl (Nat.le_of_ble_eq_true rfl) dX3_made_10 ⟨Nat.le_trans (by decide) hR.2.2.1, Nat.le_trans (by decide) hR.2.2.2⟩ rfl) (fun ad6 H locs had6 h hX => ?_)
  try dsimp only at h hX ⊢
  rw [← had6 a0 ea7] at hl
  rw [← had6 b4 ea8]
  have hag := hag.trans hE.1 had6
  have hE := hE.trans hX
  have hk_a0 := hX.k hk_a0 (by decide)
  have hk_b4 := hX.k hk_b4 (by decide)
  refine W.widen (k := 2) (n := 163) (by decide) (by decide) ?_
  obtain ⟨b11, hb_b11, hf_b11⟩ := ob_ hf
  obtain ⟨hq_b11, hk_b11⟩ := dr_in hb_b11
  subst hq_b11
  have hf := hf_b11
  rw [rv_s]
  refine lv_aload_n C.1 C.2.1 dX3_made_13 rfl (lv_at hl 0 rfl) ?_
  refine lv_aload_n C.1 C.2.1 dX3_made_14 rfl (lv_at hl 0 rfl) ?_
  refine x_get (v := .int (si_ σ10 a0 9)) C K h cl_3 hk_a0 9 (by decide) fl_RX3_40 rfl dX3_made_15 ?_
  refine lv_aload_n C.1 C.2.1 dX3_made_18 rfl (lv_at hl 0 rfl) ?_
  refine x_get (v := .int (si_ σ10 a0 10)) C K h cl_3 hk_a0 10 (by decide) fl_RX3_43 rfl dX3_made_19 ?_
  obtain ⟨q12, hq_q12, hf⟩ := ob_ hf
  have ea14 := h.lt hk_a0 (by decide)
  have ea15 := h.lt hk_b4 (by decide)
  have ea16 := h.lt hk_b11 (by decide)
  obtain ⟨o17, σ18⟩ := q12
  try dsimp only at hf
  refine x_aqA K h (x_V C K h [.int (si_ σ10 a0 9), .int (si_ σ10 a0 10)] (c_X3_stepsOf fu l κ G cy ad6 H.size σ10 a0 (si_ σ10 a0 9) (si_ σ10 a0 10) hk_a0 hq_q12) mi_X3_stepsOf rfl im_yX3_stepsOf se_yX3_stepsOf ml_RX3_63 cl_3 hk_a0 ⟨rfl, rfl, Nat.le_trans (Nat.le_of_ble_eq_true rfl) hR.1, Nat.le_trans (Nat.le_of_ble_eq_true rfl) hR.2.1⟩ hl (Nat.le_of_ble_eq_true rfl) dX3_made_22 ⟨Nat.le_trans (by decide) hR.2.2.1, Nat.le_trans (by decide) hR.2.2.2⟩ rfl) (fun ad13 H locs had13 h hX => ?_)
  try dsimp only at h hX ⊢
  rw [← had13 a0 ea14] at hl
  rw [← had13 b4 ea15]
  rw [← had13 b11 ea16]
  have hag := hag.trans hE.1 had13
  have hE := hE.trans hX
  have hk_a0 := hX.k hk_a0 (by decide)
  have hk_b4 := hX.k hk_b4 (by decide)
  have hk_b11 := hX.k hk_b11 (by decide)
  refine W.widen (k := 3) (n := 323) (by decide) (by decide) ?_
  obtain ⟨b19, hb_b19, hf_b19⟩ := ob_ hf
  obtain ⟨hq_b19, hk_b19⟩ := dr_in hb_b19
  subst hq_b19
  have hf := hf_b19
  rw [rv_s]
  refine lv_aload_n C.1 C.2.1 dX3_made_25 rfl (lv_at hl 0 rfl) ?_
  refine lv_aload_n C.1 C.2.1 dX3_made_26 rfl (lv_at hl 0 rfl) ?_
  refine x_get (v := .int (si_ σ18 a0 10)) C K h cl_3 hk_a0 10 (by decide) fl_RX3_43 rfl dX3_made_27 ?_
  refine lv_aload_n C.1 C.2.1 dX3_made_30 rfl (lv_at hl 0 rfl) ?_
  refine x_get (v := .int (si_ σ18 a0 8)) C K h cl_3 hk_a0 8 (by decide) fl_RX3_37 rfl dX3_made_31 ?_
  obtain ⟨q20, hq_q20, hf⟩ := ob_ hf
  have ea22 := h.lt hk_a0 (by decide)
  have ea23 := h.lt hk_b4 (by decide)
  have ea24 := h.lt hk_b11 (by decide)
  have ea25 := h.lt hk_b19 (by decide)
  obtain ⟨o26, σ27⟩ := q20
  try dsimp only at hf
  refine x_aqA K h (x_V C K h [.int (si_ σ18 a0 10), .int (si_ σ18 a0 8)] (c_X3_stepsOf fu l κ G cy ad13 H.size σ18 a0 (si_ σ18 a0 10) (si_ σ18 a0 8) hk_a0 hq_q20) mi_X3_stepsOf rfl im_yX3_stepsOf se_yX3_stepsOf ml_RX3_63 cl_3 hk_a0 ⟨rfl, rfl, Nat.le_trans (Nat.le_of_ble_eq_true rfl) hR.1, Nat.le_trans (Nat.le_of_ble_eq_true rfl) hR.2.1⟩ hl (Nat.le_of_ble_eq_true rfl) dX3_made_34 ⟨Nat.le_trans (by decide) hR.2.2.1, Nat.le_trans (by decide) hR.2.2.2⟩ rfl) (fun ad21 H locs had21 h hX => ?_)
  try dsimp only at h hX ⊢
  rw [← had21 a0 ea22] at hl
  rw [← had21 b4 ea23]
  rw [← had21 b11 ea24]
  rw [← had21 b19 ea25]
  have hag := hag.trans hE.1 had21
  have hE := hE.trans hX
  have hk_a0 := hX.k hk_a0 (by decide)
  have hk_b4 := hX.k hk_b4 (by decide)
  have hk_b11 := hX.k hk_b11 (by decide)
  have hk_b19 := hX.k hk_b19 (by decide)
  refine W.widen (k := 4) (n := 483) (by decide) (by decide) ?_
  obtain ⟨b28, hb_b28, hf_b28⟩ := ob_ hf
  obtain ⟨hq_b28, hk_b28⟩ := dr_in hb_b28
  subst hq_b28
  have hf := hf_b28
  rw [rv_s]
  refine x_av K h (x_IN C K h [.ref (ad21 b11), .ref (ad21 b19), .ref (ad21 b28)] (c_X5_init l κ G cy ad21 H.size σ27 b4 b11 b19 b28 hk_b4 hk_b11 hk_b19 hk_b28 rfl) mi_X5_init rfl rfl im_yX5_init nm_RX3_67 ⟨rfl, rfl, Nat.le_trans (Nat.le_of_ble_eq_true rfl) hR.1, Nat.le_trans (Nat.le_of_ble_eq_true rfl) hR.2.1⟩ hl (Nat.le_of_ble_eq_true rfl) dX3_made_37 ⟨Nat.le_trans (by decide) hR.2.2.1, Nat.le_trans (by decide) hR.2.2.2⟩ rfl) (fun H locs h hX => ?_)
  have hE := hE.trans hX
  have hk_a0 := hX.k hk_a0 (by decide)
  have hk_b4 := hX.k hk_b4 (by decide)
  exact x_rqA (v := (some b4)) (Or.inl ⟨_, rfl⟩) (Nat.le_of_ble_eq_true rfl) (Nat.le_of_ble_eq_true rfl) C hr hlk hag h hE (pf_1 (Option.some.inj hf)) (pf_2 (Option.some.inj hf)) dX3_made_40
theorem c_X3_made (fu : Nat) (l : Launch) (κ : Ka_) (G : va_G) (cy : Nat → ClassId) (ad : Nat → Nat) (sz : Nat) (σ : St_) (a0 : Nat) (hk_a0 : kd_ σ a0 = 3) {q : Option Nat × St_} (hf : f_X3_made fu σ a0 = some q) : Met l yX3_made (Cond.code yX3_made cX3_made 1 (some (.object "FlownOnceAndLaid$Text")) :: wU_) { frames := 2, cells := 4, slots := 483, locals := 54 } (va_Pc [.ref (ad a0)] (Pr_ κ G cy ad σ sz)) (QqA_ G cy ad σ q.2 sz q.1) 4 483 (va_A (wl_ cy ad σ) sz) :=
  x_met (by decide) (fun p e R s m below meth c ls hR C hr hlk hin _ K h hl => w_X3_made fu C K hr hlk hR ad σ a0 Ag_.rf Ex_.rf hk_a0 hf s.heap [] ls h hl) (Nat.le_of_ble_eq_true rfl)
-- X8_text
theorem mi_X8_text : Mi_ yX8_text cX8_text 2 (some .int) 0 := ⟨co_yX8_text, in_RX8, by decide, by decide, by decide +kernel⟩
def f_X8_text (fu : Nat) (σ : St_) (a0 : Nat) : Option (Int32 × St_) := (dr_ σ 15 (sr_ σ a0 4)).bind fun b1 => if (f_X8_isBelow (si_ σ a0 5) (nI (ln_ σ b1))) = 0 then some ((-4 : Int32), σ) else (dr_ σ 3 (sr_ σ a0 3)).bind fun b5 => (f_X3_reads fu σ b5).bind fun q6 => if q6.1 = 0 then (dr_ q6.2 3 (sr_ q6.2 a0 3)).bind fun b21 => (f_X3_place q6.2 b21).bind fun q22 => some ((-100 : Int32) - q22, f_X3_clear q6.2 b21) else (dr_ q6.2 15 (sr_ q6.2 a0 4)).bind fun b9 => (dr_ q6.2 3 (sr_ q6.2 a0 3)).bind fun b10 => (f_X3_made fu q6.2 b10).bind fun q11 => (dr_ q11.2 5 q11.1).bind fun b17 => (ix_ (si_ q6.2 a0 5) (ln_ q11.2 b9)).bind fun j18 => (dr_ (ur_ q11.2 b9 j18 (some b17)) 3 (sr_ (ur_ q11.2 b9 j18 (some b17)) a0 3)).bind fun b19 => some ((si_ (ui_ (f_X3_clear (ur_ q11.2 b9 j18 (some b17)) b19) a0 5 ((si_ (f_X3_clear (ur_ q11.2 b9 j18 (some b17)) b19) a0 5) + (1 : Int32))) a0 5) - (1 : Int32), ui_ (f_X3_clear (ur_ q11.2 b9 j18 (some b17)) b19) a0 5 ((si_ (f_X3_clear (ur_ q11.2 b9 j18 (some b17)) b19) a0 5) + (1 : Int32)))
set_option maxHeartbeats 4000000 in
set_option maxRecDepth 100000 in
theorem w_X8_text {p : Program} {l : Launch} {e : Env} {R : Room} {s : State} {m : MethodId} {args : Array Value} {below : List Frame} {meth : Method} {c : Code} {κ : Ka_} {G : va_G} {cy : Nat → ClassId} {ad0 : Nat → Nat} {sz : Nat} {σ0 : St_} (fu : Nat) (C : CallFix p m c cX8_text 2 s args wU_ RX8) (K : Kx_ κ G cy (va_A (wl_ cy ad0 σ0) sz) s) (hr : meth.sig.returnType = some .int) (hlk : meth.locks = false) (hR : 163 ≤ R.frames ∧ 8141 ≤ R.locals ∧ 4 ≤ R.cells ∧ 483 ≤ R.slots) {q : Int32 × St_} : ∀ (ad : Nat → Nat) (σ : St_) (a0 : Nat), Ag_ (sn_ σ0) ad0 ad → Ex_ σ0 σ → kd_ σ a0 = 8 → f_X8_text fu σ a0 = some q → ∀ (H : Heap) (locs : List Loc) (ls : Array Slot), Ht_ G cy (va_A (wl_ cy ad0 σ0) sz) s ad σ H locs → lv_has ls 2 [(0, .ref (ad a0))] → W p l e R s m args below meth c H locs 0 0 (MQ below (QiA_ G cy ad0 σ0 q.2 sz q.1) args s 4 483 (va_A (wl_ cy ad0 σ0) sz)) (F0 m 0 ls []) := by
  intro ad σ a0 hag hE hk_a0 hf H locs ls h hl
  have hf : ((dr_ σ 15 (sr_ σ a0 4)).bind fun b1 => if (f_X8_isBelow (si_ σ a0 5) (nI (ln_ σ b1))) = 0 then some ((-4 : Int32), σ) else (dr_ σ 3 (sr_ σ a0 3)).bind fun b5 => (f_X3_reads fu σ b5).bind fun q6 => if q6.1 = 0 then (dr_ q6.2 3 (sr_ q6.2 a0 3)).bind fun b21 => (f_X3_place q6.2 b21).bind fun q22 => some ((-100 : Int32) - q22, f_X3_clear q6.2 b21) else (dr_ q6.2 15 (sr_ q6.2 a0 4)).bind fun b9 => (dr_ q6.2 3 (sr_ q6.2 a0 3)).bind fun b10 => (f_X3_made fu q6.2 b10).bind fun q11 => (dr_ q11.2 5 q11.1).bind fun b17 => (ix_ (si_ q6.2 a0 5) (ln_ q11.2 b9)).bind fun j18 => (dr_ (ur_ q11.2 b9 j18 (some b17)) 3 (sr_ (ur_ q11.2 b9 j18 (some b17)) a0 3)).bind fun b19 => some ((si_ (ui_ (f_X3_clear (ur_ q11.2 b9 j18 (some b17)) b19) a0 5 ((si_ (f_X3_clear (ur_ q11.2 b9 j18 (some b17)) b19) a0 5) + (1 : Int32))) a0 5) - (1 : Int32), ui_ (f_X3_clear (ur_ q11.2 b9 j18 (some b17)) b19) a0 5 ((si_ (f_X3_clear (ur_ q11.2 b9 j18 (some b17)) b19) a0 5) + (1 : Int32)))) = some q := hf
  refine lv_aload_n C.1 C.2.1 dX8_text_0 rfl (lv_at hl 0 rfl) ?_
  refine x_get (v := .int (si_ σ a0 5)) C K h cl_8 hk_a0 5 (by decide) fl_RX8_36 rfl dX8_text_1 ?_
  refine lv_aload_n C.1 C.2.1 dX8_text_4 rfl (lv_at hl 0 rfl) ?_
  obtain ⟨b1, hb_b1, hf⟩ := ob_ hf
  obtain ⟨hq_b1, hk_b1⟩ := dr_in hb_b1
  refine x_get (v := .ref (ad b1)) C K h cl_8 hk_a0 4 (by decide) fl_RX8_32 (hv_r (o := sr_ σ a0 4) rfl hq_b1) dX8_text_5 ?_
  refine x_rlen C K h 5 (by decide) rfl (fun _ _ _ _ => rfl) hk_b1 dX8_text_8 ?_
  refine x_az K h (x_S C K h [.int (si_ σ a0 5), .int (nI (ln_ σ b1))] (c_X8_isBelow l κ G cy ad H.size σ (si_ σ a0 5) (nI (ln_ σ b1)) rfl) mi_X8_isBelow rfl st_yX8_isBelow ml_RX8_116 ⟨rfl, rfl, Nat.le_trans (Nat.le_of_ble_eq_true rfl) hR.1, Nat.le_trans (Nat.le_of_ble_eq_true rfl) hR.2.1⟩ hl (Nat.le_of_ble_eq_true rfl) dX8_text_9 ⟨Nat.le_trans (by decide) hR.2.2.1, Nat.le_trans (by decide) hR.2.2.2⟩ rfl) (fun H locs h hX hz3 => ?_)
  refine lv_if_ne (tgt := 18) C.1 C.2.1 dX8_text_12 (by decide) (fun c4 => ?_) (fun c4 => ?_)
  · have hf := if_f hf c4
    refine lv_aload_n C.1 C.2.1 dX8_text_18 rfl (lv_at hl 0 rfl) ?_
    obtain ⟨b5, hb_b5, hf⟩ := ob_ hf
    obtain ⟨hq_b5, hk_b5⟩ := dr_in hb_b5
    refine x_get (v := .ref (ad b5)) C K h cl_8 hk_a0 3 (by decide) fl_RX8_26 (hv_r (o := sr_ σ a0 3) rfl hq_b5) dX8_text_19 ?_
    obtain ⟨q6, hq_q6, hf⟩ := ob_ hf
    refine x_az K h (x_VN C K h [] (c_X3_reads fu l κ G cy ad H.size σ b5 hk_b5 hq_q6) mi_X3_reads rfl im_yX3_reads se_yX3_reads nm_RX8_94 cl_3 hk_b5 ⟨rfl, rfl, Nat.le_trans (Nat.le_of_ble_eq_true rfl) hR.1, Nat.le_trans (Nat.le_of_ble_eq_true rfl) hR.2.1⟩ hl (Nat.le_of_ble_eq_true rfl) dX8_text_22 ⟨Nat.le_trans (by decide) hR.2.2.1, Nat.le_trans (by decide) hR.2.2.2⟩ rfl) (fun H locs h hX hz7 => ?_)
    have hE := hE.trans hX
    have hk_a0 := hX.k hk_a0 (by decide)
    refine lv_if_ne (tgt := 48) C.1 C.2.1 dX8_text_25 (by decide) (fun c8 => ?_) (fun c8 => ?_)
    · have hf := if_f hf c8
      refine lv_aload_n C.1 C.2.1 dX8_text_48 rfl (lv_at hl 0 rfl) ?_
      obtain ⟨b9, hb_b9, hf⟩ := ob_ hf
      obtain ⟨hq_b9, hk_b9⟩ := dr_in hb_b9
      refine x_get (v := .ref (ad b9)) C K h cl_8 hk_a0 4 (by decide) fl_RX8_32 (hv_r (o := sr_ q6.2 a0 4) rfl hq_b9) dX8_text_49 ?_
      refine lv_aload_n C.1 C.2.1 dX8_text_52 rfl (lv_at hl 0 rfl) ?_
      refine x_get (v := .int (si_ q6.2 a0 5)) C K h cl_8 hk_a0 5 (by decide) fl_RX8_36 rfl dX8_text_53 ?_
      refine lv_aload_n C.1 C.2.1 dX8_text_56 rfl (lv_at hl 0 rfl) ?_
      obtain ⟨b10, hb_b10, hf⟩ := ob_ hf
      obtain ⟨hq_b10, hk_b10⟩ := dr_in hb_b10
      refine x_get (v := .ref (ad b10)) C K h cl_8 hk_a0 3 (by decide) fl_RX8_26 (hv_r (o := sr_ q6.2 a0 3) rfl hq_b10) dX8_text_57 ?_
      obtain ⟨q11, hq_q11, hf⟩ := ob_ hf
      have ea13 := h.lt hk_a0 (by decide)
      have ea14 := h.lt hk_b9 (by decide)
      obtain ⟨o15, σ16⟩ := q11
      try dsimp only at hf
      refine x_aqA K h (x_VN C K h [] (c_X3_made fu l κ G cy ad H.size q6.2 b10 hk_b10 hq_q11) mi_X3_made rfl im_yX3_made se_yX3_made nm_RX8_98 cl_3 hk_b10 ⟨rfl, rfl, Nat.le_trans (Nat.le_of_ble_eq_true rfl) hR.1, Nat.le_trans (Nat.le_of_ble_eq_true rfl) hR.2.1⟩ hl (Nat.le_of_ble_eq_true rfl) dX8_text_60 ⟨Nat.le_trans (by decide) hR.2.2.1, Nat.le_trans (by decide) hR.2.2.2⟩ rfl) (fun ad12 H locs had12 h hX => ?_)
      try dsimp only at h hX ⊢
      rw [← had12 a0 ea13] at hl
      rw [← had12 b9 ea14]
      have hag := hag.trans hE.1 had12
      have hE := hE.trans hX
      have hk_a0 := hX.k hk_a0 (by decide)
      have hk_b9 := hX.k hk_b9 (by decide)
      refine W.widen (k := 4) (n := 483) (by decide) (by decide) ?_
      obtain ⟨b17, hb_b17, hf_b17⟩ := ob_ hf
      obtain ⟨hq_b17, hk_b17⟩ := dr_in hb_b17
      subst hq_b17
      have hf := hf_b17
      obtain ⟨j18, hj_j18, hf⟩ := ob_ hf
      have hEn := hE.up (up_r σ16 b9 j18 (some b17) (fun z hz => by cases hz; exact h.lt hk_b17 (by decide)))
      have hE := hEn
      refine x_aast C K h 5 (by decide) rfl (fun _ _ _ _ => rfl) cl_5 hk_b9 hk_b17 hj_j18 dX8_text_63 (fun H locs h => ?_)
      refine lv_aload_n C.1 C.2.1 dX8_text_64 rfl (lv_at hl 0 rfl) ?_
      obtain ⟨b19, hb_b19, hf⟩ := ob_ hf
      obtain ⟨hq_b19, hk_b19⟩ := dr_in hb_b19
      refine x_get (v := .ref (ad12 b19)) C K h cl_8 hk_a0 3 (by decide) fl_RX8_26 (hv_r (o := sr_ (ur_ σ16 b9 j18 (some b17)) a0 3) rfl hq_b19) dX8_text_65 ?_
      refine x_av K h (x_VN C K h [] (c_X3_clear l κ G cy ad12 H.size (ur_ σ16 b9 j18 (some b17)) b19 hk_b19 rfl) mi_X3_clear rfl im_yX3_clear se_yX3_clear nm_RX8_102 cl_3 hk_b19 ⟨rfl, rfl, Nat.le_trans (Nat.le_of_ble_eq_true rfl) hR.1, Nat.le_trans (Nat.le_of_ble_eq_true rfl) hR.2.1⟩ hl (Nat.le_of_ble_eq_true rfl) dX8_text_68 ⟨Nat.le_trans (by decide) hR.2.2.1, Nat.le_trans (by decide) hR.2.2.2⟩ rfl) (fun H locs h hX => ?_)
      have hE := hE.trans hX
      have hk_a0 := hX.k hk_a0 (by decide)
      refine lv_aload_n C.1 C.2.1 dX8_text_71 rfl (lv_at hl 0 rfl) ?_
      refine lv_dup C.1 C.2.1 dX8_text_72 rfl ?_
      refine x_get (v := .int (si_ (f_X3_clear (ur_ σ16 b9 j18 (some b17)) b19) a0 5)) C K h cl_8 hk_a0 5 (by decide) fl_RX8_36 rfl dX8_text_73 ?_
      refine lv_iconst (v := (1 : Int32)) C.1 C.2.1 dX8_text_76 (by decide) ?_
      refine lv_iadd C.1 C.2.1 dX8_text_77 ?_
      refine x_putI C K h cl_8 hk_a0 5 (by decide) fl_RX8_36 rfl rfl rfl (Nat.le_of_ble_eq_true rfl) (fun _ _ _ => rfl) dX8_text_78 (fun H locs h => ?_)
      have hE := hE.up (up_i (f_X3_clear (ur_ σ16 b9 j18 (some b17)) b19) a0 5 ((si_ (f_X3_clear (ur_ σ16 b9 j18 (some b17)) b19) a0 5) + (1 : Int32)))
      refine lv_aload_n C.1 C.2.1 dX8_text_81 rfl (lv_at hl 0 rfl) ?_
      refine x_get (v := .int (si_ (ui_ (f_X3_clear (ur_ σ16 b9 j18 (some b17)) b19) a0 5 ((si_ (f_X3_clear (ur_ σ16 b9 j18 (some b17)) b19) a0 5) + (1 : Int32))) a0 5)) C K h cl_8 hk_a0 5 (by decide) fl_RX8_36 rfl dX8_text_82 ?_
      refine lv_iconst (v := (1 : Int32)) C.1 C.2.1 dX8_text_85 (by decide) ?_
      refine lv_isub C.1 C.2.1 dX8_text_86 ?_
      exact x_riA (Nat.le_of_ble_eq_true rfl) (Nat.le_of_ble_eq_true rfl) C hr hlk hag h hE (pf_1 (Option.some.inj hf)) (pf_2 (Option.some.inj hf)) dX8_text_87
    · have hf := if_t hf c8
      refine lv_aload_n C.1 C.2.1 dX8_text_28 rfl (lv_at hl 0 rfl) ?_
      obtain ⟨b21, hb_b21, hf⟩ := ob_ hf
      obtain ⟨hq_b21, hk_b21⟩ := dr_in hb_b21
      refine x_get (v := .ref (ad b21)) C K h cl_8 hk_a0 3 (by decide) fl_RX8_26 (hv_r (o := sr_ q6.2 a0 3) rfl hq_b21) dX8_text_29 ?_
      obtain ⟨q22, hq_q22, hf⟩ := ob_ hf
      refine x_ai K h (x_VN C K h [] (c_X3_place l κ G cy ad H.size q6.2 b21 hk_b21 hq_q22) mi_X3_place rfl im_yX3_place se_yX3_place nm_RX8_175 cl_3 hk_b21 ⟨rfl, rfl, Nat.le_trans (Nat.le_of_ble_eq_true rfl) hR.1, Nat.le_trans (Nat.le_of_ble_eq_true rfl) hR.2.1⟩ hl (Nat.le_of_ble_eq_true rfl) dX8_text_32 ⟨Nat.le_trans (by decide) hR.2.2.1, Nat.le_trans (by decide) hR.2.2.2⟩ rfl) (fun H locs h hX => ?_)
      refine lv_istore_n (i := 1) (lv' := [(1, .int q22), (0, .ref (ad a0))]) C.1 C.2.1 dX8_text_35 rfl hl (by decide) rfl (fun ls hl => ?_)
      refine lv_aload_n C.1 C.2.1 dX8_text_36 rfl (lv_at hl 1 rfl) ?_
      refine x_get (v := .ref (ad b21)) C K h cl_8 hk_a0 3 (by decide) fl_RX8_26 (hv_r (o := sr_ q6.2 a0 3) rfl hq_b21) dX8_text_37 ?_
      refine x_av K h (x_VN C K h [] (c_X3_clear l κ G cy ad H.size q6.2 b21 hk_b21 rfl) mi_X3_clear rfl im_yX3_clear se_yX3_clear nm_RX8_102 cl_3 hk_b21 ⟨rfl, rfl, Nat.le_trans (Nat.le_of_ble_eq_true rfl) hR.1, Nat.le_trans (Nat.le_of_ble_eq_true rfl) hR.2.1⟩ hl (Nat.le_of_ble_eq_true rfl) dX8_text_40 ⟨Nat.le_trans (by decide) hR.2.2.1, Nat.le_trans (by decide) hR.2.2.2⟩ rfl) (fun H locs h hX => ?_)
      have hE := hE.trans hX
      have hk_a0 := hX.k hk_a0 (by decide)
      refine lv_bipush (v := (-100 : Int32)) C.1 C.2.1 dX8_text_43 (by decide) ?_
      refine lv_iload_n C.1 C.2.1 dX8_text_45 rfl (lv_at hl 0 rfl) ?_
      refine lv_isub C.1 C.2.1 dX8_text_46 ?_
      exact x_riA (Nat.le_of_ble_eq_true rfl) (Nat.le_of_ble_eq_true rfl) C hr hlk hag h hE (pf_1 (Option.some.inj hf)) (pf_2 (Option.some.inj hf)) dX8_text_47
  · have hf := if_t hf c4
    refine lv_bipush (v := (-4 : Int32)) C.1 C.2.1 dX8_text_15 (by decide) ?_
    exact x_riA (Nat.le_of_ble_eq_true rfl) (Nat.le_of_ble_eq_true rfl) C hr hlk hag h hE (pf_1 (Option.some.inj hf)) (pf_2 (Option.some.inj hf)) dX8_text_17
theorem c_X8_text (fu : Nat) (l : Launch) (κ : Ka_) (G : va_G) (cy : Nat → ClassId) (ad : Nat → Nat) (sz : Nat) (σ : St_) (a0 : Nat) (hk_a0 : kd_ σ a0 = 8) {q : Int32 × St_} (hf : f_X8_text fu σ a0 = some q) : Met l yX8_text (Cond.code yX8_text cX8_text 2 (some .int) :: wU_) { frames := 163, cells := 4, slots := 483, locals := 8141 } (va_Pc [.ref (ad a0)] (Pr_ κ G cy ad σ sz)) (QiA_ G cy ad σ q.2 sz q.1) 4 483 (va_A (wl_ cy ad σ) sz) :=
  x_met (by decide) (fun p e R s m below meth c ls hR C hr hlk hin _ K h hl => w_X8_text fu C K hr hlk hR ad σ a0 Ag_.rf Ex_.rf hk_a0 hf s.heap [] ls h hl) (Nat.le_of_ble_eq_true rfl)
