-- X8_setNight
theorem mi_X8_setNight : Mi_ yX8_setNight cX8_setNight 3 (some .int) 1 := ⟨co_yX8_setNight, in_RX8, by decide, by decide, by decide +kernel⟩
def f_X8_setNight (σ : St_) (a0 : Nat) (x1 : Int32) : Option (Int32 × St_) := if (f_X8_isBelow x1 (1000 : Int32)) = 0 then some ((-2 : Int32), σ) else (dr_ σ 1 (sr_ σ a0 0)).bind fun b5 => some (si_ σ b5 2, ui_ σ b5 2 x1)
set_option maxHeartbeats 4000000 in
set_option maxRecDepth 100000 in
theorem w_X8_setNight {p : Program} {l : Launch} {e : Env} {R : Room} {s : State} {m : MethodId} {args : Array Value} {below : List Frame} {meth : Method} {c : Code} {κ : Ka_} {G : va_G} {cy : Nat → ClassId} {ad : Nat → Nat} {sz : Nat} {σ0 : St_} (C : CallFix p m c cX8_setNight 3 s args wU_ RX8) (K : Kx_ κ G cy (va_A (wl_ cy ad σ0) sz) s) (hr : meth.sig.returnType = some .int) (hlk : meth.locks = false) (hR : 1 ≤ R.frames ∧ 21 ≤ R.locals) {q : Int32 × St_} : ∀ (σ : St_) (a0 : Nat) (x1 : Int32), Ex_ σ0 σ → kd_ σ a0 = 8 → f_X8_setNight σ a0 x1 = some q → ∀ (H : Heap) (locs : List Loc) (ls : Array Slot), Ht_ G cy (va_A (wl_ cy ad σ0) sz) s ad σ H locs → lv_has ls 3 [(0, .ref (ad a0)), (1, .int x1)] → W p l e R s m args below meth c H locs 0 0 (MQ below (Qi_ G cy ad σ0 q.2 sz q.1) args s 0 0 (va_A (wl_ cy ad σ0) sz)) (F0 m 0 ls []) := by
  intro σ a0 x1 hE hk_a0 hf H locs ls h hl
  have hf : (if (f_X8_isBelow x1 (1000 : Int32)) = 0 then some ((-2 : Int32), σ) else (dr_ σ 1 (sr_ σ a0 0)).bind fun b5 => some (si_ σ b5 2, ui_ σ b5 2 x1)) = some q := hf
  refine lv_iload_n C.1 C.2.1 dX8_setNight_0 rfl (lv_at hl 1 rfl) ?_
  refine lv_sipush (v := (1000 : Int32)) C.1 C.2.1 dX8_setNight_1 (by decide) ?_
  refine x_az K h (x_S C K h [.int x1, .int (1000 : Int32)] (c_X8_isBelow l κ G cy ad H.size σ x1 (1000 : Int32) rfl) mi_X8_isBelow rfl st_yX8_isBelow ml_RX8_116 ⟨rfl, rfl, Nat.le_trans (Nat.le_of_ble_eq_true rfl) hR.1, Nat.le_trans (Nat.le_of_ble_eq_true rfl) hR.2⟩ hl (Nat.le_of_ble_eq_true rfl) dX8_setNight_4 ⟨Nat.zero_le _, Nat.zero_le _⟩ rfl) (fun H locs h hX hz3 => ?_)
  refine lv_if_ne (tgt := 13) C.1 C.2.1 dX8_setNight_7 (by decide) (fun c4 => ?_) (fun c4 => ?_)
  · have hf := if_f hf c4
    refine lv_aload_n C.1 C.2.1 dX8_setNight_13 rfl (lv_at hl 0 rfl) ?_
    obtain ⟨b5, hb_b5, hf⟩ := ob_ hf
    obtain ⟨hq_b5, hk_b5⟩ := dr_in hb_b5
    refine x_get (v := .ref (ad b5)) C K h cl_8 hk_a0 0 (by decide) fl_RX8_12 (hv_r (o := sr_ σ a0 0) rfl hq_b5) dX8_setNight_14 ?_
    refine x_getN (v := .int (si_ σ b5 2)) C K h cl_1 hk_b5 2 (by decide) nf_RX8_120 rfl dX8_setNight_17 ?_
    refine lv_istore_n (i := 2) (lv' := [(2, .int (si_ σ b5 2)), (0, .ref (ad a0)), (1, .int x1)]) C.1 C.2.1 dX8_setNight_20 rfl hl (by decide) rfl (fun ls hl => ?_)
    refine lv_aload_n C.1 C.2.1 dX8_setNight_21 rfl (lv_at hl 1 rfl) ?_
    refine x_get (v := .ref (ad b5)) C K h cl_8 hk_a0 0 (by decide) fl_RX8_12 (hv_r (o := sr_ σ a0 0) rfl hq_b5) dX8_setNight_22 ?_
    refine lv_iload_n C.1 C.2.1 dX8_setNight_25 rfl (lv_at hl 2 rfl) ?_
    refine x_putIN C K h cl_1 hk_b5 2 (by decide) nf_RX8_120 rfl rfl rfl (Nat.le_of_ble_eq_true rfl) (fun _ _ _ => rfl) dX8_setNight_26 (fun H locs h => ?_)
    have hE := hE.up (up_i σ b5 2 x1)
    refine lv_iload_n C.1 C.2.1 dX8_setNight_29 rfl (lv_at hl 0 rfl) ?_
    exact x_ri C hr hlk h hE (pf_1 (Option.some.inj hf)) (pf_2 (Option.some.inj hf)) dX8_setNight_30
  · have hf := if_t hf c4
    refine lv_bipush (v := (-2 : Int32)) C.1 C.2.1 dX8_setNight_10 (by decide) ?_
    exact x_ri C hr hlk h hE (pf_1 (Option.some.inj hf)) (pf_2 (Option.some.inj hf)) dX8_setNight_12
theorem c_X8_setNight (l : Launch) (κ : Ka_) (G : va_G) (cy : Nat → ClassId) (ad : Nat → Nat) (sz : Nat) (σ : St_) (a0 : Nat) (x1 : Int32) (hk_a0 : kd_ σ a0 = 8) {q : Int32 × St_} (hf : f_X8_setNight σ a0 x1 = some q) : Met l yX8_setNight (Cond.code yX8_setNight cX8_setNight 3 (some .int) :: wU_) { frames := 1, cells := 0, slots := 0, locals := 21 } (va_Pc [.ref (ad a0), .int x1] (Pr_ κ G cy ad σ sz)) (Qi_ G cy ad σ q.2 sz q.1) 0 0 (va_A (wl_ cy ad σ) sz) :=
  x_met (by decide) (fun p e R s m below meth c ls hR C hr hlk hin _ K h hl => w_X8_setNight C K hr hlk ⟨hR.1, hR.2.1⟩ σ a0 x1 Ex_.rf hk_a0 hf s.heap [] ls h hl) (Nat.le_of_ble_eq_true rfl)
-- X8_setWall
theorem mi_X8_setWall : Mi_ yX8_setWall cX8_setWall 4 (some .int) 2 := ⟨co_yX8_setWall, in_RX8, by decide, by decide, by decide +kernel⟩
def f_X8_setWall (σ : St_) (a0 : Nat) (x1 : Int32) (x2 : Int32) : Option (Int32 × St_) := if (f_X8_isBelow x1 (36 : Int32)) = 0 then some ((-2 : Int32), σ) else if (f_X8_isBelow x2 (2 : Int32)) = 0 then some ((-2 : Int32), σ) else (dr_ σ 1 (sr_ σ a0 0)).bind fun b9 => some (f_X1_wallOn σ b9 x1, f_X1_putWall σ b9 x1 x2)
set_option maxHeartbeats 4000000 in
set_option maxRecDepth 100000 in
theorem w_X8_setWall {p : Program} {l : Launch} {e : Env} {R : Room} {s : State} {m : MethodId} {args : Array Value} {below : List Frame} {meth : Method} {c : Code} {κ : Ka_} {G : va_G} {cy : Nat → ClassId} {ad : Nat → Nat} {sz : Nat} {σ0 : St_} (C : CallFix p m c cX8_setWall 4 s args wU_ RX8) (K : Kx_ κ G cy (va_A (wl_ cy ad σ0) sz) s) (hr : meth.sig.returnType = some .int) (hlk : meth.locks = false) (hR : 1 ≤ R.frames ∧ 22 ≤ R.locals) {q : Int32 × St_} : ∀ (σ : St_) (a0 : Nat) (x1 : Int32) (x2 : Int32), Ex_ σ0 σ → kd_ σ a0 = 8 → f_X8_setWall σ a0 x1 x2 = some q → ∀ (H : Heap) (locs : List Loc) (ls : Array Slot), Ht_ G cy (va_A (wl_ cy ad σ0) sz) s ad σ H locs → lv_has ls 4 [(0, .ref (ad a0)), (1, .int x1), (2, .int x2)] → W p l e R s m args below meth c H locs 0 0 (MQ below (Qi_ G cy ad σ0 q.2 sz q.1) args s 0 0 (va_A (wl_ cy ad σ0) sz)) (F0 m 0 ls []) := by
  intro σ a0 x1 x2 hE hk_a0 hf H locs ls h hl
  have hf : (if (f_X8_isBelow x1 (36 : Int32)) = 0 then some ((-2 : Int32), σ) else if (f_X8_isBelow x2 (2 : Int32)) = 0 then some ((-2 : Int32), σ) else (dr_ σ 1 (sr_ σ a0 0)).bind fun b9 => some (f_X1_wallOn σ b9 x1, f_X1_putWall σ b9 x1 x2)) = some q := hf
  refine lv_iload_n C.1 C.2.1 dX8_setWall_0 rfl (lv_at hl 1 rfl) ?_
  refine lv_bipush (v := (36 : Int32)) C.1 C.2.1 dX8_setWall_1 (by decide) ?_
  refine x_az K h (x_S C K h [.int x1, .int (36 : Int32)] (c_X8_isBelow l κ G cy ad H.size σ x1 (36 : Int32) rfl) mi_X8_isBelow rfl st_yX8_isBelow ml_RX8_116 ⟨rfl, rfl, Nat.le_trans (Nat.le_of_ble_eq_true rfl) hR.1, Nat.le_trans (Nat.le_of_ble_eq_true rfl) hR.2⟩ hl (Nat.le_of_ble_eq_true rfl) dX8_setWall_3 ⟨Nat.zero_le _, Nat.zero_le _⟩ rfl) (fun H locs h hX hz4 => ?_)
  refine lv_if_eq (tgt := 17) C.1 C.2.1 dX8_setWall_6 (by decide) (fun c5 => ?_) (fun c5 => ?_)
  · have hf := if_t hf c5
    refine lv_bipush (v := (-2 : Int32)) C.1 C.2.1 dX8_setWall_17 (by decide) ?_
    exact x_ri C hr hlk h hE (pf_1 (Option.some.inj hf)) (pf_2 (Option.some.inj hf)) dX8_setWall_19
  · have hf := if_f hf c5
    refine lv_iload_n C.1 C.2.1 dX8_setWall_9 rfl (lv_at hl 2 rfl) ?_
    refine lv_iconst (v := (2 : Int32)) C.1 C.2.1 dX8_setWall_10 (by decide) ?_
    refine x_az K h (x_S C K h [.int x2, .int (2 : Int32)] (c_X8_isBelow l κ G cy ad H.size σ x2 (2 : Int32) rfl) mi_X8_isBelow rfl st_yX8_isBelow ml_RX8_116 ⟨rfl, rfl, Nat.le_trans (Nat.le_of_ble_eq_true rfl) hR.1, Nat.le_trans (Nat.le_of_ble_eq_true rfl) hR.2⟩ hl (Nat.le_of_ble_eq_true rfl) dX8_setWall_11 ⟨Nat.zero_le _, Nat.zero_le _⟩ rfl) (fun H locs h hX hz7 => ?_)
    refine lv_if_ne (tgt := 20) C.1 C.2.1 dX8_setWall_14 (by decide) (fun c8 => ?_) (fun c8 => ?_)
    · have hf := if_f hf c8
      refine lv_aload_n C.1 C.2.1 dX8_setWall_20 rfl (lv_at hl 0 rfl) ?_
      obtain ⟨b9, hb_b9, hf⟩ := ob_ hf
      obtain ⟨hq_b9, hk_b9⟩ := dr_in hb_b9
      refine x_get (v := .ref (ad b9)) C K h cl_8 hk_a0 0 (by decide) fl_RX8_12 (hv_r (o := sr_ σ a0 0) rfl hq_b9) dX8_setWall_21 ?_
      refine lv_iload_n C.1 C.2.1 dX8_setWall_24 rfl (lv_at hl 1 rfl) ?_
      refine x_ai K h (x_VN C K h [.int x1] (c_X1_wallOn l κ G cy ad H.size σ b9 x1 hk_b9 rfl) mi_X1_wallOn rfl im_yX1_wallOn se_yX1_wallOn nm_RX8_123 cl_1 hk_b9 ⟨rfl, rfl, Nat.le_trans (Nat.le_of_ble_eq_true rfl) hR.1, Nat.le_trans (Nat.le_of_ble_eq_true rfl) hR.2⟩ hl (Nat.le_of_ble_eq_true rfl) dX8_setWall_25 ⟨Nat.zero_le _, Nat.zero_le _⟩ rfl) (fun H locs h hX => ?_)
      refine lv_istore_n (i := 3) (lv' := [(3, .int (f_X1_wallOn σ b9 x1)), (0, .ref (ad a0)), (1, .int x1), (2, .int x2)]) C.1 C.2.1 dX8_setWall_28 rfl hl (by decide) rfl (fun ls hl => ?_)
      refine lv_aload_n C.1 C.2.1 dX8_setWall_29 rfl (lv_at hl 1 rfl) ?_
      refine x_get (v := .ref (ad b9)) C K h cl_8 hk_a0 0 (by decide) fl_RX8_12 (hv_r (o := sr_ σ a0 0) rfl hq_b9) dX8_setWall_30 ?_
      refine lv_iload_n C.1 C.2.1 dX8_setWall_33 rfl (lv_at hl 2 rfl) ?_
      refine lv_iload_n C.1 C.2.1 dX8_setWall_34 rfl (lv_at hl 3 rfl) ?_
      refine x_av K h (x_VN C K h [.int x1, .int x2] (c_X1_putWall l κ G cy ad H.size σ b9 x1 x2 hk_b9 rfl) mi_X1_putWall rfl im_yX1_putWall se_yX1_putWall nm_RX8_126 cl_1 hk_b9 ⟨rfl, rfl, Nat.le_trans (Nat.le_of_ble_eq_true rfl) hR.1, Nat.le_trans (Nat.le_of_ble_eq_true rfl) hR.2⟩ hl (Nat.le_of_ble_eq_true rfl) dX8_setWall_35 ⟨Nat.zero_le _, Nat.zero_le _⟩ rfl) (fun H locs h hX => ?_)
      have hE := hE.trans hX
      have hk_a0 := hX.k hk_a0 (by decide)
      refine lv_iload_n C.1 C.2.1 dX8_setWall_38 rfl (lv_at hl 0 rfl) ?_
      exact x_ri C hr hlk h hE (pf_1 (Option.some.inj hf)) (pf_2 (Option.some.inj hf)) dX8_setWall_39
    · have hf := if_t hf c8
      refine lv_bipush (v := (-2 : Int32)) C.1 C.2.1 dX8_setWall_17 (by decide) ?_
      exact x_ri C hr hlk h hE (pf_1 (Option.some.inj hf)) (pf_2 (Option.some.inj hf)) dX8_setWall_19
theorem c_X8_setWall (l : Launch) (κ : Ka_) (G : va_G) (cy : Nat → ClassId) (ad : Nat → Nat) (sz : Nat) (σ : St_) (a0 : Nat) (x1 : Int32) (x2 : Int32) (hk_a0 : kd_ σ a0 = 8) {q : Int32 × St_} (hf : f_X8_setWall σ a0 x1 x2 = some q) : Met l yX8_setWall (Cond.code yX8_setWall cX8_setWall 4 (some .int) :: wU_) { frames := 1, cells := 0, slots := 0, locals := 22 } (va_Pc [.ref (ad a0), .int x1, .int x2] (Pr_ κ G cy ad σ sz)) (Qi_ G cy ad σ q.2 sz q.1) 0 0 (va_A (wl_ cy ad σ) sz) :=
  x_met (by decide) (fun p e R s m below meth c ls hR C hr hlk hin _ K h hl => w_X8_setWall C K hr hlk ⟨hR.1, hR.2.1⟩ σ a0 x1 x2 Ex_.rf hk_a0 hf s.heap [] ls h hl) (Nat.le_of_ble_eq_true rfl)
-- X8_endOf
theorem mi_X8_endOf : Mi_ yX8_endOf cX8_endOf 1 (some .int) 1 := ⟨co_yX8_endOf, in_RX8, by decide, by decide, by decide +kernel⟩
def f_X8_endOf (x1 : Int32) : Int32 := if x1 = (2 : Int32) then (10 : Int32) else if x1 = (3 : Int32) then (36 : Int32) else (2 : Int32)
set_option maxHeartbeats 4000000 in
set_option maxRecDepth 100000 in
theorem w_X8_endOf {p : Program} {l : Launch} {e : Env} {R : Room} {s : State} {m : MethodId} {args : Array Value} {below : List Frame} {meth : Method} {c : Code} {κ : Ka_} {G : va_G} {cy : Nat → ClassId} {ad : Nat → Nat} {sz : Nat} {σ : St_} (C : CallFix p m c cX8_endOf 1 s args wU_ RX8) (K : Kx_ κ G cy (va_A (wl_ cy ad σ) sz) s) (hr : meth.sig.returnType = some .int) (hlk : meth.locks = false) (hR : 0 ≤ R.frames ∧ 0 ≤ R.locals) {q : Int32} : ∀ (x1 : Int32), f_X8_endOf x1 = q → ∀ (H : Heap) (locs : List Loc) (ls : Array Slot), Ht_ G cy (va_A (wl_ cy ad σ) sz) s ad σ H locs → lv_has ls 1 [(0, .int x1)] → W p l e R s m args below meth c H locs 0 0 (MQ below (Qi_ G cy ad σ σ sz q) args s 0 0 (va_A (wl_ cy ad σ) sz)) (F0 m 0 ls []) := by
  intro x1 hf H locs ls h hl
  have hf : (if x1 = (2 : Int32) then (10 : Int32) else if x1 = (3 : Int32) then (36 : Int32) else (2 : Int32)) = q := hf
  refine lv_iload_n C.1 C.2.1 dX8_endOf_0 rfl (lv_at hl 0 rfl) ?_
  by_cases c2 : x1 = (2 : Int32)
  · have hf := if_t hf c2
    refine lv_lookup (off := 27) (tgt := 28) C.1 C.2.1 dX8_endOf_1 (by decide) (by rw [c2]; decide) (by decide) ?_
    refine lv_bipush (v := (10 : Int32)) C.1 C.2.1 dX8_endOf_28 (by decide) ?_
    exact x_ri C hr hlk h Ex_.rf hf rfl dX8_endOf_30
  · have hf := if_f hf c2
    by_cases c3 : x1 = (3 : Int32)
    · have hf := if_t hf c3
      refine lv_lookup (off := 30) (tgt := 31) C.1 C.2.1 dX8_endOf_1 (by decide) (by rw [c3]; decide) (by decide) ?_
      refine lv_bipush (v := (36 : Int32)) C.1 C.2.1 dX8_endOf_31 (by decide) ?_
      exact x_ri C hr hlk h Ex_.rf hf rfl dX8_endOf_33
    · have hf := if_f hf c3
      refine lv_lookup (off := 33) (tgt := 34) C.1 C.2.1 dX8_endOf_1 (by decide) (lk_f (ne_i c2 (by decide)) (lk_f (ne_i c3 (by decide)) (rfl))) (by decide) ?_
      refine lv_iconst (v := (2 : Int32)) C.1 C.2.1 dX8_endOf_34 (by decide) ?_
      exact x_ri C hr hlk h Ex_.rf hf rfl dX8_endOf_35
theorem c_X8_endOf (l : Launch) (κ : Ka_) (G : va_G) (cy : Nat → ClassId) (ad : Nat → Nat) (sz : Nat) (σ : St_) (x1 : Int32) {q : Int32} (hf : f_X8_endOf x1 = q) : Met l yX8_endOf (Cond.code yX8_endOf cX8_endOf 1 (some .int) :: wU_) { frames := 0, cells := 0, slots := 0, locals := 0 } (va_Pc [.int x1] (Pr_ κ G cy ad σ sz)) (Qi_ G cy ad σ σ sz q) 0 0 (va_A (wl_ cy ad σ) sz) :=
  x_met (by decide) (fun p e R s m below meth c ls hR C hr hlk hin _ K h hl => w_X8_endOf C K hr hlk ⟨hR.1, hR.2.1⟩ x1 hf s.heap [] ls h hl) (Nat.le_of_ble_eq_true rfl)
-- X8_setOfCarpet
theorem mi_X8_setOfCarpet : Mi_ yX8_setOfCarpet cX8_setOfCarpet 6 (some .int) 3 := ⟨co_yX8_setOfCarpet, in_RX8, by decide, by decide, by decide +kernel⟩
def f_X8_setOfCarpet (σ : St_) (a0 : Nat) (x1 : Int32) (x2 : Int32) (x3 : Int32) : Option (Int32 × St_) := (dr_ σ 1 (sr_ σ a0 0)).bind fun b4 => (f_X1_carpetAt σ b4 x2).bind fun q5 => oc_ q5 (some ((-2 : Int32), σ)) (fun b6 => if kd_ σ b6 = 0 then if (f_X8_isBelow x3 (f_X8_endOf x1)) = 0 then some ((-2 : Int32), σ) else some (f_X0_tell σ b6 x1, f_X0_put σ b6 x1 x3) else none)
set_option maxHeartbeats 4000000 in
set_option maxRecDepth 100000 in
theorem w_X8_setOfCarpet {p : Program} {l : Launch} {e : Env} {R : Room} {s : State} {m : MethodId} {args : Array Value} {below : List Frame} {meth : Method} {c : Code} {κ : Ka_} {G : va_G} {cy : Nat → ClassId} {ad : Nat → Nat} {sz : Nat} {σ0 : St_} (C : CallFix p m c cX8_setOfCarpet 6 s args wU_ RX8) (K : Kx_ κ G cy (va_A (wl_ cy ad σ0) sz) s) (hr : meth.sig.returnType = some .int) (hlk : meth.locks = false) (hR : 2 ≤ R.frames ∧ 42 ≤ R.locals) {q : Int32 × St_} : ∀ (σ : St_) (a0 : Nat) (x1 : Int32) (x2 : Int32) (x3 : Int32), Ex_ σ0 σ → kd_ σ a0 = 8 → f_X8_setOfCarpet σ a0 x1 x2 x3 = some q → ∀ (H : Heap) (locs : List Loc) (ls : Array Slot), Ht_ G cy (va_A (wl_ cy ad σ0) sz) s ad σ H locs → lv_has ls 6 [(0, .ref (ad a0)), (1, .int x1), (2, .int x2), (3, .int x3)] → W p l e R s m args below meth c H locs 0 0 (MQ below (Qi_ G cy ad σ0 q.2 sz q.1) args s 0 0 (va_A (wl_ cy ad σ0) sz)) (F0 m 0 ls []) := by
  intro σ a0 x1 x2 x3 hE hk_a0 hf H locs ls h hl
  have hf : ((dr_ σ 1 (sr_ σ a0 0)).bind fun b4 => (f_X1_carpetAt σ b4 x2).bind fun q5 => oc_ q5 (some ((-2 : Int32), σ)) (fun b6 => if kd_ σ b6 = 0 then if (f_X8_isBelow x3 (f_X8_endOf x1)) = 0 then some ((-2 : Int32), σ) else some (f_X0_tell σ b6 x1, f_X0_put σ b6 x1 x3) else none)) = some q := hf
  refine lv_aload_n C.1 C.2.1 dX8_setOfCarpet_0 rfl (lv_at hl 0 rfl) ?_
  obtain ⟨b4, hb_b4, hf⟩ := ob_ hf
  obtain ⟨hq_b4, hk_b4⟩ := dr_in hb_b4
  refine x_get (v := .ref (ad b4)) C K h cl_8 hk_a0 0 (by decide) fl_RX8_12 (hv_r (o := sr_ σ a0 0) rfl hq_b4) dX8_setOfCarpet_1 ?_
  refine lv_iload_n C.1 C.2.1 dX8_setOfCarpet_4 rfl (lv_at hl 2 rfl) ?_
  obtain ⟨q5, hq_q5, hf⟩ := ob_ hf
  refine x_aq K h (x_VN C K h [.int x2] (c_X1_carpetAt l κ G cy ad H.size σ b4 x2 hk_b4 hq_q5) mi_X1_carpetAt rfl im_yX1_carpetAt se_yX1_carpetAt nm_RX8_130 cl_1 hk_b4 ⟨rfl, rfl, Nat.le_trans (Nat.le_of_ble_eq_true rfl) hR.1, Nat.le_trans (Nat.le_of_ble_eq_true rfl) hR.2⟩ hl (Nat.le_of_ble_eq_true rfl) dX8_setOfCarpet_5 ⟨Nat.zero_le _, Nat.zero_le _⟩ rfl) (fun H locs h hX => ?_)
  refine x_astoreq (i := 4) (lv' := [(4, rv_ ad q5), (0, .ref (ad a0)), (1, .int x1), (2, .int x2), (3, .int x3)]) C.1 C.2.1 dX8_setOfCarpet_8 hl (by decide) rfl (fun ls hl => ?_)
  refine x_aloadq C.1 C.2.1 dX8_setOfCarpet_10 (lv_at hl 0 rfl) ?_
  cases q5 with
  | none =>
    have hf := oc_n hf
    refine lv_ifnullN (tgt := 26) C.1 C.2.1 dX8_setOfCarpet_12 (by decide) ?_
    refine lv_bipush (v := (-2 : Int32)) C.1 C.2.1 dX8_setOfCarpet_26 (by decide) ?_
    exact x_ri C hr hlk h hE (pf_1 (Option.some.inj hf)) (pf_2 (Option.some.inj hf)) dX8_setOfCarpet_28
  | some b6 =>
    obtain ⟨hk_b6, hf⟩ := gd_ (oc_s hf)
    refine lv_ifnull C.1 C.2.1 dX8_setOfCarpet_12 ?_
    refine lv_iload_n C.1 C.2.1 dX8_setOfCarpet_15 rfl (lv_at hl 4 rfl) ?_
    refine lv_iload_n C.1 C.2.1 dX8_setOfCarpet_16 rfl (lv_at hl 2 rfl) ?_
    refine x_ai K h (x_S C K h [.int x1] (c_X8_endOf l κ G cy ad H.size σ x1 rfl) mi_X8_endOf rfl st_yX8_endOf ml_RX8_134 ⟨rfl, rfl, Nat.le_trans (Nat.le_of_ble_eq_true rfl) hR.1, Nat.le_trans (Nat.le_of_ble_eq_true rfl) hR.2⟩ hl (Nat.le_of_ble_eq_true rfl) dX8_setOfCarpet_17 ⟨Nat.zero_le _, Nat.zero_le _⟩ rfl) (fun H locs h hX => ?_)
    refine x_az K h (x_S C K h [.int x3, .int (f_X8_endOf x1)] (c_X8_isBelow l κ G cy ad H.size σ x3 (f_X8_endOf x1) rfl) mi_X8_isBelow rfl st_yX8_isBelow ml_RX8_116 ⟨rfl, rfl, Nat.le_trans (Nat.le_of_ble_eq_true rfl) hR.1, Nat.le_trans (Nat.le_of_ble_eq_true rfl) hR.2⟩ hl (Nat.le_of_ble_eq_true rfl) dX8_setOfCarpet_20 ⟨Nat.zero_le _, Nat.zero_le _⟩ rfl) (fun H locs h hX hz9 => ?_)
    refine lv_if_ne (tgt := 29) C.1 C.2.1 dX8_setOfCarpet_23 (by decide) (fun c10 => ?_) (fun c10 => ?_)
    · have hf := if_f hf c10
      refine lv_aload C.1 C.2.1 dX8_setOfCarpet_29 (lv_at hl 0 rfl) ?_
      refine lv_iload_n C.1 C.2.1 dX8_setOfCarpet_31 rfl (lv_at hl 2 rfl) ?_
      refine x_ai K h (x_VN C K h [.int x1] (c_X0_tell l κ G cy ad H.size σ b6 x1 hk_b6 rfl) mi_X0_tell rfl im_yX0_tell se_yX0_tell nm_RX8_137 cl_0 hk_b6 ⟨rfl, rfl, Nat.le_trans (Nat.le_of_ble_eq_true rfl) hR.1, Nat.le_trans (Nat.le_of_ble_eq_true rfl) hR.2⟩ hl (Nat.le_of_ble_eq_true rfl) dX8_setOfCarpet_32 ⟨Nat.zero_le _, Nat.zero_le _⟩ rfl) (fun H locs h hX => ?_)
      refine lv_istore (i := 5) (lv' := [(5, .int (f_X0_tell σ b6 x1)), (4, .ref (ad b6)), (0, .ref (ad a0)), (1, .int x1), (2, .int x2), (3, .int x3)]) C.1 C.2.1 dX8_setOfCarpet_35 hl (by decide) rfl (fun ls hl => ?_)
      refine lv_aload C.1 C.2.1 dX8_setOfCarpet_37 (lv_at hl 1 rfl) ?_
      refine lv_iload_n C.1 C.2.1 dX8_setOfCarpet_39 rfl (lv_at hl 3 rfl) ?_
      refine lv_iload_n C.1 C.2.1 dX8_setOfCarpet_40 rfl (lv_at hl 5 rfl) ?_
      refine x_av K h (x_VN C K h [.int x1, .int x3] (c_X0_put l κ G cy ad H.size σ b6 x1 x3 hk_b6 rfl) mi_X0_put rfl im_yX0_put se_yX0_put nm_RX8_142 cl_0 hk_b6 ⟨rfl, rfl, Nat.le_trans (Nat.le_of_ble_eq_true rfl) hR.1, Nat.le_trans (Nat.le_of_ble_eq_true rfl) hR.2⟩ hl (Nat.le_of_ble_eq_true rfl) dX8_setOfCarpet_41 ⟨Nat.zero_le _, Nat.zero_le _⟩ rfl) (fun H locs h hX => ?_)
      have hE := hE.trans hX
      have hk_a0 := hX.k hk_a0 (by decide)
      have hk_b6 := hX.k hk_b6 (by decide)
      refine lv_iload C.1 C.2.1 dX8_setOfCarpet_44 (lv_at hl 0 rfl) ?_
      exact x_ri C hr hlk h hE (pf_1 (Option.some.inj hf)) (pf_2 (Option.some.inj hf)) dX8_setOfCarpet_46
    · have hf := if_t hf c10
      refine lv_bipush (v := (-2 : Int32)) C.1 C.2.1 dX8_setOfCarpet_26 (by decide) ?_
      exact x_ri C hr hlk h hE (pf_1 (Option.some.inj hf)) (pf_2 (Option.some.inj hf)) dX8_setOfCarpet_28
theorem c_X8_setOfCarpet (l : Launch) (κ : Ka_) (G : va_G) (cy : Nat → ClassId) (ad : Nat → Nat) (sz : Nat) (σ : St_) (a0 : Nat) (x1 : Int32) (x2 : Int32) (x3 : Int32) (hk_a0 : kd_ σ a0 = 8) {q : Int32 × St_} (hf : f_X8_setOfCarpet σ a0 x1 x2 x3 = some q) : Met l yX8_setOfCarpet (Cond.code yX8_setOfCarpet cX8_setOfCarpet 6 (some .int) :: wU_) { frames := 2, cells := 0, slots := 0, locals := 42 } (va_Pc [.ref (ad a0), .int x1, .int x2, .int x3] (Pr_ κ G cy ad σ sz)) (Qi_ G cy ad σ q.2 sz q.1) 0 0 (va_A (wl_ cy ad σ) sz) :=
  x_met (by decide) (fun p e R s m below meth c ls hR C hr hlk hin _ K h hl => w_X8_setOfCarpet C K hr hlk ⟨hR.1, hR.2.1⟩ σ a0 x1 x2 x3 Ex_.rf hk_a0 hf s.heap [] ls h hl) (Nat.le_of_ble_eq_true rfl)
-- X8_set
theorem mi_X8_set : Mi_ yX8_set cX8_set 4 (some .int) 3 := ⟨co_yX8_set, in_RX8, by decide, by decide, by decide +kernel⟩
def f_X8_set (σ : St_) (a0 : Nat) (x1 : Int32) (x2 : Int32) (x3 : Int32) : Option (Int32 × St_) := if x1 = (0 : Int32) then (f_X8_setNight σ a0 x3).bind fun q5 => some (q5.1, q5.2) else if x1 = (1 : Int32) then (f_X8_setWall σ a0 x2 x3).bind fun q7 => some (q7.1, q7.2) else if x1 = (2 : Int32) then (f_X8_setOfCarpet σ a0 x1 x2 x3).bind fun q9 => some (q9.1, q9.2) else if x1 = (3 : Int32) then (f_X8_setOfCarpet σ a0 x1 x2 x3).bind fun q11 => some (q11.1, q11.2) else if x1 = (4 : Int32) then (f_X8_setOfCarpet σ a0 x1 x2 x3).bind fun q13 => some (q13.1, q13.2) else some ((-2 : Int32), σ)
set_option maxHeartbeats 4000000 in
set_option maxRecDepth 100000 in
theorem w_X8_set {p : Program} {l : Launch} {e : Env} {R : Room} {s : State} {m : MethodId} {args : Array Value} {below : List Frame} {meth : Method} {c : Code} {κ : Ka_} {G : va_G} {cy : Nat → ClassId} {ad : Nat → Nat} {sz : Nat} {σ0 : St_} (C : CallFix p m c cX8_set 4 s args wU_ RX8) (K : Kx_ κ G cy (va_A (wl_ cy ad σ0) sz) s) (hr : meth.sig.returnType = some .int) (hlk : meth.locks = false) (hR : 3 ≤ R.frames ∧ 67 ≤ R.locals) {q : Int32 × St_} : ∀ (σ : St_) (a0 : Nat) (x1 : Int32) (x2 : Int32) (x3 : Int32), Ex_ σ0 σ → kd_ σ a0 = 8 → f_X8_set σ a0 x1 x2 x3 = some q → ∀ (H : Heap) (locs : List Loc) (ls : Array Slot), Ht_ G cy (va_A (wl_ cy ad σ0) sz) s ad σ H locs → lv_has ls 4 [(0, .ref (ad a0)), (1, .int x1), (2, .int x2), (3, .int x3)] → W p l e R s m args below meth c H locs 0 0 (MQ below (Qi_ G cy ad σ0 q.2 sz q.1) args s 0 0 (va_A (wl_ cy ad σ0) sz)) (F0 m 0 ls []) := by
  intro σ a0 x1 x2 x3 hE hk_a0 hf H locs ls h hl
  have hf : (if x1 = (0 : Int32) then (f_X8_setNight σ a0 x3).bind fun q5 => some (q5.1, q5.2) else if x1 = (1 : Int32) then (f_X8_setWall σ a0 x2 x3).bind fun q7 => some (q7.1, q7.2) else if x1 = (2 : Int32) then (f_X8_setOfCarpet σ a0 x1 x2 x3).bind fun q9 => some (q9.1, q9.2) else if x1 = (3 : Int32) then (f_X8_setOfCarpet σ a0 x1 x2 x3).bind fun q11 => some (q11.1, q11.2) else if x1 = (4 : Int32) then (f_X8_setOfCarpet σ a0 x1 x2 x3).bind fun q13 => some (q13.1, q13.2) else some ((-2 : Int32), σ)) = some q := hf
  refine lv_iload_n C.1 C.2.1 dX8_set_0 rfl (lv_at hl 1 rfl) ?_
  by_cases c4 : x1 = (0 : Int32)
  · have hf := if_t hf c4
    refine lv_tableIn (off := 35) (tgt := 36) C.1 C.2.1 dX8_set_1 (by rw [c4]; decide) (by rw [c4]; decide) (by rw [c4]; rfl) (by decide) ?_
    refine lv_aload_n C.1 C.2.1 dX8_set_36 rfl (lv_at hl 0 rfl) ?_
    refine lv_iload_n C.1 C.2.1 dX8_set_37 rfl (lv_at hl 3 rfl) ?_
    obtain ⟨q5, hq_q5, hf⟩ := ob_ hf
    refine x_ai K h (x_V C K h [.int x3] (c_X8_setNight l κ G cy ad H.size σ a0 x3 hk_a0 hq_q5) mi_X8_setNight rfl im_yX8_setNight se_yX8_setNight ml_RX8_105 cl_8 hk_a0 ⟨rfl, rfl, Nat.le_trans (Nat.le_of_ble_eq_true rfl) hR.1, Nat.le_trans (Nat.le_of_ble_eq_true rfl) hR.2⟩ hl (Nat.le_of_ble_eq_true rfl) dX8_set_38 ⟨Nat.zero_le _, Nat.zero_le _⟩ rfl) (fun H locs h hX => ?_)
    have hE := hE.trans hX
    have hk_a0 := hX.k hk_a0 (by decide)
    exact x_ri C hr hlk h hE (pf_1 (Option.some.inj hf)) (pf_2 (Option.some.inj hf)) dX8_set_41
  · have hf := if_f hf c4
    by_cases c6 : x1 = (1 : Int32)
    · have hf := if_t hf c6
      refine lv_tableIn (off := 41) (tgt := 42) C.1 C.2.1 dX8_set_1 (by rw [c6]; decide) (by rw [c6]; decide) (by rw [c6]; rfl) (by decide) ?_
      refine lv_aload_n C.1 C.2.1 dX8_set_42 rfl (lv_at hl 0 rfl) ?_
      refine lv_iload_n C.1 C.2.1 dX8_set_43 rfl (lv_at hl 2 rfl) ?_
      refine lv_iload_n C.1 C.2.1 dX8_set_44 rfl (lv_at hl 3 rfl) ?_
      obtain ⟨q7, hq_q7, hf⟩ := ob_ hf
      refine x_ai K h (x_V C K h [.int x2, .int x3] (c_X8_setWall l κ G cy ad H.size σ a0 x2 x3 hk_a0 hq_q7) mi_X8_setWall rfl im_yX8_setWall se_yX8_setWall ml_RX8_108 cl_8 hk_a0 ⟨rfl, rfl, Nat.le_trans (Nat.le_of_ble_eq_true rfl) hR.1, Nat.le_trans (Nat.le_of_ble_eq_true rfl) hR.2⟩ hl (Nat.le_of_ble_eq_true rfl) dX8_set_45 ⟨Nat.zero_le _, Nat.zero_le _⟩ rfl) (fun H locs h hX => ?_)
      have hE := hE.trans hX
      have hk_a0 := hX.k hk_a0 (by decide)
      exact x_ri C hr hlk h hE (pf_1 (Option.some.inj hf)) (pf_2 (Option.some.inj hf)) dX8_set_48
    · have hf := if_f hf c6
      by_cases c8 : x1 = (2 : Int32)
      · have hf := if_t hf c8
        refine lv_tableIn (off := 48) (tgt := 49) C.1 C.2.1 dX8_set_1 (by rw [c8]; decide) (by rw [c8]; decide) (by rw [c8]; rfl) (by decide) ?_
        refine lv_aload_n C.1 C.2.1 dX8_set_49 rfl (lv_at hl 0 rfl) ?_
        refine lv_iload_n C.1 C.2.1 dX8_set_50 rfl (lv_at hl 1 rfl) ?_
        refine lv_iload_n C.1 C.2.1 dX8_set_51 rfl (lv_at hl 2 rfl) ?_
        refine lv_iload_n C.1 C.2.1 dX8_set_52 rfl (lv_at hl 3 rfl) ?_
        obtain ⟨q9, hq_q9, hf⟩ := ob_ hf
        refine x_ai K h (x_V C K h [.int x1, .int x2, .int x3] (c_X8_setOfCarpet l κ G cy ad H.size σ a0 x1 x2 x3 hk_a0 hq_q9) mi_X8_setOfCarpet rfl im_yX8_setOfCarpet se_yX8_setOfCarpet ml_RX8_112 cl_8 hk_a0 ⟨rfl, rfl, Nat.le_trans (Nat.le_of_ble_eq_true rfl) hR.1, Nat.le_trans (Nat.le_of_ble_eq_true rfl) hR.2⟩ hl (Nat.le_of_ble_eq_true rfl) dX8_set_53 ⟨Nat.zero_le _, Nat.zero_le _⟩ rfl) (fun H locs h hX => ?_)
        have hE := hE.trans hX
        have hk_a0 := hX.k hk_a0 (by decide)
        exact x_ri C hr hlk h hE (pf_1 (Option.some.inj hf)) (pf_2 (Option.some.inj hf)) dX8_set_56
      · have hf := if_f hf c8
        by_cases c10 : x1 = (3 : Int32)
        · have hf := if_t hf c10
          refine lv_tableIn (off := 48) (tgt := 49) C.1 C.2.1 dX8_set_1 (by rw [c10]; decide) (by rw [c10]; decide) (by rw [c10]; rfl) (by decide) ?_
          refine lv_aload_n C.1 C.2.1 dX8_set_49 rfl (lv_at hl 0 rfl) ?_
          refine lv_iload_n C.1 C.2.1 dX8_set_50 rfl (lv_at hl 1 rfl) ?_
          refine lv_iload_n C.1 C.2.1 dX8_set_51 rfl (lv_at hl 2 rfl) ?_
          refine lv_iload_n C.1 C.2.1 dX8_set_52 rfl (lv_at hl 3 rfl) ?_
          obtain ⟨q11, hq_q11, hf⟩ := ob_ hf
          refine x_ai K h (x_V C K h [.int x1, .int x2, .int x3] (c_X8_setOfCarpet l κ G cy ad H.size σ a0 x1 x2 x3 hk_a0 hq_q11) mi_X8_setOfCarpet rfl im_yX8_setOfCarpet se_yX8_setOfCarpet ml_RX8_112 cl_8 hk_a0 ⟨rfl, rfl, Nat.le_trans (Nat.le_of_ble_eq_true rfl) hR.1, Nat.le_trans (Nat.le_of_ble_eq_true rfl) hR.2⟩ hl (Nat.le_of_ble_eq_true rfl) dX8_set_53 ⟨Nat.zero_le _, Nat.zero_le _⟩ rfl) (fun H locs h hX => ?_)
          have hE := hE.trans hX
          have hk_a0 := hX.k hk_a0 (by decide)
          exact x_ri C hr hlk h hE (pf_1 (Option.some.inj hf)) (pf_2 (Option.some.inj hf)) dX8_set_56
        · have hf := if_f hf c10
          by_cases c12 : x1 = (4 : Int32)
          · have hf := if_t hf c12
            refine lv_tableIn (off := 48) (tgt := 49) C.1 C.2.1 dX8_set_1 (by rw [c12]; decide) (by rw [c12]; decide) (by rw [c12]; rfl) (by decide) ?_
            refine lv_aload_n C.1 C.2.1 dX8_set_49 rfl (lv_at hl 0 rfl) ?_
            refine lv_iload_n C.1 C.2.1 dX8_set_50 rfl (lv_at hl 1 rfl) ?_
            refine lv_iload_n C.1 C.2.1 dX8_set_51 rfl (lv_at hl 2 rfl) ?_
            refine lv_iload_n C.1 C.2.1 dX8_set_52 rfl (lv_at hl 3 rfl) ?_
            obtain ⟨q13, hq_q13, hf⟩ := ob_ hf
            refine x_ai K h (x_V C K h [.int x1, .int x2, .int x3] (c_X8_setOfCarpet l κ G cy ad H.size σ a0 x1 x2 x3 hk_a0 hq_q13) mi_X8_setOfCarpet rfl im_yX8_setOfCarpet se_yX8_setOfCarpet ml_RX8_112 cl_8 hk_a0 ⟨rfl, rfl, Nat.le_trans (Nat.le_of_ble_eq_true rfl) hR.1, Nat.le_trans (Nat.le_of_ble_eq_true rfl) hR.2⟩ hl (Nat.le_of_ble_eq_true rfl) dX8_set_53 ⟨Nat.zero_le _, Nat.zero_le _⟩ rfl) (fun H locs h hX => ?_)
            have hE := hE.trans hX
            have hk_a0 := hX.k hk_a0 (by decide)
            exact x_ri C hr hlk h hE (pf_1 (Option.some.inj hf)) (pf_2 (Option.some.inj hf)) dX8_set_56
          · have hf := if_f hf c12
            refine lv_tableOut (tgt := 57) C.1 C.2.1 dX8_set_1 (by have e0 := ne_i c4 (z := 0) (by decide); have e1 := ne_i c6 (z := 1) (by decide); have e2 := ne_i c8 (z := 2) (by decide); have e3 := ne_i c10 (z := 3) (by decide); have e4 := ne_i c12 (z := 4) (by decide); omega) (by decide) ?_
            refine lv_bipush (v := (-2 : Int32)) C.1 C.2.1 dX8_set_57 (by decide) ?_
            exact x_ri C hr hlk h hE (pf_1 (Option.some.inj hf)) (pf_2 (Option.some.inj hf)) dX8_set_59
theorem c_X8_set (l : Launch) (κ : Ka_) (G : va_G) (cy : Nat → ClassId) (ad : Nat → Nat) (sz : Nat) (σ : St_) (a0 : Nat) (x1 : Int32) (x2 : Int32) (x3 : Int32) (hk_a0 : kd_ σ a0 = 8) {q : Int32 × St_} (hf : f_X8_set σ a0 x1 x2 x3 = some q) : Met l yX8_set (Cond.code yX8_set cX8_set 4 (some .int) :: wU_) { frames := 3, cells := 0, slots := 0, locals := 67 } (va_Pc [.ref (ad a0), .int x1, .int x2, .int x3] (Pr_ κ G cy ad σ sz)) (Qi_ G cy ad σ q.2 sz q.1) 0 0 (va_A (wl_ cy ad σ) sz) :=
  x_met (by decide) (fun p e R s m below meth c ls hR C hr hlk hin _ K h hl => w_X8_set C K hr hlk ⟨hR.1, hR.2.1⟩ σ a0 x1 x2 x3 Ex_.rf hk_a0 hf s.heap [] ls h hl) (Nat.le_of_ble_eq_true rfl)
-- X8_lay
theorem mi_X8_lay : Mi_ yX8_lay cX8_lay 4 (some .int) 3 := ⟨co_yX8_lay, in_RX8, by decide, by decide, by decide +kernel⟩
def f_X8_lay (σ : St_) (a0 : Nat) (x1 : Int32) (x2 : Int32) (x3 : Int32) : Option (Int32 × St_) := if (f_X8_isBelow x1 (6 : Int32)) = 0 then some ((-2 : Int32), σ) else if (f_X8_isBelow x2 (10 : Int32)) = 0 then some ((-2 : Int32), σ) else if (f_X8_isBelow x3 (36 : Int32)) = 0 then some ((-2 : Int32), σ) else (dr_ σ 1 (sr_ σ a0 0)).bind fun b13 => (f_X1_add σ b13 x1 x2 x3).bind fun q14 => some (q14.1, q14.2)
set_option maxHeartbeats 4000000 in
set_option maxRecDepth 100000 in
theorem w_X8_lay {p : Program} {l : Launch} {e : Env} {R : Room} {s : State} {m : MethodId} {args : Array Value} {below : List Frame} {meth : Method} {c : Code} {κ : Ka_} {G : va_G} {cy : Nat → ClassId} {ad : Nat → Nat} {sz : Nat} {σ0 : St_} (C : CallFix p m c cX8_lay 4 s args wU_ RX8) (K : Kx_ κ G cy (va_A (wl_ cy ad σ0) sz) s) (hr : meth.sig.returnType = some .int) (hlk : meth.locks = false) (hR : 2 ≤ R.frames ∧ 47 ≤ R.locals) {q : Int32 × St_} : ∀ (σ : St_) (a0 : Nat) (x1 : Int32) (x2 : Int32) (x3 : Int32), Ex_ σ0 σ → kd_ σ a0 = 8 → f_X8_lay σ a0 x1 x2 x3 = some q → ∀ (H : Heap) (locs : List Loc) (ls : Array Slot), Ht_ G cy (va_A (wl_ cy ad σ0) sz) s ad σ H locs → lv_has ls 4 [(0, .ref (ad a0)), (1, .int x1), (2, .int x2), (3, .int x3)] → W p l e R s m args below meth c H locs 0 0 (MQ below (Qi_ G cy ad σ0 q.2 sz q.1) args s 0 0 (va_A (wl_ cy ad σ0) sz)) (F0 m 0 ls []) := by
  intro σ a0 x1 x2 x3 hE hk_a0 hf H locs ls h hl
  have hf : (if (f_X8_isBelow x1 (6 : Int32)) = 0 then some ((-2 : Int32), σ) else if (f_X8_isBelow x2 (10 : Int32)) = 0 then some ((-2 : Int32), σ) else if (f_X8_isBelow x3 (36 : Int32)) = 0 then some ((-2 : Int32), σ) else (dr_ σ 1 (sr_ σ a0 0)).bind fun b13 => (f_X1_add σ b13 x1 x2 x3).bind fun q14 => some (q14.1, q14.2)) = some q := hf
  refine lv_iload_n C.1 C.2.1 dX8_lay_0 rfl (lv_at hl 1 rfl) ?_
  refine lv_bipush (v := (6 : Int32)) C.1 C.2.1 dX8_lay_1 (by decide) ?_
  refine x_az K h (x_S C K h [.int x1, .int (6 : Int32)] (c_X8_isBelow l κ G cy ad H.size σ x1 (6 : Int32) rfl) mi_X8_isBelow rfl st_yX8_isBelow ml_RX8_116 ⟨rfl, rfl, Nat.le_trans (Nat.le_of_ble_eq_true rfl) hR.1, Nat.le_trans (Nat.le_of_ble_eq_true rfl) hR.2⟩ hl (Nat.le_of_ble_eq_true rfl) dX8_lay_3 ⟨Nat.zero_le _, Nat.zero_le _⟩ rfl) (fun H locs h hX hz5 => ?_)
  refine lv_if_eq (tgt := 27) C.1 C.2.1 dX8_lay_6 (by decide) (fun c6 => ?_) (fun c6 => ?_)
  · have hf := if_t hf c6
    refine lv_bipush (v := (-2 : Int32)) C.1 C.2.1 dX8_lay_27 (by decide) ?_
    exact x_ri C hr hlk h hE (pf_1 (Option.some.inj hf)) (pf_2 (Option.some.inj hf)) dX8_lay_29
  · have hf := if_f hf c6
    refine lv_iload_n C.1 C.2.1 dX8_lay_9 rfl (lv_at hl 2 rfl) ?_
    refine lv_bipush (v := (10 : Int32)) C.1 C.2.1 dX8_lay_10 (by decide) ?_
    refine x_az K h (x_S C K h [.int x2, .int (10 : Int32)] (c_X8_isBelow l κ G cy ad H.size σ x2 (10 : Int32) rfl) mi_X8_isBelow rfl st_yX8_isBelow ml_RX8_116 ⟨rfl, rfl, Nat.le_trans (Nat.le_of_ble_eq_true rfl) hR.1, Nat.le_trans (Nat.le_of_ble_eq_true rfl) hR.2⟩ hl (Nat.le_of_ble_eq_true rfl) dX8_lay_12 ⟨Nat.zero_le _, Nat.zero_le _⟩ rfl) (fun H locs h hX hz8 => ?_)
    refine lv_if_eq (tgt := 27) C.1 C.2.1 dX8_lay_15 (by decide) (fun c9 => ?_) (fun c9 => ?_)
    · have hf := if_t hf c9
      refine lv_bipush (v := (-2 : Int32)) C.1 C.2.1 dX8_lay_27 (by decide) ?_
      exact x_ri C hr hlk h hE (pf_1 (Option.some.inj hf)) (pf_2 (Option.some.inj hf)) dX8_lay_29
    · have hf := if_f hf c9
      refine lv_iload_n C.1 C.2.1 dX8_lay_18 rfl (lv_at hl 3 rfl) ?_
      refine lv_bipush (v := (36 : Int32)) C.1 C.2.1 dX8_lay_19 (by decide) ?_
      refine x_az K h (x_S C K h [.int x3, .int (36 : Int32)] (c_X8_isBelow l κ G cy ad H.size σ x3 (36 : Int32) rfl) mi_X8_isBelow rfl st_yX8_isBelow ml_RX8_116 ⟨rfl, rfl, Nat.le_trans (Nat.le_of_ble_eq_true rfl) hR.1, Nat.le_trans (Nat.le_of_ble_eq_true rfl) hR.2⟩ hl (Nat.le_of_ble_eq_true rfl) dX8_lay_21 ⟨Nat.zero_le _, Nat.zero_le _⟩ rfl) (fun H locs h hX hz11 => ?_)
      refine lv_if_ne (tgt := 30) C.1 C.2.1 dX8_lay_24 (by decide) (fun c12 => ?_) (fun c12 => ?_)
      · have hf := if_f hf c12
        refine lv_aload_n C.1 C.2.1 dX8_lay_30 rfl (lv_at hl 0 rfl) ?_
        obtain ⟨b13, hb_b13, hf⟩ := ob_ hf
        obtain ⟨hq_b13, hk_b13⟩ := dr_in hb_b13
        refine x_get (v := .ref (ad b13)) C K h cl_8 hk_a0 0 (by decide) fl_RX8_12 (hv_r (o := sr_ σ a0 0) rfl hq_b13) dX8_lay_31 ?_
        refine lv_iload_n C.1 C.2.1 dX8_lay_34 rfl (lv_at hl 1 rfl) ?_
        refine lv_iload_n C.1 C.2.1 dX8_lay_35 rfl (lv_at hl 2 rfl) ?_
        refine lv_iload_n C.1 C.2.1 dX8_lay_36 rfl (lv_at hl 3 rfl) ?_
        obtain ⟨q14, hq_q14, hf⟩ := ob_ hf
        refine x_ai K h (x_VN C K h [.int x1, .int x2, .int x3] (c_X1_add l κ G cy ad H.size σ b13 x1 x2 x3 hk_b13 hq_q14) mi_X1_add rfl im_yX1_add se_yX1_add nm_RX8_147 cl_1 hk_b13 ⟨rfl, rfl, Nat.le_trans (Nat.le_of_ble_eq_true rfl) hR.1, Nat.le_trans (Nat.le_of_ble_eq_true rfl) hR.2⟩ hl (Nat.le_of_ble_eq_true rfl) dX8_lay_37 ⟨Nat.zero_le _, Nat.zero_le _⟩ rfl) (fun H locs h hX => ?_)
        have hE := hE.trans hX
        have hk_a0 := hX.k hk_a0 (by decide)
        exact x_ri C hr hlk h hE (pf_1 (Option.some.inj hf)) (pf_2 (Option.some.inj hf)) dX8_lay_40
      · have hf := if_t hf c12
        refine lv_bipush (v := (-2 : Int32)) C.1 C.2.1 dX8_lay_27 (by decide) ?_
        exact x_ri C hr hlk h hE (pf_1 (Option.some.inj hf)) (pf_2 (Option.some.inj hf)) dX8_lay_29
theorem c_X8_lay (l : Launch) (κ : Ka_) (G : va_G) (cy : Nat → ClassId) (ad : Nat → Nat) (sz : Nat) (σ : St_) (a0 : Nat) (x1 : Int32) (x2 : Int32) (x3 : Int32) (hk_a0 : kd_ σ a0 = 8) {q : Int32 × St_} (hf : f_X8_lay σ a0 x1 x2 x3 = some q) : Met l yX8_lay (Cond.code yX8_lay cX8_lay 4 (some .int) :: wU_) { frames := 2, cells := 0, slots := 0, locals := 47 } (va_Pc [.ref (ad a0), .int x1, .int x2, .int x3] (Pr_ κ G cy ad σ sz)) (Qi_ G cy ad σ q.2 sz q.1) 0 0 (va_A (wl_ cy ad σ) sz) :=
  x_met (by decide) (fun p e R s m below meth c ls hR C hr hlk hin _ K h hl => w_X8_lay C K hr hlk ⟨hR.1, hR.2.1⟩ σ a0 x1 x2 x3 Ex_.rf hk_a0 hf s.heap [] ls h hl) (Nat.le_of_ble_eq_true rfl)
-- X8_carpet
theorem mi_X8_carpet : Mi_ yX8_carpet cX8_carpet 4 (some .int) 3 := ⟨co_yX8_carpet, in_RX8, by decide, by decide, by decide +kernel⟩
def f_X8_carpet (σ : St_) (a0 : Nat) (x1 : Int32) (x2 : Int32) (x3 : Int32) : Option (Int32 × St_) := (f_X8_lay σ a0 x1 x2 x3).bind fun q4 => some (q4.1, q4.2)
set_option maxHeartbeats 4000000 in
set_option maxRecDepth 100000 in
theorem w_X8_carpet {p : Program} {l : Launch} {e : Env} {R : Room} {s : State} {m : MethodId} {args : Array Value} {below : List Frame} {meth : Method} {c : Code} {κ : Ka_} {G : va_G} {cy : Nat → ClassId} {ad : Nat → Nat} {sz : Nat} {σ0 : St_} (C : CallFix p m c cX8_carpet 4 s args wU_ RX8) (K : Kx_ κ G cy (va_A (wl_ cy ad σ0) sz) s) (hr : meth.sig.returnType = some .int) (hlk : meth.locks = false) (hR : 3 ≤ R.frames ∧ 70 ≤ R.locals) {q : Int32 × St_} : ∀ (σ : St_) (a0 : Nat) (x1 : Int32) (x2 : Int32) (x3 : Int32), Ex_ σ0 σ → kd_ σ a0 = 8 → f_X8_carpet σ a0 x1 x2 x3 = some q → ∀ (H : Heap) (locs : List Loc) (ls : Array Slot), Ht_ G cy (va_A (wl_ cy ad σ0) sz) s ad σ H locs → lv_has ls 4 [(0, .ref (ad a0)), (1, .int x1), (2, .int x2), (3, .int x3)] → W p l e R s m args below meth c H locs 0 0 (MQ below (Qi_ G cy ad σ0 q.2 sz q.1) args s 0 0 (va_A (wl_ cy ad σ0) sz)) (F0 m 0 ls []) := by
  intro σ a0 x1 x2 x3 hE hk_a0 hf H locs ls h hl
  have hf : ((f_X8_lay σ a0 x1 x2 x3).bind fun q4 => some (q4.1, q4.2)) = some q := hf
  refine lv_aload_n C.1 C.2.1 dX8_carpet_0 rfl (lv_at hl 0 rfl) ?_
  refine lv_iload_n C.1 C.2.1 dX8_carpet_1 rfl (lv_at hl 1 rfl) ?_
  refine lv_iload_n C.1 C.2.1 dX8_carpet_2 rfl (lv_at hl 2 rfl) ?_
  refine lv_iload_n C.1 C.2.1 dX8_carpet_3 rfl (lv_at hl 3 rfl) ?_
  obtain ⟨q4, hq_q4, hf⟩ := ob_ hf
  refine x_ai K h (x_V C K h [.int x1, .int x2, .int x3] (c_X8_lay l κ G cy ad H.size σ a0 x1 x2 x3 hk_a0 hq_q4) mi_X8_lay rfl im_yX8_lay se_yX8_lay ml_RX8_144 cl_8 hk_a0 ⟨rfl, rfl, Nat.le_trans (Nat.le_of_ble_eq_true rfl) hR.1, Nat.le_trans (Nat.le_of_ble_eq_true rfl) hR.2⟩ hl (Nat.le_of_ble_eq_true rfl) dX8_carpet_4 ⟨Nat.zero_le _, Nat.zero_le _⟩ rfl) (fun H locs h hX => ?_)
  have hE := hE.trans hX
  have hk_a0 := hX.k hk_a0 (by decide)
  exact x_ri C hr hlk h hE (pf_1 (Option.some.inj hf)) (pf_2 (Option.some.inj hf)) dX8_carpet_7
theorem c_X8_carpet (l : Launch) (κ : Ka_) (G : va_G) (cy : Nat → ClassId) (ad : Nat → Nat) (sz : Nat) (σ : St_) (a0 : Nat) (x1 : Int32) (x2 : Int32) (x3 : Int32) (hk_a0 : kd_ σ a0 = 8) {q : Int32 × St_} (hf : f_X8_carpet σ a0 x1 x2 x3 = some q) : Met l yX8_carpet (Cond.code yX8_carpet cX8_carpet 4 (some .int) :: wU_) { frames := 3, cells := 0, slots := 0, locals := 70 } (va_Pc [.ref (ad a0), .int x1, .int x2, .int x3] (Pr_ κ G cy ad σ sz)) (Qi_ G cy ad σ q.2 sz q.1) 0 0 (va_A (wl_ cy ad σ) sz) :=
  x_met (by decide) (fun p e R s m below meth c ls hR C hr hlk hin _ K h hl => w_X8_carpet C K hr hlk ⟨hR.1, hR.2.1⟩ σ a0 x1 x2 x3 Ex_.rf hk_a0 hf s.heap [] ls h hl) (Nat.le_of_ble_eq_true rfl)
-- X8_textAt
theorem mi_X8_textAt : Mi_ yX8_textAt cX8_textAt 2 (some (.object "FlownOnceAndLaid$Text")) 1 := ⟨co_yX8_textAt, in_RX8, by decide, by decide, by decide +kernel⟩
def f_X8_textAt (σ : St_) (a0 : Nat) (x1 : Int32) : Option (Option Nat) := (dr_ σ 15 (sr_ σ a0 4)).bind fun b2 => if (f_X8_isBelow x1 (nI (ln_ σ b2))) = 0 then some none else (ix_ x1 (ln_ σ b2)).bind fun j6 => some (sr_ σ b2 j6)
set_option maxHeartbeats 4000000 in
set_option maxRecDepth 100000 in
theorem w_X8_textAt {p : Program} {l : Launch} {e : Env} {R : Room} {s : State} {m : MethodId} {args : Array Value} {below : List Frame} {meth : Method} {c : Code} {κ : Ka_} {G : va_G} {cy : Nat → ClassId} {ad : Nat → Nat} {sz : Nat} {σ : St_} (C : CallFix p m c cX8_textAt 2 s args wU_ RX8) (K : Kx_ κ G cy (va_A (wl_ cy ad σ) sz) s) (hr : meth.sig.returnType = some (.object "FlownOnceAndLaid$Text")) (hlk : meth.locks = false) (hR : 1 ≤ R.frames ∧ 21 ≤ R.locals) {q : Option Nat} : ∀ (a0 : Nat) (x1 : Int32), kd_ σ a0 = 8 → f_X8_textAt σ a0 x1 = some q → ∀ (H : Heap) (locs : List Loc) (ls : Array Slot), Ht_ G cy (va_A (wl_ cy ad σ) sz) s ad σ H locs → lv_has ls 2 [(0, .ref (ad a0)), (1, .int x1)] → W p l e R s m args below meth c H locs 0 0 (MQ below (Qq_ G cy ad σ σ sz q) args s 0 0 (va_A (wl_ cy ad σ) sz)) (F0 m 0 ls []) := by
  intro a0 x1 hk_a0 hf H locs ls h hl
  have hf : ((dr_ σ 15 (sr_ σ a0 4)).bind fun b2 => if (f_X8_isBelow x1 (nI (ln_ σ b2))) = 0 then some none else (ix_ x1 (ln_ σ b2)).bind fun j6 => some (sr_ σ b2 j6)) = some q := hf
  refine lv_iload_n C.1 C.2.1 dX8_textAt_0 rfl (lv_at hl 1 rfl) ?_
  refine lv_aload_n C.1 C.2.1 dX8_textAt_1 rfl (lv_at hl 0 rfl) ?_
  obtain ⟨b2, hb_b2, hf⟩ := ob_ hf
  obtain ⟨hq_b2, hk_b2⟩ := dr_in hb_b2
  refine x_get (v := .ref (ad b2)) C K h cl_8 hk_a0 4 (by decide) fl_RX8_32 (hv_r (o := sr_ σ a0 4) rfl hq_b2) dX8_textAt_2 ?_
  refine x_rlen C K h 5 (by decide) rfl (fun _ _ _ _ => rfl) hk_b2 dX8_textAt_5 ?_
  refine x_az K h (x_S C K h [.int x1, .int (nI (ln_ σ b2))] (c_X8_isBelow l κ G cy ad H.size σ x1 (nI (ln_ σ b2)) rfl) mi_X8_isBelow rfl st_yX8_isBelow ml_RX8_116 ⟨rfl, rfl, Nat.le_trans (Nat.le_of_ble_eq_true rfl) hR.1, Nat.le_trans (Nat.le_of_ble_eq_true rfl) hR.2⟩ hl (Nat.le_of_ble_eq_true rfl) dX8_textAt_6 ⟨Nat.zero_le _, Nat.zero_le _⟩ rfl) (fun H locs h hX hz4 => ?_)
  refine lv_if_eq (tgt := 21) C.1 C.2.1 dX8_textAt_9 (by decide) (fun c5 => ?_) (fun c5 => ?_)
  · have hf := if_t hf c5
    refine lv_null C.1 C.2.1 dX8_textAt_21 ?_
    exact x_rq (v := none) C hr hlk h Ex_.rf (Option.some.inj hf) rfl dX8_textAt_22
  · have hf := if_f hf c5
    refine lv_aload_n C.1 C.2.1 dX8_textAt_12 rfl (lv_at hl 0 rfl) ?_
    refine x_get (v := .ref (ad b2)) C K h cl_8 hk_a0 4 (by decide) fl_RX8_32 (hv_r (o := sr_ σ a0 4) rfl hq_b2) dX8_textAt_13 ?_
    refine lv_iload_n C.1 C.2.1 dX8_textAt_16 rfl (lv_at hl 1 rfl) ?_
    obtain ⟨j6, hj_j6, hf⟩ := ob_ hf
    refine x_aald C K h 5 (by decide) rfl (fun _ _ _ _ => rfl) hk_b2 hj_j6 dX8_textAt_17 ?_
    obtain ⟨o7, ho7⟩ : ∃ z, z = sr_ σ b2 j6 := ⟨_, rfl⟩
    rw [← ho7] at hf ⊢
    refine lv_goto (tgt := 22) C.1 C.2.1 dX8_textAt_18 (by decide) ?_
    exact x_rq (v := o7) C hr hlk h Ex_.rf (Option.some.inj hf) rfl dX8_textAt_22
theorem c_X8_textAt (l : Launch) (κ : Ka_) (G : va_G) (cy : Nat → ClassId) (ad : Nat → Nat) (sz : Nat) (σ : St_) (a0 : Nat) (x1 : Int32) (hk_a0 : kd_ σ a0 = 8) {q : Option Nat} (hf : f_X8_textAt σ a0 x1 = some q) : Met l yX8_textAt (Cond.code yX8_textAt cX8_textAt 2 (some (.object "FlownOnceAndLaid$Text")) :: wU_) { frames := 1, cells := 0, slots := 0, locals := 21 } (va_Pc [.ref (ad a0), .int x1] (Pr_ κ G cy ad σ sz)) (Qq_ G cy ad σ σ sz q) 0 0 (va_A (wl_ cy ad σ) sz) :=
  x_met (by decide) (fun p e R s m below meth c ls hR C hr hlk hin _ K h hl => w_X8_textAt C K hr hlk ⟨hR.1, hR.2.1⟩ a0 x1 hk_a0 hf s.heap [] ls h hl) (Nat.le_of_ble_eq_true rfl)
-- X8_think
theorem mi_X8_think : Mi_ yX8_think cX8_think 2 none 1 := ⟨co_yX8_think, in_RX8, by decide, by decide, by decide +kernel⟩
def f_X8_think (σ : St_) (a0 : Nat) (x1 : Nat) : Option St_ := (dr_ σ 6 (sr_ σ a0 7)).bind fun b2 => (dr_ σ 1 (sr_ σ a0 0)).bind fun b3 => (f_X6_takeUp σ b2 x1 (sl_ σ b3 4) (si_ σ b3 2)).bind fun q4 => (dr_ q4 6 (sr_ q4 a0 7)).bind fun b5 => (dr_ q4 1 (sr_ q4 a0 0)).bind fun b6 => (f_X8_textAt q4 a0 (si_ q4 b6 3)).bind fun q7 => (f_X6_goBy q4 b5 q7).bind fun q8 => some q8
set_option maxHeartbeats 4000000 in
set_option maxRecDepth 100000 in
theorem w_X8_think {p : Program} {l : Launch} {e : Env} {R : Room} {s : State} {m : MethodId} {args : Array Value} {below : List Frame} {meth : Method} {c : Code} {κ : Ka_} {G : va_G} {cy : Nat → ClassId} {ad : Nat → Nat} {sz : Nat} {σ0 : St_} (C : CallFix p m c cX8_think 2 s args wU_ RX8) (K : Kx_ κ G cy (va_A (wl_ cy ad σ0) sz) s) (hr : meth.sig.returnType = none) (hlk : meth.locks = false) (hR : 2 ≤ R.frames ∧ 42 ≤ R.locals) {q : St_} : ∀ (σ : St_) (a0 : Nat) (x1 : Nat), Ex_ σ0 σ → kd_ σ a0 = 8 → kd_ σ x1 = 0 → f_X8_think σ a0 x1 = some q → ∀ (H : Heap) (locs : List Loc) (ls : Array Slot), Ht_ G cy (va_A (wl_ cy ad σ0) sz) s ad σ H locs → lv_has ls 2 [(0, .ref (ad a0)), (1, .ref (ad x1))] → W p l e R s m args below meth c H locs 0 0 (MQ below (Qv_ G cy ad σ0 q sz) args s 0 0 (va_A (wl_ cy ad σ0) sz)) (F0 m 0 ls []) := by
  intro σ a0 x1 hE hk_a0 hk_x1 hf H locs ls h hl
  have hf : ((dr_ σ 6 (sr_ σ a0 7)).bind fun b2 => (dr_ σ 1 (sr_ σ a0 0)).bind fun b3 => (f_X6_takeUp σ b2 x1 (sl_ σ b3 4) (si_ σ b3 2)).bind fun q4 => (dr_ q4 6 (sr_ q4 a0 7)).bind fun b5 => (dr_ q4 1 (sr_ q4 a0 0)).bind fun b6 => (f_X8_textAt q4 a0 (si_ q4 b6 3)).bind fun q7 => (f_X6_goBy q4 b5 q7).bind fun q8 => some q8) = some q := hf
  refine lv_aload_n C.1 C.2.1 dX8_think_0 rfl (lv_at hl 0 rfl) ?_
  obtain ⟨b2, hb_b2, hf⟩ := ob_ hf
  obtain ⟨hq_b2, hk_b2⟩ := dr_in hb_b2
  refine x_get (v := .ref (ad b2)) C K h cl_8 hk_a0 7 (by decide) fl_RX8_49 (hv_r (o := sr_ σ a0 7) rfl hq_b2) dX8_think_1 ?_
  refine lv_aload_n C.1 C.2.1 dX8_think_4 rfl (lv_at hl 1 rfl) ?_
  refine lv_aload_n C.1 C.2.1 dX8_think_5 rfl (lv_at hl 0 rfl) ?_
  obtain ⟨b3, hb_b3, hf⟩ := ob_ hf
  obtain ⟨hq_b3, hk_b3⟩ := dr_in hb_b3
  refine x_get (v := .ref (ad b3)) C K h cl_8 hk_a0 0 (by decide) fl_RX8_12 (hv_r (o := sr_ σ a0 0) rfl hq_b3) dX8_think_6 ?_
  refine x_getN (v := .long (sl_ σ b3 4)) C K h cl_1 hk_b3 4 (by decide) nf_RX8_338 rfl dX8_think_9 ?_
  refine lv_aload_n C.1 C.2.1 dX8_think_12 rfl (lv_at hl 0 rfl) ?_
  refine x_get (v := .ref (ad b3)) C K h cl_8 hk_a0 0 (by decide) fl_RX8_12 (hv_r (o := sr_ σ a0 0) rfl hq_b3) dX8_think_13 ?_
  refine x_getN (v := .int (si_ σ b3 2)) C K h cl_1 hk_b3 2 (by decide) nf_RX8_120 rfl dX8_think_16 ?_
  obtain ⟨q4, hq_q4, hf⟩ := ob_ hf
  refine x_av K h (x_VN C K h [.ref (ad x1), .long (sl_ σ b3 4), .int (si_ σ b3 2)] (c_X6_takeUp l κ G cy ad H.size σ b2 x1 (sl_ σ b3 4) (si_ σ b3 2) hk_b2 hk_x1 hq_q4) mi_X6_takeUp rfl im_yX6_takeUp se_yX6_takeUp nm_RX8_387 cl_6 hk_b2 ⟨rfl, rfl, Nat.le_trans (Nat.le_of_ble_eq_true rfl) hR.1, Nat.le_trans (Nat.le_of_ble_eq_true rfl) hR.2⟩ hl (Nat.le_of_ble_eq_true rfl) dX8_think_19 ⟨Nat.zero_le _, Nat.zero_le _⟩ rfl) (fun H locs h hX => ?_)
  have hE := hE.trans hX
  have hk_a0 := hX.k hk_a0 (by decide)
  have hk_x1 := hX.k hk_x1 (by decide)
  refine lv_aload_n C.1 C.2.1 dX8_think_22 rfl (lv_at hl 0 rfl) ?_
  obtain ⟨b5, hb_b5, hf⟩ := ob_ hf
  obtain ⟨hq_b5, hk_b5⟩ := dr_in hb_b5
  refine x_get (v := .ref (ad b5)) C K h cl_8 hk_a0 7 (by decide) fl_RX8_49 (hv_r (o := sr_ q4 a0 7) rfl hq_b5) dX8_think_23 ?_
  refine lv_aload_n C.1 C.2.1 dX8_think_26 rfl (lv_at hl 0 rfl) ?_
  refine lv_aload_n C.1 C.2.1 dX8_think_27 rfl (lv_at hl 0 rfl) ?_
  obtain ⟨b6, hb_b6, hf⟩ := ob_ hf
  obtain ⟨hq_b6, hk_b6⟩ := dr_in hb_b6
  refine x_get (v := .ref (ad b6)) C K h cl_8 hk_a0 0 (by decide) fl_RX8_12 (hv_r (o := sr_ q4 a0 0) rfl hq_b6) dX8_think_28 ?_
  refine x_getN (v := .int (si_ q4 b6 3)) C K h cl_1 hk_b6 3 (by decide) nf_RX8_178 rfl dX8_think_31 ?_
  obtain ⟨q7, hq_q7, hf⟩ := ob_ hf
  refine x_aq K h (x_V C K h [.int (si_ q4 b6 3)] (c_X8_textAt l κ G cy ad H.size q4 a0 (si_ q4 b6 3) hk_a0 hq_q7) mi_X8_textAt rfl im_yX8_textAt se_yX8_textAt ml_RX8_305 cl_8 hk_a0 ⟨rfl, rfl, Nat.le_trans (Nat.le_of_ble_eq_true rfl) hR.1, Nat.le_trans (Nat.le_of_ble_eq_true rfl) hR.2⟩ hl (Nat.le_of_ble_eq_true rfl) dX8_think_34 ⟨Nat.zero_le _, Nat.zero_le _⟩ rfl) (fun H locs h hX => ?_)
  obtain ⟨q8, hq_q8, hf⟩ := ob_ hf
  refine x_av K h (x_VN C K h [rv_ ad q7] (c_X6_goBy l κ G cy ad H.size q4 b5 q7 hk_b5 hq_q8) mi_X6_goBy rfl im_yX6_goBy se_yX6_goBy nm_RX8_309 cl_6 hk_b5 ⟨rfl, rfl, Nat.le_trans (Nat.le_of_ble_eq_true rfl) hR.1, Nat.le_trans (Nat.le_of_ble_eq_true rfl) hR.2⟩ hl (Nat.le_of_ble_eq_true rfl) dX8_think_37 ⟨Nat.zero_le _, Nat.zero_le _⟩ rfl) (fun H locs h hX => ?_)
  have hE := hE.trans hX
  have hk_a0 := hX.k hk_a0 (by decide)
  have hk_x1 := hX.k hk_x1 (by decide)
  exact x_rv C hr hlk h hE (Option.some.inj hf) dX8_think_40
theorem c_X8_think (l : Launch) (κ : Ka_) (G : va_G) (cy : Nat → ClassId) (ad : Nat → Nat) (sz : Nat) (σ : St_) (a0 : Nat) (x1 : Nat) (hk_a0 : kd_ σ a0 = 8) (hk_x1 : kd_ σ x1 = 0) {q : St_} (hf : f_X8_think σ a0 x1 = some q) : Met l yX8_think (Cond.code yX8_think cX8_think 2 none :: wU_) { frames := 2, cells := 0, slots := 0, locals := 42 } (va_Pc [.ref (ad a0), .ref (ad x1)] (Pr_ κ G cy ad σ sz)) (Qv_ G cy ad σ q sz) 0 0 (va_A (wl_ cy ad σ) sz) :=
  x_met (by decide) (fun p e R s m below meth c ls hR C hr hlk hin _ K h hl => w_X8_think C K hr hlk ⟨hR.1, hR.2.1⟩ σ a0 x1 Ex_.rf hk_a0 hk_x1 hf s.heap [] ls h hl) (Nat.le_of_ble_eq_true rfl)
-- X8_heightOf
theorem mi_X8_heightOf : Mi_ yX8_heightOf cX8_heightOf 3 (some .int) 1 := ⟨co_yX8_heightOf, in_RX8, by decide, by decide, by decide +kernel⟩
def f_X8_heightOf (fu : Nat) (σ : St_) (a0 : Nat) (x1 : Int32) : Option (Int32 × St_) := (dr_ σ 1 (sr_ σ a0 0)).bind fun b2 => (f_X1_carpetAt σ b2 x1).bind fun q3 => oc_ q3 (some ((-1 : Int32), σ)) (fun b4 => if kd_ σ b4 = 0 then (f_X8_think σ a0 b4).bind fun q5 => (dr_ q5 6 (sr_ q5 a0 7)).bind fun b6 => (dr_ q5 1 (sr_ q5 a0 0)).bind fun b7 => (f_X1_nearTo fu q5 b7 x1).bind fun q8 => (f_X6_height fu q5 b6 (si_ q5 b4 2) q8).bind fun q9 => some (q9.1, q9.2) else none)
set_option maxHeartbeats 4000000 in
set_option maxRecDepth 100000 in
theorem w_X8_heightOf {p : Program} {l : Launch} {e : Env} {R : Room} {s : State} {m : MethodId} {args : Array Value} {below : List Frame} {meth : Method} {c : Code} {κ : Ka_} {G : va_G} {cy : Nat → ClassId} {ad : Nat → Nat} {sz : Nat} {σ0 : St_} (fu : Nat) (C : CallFix p m c cX8_heightOf 3 s args wU_ RX8) (K : Kx_ κ G cy (va_A (wl_ cy ad σ0) sz) s) (hr : meth.sig.returnType = some .int) (hlk : meth.locks = false) (hR : 3 ≤ R.frames ∧ 76 ≤ R.locals) {q : Int32 × St_} : ∀ (σ : St_) (a0 : Nat) (x1 : Int32), Ex_ σ0 σ → kd_ σ a0 = 8 → f_X8_heightOf fu σ a0 x1 = some q → ∀ (H : Heap) (locs : List Loc) (ls : Array Slot), Ht_ G cy (va_A (wl_ cy ad σ0) sz) s ad σ H locs → lv_has ls 3 [(0, .ref (ad a0)), (1, .int x1)] → W p l e R s m args below meth c H locs 0 0 (MQ below (Qi_ G cy ad σ0 q.2 sz q.1) args s 0 0 (va_A (wl_ cy ad σ0) sz)) (F0 m 0 ls []) := by
  intro σ a0 x1 hE hk_a0 hf H locs ls h hl
  have hf : ((dr_ σ 1 (sr_ σ a0 0)).bind fun b2 => (f_X1_carpetAt σ b2 x1).bind fun q3 => oc_ q3 (some ((-1 : Int32), σ)) (fun b4 => if kd_ σ b4 = 0 then (f_X8_think σ a0 b4).bind fun q5 => (dr_ q5 6 (sr_ q5 a0 7)).bind fun b6 => (dr_ q5 1 (sr_ q5 a0 0)).bind fun b7 => (f_X1_nearTo fu q5 b7 x1).bind fun q8 => (f_X6_height fu q5 b6 (si_ q5 b4 2) q8).bind fun q9 => some (q9.1, q9.2) else none)) = some q := hf
  refine lv_aload_n C.1 C.2.1 dX8_heightOf_0 rfl (lv_at hl 0 rfl) ?_
  obtain ⟨b2, hb_b2, hf⟩ := ob_ hf
  obtain ⟨hq_b2, hk_b2⟩ := dr_in hb_b2
  refine x_get (v := .ref (ad b2)) C K h cl_8 hk_a0 0 (by decide) fl_RX8_12 (hv_r (o := sr_ σ a0 0) rfl hq_b2) dX8_heightOf_1 ?_
  refine lv_iload_n C.1 C.2.1 dX8_heightOf_4 rfl (lv_at hl 1 rfl) ?_
  obtain ⟨q3, hq_q3, hf⟩ := ob_ hf
  refine x_aq K h (x_VN C K h [.int x1] (c_X1_carpetAt l κ G cy ad H.size σ b2 x1 hk_b2 hq_q3) mi_X1_carpetAt rfl im_yX1_carpetAt se_yX1_carpetAt nm_RX8_130 cl_1 hk_b2 ⟨rfl, rfl, Nat.le_trans (Nat.le_of_ble_eq_true rfl) hR.1, Nat.le_trans (Nat.le_of_ble_eq_true rfl) hR.2⟩ hl (Nat.le_of_ble_eq_true rfl) dX8_heightOf_5 ⟨Nat.zero_le _, Nat.zero_le _⟩ rfl) (fun H locs h hX => ?_)
  refine x_astore_nq (i := 2) (lv' := [(2, rv_ ad q3), (0, .ref (ad a0)), (1, .int x1)]) C.1 C.2.1 dX8_heightOf_8 rfl hl (by decide) rfl (fun ls hl => ?_)
  refine x_aload_nq C.1 C.2.1 dX8_heightOf_9 rfl (lv_at hl 0 rfl) ?_
  cases q3 with
  | none =>
    have hf := oc_n hf
    refine lv_ifnonnullN C.1 C.2.1 dX8_heightOf_10 ?_
    refine lv_iconst (v := (-1 : Int32)) C.1 C.2.1 dX8_heightOf_13 (by decide) ?_
    exact x_ri C hr hlk h hE (pf_1 (Option.some.inj hf)) (pf_2 (Option.some.inj hf)) dX8_heightOf_14
  | some b4 =>
    obtain ⟨hk_b4, hf⟩ := gd_ (oc_s hf)
    refine lv_ifnonnull (tgt := 15) C.1 C.2.1 dX8_heightOf_10 (by decide) ?_
    refine lv_aload_n C.1 C.2.1 dX8_heightOf_15 rfl (lv_at hl 1 rfl) ?_
    refine lv_aload_n C.1 C.2.1 dX8_heightOf_16 rfl (lv_at hl 0 rfl) ?_
    obtain ⟨q5, hq_q5, hf⟩ := ob_ hf
    refine x_av K h (x_V C K h [.ref (ad b4)] (c_X8_think l κ G cy ad H.size σ a0 b4 hk_a0 hk_b4 hq_q5) mi_X8_think rfl im_yX8_think se_yX8_think ml_RX8_153 cl_8 hk_a0 ⟨rfl, rfl, Nat.le_trans (Nat.le_of_ble_eq_true rfl) hR.1, Nat.le_trans (Nat.le_of_ble_eq_true rfl) hR.2⟩ hl (Nat.le_of_ble_eq_true rfl) dX8_heightOf_17 ⟨Nat.zero_le _, Nat.zero_le _⟩ rfl) (fun H locs h hX => ?_)
    have hE := hE.trans hX
    have hk_a0 := hX.k hk_a0 (by decide)
    have hk_b4 := hX.k hk_b4 (by decide)
    refine lv_aload_n C.1 C.2.1 dX8_heightOf_20 rfl (lv_at hl 1 rfl) ?_
    obtain ⟨b6, hb_b6, hf⟩ := ob_ hf
    obtain ⟨hq_b6, hk_b6⟩ := dr_in hb_b6
    refine x_get (v := .ref (ad b6)) C K h cl_8 hk_a0 7 (by decide) fl_RX8_49 (hv_r (o := sr_ q5 a0 7) rfl hq_b6) dX8_heightOf_21 ?_
    refine lv_aload_n C.1 C.2.1 dX8_heightOf_24 rfl (lv_at hl 0 rfl) ?_
    refine x_getN (v := .int (si_ q5 b4 2)) C K h cl_0 hk_b4 2 (by decide) nf_RX8_157 rfl dX8_heightOf_25 ?_
    refine lv_aload_n C.1 C.2.1 dX8_heightOf_28 rfl (lv_at hl 1 rfl) ?_
    obtain ⟨b7, hb_b7, hf⟩ := ob_ hf
    obtain ⟨hq_b7, hk_b7⟩ := dr_in hb_b7
    refine x_get (v := .ref (ad b7)) C K h cl_8 hk_a0 0 (by decide) fl_RX8_12 (hv_r (o := sr_ q5 a0 0) rfl hq_b7) dX8_heightOf_29 ?_
    refine lv_iload_n C.1 C.2.1 dX8_heightOf_32 rfl (lv_at hl 2 rfl) ?_
    obtain ⟨q8, hq_q8, hf⟩ := ob_ hf
    refine x_ai K h (x_VN C K h [.int x1] (c_X1_nearTo fu l κ G cy ad H.size q5 b7 x1 hk_b7 hq_q8) mi_X1_nearTo rfl im_yX1_nearTo se_yX1_nearTo nm_RX8_163 cl_1 hk_b7 ⟨rfl, rfl, Nat.le_trans (Nat.le_of_ble_eq_true rfl) hR.1, Nat.le_trans (Nat.le_of_ble_eq_true rfl) hR.2⟩ hl (Nat.le_of_ble_eq_true rfl) dX8_heightOf_33 ⟨Nat.zero_le _, Nat.zero_le _⟩ rfl) (fun H locs h hX => ?_)
    obtain ⟨q9, hq_q9, hf⟩ := ob_ hf
    refine x_ai K h (x_VN C K h [.int (si_ q5 b4 2), .int q8] (c_X6_height fu l κ G cy ad H.size q5 b6 (si_ q5 b4 2) q8 hk_b6 hq_q9) mi_X6_height rfl im_yX6_height se_yX6_height nm_RX8_166 cl_6 hk_b6 ⟨rfl, rfl, Nat.le_trans (Nat.le_of_ble_eq_true rfl) hR.1, Nat.le_trans (Nat.le_of_ble_eq_true rfl) hR.2⟩ hl (Nat.le_of_ble_eq_true rfl) dX8_heightOf_36 ⟨Nat.zero_le _, Nat.zero_le _⟩ rfl) (fun H locs h hX => ?_)
    have hE := hE.trans hX
    have hk_a0 := hX.k hk_a0 (by decide)
    have hk_b4 := hX.k hk_b4 (by decide)
    exact x_ri C hr hlk h hE (pf_1 (Option.some.inj hf)) (pf_2 (Option.some.inj hf)) dX8_heightOf_39
theorem c_X8_heightOf (fu : Nat) (l : Launch) (κ : Ka_) (G : va_G) (cy : Nat → ClassId) (ad : Nat → Nat) (sz : Nat) (σ : St_) (a0 : Nat) (x1 : Int32) (hk_a0 : kd_ σ a0 = 8) {q : Int32 × St_} (hf : f_X8_heightOf fu σ a0 x1 = some q) : Met l yX8_heightOf (Cond.code yX8_heightOf cX8_heightOf 3 (some .int) :: wU_) { frames := 3, cells := 0, slots := 0, locals := 76 } (va_Pc [.ref (ad a0), .int x1] (Pr_ κ G cy ad σ sz)) (Qi_ G cy ad σ q.2 sz q.1) 0 0 (va_A (wl_ cy ad σ) sz) :=
  x_met (by decide) (fun p e R s m below meth c ls hR C hr hlk hin _ K h hl => w_X8_heightOf fu C K hr hlk ⟨hR.1, hR.2.1⟩ σ a0 x1 Ex_.rf hk_a0 hf s.heap [] ls h hl) (Nat.le_of_ble_eq_true rfl)
-- X8_told
theorem mi_X8_told : Mi_ yX8_told cX8_told 4 (some .int) 2 := ⟨co_yX8_told, in_RX8, by decide, by decide, by decide +kernel⟩
def f_X8_told_72 (fu : Nat) (σ : St_) (v0 : Nat) (v1 : Int32) (v2 : Int32) (v3 : Nat) : Option (Int32 × St_) := if v2 = (6 : Int32) then (f_X8_heightOf fu σ v0 v1).bind fun q9 => some (q9.1, q9.2) else if v2 < (10 : Int32) then some ((-2 : Int32), σ) else if (f_X8_isBelow (v2 - (10 : Int32)) (8 : Int32)) = 0 then some ((-2 : Int32), σ) else (f_X8_think σ v0 v3).bind fun q6 => (dr_ q6 6 (sr_ q6 v0 7)).bind fun b7 => (f_X6_goal fu q6 b7 (si_ q6 v3 2) (v2 - (10 : Int32))).bind fun q8 => some (q8.1, q8.2)
set_option maxHeartbeats 4000000 in
set_option maxRecDepth 100000 in
theorem w_X8_told_72 {p : Program} {l : Launch} {e : Env} {R : Room} {s : State} {m : MethodId} {args : Array Value} {below : List Frame} {meth : Method} {c : Code} {κ : Ka_} {G : va_G} {cy : Nat → ClassId} {ad : Nat → Nat} {sz : Nat} {σ0 : St_} (fu : Nat) (C : CallFix p m c cX8_told 4 s args wU_ RX8) (K : Kx_ κ G cy (va_A (wl_ cy ad σ0) sz) s) (hr : meth.sig.returnType = some .int) (hlk : meth.locks = false) (hR : 4 ≤ R.frames ∧ 98 ≤ R.locals) {q : Int32 × St_} : ∀ (σ : St_) (v0 : Nat) (v1 : Int32) (v2 : Int32) (v3 : Nat), Ex_ σ0 σ → kd_ σ v0 = 8 → kd_ σ v3 = 0 → f_X8_told_72 fu σ v0 v1 v2 v3 = some q → ∀ (H : Heap) (locs : List Loc) (ls : Array Slot), Ht_ G cy (va_A (wl_ cy ad σ0) sz) s ad σ H locs → lv_has ls 4 [(0, .ref (ad v0)), (1, .int v1), (2, .int v2), (3, .ref (ad v3))] → W p l e R s m args below meth c H locs 0 0 (MQ below (Qi_ G cy ad σ0 q.2 sz q.1) args s 0 0 (va_A (wl_ cy ad σ0) sz)) (F0 m 72 ls []) := by
  intro σ v0 v1 v2 v3 hE hk_v0 hk_v3 hf H locs ls h hl
  have hf : (if v2 = (6 : Int32) then (f_X8_heightOf fu σ v0 v1).bind fun q9 => some (q9.1, q9.2) else if v2 < (10 : Int32) then some ((-2 : Int32), σ) else if (f_X8_isBelow (v2 - (10 : Int32)) (8 : Int32)) = 0 then some ((-2 : Int32), σ) else (f_X8_think σ v0 v3).bind fun q6 => (dr_ q6 6 (sr_ q6 v0 7)).bind fun b7 => (f_X6_goal fu q6 b7 (si_ q6 v3 2) (v2 - (10 : Int32))).bind fun q8 => some (q8.1, q8.2)) = some q := hf
  refine lv_iload_n C.1 C.2.1 dX8_told_72 rfl (lv_at hl 2 rfl) ?_
  refine lv_bipush (v := (6 : Int32)) C.1 C.2.1 dX8_told_73 (by decide) ?_
  refine lv_icmp_ne (tgt := 84) C.1 C.2.1 dX8_told_75 (by decide) (fun c1 => ?_) (fun c1 => ?_)
  · have hf := if_f hf c1
    refine lv_iload_n C.1 C.2.1 dX8_told_84 rfl (lv_at hl 2 rfl) ?_
    refine lv_bipush (v := (10 : Int32)) C.1 C.2.1 dX8_told_85 (by decide) ?_
    refine lv_icmp_lt (tgt := 123) C.1 C.2.1 dX8_told_87 (by decide) (fun c2 => ?_) (fun c2 => ?_)
    · have hf := if_t hf c2
      refine lv_bipush (v := (-2 : Int32)) C.1 C.2.1 dX8_told_123 (by decide) ?_
      exact x_ri C hr hlk h hE (pf_1 (Option.some.inj hf)) (pf_2 (Option.some.inj hf)) dX8_told_125
    · have hf := if_f hf c2
      refine lv_iload_n C.1 C.2.1 dX8_told_90 rfl (lv_at hl 2 rfl) ?_
      refine lv_bipush (v := (10 : Int32)) C.1 C.2.1 dX8_told_91 (by decide) ?_
      refine lv_isub C.1 C.2.1 dX8_told_93 ?_
      refine lv_bipush (v := (8 : Int32)) C.1 C.2.1 dX8_told_94 (by decide) ?_
      refine x_az K h (x_S C K h [.int (v2 - (10 : Int32)), .int (8 : Int32)] (c_X8_isBelow l κ G cy ad H.size σ (v2 - (10 : Int32)) (8 : Int32) rfl) mi_X8_isBelow rfl st_yX8_isBelow ml_RX8_116 ⟨rfl, rfl, Nat.le_trans (Nat.le_of_ble_eq_true rfl) hR.1, Nat.le_trans (Nat.le_of_ble_eq_true rfl) hR.2⟩ hl (Nat.le_of_ble_eq_true rfl) dX8_told_96 ⟨Nat.zero_le _, Nat.zero_le _⟩ rfl) (fun H locs h hX hz4 => ?_)
      refine lv_if_eq (tgt := 123) C.1 C.2.1 dX8_told_99 (by decide) (fun c5 => ?_) (fun c5 => ?_)
      · have hf := if_t hf c5
        refine lv_bipush (v := (-2 : Int32)) C.1 C.2.1 dX8_told_123 (by decide) ?_
        exact x_ri C hr hlk h hE (pf_1 (Option.some.inj hf)) (pf_2 (Option.some.inj hf)) dX8_told_125
      · have hf := if_f hf c5
        refine lv_aload_n C.1 C.2.1 dX8_told_102 rfl (lv_at hl 0 rfl) ?_
        refine lv_aload_n C.1 C.2.1 dX8_told_103 rfl (lv_at hl 3 rfl) ?_
        obtain ⟨q6, hq_q6, hf⟩ := ob_ hf
        refine x_av K h (x_V C K h [.ref (ad v3)] (c_X8_think l κ G cy ad H.size σ v0 v3 hk_v0 hk_v3 hq_q6) mi_X8_think rfl im_yX8_think se_yX8_think ml_RX8_153 cl_8 hk_v0 ⟨rfl, rfl, Nat.le_trans (Nat.le_of_ble_eq_true rfl) hR.1, Nat.le_trans (Nat.le_of_ble_eq_true rfl) hR.2⟩ hl (Nat.le_of_ble_eq_true rfl) dX8_told_104 ⟨Nat.zero_le _, Nat.zero_le _⟩ rfl) (fun H locs h hX => ?_)
        have hE := hE.trans hX
        have hk_v0 := hX.k hk_v0 (by decide)
        have hk_v3 := hX.k hk_v3 (by decide)
        refine lv_aload_n C.1 C.2.1 dX8_told_107 rfl (lv_at hl 0 rfl) ?_
        obtain ⟨b7, hb_b7, hf⟩ := ob_ hf
        obtain ⟨hq_b7, hk_b7⟩ := dr_in hb_b7
        refine x_get (v := .ref (ad b7)) C K h cl_8 hk_v0 7 (by decide) fl_RX8_49 (hv_r (o := sr_ q6 v0 7) rfl hq_b7) dX8_told_108 ?_
        refine lv_aload_n C.1 C.2.1 dX8_told_111 rfl (lv_at hl 3 rfl) ?_
        refine x_getN (v := .int (si_ q6 v3 2)) C K h cl_0 hk_v3 2 (by decide) nf_RX8_157 rfl dX8_told_112 ?_
        refine lv_iload_n C.1 C.2.1 dX8_told_115 rfl (lv_at hl 2 rfl) ?_
        refine lv_bipush (v := (10 : Int32)) C.1 C.2.1 dX8_told_116 (by decide) ?_
        refine lv_isub C.1 C.2.1 dX8_told_118 ?_
        obtain ⟨q8, hq_q8, hf⟩ := ob_ hf
        refine x_ai K h (x_VN C K h [.int (si_ q6 v3 2), .int (v2 - (10 : Int32))] (c_X6_goal fu l κ G cy ad H.size q6 b7 (si_ q6 v3 2) (v2 - (10 : Int32)) hk_b7 hq_q8) mi_X6_goal rfl im_yX6_goal se_yX6_goal nm_RX8_160 cl_6 hk_b7 ⟨rfl, rfl, Nat.le_trans (Nat.le_of_ble_eq_true rfl) hR.1, Nat.le_trans (Nat.le_of_ble_eq_true rfl) hR.2⟩ hl (Nat.le_of_ble_eq_true rfl) dX8_told_119 ⟨Nat.zero_le _, Nat.zero_le _⟩ rfl) (fun H locs h hX => ?_)
        have hE := hE.trans hX
        have hk_v0 := hX.k hk_v0 (by decide)
        have hk_v3 := hX.k hk_v3 (by decide)
        exact x_ri C hr hlk h hE (pf_1 (Option.some.inj hf)) (pf_2 (Option.some.inj hf)) dX8_told_122
  · have hf := if_t hf c1
    refine lv_aload_n C.1 C.2.1 dX8_told_78 rfl (lv_at hl 0 rfl) ?_
    refine lv_iload_n C.1 C.2.1 dX8_told_79 rfl (lv_at hl 1 rfl) ?_
    obtain ⟨q9, hq_q9, hf⟩ := ob_ hf
    refine x_ai K h (x_V C K h [.int v1] (c_X8_heightOf fu l κ G cy ad H.size σ v0 v1 hk_v0 hq_q9) mi_X8_heightOf rfl im_yX8_heightOf se_yX8_heightOf ml_RX8_150 cl_8 hk_v0 ⟨rfl, rfl, Nat.le_trans (Nat.le_of_ble_eq_true rfl) hR.1, Nat.le_trans (Nat.le_of_ble_eq_true rfl) hR.2⟩ hl (Nat.le_of_ble_eq_true rfl) dX8_told_80 ⟨Nat.zero_le _, Nat.zero_le _⟩ rfl) (fun H locs h hX => ?_)
    have hE := hE.trans hX
    have hk_v0 := hX.k hk_v0 (by decide)
    have hk_v3 := hX.k hk_v3 (by decide)
    exact x_ri C hr hlk h hE (pf_1 (Option.some.inj hf)) (pf_2 (Option.some.inj hf)) dX8_told_83
def f_X8_told (fu : Nat) (σ : St_) (a0 : Nat) (x1 : Int32) (x2 : Int32) : Option (Int32 × St_) := if x2 = 0 then (dr_ σ 1 (sr_ σ a0 0)).bind fun b16 => some (si_ σ b16 2, σ) else if x2 = (1 : Int32) then if (f_X8_isBelow x1 (36 : Int32)) = 0 then some ((-2 : Int32), σ) else (dr_ σ 1 (sr_ σ a0 0)).bind fun b14 => some (f_X1_wallOn σ b14 x1, σ) else (dr_ σ 1 (sr_ σ a0 0)).bind fun b5 => (f_X1_carpetAt σ b5 x1).bind fun q6 => oc_ q6 (some ((-2 : Int32), σ)) (fun b7 => if kd_ σ b7 = 0 then if x2 < (2 : Int32) then f_X8_told_72 fu σ a0 x1 x2 b7 else if (5 : Int32) < x2 then f_X8_told_72 fu σ a0 x1 x2 b7 else some (f_X0_tell σ b7 x2, σ) else none)
set_option maxHeartbeats 4000000 in
set_option maxRecDepth 100000 in
theorem w_X8_told {p : Program} {l : Launch} {e : Env} {R : Room} {s : State} {m : MethodId} {args : Array Value} {below : List Frame} {meth : Method} {c : Code} {κ : Ka_} {G : va_G} {cy : Nat → ClassId} {ad : Nat → Nat} {sz : Nat} {σ0 : St_} (fu : Nat) (C : CallFix p m c cX8_told 4 s args wU_ RX8) (K : Kx_ κ G cy (va_A (wl_ cy ad σ0) sz) s) (hr : meth.sig.returnType = some .int) (hlk : meth.locks = false) (hR : 4 ≤ R.frames ∧ 98 ≤ R.locals) {q : Int32 × St_} : ∀ (σ : St_) (a0 : Nat) (x1 : Int32) (x2 : Int32), Ex_ σ0 σ → kd_ σ a0 = 8 → f_X8_told fu σ a0 x1 x2 = some q → ∀ (H : Heap) (locs : List Loc) (ls : Array Slot), Ht_ G cy (va_A (wl_ cy ad σ0) sz) s ad σ H locs → lv_has ls 4 [(0, .ref (ad a0)), (1, .int x1), (2, .int x2)] → W p l e R s m args below meth c H locs 0 0 (MQ below (Qi_ G cy ad σ0 q.2 sz q.1) args s 0 0 (va_A (wl_ cy ad σ0) sz)) (F0 m 0 ls []) := by
  intro σ a0 x1 x2 hE hk_a0 hf H locs ls h hl
  have hf : (if x2 = 0 then (dr_ σ 1 (sr_ σ a0 0)).bind fun b16 => some (si_ σ b16 2, σ) else if x2 = (1 : Int32) then if (f_X8_isBelow x1 (36 : Int32)) = 0 then some ((-2 : Int32), σ) else (dr_ σ 1 (sr_ σ a0 0)).bind fun b14 => some (f_X1_wallOn σ b14 x1, σ) else (dr_ σ 1 (sr_ σ a0 0)).bind fun b5 => (f_X1_carpetAt σ b5 x1).bind fun q6 => oc_ q6 (some ((-2 : Int32), σ)) (fun b7 => if kd_ σ b7 = 0 then if x2 < (2 : Int32) then f_X8_told_72 fu σ a0 x1 x2 b7 else if (5 : Int32) < x2 then f_X8_told_72 fu σ a0 x1 x2 b7 else some (f_X0_tell σ b7 x2, σ) else none)) = some q := hf
  refine lv_iload_n C.1 C.2.1 dX8_told_0 rfl (lv_at hl 2 rfl) ?_
  refine lv_if_ne (tgt := 12) C.1 C.2.1 dX8_told_1 (by decide) (fun c3 => ?_) (fun c3 => ?_)
  · have hf := if_f hf c3
    refine lv_iload_n C.1 C.2.1 dX8_told_12 rfl (lv_at hl 2 rfl) ?_
    refine lv_iconst (v := (1 : Int32)) C.1 C.2.1 dX8_told_13 (by decide) ?_
    refine lv_icmp_ne (tgt := 40) C.1 C.2.1 dX8_told_14 (by decide) (fun c4 => ?_) (fun c4 => ?_)
    · have hf := if_f hf c4
      refine lv_aload_n C.1 C.2.1 dX8_told_40 rfl (lv_at hl 0 rfl) ?_
      obtain ⟨b5, hb_b5, hf⟩ := ob_ hf
      obtain ⟨hq_b5, hk_b5⟩ := dr_in hb_b5
      refine x_get (v := .ref (ad b5)) C K h cl_8 hk_a0 0 (by decide) fl_RX8_12 (hv_r (o := sr_ σ a0 0) rfl hq_b5) dX8_told_41 ?_
      refine lv_iload_n C.1 C.2.1 dX8_told_44 rfl (lv_at hl 1 rfl) ?_
      obtain ⟨q6, hq_q6, hf⟩ := ob_ hf
      refine x_aq K h (x_VN C K h [.int x1] (c_X1_carpetAt l κ G cy ad H.size σ b5 x1 hk_b5 hq_q6) mi_X1_carpetAt rfl im_yX1_carpetAt se_yX1_carpetAt nm_RX8_130 cl_1 hk_b5 ⟨rfl, rfl, Nat.le_trans (Nat.le_of_ble_eq_true rfl) hR.1, Nat.le_trans (Nat.le_of_ble_eq_true rfl) hR.2⟩ hl (Nat.le_of_ble_eq_true rfl) dX8_told_45 ⟨Nat.zero_le _, Nat.zero_le _⟩ rfl) (fun H locs h hX => ?_)
      refine x_astore_nq (i := 3) (lv' := [(3, rv_ ad q6), (0, .ref (ad a0)), (1, .int x1), (2, .int x2)]) C.1 C.2.1 dX8_told_48 rfl hl (by decide) rfl (fun ls hl => ?_)
      refine x_aload_nq C.1 C.2.1 dX8_told_49 rfl (lv_at hl 0 rfl) ?_
      cases q6 with
      | none =>
        have hf := oc_n hf
        refine lv_ifnonnullN C.1 C.2.1 dX8_told_50 ?_
        refine lv_bipush (v := (-2 : Int32)) C.1 C.2.1 dX8_told_53 (by decide) ?_
        exact x_ri C hr hlk h hE (pf_1 (Option.some.inj hf)) (pf_2 (Option.some.inj hf)) dX8_told_55
      | some b7 =>
        obtain ⟨hk_b7, hf⟩ := gd_ (oc_s hf)
        refine lv_ifnonnull (tgt := 56) C.1 C.2.1 dX8_told_50 (by decide) ?_
        refine lv_iload_n C.1 C.2.1 dX8_told_56 rfl (lv_at hl 3 rfl) ?_
        refine lv_iconst (v := (2 : Int32)) C.1 C.2.1 dX8_told_57 (by decide) ?_
        refine lv_icmp_lt (tgt := 72) C.1 C.2.1 dX8_told_58 (by decide) (fun c8 => ?_) (fun c8 => ?_)
        · have hf := if_t hf c8
          exact w_X8_told_72 fu C K hr hlk hR σ a0 x1 x2 b7 hE hk_a0 hk_b7 hf _ _ _ h (lv_sub hl [1, 2, 3, 0] rfl)
        · have hf := if_f hf c8
          refine lv_iload_n C.1 C.2.1 dX8_told_61 rfl (lv_at hl 3 rfl) ?_
          refine lv_iconst (v := (5 : Int32)) C.1 C.2.1 dX8_told_62 (by decide) ?_
          refine lv_icmp_gt (tgt := 72) C.1 C.2.1 dX8_told_63 (by decide) (fun c9 => ?_) (fun c9 => ?_)
          · have hf := if_t hf c9
            exact w_X8_told_72 fu C K hr hlk hR σ a0 x1 x2 b7 hE hk_a0 hk_b7 hf _ _ _ h (lv_sub hl [1, 2, 3, 0] rfl)
          · have hf := if_f hf c9
            refine lv_aload_n C.1 C.2.1 dX8_told_66 rfl (lv_at hl 0 rfl) ?_
            refine lv_iload_n C.1 C.2.1 dX8_told_67 rfl (lv_at hl 3 rfl) ?_
            refine x_ai K h (x_VN C K h [.int x2] (c_X0_tell l κ G cy ad H.size σ b7 x2 hk_b7 rfl) mi_X0_tell rfl im_yX0_tell se_yX0_tell nm_RX8_137 cl_0 hk_b7 ⟨rfl, rfl, Nat.le_trans (Nat.le_of_ble_eq_true rfl) hR.1, Nat.le_trans (Nat.le_of_ble_eq_true rfl) hR.2⟩ hl (Nat.le_of_ble_eq_true rfl) dX8_told_68 ⟨Nat.zero_le _, Nat.zero_le _⟩ rfl) (fun H locs h hX => ?_)
            exact x_ri C hr hlk h hE (pf_1 (Option.some.inj hf)) (pf_2 (Option.some.inj hf)) dX8_told_71
    · have hf := if_t hf c4
      refine lv_iload_n C.1 C.2.1 dX8_told_17 rfl (lv_at hl 1 rfl) ?_
      refine lv_bipush (v := (36 : Int32)) C.1 C.2.1 dX8_told_18 (by decide) ?_
      refine x_az K h (x_S C K h [.int x1, .int (36 : Int32)] (c_X8_isBelow l κ G cy ad H.size σ x1 (36 : Int32) rfl) mi_X8_isBelow rfl st_yX8_isBelow ml_RX8_116 ⟨rfl, rfl, Nat.le_trans (Nat.le_of_ble_eq_true rfl) hR.1, Nat.le_trans (Nat.le_of_ble_eq_true rfl) hR.2⟩ hl (Nat.le_of_ble_eq_true rfl) dX8_told_20 ⟨Nat.zero_le _, Nat.zero_le _⟩ rfl) (fun H locs h hX hz12 => ?_)
      refine lv_if_eq (tgt := 37) C.1 C.2.1 dX8_told_23 (by decide) (fun c13 => ?_) (fun c13 => ?_)
      · have hf := if_t hf c13
        refine lv_bipush (v := (-2 : Int32)) C.1 C.2.1 dX8_told_37 (by decide) ?_
        exact x_ri C hr hlk h hE (pf_1 (Option.some.inj hf)) (pf_2 (Option.some.inj hf)) dX8_told_39
      · have hf := if_f hf c13
        refine lv_aload_n C.1 C.2.1 dX8_told_26 rfl (lv_at hl 0 rfl) ?_
        obtain ⟨b14, hb_b14, hf⟩ := ob_ hf
        obtain ⟨hq_b14, hk_b14⟩ := dr_in hb_b14
        refine x_get (v := .ref (ad b14)) C K h cl_8 hk_a0 0 (by decide) fl_RX8_12 (hv_r (o := sr_ σ a0 0) rfl hq_b14) dX8_told_27 ?_
        refine lv_iload_n C.1 C.2.1 dX8_told_30 rfl (lv_at hl 1 rfl) ?_
        refine x_ai K h (x_VN C K h [.int x1] (c_X1_wallOn l κ G cy ad H.size σ b14 x1 hk_b14 rfl) mi_X1_wallOn rfl im_yX1_wallOn se_yX1_wallOn nm_RX8_123 cl_1 hk_b14 ⟨rfl, rfl, Nat.le_trans (Nat.le_of_ble_eq_true rfl) hR.1, Nat.le_trans (Nat.le_of_ble_eq_true rfl) hR.2⟩ hl (Nat.le_of_ble_eq_true rfl) dX8_told_31 ⟨Nat.zero_le _, Nat.zero_le _⟩ rfl) (fun H locs h hX => ?_)
        refine lv_goto (tgt := 39) C.1 C.2.1 dX8_told_34 (by decide) ?_
        exact x_ri C hr hlk h hE (pf_1 (Option.some.inj hf)) (pf_2 (Option.some.inj hf)) dX8_told_39
  · have hf := if_t hf c3
    refine lv_aload_n C.1 C.2.1 dX8_told_4 rfl (lv_at hl 0 rfl) ?_
    obtain ⟨b16, hb_b16, hf⟩ := ob_ hf
    obtain ⟨hq_b16, hk_b16⟩ := dr_in hb_b16
    refine x_get (v := .ref (ad b16)) C K h cl_8 hk_a0 0 (by decide) fl_RX8_12 (hv_r (o := sr_ σ a0 0) rfl hq_b16) dX8_told_5 ?_
    refine x_getN (v := .int (si_ σ b16 2)) C K h cl_1 hk_b16 2 (by decide) nf_RX8_120 rfl dX8_told_8 ?_
    exact x_ri C hr hlk h hE (pf_1 (Option.some.inj hf)) (pf_2 (Option.some.inj hf)) dX8_told_11
theorem c_X8_told (fu : Nat) (l : Launch) (κ : Ka_) (G : va_G) (cy : Nat → ClassId) (ad : Nat → Nat) (sz : Nat) (σ : St_) (a0 : Nat) (x1 : Int32) (x2 : Int32) (hk_a0 : kd_ σ a0 = 8) {q : Int32 × St_} (hf : f_X8_told fu σ a0 x1 x2 = some q) : Met l yX8_told (Cond.code yX8_told cX8_told 4 (some .int) :: wU_) { frames := 4, cells := 0, slots := 0, locals := 98 } (va_Pc [.ref (ad a0), .int x1, .int x2] (Pr_ κ G cy ad σ sz)) (Qi_ G cy ad σ q.2 sz q.1) 0 0 (va_A (wl_ cy ad σ) sz) :=
  x_met (by decide) (fun p e R s m below meth c ls hR C hr hlk hin _ K h hl => w_X8_told fu C K hr hlk ⟨hR.1, hR.2.1⟩ σ a0 x1 x2 Ex_.rf hk_a0 hf s.heap [] ls h hl) (Nat.le_of_ble_eq_true rfl)
-- X8_asks
theorem mi_X8_asks : Mi_ yX8_asks cX8_asks 6 (some .int) 4 := ⟨co_yX8_asks, in_RX8, by decide, by decide, by decide +kernel⟩
def f_X8_asks (fu : Nat) (σ : St_) (a0 : Nat) (x1 : Int32) (x2 : Int32) (x3 : Int32) (x4 : Int32) : Option (Int32 × St_) := (dr_ σ 1 (sr_ σ a0 0)).bind fun b5 => (f_X1_carpetAt σ b5 x1).bind fun q6 => oc_ q6 (some ((-1000 : Int32), σ)) (fun b7 => if kd_ σ b7 = 0 then if (f_X8_isBelow x2 (36 : Int32)) = 0 then some ((-1000 : Int32), σ) else if (f_X8_isBelow x3 (8 : Int32)) = 0 then some ((-1000 : Int32), σ) else if (f_X8_isBelow x4 (2 : Int32)) = 0 then some ((-1000 : Int32), σ) else (f_X8_think σ a0 b7).bind fun q17 => if x4 = 0 then (dr_ q17 6 (sr_ q17 a0 7)).bind fun b21 => (f_X6_east fu q17 b21 x2 x3).bind fun q22 => some (q22.1, q22.2) else (dr_ q17 6 (sr_ q17 a0 7)).bind fun b19 => (f_X6_south fu q17 b19 x2 x3).bind fun q20 => some (q20.1, q20.2) else none)
set_option maxHeartbeats 4000000 in
set_option maxRecDepth 100000 in
theorem w_X8_asks {p : Program} {l : Launch} {e : Env} {R : Room} {s : State} {m : MethodId} {args : Array Value} {below : List Frame} {meth : Method} {c : Code} {κ : Ka_} {G : va_G} {cy : Nat → ClassId} {ad : Nat → Nat} {sz : Nat} {σ0 : St_} (fu : Nat) (C : CallFix p m c cX8_asks 6 s args wU_ RX8) (K : Kx_ κ G cy (va_A (wl_ cy ad σ0) sz) s) (hr : meth.sig.returnType = some .int) (hlk : meth.locks = false) (hR : 3 ≤ R.frames ∧ 63 ≤ R.locals) {q : Int32 × St_} : ∀ (σ : St_) (a0 : Nat) (x1 : Int32) (x2 : Int32) (x3 : Int32) (x4 : Int32), Ex_ σ0 σ → kd_ σ a0 = 8 → f_X8_asks fu σ a0 x1 x2 x3 x4 = some q → ∀ (H : Heap) (locs : List Loc) (ls : Array Slot), Ht_ G cy (va_A (wl_ cy ad σ0) sz) s ad σ H locs → lv_has ls 6 [(0, .ref (ad a0)), (1, .int x1), (2, .int x2), (3, .int x3), (4, .int x4)] → W p l e R s m args below meth c H locs 0 0 (MQ below (Qi_ G cy ad σ0 q.2 sz q.1) args s 0 0 (va_A (wl_ cy ad σ0) sz)) (F0 m 0 ls []) := by
  intro σ a0 x1 x2 x3 x4 hE hk_a0 hf H locs ls h hl
  have hf : ((dr_ σ 1 (sr_ σ a0 0)).bind fun b5 => (f_X1_carpetAt σ b5 x1).bind fun q6 => oc_ q6 (some ((-1000 : Int32), σ)) (fun b7 => if kd_ σ b7 = 0 then if (f_X8_isBelow x2 (36 : Int32)) = 0 then some ((-1000 : Int32), σ) else if (f_X8_isBelow x3 (8 : Int32)) = 0 then some ((-1000 : Int32), σ) else if (f_X8_isBelow x4 (2 : Int32)) = 0 then some ((-1000 : Int32), σ) else (f_X8_think σ a0 b7).bind fun q17 => if x4 = 0 then (dr_ q17 6 (sr_ q17 a0 7)).bind fun b21 => (f_X6_east fu q17 b21 x2 x3).bind fun q22 => some (q22.1, q22.2) else (dr_ q17 6 (sr_ q17 a0 7)).bind fun b19 => (f_X6_south fu q17 b19 x2 x3).bind fun q20 => some (q20.1, q20.2) else none)) = some q := hf
  refine lv_aload_n C.1 C.2.1 dX8_asks_0 rfl (lv_at hl 0 rfl) ?_
  obtain ⟨b5, hb_b5, hf⟩ := ob_ hf
  obtain ⟨hq_b5, hk_b5⟩ := dr_in hb_b5
  refine x_get (v := .ref (ad b5)) C K h cl_8 hk_a0 0 (by decide) fl_RX8_12 (hv_r (o := sr_ σ a0 0) rfl hq_b5) dX8_asks_1 ?_
  refine lv_iload_n C.1 C.2.1 dX8_asks_4 rfl (lv_at hl 1 rfl) ?_
  obtain ⟨q6, hq_q6, hf⟩ := ob_ hf
  refine x_aq K h (x_VN C K h [.int x1] (c_X1_carpetAt l κ G cy ad H.size σ b5 x1 hk_b5 hq_q6) mi_X1_carpetAt rfl im_yX1_carpetAt se_yX1_carpetAt nm_RX8_130 cl_1 hk_b5 ⟨rfl, rfl, Nat.le_trans (Nat.le_of_ble_eq_true rfl) hR.1, Nat.le_trans (Nat.le_of_ble_eq_true rfl) hR.2⟩ hl (Nat.le_of_ble_eq_true rfl) dX8_asks_5 ⟨Nat.zero_le _, Nat.zero_le _⟩ rfl) (fun H locs h hX => ?_)
  refine x_astoreq (i := 5) (lv' := [(5, rv_ ad q6), (0, .ref (ad a0)), (1, .int x1), (2, .int x2), (3, .int x3), (4, .int x4)]) C.1 C.2.1 dX8_asks_8 hl (by decide) rfl (fun ls hl => ?_)
  refine x_aloadq C.1 C.2.1 dX8_asks_10 (lv_at hl 0 rfl) ?_
  cases q6 with
  | none =>
    have hf := oc_n hf
    refine lv_ifnullN (tgt := 42) C.1 C.2.1 dX8_asks_12 (by decide) ?_
    refine lv_sipush (v := (-1000 : Int32)) C.1 C.2.1 dX8_asks_42 (by decide) ?_
    exact x_ri C hr hlk h hE (pf_1 (Option.some.inj hf)) (pf_2 (Option.some.inj hf)) dX8_asks_45
  | some b7 =>
    obtain ⟨hk_b7, hf⟩ := gd_ (oc_s hf)
    refine lv_ifnull C.1 C.2.1 dX8_asks_12 ?_
    refine lv_iload_n C.1 C.2.1 dX8_asks_15 rfl (lv_at hl 3 rfl) ?_
    refine lv_bipush (v := (36 : Int32)) C.1 C.2.1 dX8_asks_16 (by decide) ?_
    refine x_az K h (x_S C K h [.int x2, .int (36 : Int32)] (c_X8_isBelow l κ G cy ad H.size σ x2 (36 : Int32) rfl) mi_X8_isBelow rfl st_yX8_isBelow ml_RX8_116 ⟨rfl, rfl, Nat.le_trans (Nat.le_of_ble_eq_true rfl) hR.1, Nat.le_trans (Nat.le_of_ble_eq_true rfl) hR.2⟩ hl (Nat.le_of_ble_eq_true rfl) dX8_asks_18 ⟨Nat.zero_le _, Nat.zero_le _⟩ rfl) (fun H locs h hX hz9 => ?_)
    refine lv_if_eq (tgt := 42) C.1 C.2.1 dX8_asks_21 (by decide) (fun c10 => ?_) (fun c10 => ?_)
    · have hf := if_t hf c10
      refine lv_sipush (v := (-1000 : Int32)) C.1 C.2.1 dX8_asks_42 (by decide) ?_
      exact x_ri C hr hlk h hE (pf_1 (Option.some.inj hf)) (pf_2 (Option.some.inj hf)) dX8_asks_45
    · have hf := if_f hf c10
      refine lv_iload_n C.1 C.2.1 dX8_asks_24 rfl (lv_at hl 4 rfl) ?_
      refine lv_bipush (v := (8 : Int32)) C.1 C.2.1 dX8_asks_25 (by decide) ?_
      refine x_az K h (x_S C K h [.int x3, .int (8 : Int32)] (c_X8_isBelow l κ G cy ad H.size σ x3 (8 : Int32) rfl) mi_X8_isBelow rfl st_yX8_isBelow ml_RX8_116 ⟨rfl, rfl, Nat.le_trans (Nat.le_of_ble_eq_true rfl) hR.1, Nat.le_trans (Nat.le_of_ble_eq_true rfl) hR.2⟩ hl (Nat.le_of_ble_eq_true rfl) dX8_asks_27 ⟨Nat.zero_le _, Nat.zero_le _⟩ rfl) (fun H locs h hX hz12 => ?_)
      refine lv_if_eq (tgt := 42) C.1 C.2.1 dX8_asks_30 (by decide) (fun c13 => ?_) (fun c13 => ?_)
      · have hf := if_t hf c13
        refine lv_sipush (v := (-1000 : Int32)) C.1 C.2.1 dX8_asks_42 (by decide) ?_
        exact x_ri C hr hlk h hE (pf_1 (Option.some.inj hf)) (pf_2 (Option.some.inj hf)) dX8_asks_45
      · have hf := if_f hf c13
        refine lv_iload C.1 C.2.1 dX8_asks_33 (lv_at hl 5 rfl) ?_
        refine lv_iconst (v := (2 : Int32)) C.1 C.2.1 dX8_asks_35 (by decide) ?_
        refine x_az K h (x_S C K h [.int x4, .int (2 : Int32)] (c_X8_isBelow l κ G cy ad H.size σ x4 (2 : Int32) rfl) mi_X8_isBelow rfl st_yX8_isBelow ml_RX8_116 ⟨rfl, rfl, Nat.le_trans (Nat.le_of_ble_eq_true rfl) hR.1, Nat.le_trans (Nat.le_of_ble_eq_true rfl) hR.2⟩ hl (Nat.le_of_ble_eq_true rfl) dX8_asks_36 ⟨Nat.zero_le _, Nat.zero_le _⟩ rfl) (fun H locs h hX hz15 => ?_)
        refine lv_if_ne (tgt := 46) C.1 C.2.1 dX8_asks_39 (by decide) (fun c16 => ?_) (fun c16 => ?_)
        · have hf := if_f hf c16
          refine lv_aload_n C.1 C.2.1 dX8_asks_46 rfl (lv_at hl 1 rfl) ?_
          refine lv_aload C.1 C.2.1 dX8_asks_47 (lv_at hl 0 rfl) ?_
          obtain ⟨q17, hq_q17, hf⟩ := ob_ hf
          refine x_av K h (x_V C K h [.ref (ad b7)] (c_X8_think l κ G cy ad H.size σ a0 b7 hk_a0 hk_b7 hq_q17) mi_X8_think rfl im_yX8_think se_yX8_think ml_RX8_153 cl_8 hk_a0 ⟨rfl, rfl, Nat.le_trans (Nat.le_of_ble_eq_true rfl) hR.1, Nat.le_trans (Nat.le_of_ble_eq_true rfl) hR.2⟩ hl (Nat.le_of_ble_eq_true rfl) dX8_asks_49 ⟨Nat.zero_le _, Nat.zero_le _⟩ rfl) (fun H locs h hX => ?_)
          have hE := hE.trans hX
          have hk_a0 := hX.k hk_a0 (by decide)
          have hk_b7 := hX.k hk_b7 (by decide)
          refine lv_iload C.1 C.2.1 dX8_asks_52 (lv_at hl 5 rfl) ?_
          refine lv_if_ne (tgt := 69) C.1 C.2.1 dX8_asks_54 (by decide) (fun c18 => ?_) (fun c18 => ?_)
          · have hf := if_f hf c18
            refine lv_aload_n C.1 C.2.1 dX8_asks_69 rfl (lv_at hl 1 rfl) ?_
            obtain ⟨b19, hb_b19, hf⟩ := ob_ hf
            obtain ⟨hq_b19, hk_b19⟩ := dr_in hb_b19
            refine x_get (v := .ref (ad b19)) C K h cl_8 hk_a0 7 (by decide) fl_RX8_49 (hv_r (o := sr_ q17 a0 7) rfl hq_b19) dX8_asks_70 ?_
            refine lv_iload_n C.1 C.2.1 dX8_asks_73 rfl (lv_at hl 3 rfl) ?_
            refine lv_iload_n C.1 C.2.1 dX8_asks_74 rfl (lv_at hl 4 rfl) ?_
            obtain ⟨q20, hq_q20, hf⟩ := ob_ hf
            refine x_ai K h (x_VN C K h [.int x2, .int x3] (c_X6_south fu l κ G cy ad H.size q17 b19 x2 x3 hk_b19 hq_q20) mi_X6_south rfl im_yX6_south se_yX6_south nm_RX8_172 cl_6 hk_b19 ⟨rfl, rfl, Nat.le_trans (Nat.le_of_ble_eq_true rfl) hR.1, Nat.le_trans (Nat.le_of_ble_eq_true rfl) hR.2⟩ hl (Nat.le_of_ble_eq_true rfl) dX8_asks_75 ⟨Nat.zero_le _, Nat.zero_le _⟩ rfl) (fun H locs h hX => ?_)
            have hE := hE.trans hX
            have hk_a0 := hX.k hk_a0 (by decide)
            have hk_b7 := hX.k hk_b7 (by decide)
            exact x_ri C hr hlk h hE (pf_1 (Option.some.inj hf)) (pf_2 (Option.some.inj hf)) dX8_asks_78
          · have hf := if_t hf c18
            refine lv_aload_n C.1 C.2.1 dX8_asks_57 rfl (lv_at hl 1 rfl) ?_
            obtain ⟨b21, hb_b21, hf⟩ := ob_ hf
            obtain ⟨hq_b21, hk_b21⟩ := dr_in hb_b21
            refine x_get (v := .ref (ad b21)) C K h cl_8 hk_a0 7 (by decide) fl_RX8_49 (hv_r (o := sr_ q17 a0 7) rfl hq_b21) dX8_asks_58 ?_
            refine lv_iload_n C.1 C.2.1 dX8_asks_61 rfl (lv_at hl 3 rfl) ?_
            refine lv_iload_n C.1 C.2.1 dX8_asks_62 rfl (lv_at hl 4 rfl) ?_
            obtain ⟨q22, hq_q22, hf⟩ := ob_ hf
            refine x_ai K h (x_VN C K h [.int x2, .int x3] (c_X6_east fu l κ G cy ad H.size q17 b21 x2 x3 hk_b21 hq_q22) mi_X6_east rfl im_yX6_east se_yX6_east nm_RX8_169 cl_6 hk_b21 ⟨rfl, rfl, Nat.le_trans (Nat.le_of_ble_eq_true rfl) hR.1, Nat.le_trans (Nat.le_of_ble_eq_true rfl) hR.2⟩ hl (Nat.le_of_ble_eq_true rfl) dX8_asks_63 ⟨Nat.zero_le _, Nat.zero_le _⟩ rfl) (fun H locs h hX => ?_)
            have hE := hE.trans hX
            have hk_a0 := hX.k hk_a0 (by decide)
            have hk_b7 := hX.k hk_b7 (by decide)
            refine lv_goto (tgt := 78) C.1 C.2.1 dX8_asks_66 (by decide) ?_
            exact x_ri C hr hlk h hE (pf_1 (Option.some.inj hf)) (pf_2 (Option.some.inj hf)) dX8_asks_78
        · have hf := if_t hf c16
          refine lv_sipush (v := (-1000 : Int32)) C.1 C.2.1 dX8_asks_42 (by decide) ?_
          exact x_ri C hr hlk h hE (pf_1 (Option.some.inj hf)) (pf_2 (Option.some.inj hf)) dX8_asks_45
theorem c_X8_asks (fu : Nat) (l : Launch) (κ : Ka_) (G : va_G) (cy : Nat → ClassId) (ad : Nat → Nat) (sz : Nat) (σ : St_) (a0 : Nat) (x1 : Int32) (x2 : Int32) (x3 : Int32) (x4 : Int32) (hk_a0 : kd_ σ a0 = 8) {q : Int32 × St_} (hf : f_X8_asks fu σ a0 x1 x2 x3 x4 = some q) : Met l yX8_asks (Cond.code yX8_asks cX8_asks 6 (some .int) :: wU_) { frames := 3, cells := 0, slots := 0, locals := 63 } (va_Pc [.ref (ad a0), .int x1, .int x2, .int x3, .int x4] (Pr_ κ G cy ad σ sz)) (Qi_ G cy ad σ q.2 sz q.1) 0 0 (va_A (wl_ cy ad σ) sz) :=
  x_met (by decide) (fun p e R s m below meth c ls hR C hr hlk hin _ K h hl => w_X8_asks fu C K hr hlk ⟨hR.1, hR.2.1⟩ σ a0 x1 x2 x3 x4 Ex_.rf hk_a0 hf s.heap [] ls h hl) (Nat.le_of_ble_eq_true rfl)
-- X8_feed
theorem mi_X8_feed : Mi_ yX8_feed cX8_feed 2 (some .int) 1 := ⟨co_yX8_feed, in_RX8, by decide, by decide, by decide +kernel⟩
def f_X8_feed (σ : St_) (a0 : Nat) (x1 : Int32) : Option (Int32 × St_) := if (f_X8_isBelow x1 (256 : Int32)) = 0 then some ((-2 : Int32), σ) else (dr_ σ 3 (sr_ σ a0 3)).bind fun b5 => (f_X3_put σ b5 x1).bind fun q6 => some (q6.1, q6.2)
set_option maxHeartbeats 4000000 in
set_option maxRecDepth 100000 in
theorem w_X8_feed {p : Program} {l : Launch} {e : Env} {R : Room} {s : State} {m : MethodId} {args : Array Value} {below : List Frame} {meth : Method} {c : Code} {κ : Ka_} {G : va_G} {cy : Nat → ClassId} {ad : Nat → Nat} {sz : Nat} {σ0 : St_} (C : CallFix p m c cX8_feed 2 s args wU_ RX8) (K : Kx_ κ G cy (va_A (wl_ cy ad σ0) sz) s) (hr : meth.sig.returnType = some .int) (hlk : meth.locks = false) (hR : 2 ≤ R.frames ∧ 42 ≤ R.locals) {q : Int32 × St_} : ∀ (σ : St_) (a0 : Nat) (x1 : Int32), Ex_ σ0 σ → kd_ σ a0 = 8 → f_X8_feed σ a0 x1 = some q → ∀ (H : Heap) (locs : List Loc) (ls : Array Slot), Ht_ G cy (va_A (wl_ cy ad σ0) sz) s ad σ H locs → lv_has ls 2 [(0, .ref (ad a0)), (1, .int x1)] → W p l e R s m args below meth c H locs 0 0 (MQ below (Qi_ G cy ad σ0 q.2 sz q.1) args s 0 0 (va_A (wl_ cy ad σ0) sz)) (F0 m 0 ls []) := by
  intro σ a0 x1 hE hk_a0 hf H locs ls h hl
  have hf : (if (f_X8_isBelow x1 (256 : Int32)) = 0 then some ((-2 : Int32), σ) else (dr_ σ 3 (sr_ σ a0 3)).bind fun b5 => (f_X3_put σ b5 x1).bind fun q6 => some (q6.1, q6.2)) = some q := hf
  refine lv_iload_n C.1 C.2.1 dX8_feed_0 rfl (lv_at hl 1 rfl) ?_
  refine lv_sipush (v := (256 : Int32)) C.1 C.2.1 dX8_feed_1 (by decide) ?_
  refine x_az K h (x_S C K h [.int x1, .int (256 : Int32)] (c_X8_isBelow l κ G cy ad H.size σ x1 (256 : Int32) rfl) mi_X8_isBelow rfl st_yX8_isBelow ml_RX8_116 ⟨rfl, rfl, Nat.le_trans (Nat.le_of_ble_eq_true rfl) hR.1, Nat.le_trans (Nat.le_of_ble_eq_true rfl) hR.2⟩ hl (Nat.le_of_ble_eq_true rfl) dX8_feed_4 ⟨Nat.zero_le _, Nat.zero_le _⟩ rfl) (fun H locs h hX hz3 => ?_)
  refine lv_if_ne (tgt := 13) C.1 C.2.1 dX8_feed_7 (by decide) (fun c4 => ?_) (fun c4 => ?_)
  · have hf := if_f hf c4
    refine lv_aload_n C.1 C.2.1 dX8_feed_13 rfl (lv_at hl 0 rfl) ?_
    obtain ⟨b5, hb_b5, hf⟩ := ob_ hf
    obtain ⟨hq_b5, hk_b5⟩ := dr_in hb_b5
    refine x_get (v := .ref (ad b5)) C K h cl_8 hk_a0 3 (by decide) fl_RX8_26 (hv_r (o := sr_ σ a0 3) rfl hq_b5) dX8_feed_14 ?_
    refine lv_iload_n C.1 C.2.1 dX8_feed_17 rfl (lv_at hl 1 rfl) ?_
    obtain ⟨q6, hq_q6, hf⟩ := ob_ hf
    refine x_ai K h (x_VN C K h [.int x1] (c_X3_put l κ G cy ad H.size σ b5 x1 hk_b5 hq_q6) mi_X3_put rfl im_yX3_put se_yX3_put nm_RX8_90 cl_3 hk_b5 ⟨rfl, rfl, Nat.le_trans (Nat.le_of_ble_eq_true rfl) hR.1, Nat.le_trans (Nat.le_of_ble_eq_true rfl) hR.2⟩ hl (Nat.le_of_ble_eq_true rfl) dX8_feed_18 ⟨Nat.zero_le _, Nat.zero_le _⟩ rfl) (fun H locs h hX => ?_)
    have hE := hE.trans hX
    have hk_a0 := hX.k hk_a0 (by decide)
    exact x_ri C hr hlk h hE (pf_1 (Option.some.inj hf)) (pf_2 (Option.some.inj hf)) dX8_feed_21
  · have hf := if_t hf c4
    refine lv_bipush (v := (-2 : Int32)) C.1 C.2.1 dX8_feed_10 (by decide) ?_
    exact x_ri C hr hlk h hE (pf_1 (Option.some.inj hf)) (pf_2 (Option.some.inj hf)) dX8_feed_12
theorem c_X8_feed (l : Launch) (κ : Ka_) (G : va_G) (cy : Nat → ClassId) (ad : Nat → Nat) (sz : Nat) (σ : St_) (a0 : Nat) (x1 : Int32) (hk_a0 : kd_ σ a0 = 8) {q : Int32 × St_} (hf : f_X8_feed σ a0 x1 = some q) : Met l yX8_feed (Cond.code yX8_feed cX8_feed 2 (some .int) :: wU_) { frames := 2, cells := 0, slots := 0, locals := 42 } (va_Pc [.ref (ad a0), .int x1] (Pr_ κ G cy ad σ sz)) (Qi_ G cy ad σ q.2 sz q.1) 0 0 (va_A (wl_ cy ad σ) sz) :=
  x_met (by decide) (fun p e R s m below meth c ls hR C hr hlk hin _ K h hl => w_X8_feed C K hr hlk ⟨hR.1, hR.2.1⟩ σ a0 x1 Ex_.rf hk_a0 hf s.heap [] ls h hl) (Nat.le_of_ble_eq_true rfl)
-- X8_force
theorem mi_X8_force : Mi_ yX8_force cX8_force 3 (some .int) 1 := ⟨co_yX8_force, in_RX8, by decide, by decide, by decide +kernel⟩
def f_X8_force (σ : St_) (a0 : Nat) (x1 : Int32) : Option (Int32 × St_) := if (f_X8_isBelow x1 (si_ σ a0 5)) = 0 then some ((-2 : Int32), σ) else (dr_ σ 1 (sr_ σ a0 0)).bind fun b5 => some (si_ σ b5 3, ui_ σ b5 3 x1)
set_option maxHeartbeats 4000000 in
set_option maxRecDepth 100000 in
theorem w_X8_force {p : Program} {l : Launch} {e : Env} {R : Room} {s : State} {m : MethodId} {args : Array Value} {below : List Frame} {meth : Method} {c : Code} {κ : Ka_} {G : va_G} {cy : Nat → ClassId} {ad : Nat → Nat} {sz : Nat} {σ0 : St_} (C : CallFix p m c cX8_force 3 s args wU_ RX8) (K : Kx_ κ G cy (va_A (wl_ cy ad σ0) sz) s) (hr : meth.sig.returnType = some .int) (hlk : meth.locks = false) (hR : 1 ≤ R.frames ∧ 21 ≤ R.locals) {q : Int32 × St_} : ∀ (σ : St_) (a0 : Nat) (x1 : Int32), Ex_ σ0 σ → kd_ σ a0 = 8 → f_X8_force σ a0 x1 = some q → ∀ (H : Heap) (locs : List Loc) (ls : Array Slot), Ht_ G cy (va_A (wl_ cy ad σ0) sz) s ad σ H locs → lv_has ls 3 [(0, .ref (ad a0)), (1, .int x1)] → W p l e R s m args below meth c H locs 0 0 (MQ below (Qi_ G cy ad σ0 q.2 sz q.1) args s 0 0 (va_A (wl_ cy ad σ0) sz)) (F0 m 0 ls []) := by
  intro σ a0 x1 hE hk_a0 hf H locs ls h hl
  have hf : (if (f_X8_isBelow x1 (si_ σ a0 5)) = 0 then some ((-2 : Int32), σ) else (dr_ σ 1 (sr_ σ a0 0)).bind fun b5 => some (si_ σ b5 3, ui_ σ b5 3 x1)) = some q := hf
  refine lv_iload_n C.1 C.2.1 dX8_force_0 rfl (lv_at hl 1 rfl) ?_
  refine lv_aload_n C.1 C.2.1 dX8_force_1 rfl (lv_at hl 0 rfl) ?_
  refine x_get (v := .int (si_ σ a0 5)) C K h cl_8 hk_a0 5 (by decide) fl_RX8_36 rfl dX8_force_2 ?_
  refine x_az K h (x_S C K h [.int x1, .int (si_ σ a0 5)] (c_X8_isBelow l κ G cy ad H.size σ x1 (si_ σ a0 5) rfl) mi_X8_isBelow rfl st_yX8_isBelow ml_RX8_116 ⟨rfl, rfl, Nat.le_trans (Nat.le_of_ble_eq_true rfl) hR.1, Nat.le_trans (Nat.le_of_ble_eq_true rfl) hR.2⟩ hl (Nat.le_of_ble_eq_true rfl) dX8_force_5 ⟨Nat.zero_le _, Nat.zero_le _⟩ rfl) (fun H locs h hX hz3 => ?_)
  refine lv_if_ne (tgt := 14) C.1 C.2.1 dX8_force_8 (by decide) (fun c4 => ?_) (fun c4 => ?_)
  · have hf := if_f hf c4
    refine lv_aload_n C.1 C.2.1 dX8_force_14 rfl (lv_at hl 0 rfl) ?_
    obtain ⟨b5, hb_b5, hf⟩ := ob_ hf
    obtain ⟨hq_b5, hk_b5⟩ := dr_in hb_b5
    refine x_get (v := .ref (ad b5)) C K h cl_8 hk_a0 0 (by decide) fl_RX8_12 (hv_r (o := sr_ σ a0 0) rfl hq_b5) dX8_force_15 ?_
    refine x_getN (v := .int (si_ σ b5 3)) C K h cl_1 hk_b5 3 (by decide) nf_RX8_178 rfl dX8_force_18 ?_
    refine lv_istore_n (i := 2) (lv' := [(2, .int (si_ σ b5 3)), (0, .ref (ad a0)), (1, .int x1)]) C.1 C.2.1 dX8_force_21 rfl hl (by decide) rfl (fun ls hl => ?_)
    refine lv_aload_n C.1 C.2.1 dX8_force_22 rfl (lv_at hl 1 rfl) ?_
    refine x_get (v := .ref (ad b5)) C K h cl_8 hk_a0 0 (by decide) fl_RX8_12 (hv_r (o := sr_ σ a0 0) rfl hq_b5) dX8_force_23 ?_
    refine lv_iload_n C.1 C.2.1 dX8_force_26 rfl (lv_at hl 2 rfl) ?_
    refine x_putIN C K h cl_1 hk_b5 3 (by decide) nf_RX8_178 rfl rfl rfl (Nat.le_of_ble_eq_true rfl) (fun _ _ _ => rfl) dX8_force_27 (fun H locs h => ?_)
    have hE := hE.up (up_i σ b5 3 x1)
    refine lv_iload_n C.1 C.2.1 dX8_force_30 rfl (lv_at hl 0 rfl) ?_
    exact x_ri C hr hlk h hE (pf_1 (Option.some.inj hf)) (pf_2 (Option.some.inj hf)) dX8_force_31
  · have hf := if_t hf c4
    refine lv_bipush (v := (-2 : Int32)) C.1 C.2.1 dX8_force_11 (by decide) ?_
    exact x_ri C hr hlk h hE (pf_1 (Option.some.inj hf)) (pf_2 (Option.some.inj hf)) dX8_force_13
theorem c_X8_force (l : Launch) (κ : Ka_) (G : va_G) (cy : Nat → ClassId) (ad : Nat → Nat) (sz : Nat) (σ : St_) (a0 : Nat) (x1 : Int32) (hk_a0 : kd_ σ a0 = 8) {q : Int32 × St_} (hf : f_X8_force σ a0 x1 = some q) : Met l yX8_force (Cond.code yX8_force cX8_force 3 (some .int) :: wU_) { frames := 1, cells := 0, slots := 0, locals := 21 } (va_Pc [.ref (ad a0), .int x1] (Pr_ κ G cy ad σ sz)) (Qi_ G cy ad σ q.2 sz q.1) 0 0 (va_A (wl_ cy ad σ) sz) :=
  x_met (by decide) (fun p e R s m below meth c ls hR C hr hlk hin _ K h hl => w_X8_force C K hr hlk ⟨hR.1, hR.2.1⟩ σ a0 x1 Ex_.rf hk_a0 hf s.heap [] ls h hl) (Nat.le_of_ble_eq_true rfl)
-- X8_fly
theorem mi_X8_fly : Mi_ yX8_fly cX8_fly 4 (some .int) 2 := ⟨co_yX8_fly, in_RX8, by decide, by decide, by decide +kernel⟩
def f_X8_fly (fu : Nat) (σ : St_) (a0 : Nat) (x1 : Nat) (x2 : Int32) : Option (Int32 × St_) := (f_X8_think σ a0 x1).bind fun q3 => (dr_ q3 6 (sr_ q3 a0 7)).bind fun b4 => (f_X6_goal fu q3 b4 (si_ q3 x1 2) x2).bind fun q5 => if q5.1 = (si_ q5.2 x1 2) then some ((0 : Int32), q5.2) else some ((1 : Int32), ui_ (ui_ q5.2 x1 2 q5.1) x1 3 (1 : Int32))
set_option maxHeartbeats 4000000 in
set_option maxRecDepth 100000 in
theorem w_X8_fly {p : Program} {l : Launch} {e : Env} {R : Room} {s : State} {m : MethodId} {args : Array Value} {below : List Frame} {meth : Method} {c : Code} {κ : Ka_} {G : va_G} {cy : Nat → ClassId} {ad : Nat → Nat} {sz : Nat} {σ0 : St_} (fu : Nat) (C : CallFix p m c cX8_fly 4 s args wU_ RX8) (K : Kx_ κ G cy (va_A (wl_ cy ad σ0) sz) s) (hr : meth.sig.returnType = some .int) (hlk : meth.locks = false) (hR : 3 ≤ R.frames ∧ 77 ≤ R.locals) {q : Int32 × St_} : ∀ (σ : St_) (a0 : Nat) (x1 : Nat) (x2 : Int32), Ex_ σ0 σ → kd_ σ a0 = 8 → kd_ σ x1 = 0 → f_X8_fly fu σ a0 x1 x2 = some q → ∀ (H : Heap) (locs : List Loc) (ls : Array Slot), Ht_ G cy (va_A (wl_ cy ad σ0) sz) s ad σ H locs → lv_has ls 4 [(0, .ref (ad a0)), (1, .ref (ad x1)), (2, .int x2)] → W p l e R s m args below meth c H locs 0 0 (MQ below (Qi_ G cy ad σ0 q.2 sz q.1) args s 0 0 (va_A (wl_ cy ad σ0) sz)) (F0 m 0 ls []) := by
  intro σ a0 x1 x2 hE hk_a0 hk_x1 hf H locs ls h hl
  have hf : ((f_X8_think σ a0 x1).bind fun q3 => (dr_ q3 6 (sr_ q3 a0 7)).bind fun b4 => (f_X6_goal fu q3 b4 (si_ q3 x1 2) x2).bind fun q5 => if q5.1 = (si_ q5.2 x1 2) then some ((0 : Int32), q5.2) else some ((1 : Int32), ui_ (ui_ q5.2 x1 2 q5.1) x1 3 (1 : Int32))) = some q := hf
  refine lv_aload_n C.1 C.2.1 dX8_fly_0 rfl (lv_at hl 0 rfl) ?_
  refine lv_aload_n C.1 C.2.1 dX8_fly_1 rfl (lv_at hl 1 rfl) ?_
  obtain ⟨q3, hq_q3, hf⟩ := ob_ hf
  refine x_av K h (x_V C K h [.ref (ad x1)] (c_X8_think l κ G cy ad H.size σ a0 x1 hk_a0 hk_x1 hq_q3) mi_X8_think rfl im_yX8_think se_yX8_think ml_RX8_153 cl_8 hk_a0 ⟨rfl, rfl, Nat.le_trans (Nat.le_of_ble_eq_true rfl) hR.1, Nat.le_trans (Nat.le_of_ble_eq_true rfl) hR.2⟩ hl (Nat.le_of_ble_eq_true rfl) dX8_fly_2 ⟨Nat.zero_le _, Nat.zero_le _⟩ rfl) (fun H locs h hX => ?_)
  have hE := hE.trans hX
  have hk_a0 := hX.k hk_a0 (by decide)
  have hk_x1 := hX.k hk_x1 (by decide)
  refine lv_aload_n C.1 C.2.1 dX8_fly_5 rfl (lv_at hl 0 rfl) ?_
  obtain ⟨b4, hb_b4, hf⟩ := ob_ hf
  obtain ⟨hq_b4, hk_b4⟩ := dr_in hb_b4
  refine x_get (v := .ref (ad b4)) C K h cl_8 hk_a0 7 (by decide) fl_RX8_49 (hv_r (o := sr_ q3 a0 7) rfl hq_b4) dX8_fly_6 ?_
  refine lv_aload_n C.1 C.2.1 dX8_fly_9 rfl (lv_at hl 1 rfl) ?_
  refine x_getN (v := .int (si_ q3 x1 2)) C K h cl_0 hk_x1 2 (by decide) nf_RX8_157 rfl dX8_fly_10 ?_
  refine lv_iload_n C.1 C.2.1 dX8_fly_13 rfl (lv_at hl 2 rfl) ?_
  obtain ⟨q5, hq_q5, hf⟩ := ob_ hf
  refine x_ai K h (x_VN C K h [.int (si_ q3 x1 2), .int x2] (c_X6_goal fu l κ G cy ad H.size q3 b4 (si_ q3 x1 2) x2 hk_b4 hq_q5) mi_X6_goal rfl im_yX6_goal se_yX6_goal nm_RX8_160 cl_6 hk_b4 ⟨rfl, rfl, Nat.le_trans (Nat.le_of_ble_eq_true rfl) hR.1, Nat.le_trans (Nat.le_of_ble_eq_true rfl) hR.2⟩ hl (Nat.le_of_ble_eq_true rfl) dX8_fly_14 ⟨Nat.zero_le _, Nat.zero_le _⟩ rfl) (fun H locs h hX => ?_)
  have hE := hE.trans hX
  have hk_a0 := hX.k hk_a0 (by decide)
  have hk_x1 := hX.k hk_x1 (by decide)
  refine lv_istore_n (i := 3) (lv' := [(3, .int q5.1), (0, .ref (ad a0)), (1, .ref (ad x1)), (2, .int x2)]) C.1 C.2.1 dX8_fly_17 rfl hl (by decide) rfl (fun ls hl => ?_)
  refine lv_iload_n C.1 C.2.1 dX8_fly_18 rfl (lv_at hl 0 rfl) ?_
  refine lv_aload_n C.1 C.2.1 dX8_fly_19 rfl (lv_at hl 2 rfl) ?_
  refine x_getN (v := .int (si_ q5.2 x1 2)) C K h cl_0 hk_x1 2 (by decide) nf_RX8_157 rfl dX8_fly_20 ?_
  refine lv_icmp_ne (tgt := 28) C.1 C.2.1 dX8_fly_23 (by decide) (fun c6 => ?_) (fun c6 => ?_)
  · have hf := if_f hf c6
    refine lv_aload_n C.1 C.2.1 dX8_fly_28 rfl (lv_at hl 2 rfl) ?_
    refine lv_iload_n C.1 C.2.1 dX8_fly_29 rfl (lv_at hl 0 rfl) ?_
    refine x_putIN C K h cl_0 hk_x1 2 (by decide) nf_RX8_157 rfl rfl rfl (Nat.le_of_ble_eq_true rfl) (fun _ _ _ => rfl) dX8_fly_30 (fun H locs h => ?_)
    have hE := hE.up (up_i q5.2 x1 2 q5.1)
    refine lv_aload_n C.1 C.2.1 dX8_fly_33 rfl (lv_at hl 2 rfl) ?_
    refine lv_iconst (v := (1 : Int32)) C.1 C.2.1 dX8_fly_34 (by decide) ?_
    refine x_putIN C K h cl_0 hk_x1 3 (by decide) nf_RX8_185 rfl rfl rfl (Nat.le_of_ble_eq_true rfl) (fun _ _ _ => rfl) dX8_fly_35 (fun H locs h => ?_)
    have hE := hE.up (up_i (ui_ q5.2 x1 2 q5.1) x1 3 (1 : Int32))
    refine lv_iconst (v := (1 : Int32)) C.1 C.2.1 dX8_fly_38 (by decide) ?_
    exact x_ri C hr hlk h hE (pf_1 (Option.some.inj hf)) (pf_2 (Option.some.inj hf)) dX8_fly_39
  · have hf := if_t hf c6
    refine lv_iconst (v := (0 : Int32)) C.1 C.2.1 dX8_fly_26 (by decide) ?_
    exact x_ri C hr hlk h hE (pf_1 (Option.some.inj hf)) (pf_2 (Option.some.inj hf)) dX8_fly_27
theorem c_X8_fly (fu : Nat) (l : Launch) (κ : Ka_) (G : va_G) (cy : Nat → ClassId) (ad : Nat → Nat) (sz : Nat) (σ : St_) (a0 : Nat) (x1 : Nat) (x2 : Int32) (hk_a0 : kd_ σ a0 = 8) (hk_x1 : kd_ σ x1 = 0) {q : Int32 × St_} (hf : f_X8_fly fu σ a0 x1 x2 = some q) : Met l yX8_fly (Cond.code yX8_fly cX8_fly 4 (some .int) :: wU_) { frames := 3, cells := 0, slots := 0, locals := 77 } (va_Pc [.ref (ad a0), .ref (ad x1), .int x2] (Pr_ κ G cy ad σ sz)) (Qi_ G cy ad σ q.2 sz q.1) 0 0 (va_A (wl_ cy ad σ) sz) :=
  x_met (by decide) (fun p e R s m below meth c ls hR C hr hlk hin _ K h hl => w_X8_fly fu C K hr hlk ⟨hR.1, hR.2.1⟩ σ a0 x1 x2 Ex_.rf hk_a0 hk_x1 hf s.heap [] ls h hl) (Nat.le_of_ble_eq_true rfl)
-- X8_say
theorem mi_X8_say : Mi_ yX8_say cX8_say 6 (some .int) 2 := ⟨co_yX8_say, in_RX8, by decide, by decide, by decide +kernel⟩
def f_X8_say_47 (fu : Nat) : Nat → St_ → Nat → Int32 → Int32 → Int32 → Option (Int32 × St_)
  | 0 => fun _ _ _ _ _ => none
  | n + 1 => fun σ  v0  v2  v3  v4 => if (4 : Int32) ≤ v4 then some (v3, σ) else (dr_ σ 1 (sr_ σ v0 0)).bind fun b2 => (f_X1_carpetAt σ b2 v4).bind fun q3 => oc_ q3 ((f_X8_say_47 fu n) σ v0 v2 (v3 + (0 : Int32)) (v4 + (1 : Int32))) (fun b4 => if kd_ σ b4 = 0 then (f_X8_fly fu σ v0 b4 v2).bind fun q5 => (f_X8_say_47 fu n) q5.2 v0 v2 (v3 + q5.1) (v4 + (1 : Int32)) else none)
set_option maxHeartbeats 4000000 in
set_option maxRecDepth 100000 in
theorem w_X8_say_47 {p : Program} {l : Launch} {e : Env} {R : Room} {s : State} {m : MethodId} {args : Array Value} {below : List Frame} {meth : Method} {c : Code} {κ : Ka_} {G : va_G} {cy : Nat → ClassId} {ad : Nat → Nat} {sz : Nat} {σ0 : St_} (fu : Nat) (C : CallFix p m c cX8_say 6 s args wU_ RX8) (K : Kx_ κ G cy (va_A (wl_ cy ad σ0) sz) s) (hr : meth.sig.returnType = some .int) (hlk : meth.locks = false) (hR : 4 ≤ R.frames ∧ 100 ≤ R.locals) {q : Int32 × St_} : ∀ n : Nat, ∀ (σ : St_) (v0 : Nat) (v2 : Int32) (v3 : Int32) (v4 : Int32), Ex_ σ0 σ → kd_ σ v0 = 8 → f_X8_say_47 fu n σ v0 v2 v3 v4 = some q → ∀ (H : Heap) (locs : List Loc) (ls : Array Slot), Ht_ G cy (va_A (wl_ cy ad σ0) sz) s ad σ H locs → lv_has ls 6 [(0, .ref (ad v0)), (2, .int v2), (3, .int v3), (4, .int v4)] → W p l e R s m args below meth c H locs 0 0 (MQ below (Qi_ G cy ad σ0 q.2 sz q.1) args s 0 0 (va_A (wl_ cy ad σ0) sz)) (F0 m 47 ls []) := by
  intro n
  induction n with
  | zero =>
    intro σ v0 v2 v3 v4 hE hk_v0 hf H locs ls h hl
    cases hf
  | succ n ih =>
    intro σ v0 v2 v3 v4 hE hk_v0 hf H locs ls h hl
    have hf : (if (4 : Int32) ≤ v4 then some (v3, σ) else (dr_ σ 1 (sr_ σ v0 0)).bind fun b2 => (f_X1_carpetAt σ b2 v4).bind fun q3 => oc_ q3 ((f_X8_say_47 fu n) σ v0 v2 (v3 + (0 : Int32)) (v4 + (1 : Int32))) (fun b4 => if kd_ σ b4 = 0 then (f_X8_fly fu σ v0 b4 v2).bind fun q5 => (f_X8_say_47 fu n) q5.2 v0 v2 (v3 + q5.1) (v4 + (1 : Int32)) else none)) = some q := hf
    refine lv_iload C.1 C.2.1 dX8_say_47 (lv_at hl 3 rfl) ?_
    refine lv_iconst (v := (4 : Int32)) C.1 C.2.1 dX8_say_49 (by decide) ?_
    refine lv_icmp_ge (tgt := 89) C.1 C.2.1 dX8_say_50 (by decide) (fun c1 => ?_) (fun c1 => ?_)
    · have hf := if_t hf c1
      refine lv_iload_n C.1 C.2.1 dX8_say_89 rfl (lv_at hl 2 rfl) ?_
      exact x_ri C hr hlk h hE (pf_1 (Option.some.inj hf)) (pf_2 (Option.some.inj hf)) dX8_say_90
    · have hf := if_f hf c1
      refine lv_aload_n C.1 C.2.1 dX8_say_53 rfl (lv_at hl 0 rfl) ?_
      obtain ⟨b2, hb_b2, hf⟩ := ob_ hf
      obtain ⟨hq_b2, hk_b2⟩ := dr_in hb_b2
      refine x_get (v := .ref (ad b2)) C K h cl_8 hk_v0 0 (by decide) fl_RX8_12 (hv_r (o := sr_ σ v0 0) rfl hq_b2) dX8_say_54 ?_
      refine lv_iload C.1 C.2.1 dX8_say_57 (lv_at hl 3 rfl) ?_
      obtain ⟨q3, hq_q3, hf⟩ := ob_ hf
      refine x_aq K h (x_VN C K h [.int v4] (c_X1_carpetAt l κ G cy ad H.size σ b2 v4 hk_b2 hq_q3) mi_X1_carpetAt rfl im_yX1_carpetAt se_yX1_carpetAt nm_RX8_130 cl_1 hk_b2 ⟨rfl, rfl, Nat.le_trans (Nat.le_of_ble_eq_true rfl) hR.1, Nat.le_trans (Nat.le_of_ble_eq_true rfl) hR.2⟩ hl (Nat.le_of_ble_eq_true rfl) dX8_say_59 ⟨Nat.zero_le _, Nat.zero_le _⟩ rfl) (fun H locs h hX => ?_)
      refine x_astoreq (i := 5) (lv' := [(5, rv_ ad q3), (0, .ref (ad v0)), (2, .int v2), (3, .int v3), (4, .int v4)]) C.1 C.2.1 dX8_say_62 hl (by decide) rfl (fun ls hl => ?_)
      refine lv_iload_n C.1 C.2.1 dX8_say_64 rfl (lv_at hl 3 rfl) ?_
      refine x_aloadq C.1 C.2.1 dX8_say_65 (lv_at hl 0 rfl) ?_
      cases q3 with
      | none =>
        have hf := oc_n hf
        refine lv_ifnonnullN C.1 C.2.1 dX8_say_67 ?_
        refine lv_iconst (v := (0 : Int32)) C.1 C.2.1 dX8_say_70 (by decide) ?_
        refine lv_goto (tgt := 81) C.1 C.2.1 dX8_say_71 (by decide) ?_
        refine lv_iadd C.1 C.2.1 dX8_say_81 ?_
        refine lv_istore_n (i := 3) (lv' := [(3, .int (v3 + (0 : Int32))), (5, rv_ ad none), (0, .ref (ad v0)), (2, .int v2), (4, .int v4)]) C.1 C.2.1 dX8_say_82 rfl hl (by decide) rfl (fun ls hl => ?_)
        refine lv_iinc (v := v4 + (1 : Int32)) (lv' := [(4, .int (v4 + (1 : Int32))), (3, .int (v3 + (0 : Int32))), (5, rv_ ad none), (0, .ref (ad v0)), (2, .int v2)]) C.1 C.2.1 dX8_say_83 hl (k := 4) rfl rfl (by decide) rfl (fun ls hl => ?_)
        refine lv_goto (tgt := 47) C.1 C.2.1 dX8_say_86 (by decide) ?_
        exact ih σ v0 v2 (v3 + (0 : Int32)) (v4 + (1 : Int32)) hE hk_v0 hf _ _ _ h (lv_sub hl [3, 4, 1, 0] rfl)
      | some b4 =>
        obtain ⟨hk_b4, hf⟩ := gd_ (oc_s hf)
        refine lv_ifnonnull (tgt := 74) C.1 C.2.1 dX8_say_67 (by decide) ?_
        refine lv_aload_n C.1 C.2.1 dX8_say_74 rfl (lv_at hl 1 rfl) ?_
        refine lv_aload C.1 C.2.1 dX8_say_75 (lv_at hl 0 rfl) ?_
        refine lv_iload_n C.1 C.2.1 dX8_say_77 rfl (lv_at hl 2 rfl) ?_
        obtain ⟨q5, hq_q5, hf⟩ := ob_ hf
        refine x_ai K h (x_V C K h [.ref (ad b4), .int v2] (c_X8_fly fu l κ G cy ad H.size σ v0 b4 v2 hk_v0 hk_b4 hq_q5) mi_X8_fly rfl im_yX8_fly se_yX8_fly ml_RX8_181 cl_8 hk_v0 ⟨rfl, rfl, Nat.le_trans (Nat.le_of_ble_eq_true rfl) hR.1, Nat.le_trans (Nat.le_of_ble_eq_true rfl) hR.2⟩ hl (Nat.le_of_ble_eq_true rfl) dX8_say_78 ⟨Nat.zero_le _, Nat.zero_le _⟩ rfl) (fun H locs h hX => ?_)
        have hE := hE.trans hX
        have hk_v0 := hX.k hk_v0 (by decide)
        have hk_b4 := hX.k hk_b4 (by decide)
        refine lv_iadd C.1 C.2.1 dX8_say_81 ?_
        refine lv_istore_n (i := 3) (lv' := [(3, .int (v3 + q5.1)), (5, .ref (ad b4)), (0, .ref (ad v0)), (2, .int v2), (4, .int v4)]) C.1 C.2.1 dX8_say_82 rfl hl (by decide) rfl (fun ls hl => ?_)
        refine lv_iinc (v := v4 + (1 : Int32)) (lv' := [(4, .int (v4 + (1 : Int32))), (3, .int (v3 + q5.1)), (5, .ref (ad b4)), (0, .ref (ad v0)), (2, .int v2)]) C.1 C.2.1 dX8_say_83 hl (k := 4) rfl rfl (by decide) rfl (fun ls hl => ?_)
        refine lv_goto (tgt := 47) C.1 C.2.1 dX8_say_86 (by decide) ?_
        exact ih q5.2 v0 v2 (v3 + q5.1) (v4 + (1 : Int32)) hE hk_v0 hf _ _ _ h (lv_sub hl [3, 4, 1, 0] rfl)
def f_X8_say (fu : Nat) (σ : St_) (a0 : Nat) (x1 : Int32) (x2 : Int32) : Option (Int32 × St_) := if (f_X8_isBelow x2 (8 : Int32)) = 0 then some ((-2 : Int32), σ) else if x1 = (-1 : Int32) then f_X8_say_47 fu fu σ a0 x2 (0 : Int32) (0 : Int32) else (dr_ σ 1 (sr_ σ a0 0)).bind fun b7 => (f_X1_carpetAt σ b7 x1).bind fun q8 => oc_ q8 (some ((-2 : Int32), σ)) (fun b9 => if kd_ σ b9 = 0 then (f_X8_fly fu σ a0 b9 x2).bind fun q10 => some (q10.1, q10.2) else none)
set_option maxHeartbeats 4000000 in
set_option maxRecDepth 100000 in
theorem w_X8_say {p : Program} {l : Launch} {e : Env} {R : Room} {s : State} {m : MethodId} {args : Array Value} {below : List Frame} {meth : Method} {c : Code} {κ : Ka_} {G : va_G} {cy : Nat → ClassId} {ad : Nat → Nat} {sz : Nat} {σ0 : St_} (fu : Nat) (C : CallFix p m c cX8_say 6 s args wU_ RX8) (K : Kx_ κ G cy (va_A (wl_ cy ad σ0) sz) s) (hr : meth.sig.returnType = some .int) (hlk : meth.locks = false) (hR : 4 ≤ R.frames ∧ 100 ≤ R.locals) {q : Int32 × St_} : ∀ (σ : St_) (a0 : Nat) (x1 : Int32) (x2 : Int32), Ex_ σ0 σ → kd_ σ a0 = 8 → f_X8_say fu σ a0 x1 x2 = some q → ∀ (H : Heap) (locs : List Loc) (ls : Array Slot), Ht_ G cy (va_A (wl_ cy ad σ0) sz) s ad σ H locs → lv_has ls 6 [(0, .ref (ad a0)), (1, .int x1), (2, .int x2)] → W p l e R s m args below meth c H locs 0 0 (MQ below (Qi_ G cy ad σ0 q.2 sz q.1) args s 0 0 (va_A (wl_ cy ad σ0) sz)) (F0 m 0 ls []) := by
  intro σ a0 x1 x2 hE hk_a0 hf H locs ls h hl
  have hf : (if (f_X8_isBelow x2 (8 : Int32)) = 0 then some ((-2 : Int32), σ) else if x1 = (-1 : Int32) then f_X8_say_47 fu fu σ a0 x2 (0 : Int32) (0 : Int32) else (dr_ σ 1 (sr_ σ a0 0)).bind fun b7 => (f_X1_carpetAt σ b7 x1).bind fun q8 => oc_ q8 (some ((-2 : Int32), σ)) (fun b9 => if kd_ σ b9 = 0 then (f_X8_fly fu σ a0 b9 x2).bind fun q10 => some (q10.1, q10.2) else none)) = some q := hf
  refine lv_iload_n C.1 C.2.1 dX8_say_0 rfl (lv_at hl 2 rfl) ?_
  refine lv_bipush (v := (8 : Int32)) C.1 C.2.1 dX8_say_1 (by decide) ?_
  refine x_az K h (x_S C K h [.int x2, .int (8 : Int32)] (c_X8_isBelow l κ G cy ad H.size σ x2 (8 : Int32) rfl) mi_X8_isBelow rfl st_yX8_isBelow ml_RX8_116 ⟨rfl, rfl, Nat.le_trans (Nat.le_of_ble_eq_true rfl) hR.1, Nat.le_trans (Nat.le_of_ble_eq_true rfl) hR.2⟩ hl (Nat.le_of_ble_eq_true rfl) dX8_say_3 ⟨Nat.zero_le _, Nat.zero_le _⟩ rfl) (fun H locs h hX hz4 => ?_)
  refine lv_if_ne (tgt := 12) C.1 C.2.1 dX8_say_6 (by decide) (fun c5 => ?_) (fun c5 => ?_)
  · have hf := if_f hf c5
    refine lv_iload_n C.1 C.2.1 dX8_say_12 rfl (lv_at hl 1 rfl) ?_
    refine lv_iconst (v := (-1 : Int32)) C.1 C.2.1 dX8_say_13 (by decide) ?_
    refine lv_icmp_eq (tgt := 42) C.1 C.2.1 dX8_say_14 (by decide) (fun c6 => ?_) (fun c6 => ?_)
    · have hf := if_t hf c6
      refine lv_iconst (v := (0 : Int32)) C.1 C.2.1 dX8_say_42 (by decide) ?_
      refine lv_istore_n (i := 3) (lv' := [(3, .int (0 : Int32)), (0, .ref (ad a0)), (1, .int x1), (2, .int x2)]) C.1 C.2.1 dX8_say_43 rfl hl (by decide) rfl (fun ls hl => ?_)
      refine lv_iconst (v := (0 : Int32)) C.1 C.2.1 dX8_say_44 (by decide) ?_
      refine lv_istore (i := 4) (lv' := [(4, .int (0 : Int32)), (3, .int (0 : Int32)), (0, .ref (ad a0)), (1, .int x1), (2, .int x2)]) C.1 C.2.1 dX8_say_45 hl (by decide) rfl (fun ls hl => ?_)
      exact w_X8_say_47 fu C K hr hlk hR fu σ a0 x2 (0 : Int32) (0 : Int32) hE hk_a0 hf _ _ _ h (lv_sub hl [2, 4, 1, 0] rfl)
    · have hf := if_f hf c6
      refine lv_aload_n C.1 C.2.1 dX8_say_17 rfl (lv_at hl 0 rfl) ?_
      obtain ⟨b7, hb_b7, hf⟩ := ob_ hf
      obtain ⟨hq_b7, hk_b7⟩ := dr_in hb_b7
      refine x_get (v := .ref (ad b7)) C K h cl_8 hk_a0 0 (by decide) fl_RX8_12 (hv_r (o := sr_ σ a0 0) rfl hq_b7) dX8_say_18 ?_
      refine lv_iload_n C.1 C.2.1 dX8_say_21 rfl (lv_at hl 1 rfl) ?_
      obtain ⟨q8, hq_q8, hf⟩ := ob_ hf
      refine x_aq K h (x_VN C K h [.int x1] (c_X1_carpetAt l κ G cy ad H.size σ b7 x1 hk_b7 hq_q8) mi_X1_carpetAt rfl im_yX1_carpetAt se_yX1_carpetAt nm_RX8_130 cl_1 hk_b7 ⟨rfl, rfl, Nat.le_trans (Nat.le_of_ble_eq_true rfl) hR.1, Nat.le_trans (Nat.le_of_ble_eq_true rfl) hR.2⟩ hl (Nat.le_of_ble_eq_true rfl) dX8_say_22 ⟨Nat.zero_le _, Nat.zero_le _⟩ rfl) (fun H locs h hX => ?_)
      refine x_astore_nq (i := 3) (lv' := [(3, rv_ ad q8), (0, .ref (ad a0)), (1, .int x1), (2, .int x2)]) C.1 C.2.1 dX8_say_25 rfl hl (by decide) rfl (fun ls hl => ?_)
      refine x_aload_nq C.1 C.2.1 dX8_say_26 rfl (lv_at hl 0 rfl) ?_
      cases q8 with
      | none =>
        have hf := oc_n hf
        refine lv_ifnonnullN C.1 C.2.1 dX8_say_27 ?_
        refine lv_bipush (v := (-2 : Int32)) C.1 C.2.1 dX8_say_30 (by decide) ?_
        refine lv_goto (tgt := 41) C.1 C.2.1 dX8_say_32 (by decide) ?_
        exact x_ri C hr hlk h hE (pf_1 (Option.some.inj hf)) (pf_2 (Option.some.inj hf)) dX8_say_41
      | some b9 =>
        obtain ⟨hk_b9, hf⟩ := gd_ (oc_s hf)
        refine lv_ifnonnull (tgt := 35) C.1 C.2.1 dX8_say_27 (by decide) ?_
        refine lv_aload_n C.1 C.2.1 dX8_say_35 rfl (lv_at hl 1 rfl) ?_
        refine lv_aload_n C.1 C.2.1 dX8_say_36 rfl (lv_at hl 0 rfl) ?_
        refine lv_iload_n C.1 C.2.1 dX8_say_37 rfl (lv_at hl 3 rfl) ?_
        obtain ⟨q10, hq_q10, hf⟩ := ob_ hf
        refine x_ai K h (x_V C K h [.ref (ad b9), .int x2] (c_X8_fly fu l κ G cy ad H.size σ a0 b9 x2 hk_a0 hk_b9 hq_q10) mi_X8_fly rfl im_yX8_fly se_yX8_fly ml_RX8_181 cl_8 hk_a0 ⟨rfl, rfl, Nat.le_trans (Nat.le_of_ble_eq_true rfl) hR.1, Nat.le_trans (Nat.le_of_ble_eq_true rfl) hR.2⟩ hl (Nat.le_of_ble_eq_true rfl) dX8_say_38 ⟨Nat.zero_le _, Nat.zero_le _⟩ rfl) (fun H locs h hX => ?_)
        have hE := hE.trans hX
        have hk_a0 := hX.k hk_a0 (by decide)
        have hk_b9 := hX.k hk_b9 (by decide)
        exact x_ri C hr hlk h hE (pf_1 (Option.some.inj hf)) (pf_2 (Option.some.inj hf)) dX8_say_41
  · have hf := if_t hf c5
    refine lv_bipush (v := (-2 : Int32)) C.1 C.2.1 dX8_say_9 (by decide) ?_
    exact x_ri C hr hlk h hE (pf_1 (Option.some.inj hf)) (pf_2 (Option.some.inj hf)) dX8_say_11
theorem c_X8_say (fu : Nat) (l : Launch) (κ : Ka_) (G : va_G) (cy : Nat → ClassId) (ad : Nat → Nat) (sz : Nat) (σ : St_) (a0 : Nat) (x1 : Int32) (x2 : Int32) (hk_a0 : kd_ σ a0 = 8) {q : Int32 × St_} (hf : f_X8_say fu σ a0 x1 x2 = some q) : Met l yX8_say (Cond.code yX8_say cX8_say 6 (some .int) :: wU_) { frames := 4, cells := 0, slots := 0, locals := 100 } (va_Pc [.ref (ad a0), .int x1, .int x2] (Pr_ κ G cy ad σ sz)) (Qi_ G cy ad σ q.2 sz q.1) 0 0 (va_A (wl_ cy ad σ) sz) :=
  x_met (by decide) (fun p e R s m below meth c ls hR C hr hlk hin _ K h hl => w_X8_say fu C K hr hlk ⟨hR.1, hR.2.1⟩ σ a0 x1 x2 Ex_.rf hk_a0 hf s.heap [] ls h hl) (Nat.le_of_ble_eq_true rfl)
-- X8_sheetAt
theorem mi_X8_sheetAt : Mi_ yX8_sheetAt cX8_sheetAt 2 (some (.object "FlownOnceAndLaid$Sheet")) 1 := ⟨co_yX8_sheetAt, in_RX8, by decide, by decide, by decide +kernel⟩
def f_X8_sheetAt (σ : St_) (a0 : Nat) (x1 : Int32) : Option (Option Nat) := (dr_ σ 14 (sr_ σ a0 6)).bind fun b2 => if (f_X8_isBelow x1 (nI (ln_ σ b2))) = 0 then some none else (ix_ x1 (ln_ σ b2)).bind fun j6 => (dr_ σ 4 (sr_ σ b2 j6)).bind fun b7 => some (some b7)
set_option maxHeartbeats 4000000 in
set_option maxRecDepth 100000 in
theorem w_X8_sheetAt {p : Program} {l : Launch} {e : Env} {R : Room} {s : State} {m : MethodId} {args : Array Value} {below : List Frame} {meth : Method} {c : Code} {κ : Ka_} {G : va_G} {cy : Nat → ClassId} {ad : Nat → Nat} {sz : Nat} {σ : St_} (C : CallFix p m c cX8_sheetAt 2 s args wU_ RX8) (K : Kx_ κ G cy (va_A (wl_ cy ad σ) sz) s) (hr : meth.sig.returnType = some (.object "FlownOnceAndLaid$Sheet")) (hlk : meth.locks = false) (hR : 1 ≤ R.frames ∧ 21 ≤ R.locals) {q : Option Nat} : ∀ (a0 : Nat) (x1 : Int32), kd_ σ a0 = 8 → f_X8_sheetAt σ a0 x1 = some q → ∀ (H : Heap) (locs : List Loc) (ls : Array Slot), Ht_ G cy (va_A (wl_ cy ad σ) sz) s ad σ H locs → lv_has ls 2 [(0, .ref (ad a0)), (1, .int x1)] → W p l e R s m args below meth c H locs 0 0 (MQ below (Qq_ G cy ad σ σ sz q) args s 0 0 (va_A (wl_ cy ad σ) sz)) (F0 m 0 ls []) := by
  intro a0 x1 hk_a0 hf H locs ls h hl
  have hf : ((dr_ σ 14 (sr_ σ a0 6)).bind fun b2 => if (f_X8_isBelow x1 (nI (ln_ σ b2))) = 0 then some none else (ix_ x1 (ln_ σ b2)).bind fun j6 => (dr_ σ 4 (sr_ σ b2 j6)).bind fun b7 => some (some b7)) = some q := hf
  refine lv_iload_n C.1 C.2.1 dX8_sheetAt_0 rfl (lv_at hl 1 rfl) ?_
  refine lv_aload_n C.1 C.2.1 dX8_sheetAt_1 rfl (lv_at hl 0 rfl) ?_
  obtain ⟨b2, hb_b2, hf⟩ := ob_ hf
  obtain ⟨hq_b2, hk_b2⟩ := dr_in hb_b2
  refine x_get (v := .ref (ad b2)) C K h cl_8 hk_a0 6 (by decide) fl_RX8_42 (hv_r (o := sr_ σ a0 6) rfl hq_b2) dX8_sheetAt_2 ?_
  refine x_rlen C K h 4 (by decide) rfl (fun _ _ _ _ => rfl) hk_b2 dX8_sheetAt_5 ?_
  refine x_az K h (x_S C K h [.int x1, .int (nI (ln_ σ b2))] (c_X8_isBelow l κ G cy ad H.size σ x1 (nI (ln_ σ b2)) rfl) mi_X8_isBelow rfl st_yX8_isBelow ml_RX8_116 ⟨rfl, rfl, Nat.le_trans (Nat.le_of_ble_eq_true rfl) hR.1, Nat.le_trans (Nat.le_of_ble_eq_true rfl) hR.2⟩ hl (Nat.le_of_ble_eq_true rfl) dX8_sheetAt_6 ⟨Nat.zero_le _, Nat.zero_le _⟩ rfl) (fun H locs h hX hz4 => ?_)
  refine lv_if_eq (tgt := 21) C.1 C.2.1 dX8_sheetAt_9 (by decide) (fun c5 => ?_) (fun c5 => ?_)
  · have hf := if_t hf c5
    refine lv_null C.1 C.2.1 dX8_sheetAt_21 ?_
    exact x_rq (v := none) C hr hlk h Ex_.rf (Option.some.inj hf) rfl dX8_sheetAt_22
  · have hf := if_f hf c5
    refine lv_aload_n C.1 C.2.1 dX8_sheetAt_12 rfl (lv_at hl 0 rfl) ?_
    refine x_get (v := .ref (ad b2)) C K h cl_8 hk_a0 6 (by decide) fl_RX8_42 (hv_r (o := sr_ σ a0 6) rfl hq_b2) dX8_sheetAt_13 ?_
    refine lv_iload_n C.1 C.2.1 dX8_sheetAt_16 rfl (lv_at hl 1 rfl) ?_
    obtain ⟨j6, hj_j6, hf⟩ := ob_ hf
    obtain ⟨b7, hb_b7, hf⟩ := ob_ hf
    obtain ⟨hq_b7, hk_b7⟩ := dr_in hb_b7
    refine x_aaldN C K h 4 (by decide) rfl (fun _ _ _ _ => rfl) hk_b2 hj_j6 hq_b7 dX8_sheetAt_17 ?_
    refine lv_goto (tgt := 22) C.1 C.2.1 dX8_sheetAt_18 (by decide) ?_
    exact x_rq (v := (some b7)) C hr hlk h Ex_.rf (Option.some.inj hf) rfl dX8_sheetAt_22
theorem c_X8_sheetAt (l : Launch) (κ : Ka_) (G : va_G) (cy : Nat → ClassId) (ad : Nat → Nat) (sz : Nat) (σ : St_) (a0 : Nat) (x1 : Int32) (hk_a0 : kd_ σ a0 = 8) {q : Option Nat} (hf : f_X8_sheetAt σ a0 x1 = some q) : Met l yX8_sheetAt (Cond.code yX8_sheetAt cX8_sheetAt 2 (some (.object "FlownOnceAndLaid$Sheet")) :: wU_) { frames := 1, cells := 0, slots := 0, locals := 21 } (va_Pc [.ref (ad a0), .int x1] (Pr_ κ G cy ad σ sz)) (Qq_ G cy ad σ σ sz q) 0 0 (va_A (wl_ cy ad σ) sz) :=
  x_met (by decide) (fun p e R s m below meth c ls hR C hr hlk hin _ K h hl => w_X8_sheetAt C K hr hlk ⟨hR.1, hR.2.1⟩ a0 x1 hk_a0 hf s.heap [] ls h hl) (Nat.le_of_ble_eq_true rfl)
-- X8_refusalOfTold
theorem mi_X8_refusalOfTold : Mi_ yX8_refusalOfTold cX8_refusalOfTold 7 (some .int) 5 := ⟨co_yX8_refusalOfTold, in_RX8, by decide, by decide, by decide +kernel⟩
def f_X8_refusalOfTold (fu : Nat) (σ : St_) (a0 : Nat) (x1 : Int32) (x2 : Int32) (x3 : Int32) (x4 : Int32) (x5 : Int32) : Option Int32 := (f_X8_sheetAt σ a0 x1).bind fun q6 => oc_ q6 (some (-2 : Int32)) (fun b7 => if kd_ σ b7 = 4 then (dr_ σ 1 (sr_ σ a0 0)).bind fun b8 => (f_X1_carpetAt σ b8 x2).bind fun q9 => oc_ q9 (some (-2 : Int32)) (fun b10 => if kd_ σ b10 = 0 then if x3 = 0 then some (-2 : Int32) else if (f_X4_isMissing σ b7) = 0 then if x4 < (si_ σ b7 2) then some (-2 : Int32) else (f_X4_isAllBelow fu σ b7 x5).bind fun q16 => if q16 = 0 then some (-2 : Int32) else some (0 : Int32) else some (-11 : Int32) else none) else none)
set_option maxHeartbeats 4000000 in
set_option maxRecDepth 100000 in
theorem w_X8_refusalOfTold {p : Program} {l : Launch} {e : Env} {R : Room} {s : State} {m : MethodId} {args : Array Value} {below : List Frame} {meth : Method} {c : Code} {κ : Ka_} {G : va_G} {cy : Nat → ClassId} {ad : Nat → Nat} {sz : Nat} {σ : St_} (fu : Nat) (C : CallFix p m c cX8_refusalOfTold 7 s args wU_ RX8) (K : Kx_ κ G cy (va_A (wl_ cy ad σ) sz) s) (hr : meth.sig.returnType = some .int) (hlk : meth.locks = false) (hR : 3 ≤ R.frames ∧ 64 ≤ R.locals) {q : Int32} : ∀ (a0 : Nat) (x1 : Int32) (x2 : Int32) (x3 : Int32) (x4 : Int32) (x5 : Int32), kd_ σ a0 = 8 → f_X8_refusalOfTold fu σ a0 x1 x2 x3 x4 x5 = some q → ∀ (H : Heap) (locs : List Loc) (ls : Array Slot), Ht_ G cy (va_A (wl_ cy ad σ) sz) s ad σ H locs → lv_has ls 7 [(0, .ref (ad a0)), (1, .int x1), (2, .int x2), (3, .int x3), (4, .int x4), (5, .int x5)] → W p l e R s m args below meth c H locs 0 0 (MQ below (Qi_ G cy ad σ σ sz q) args s 0 0 (va_A (wl_ cy ad σ) sz)) (F0 m 0 ls []) := by
  intro a0 x1 x2 x3 x4 x5 hk_a0 hf H locs ls h hl
  have hf : ((f_X8_sheetAt σ a0 x1).bind fun q6 => oc_ q6 (some (-2 : Int32)) (fun b7 => if kd_ σ b7 = 4 then (dr_ σ 1 (sr_ σ a0 0)).bind fun b8 => (f_X1_carpetAt σ b8 x2).bind fun q9 => oc_ q9 (some (-2 : Int32)) (fun b10 => if kd_ σ b10 = 0 then if x3 = 0 then some (-2 : Int32) else if (f_X4_isMissing σ b7) = 0 then if x4 < (si_ σ b7 2) then some (-2 : Int32) else (f_X4_isAllBelow fu σ b7 x5).bind fun q16 => if q16 = 0 then some (-2 : Int32) else some (0 : Int32) else some (-11 : Int32) else none) else none)) = some q := hf
  refine lv_aload_n C.1 C.2.1 dX8_refusalOfTold_0 rfl (lv_at hl 0 rfl) ?_
  refine lv_iload_n C.1 C.2.1 dX8_refusalOfTold_1 rfl (lv_at hl 1 rfl) ?_
  obtain ⟨q6, hq_q6, hf⟩ := ob_ hf
  refine x_aq K h (x_V C K h [.int x1] (c_X8_sheetAt l κ G cy ad H.size σ a0 x1 hk_a0 hq_q6) mi_X8_sheetAt rfl im_yX8_sheetAt se_yX8_sheetAt ml_RX8_192 cl_8 hk_a0 ⟨rfl, rfl, Nat.le_trans (Nat.le_of_ble_eq_true rfl) hR.1, Nat.le_trans (Nat.le_of_ble_eq_true rfl) hR.2⟩ hl (Nat.le_of_ble_eq_true rfl) dX8_refusalOfTold_2 ⟨Nat.zero_le _, Nat.zero_le _⟩ rfl) (fun H locs h hX => ?_)
  refine x_astoreq (i := 6) (lv' := [(6, rv_ ad q6), (0, .ref (ad a0)), (1, .int x1), (2, .int x2), (3, .int x3), (4, .int x4), (5, .int x5)]) C.1 C.2.1 dX8_refusalOfTold_5 hl (by decide) rfl (fun ls hl => ?_)
  refine x_aloadq C.1 C.2.1 dX8_refusalOfTold_7 (lv_at hl 0 rfl) ?_
  cases q6 with
  | none =>
    have hf := oc_n hf
    refine lv_ifnullN (tgt := 27) C.1 C.2.1 dX8_refusalOfTold_9 (by decide) ?_
    refine lv_bipush (v := (-2 : Int32)) C.1 C.2.1 dX8_refusalOfTold_27 (by decide) ?_
    exact x_ri C hr hlk h Ex_.rf (Option.some.inj hf) rfl dX8_refusalOfTold_29
  | some b7 =>
    obtain ⟨hk_b7, hf⟩ := gd_ (oc_s hf)
    refine lv_ifnull C.1 C.2.1 dX8_refusalOfTold_9 ?_
    refine lv_aload_n C.1 C.2.1 dX8_refusalOfTold_12 rfl (lv_at hl 1 rfl) ?_
    obtain ⟨b8, hb_b8, hf⟩ := ob_ hf
    obtain ⟨hq_b8, hk_b8⟩ := dr_in hb_b8
    refine x_get (v := .ref (ad b8)) C K h cl_8 hk_a0 0 (by decide) fl_RX8_12 (hv_r (o := sr_ σ a0 0) rfl hq_b8) dX8_refusalOfTold_13 ?_
    refine lv_iload_n C.1 C.2.1 dX8_refusalOfTold_16 rfl (lv_at hl 3 rfl) ?_
    obtain ⟨q9, hq_q9, hf⟩ := ob_ hf
    refine x_aq K h (x_VN C K h [.int x2] (c_X1_carpetAt l κ G cy ad H.size σ b8 x2 hk_b8 hq_q9) mi_X1_carpetAt rfl im_yX1_carpetAt se_yX1_carpetAt nm_RX8_130 cl_1 hk_b8 ⟨rfl, rfl, Nat.le_trans (Nat.le_of_ble_eq_true rfl) hR.1, Nat.le_trans (Nat.le_of_ble_eq_true rfl) hR.2⟩ hl (Nat.le_of_ble_eq_true rfl) dX8_refusalOfTold_17 ⟨Nat.zero_le _, Nat.zero_le _⟩ rfl) (fun H locs h hX => ?_)
    cases q9 with
    | none =>
      have hf := oc_n hf
      refine lv_ifnullN (tgt := 27) C.1 C.2.1 dX8_refusalOfTold_20 (by decide) ?_
      refine lv_bipush (v := (-2 : Int32)) C.1 C.2.1 dX8_refusalOfTold_27 (by decide) ?_
      exact x_ri C hr hlk h Ex_.rf (Option.some.inj hf) rfl dX8_refusalOfTold_29
    | some b10 =>
      obtain ⟨hk_b10, hf⟩ := gd_ (oc_s hf)
      refine lv_ifnull C.1 C.2.1 dX8_refusalOfTold_20 ?_
      refine lv_iload_n C.1 C.2.1 dX8_refusalOfTold_23 rfl (lv_at hl 4 rfl) ?_
      refine lv_if_ne (tgt := 30) C.1 C.2.1 dX8_refusalOfTold_24 (by decide) (fun c11 => ?_) (fun c11 => ?_)
      · have hf := if_f hf c11
        refine lv_aload C.1 C.2.1 dX8_refusalOfTold_30 (lv_at hl 0 rfl) ?_
        refine x_az K h (x_VN C K h [] (c_X4_isMissing l κ G cy ad H.size σ b7 hk_b7 rfl) mi_X4_isMissing rfl im_yX4_isMissing se_yX4_isMissing nm_RX8_281 cl_4 hk_b7 ⟨rfl, rfl, Nat.le_trans (Nat.le_of_ble_eq_true rfl) hR.1, Nat.le_trans (Nat.le_of_ble_eq_true rfl) hR.2⟩ hl (Nat.le_of_ble_eq_true rfl) dX8_refusalOfTold_32 ⟨Nat.zero_le _, Nat.zero_le _⟩ rfl) (fun H locs h hX hz13 => ?_)
        refine lv_if_eq (tgt := 41) C.1 C.2.1 dX8_refusalOfTold_35 (by decide) (fun c14 => ?_) (fun c14 => ?_)
        · have hf := if_t hf c14
          refine lv_aload C.1 C.2.1 dX8_refusalOfTold_41 (lv_at hl 0 rfl) ?_
          refine x_getN (v := .int (si_ σ b7 2)) C K h cl_4 hk_b7 2 (by decide) nf_RX8_196 rfl dX8_refusalOfTold_43 ?_
          refine lv_iload C.1 C.2.1 dX8_refusalOfTold_46 (lv_at hl 5 rfl) ?_
          refine lv_icmp_gt (tgt := 65) C.1 C.2.1 dX8_refusalOfTold_48 (by decide) (fun c15 => ?_) (fun c15 => ?_)
          · have hf := if_t hf c15
            refine lv_bipush (v := (-2 : Int32)) C.1 C.2.1 dX8_refusalOfTold_65 (by decide) ?_
            exact x_ri C hr hlk h Ex_.rf (Option.some.inj hf) rfl dX8_refusalOfTold_67
          · have hf := if_f hf c15
            refine lv_aload C.1 C.2.1 dX8_refusalOfTold_51 (lv_at hl 0 rfl) ?_
            refine lv_iload C.1 C.2.1 dX8_refusalOfTold_53 (lv_at hl 6 rfl) ?_
            obtain ⟨q16, hq_q16, hf⟩ := ob_ hf
            refine x_az K h (x_VN C K h [.int x5] (c_X4_isAllBelow fu l κ G cy ad H.size σ b7 x5 hk_b7 hq_q16) mi_X4_isAllBelow rfl im_yX4_isAllBelow se_yX4_isAllBelow nm_RX8_284 cl_4 hk_b7 ⟨rfl, rfl, Nat.le_trans (Nat.le_of_ble_eq_true rfl) hR.1, Nat.le_trans (Nat.le_of_ble_eq_true rfl) hR.2⟩ hl (Nat.le_of_ble_eq_true rfl) dX8_refusalOfTold_55 ⟨Nat.zero_le _, Nat.zero_le _⟩ rfl) (fun H locs h hX hz17 => ?_)
            refine lv_if_eq (tgt := 65) C.1 C.2.1 dX8_refusalOfTold_58 (by decide) (fun c18 => ?_) (fun c18 => ?_)
            · have hf := if_t hf c18
              refine lv_bipush (v := (-2 : Int32)) C.1 C.2.1 dX8_refusalOfTold_65 (by decide) ?_
              exact x_ri C hr hlk h Ex_.rf (Option.some.inj hf) rfl dX8_refusalOfTold_67
            · have hf := if_f hf c18
              refine lv_iconst (v := (0 : Int32)) C.1 C.2.1 dX8_refusalOfTold_61 (by decide) ?_
              refine lv_goto (tgt := 67) C.1 C.2.1 dX8_refusalOfTold_62 (by decide) ?_
              exact x_ri C hr hlk h Ex_.rf (Option.some.inj hf) rfl dX8_refusalOfTold_67
        · have hf := if_f hf c14
          refine lv_bipush (v := (-11 : Int32)) C.1 C.2.1 dX8_refusalOfTold_38 (by decide) ?_
          exact x_ri C hr hlk h Ex_.rf (Option.some.inj hf) rfl dX8_refusalOfTold_40
      · have hf := if_t hf c11
        refine lv_bipush (v := (-2 : Int32)) C.1 C.2.1 dX8_refusalOfTold_27 (by decide) ?_
        exact x_ri C hr hlk h Ex_.rf (Option.some.inj hf) rfl dX8_refusalOfTold_29
theorem c_X8_refusalOfTold (fu : Nat) (l : Launch) (κ : Ka_) (G : va_G) (cy : Nat → ClassId) (ad : Nat → Nat) (sz : Nat) (σ : St_) (a0 : Nat) (x1 : Int32) (x2 : Int32) (x3 : Int32) (x4 : Int32) (x5 : Int32) (hk_a0 : kd_ σ a0 = 8) {q : Int32} (hf : f_X8_refusalOfTold fu σ a0 x1 x2 x3 x4 x5 = some q) : Met l yX8_refusalOfTold (Cond.code yX8_refusalOfTold cX8_refusalOfTold 7 (some .int) :: wU_) { frames := 3, cells := 0, slots := 0, locals := 64 } (va_Pc [.ref (ad a0), .int x1, .int x2, .int x3, .int x4, .int x5] (Pr_ κ G cy ad σ sz)) (Qi_ G cy ad σ σ sz q) 0 0 (va_A (wl_ cy ad σ) sz) :=
  x_met (by decide) (fun p e R s m below meth c ls hR C hr hlk hin _ K h hl => w_X8_refusalOfTold fu C K hr hlk ⟨hR.1, hR.2.1⟩ a0 x1 x2 x3 x4 x5 hk_a0 hf s.heap [] ls h hl) (Nat.le_of_ble_eq_true rfl)
-- X8_flies
theorem mi_X8_flies : Mi_ yX8_flies cX8_flies 11 (some .int) 3 := ⟨co_yX8_flies, in_RX8, by decide, by decide, by decide +kernel⟩
def f_X8_flies_71 (fu : Nat) : Nat → St_ → Nat → Int32 → Nat → Int32 → Int32 → Int32 → Option (Int32 × St_)
  | 0 => fun _ _ _ _ _ _ _ => none
  | n + 1 => fun σ  v0  v3  v5  v7  v8  v9 => if (si_ σ v5 2) ≤ v9 then if v3 = 0 then some (v7, σ) else some (v8, σ) else (dr_ σ 6 (sr_ σ v0 7)).bind fun b3 => (f_X4_item σ v5 v9).bind fun q4 => (f_X6_goal fu σ b3 v7 q4).bind fun q5 => if q5.1 = v7 then (f_X8_flies_71 fu n) q5.2 v0 v3 v5 q5.1 (v8 + (0 : Int32)) (v9 + (1 : Int32)) else (f_X8_flies_71 fu n) q5.2 v0 v3 v5 q5.1 (v8 + (1 : Int32)) (v9 + (1 : Int32))
set_option maxHeartbeats 4000000 in
set_option maxRecDepth 100000 in
theorem w_X8_flies_71 {p : Program} {l : Launch} {e : Env} {R : Room} {s : State} {m : MethodId} {args : Array Value} {below : List Frame} {meth : Method} {c : Code} {κ : Ka_} {G : va_G} {cy : Nat → ClassId} {ad : Nat → Nat} {sz : Nat} {σ0 : St_} (fu : Nat) (C : CallFix p m c cX8_flies 11 s args wU_ RX8) (K : Kx_ κ G cy (va_A (wl_ cy ad σ0) sz) s) (hr : meth.sig.returnType = some .int) (hlk : meth.locks = false) (hR : 4 ≤ R.frames ∧ 90 ≤ R.locals) {q : Int32 × St_} : ∀ n : Nat, ∀ (σ : St_) (v0 : Nat) (v3 : Int32) (v5 : Nat) (v7 : Int32) (v8 : Int32) (v9 : Int32), Ex_ σ0 σ → kd_ σ v0 = 8 → kd_ σ v5 = 4 → f_X8_flies_71 fu n σ v0 v3 v5 v7 v8 v9 = some q → ∀ (H : Heap) (locs : List Loc) (ls : Array Slot), Ht_ G cy (va_A (wl_ cy ad σ0) sz) s ad σ H locs → lv_has ls 11 [(0, .ref (ad v0)), (3, .int v3), (5, .ref (ad v5)), (7, .int v7), (8, .int v8), (9, .int v9)] → W p l e R s m args below meth c H locs 0 0 (MQ below (Qi_ G cy ad σ0 q.2 sz q.1) args s 0 0 (va_A (wl_ cy ad σ0) sz)) (F0 m 71 ls []) := by
  intro n
  induction n with
  | zero =>
    intro σ v0 v3 v5 v7 v8 v9 hE hk_v0 hk_v5 hf H locs ls h hl
    cases hf
  | succ n ih =>
    intro σ v0 v3 v5 v7 v8 v9 hE hk_v0 hk_v5 hf H locs ls h hl
    have hf : (if (si_ σ v5 2) ≤ v9 then if v3 = 0 then some (v7, σ) else some (v8, σ) else (dr_ σ 6 (sr_ σ v0 7)).bind fun b3 => (f_X4_item σ v5 v9).bind fun q4 => (f_X6_goal fu σ b3 v7 q4).bind fun q5 => if q5.1 = v7 then (f_X8_flies_71 fu n) q5.2 v0 v3 v5 q5.1 (v8 + (0 : Int32)) (v9 + (1 : Int32)) else (f_X8_flies_71 fu n) q5.2 v0 v3 v5 q5.1 (v8 + (1 : Int32)) (v9 + (1 : Int32))) = some q := hf
    refine lv_iload C.1 C.2.1 dX8_flies_71 (lv_at hl 5 rfl) ?_
    refine lv_aload C.1 C.2.1 dX8_flies_73 (lv_at hl 2 rfl) ?_
    refine x_getN (v := .int (si_ σ v5 2)) C K h cl_4 hk_v5 2 (by decide) nf_RX8_196 rfl dX8_flies_75 ?_
    refine lv_icmp_ge (tgt := 126) C.1 C.2.1 dX8_flies_78 (by decide) (fun c1 => ?_) (fun c1 => ?_)
    · have hf := if_t hf c1
      refine lv_iload_n C.1 C.2.1 dX8_flies_126 rfl (lv_at hl 1 rfl) ?_
      refine lv_if_ne (tgt := 135) C.1 C.2.1 dX8_flies_127 (by decide) (fun c2 => ?_) (fun c2 => ?_)
      · have hf := if_f hf c2
        refine lv_iload C.1 C.2.1 dX8_flies_135 (lv_at hl 4 rfl) ?_
        exact x_ri C hr hlk h hE (pf_1 (Option.some.inj hf)) (pf_2 (Option.some.inj hf)) dX8_flies_137
      · have hf := if_t hf c2
        refine lv_iload C.1 C.2.1 dX8_flies_130 (lv_at hl 3 rfl) ?_
        refine lv_goto (tgt := 137) C.1 C.2.1 dX8_flies_132 (by decide) ?_
        exact x_ri C hr hlk h hE (pf_1 (Option.some.inj hf)) (pf_2 (Option.some.inj hf)) dX8_flies_137
    · have hf := if_f hf c1
      refine lv_aload_n C.1 C.2.1 dX8_flies_81 rfl (lv_at hl 0 rfl) ?_
      obtain ⟨b3, hb_b3, hf⟩ := ob_ hf
      obtain ⟨hq_b3, hk_b3⟩ := dr_in hb_b3
      refine x_get (v := .ref (ad b3)) C K h cl_8 hk_v0 7 (by decide) fl_RX8_49 (hv_r (o := sr_ σ v0 7) rfl hq_b3) dX8_flies_82 ?_
      refine lv_iload C.1 C.2.1 dX8_flies_85 (lv_at hl 3 rfl) ?_
      refine lv_aload C.1 C.2.1 dX8_flies_87 (lv_at hl 2 rfl) ?_
      refine lv_iload C.1 C.2.1 dX8_flies_89 (lv_at hl 5 rfl) ?_
      obtain ⟨q4, hq_q4, hf⟩ := ob_ hf
      refine x_ai K h (x_VN C K h [.int v9] (c_X4_item l κ G cy ad H.size σ v5 v9 hk_v5 hq_q4) mi_X4_item rfl im_yX4_item se_yX4_item nm_RX8_199 cl_4 hk_v5 ⟨rfl, rfl, Nat.le_trans (Nat.le_of_ble_eq_true rfl) hR.1, Nat.le_trans (Nat.le_of_ble_eq_true rfl) hR.2⟩ hl (Nat.le_of_ble_eq_true rfl) dX8_flies_91 ⟨Nat.zero_le _, Nat.zero_le _⟩ rfl) (fun H locs h hX => ?_)
      obtain ⟨q5, hq_q5, hf⟩ := ob_ hf
      refine x_ai K h (x_VN C K h [.int v7, .int q4] (c_X6_goal fu l κ G cy ad H.size σ b3 v7 q4 hk_b3 hq_q5) mi_X6_goal rfl im_yX6_goal se_yX6_goal nm_RX8_160 cl_6 hk_b3 ⟨rfl, rfl, Nat.le_trans (Nat.le_of_ble_eq_true rfl) hR.1, Nat.le_trans (Nat.le_of_ble_eq_true rfl) hR.2⟩ hl (Nat.le_of_ble_eq_true rfl) dX8_flies_94 ⟨Nat.zero_le _, Nat.zero_le _⟩ rfl) (fun H locs h hX => ?_)
      have hE := hE.trans hX
      have hk_v0 := hX.k hk_v0 (by decide)
      have hk_v5 := hX.k hk_v5 (by decide)
      refine lv_istore (i := 10) (lv' := [(10, .int q5.1), (0, .ref (ad v0)), (3, .int v3), (5, .ref (ad v5)), (7, .int v7), (8, .int v8), (9, .int v9)]) C.1 C.2.1 dX8_flies_97 hl (by decide) rfl (fun ls hl => ?_)
      refine lv_iload C.1 C.2.1 dX8_flies_99 (lv_at hl 5 rfl) ?_
      refine lv_iload C.1 C.2.1 dX8_flies_101 (lv_at hl 0 rfl) ?_
      refine lv_iload C.1 C.2.1 dX8_flies_103 (lv_at hl 4 rfl) ?_
      refine lv_icmp_ne (tgt := 112) C.1 C.2.1 dX8_flies_105 (by decide) (fun c6 => ?_) (fun c6 => ?_)
      · have hf := if_f hf c6
        refine lv_iconst (v := (1 : Int32)) C.1 C.2.1 dX8_flies_112 (by decide) ?_
        refine lv_iadd C.1 C.2.1 dX8_flies_113 ?_
        refine lv_istore (i := 8) (lv' := [(8, .int (v8 + (1 : Int32))), (10, .int q5.1), (0, .ref (ad v0)), (3, .int v3), (5, .ref (ad v5)), (7, .int v7), (9, .int v9)]) C.1 C.2.1 dX8_flies_114 hl (by decide) rfl (fun ls hl => ?_)
        refine lv_iload C.1 C.2.1 dX8_flies_116 (lv_at hl 1 rfl) ?_
        refine lv_istore (i := 7) (lv' := [(7, .int q5.1), (8, .int (v8 + (1 : Int32))), (10, .int q5.1), (0, .ref (ad v0)), (3, .int v3), (5, .ref (ad v5)), (9, .int v9)]) C.1 C.2.1 dX8_flies_118 hl (by decide) rfl (fun ls hl => ?_)
        refine lv_iinc (v := v9 + (1 : Int32)) (lv' := [(9, .int (v9 + (1 : Int32))), (7, .int q5.1), (8, .int (v8 + (1 : Int32))), (10, .int q5.1), (0, .ref (ad v0)), (3, .int v3), (5, .ref (ad v5))]) C.1 C.2.1 dX8_flies_120 hl (k := 6) rfl rfl (by decide) rfl (fun ls hl => ?_)
        refine lv_goto (tgt := 71) C.1 C.2.1 dX8_flies_123 (by decide) ?_
        exact ih q5.2 v0 v3 v5 q5.1 (v8 + (1 : Int32)) (v9 + (1 : Int32)) hE hk_v0 hk_v5 hf _ _ _ h (lv_sub hl [4, 5, 6, 1, 2, 0] rfl)
      · have hf := if_t hf c6
        refine lv_iconst (v := (0 : Int32)) C.1 C.2.1 dX8_flies_108 (by decide) ?_
        refine lv_goto (tgt := 113) C.1 C.2.1 dX8_flies_109 (by decide) ?_
        refine lv_iadd C.1 C.2.1 dX8_flies_113 ?_
        refine lv_istore (i := 8) (lv' := [(8, .int (v8 + (0 : Int32))), (10, .int q5.1), (0, .ref (ad v0)), (3, .int v3), (5, .ref (ad v5)), (7, .int v7), (9, .int v9)]) C.1 C.2.1 dX8_flies_114 hl (by decide) rfl (fun ls hl => ?_)
        refine lv_iload C.1 C.2.1 dX8_flies_116 (lv_at hl 1 rfl) ?_
        refine lv_istore (i := 7) (lv' := [(7, .int q5.1), (8, .int (v8 + (0 : Int32))), (10, .int q5.1), (0, .ref (ad v0)), (3, .int v3), (5, .ref (ad v5)), (9, .int v9)]) C.1 C.2.1 dX8_flies_118 hl (by decide) rfl (fun ls hl => ?_)
        refine lv_iinc (v := v9 + (1 : Int32)) (lv' := [(9, .int (v9 + (1 : Int32))), (7, .int q5.1), (8, .int (v8 + (0 : Int32))), (10, .int q5.1), (0, .ref (ad v0)), (3, .int v3), (5, .ref (ad v5))]) C.1 C.2.1 dX8_flies_120 hl (k := 6) rfl rfl (by decide) rfl (fun ls hl => ?_)
        refine lv_goto (tgt := 71) C.1 C.2.1 dX8_flies_123 (by decide) ?_
        exact ih q5.2 v0 v3 v5 q5.1 (v8 + (0 : Int32)) (v9 + (1 : Int32)) hE hk_v0 hk_v5 hf _ _ _ h (lv_sub hl [4, 5, 6, 1, 2, 0] rfl)
def f_X8_flies (fu : Nat) (σ : St_) (a0 : Nat) (x1 : Int32) (x2 : Int32) (x3 : Int32) : Option (Int32 × St_) := (f_X8_refusalOfTold fu σ a0 x1 x2 (f_X8_isBelow x3 (2 : Int32)) (40 : Int32) (8 : Int32)).bind fun q6 => (f_X8_sheetAt σ a0 x1).bind fun q7 => (dr_ σ 1 (sr_ σ a0 0)).bind fun b8 => (f_X1_carpetAt σ b8 x2).bind fun q9 => if q6 = 0 then oc_ q7 (some (q6, σ)) (fun b11 => if kd_ σ b11 = 4 then oc_ q9 (some (q6, σ)) (fun b12 => if kd_ σ b12 = 0 then (f_X8_think σ a0 b12).bind fun q13 => f_X8_flies_71 fu fu q13 a0 x3 b11 (si_ q13 b12 2) (0 : Int32) (0 : Int32) else none) else none) else some (q6, σ)
set_option maxHeartbeats 4000000 in
set_option maxRecDepth 100000 in
theorem w_X8_flies {p : Program} {l : Launch} {e : Env} {R : Room} {s : State} {m : MethodId} {args : Array Value} {below : List Frame} {meth : Method} {c : Code} {κ : Ka_} {G : va_G} {cy : Nat → ClassId} {ad : Nat → Nat} {sz : Nat} {σ0 : St_} (fu : Nat) (C : CallFix p m c cX8_flies 11 s args wU_ RX8) (K : Kx_ κ G cy (va_A (wl_ cy ad σ0) sz) s) (hr : meth.sig.returnType = some .int) (hlk : meth.locks = false) (hR : 4 ≤ R.frames ∧ 90 ≤ R.locals) {q : Int32 × St_} : ∀ (σ : St_) (a0 : Nat) (x1 : Int32) (x2 : Int32) (x3 : Int32), Ex_ σ0 σ → kd_ σ a0 = 8 → f_X8_flies fu σ a0 x1 x2 x3 = some q → ∀ (H : Heap) (locs : List Loc) (ls : Array Slot), Ht_ G cy (va_A (wl_ cy ad σ0) sz) s ad σ H locs → lv_has ls 11 [(0, .ref (ad a0)), (1, .int x1), (2, .int x2), (3, .int x3)] → W p l e R s m args below meth c H locs 0 0 (MQ below (Qi_ G cy ad σ0 q.2 sz q.1) args s 0 0 (va_A (wl_ cy ad σ0) sz)) (F0 m 0 ls []) := by
  intro σ a0 x1 x2 x3 hE hk_a0 hf H locs ls h hl
  have hf : ((f_X8_refusalOfTold fu σ a0 x1 x2 (f_X8_isBelow x3 (2 : Int32)) (40 : Int32) (8 : Int32)).bind fun q6 => (f_X8_sheetAt σ a0 x1).bind fun q7 => (dr_ σ 1 (sr_ σ a0 0)).bind fun b8 => (f_X1_carpetAt σ b8 x2).bind fun q9 => if q6 = 0 then oc_ q7 (some (q6, σ)) (fun b11 => if kd_ σ b11 = 4 then oc_ q9 (some (q6, σ)) (fun b12 => if kd_ σ b12 = 0 then (f_X8_think σ a0 b12).bind fun q13 => f_X8_flies_71 fu fu q13 a0 x3 b11 (si_ q13 b12 2) (0 : Int32) (0 : Int32) else none) else none) else some (q6, σ)) = some q := hf
  refine lv_aload_n C.1 C.2.1 dX8_flies_0 rfl (lv_at hl 0 rfl) ?_
  refine lv_iload_n C.1 C.2.1 dX8_flies_1 rfl (lv_at hl 1 rfl) ?_
  refine lv_iload_n C.1 C.2.1 dX8_flies_2 rfl (lv_at hl 2 rfl) ?_
  refine lv_iload_n C.1 C.2.1 dX8_flies_3 rfl (lv_at hl 3 rfl) ?_
  refine lv_iconst (v := (2 : Int32)) C.1 C.2.1 dX8_flies_4 (by decide) ?_
  refine x_az K h (x_S C K h [.int x3, .int (2 : Int32)] (c_X8_isBelow l κ G cy ad H.size σ x3 (2 : Int32) rfl) mi_X8_isBelow rfl st_yX8_isBelow ml_RX8_116 ⟨rfl, rfl, Nat.le_trans (Nat.le_of_ble_eq_true rfl) hR.1, Nat.le_trans (Nat.le_of_ble_eq_true rfl) hR.2⟩ hl (Nat.le_of_ble_eq_true rfl) dX8_flies_5 ⟨Nat.zero_le _, Nat.zero_le _⟩ rfl) (fun H locs h hX hz5 => ?_)
  refine lv_bipush (v := (40 : Int32)) C.1 C.2.1 dX8_flies_8 (by decide) ?_
  refine lv_bipush (v := (8 : Int32)) C.1 C.2.1 dX8_flies_10 (by decide) ?_
  obtain ⟨q6, hq_q6, hf⟩ := ob_ hf
  refine x_ai K h (x_V C K h [.int x1, .int x2, .int (f_X8_isBelow x3 (2 : Int32)), .int (40 : Int32), .int (8 : Int32)] (c_X8_refusalOfTold fu l κ G cy ad H.size σ a0 x1 x2 (f_X8_isBelow x3 (2 : Int32)) (40 : Int32) (8 : Int32) hk_a0 hq_q6) mi_X8_refusalOfTold rfl im_yX8_refusalOfTold se_yX8_refusalOfTold ml_RX8_188 cl_8 hk_a0 ⟨rfl, rfl, Nat.le_trans (Nat.le_of_ble_eq_true rfl) hR.1, Nat.le_trans (Nat.le_of_ble_eq_true rfl) hR.2⟩ hl (Nat.le_of_ble_eq_true rfl) dX8_flies_12 ⟨Nat.zero_le _, Nat.zero_le _⟩ rfl) (fun H locs h hX => ?_)
  refine lv_istore (i := 4) (lv' := [(4, .int q6), (0, .ref (ad a0)), (1, .int x1), (2, .int x2), (3, .int x3)]) C.1 C.2.1 dX8_flies_15 hl (by decide) rfl (fun ls hl => ?_)
  refine lv_aload_n C.1 C.2.1 dX8_flies_17 rfl (lv_at hl 1 rfl) ?_
  refine lv_iload_n C.1 C.2.1 dX8_flies_18 rfl (lv_at hl 2 rfl) ?_
  obtain ⟨q7, hq_q7, hf⟩ := ob_ hf
  refine x_aq K h (x_V C K h [.int x1] (c_X8_sheetAt l κ G cy ad H.size σ a0 x1 hk_a0 hq_q7) mi_X8_sheetAt rfl im_yX8_sheetAt se_yX8_sheetAt ml_RX8_192 cl_8 hk_a0 ⟨rfl, rfl, Nat.le_trans (Nat.le_of_ble_eq_true rfl) hR.1, Nat.le_trans (Nat.le_of_ble_eq_true rfl) hR.2⟩ hl (Nat.le_of_ble_eq_true rfl) dX8_flies_19 ⟨Nat.zero_le _, Nat.zero_le _⟩ rfl) (fun H locs h hX => ?_)
  refine x_astoreq (i := 5) (lv' := [(5, rv_ ad q7), (4, .int q6), (0, .ref (ad a0)), (1, .int x1), (2, .int x2), (3, .int x3)]) C.1 C.2.1 dX8_flies_22 hl (by decide) rfl (fun ls hl => ?_)
  refine lv_aload_n C.1 C.2.1 dX8_flies_24 rfl (lv_at hl 2 rfl) ?_
  obtain ⟨b8, hb_b8, hf⟩ := ob_ hf
  obtain ⟨hq_b8, hk_b8⟩ := dr_in hb_b8
  refine x_get (v := .ref (ad b8)) C K h cl_8 hk_a0 0 (by decide) fl_RX8_12 (hv_r (o := sr_ σ a0 0) rfl hq_b8) dX8_flies_25 ?_
  refine lv_iload_n C.1 C.2.1 dX8_flies_28 rfl (lv_at hl 4 rfl) ?_
  obtain ⟨q9, hq_q9, hf⟩ := ob_ hf
  refine x_aq K h (x_VN C K h [.int x2] (c_X1_carpetAt l κ G cy ad H.size σ b8 x2 hk_b8 hq_q9) mi_X1_carpetAt rfl im_yX1_carpetAt se_yX1_carpetAt nm_RX8_130 cl_1 hk_b8 ⟨rfl, rfl, Nat.le_trans (Nat.le_of_ble_eq_true rfl) hR.1, Nat.le_trans (Nat.le_of_ble_eq_true rfl) hR.2⟩ hl (Nat.le_of_ble_eq_true rfl) dX8_flies_29 ⟨Nat.zero_le _, Nat.zero_le _⟩ rfl) (fun H locs h hX => ?_)
  refine x_astoreq (i := 6) (lv' := [(6, rv_ ad q9), (5, rv_ ad q7), (4, .int q6), (0, .ref (ad a0)), (1, .int x1), (2, .int x2), (3, .int x3)]) C.1 C.2.1 dX8_flies_32 hl (by decide) (by simp [rv_c]) (fun ls hl => ?_)
  refine lv_iload C.1 C.2.1 dX8_flies_34 (lv_at hl 2 rfl) ?_
  refine lv_if_ne (tgt := 49) C.1 C.2.1 dX8_flies_36 (by decide) (fun c10 => ?_) (fun c10 => ?_)
  · have hf := if_f hf c10
    refine lv_iload C.1 C.2.1 dX8_flies_49 (lv_at hl 2 rfl) ?_
    exact x_ri C hr hlk h hE (pf_1 (Option.some.inj hf)) (pf_2 (Option.some.inj hf)) dX8_flies_51
  · have hf := if_t hf c10
    refine x_aloadq C.1 C.2.1 dX8_flies_39 (lv_at hl 1 rfl) ?_
    cases q7 with
    | none =>
      have hf := oc_n hf
      refine lv_ifnullN (tgt := 49) C.1 C.2.1 dX8_flies_41 (by decide) ?_
      refine lv_iload C.1 C.2.1 dX8_flies_49 (lv_at hl 2 rfl) ?_
      exact x_ri C hr hlk h hE (pf_1 (Option.some.inj hf)) (pf_2 (Option.some.inj hf)) dX8_flies_51
    | some b11 =>
      obtain ⟨hk_b11, hf⟩ := gd_ (oc_s hf)
      refine lv_ifnull C.1 C.2.1 dX8_flies_41 ?_
      refine x_aloadq C.1 C.2.1 dX8_flies_44 (lv_at hl 0 rfl) ?_
      cases q9 with
      | none =>
        have hf := oc_n hf
        refine lv_ifnonnullN C.1 C.2.1 dX8_flies_46 ?_
        refine lv_iload C.1 C.2.1 dX8_flies_49 (lv_at hl 2 rfl) ?_
        exact x_ri C hr hlk h hE (pf_1 (Option.some.inj hf)) (pf_2 (Option.some.inj hf)) dX8_flies_51
      | some b12 =>
        obtain ⟨hk_b12, hf⟩ := gd_ (oc_s hf)
        refine lv_ifnonnull (tgt := 52) C.1 C.2.1 dX8_flies_46 (by decide) ?_
        refine lv_aload_n C.1 C.2.1 dX8_flies_52 rfl (lv_at hl 3 rfl) ?_
        refine lv_aload C.1 C.2.1 dX8_flies_53 (lv_at hl 0 rfl) ?_
        obtain ⟨q13, hq_q13, hf⟩ := ob_ hf
        refine x_av K h (x_V C K h [.ref (ad b12)] (c_X8_think l κ G cy ad H.size σ a0 b12 hk_a0 hk_b12 hq_q13) mi_X8_think rfl im_yX8_think se_yX8_think ml_RX8_153 cl_8 hk_a0 ⟨rfl, rfl, Nat.le_trans (Nat.le_of_ble_eq_true rfl) hR.1, Nat.le_trans (Nat.le_of_ble_eq_true rfl) hR.2⟩ hl (Nat.le_of_ble_eq_true rfl) dX8_flies_55 ⟨Nat.zero_le _, Nat.zero_le _⟩ rfl) (fun H locs h hX => ?_)
        have hE := hE.trans hX
        have hk_a0 := hX.k hk_a0 (by decide)
        have hk_b11 := hX.k hk_b11 (by decide)
        have hk_b12 := hX.k hk_b12 (by decide)
        refine lv_aload C.1 C.2.1 dX8_flies_58 (lv_at hl 0 rfl) ?_
        refine x_getN (v := .int (si_ q13 b12 2)) C K h cl_0 hk_b12 2 (by decide) nf_RX8_157 rfl dX8_flies_60 ?_
        refine lv_istore (i := 7) (lv' := [(7, .int (si_ q13 b12 2)), (6, .ref (ad b12)), (5, .ref (ad b11)), (4, .int q6), (0, .ref (ad a0)), (1, .int x1), (2, .int x2), (3, .int x3)]) C.1 C.2.1 dX8_flies_63 hl (by decide) rfl (fun ls hl => ?_)
        refine lv_iconst (v := (0 : Int32)) C.1 C.2.1 dX8_flies_65 (by decide) ?_
        refine lv_istore (i := 8) (lv' := [(8, .int (0 : Int32)), (7, .int (si_ q13 b12 2)), (6, .ref (ad b12)), (5, .ref (ad b11)), (4, .int q6), (0, .ref (ad a0)), (1, .int x1), (2, .int x2), (3, .int x3)]) C.1 C.2.1 dX8_flies_66 hl (by decide) rfl (fun ls hl => ?_)
        refine lv_iconst (v := (0 : Int32)) C.1 C.2.1 dX8_flies_68 (by decide) ?_
        refine lv_istore (i := 9) (lv' := [(9, .int (0 : Int32)), (8, .int (0 : Int32)), (7, .int (si_ q13 b12 2)), (6, .ref (ad b12)), (5, .ref (ad b11)), (4, .int q6), (0, .ref (ad a0)), (1, .int x1), (2, .int x2), (3, .int x3)]) C.1 C.2.1 dX8_flies_69 hl (by decide) rfl (fun ls hl => ?_)
        exact w_X8_flies_71 fu C K hr hlk hR fu q13 a0 x3 b11 (si_ q13 b12 2) (0 : Int32) (0 : Int32) hE hk_a0 hk_b11 hf _ _ _ h (lv_sub hl [6, 9, 4, 2, 1, 0] rfl)
theorem c_X8_flies (fu : Nat) (l : Launch) (κ : Ka_) (G : va_G) (cy : Nat → ClassId) (ad : Nat → Nat) (sz : Nat) (σ : St_) (a0 : Nat) (x1 : Int32) (x2 : Int32) (x3 : Int32) (hk_a0 : kd_ σ a0 = 8) {q : Int32 × St_} (hf : f_X8_flies fu σ a0 x1 x2 x3 = some q) : Met l yX8_flies (Cond.code yX8_flies cX8_flies 11 (some .int) :: wU_) { frames := 4, cells := 0, slots := 0, locals := 90 } (va_Pc [.ref (ad a0), .int x1, .int x2, .int x3] (Pr_ κ G cy ad σ sz)) (Qi_ G cy ad σ q.2 sz q.1) 0 0 (va_A (wl_ cy ad σ) sz) :=
  x_met (by decide) (fun p e R s m below meth c ls hR C hr hlk hin _ K h hl => w_X8_flies fu C K hr hlk ⟨hR.1, hR.2.1⟩ σ a0 x1 x2 x3 Ex_.rf hk_a0 hf s.heap [] ls h hl) (Nat.le_of_ble_eq_true rfl)
-- X8_explore
theorem mi_X8_explore : Mi_ yX8_explore cX8_explore 4 (some .boolean) 2 := ⟨co_yX8_explore, in_RX8, by decide, by decide, by decide +kernel⟩
def f_X8_explore (fu : Nat) (σ : St_) (a0 : Nat) (x1 : Nat) (x2 : Int32) : Option (Int32 × St_) := (dr_ σ 1 (sr_ σ a0 0)).bind fun b3 => (f_X1_carpetAt σ b3 x2).bind fun q4 => oc_ q4 (some ((0 : Int32), σ)) (fun b5 => if kd_ σ b5 = 0 then (f_X8_think σ a0 b5).bind fun q6 => (dr_ q6 6 (sr_ q6 a0 7)).bind fun b7 => (f_X7_explore fu q6 x1 b7 (si_ q6 b5 2)).bind fun q8 => some ((1 : Int32), q8) else none)
set_option maxHeartbeats 4000000 in
set_option maxRecDepth 100000 in
theorem w_X8_explore {p : Program} {l : Launch} {e : Env} {R : Room} {s : State} {m : MethodId} {args : Array Value} {below : List Frame} {meth : Method} {c : Code} {κ : Ka_} {G : va_G} {cy : Nat → ClassId} {ad : Nat → Nat} {sz : Nat} {σ0 : St_} (fu : Nat) (C : CallFix p m c cX8_explore 4 s args wU_ RX8) (K : Kx_ κ G cy (va_A (wl_ cy ad σ0) sz) s) (hr : meth.sig.returnType = some .boolean) (hlk : meth.locks = false) (hR : 5 ≤ R.frames ∧ 125 ≤ R.locals) {q : Int32 × St_} : ∀ (σ : St_) (a0 : Nat) (x1 : Nat) (x2 : Int32), Ex_ σ0 σ → kd_ σ a0 = 8 → kd_ σ x1 = 7 → f_X8_explore fu σ a0 x1 x2 = some q → ∀ (H : Heap) (locs : List Loc) (ls : Array Slot), Ht_ G cy (va_A (wl_ cy ad σ0) sz) s ad σ H locs → lv_has ls 4 [(0, .ref (ad a0)), (1, .ref (ad x1)), (2, .int x2)] → W p l e R s m args below meth c H locs 0 0 (MQ below (Qz_ G cy ad σ0 q.2 sz q.1) args s 0 0 (va_A (wl_ cy ad σ0) sz)) (F0 m 0 ls []) := by
  intro σ a0 x1 x2 hE hk_a0 hk_x1 hf H locs ls h hl
  have hf : ((dr_ σ 1 (sr_ σ a0 0)).bind fun b3 => (f_X1_carpetAt σ b3 x2).bind fun q4 => oc_ q4 (some ((0 : Int32), σ)) (fun b5 => if kd_ σ b5 = 0 then (f_X8_think σ a0 b5).bind fun q6 => (dr_ q6 6 (sr_ q6 a0 7)).bind fun b7 => (f_X7_explore fu q6 x1 b7 (si_ q6 b5 2)).bind fun q8 => some ((1 : Int32), q8) else none)) = some q := hf
  refine lv_aload_n C.1 C.2.1 dX8_explore_0 rfl (lv_at hl 0 rfl) ?_
  obtain ⟨b3, hb_b3, hf⟩ := ob_ hf
  obtain ⟨hq_b3, hk_b3⟩ := dr_in hb_b3
  refine x_get (v := .ref (ad b3)) C K h cl_8 hk_a0 0 (by decide) fl_RX8_12 (hv_r (o := sr_ σ a0 0) rfl hq_b3) dX8_explore_1 ?_
  refine lv_iload_n C.1 C.2.1 dX8_explore_4 rfl (lv_at hl 2 rfl) ?_
  obtain ⟨q4, hq_q4, hf⟩ := ob_ hf
  refine x_aq K h (x_VN C K h [.int x2] (c_X1_carpetAt l κ G cy ad H.size σ b3 x2 hk_b3 hq_q4) mi_X1_carpetAt rfl im_yX1_carpetAt se_yX1_carpetAt nm_RX8_130 cl_1 hk_b3 ⟨rfl, rfl, Nat.le_trans (Nat.le_of_ble_eq_true rfl) hR.1, Nat.le_trans (Nat.le_of_ble_eq_true rfl) hR.2⟩ hl (Nat.le_of_ble_eq_true rfl) dX8_explore_5 ⟨Nat.zero_le _, Nat.zero_le _⟩ rfl) (fun H locs h hX => ?_)
  refine x_astore_nq (i := 3) (lv' := [(3, rv_ ad q4), (0, .ref (ad a0)), (1, .ref (ad x1)), (2, .int x2)]) C.1 C.2.1 dX8_explore_8 rfl hl (by decide) rfl (fun ls hl => ?_)
  refine x_aload_nq C.1 C.2.1 dX8_explore_9 rfl (lv_at hl 0 rfl) ?_
  cases q4 with
  | none =>
    have hf := oc_n hf
    refine lv_ifnonnullN C.1 C.2.1 dX8_explore_10 ?_
    refine lv_iconst (v := (0 : Int32)) C.1 C.2.1 dX8_explore_13 (by decide) ?_
    exact x_rzz C hr hlk h hE (by decide) (pf_1 (Option.some.inj hf)) (pf_2 (Option.some.inj hf)) dX8_explore_14
  | some b5 =>
    obtain ⟨hk_b5, hf⟩ := gd_ (oc_s hf)
    refine lv_ifnonnull (tgt := 15) C.1 C.2.1 dX8_explore_10 (by decide) ?_
    refine lv_aload_n C.1 C.2.1 dX8_explore_15 rfl (lv_at hl 1 rfl) ?_
    refine lv_aload_n C.1 C.2.1 dX8_explore_16 rfl (lv_at hl 0 rfl) ?_
    obtain ⟨q6, hq_q6, hf⟩ := ob_ hf
    refine x_av K h (x_V C K h [.ref (ad b5)] (c_X8_think l κ G cy ad H.size σ a0 b5 hk_a0 hk_b5 hq_q6) mi_X8_think rfl im_yX8_think se_yX8_think ml_RX8_153 cl_8 hk_a0 ⟨rfl, rfl, Nat.le_trans (Nat.le_of_ble_eq_true rfl) hR.1, Nat.le_trans (Nat.le_of_ble_eq_true rfl) hR.2⟩ hl (Nat.le_of_ble_eq_true rfl) dX8_explore_17 ⟨Nat.zero_le _, Nat.zero_le _⟩ rfl) (fun H locs h hX => ?_)
    have hE := hE.trans hX
    have hk_a0 := hX.k hk_a0 (by decide)
    have hk_x1 := hX.k hk_x1 (by decide)
    have hk_b5 := hX.k hk_b5 (by decide)
    refine lv_aload_n C.1 C.2.1 dX8_explore_20 rfl (lv_at hl 2 rfl) ?_
    refine lv_aload_n C.1 C.2.1 dX8_explore_21 rfl (lv_at hl 1 rfl) ?_
    obtain ⟨b7, hb_b7, hf⟩ := ob_ hf
    obtain ⟨hq_b7, hk_b7⟩ := dr_in hb_b7
    refine x_get (v := .ref (ad b7)) C K h cl_8 hk_a0 7 (by decide) fl_RX8_49 (hv_r (o := sr_ q6 a0 7) rfl hq_b7) dX8_explore_22 ?_
    refine lv_aload_n C.1 C.2.1 dX8_explore_25 rfl (lv_at hl 0 rfl) ?_
    refine x_getN (v := .int (si_ q6 b5 2)) C K h cl_0 hk_b5 2 (by decide) nf_RX8_157 rfl dX8_explore_26 ?_
    obtain ⟨q8, hq_q8, hf⟩ := ob_ hf
    refine x_av K h (x_VN C K h [.ref (ad b7), .int (si_ q6 b5 2)] (c_X7_explore fu l κ G cy ad H.size q6 x1 b7 (si_ q6 b5 2) hk_x1 hk_b7 hq_q8) mi_X7_explore rfl im_yX7_explore se_yX7_explore nm_RX8_251 cl_7 hk_x1 ⟨rfl, rfl, Nat.le_trans (Nat.le_of_ble_eq_true rfl) hR.1, Nat.le_trans (Nat.le_of_ble_eq_true rfl) hR.2⟩ hl (Nat.le_of_ble_eq_true rfl) dX8_explore_29 ⟨Nat.zero_le _, Nat.zero_le _⟩ rfl) (fun H locs h hX => ?_)
    have hE := hE.trans hX
    have hk_a0 := hX.k hk_a0 (by decide)
    have hk_x1 := hX.k hk_x1 (by decide)
    have hk_b5 := hX.k hk_b5 (by decide)
    refine lv_iconst (v := (1 : Int32)) C.1 C.2.1 dX8_explore_32 (by decide) ?_
    exact x_rzz C hr hlk h hE (by decide) (pf_1 (Option.some.inj hf)) (pf_2 (Option.some.inj hf)) dX8_explore_33
theorem c_X8_explore (fu : Nat) (l : Launch) (κ : Ka_) (G : va_G) (cy : Nat → ClassId) (ad : Nat → Nat) (sz : Nat) (σ : St_) (a0 : Nat) (x1 : Nat) (x2 : Int32) (hk_a0 : kd_ σ a0 = 8) (hk_x1 : kd_ σ x1 = 7) {q : Int32 × St_} (hf : f_X8_explore fu σ a0 x1 x2 = some q) : Met l yX8_explore (Cond.code yX8_explore cX8_explore 4 (some .boolean) :: wU_) { frames := 5, cells := 0, slots := 0, locals := 125 } (va_Pc [.ref (ad a0), .ref (ad x1), .int x2] (Pr_ κ G cy ad σ sz)) (Qz_ G cy ad σ q.2 sz q.1) 0 0 (va_A (wl_ cy ad σ) sz) :=
  x_met (by decide) (fun p e R s m below meth c ls hR C hr hlk hin _ K h hl => w_X8_explore fu C K hr hlk ⟨hR.1, hR.2.1⟩ σ a0 x1 x2 Ex_.rf hk_a0 hk_x1 hf s.heap [] ls h hl) (Nat.le_of_ble_eq_true rfl)
-- X8_shortest
theorem mi_X8_shortest : Mi_ yX8_shortest cX8_shortest 4 (some .int) 3 := ⟨co_yX8_shortest, in_RX8, by decide, by decide, by decide +kernel⟩
def f_X8_shortest (fu : Nat) (σ : St_) (a0 : Nat) (x1 : Int32) (x2 : Int32) (x3 : Int32) : Option (Int32 × St_) := if (f_X8_isBelow x2 (36 : Int32)) = 0 then some ((-2 : Int32), σ) else if (f_X8_isBelow x3 (2 : Int32)) = 0 then some ((-2 : Int32), σ) else (dr_ σ 7 (sr_ σ a0 8)).bind fun b10 => (f_X8_explore fu σ a0 b10 x1).bind fun q11 => if q11.1 = 0 then some ((-2 : Int32), q11.2) else if x3 = 0 then (dr_ q11.2 7 (sr_ q11.2 a0 8)).bind fun b17 => (f_X7_stepsTo q11.2 b17 x2).bind fun q18 => some (q18, q11.2) else (dr_ q11.2 7 (sr_ q11.2 a0 8)).bind fun b15 => (f_X7_digitsTo fu q11.2 b15 x2).bind fun q16 => some (q16, q11.2)
set_option maxHeartbeats 4000000 in
set_option maxRecDepth 100000 in
theorem w_X8_shortest {p : Program} {l : Launch} {e : Env} {R : Room} {s : State} {m : MethodId} {args : Array Value} {below : List Frame} {meth : Method} {c : Code} {κ : Ka_} {G : va_G} {cy : Nat → ClassId} {ad : Nat → Nat} {sz : Nat} {σ0 : St_} (fu : Nat) (C : CallFix p m c cX8_shortest 4 s args wU_ RX8) (K : Kx_ κ G cy (va_A (wl_ cy ad σ0) sz) s) (hr : meth.sig.returnType = some .int) (hlk : meth.locks = false) (hR : 6 ≤ R.frames ∧ 148 ≤ R.locals) {q : Int32 × St_} : ∀ (σ : St_) (a0 : Nat) (x1 : Int32) (x2 : Int32) (x3 : Int32), Ex_ σ0 σ → kd_ σ a0 = 8 → f_X8_shortest fu σ a0 x1 x2 x3 = some q → ∀ (H : Heap) (locs : List Loc) (ls : Array Slot), Ht_ G cy (va_A (wl_ cy ad σ0) sz) s ad σ H locs → lv_has ls 4 [(0, .ref (ad a0)), (1, .int x1), (2, .int x2), (3, .int x3)] → W p l e R s m args below meth c H locs 0 0 (MQ below (Qi_ G cy ad σ0 q.2 sz q.1) args s 0 0 (va_A (wl_ cy ad σ0) sz)) (F0 m 0 ls []) := by
  intro σ a0 x1 x2 x3 hE hk_a0 hf H locs ls h hl
  have hf : (if (f_X8_isBelow x2 (36 : Int32)) = 0 then some ((-2 : Int32), σ) else if (f_X8_isBelow x3 (2 : Int32)) = 0 then some ((-2 : Int32), σ) else (dr_ σ 7 (sr_ σ a0 8)).bind fun b10 => (f_X8_explore fu σ a0 b10 x1).bind fun q11 => if q11.1 = 0 then some ((-2 : Int32), q11.2) else if x3 = 0 then (dr_ q11.2 7 (sr_ q11.2 a0 8)).bind fun b17 => (f_X7_stepsTo q11.2 b17 x2).bind fun q18 => some (q18, q11.2) else (dr_ q11.2 7 (sr_ q11.2 a0 8)).bind fun b15 => (f_X7_digitsTo fu q11.2 b15 x2).bind fun q16 => some (q16, q11.2)) = some q := hf
  refine lv_iload_n C.1 C.2.1 dX8_shortest_0 rfl (lv_at hl 2 rfl) ?_
  refine lv_bipush (v := (36 : Int32)) C.1 C.2.1 dX8_shortest_1 (by decide) ?_
  refine x_az K h (x_S C K h [.int x2, .int (36 : Int32)] (c_X8_isBelow l κ G cy ad H.size σ x2 (36 : Int32) rfl) mi_X8_isBelow rfl st_yX8_isBelow ml_RX8_116 ⟨rfl, rfl, Nat.le_trans (Nat.le_of_ble_eq_true rfl) hR.1, Nat.le_trans (Nat.le_of_ble_eq_true rfl) hR.2⟩ hl (Nat.le_of_ble_eq_true rfl) dX8_shortest_3 ⟨Nat.zero_le _, Nat.zero_le _⟩ rfl) (fun H locs h hX hz5 => ?_)
  refine lv_if_eq (tgt := 29) C.1 C.2.1 dX8_shortest_6 (by decide) (fun c6 => ?_) (fun c6 => ?_)
  · have hf := if_t hf c6
    refine lv_bipush (v := (-2 : Int32)) C.1 C.2.1 dX8_shortest_29 (by decide) ?_
    exact x_ri C hr hlk h hE (pf_1 (Option.some.inj hf)) (pf_2 (Option.some.inj hf)) dX8_shortest_31
  · have hf := if_f hf c6
    refine lv_iload_n C.1 C.2.1 dX8_shortest_9 rfl (lv_at hl 3 rfl) ?_
    refine lv_iconst (v := (2 : Int32)) C.1 C.2.1 dX8_shortest_10 (by decide) ?_
    refine x_az K h (x_S C K h [.int x3, .int (2 : Int32)] (c_X8_isBelow l κ G cy ad H.size σ x3 (2 : Int32) rfl) mi_X8_isBelow rfl st_yX8_isBelow ml_RX8_116 ⟨rfl, rfl, Nat.le_trans (Nat.le_of_ble_eq_true rfl) hR.1, Nat.le_trans (Nat.le_of_ble_eq_true rfl) hR.2⟩ hl (Nat.le_of_ble_eq_true rfl) dX8_shortest_11 ⟨Nat.zero_le _, Nat.zero_le _⟩ rfl) (fun H locs h hX hz8 => ?_)
    refine lv_if_eq (tgt := 29) C.1 C.2.1 dX8_shortest_14 (by decide) (fun c9 => ?_) (fun c9 => ?_)
    · have hf := if_t hf c9
      refine lv_bipush (v := (-2 : Int32)) C.1 C.2.1 dX8_shortest_29 (by decide) ?_
      exact x_ri C hr hlk h hE (pf_1 (Option.some.inj hf)) (pf_2 (Option.some.inj hf)) dX8_shortest_31
    · have hf := if_f hf c9
      refine lv_aload_n C.1 C.2.1 dX8_shortest_17 rfl (lv_at hl 0 rfl) ?_
      refine lv_aload_n C.1 C.2.1 dX8_shortest_18 rfl (lv_at hl 0 rfl) ?_
      obtain ⟨b10, hb_b10, hf⟩ := ob_ hf
      obtain ⟨hq_b10, hk_b10⟩ := dr_in hb_b10
      refine x_get (v := .ref (ad b10)) C K h cl_8 hk_a0 8 (by decide) fl_RX8_56 (hv_r (o := sr_ σ a0 8) rfl hq_b10) dX8_shortest_19 ?_
      refine lv_iload_n C.1 C.2.1 dX8_shortest_22 rfl (lv_at hl 1 rfl) ?_
      obtain ⟨q11, hq_q11, hf⟩ := ob_ hf
      refine x_az K h (x_V C K h [.ref (ad b10), .int x1] (c_X8_explore fu l κ G cy ad H.size σ a0 b10 x1 hk_a0 hk_b10 hq_q11) mi_X8_explore rfl im_yX8_explore se_yX8_explore ml_RX8_202 cl_8 hk_a0 ⟨rfl, rfl, Nat.le_trans (Nat.le_of_ble_eq_true rfl) hR.1, Nat.le_trans (Nat.le_of_ble_eq_true rfl) hR.2⟩ hl (Nat.le_of_ble_eq_true rfl) dX8_shortest_23 ⟨Nat.zero_le _, Nat.zero_le _⟩ rfl) (fun H locs h hX hz12 => ?_)
      have hE := hE.trans hX
      have hk_a0 := hX.k hk_a0 (by decide)
      refine lv_if_ne (tgt := 32) C.1 C.2.1 dX8_shortest_26 (by decide) (fun c13 => ?_) (fun c13 => ?_)
      · have hf := if_f hf c13
        refine lv_iload_n C.1 C.2.1 dX8_shortest_32 rfl (lv_at hl 3 rfl) ?_
        refine lv_if_ne (tgt := 47) C.1 C.2.1 dX8_shortest_33 (by decide) (fun c14 => ?_) (fun c14 => ?_)
        · have hf := if_f hf c14
          refine lv_aload_n C.1 C.2.1 dX8_shortest_47 rfl (lv_at hl 0 rfl) ?_
          obtain ⟨b15, hb_b15, hf⟩ := ob_ hf
          obtain ⟨hq_b15, hk_b15⟩ := dr_in hb_b15
          refine x_get (v := .ref (ad b15)) C K h cl_8 hk_a0 8 (by decide) fl_RX8_56 (hv_r (o := sr_ q11.2 a0 8) rfl hq_b15) dX8_shortest_48 ?_
          refine lv_iload_n C.1 C.2.1 dX8_shortest_51 rfl (lv_at hl 2 rfl) ?_
          obtain ⟨q16, hq_q16, hf⟩ := ob_ hf
          refine x_ai K h (x_VN C K h [.int x2] (c_X7_digitsTo fu l κ G cy ad H.size q11.2 b15 x2 hk_b15 hq_q16) mi_X7_digitsTo rfl im_yX7_digitsTo se_yX7_digitsTo nm_RX8_209 cl_7 hk_b15 ⟨rfl, rfl, Nat.le_trans (Nat.le_of_ble_eq_true rfl) hR.1, Nat.le_trans (Nat.le_of_ble_eq_true rfl) hR.2⟩ hl (Nat.le_of_ble_eq_true rfl) dX8_shortest_52 ⟨Nat.zero_le _, Nat.zero_le _⟩ rfl) (fun H locs h hX => ?_)
          exact x_ri C hr hlk h hE (pf_1 (Option.some.inj hf)) (pf_2 (Option.some.inj hf)) dX8_shortest_55
        · have hf := if_t hf c14
          refine lv_aload_n C.1 C.2.1 dX8_shortest_36 rfl (lv_at hl 0 rfl) ?_
          obtain ⟨b17, hb_b17, hf⟩ := ob_ hf
          obtain ⟨hq_b17, hk_b17⟩ := dr_in hb_b17
          refine x_get (v := .ref (ad b17)) C K h cl_8 hk_a0 8 (by decide) fl_RX8_56 (hv_r (o := sr_ q11.2 a0 8) rfl hq_b17) dX8_shortest_37 ?_
          refine lv_iload_n C.1 C.2.1 dX8_shortest_40 rfl (lv_at hl 2 rfl) ?_
          obtain ⟨q18, hq_q18, hf⟩ := ob_ hf
          refine x_ai K h (x_VN C K h [.int x2] (c_X7_stepsTo l κ G cy ad H.size q11.2 b17 x2 hk_b17 hq_q18) mi_X7_stepsTo rfl im_yX7_stepsTo se_yX7_stepsTo nm_RX8_206 cl_7 hk_b17 ⟨rfl, rfl, Nat.le_trans (Nat.le_of_ble_eq_true rfl) hR.1, Nat.le_trans (Nat.le_of_ble_eq_true rfl) hR.2⟩ hl (Nat.le_of_ble_eq_true rfl) dX8_shortest_41 ⟨Nat.zero_le _, Nat.zero_le _⟩ rfl) (fun H locs h hX => ?_)
          refine lv_goto (tgt := 55) C.1 C.2.1 dX8_shortest_44 (by decide) ?_
          exact x_ri C hr hlk h hE (pf_1 (Option.some.inj hf)) (pf_2 (Option.some.inj hf)) dX8_shortest_55
      · have hf := if_t hf c13
        refine lv_bipush (v := (-2 : Int32)) C.1 C.2.1 dX8_shortest_29 (by decide) ?_
        exact x_ri C hr hlk h hE (pf_1 (Option.some.inj hf)) (pf_2 (Option.some.inj hf)) dX8_shortest_31
theorem c_X8_shortest (fu : Nat) (l : Launch) (κ : Ka_) (G : va_G) (cy : Nat → ClassId) (ad : Nat → Nat) (sz : Nat) (σ : St_) (a0 : Nat) (x1 : Int32) (x2 : Int32) (x3 : Int32) (hk_a0 : kd_ σ a0 = 8) {q : Int32 × St_} (hf : f_X8_shortest fu σ a0 x1 x2 x3 = some q) : Met l yX8_shortest (Cond.code yX8_shortest cX8_shortest 4 (some .int) :: wU_) { frames := 6, cells := 0, slots := 0, locals := 148 } (va_Pc [.ref (ad a0), .int x1, .int x2, .int x3] (Pr_ κ G cy ad σ sz)) (Qi_ G cy ad σ q.2 sz q.1) 0 0 (va_A (wl_ cy ad σ) sz) :=
  x_met (by decide) (fun p e R s m below meth c ls hR C hr hlk hin _ K h hl => w_X8_shortest fu C K hr hlk ⟨hR.1, hR.2.1⟩ σ a0 x1 x2 x3 Ex_.rf hk_a0 hf s.heap [] ls h hl) (Nat.le_of_ble_eq_true rfl)
-- X8_there
theorem mi_X8_there : Mi_ yX8_there cX8_there 3 (some .long) 2 := ⟨co_yX8_there, in_RX8, by decide, by decide, by decide +kernel⟩
def f_X8_there (fu : Nat) (σ : St_) (a0 : Nat) (x1 : Int32) (x2 : Int32) : Option (Int64 × St_) := if (f_X8_isBelow x2 (2 : Int32)) = 0 then some ((-4611686018427387904 : Int64), σ) else (dr_ σ 7 (sr_ σ a0 8)).bind fun b6 => (f_X8_explore fu σ a0 b6 x1).bind fun q7 => if q7.1 = 0 then some ((-4611686018427387904 : Int64), q7.2) else if x2 = 0 then (dr_ q7.2 7 (sr_ q7.2 a0 8)).bind fun b13 => (f_X7_reached fu q7.2 b13).bind fun q14 => some (q14, q7.2) else (dr_ q7.2 7 (sr_ q7.2 a0 8)).bind fun b11 => some (f_X7_sinks q7.2 b11, q7.2)
set_option maxHeartbeats 4000000 in
set_option maxRecDepth 100000 in
theorem w_X8_there {p : Program} {l : Launch} {e : Env} {R : Room} {s : State} {m : MethodId} {args : Array Value} {below : List Frame} {meth : Method} {c : Code} {κ : Ka_} {G : va_G} {cy : Nat → ClassId} {ad : Nat → Nat} {sz : Nat} {σ0 : St_} (fu : Nat) (C : CallFix p m c cX8_there 3 s args wU_ RX8) (K : Kx_ κ G cy (va_A (wl_ cy ad σ0) sz) s) (hr : meth.sig.returnType = some .long) (hlk : meth.locks = false) (hR : 6 ≤ R.frames ∧ 148 ≤ R.locals) {q : Int64 × St_} : ∀ (σ : St_) (a0 : Nat) (x1 : Int32) (x2 : Int32), Ex_ σ0 σ → kd_ σ a0 = 8 → f_X8_there fu σ a0 x1 x2 = some q → ∀ (H : Heap) (locs : List Loc) (ls : Array Slot), Ht_ G cy (va_A (wl_ cy ad σ0) sz) s ad σ H locs → lv_has ls 3 [(0, .ref (ad a0)), (1, .int x1), (2, .int x2)] → W p l e R s m args below meth c H locs 0 0 (MQ below (Ql_ G cy ad σ0 q.2 sz q.1) args s 0 0 (va_A (wl_ cy ad σ0) sz)) (F0 m 0 ls []) := by
  intro σ a0 x1 x2 hE hk_a0 hf H locs ls h hl
  have hf : (if (f_X8_isBelow x2 (2 : Int32)) = 0 then some ((-4611686018427387904 : Int64), σ) else (dr_ σ 7 (sr_ σ a0 8)).bind fun b6 => (f_X8_explore fu σ a0 b6 x1).bind fun q7 => if q7.1 = 0 then some ((-4611686018427387904 : Int64), q7.2) else if x2 = 0 then (dr_ q7.2 7 (sr_ q7.2 a0 8)).bind fun b13 => (f_X7_reached fu q7.2 b13).bind fun q14 => some (q14, q7.2) else (dr_ q7.2 7 (sr_ q7.2 a0 8)).bind fun b11 => some (f_X7_sinks q7.2 b11, q7.2)) = some q := hf
  refine lv_iload_n C.1 C.2.1 dX8_there_0 rfl (lv_at hl 2 rfl) ?_
  refine lv_iconst (v := (2 : Int32)) C.1 C.2.1 dX8_there_1 (by decide) ?_
  refine x_az K h (x_S C K h [.int x2, .int (2 : Int32)] (c_X8_isBelow l κ G cy ad H.size σ x2 (2 : Int32) rfl) mi_X8_isBelow rfl st_yX8_isBelow ml_RX8_116 ⟨rfl, rfl, Nat.le_trans (Nat.le_of_ble_eq_true rfl) hR.1, Nat.le_trans (Nat.le_of_ble_eq_true rfl) hR.2⟩ hl (Nat.le_of_ble_eq_true rfl) dX8_there_2 ⟨Nat.zero_le _, Nat.zero_le _⟩ rfl) (fun H locs h hX hz4 => ?_)
  refine lv_if_eq (tgt := 20) C.1 C.2.1 dX8_there_5 (by decide) (fun c5 => ?_) (fun c5 => ?_)
  · have hf := if_t hf c5
    refine lv_ldc2 (v := (-4611686018427387904 : Int64)) C.1 C.2.1 C.2.2.2.1 (C.2.2.2.2 _ cl_RX8_212) dX8_there_20 ?_
    exact x_rl C hr hlk h hE (pf_1 (Option.some.inj hf)) (pf_2 (Option.some.inj hf)) dX8_there_23
  · have hf := if_f hf c5
    refine lv_aload_n C.1 C.2.1 dX8_there_8 rfl (lv_at hl 0 rfl) ?_
    refine lv_aload_n C.1 C.2.1 dX8_there_9 rfl (lv_at hl 0 rfl) ?_
    obtain ⟨b6, hb_b6, hf⟩ := ob_ hf
    obtain ⟨hq_b6, hk_b6⟩ := dr_in hb_b6
    refine x_get (v := .ref (ad b6)) C K h cl_8 hk_a0 8 (by decide) fl_RX8_56 (hv_r (o := sr_ σ a0 8) rfl hq_b6) dX8_there_10 ?_
    refine lv_iload_n C.1 C.2.1 dX8_there_13 rfl (lv_at hl 1 rfl) ?_
    obtain ⟨q7, hq_q7, hf⟩ := ob_ hf
    refine x_az K h (x_V C K h [.ref (ad b6), .int x1] (c_X8_explore fu l κ G cy ad H.size σ a0 b6 x1 hk_a0 hk_b6 hq_q7) mi_X8_explore rfl im_yX8_explore se_yX8_explore ml_RX8_202 cl_8 hk_a0 ⟨rfl, rfl, Nat.le_trans (Nat.le_of_ble_eq_true rfl) hR.1, Nat.le_trans (Nat.le_of_ble_eq_true rfl) hR.2⟩ hl (Nat.le_of_ble_eq_true rfl) dX8_there_14 ⟨Nat.zero_le _, Nat.zero_le _⟩ rfl) (fun H locs h hX hz8 => ?_)
    have hE := hE.trans hX
    have hk_a0 := hX.k hk_a0 (by decide)
    refine lv_if_ne (tgt := 24) C.1 C.2.1 dX8_there_17 (by decide) (fun c9 => ?_) (fun c9 => ?_)
    · have hf := if_f hf c9
      refine lv_iload_n C.1 C.2.1 dX8_there_24 rfl (lv_at hl 2 rfl) ?_
      refine lv_if_ne (tgt := 38) C.1 C.2.1 dX8_there_25 (by decide) (fun c10 => ?_) (fun c10 => ?_)
      · have hf := if_f hf c10
        refine lv_aload_n C.1 C.2.1 dX8_there_38 rfl (lv_at hl 0 rfl) ?_
        obtain ⟨b11, hb_b11, hf⟩ := ob_ hf
        obtain ⟨hq_b11, hk_b11⟩ := dr_in hb_b11
        refine x_get (v := .ref (ad b11)) C K h cl_8 hk_a0 8 (by decide) fl_RX8_56 (hv_r (o := sr_ q7.2 a0 8) rfl hq_b11) dX8_there_39 ?_
        refine x_al K h (x_VN C K h [] (c_X7_sinks l κ G cy ad H.size q7.2 b11 hk_b11 rfl) mi_X7_sinks rfl im_yX7_sinks se_yX7_sinks nm_RX8_218 cl_7 hk_b11 ⟨rfl, rfl, Nat.le_trans (Nat.le_of_ble_eq_true rfl) hR.1, Nat.le_trans (Nat.le_of_ble_eq_true rfl) hR.2⟩ hl (Nat.le_of_ble_eq_true rfl) dX8_there_42 ⟨Nat.zero_le _, Nat.zero_le _⟩ rfl) (fun H locs h hX => ?_)
        exact x_rl C hr hlk h hE (pf_1 (Option.some.inj hf)) (pf_2 (Option.some.inj hf)) dX8_there_45
      · have hf := if_t hf c10
        refine lv_aload_n C.1 C.2.1 dX8_there_28 rfl (lv_at hl 0 rfl) ?_
        obtain ⟨b13, hb_b13, hf⟩ := ob_ hf
        obtain ⟨hq_b13, hk_b13⟩ := dr_in hb_b13
        refine x_get (v := .ref (ad b13)) C K h cl_8 hk_a0 8 (by decide) fl_RX8_56 (hv_r (o := sr_ q7.2 a0 8) rfl hq_b13) dX8_there_29 ?_
        obtain ⟨q14, hq_q14, hf⟩ := ob_ hf
        refine x_al K h (x_VN C K h [] (c_X7_reached fu l κ G cy ad H.size q7.2 b13 hk_b13 hq_q14) mi_X7_reached rfl im_yX7_reached se_yX7_reached nm_RX8_214 cl_7 hk_b13 ⟨rfl, rfl, Nat.le_trans (Nat.le_of_ble_eq_true rfl) hR.1, Nat.le_trans (Nat.le_of_ble_eq_true rfl) hR.2⟩ hl (Nat.le_of_ble_eq_true rfl) dX8_there_32 ⟨Nat.zero_le _, Nat.zero_le _⟩ rfl) (fun H locs h hX => ?_)
        refine lv_goto (tgt := 45) C.1 C.2.1 dX8_there_35 (by decide) ?_
        exact x_rl C hr hlk h hE (pf_1 (Option.some.inj hf)) (pf_2 (Option.some.inj hf)) dX8_there_45
    · have hf := if_t hf c9
      refine lv_ldc2 (v := (-4611686018427387904 : Int64)) C.1 C.2.1 C.2.2.2.1 (C.2.2.2.2 _ cl_RX8_212) dX8_there_20 ?_
      exact x_rl C hr hlk h hE (pf_1 (Option.some.inj hf)) (pf_2 (Option.some.inj hf)) dX8_there_23
theorem c_X8_there (fu : Nat) (l : Launch) (κ : Ka_) (G : va_G) (cy : Nat → ClassId) (ad : Nat → Nat) (sz : Nat) (σ : St_) (a0 : Nat) (x1 : Int32) (x2 : Int32) (hk_a0 : kd_ σ a0 = 8) {q : Int64 × St_} (hf : f_X8_there fu σ a0 x1 x2 = some q) : Met l yX8_there (Cond.code yX8_there cX8_there 3 (some .long) :: wU_) { frames := 6, cells := 0, slots := 0, locals := 148 } (va_Pc [.ref (ad a0), .int x1, .int x2] (Pr_ κ G cy ad σ sz)) (Ql_ G cy ad σ q.2 sz q.1) 0 0 (va_A (wl_ cy ad σ) sz) :=
  x_met (by decide) (fun p e R s m below meth c ls hR C hr hlk hin _ K h hl => w_X8_there fu C K hr hlk ⟨hR.1, hR.2.1⟩ σ a0 x1 x2 Ex_.rf hk_a0 hf s.heap [] ls h hl) (Nat.le_of_ble_eq_true rfl)
-- X8_furthest
theorem mi_X8_furthest : Mi_ yX8_furthest cX8_furthest 4 (some .int) 2 := ⟨co_yX8_furthest, in_RX8, by decide, by decide, by decide +kernel⟩
def f_X8_furthest (fu : Nat) (σ : St_) (a0 : Nat) (x1 : Int32) (x2 : Int32) : Option (Int32 × St_) := if (f_X8_isBelow x2 (3 : Int32)) = 0 then some ((-2 : Int32), σ) else (dr_ σ 7 (sr_ σ a0 8)).bind fun b6 => (f_X8_explore fu σ a0 b6 x1).bind fun q7 => if q7.1 = 0 then some ((-2 : Int32), q7.2) else if x2 = (2 : Int32) then (dr_ q7.2 7 (sr_ q7.2 a0 8)).bind fun b15 => some (f_X7_idleWords q7.2 b15, q7.2) else (dr_ q7.2 7 (sr_ q7.2 a0 8)).bind fun b11 => (f_X7_furthestCell fu q7.2 b11).bind fun q12 => if x2 = 0 then some (q12, q7.2) else (f_X7_stepsTo q7.2 b11 q12).bind fun q14 => some (q14, q7.2)
set_option maxHeartbeats 4000000 in
set_option maxRecDepth 100000 in
theorem w_X8_furthest {p : Program} {l : Launch} {e : Env} {R : Room} {s : State} {m : MethodId} {args : Array Value} {below : List Frame} {meth : Method} {c : Code} {κ : Ka_} {G : va_G} {cy : Nat → ClassId} {ad : Nat → Nat} {sz : Nat} {σ0 : St_} (fu : Nat) (C : CallFix p m c cX8_furthest 4 s args wU_ RX8) (K : Kx_ κ G cy (va_A (wl_ cy ad σ0) sz) s) (hr : meth.sig.returnType = some .int) (hlk : meth.locks = false) (hR : 6 ≤ R.frames ∧ 148 ≤ R.locals) {q : Int32 × St_} : ∀ (σ : St_) (a0 : Nat) (x1 : Int32) (x2 : Int32), Ex_ σ0 σ → kd_ σ a0 = 8 → f_X8_furthest fu σ a0 x1 x2 = some q → ∀ (H : Heap) (locs : List Loc) (ls : Array Slot), Ht_ G cy (va_A (wl_ cy ad σ0) sz) s ad σ H locs → lv_has ls 4 [(0, .ref (ad a0)), (1, .int x1), (2, .int x2)] → W p l e R s m args below meth c H locs 0 0 (MQ below (Qi_ G cy ad σ0 q.2 sz q.1) args s 0 0 (va_A (wl_ cy ad σ0) sz)) (F0 m 0 ls []) := by
  intro σ a0 x1 x2 hE hk_a0 hf H locs ls h hl
  have hf : (if (f_X8_isBelow x2 (3 : Int32)) = 0 then some ((-2 : Int32), σ) else (dr_ σ 7 (sr_ σ a0 8)).bind fun b6 => (f_X8_explore fu σ a0 b6 x1).bind fun q7 => if q7.1 = 0 then some ((-2 : Int32), q7.2) else if x2 = (2 : Int32) then (dr_ q7.2 7 (sr_ q7.2 a0 8)).bind fun b15 => some (f_X7_idleWords q7.2 b15, q7.2) else (dr_ q7.2 7 (sr_ q7.2 a0 8)).bind fun b11 => (f_X7_furthestCell fu q7.2 b11).bind fun q12 => if x2 = 0 then some (q12, q7.2) else (f_X7_stepsTo q7.2 b11 q12).bind fun q14 => some (q14, q7.2)) = some q := hf
  refine lv_iload_n C.1 C.2.1 dX8_furthest_0 rfl (lv_at hl 2 rfl) ?_
  refine lv_iconst (v := (3 : Int32)) C.1 C.2.1 dX8_furthest_1 (by decide) ?_
  refine x_az K h (x_S C K h [.int x2, .int (3 : Int32)] (c_X8_isBelow l κ G cy ad H.size σ x2 (3 : Int32) rfl) mi_X8_isBelow rfl st_yX8_isBelow ml_RX8_116 ⟨rfl, rfl, Nat.le_trans (Nat.le_of_ble_eq_true rfl) hR.1, Nat.le_trans (Nat.le_of_ble_eq_true rfl) hR.2⟩ hl (Nat.le_of_ble_eq_true rfl) dX8_furthest_2 ⟨Nat.zero_le _, Nat.zero_le _⟩ rfl) (fun H locs h hX hz4 => ?_)
  refine lv_if_eq (tgt := 20) C.1 C.2.1 dX8_furthest_5 (by decide) (fun c5 => ?_) (fun c5 => ?_)
  · have hf := if_t hf c5
    refine lv_bipush (v := (-2 : Int32)) C.1 C.2.1 dX8_furthest_20 (by decide) ?_
    exact x_ri C hr hlk h hE (pf_1 (Option.some.inj hf)) (pf_2 (Option.some.inj hf)) dX8_furthest_22
  · have hf := if_f hf c5
    refine lv_aload_n C.1 C.2.1 dX8_furthest_8 rfl (lv_at hl 0 rfl) ?_
    refine lv_aload_n C.1 C.2.1 dX8_furthest_9 rfl (lv_at hl 0 rfl) ?_
    obtain ⟨b6, hb_b6, hf⟩ := ob_ hf
    obtain ⟨hq_b6, hk_b6⟩ := dr_in hb_b6
    refine x_get (v := .ref (ad b6)) C K h cl_8 hk_a0 8 (by decide) fl_RX8_56 (hv_r (o := sr_ σ a0 8) rfl hq_b6) dX8_furthest_10 ?_
    refine lv_iload_n C.1 C.2.1 dX8_furthest_13 rfl (lv_at hl 1 rfl) ?_
    obtain ⟨q7, hq_q7, hf⟩ := ob_ hf
    refine x_az K h (x_V C K h [.ref (ad b6), .int x1] (c_X8_explore fu l κ G cy ad H.size σ a0 b6 x1 hk_a0 hk_b6 hq_q7) mi_X8_explore rfl im_yX8_explore se_yX8_explore ml_RX8_202 cl_8 hk_a0 ⟨rfl, rfl, Nat.le_trans (Nat.le_of_ble_eq_true rfl) hR.1, Nat.le_trans (Nat.le_of_ble_eq_true rfl) hR.2⟩ hl (Nat.le_of_ble_eq_true rfl) dX8_furthest_14 ⟨Nat.zero_le _, Nat.zero_le _⟩ rfl) (fun H locs h hX hz8 => ?_)
    have hE := hE.trans hX
    have hk_a0 := hX.k hk_a0 (by decide)
    refine lv_if_ne (tgt := 23) C.1 C.2.1 dX8_furthest_17 (by decide) (fun c9 => ?_) (fun c9 => ?_)
    · have hf := if_f hf c9
      refine lv_iload_n C.1 C.2.1 dX8_furthest_23 rfl (lv_at hl 2 rfl) ?_
      refine lv_iconst (v := (2 : Int32)) C.1 C.2.1 dX8_furthest_24 (by decide) ?_
      refine lv_icmp_ne (tgt := 36) C.1 C.2.1 dX8_furthest_25 (by decide) (fun c10 => ?_) (fun c10 => ?_)
      · have hf := if_f hf c10
        refine lv_aload_n C.1 C.2.1 dX8_furthest_36 rfl (lv_at hl 0 rfl) ?_
        obtain ⟨b11, hb_b11, hf⟩ := ob_ hf
        obtain ⟨hq_b11, hk_b11⟩ := dr_in hb_b11
        refine x_get (v := .ref (ad b11)) C K h cl_8 hk_a0 8 (by decide) fl_RX8_56 (hv_r (o := sr_ q7.2 a0 8) rfl hq_b11) dX8_furthest_37 ?_
        obtain ⟨q12, hq_q12, hf⟩ := ob_ hf
        refine x_ai K h (x_VN C K h [] (c_X7_furthestCell fu l κ G cy ad H.size q7.2 b11 hk_b11 hq_q12) mi_X7_furthestCell rfl im_yX7_furthestCell se_yX7_furthestCell nm_RX8_224 cl_7 hk_b11 ⟨rfl, rfl, Nat.le_trans (Nat.le_of_ble_eq_true rfl) hR.1, Nat.le_trans (Nat.le_of_ble_eq_true rfl) hR.2⟩ hl (Nat.le_of_ble_eq_true rfl) dX8_furthest_40 ⟨Nat.zero_le _, Nat.zero_le _⟩ rfl) (fun H locs h hX => ?_)
        refine lv_istore_n (i := 3) (lv' := [(3, .int q12), (0, .ref (ad a0)), (1, .int x1), (2, .int x2)]) C.1 C.2.1 dX8_furthest_43 rfl hl (by decide) rfl (fun ls hl => ?_)
        refine lv_iload_n C.1 C.2.1 dX8_furthest_44 rfl (lv_at hl 3 rfl) ?_
        refine lv_if_ne (tgt := 52) C.1 C.2.1 dX8_furthest_45 (by decide) (fun c13 => ?_) (fun c13 => ?_)
        · have hf := if_f hf c13
          refine lv_aload_n C.1 C.2.1 dX8_furthest_52 rfl (lv_at hl 1 rfl) ?_
          refine x_get (v := .ref (ad b11)) C K h cl_8 hk_a0 8 (by decide) fl_RX8_56 (hv_r (o := sr_ q7.2 a0 8) rfl hq_b11) dX8_furthest_53 ?_
          refine lv_iload_n C.1 C.2.1 dX8_furthest_56 rfl (lv_at hl 0 rfl) ?_
          obtain ⟨q14, hq_q14, hf⟩ := ob_ hf
          refine x_ai K h (x_VN C K h [.int q12] (c_X7_stepsTo l κ G cy ad H.size q7.2 b11 q12 hk_b11 hq_q14) mi_X7_stepsTo rfl im_yX7_stepsTo se_yX7_stepsTo nm_RX8_206 cl_7 hk_b11 ⟨rfl, rfl, Nat.le_trans (Nat.le_of_ble_eq_true rfl) hR.1, Nat.le_trans (Nat.le_of_ble_eq_true rfl) hR.2⟩ hl (Nat.le_of_ble_eq_true rfl) dX8_furthest_57 ⟨Nat.zero_le _, Nat.zero_le _⟩ rfl) (fun H locs h hX => ?_)
          exact x_ri C hr hlk h hE (pf_1 (Option.some.inj hf)) (pf_2 (Option.some.inj hf)) dX8_furthest_60
        · have hf := if_t hf c13
          refine lv_iload_n C.1 C.2.1 dX8_furthest_48 rfl (lv_at hl 0 rfl) ?_
          refine lv_goto (tgt := 60) C.1 C.2.1 dX8_furthest_49 (by decide) ?_
          exact x_ri C hr hlk h hE (pf_1 (Option.some.inj hf)) (pf_2 (Option.some.inj hf)) dX8_furthest_60
      · have hf := if_t hf c10
        refine lv_aload_n C.1 C.2.1 dX8_furthest_28 rfl (lv_at hl 0 rfl) ?_
        obtain ⟨b15, hb_b15, hf⟩ := ob_ hf
        obtain ⟨hq_b15, hk_b15⟩ := dr_in hb_b15
        refine x_get (v := .ref (ad b15)) C K h cl_8 hk_a0 8 (by decide) fl_RX8_56 (hv_r (o := sr_ q7.2 a0 8) rfl hq_b15) dX8_furthest_29 ?_
        refine x_ai K h (x_VN C K h [] (c_X7_idleWords l κ G cy ad H.size q7.2 b15 hk_b15 rfl) mi_X7_idleWords rfl im_yX7_idleWords se_yX7_idleWords nm_RX8_221 cl_7 hk_b15 ⟨rfl, rfl, Nat.le_trans (Nat.le_of_ble_eq_true rfl) hR.1, Nat.le_trans (Nat.le_of_ble_eq_true rfl) hR.2⟩ hl (Nat.le_of_ble_eq_true rfl) dX8_furthest_32 ⟨Nat.zero_le _, Nat.zero_le _⟩ rfl) (fun H locs h hX => ?_)
        exact x_ri C hr hlk h hE (pf_1 (Option.some.inj hf)) (pf_2 (Option.some.inj hf)) dX8_furthest_35
    · have hf := if_t hf c9
      refine lv_bipush (v := (-2 : Int32)) C.1 C.2.1 dX8_furthest_20 (by decide) ?_
      exact x_ri C hr hlk h hE (pf_1 (Option.some.inj hf)) (pf_2 (Option.some.inj hf)) dX8_furthest_22
theorem c_X8_furthest (fu : Nat) (l : Launch) (κ : Ka_) (G : va_G) (cy : Nat → ClassId) (ad : Nat → Nat) (sz : Nat) (σ : St_) (a0 : Nat) (x1 : Int32) (x2 : Int32) (hk_a0 : kd_ σ a0 = 8) {q : Int32 × St_} (hf : f_X8_furthest fu σ a0 x1 x2 = some q) : Met l yX8_furthest (Cond.code yX8_furthest cX8_furthest 4 (some .int) :: wU_) { frames := 6, cells := 0, slots := 0, locals := 148 } (va_Pc [.ref (ad a0), .int x1, .int x2] (Pr_ κ G cy ad σ sz)) (Qi_ G cy ad σ q.2 sz q.1) 0 0 (va_A (wl_ cy ad σ) sz) :=
  x_met (by decide) (fun p e R s m below meth c ls hR C hr hlk hin _ K h hl => w_X8_furthest fu C K hr hlk ⟨hR.1, hR.2.1⟩ σ a0 x1 x2 Ex_.rf hk_a0 hf s.heap [] ls h hl) (Nat.le_of_ble_eq_true rfl)
-- X8_meet
theorem mi_X8_meet : Mi_ yX8_meet cX8_meet 4 (some .int) 3 := ⟨co_yX8_meet, in_RX8, by decide, by decide, by decide +kernel⟩
def f_X8_meet (fu : Nat) (σ : St_) (a0 : Nat) (x1 : Int32) (x2 : Int32) (x3 : Int32) : Option (Int32 × St_) := if x1 = x2 then some ((-2 : Int32), σ) else if (f_X8_isBelow x3 (2 : Int32)) = 0 then some ((-2 : Int32), σ) else (dr_ σ 7 (sr_ σ a0 8)).bind fun b8 => (f_X8_explore fu σ a0 b8 x1).bind fun q9 => if q9.1 = 0 then some ((-2 : Int32), q9.2) else (dr_ q9.2 7 (sr_ q9.2 a0 9)).bind fun b12 => (f_X8_explore fu q9.2 a0 b12 x2).bind fun q13 => if q13.1 = 0 then some ((-2 : Int32), q13.2) else (dr_ q13.2 2 (sr_ q13.2 a0 10)).bind fun b16 => (dr_ q13.2 7 (sr_ q13.2 a0 8)).bind fun b17 => (dr_ q13.2 7 (sr_ q13.2 a0 9)).bind fun b18 => (f_X2_seek fu q13.2 b16 b17 b18).bind fun q19 => if x3 = 0 then (dr_ q19 2 (sr_ q19 a0 10)).bind fun b22 => some (si_ q19 b22 3, q19) else (dr_ q19 2 (sr_ q19 a0 10)).bind fun b21 => some (si_ q19 b21 4, q19)
set_option maxHeartbeats 4000000 in
set_option maxRecDepth 100000 in
theorem w_X8_meet {p : Program} {l : Launch} {e : Env} {R : Room} {s : State} {m : MethodId} {args : Array Value} {below : List Frame} {meth : Method} {c : Code} {κ : Ka_} {G : va_G} {cy : Nat → ClassId} {ad : Nat → Nat} {sz : Nat} {σ0 : St_} (fu : Nat) (C : CallFix p m c cX8_meet 4 s args wU_ RX8) (K : Kx_ κ G cy (va_A (wl_ cy ad σ0) sz) s) (hr : meth.sig.returnType = some .int) (hlk : meth.locks = false) (hR : 6 ≤ R.frames ∧ 148 ≤ R.locals) {q : Int32 × St_} : ∀ (σ : St_) (a0 : Nat) (x1 : Int32) (x2 : Int32) (x3 : Int32), Ex_ σ0 σ → kd_ σ a0 = 8 → f_X8_meet fu σ a0 x1 x2 x3 = some q → ∀ (H : Heap) (locs : List Loc) (ls : Array Slot), Ht_ G cy (va_A (wl_ cy ad σ0) sz) s ad σ H locs → lv_has ls 4 [(0, .ref (ad a0)), (1, .int x1), (2, .int x2), (3, .int x3)] → W p l e R s m args below meth c H locs 0 0 (MQ below (Qi_ G cy ad σ0 q.2 sz q.1) args s 0 0 (va_A (wl_ cy ad σ0) sz)) (F0 m 0 ls []) := by
  intro σ a0 x1 x2 x3 hE hk_a0 hf H locs ls h hl
  have hf : (if x1 = x2 then some ((-2 : Int32), σ) else if (f_X8_isBelow x3 (2 : Int32)) = 0 then some ((-2 : Int32), σ) else (dr_ σ 7 (sr_ σ a0 8)).bind fun b8 => (f_X8_explore fu σ a0 b8 x1).bind fun q9 => if q9.1 = 0 then some ((-2 : Int32), q9.2) else (dr_ q9.2 7 (sr_ q9.2 a0 9)).bind fun b12 => (f_X8_explore fu q9.2 a0 b12 x2).bind fun q13 => if q13.1 = 0 then some ((-2 : Int32), q13.2) else (dr_ q13.2 2 (sr_ q13.2 a0 10)).bind fun b16 => (dr_ q13.2 7 (sr_ q13.2 a0 8)).bind fun b17 => (dr_ q13.2 7 (sr_ q13.2 a0 9)).bind fun b18 => (f_X2_seek fu q13.2 b16 b17 b18).bind fun q19 => if x3 = 0 then (dr_ q19 2 (sr_ q19 a0 10)).bind fun b22 => some (si_ q19 b22 3, q19) else (dr_ q19 2 (sr_ q19 a0 10)).bind fun b21 => some (si_ q19 b21 4, q19)) = some q := hf
  refine lv_iload_n C.1 C.2.1 dX8_meet_0 rfl (lv_at hl 1 rfl) ?_
  refine lv_iload_n C.1 C.2.1 dX8_meet_1 rfl (lv_at hl 2 rfl) ?_
  refine lv_icmp_eq (tgt := 37) C.1 C.2.1 dX8_meet_2 (by decide) (fun c4 => ?_) (fun c4 => ?_)
  · have hf := if_t hf c4
    refine lv_bipush (v := (-2 : Int32)) C.1 C.2.1 dX8_meet_37 (by decide) ?_
    exact x_ri C hr hlk h hE (pf_1 (Option.some.inj hf)) (pf_2 (Option.some.inj hf)) dX8_meet_39
  · have hf := if_f hf c4
    refine lv_iload_n C.1 C.2.1 dX8_meet_5 rfl (lv_at hl 3 rfl) ?_
    refine lv_iconst (v := (2 : Int32)) C.1 C.2.1 dX8_meet_6 (by decide) ?_
    refine x_az K h (x_S C K h [.int x3, .int (2 : Int32)] (c_X8_isBelow l κ G cy ad H.size σ x3 (2 : Int32) rfl) mi_X8_isBelow rfl st_yX8_isBelow ml_RX8_116 ⟨rfl, rfl, Nat.le_trans (Nat.le_of_ble_eq_true rfl) hR.1, Nat.le_trans (Nat.le_of_ble_eq_true rfl) hR.2⟩ hl (Nat.le_of_ble_eq_true rfl) dX8_meet_7 ⟨Nat.zero_le _, Nat.zero_le _⟩ rfl) (fun H locs h hX hz6 => ?_)
    refine lv_if_eq (tgt := 37) C.1 C.2.1 dX8_meet_10 (by decide) (fun c7 => ?_) (fun c7 => ?_)
    · have hf := if_t hf c7
      refine lv_bipush (v := (-2 : Int32)) C.1 C.2.1 dX8_meet_37 (by decide) ?_
      exact x_ri C hr hlk h hE (pf_1 (Option.some.inj hf)) (pf_2 (Option.some.inj hf)) dX8_meet_39
    · have hf := if_f hf c7
      refine lv_aload_n C.1 C.2.1 dX8_meet_13 rfl (lv_at hl 0 rfl) ?_
      refine lv_aload_n C.1 C.2.1 dX8_meet_14 rfl (lv_at hl 0 rfl) ?_
      obtain ⟨b8, hb_b8, hf⟩ := ob_ hf
      obtain ⟨hq_b8, hk_b8⟩ := dr_in hb_b8
      refine x_get (v := .ref (ad b8)) C K h cl_8 hk_a0 8 (by decide) fl_RX8_56 (hv_r (o := sr_ σ a0 8) rfl hq_b8) dX8_meet_15 ?_
      refine lv_iload_n C.1 C.2.1 dX8_meet_18 rfl (lv_at hl 1 rfl) ?_
      obtain ⟨q9, hq_q9, hf⟩ := ob_ hf
      refine x_az K h (x_V C K h [.ref (ad b8), .int x1] (c_X8_explore fu l κ G cy ad H.size σ a0 b8 x1 hk_a0 hk_b8 hq_q9) mi_X8_explore rfl im_yX8_explore se_yX8_explore ml_RX8_202 cl_8 hk_a0 ⟨rfl, rfl, Nat.le_trans (Nat.le_of_ble_eq_true rfl) hR.1, Nat.le_trans (Nat.le_of_ble_eq_true rfl) hR.2⟩ hl (Nat.le_of_ble_eq_true rfl) dX8_meet_19 ⟨Nat.zero_le _, Nat.zero_le _⟩ rfl) (fun H locs h hX hz10 => ?_)
      have hE := hE.trans hX
      have hk_a0 := hX.k hk_a0 (by decide)
      refine lv_if_eq (tgt := 37) C.1 C.2.1 dX8_meet_22 (by decide) (fun c11 => ?_) (fun c11 => ?_)
      · have hf := if_t hf c11
        refine lv_bipush (v := (-2 : Int32)) C.1 C.2.1 dX8_meet_37 (by decide) ?_
        exact x_ri C hr hlk h hE (pf_1 (Option.some.inj hf)) (pf_2 (Option.some.inj hf)) dX8_meet_39
      · have hf := if_f hf c11
        refine lv_aload_n C.1 C.2.1 dX8_meet_25 rfl (lv_at hl 0 rfl) ?_
        refine lv_aload_n C.1 C.2.1 dX8_meet_26 rfl (lv_at hl 0 rfl) ?_
        obtain ⟨b12, hb_b12, hf⟩ := ob_ hf
        obtain ⟨hq_b12, hk_b12⟩ := dr_in hb_b12
        refine x_get (v := .ref (ad b12)) C K h cl_8 hk_a0 9 (by decide) fl_RX8_60 (hv_r (o := sr_ q9.2 a0 9) rfl hq_b12) dX8_meet_27 ?_
        refine lv_iload_n C.1 C.2.1 dX8_meet_30 rfl (lv_at hl 2 rfl) ?_
        obtain ⟨q13, hq_q13, hf⟩ := ob_ hf
        refine x_az K h (x_V C K h [.ref (ad b12), .int x2] (c_X8_explore fu l κ G cy ad H.size q9.2 a0 b12 x2 hk_a0 hk_b12 hq_q13) mi_X8_explore rfl im_yX8_explore se_yX8_explore ml_RX8_202 cl_8 hk_a0 ⟨rfl, rfl, Nat.le_trans (Nat.le_of_ble_eq_true rfl) hR.1, Nat.le_trans (Nat.le_of_ble_eq_true rfl) hR.2⟩ hl (Nat.le_of_ble_eq_true rfl) dX8_meet_31 ⟨Nat.zero_le _, Nat.zero_le _⟩ rfl) (fun H locs h hX hz14 => ?_)
        have hE := hE.trans hX
        have hk_a0 := hX.k hk_a0 (by decide)
        refine lv_if_ne (tgt := 40) C.1 C.2.1 dX8_meet_34 (by decide) (fun c15 => ?_) (fun c15 => ?_)
        · have hf := if_f hf c15
          refine lv_aload_n C.1 C.2.1 dX8_meet_40 rfl (lv_at hl 0 rfl) ?_
          obtain ⟨b16, hb_b16, hf⟩ := ob_ hf
          obtain ⟨hq_b16, hk_b16⟩ := dr_in hb_b16
          refine x_get (v := .ref (ad b16)) C K h cl_8 hk_a0 10 (by decide) fl_RX8_66 (hv_r (o := sr_ q13.2 a0 10) rfl hq_b16) dX8_meet_41 ?_
          refine lv_aload_n C.1 C.2.1 dX8_meet_44 rfl (lv_at hl 0 rfl) ?_
          obtain ⟨b17, hb_b17, hf⟩ := ob_ hf
          obtain ⟨hq_b17, hk_b17⟩ := dr_in hb_b17
          refine x_get (v := .ref (ad b17)) C K h cl_8 hk_a0 8 (by decide) fl_RX8_56 (hv_r (o := sr_ q13.2 a0 8) rfl hq_b17) dX8_meet_45 ?_
          refine lv_aload_n C.1 C.2.1 dX8_meet_48 rfl (lv_at hl 0 rfl) ?_
          obtain ⟨b18, hb_b18, hf⟩ := ob_ hf
          obtain ⟨hq_b18, hk_b18⟩ := dr_in hb_b18
          refine x_get (v := .ref (ad b18)) C K h cl_8 hk_a0 9 (by decide) fl_RX8_60 (hv_r (o := sr_ q13.2 a0 9) rfl hq_b18) dX8_meet_49 ?_
          obtain ⟨q19, hq_q19, hf⟩ := ob_ hf
          refine x_av K h (x_VN C K h [.ref (ad b17), .ref (ad b18)] (c_X2_seek fu l κ G cy ad H.size q13.2 b16 b17 b18 hk_b16 hk_b17 hk_b18 hq_q19) mi_X2_seek rfl im_yX2_seek se_yX2_seek nm_RX8_227 cl_2 hk_b16 ⟨rfl, rfl, Nat.le_trans (Nat.le_of_ble_eq_true rfl) hR.1, Nat.le_trans (Nat.le_of_ble_eq_true rfl) hR.2⟩ hl (Nat.le_of_ble_eq_true rfl) dX8_meet_52 ⟨Nat.zero_le _, Nat.zero_le _⟩ rfl) (fun H locs h hX => ?_)
          have hE := hE.trans hX
          have hk_a0 := hX.k hk_a0 (by decide)
          refine lv_iload_n C.1 C.2.1 dX8_meet_55 rfl (lv_at hl 3 rfl) ?_
          refine lv_if_ne (tgt := 69) C.1 C.2.1 dX8_meet_56 (by decide) (fun c20 => ?_) (fun c20 => ?_)
          · have hf := if_f hf c20
            refine lv_aload_n C.1 C.2.1 dX8_meet_69 rfl (lv_at hl 0 rfl) ?_
            obtain ⟨b21, hb_b21, hf⟩ := ob_ hf
            obtain ⟨hq_b21, hk_b21⟩ := dr_in hb_b21
            refine x_get (v := .ref (ad b21)) C K h cl_8 hk_a0 10 (by decide) fl_RX8_66 (hv_r (o := sr_ q19 a0 10) rfl hq_b21) dX8_meet_70 ?_
            refine x_getN (v := .int (si_ q19 b21 4)) C K h cl_2 hk_b21 4 (by decide) nf_RX8_234 rfl dX8_meet_73 ?_
            exact x_ri C hr hlk h hE (pf_1 (Option.some.inj hf)) (pf_2 (Option.some.inj hf)) dX8_meet_76
          · have hf := if_t hf c20
            refine lv_aload_n C.1 C.2.1 dX8_meet_59 rfl (lv_at hl 0 rfl) ?_
            obtain ⟨b22, hb_b22, hf⟩ := ob_ hf
            obtain ⟨hq_b22, hk_b22⟩ := dr_in hb_b22
            refine x_get (v := .ref (ad b22)) C K h cl_8 hk_a0 10 (by decide) fl_RX8_66 (hv_r (o := sr_ q19 a0 10) rfl hq_b22) dX8_meet_60 ?_
            refine x_getN (v := .int (si_ q19 b22 3)) C K h cl_2 hk_b22 3 (by decide) nf_RX8_231 rfl dX8_meet_63 ?_
            refine lv_goto (tgt := 76) C.1 C.2.1 dX8_meet_66 (by decide) ?_
            exact x_ri C hr hlk h hE (pf_1 (Option.some.inj hf)) (pf_2 (Option.some.inj hf)) dX8_meet_76
        · have hf := if_t hf c15
          refine lv_bipush (v := (-2 : Int32)) C.1 C.2.1 dX8_meet_37 (by decide) ?_
          exact x_ri C hr hlk h hE (pf_1 (Option.some.inj hf)) (pf_2 (Option.some.inj hf)) dX8_meet_39
theorem c_X8_meet (fu : Nat) (l : Launch) (κ : Ka_) (G : va_G) (cy : Nat → ClassId) (ad : Nat → Nat) (sz : Nat) (σ : St_) (a0 : Nat) (x1 : Int32) (x2 : Int32) (x3 : Int32) (hk_a0 : kd_ σ a0 = 8) {q : Int32 × St_} (hf : f_X8_meet fu σ a0 x1 x2 x3 = some q) : Met l yX8_meet (Cond.code yX8_meet cX8_meet 4 (some .int) :: wU_) { frames := 6, cells := 0, slots := 0, locals := 148 } (va_Pc [.ref (ad a0), .int x1, .int x2, .int x3] (Pr_ κ G cy ad σ sz)) (Qi_ G cy ad σ q.2 sz q.1) 0 0 (va_A (wl_ cy ad σ) sz) :=
  x_met (by decide) (fun p e R s m below meth c ls hR C hr hlk hin _ K h hl => w_X8_meet fu C K hr hlk ⟨hR.1, hR.2.1⟩ σ a0 x1 x2 x3 Ex_.rf hk_a0 hf s.heap [] ls h hl) (Nat.le_of_ble_eq_true rfl)
-- X8_rows
theorem mi_X8_rows : Mi_ yX8_rows cX8_rows 7 (some .long) 3 := ⟨co_yX8_rows, in_RX8, by decide, by decide, by decide +kernel⟩
def f_X8_rows_75 (fu : Nat) : Nat → St_ → Nat → Int32 → Int32 → Int32 → Option (Int64 × St_)
  | 0 => fun _ _ _ _ _ => none
  | n + 1 => fun σ  v0  v2  v3  v5 => if v3 ≤ v5 then (dr_ σ 11 (sr_ σ v0 11)).bind fun b2 => (ix_ v2 (ln_ σ b2)).bind fun j3 => some (sl_ σ b2 j3, σ) else (dr_ σ 11 (sr_ σ v0 12)).bind fun b4 => (f_J7_fill_d0a16 fu σ b4 (0 : Int64)).bind fun q5 => (dr_ q5 7 (sr_ q5 v0 8)).bind fun b6 => (dr_ q5 11 (sr_ q5 v0 11)).bind fun b7 => (dr_ q5 11 (sr_ q5 v0 12)).bind fun b8 => (f_X7_spread fu q5 b6 b7 b8).bind fun q9 => (dr_ q9 11 (sr_ q9 v0 11)).bind fun b10 => (dr_ q9 11 (sr_ q9 v0 12)).bind fun b11 => (f_X8_rows_75 fu n) (ur_ (ur_ q9 v0 11 (some b11)) v0 12 (some b10)) v0 v2 v3 (v5 + (1 : Int32))
set_option maxHeartbeats 4000000 in
set_option maxRecDepth 100000 in
theorem w_X8_rows_75 {p : Program} {l : Launch} {e : Env} {R : Room} {s : State} {m : MethodId} {args : Array Value} {below : List Frame} {meth : Method} {c : Code} {κ : Ka_} {G : va_G} {cy : Nat → ClassId} {ad : Nat → Nat} {sz : Nat} {σ0 : St_} (fu : Nat) (C : CallFix p m c cX8_rows 7 s args wU_ RX8) (K : Kx_ κ G cy (va_A (wl_ cy ad σ0) sz) s) (hr : meth.sig.returnType = some .long) (hlk : meth.locks = false) (hR : 6 ≤ R.frames ∧ 148 ≤ R.locals) {q : Int64 × St_} : ∀ n : Nat, ∀ (σ : St_) (v0 : Nat) (v2 : Int32) (v3 : Int32) (v5 : Int32), Ex_ σ0 σ → kd_ σ v0 = 8 → f_X8_rows_75 fu n σ v0 v2 v3 v5 = some q → ∀ (H : Heap) (locs : List Loc) (ls : Array Slot), Ht_ G cy (va_A (wl_ cy ad σ0) sz) s ad σ H locs → lv_has ls 7 [(0, .ref (ad v0)), (2, .int v2), (3, .int v3), (5, .int v5)] → W p l e R s m args below meth c H locs 0 0 (MQ below (Ql_ G cy ad σ0 q.2 sz q.1) args s 0 0 (va_A (wl_ cy ad σ0) sz)) (F0 m 75 ls []) := by
  intro n
  induction n with
  | zero =>
    intro σ v0 v2 v3 v5 hE hk_v0 hf H locs ls h hl
    cases hf
  | succ n ih =>
    intro σ v0 v2 v3 v5 hE hk_v0 hf H locs ls h hl
    have hf : (if v3 ≤ v5 then (dr_ σ 11 (sr_ σ v0 11)).bind fun b2 => (ix_ v2 (ln_ σ b2)).bind fun j3 => some (sl_ σ b2 j3, σ) else (dr_ σ 11 (sr_ σ v0 12)).bind fun b4 => (f_J7_fill_d0a16 fu σ b4 (0 : Int64)).bind fun q5 => (dr_ q5 7 (sr_ q5 v0 8)).bind fun b6 => (dr_ q5 11 (sr_ q5 v0 11)).bind fun b7 => (dr_ q5 11 (sr_ q5 v0 12)).bind fun b8 => (f_X7_spread fu q5 b6 b7 b8).bind fun q9 => (dr_ q9 11 (sr_ q9 v0 11)).bind fun b10 => (dr_ q9 11 (sr_ q9 v0 12)).bind fun b11 => (f_X8_rows_75 fu n) (ur_ (ur_ q9 v0 11 (some b11)) v0 12 (some b10)) v0 v2 v3 (v5 + (1 : Int32))) = some q := hf
    refine lv_iload C.1 C.2.1 dX8_rows_75 (lv_at hl 3 rfl) ?_
    refine lv_iload_n C.1 C.2.1 dX8_rows_77 rfl (lv_at hl 2 rfl) ?_
    refine lv_icmp_ge (tgt := 130) C.1 C.2.1 dX8_rows_78 (by decide) (fun c1 => ?_) (fun c1 => ?_)
    · have hf := if_t hf c1
      refine lv_aload_n C.1 C.2.1 dX8_rows_130 rfl (lv_at hl 0 rfl) ?_
      obtain ⟨b2, hb_b2, hf⟩ := ob_ hf
      obtain ⟨hq_b2, hk_b2⟩ := dr_in hb_b2
      refine x_get (v := .ref (ad b2)) C K h cl_8 hk_v0 11 (by decide) fl_RX8_70 (hv_r (o := sr_ σ v0 11) rfl hq_b2) dX8_rows_131 ?_
      refine lv_iload_n C.1 C.2.1 dX8_rows_134 rfl (lv_at hl 1 rfl) ?_
      obtain ⟨j3, hj_j3, hf⟩ := ob_ hf
      refine x_lald C K h hk_b2 hj_j3 dX8_rows_135 ?_
      exact x_rl C hr hlk h hE (pf_1 (Option.some.inj hf)) (pf_2 (Option.some.inj hf)) dX8_rows_136
    · have hf := if_f hf c1
      refine lv_aload_n C.1 C.2.1 dX8_rows_81 rfl (lv_at hl 0 rfl) ?_
      obtain ⟨b4, hb_b4, hf⟩ := ob_ hf
      obtain ⟨hq_b4, hk_b4⟩ := dr_in hb_b4
      refine x_get (v := .ref (ad b4)) C K h cl_8 hk_v0 12 (by decide) fl_RX8_74 (hv_r (o := sr_ σ v0 12) rfl hq_b4) dX8_rows_82 ?_
      refine lv_lconst (v := (0 : Int64)) C.1 C.2.1 dX8_rows_85 (by decide) ?_
      obtain ⟨q5, hq_q5, hf⟩ := ob_ hf
      refine x_av K h (x_S C K h [.ref (ad b4), .long (0 : Int64)] (c_J7_fill_d0a16 fu l κ G cy ad H.size σ b4 (0 : Int64) hk_b4 hq_q5) mi_J7_fill_d0a16 rfl st_yJ7_fill_d0a16 ml_RX8_238 ⟨rfl, rfl, Nat.le_trans (Nat.le_of_ble_eq_true rfl) hR.1, Nat.le_trans (Nat.le_of_ble_eq_true rfl) hR.2⟩ hl (Nat.le_of_ble_eq_true rfl) dX8_rows_86 ⟨Nat.zero_le _, Nat.zero_le _⟩ rfl) (fun H locs h hX => ?_)
      have hE := hE.trans hX
      have hk_v0 := hX.k hk_v0 (by decide)
      refine lv_aload_n C.1 C.2.1 dX8_rows_89 rfl (lv_at hl 0 rfl) ?_
      obtain ⟨b6, hb_b6, hf⟩ := ob_ hf
      obtain ⟨hq_b6, hk_b6⟩ := dr_in hb_b6
      refine x_get (v := .ref (ad b6)) C K h cl_8 hk_v0 8 (by decide) fl_RX8_56 (hv_r (o := sr_ q5 v0 8) rfl hq_b6) dX8_rows_90 ?_
      refine lv_aload_n C.1 C.2.1 dX8_rows_93 rfl (lv_at hl 0 rfl) ?_
      obtain ⟨b7, hb_b7, hf⟩ := ob_ hf
      obtain ⟨hq_b7, hk_b7⟩ := dr_in hb_b7
      refine x_get (v := .ref (ad b7)) C K h cl_8 hk_v0 11 (by decide) fl_RX8_70 (hv_r (o := sr_ q5 v0 11) rfl hq_b7) dX8_rows_94 ?_
      refine lv_aload_n C.1 C.2.1 dX8_rows_97 rfl (lv_at hl 0 rfl) ?_
      obtain ⟨b8, hb_b8, hf⟩ := ob_ hf
      obtain ⟨hq_b8, hk_b8⟩ := dr_in hb_b8
      refine x_get (v := .ref (ad b8)) C K h cl_8 hk_v0 12 (by decide) fl_RX8_74 (hv_r (o := sr_ q5 v0 12) rfl hq_b8) dX8_rows_98 ?_
      obtain ⟨q9, hq_q9, hf⟩ := ob_ hf
      refine x_av K h (x_VN C K h [.ref (ad b7), .ref (ad b8)] (c_X7_spread fu l κ G cy ad H.size q5 b6 b7 b8 hk_b6 hk_b7 hk_b8 hq_q9) mi_X7_spread rfl im_yX7_spread se_yX7_spread nm_RX8_244 cl_7 hk_b6 ⟨rfl, rfl, Nat.le_trans (Nat.le_of_ble_eq_true rfl) hR.1, Nat.le_trans (Nat.le_of_ble_eq_true rfl) hR.2⟩ hl (Nat.le_of_ble_eq_true rfl) dX8_rows_101 ⟨Nat.zero_le _, Nat.zero_le _⟩ rfl) (fun H locs h hX => ?_)
      have hE := hE.trans hX
      have hk_v0 := hX.k hk_v0 (by decide)
      refine lv_aload_n C.1 C.2.1 dX8_rows_104 rfl (lv_at hl 0 rfl) ?_
      obtain ⟨b10, hb_b10, hf⟩ := ob_ hf
      obtain ⟨hq_b10, hk_b10⟩ := dr_in hb_b10
      refine x_get (v := .ref (ad b10)) C K h cl_8 hk_v0 11 (by decide) fl_RX8_70 (hv_r (o := sr_ q9 v0 11) rfl hq_b10) dX8_rows_105 ?_
      refine lv_astore (i := 6) (lv' := [(6, .ref (ad b10)), (0, .ref (ad v0)), (2, .int v2), (3, .int v3), (5, .int v5)]) C.1 C.2.1 dX8_rows_108 hl (by decide) rfl (fun ls hl => ?_)
      refine lv_aload_n C.1 C.2.1 dX8_rows_110 rfl (lv_at hl 1 rfl) ?_
      refine lv_aload_n C.1 C.2.1 dX8_rows_111 rfl (lv_at hl 1 rfl) ?_
      obtain ⟨b11, hb_b11, hf⟩ := ob_ hf
      obtain ⟨hq_b11, hk_b11⟩ := dr_in hb_b11
      refine x_get (v := .ref (ad b11)) C K h cl_8 hk_v0 12 (by decide) fl_RX8_74 (hv_r (o := sr_ q9 v0 12) rfl hq_b11) dX8_rows_112 ?_
      have hE := hE.up (up_r q9 v0 11 (some b11) (fun b hb => by cases hb; exact h.lt hk_b11 (by decide)))
      refine x_putR (v := (some b11)) C K h cl_8 hk_v0 11 (by decide) fl_RX8_70 rfl (fun b hb => by cases hb; exact h.lt hk_b11 (by decide)) (rv_nar _ _) (rv_fit _ _ (by decide)) (Nat.le_of_ble_eq_true rfl) (fun _ _ _ => rfl) dX8_rows_115 (fun H locs h => ?_)
      refine lv_aload_n C.1 C.2.1 dX8_rows_118 rfl (lv_at hl 1 rfl) ?_
      refine lv_aload C.1 C.2.1 dX8_rows_119 (lv_at hl 0 rfl) ?_
      have hE := hE.up (up_r (ur_ q9 v0 11 (some b11)) v0 12 (some b10) (fun b hb => by cases hb; exact h.lt hk_b10 (by decide)))
      refine x_putR (v := (some b10)) C K h cl_8 hk_v0 12 (by decide) fl_RX8_74 rfl (fun b hb => by cases hb; exact h.lt hk_b10 (by decide)) (rv_nar _ _) (rv_fit _ _ (by decide)) (Nat.le_of_ble_eq_true rfl) (fun _ _ _ => rfl) dX8_rows_121 (fun H locs h => ?_)
      refine lv_iinc (v := v5 + (1 : Int32)) (lv' := [(5, .int (v5 + (1 : Int32))), (6, .ref (ad b10)), (0, .ref (ad v0)), (2, .int v2), (3, .int v3)]) C.1 C.2.1 dX8_rows_124 hl (k := 4) rfl rfl (by decide) rfl (fun ls hl => ?_)
      refine lv_goto (tgt := 75) C.1 C.2.1 dX8_rows_127 (by decide) ?_
      exact ih (ur_ (ur_ q9 v0 11 (some b11)) v0 12 (some b10)) v0 v2 v3 (v5 + (1 : Int32)) hE hk_v0 hf _ _ _ h (lv_sub hl [2, 3, 4, 0] rfl)
def f_X8_rows (fu : Nat) (σ : St_) (a0 : Nat) (x1 : Int32) (x2 : Int32) (x3 : Int32) : Option (Int64 × St_) := if (f_X8_isBelow x2 (36 : Int32)) = 0 then some ((-4611686018427387904 : Int64), σ) else if (f_X8_isBelow x3 (21 : Int32)) = 0 then some ((-4611686018427387904 : Int64), σ) else (dr_ σ 7 (sr_ σ a0 8)).bind fun b10 => (f_X8_explore fu σ a0 b10 x1).bind fun q11 => if q11.1 = 0 then some ((-4611686018427387904 : Int64), q11.2) else (dr_ q11.2 7 (sr_ q11.2 a0 8)).bind fun b14 => (f_X7_start q11.2 b14).bind fun q15 => (dr_ q11.2 11 (sr_ q11.2 a0 11)).bind fun b16 => (f_J7_fill_d0a16 fu q11.2 b16 (0 : Int64)).bind fun q17 => (dr_ q17 11 (sr_ q17 a0 11)).bind fun b18 => if (f_X8_isBelow q15 (nI (ln_ q17 b18))) = 0 then f_X8_rows_75 fu fu q17 a0 x2 x3 (0 : Int32) else (ix_ q15 (ln_ q17 b18)).bind fun j22 => f_X8_rows_75 fu fu (ul_ q17 b18 j22 (1 : Int64)) a0 x2 x3 (0 : Int32)
set_option maxHeartbeats 4000000 in
set_option maxRecDepth 100000 in
theorem w_X8_rows {p : Program} {l : Launch} {e : Env} {R : Room} {s : State} {m : MethodId} {args : Array Value} {below : List Frame} {meth : Method} {c : Code} {κ : Ka_} {G : va_G} {cy : Nat → ClassId} {ad : Nat → Nat} {sz : Nat} {σ0 : St_} (fu : Nat) (C : CallFix p m c cX8_rows 7 s args wU_ RX8) (K : Kx_ κ G cy (va_A (wl_ cy ad σ0) sz) s) (hr : meth.sig.returnType = some .long) (hlk : meth.locks = false) (hR : 6 ≤ R.frames ∧ 148 ≤ R.locals) {q : Int64 × St_} : ∀ (σ : St_) (a0 : Nat) (x1 : Int32) (x2 : Int32) (x3 : Int32), Ex_ σ0 σ → kd_ σ a0 = 8 → f_X8_rows fu σ a0 x1 x2 x3 = some q → ∀ (H : Heap) (locs : List Loc) (ls : Array Slot), Ht_ G cy (va_A (wl_ cy ad σ0) sz) s ad σ H locs → lv_has ls 7 [(0, .ref (ad a0)), (1, .int x1), (2, .int x2), (3, .int x3)] → W p l e R s m args below meth c H locs 0 0 (MQ below (Ql_ G cy ad σ0 q.2 sz q.1) args s 0 0 (va_A (wl_ cy ad σ0) sz)) (F0 m 0 ls []) := by
  intro σ a0 x1 x2 x3 hE hk_a0 hf H locs ls h hl
  have hf : (if (f_X8_isBelow x2 (36 : Int32)) = 0 then some ((-4611686018427387904 : Int64), σ) else if (f_X8_isBelow x3 (21 : Int32)) = 0 then some ((-4611686018427387904 : Int64), σ) else (dr_ σ 7 (sr_ σ a0 8)).bind fun b10 => (f_X8_explore fu σ a0 b10 x1).bind fun q11 => if q11.1 = 0 then some ((-4611686018427387904 : Int64), q11.2) else (dr_ q11.2 7 (sr_ q11.2 a0 8)).bind fun b14 => (f_X7_start q11.2 b14).bind fun q15 => (dr_ q11.2 11 (sr_ q11.2 a0 11)).bind fun b16 => (f_J7_fill_d0a16 fu q11.2 b16 (0 : Int64)).bind fun q17 => (dr_ q17 11 (sr_ q17 a0 11)).bind fun b18 => if (f_X8_isBelow q15 (nI (ln_ q17 b18))) = 0 then f_X8_rows_75 fu fu q17 a0 x2 x3 (0 : Int32) else (ix_ q15 (ln_ q17 b18)).bind fun j22 => f_X8_rows_75 fu fu (ul_ q17 b18 j22 (1 : Int64)) a0 x2 x3 (0 : Int32)) = some q := hf
  refine lv_iload_n C.1 C.2.1 dX8_rows_0 rfl (lv_at hl 2 rfl) ?_
  refine lv_bipush (v := (36 : Int32)) C.1 C.2.1 dX8_rows_1 (by decide) ?_
  refine x_az K h (x_S C K h [.int x2, .int (36 : Int32)] (c_X8_isBelow l κ G cy ad H.size σ x2 (36 : Int32) rfl) mi_X8_isBelow rfl st_yX8_isBelow ml_RX8_116 ⟨rfl, rfl, Nat.le_trans (Nat.le_of_ble_eq_true rfl) hR.1, Nat.le_trans (Nat.le_of_ble_eq_true rfl) hR.2⟩ hl (Nat.le_of_ble_eq_true rfl) dX8_rows_3 ⟨Nat.zero_le _, Nat.zero_le _⟩ rfl) (fun H locs h hX hz5 => ?_)
  refine lv_if_eq (tgt := 30) C.1 C.2.1 dX8_rows_6 (by decide) (fun c6 => ?_) (fun c6 => ?_)
  · have hf := if_t hf c6
    refine lv_ldc2 (v := (-4611686018427387904 : Int64)) C.1 C.2.1 C.2.2.2.1 (C.2.2.2.2 _ cl_RX8_212) dX8_rows_30 ?_
    exact x_rl C hr hlk h hE (pf_1 (Option.some.inj hf)) (pf_2 (Option.some.inj hf)) dX8_rows_33
  · have hf := if_f hf c6
    refine lv_iload_n C.1 C.2.1 dX8_rows_9 rfl (lv_at hl 3 rfl) ?_
    refine lv_bipush (v := (21 : Int32)) C.1 C.2.1 dX8_rows_10 (by decide) ?_
    refine x_az K h (x_S C K h [.int x3, .int (21 : Int32)] (c_X8_isBelow l κ G cy ad H.size σ x3 (21 : Int32) rfl) mi_X8_isBelow rfl st_yX8_isBelow ml_RX8_116 ⟨rfl, rfl, Nat.le_trans (Nat.le_of_ble_eq_true rfl) hR.1, Nat.le_trans (Nat.le_of_ble_eq_true rfl) hR.2⟩ hl (Nat.le_of_ble_eq_true rfl) dX8_rows_12 ⟨Nat.zero_le _, Nat.zero_le _⟩ rfl) (fun H locs h hX hz8 => ?_)
    refine lv_if_eq (tgt := 30) C.1 C.2.1 dX8_rows_15 (by decide) (fun c9 => ?_) (fun c9 => ?_)
    · have hf := if_t hf c9
      refine lv_ldc2 (v := (-4611686018427387904 : Int64)) C.1 C.2.1 C.2.2.2.1 (C.2.2.2.2 _ cl_RX8_212) dX8_rows_30 ?_
      exact x_rl C hr hlk h hE (pf_1 (Option.some.inj hf)) (pf_2 (Option.some.inj hf)) dX8_rows_33
    · have hf := if_f hf c9
      refine lv_aload_n C.1 C.2.1 dX8_rows_18 rfl (lv_at hl 0 rfl) ?_
      refine lv_aload_n C.1 C.2.1 dX8_rows_19 rfl (lv_at hl 0 rfl) ?_
      obtain ⟨b10, hb_b10, hf⟩ := ob_ hf
      obtain ⟨hq_b10, hk_b10⟩ := dr_in hb_b10
      refine x_get (v := .ref (ad b10)) C K h cl_8 hk_a0 8 (by decide) fl_RX8_56 (hv_r (o := sr_ σ a0 8) rfl hq_b10) dX8_rows_20 ?_
      refine lv_iload_n C.1 C.2.1 dX8_rows_23 rfl (lv_at hl 1 rfl) ?_
      obtain ⟨q11, hq_q11, hf⟩ := ob_ hf
      refine x_az K h (x_V C K h [.ref (ad b10), .int x1] (c_X8_explore fu l κ G cy ad H.size σ a0 b10 x1 hk_a0 hk_b10 hq_q11) mi_X8_explore rfl im_yX8_explore se_yX8_explore ml_RX8_202 cl_8 hk_a0 ⟨rfl, rfl, Nat.le_trans (Nat.le_of_ble_eq_true rfl) hR.1, Nat.le_trans (Nat.le_of_ble_eq_true rfl) hR.2⟩ hl (Nat.le_of_ble_eq_true rfl) dX8_rows_24 ⟨Nat.zero_le _, Nat.zero_le _⟩ rfl) (fun H locs h hX hz12 => ?_)
      have hE := hE.trans hX
      have hk_a0 := hX.k hk_a0 (by decide)
      refine lv_if_ne (tgt := 34) C.1 C.2.1 dX8_rows_27 (by decide) (fun c13 => ?_) (fun c13 => ?_)
      · have hf := if_f hf c13
        refine lv_aload_n C.1 C.2.1 dX8_rows_34 rfl (lv_at hl 0 rfl) ?_
        obtain ⟨b14, hb_b14, hf⟩ := ob_ hf
        obtain ⟨hq_b14, hk_b14⟩ := dr_in hb_b14
        refine x_get (v := .ref (ad b14)) C K h cl_8 hk_a0 8 (by decide) fl_RX8_56 (hv_r (o := sr_ q11.2 a0 8) rfl hq_b14) dX8_rows_35 ?_
        obtain ⟨q15, hq_q15, hf⟩ := ob_ hf
        refine x_ai K h (x_VN C K h [] (c_X7_start l κ G cy ad H.size q11.2 b14 hk_b14 hq_q15) mi_X7_start rfl im_yX7_start se_yX7_start nm_RX8_235 cl_7 hk_b14 ⟨rfl, rfl, Nat.le_trans (Nat.le_of_ble_eq_true rfl) hR.1, Nat.le_trans (Nat.le_of_ble_eq_true rfl) hR.2⟩ hl (Nat.le_of_ble_eq_true rfl) dX8_rows_38 ⟨Nat.zero_le _, Nat.zero_le _⟩ rfl) (fun H locs h hX => ?_)
        refine lv_istore (i := 4) (lv' := [(4, .int q15), (0, .ref (ad a0)), (1, .int x1), (2, .int x2), (3, .int x3)]) C.1 C.2.1 dX8_rows_41 hl (by decide) rfl (fun ls hl => ?_)
        refine lv_aload_n C.1 C.2.1 dX8_rows_43 rfl (lv_at hl 1 rfl) ?_
        obtain ⟨b16, hb_b16, hf⟩ := ob_ hf
        obtain ⟨hq_b16, hk_b16⟩ := dr_in hb_b16
        refine x_get (v := .ref (ad b16)) C K h cl_8 hk_a0 11 (by decide) fl_RX8_70 (hv_r (o := sr_ q11.2 a0 11) rfl hq_b16) dX8_rows_44 ?_
        refine lv_lconst (v := (0 : Int64)) C.1 C.2.1 dX8_rows_47 (by decide) ?_
        obtain ⟨q17, hq_q17, hf⟩ := ob_ hf
        refine x_av K h (x_S C K h [.ref (ad b16), .long (0 : Int64)] (c_J7_fill_d0a16 fu l κ G cy ad H.size q11.2 b16 (0 : Int64) hk_b16 hq_q17) mi_J7_fill_d0a16 rfl st_yJ7_fill_d0a16 ml_RX8_238 ⟨rfl, rfl, Nat.le_trans (Nat.le_of_ble_eq_true rfl) hR.1, Nat.le_trans (Nat.le_of_ble_eq_true rfl) hR.2⟩ hl (Nat.le_of_ble_eq_true rfl) dX8_rows_48 ⟨Nat.zero_le _, Nat.zero_le _⟩ rfl) (fun H locs h hX => ?_)
        have hE := hE.trans hX
        have hk_a0 := hX.k hk_a0 (by decide)
        refine lv_iload C.1 C.2.1 dX8_rows_51 (lv_at hl 0 rfl) ?_
        refine lv_aload_n C.1 C.2.1 dX8_rows_53 rfl (lv_at hl 1 rfl) ?_
        obtain ⟨b18, hb_b18, hf⟩ := ob_ hf
        obtain ⟨hq_b18, hk_b18⟩ := dr_in hb_b18
        refine x_get (v := .ref (ad b18)) C K h cl_8 hk_a0 11 (by decide) fl_RX8_70 (hv_r (o := sr_ q17 a0 11) rfl hq_b18) dX8_rows_54 ?_
        refine x_llen C K h hk_b18 dX8_rows_57 ?_
        refine x_az K h (x_S C K h [.int q15, .int (nI (ln_ q17 b18))] (c_X8_isBelow l κ G cy ad H.size q17 q15 (nI (ln_ q17 b18)) rfl) mi_X8_isBelow rfl st_yX8_isBelow ml_RX8_116 ⟨rfl, rfl, Nat.le_trans (Nat.le_of_ble_eq_true rfl) hR.1, Nat.le_trans (Nat.le_of_ble_eq_true rfl) hR.2⟩ hl (Nat.le_of_ble_eq_true rfl) dX8_rows_58 ⟨Nat.zero_le _, Nat.zero_le _⟩ rfl) (fun H locs h hX hz20 => ?_)
        refine lv_if_eq (tgt := 72) C.1 C.2.1 dX8_rows_61 (by decide) (fun c21 => ?_) (fun c21 => ?_)
        · have hf := if_t hf c21
          refine lv_iconst (v := (0 : Int32)) C.1 C.2.1 dX8_rows_72 (by decide) ?_
          refine lv_istore (i := 5) (lv' := [(5, .int (0 : Int32)), (4, .int q15), (0, .ref (ad a0)), (1, .int x1), (2, .int x2), (3, .int x3)]) C.1 C.2.1 dX8_rows_73 hl (by decide) rfl (fun ls hl => ?_)
          exact w_X8_rows_75 fu C K hr hlk hR fu q17 a0 x2 x3 (0 : Int32) hE hk_a0 hf _ _ _ h (lv_sub hl [2, 4, 5, 0] rfl)
        · have hf := if_f hf c21
          refine lv_aload_n C.1 C.2.1 dX8_rows_64 rfl (lv_at hl 1 rfl) ?_
          refine x_get (v := .ref (ad b18)) C K h cl_8 hk_a0 11 (by decide) fl_RX8_70 (hv_r (o := sr_ q17 a0 11) rfl hq_b18) dX8_rows_65 ?_
          refine lv_iload C.1 C.2.1 dX8_rows_68 (lv_at hl 0 rfl) ?_
          refine lv_lconst (v := (1 : Int64)) C.1 C.2.1 dX8_rows_70 (by decide) ?_
          obtain ⟨j22, hj_j22, hf⟩ := ob_ hf
          refine x_last C K h hk_b18 hj_j22 dX8_rows_71 (fun H locs h => ?_)
          have hE := hE.up (up_l q17 b18 j22 (1 : Int64))
          refine lv_iconst (v := (0 : Int32)) C.1 C.2.1 dX8_rows_72 (by decide) ?_
          refine lv_istore (i := 5) (lv' := [(5, .int (0 : Int32)), (4, .int q15), (0, .ref (ad a0)), (1, .int x1), (2, .int x2), (3, .int x3)]) C.1 C.2.1 dX8_rows_73 hl (by decide) rfl (fun ls hl => ?_)
          exact w_X8_rows_75 fu C K hr hlk hR fu (ul_ q17 b18 j22 (1 : Int64)) a0 x2 x3 (0 : Int32) hE hk_a0 hf _ _ _ h (lv_sub hl [2, 4, 5, 0] rfl)
      · have hf := if_t hf c13
        refine lv_ldc2 (v := (-4611686018427387904 : Int64)) C.1 C.2.1 C.2.2.2.1 (C.2.2.2.2 _ cl_RX8_212) dX8_rows_30 ?_
        exact x_rl C hr hlk h hE (pf_1 (Option.some.inj hf)) (pf_2 (Option.some.inj hf)) dX8_rows_33
theorem c_X8_rows (fu : Nat) (l : Launch) (κ : Ka_) (G : va_G) (cy : Nat → ClassId) (ad : Nat → Nat) (sz : Nat) (σ : St_) (a0 : Nat) (x1 : Int32) (x2 : Int32) (x3 : Int32) (hk_a0 : kd_ σ a0 = 8) {q : Int64 × St_} (hf : f_X8_rows fu σ a0 x1 x2 x3 = some q) : Met l yX8_rows (Cond.code yX8_rows cX8_rows 7 (some .long) :: wU_) { frames := 6, cells := 0, slots := 0, locals := 148 } (va_Pc [.ref (ad a0), .int x1, .int x2, .int x3] (Pr_ κ G cy ad σ sz)) (Ql_ G cy ad σ q.2 sz q.1) 0 0 (va_A (wl_ cy ad σ) sz) :=
  x_met (by decide) (fun p e R s m below meth c ls hR C hr hlk hin _ K h hl => w_X8_rows fu C K hr hlk ⟨hR.1, hR.2.1⟩ σ a0 x1 x2 x3 Ex_.rf hk_a0 hf s.heap [] ls h hl) (Nat.le_of_ble_eq_true rfl)
-- X8_highest
theorem mi_X8_highest : Mi_ yX8_highest cX8_highest 6 (some .int) 1 := ⟨co_yX8_highest, in_RX8, by decide, by decide, by decide +kernel⟩
def f_X8_highest_18 (fu : Nat) : Nat → St_ → Nat → Int32 → Int32 → Int32 → Int32 → Option (Int32 × St_)
  | 0 => fun _ _ _ _ _ _ => none
  | n + 1 => fun σ  v0  v1  v2  v3  v4 => (dr_ σ 1 (sr_ σ v0 0)).bind fun b1 => if (si_ σ b1 1) ≤ v4 then if v1 = 0 then some (v2, σ) else some (v3, σ) else (f_X8_heightOf fu σ v0 v4).bind fun q4 => if q4.1 ≤ v3 then (f_X8_highest_18 fu n) q4.2 v0 v1 v2 v3 (v4 + (1 : Int32)) else (f_X8_highest_18 fu n) q4.2 v0 v1 v4 q4.1 (v4 + (1 : Int32))
set_option maxHeartbeats 4000000 in
set_option maxRecDepth 100000 in
theorem w_X8_highest_18 {p : Program} {l : Launch} {e : Env} {R : Room} {s : State} {m : MethodId} {args : Array Value} {below : List Frame} {meth : Method} {c : Code} {κ : Ka_} {G : va_G} {cy : Nat → ClassId} {ad : Nat → Nat} {sz : Nat} {σ0 : St_} (fu : Nat) (C : CallFix p m c cX8_highest 6 s args wU_ RX8) (K : Kx_ κ G cy (va_A (wl_ cy ad σ0) sz) s) (hr : meth.sig.returnType = some .int) (hlk : meth.locks = false) (hR : 4 ≤ R.frames ∧ 98 ≤ R.locals) {q : Int32 × St_} : ∀ n : Nat, ∀ (σ : St_) (v0 : Nat) (v1 : Int32) (v2 : Int32) (v3 : Int32) (v4 : Int32), Ex_ σ0 σ → kd_ σ v0 = 8 → f_X8_highest_18 fu n σ v0 v1 v2 v3 v4 = some q → ∀ (H : Heap) (locs : List Loc) (ls : Array Slot), Ht_ G cy (va_A (wl_ cy ad σ0) sz) s ad σ H locs → lv_has ls 6 [(0, .ref (ad v0)), (1, .int v1), (2, .int v2), (3, .int v3), (4, .int v4)] → W p l e R s m args below meth c H locs 0 0 (MQ below (Qi_ G cy ad σ0 q.2 sz q.1) args s 0 0 (va_A (wl_ cy ad σ0) sz)) (F0 m 18 ls []) := by
  intro n
  induction n with
  | zero =>
    intro σ v0 v1 v2 v3 v4 hE hk_v0 hf H locs ls h hl
    cases hf
  | succ n ih =>
    intro σ v0 v1 v2 v3 v4 hE hk_v0 hf H locs ls h hl
    have hf : ((dr_ σ 1 (sr_ σ v0 0)).bind fun b1 => if (si_ σ b1 1) ≤ v4 then if v1 = 0 then some (v2, σ) else some (v3, σ) else (f_X8_heightOf fu σ v0 v4).bind fun q4 => if q4.1 ≤ v3 then (f_X8_highest_18 fu n) q4.2 v0 v1 v2 v3 (v4 + (1 : Int32)) else (f_X8_highest_18 fu n) q4.2 v0 v1 v4 q4.1 (v4 + (1 : Int32))) = some q := hf
    refine lv_iload C.1 C.2.1 dX8_highest_18 (lv_at hl 4 rfl) ?_
    refine lv_aload_n C.1 C.2.1 dX8_highest_20 rfl (lv_at hl 0 rfl) ?_
    obtain ⟨b1, hb_b1, hf⟩ := ob_ hf
    obtain ⟨hq_b1, hk_b1⟩ := dr_in hb_b1
    refine x_get (v := .ref (ad b1)) C K h cl_8 hk_v0 0 (by decide) fl_RX8_12 (hv_r (o := sr_ σ v0 0) rfl hq_b1) dX8_highest_21 ?_
    refine x_getN (v := .int (si_ σ b1 1)) C K h cl_1 hk_b1 1 (by decide) nf_RX8_248 rfl dX8_highest_24 ?_
    refine lv_icmp_ge (tgt := 56) C.1 C.2.1 dX8_highest_27 (by decide) (fun c2 => ?_) (fun c2 => ?_)
    · have hf := if_t hf c2
      refine lv_iload_n C.1 C.2.1 dX8_highest_56 rfl (lv_at hl 1 rfl) ?_
      refine lv_if_ne (tgt := 64) C.1 C.2.1 dX8_highest_57 (by decide) (fun c3 => ?_) (fun c3 => ?_)
      · have hf := if_f hf c3
        refine lv_iload_n C.1 C.2.1 dX8_highest_64 rfl (lv_at hl 3 rfl) ?_
        exact x_ri C hr hlk h hE (pf_1 (Option.some.inj hf)) (pf_2 (Option.some.inj hf)) dX8_highest_65
      · have hf := if_t hf c3
        refine lv_iload_n C.1 C.2.1 dX8_highest_60 rfl (lv_at hl 2 rfl) ?_
        refine lv_goto (tgt := 65) C.1 C.2.1 dX8_highest_61 (by decide) ?_
        exact x_ri C hr hlk h hE (pf_1 (Option.some.inj hf)) (pf_2 (Option.some.inj hf)) dX8_highest_65
    · have hf := if_f hf c2
      refine lv_aload_n C.1 C.2.1 dX8_highest_30 rfl (lv_at hl 0 rfl) ?_
      refine lv_iload C.1 C.2.1 dX8_highest_31 (lv_at hl 4 rfl) ?_
      obtain ⟨q4, hq_q4, hf⟩ := ob_ hf
      refine x_ai K h (x_V C K h [.int v4] (c_X8_heightOf fu l κ G cy ad H.size σ v0 v4 hk_v0 hq_q4) mi_X8_heightOf rfl im_yX8_heightOf se_yX8_heightOf ml_RX8_150 cl_8 hk_v0 ⟨rfl, rfl, Nat.le_trans (Nat.le_of_ble_eq_true rfl) hR.1, Nat.le_trans (Nat.le_of_ble_eq_true rfl) hR.2⟩ hl (Nat.le_of_ble_eq_true rfl) dX8_highest_33 ⟨Nat.zero_le _, Nat.zero_le _⟩ rfl) (fun H locs h hX => ?_)
      have hE := hE.trans hX
      have hk_v0 := hX.k hk_v0 (by decide)
      refine lv_istore (i := 5) (lv' := [(5, .int q4.1), (0, .ref (ad v0)), (1, .int v1), (2, .int v2), (3, .int v3), (4, .int v4)]) C.1 C.2.1 dX8_highest_36 hl (by decide) rfl (fun ls hl => ?_)
      refine lv_iload C.1 C.2.1 dX8_highest_38 (lv_at hl 0 rfl) ?_
      refine lv_iload_n C.1 C.2.1 dX8_highest_40 rfl (lv_at hl 4 rfl) ?_
      refine lv_icmp_le (tgt := 50) C.1 C.2.1 dX8_highest_41 (by decide) (fun c5 => ?_) (fun c5 => ?_)
      · have hf := if_t hf c5
        refine lv_iinc (v := v4 + (1 : Int32)) (lv' := [(4, .int (v4 + (1 : Int32))), (5, .int q4.1), (0, .ref (ad v0)), (1, .int v1), (2, .int v2), (3, .int v3)]) C.1 C.2.1 dX8_highest_50 hl (k := 5) rfl rfl (by decide) rfl (fun ls hl => ?_)
        refine lv_goto (tgt := 18) C.1 C.2.1 dX8_highest_53 (by decide) ?_
        exact ih q4.2 v0 v1 v2 v3 (v4 + (1 : Int32)) hE hk_v0 hf _ _ _ h (lv_sub hl [2, 3, 4, 5, 0] rfl)
      · have hf := if_f hf c5
        refine lv_iload C.1 C.2.1 dX8_highest_44 (lv_at hl 5 rfl) ?_
        refine lv_istore_n (i := 2) (lv' := [(2, .int v4), (5, .int q4.1), (0, .ref (ad v0)), (1, .int v1), (3, .int v3), (4, .int v4)]) C.1 C.2.1 dX8_highest_46 rfl hl (by decide) rfl (fun ls hl => ?_)
        refine lv_iload C.1 C.2.1 dX8_highest_47 (lv_at hl 1 rfl) ?_
        refine lv_istore_n (i := 3) (lv' := [(3, .int q4.1), (2, .int v4), (5, .int q4.1), (0, .ref (ad v0)), (1, .int v1), (4, .int v4)]) C.1 C.2.1 dX8_highest_49 rfl hl (by decide) rfl (fun ls hl => ?_)
        refine lv_iinc (v := v4 + (1 : Int32)) (lv' := [(4, .int (v4 + (1 : Int32))), (3, .int q4.1), (2, .int v4), (5, .int q4.1), (0, .ref (ad v0)), (1, .int v1)]) C.1 C.2.1 dX8_highest_50 hl (k := 5) rfl rfl (by decide) rfl (fun ls hl => ?_)
        refine lv_goto (tgt := 18) C.1 C.2.1 dX8_highest_53 (by decide) ?_
        exact ih q4.2 v0 v1 v4 q4.1 (v4 + (1 : Int32)) hE hk_v0 hf _ _ _ h (lv_sub hl [4, 5, 2, 1, 0] rfl)
def f_X8_highest (fu : Nat) (σ : St_) (a0 : Nat) (x1 : Int32) : Option (Int32 × St_) := if (f_X8_isBelow x1 (2 : Int32)) = 0 then some ((-2 : Int32), σ) else f_X8_highest_18 fu fu σ a0 x1 (-1 : Int32) (-1 : Int32) (0 : Int32)
set_option maxHeartbeats 4000000 in
set_option maxRecDepth 100000 in
theorem w_X8_highest {p : Program} {l : Launch} {e : Env} {R : Room} {s : State} {m : MethodId} {args : Array Value} {below : List Frame} {meth : Method} {c : Code} {κ : Ka_} {G : va_G} {cy : Nat → ClassId} {ad : Nat → Nat} {sz : Nat} {σ0 : St_} (fu : Nat) (C : CallFix p m c cX8_highest 6 s args wU_ RX8) (K : Kx_ κ G cy (va_A (wl_ cy ad σ0) sz) s) (hr : meth.sig.returnType = some .int) (hlk : meth.locks = false) (hR : 4 ≤ R.frames ∧ 98 ≤ R.locals) {q : Int32 × St_} : ∀ (σ : St_) (a0 : Nat) (x1 : Int32), Ex_ σ0 σ → kd_ σ a0 = 8 → f_X8_highest fu σ a0 x1 = some q → ∀ (H : Heap) (locs : List Loc) (ls : Array Slot), Ht_ G cy (va_A (wl_ cy ad σ0) sz) s ad σ H locs → lv_has ls 6 [(0, .ref (ad a0)), (1, .int x1)] → W p l e R s m args below meth c H locs 0 0 (MQ below (Qi_ G cy ad σ0 q.2 sz q.1) args s 0 0 (va_A (wl_ cy ad σ0) sz)) (F0 m 0 ls []) := by
  intro σ a0 x1 hE hk_a0 hf H locs ls h hl
  have hf : (if (f_X8_isBelow x1 (2 : Int32)) = 0 then some ((-2 : Int32), σ) else f_X8_highest_18 fu fu σ a0 x1 (-1 : Int32) (-1 : Int32) (0 : Int32)) = some q := hf
  refine lv_iload_n C.1 C.2.1 dX8_highest_0 rfl (lv_at hl 1 rfl) ?_
  refine lv_iconst (v := (2 : Int32)) C.1 C.2.1 dX8_highest_1 (by decide) ?_
  refine x_az K h (x_S C K h [.int x1, .int (2 : Int32)] (c_X8_isBelow l κ G cy ad H.size σ x1 (2 : Int32) rfl) mi_X8_isBelow rfl st_yX8_isBelow ml_RX8_116 ⟨rfl, rfl, Nat.le_trans (Nat.le_of_ble_eq_true rfl) hR.1, Nat.le_trans (Nat.le_of_ble_eq_true rfl) hR.2⟩ hl (Nat.le_of_ble_eq_true rfl) dX8_highest_2 ⟨Nat.zero_le _, Nat.zero_le _⟩ rfl) (fun H locs h hX hz3 => ?_)
  refine lv_if_ne (tgt := 11) C.1 C.2.1 dX8_highest_5 (by decide) (fun c4 => ?_) (fun c4 => ?_)
  · have hf := if_f hf c4
    refine lv_iconst (v := (-1 : Int32)) C.1 C.2.1 dX8_highest_11 (by decide) ?_
    refine lv_istore_n (i := 2) (lv' := [(2, .int (-1 : Int32)), (0, .ref (ad a0)), (1, .int x1)]) C.1 C.2.1 dX8_highest_12 rfl hl (by decide) rfl (fun ls hl => ?_)
    refine lv_iconst (v := (-1 : Int32)) C.1 C.2.1 dX8_highest_13 (by decide) ?_
    refine lv_istore_n (i := 3) (lv' := [(3, .int (-1 : Int32)), (2, .int (-1 : Int32)), (0, .ref (ad a0)), (1, .int x1)]) C.1 C.2.1 dX8_highest_14 rfl hl (by decide) rfl (fun ls hl => ?_)
    refine lv_iconst (v := (0 : Int32)) C.1 C.2.1 dX8_highest_15 (by decide) ?_
    refine lv_istore (i := 4) (lv' := [(4, .int (0 : Int32)), (3, .int (-1 : Int32)), (2, .int (-1 : Int32)), (0, .ref (ad a0)), (1, .int x1)]) C.1 C.2.1 dX8_highest_16 hl (by decide) rfl (fun ls hl => ?_)
    exact w_X8_highest_18 fu C K hr hlk hR fu σ a0 x1 (-1 : Int32) (-1 : Int32) (0 : Int32) hE hk_a0 hf _ _ _ h (lv_sub hl [3, 4, 2, 1, 0] rfl)
  · have hf := if_t hf c4
    refine lv_bipush (v := (-2 : Int32)) C.1 C.2.1 dX8_highest_8 (by decide) ?_
    exact x_ri C hr hlk h hE (pf_1 (Option.some.inj hf)) (pf_2 (Option.some.inj hf)) dX8_highest_10
theorem c_X8_highest (fu : Nat) (l : Launch) (κ : Ka_) (G : va_G) (cy : Nat → ClassId) (ad : Nat → Nat) (sz : Nat) (σ : St_) (a0 : Nat) (x1 : Int32) (hk_a0 : kd_ σ a0 = 8) {q : Int32 × St_} (hf : f_X8_highest fu σ a0 x1 = some q) : Met l yX8_highest (Cond.code yX8_highest cX8_highest 6 (some .int) :: wU_) { frames := 4, cells := 0, slots := 0, locals := 98 } (va_Pc [.ref (ad a0), .int x1] (Pr_ κ G cy ad σ sz)) (Qi_ G cy ad σ q.2 sz q.1) 0 0 (va_A (wl_ cy ad σ) sz) :=
  x_met (by decide) (fun p e R s m below meth c ls hR C hr hlk hin _ K h hl => w_X8_highest fu C K hr hlk ⟨hR.1, hR.2.1⟩ σ a0 x1 Ex_.rf hk_a0 hf s.heap [] ls h hl) (Nat.le_of_ble_eq_true rfl)
-- X8_cellAhead
theorem mi_X8_cellAhead : Mi_ yX8_cellAhead cX8_cellAhead 3 (some .int) 3 := ⟨co_yX8_cellAhead, in_RX8, by decide, by decide, by decide +kernel⟩
def f_X8_cellAhead (σ : St_) (x1 : Nat) (x2 : Int32) (x3 : Int32) : Option Int32 := if x2 = 0 then some x3 else (f_X4_item σ x1 (x2 - (1 : Int32))).bind fun q5 => some q5
set_option maxHeartbeats 4000000 in
set_option maxRecDepth 100000 in
theorem w_X8_cellAhead {p : Program} {l : Launch} {e : Env} {R : Room} {s : State} {m : MethodId} {args : Array Value} {below : List Frame} {meth : Method} {c : Code} {κ : Ka_} {G : va_G} {cy : Nat → ClassId} {ad : Nat → Nat} {sz : Nat} {σ : St_} (C : CallFix p m c cX8_cellAhead 3 s args wU_ RX8) (K : Kx_ κ G cy (va_A (wl_ cy ad σ) sz) s) (hr : meth.sig.returnType = some .int) (hlk : meth.locks = false) (hR : 2 ≤ R.frames ∧ 42 ≤ R.locals) {q : Int32} : ∀ (x1 : Nat) (x2 : Int32) (x3 : Int32), kd_ σ x1 = 4 → f_X8_cellAhead σ x1 x2 x3 = some q → ∀ (H : Heap) (locs : List Loc) (ls : Array Slot), Ht_ G cy (va_A (wl_ cy ad σ) sz) s ad σ H locs → lv_has ls 3 [(0, .ref (ad x1)), (1, .int x2), (2, .int x3)] → W p l e R s m args below meth c H locs 0 0 (MQ below (Qi_ G cy ad σ σ sz q) args s 0 0 (va_A (wl_ cy ad σ) sz)) (F0 m 0 ls []) := by
  intro x1 x2 x3 hk_x1 hf H locs ls h hl
  have hf : (if x2 = 0 then some x3 else (f_X4_item σ x1 (x2 - (1 : Int32))).bind fun q5 => some q5) = some q := hf
  refine lv_iload_n C.1 C.2.1 dX8_cellAhead_0 rfl (lv_at hl 1 rfl) ?_
  refine lv_if_ne (tgt := 8) C.1 C.2.1 dX8_cellAhead_1 (by decide) (fun c4 => ?_) (fun c4 => ?_)
  · have hf := if_f hf c4
    refine lv_aload_n C.1 C.2.1 dX8_cellAhead_8 rfl (lv_at hl 0 rfl) ?_
    refine lv_iload_n C.1 C.2.1 dX8_cellAhead_9 rfl (lv_at hl 1 rfl) ?_
    refine lv_iconst (v := (1 : Int32)) C.1 C.2.1 dX8_cellAhead_10 (by decide) ?_
    refine lv_isub C.1 C.2.1 dX8_cellAhead_11 ?_
    obtain ⟨q5, hq_q5, hf⟩ := ob_ hf
    refine x_ai K h (x_VN C K h [.int (x2 - (1 : Int32))] (c_X4_item l κ G cy ad H.size σ x1 (x2 - (1 : Int32)) hk_x1 hq_q5) mi_X4_item rfl im_yX4_item se_yX4_item nm_RX8_199 cl_4 hk_x1 ⟨rfl, rfl, Nat.le_trans (Nat.le_of_ble_eq_true rfl) hR.1, Nat.le_trans (Nat.le_of_ble_eq_true rfl) hR.2⟩ hl (Nat.le_of_ble_eq_true rfl) dX8_cellAhead_12 ⟨Nat.zero_le _, Nat.zero_le _⟩ rfl) (fun H locs h hX => ?_)
    exact x_ri C hr hlk h Ex_.rf (Option.some.inj hf) rfl dX8_cellAhead_15
  · have hf := if_t hf c4
    refine lv_iload_n C.1 C.2.1 dX8_cellAhead_4 rfl (lv_at hl 2 rfl) ?_
    refine lv_goto (tgt := 15) C.1 C.2.1 dX8_cellAhead_5 (by decide) ?_
    exact x_ri C hr hlk h Ex_.rf (Option.some.inj hf) rfl dX8_cellAhead_15
theorem c_X8_cellAhead (l : Launch) (κ : Ka_) (G : va_G) (cy : Nat → ClassId) (ad : Nat → Nat) (sz : Nat) (σ : St_) (x1 : Nat) (x2 : Int32) (x3 : Int32) (hk_x1 : kd_ σ x1 = 4) {q : Int32} (hf : f_X8_cellAhead σ x1 x2 x3 = some q) : Met l yX8_cellAhead (Cond.code yX8_cellAhead cX8_cellAhead 3 (some .int) :: wU_) { frames := 2, cells := 0, slots := 0, locals := 42 } (va_Pc [.ref (ad x1), .int x2, .int x3] (Pr_ κ G cy ad σ sz)) (Qi_ G cy ad σ σ sz q) 0 0 (va_A (wl_ cy ad σ) sz) :=
  x_met (by decide) (fun p e R s m below meth c ls hR C hr hlk hin _ K h hl => w_X8_cellAhead C K hr hlk ⟨hR.1, hR.2.1⟩ x1 x2 x3 hk_x1 hf s.heap [] ls h hl) (Nat.le_of_ble_eq_true rfl)
-- X8_firstThatCannotBe
theorem mi_X8_firstThatCannotBe : Mi_ yX8_firstThatCannotBe cX8_firstThatCannotBe 4 (some .int) 2 := ⟨co_yX8_firstThatCannotBe, in_RX8, by decide, by decide, by decide +kernel⟩
def f_X8_firstThatCannotBe_2 (fu : Nat) : Nat → St_ → Nat → Nat → Int32 → Int32 → Option (Int32 × St_)
  | 0 => fun _ _ _ _ _ => none
  | n + 1 => fun σ  v0  v1  v2  v3 => if (si_ σ v1 2) ≤ v3 then some ((-1 : Int32), σ) else (dr_ σ 6 (sr_ σ v0 7)).bind fun b2 => (f_X8_cellAhead σ v1 v3 v2).bind fun q3 => (f_X4_item σ v1 v3).bind fun q4 => (f_X6_firstWord fu σ b2 q3 q4).bind fun q5 => if q5.1 = (-1 : Int32) then some (v3, q5.2) else (f_X8_firstThatCannotBe_2 fu n) q5.2 v0 v1 v2 (v3 + (1 : Int32))
set_option maxHeartbeats 4000000 in
set_option maxRecDepth 100000 in
theorem w_X8_firstThatCannotBe_2 {p : Program} {l : Launch} {e : Env} {R : Room} {s : State} {m : MethodId} {args : Array Value} {below : List Frame} {meth : Method} {c : Code} {κ : Ka_} {G : va_G} {cy : Nat → ClassId} {ad : Nat → Nat} {sz : Nat} {σ0 : St_} (fu : Nat) (C : CallFix p m c cX8_firstThatCannotBe 4 s args wU_ RX8) (K : Kx_ κ G cy (va_A (wl_ cy ad σ0) sz) s) (hr : meth.sig.returnType = some .int) (hlk : meth.locks = false) (hR : 4 ≤ R.frames ∧ 100 ≤ R.locals) {q : Int32 × St_} : ∀ n : Nat, ∀ (σ : St_) (v0 : Nat) (v1 : Nat) (v2 : Int32) (v3 : Int32), Ex_ σ0 σ → kd_ σ v0 = 8 → kd_ σ v1 = 4 → f_X8_firstThatCannotBe_2 fu n σ v0 v1 v2 v3 = some q → ∀ (H : Heap) (locs : List Loc) (ls : Array Slot), Ht_ G cy (va_A (wl_ cy ad σ0) sz) s ad σ H locs → lv_has ls 4 [(0, .ref (ad v0)), (1, .ref (ad v1)), (2, .int v2), (3, .int v3)] → W p l e R s m args below meth c H locs 0 0 (MQ below (Qi_ G cy ad σ0 q.2 sz q.1) args s 0 0 (va_A (wl_ cy ad σ0) sz)) (F0 m 2 ls []) := by
  intro n
  induction n with
  | zero =>
    intro σ v0 v1 v2 v3 hE hk_v0 hk_v1 hf H locs ls h hl
    cases hf
  | succ n ih =>
    intro σ v0 v1 v2 v3 hE hk_v0 hk_v1 hf H locs ls h hl
    have hf : (if (si_ σ v1 2) ≤ v3 then some ((-1 : Int32), σ) else (dr_ σ 6 (sr_ σ v0 7)).bind fun b2 => (f_X8_cellAhead σ v1 v3 v2).bind fun q3 => (f_X4_item σ v1 v3).bind fun q4 => (f_X6_firstWord fu σ b2 q3 q4).bind fun q5 => if q5.1 = (-1 : Int32) then some (v3, q5.2) else (f_X8_firstThatCannotBe_2 fu n) q5.2 v0 v1 v2 (v3 + (1 : Int32))) = some q := hf
    refine lv_iload_n C.1 C.2.1 dX8_firstThatCannotBe_2 rfl (lv_at hl 3 rfl) ?_
    refine lv_aload_n C.1 C.2.1 dX8_firstThatCannotBe_3 rfl (lv_at hl 1 rfl) ?_
    refine x_getN (v := .int (si_ σ v1 2)) C K h cl_4 hk_v1 2 (by decide) nf_RX8_196 rfl dX8_firstThatCannotBe_4 ?_
    refine lv_icmp_ge (tgt := 40) C.1 C.2.1 dX8_firstThatCannotBe_7 (by decide) (fun c1 => ?_) (fun c1 => ?_)
    · have hf := if_t hf c1
      refine lv_iconst (v := (-1 : Int32)) C.1 C.2.1 dX8_firstThatCannotBe_40 (by decide) ?_
      exact x_ri C hr hlk h hE (pf_1 (Option.some.inj hf)) (pf_2 (Option.some.inj hf)) dX8_firstThatCannotBe_41
    · have hf := if_f hf c1
      refine lv_aload_n C.1 C.2.1 dX8_firstThatCannotBe_10 rfl (lv_at hl 0 rfl) ?_
      obtain ⟨b2, hb_b2, hf⟩ := ob_ hf
      obtain ⟨hq_b2, hk_b2⟩ := dr_in hb_b2
      refine x_get (v := .ref (ad b2)) C K h cl_8 hk_v0 7 (by decide) fl_RX8_49 (hv_r (o := sr_ σ v0 7) rfl hq_b2) dX8_firstThatCannotBe_11 ?_
      refine lv_aload_n C.1 C.2.1 dX8_firstThatCannotBe_14 rfl (lv_at hl 1 rfl) ?_
      refine lv_iload_n C.1 C.2.1 dX8_firstThatCannotBe_15 rfl (lv_at hl 3 rfl) ?_
      refine lv_iload_n C.1 C.2.1 dX8_firstThatCannotBe_16 rfl (lv_at hl 2 rfl) ?_
      obtain ⟨q3, hq_q3, hf⟩ := ob_ hf
      refine x_ai K h (x_S C K h [.ref (ad v1), .int v3, .int v2] (c_X8_cellAhead l κ G cy ad H.size σ v1 v3 v2 hk_v1 hq_q3) mi_X8_cellAhead rfl st_yX8_cellAhead ml_RX8_288 ⟨rfl, rfl, Nat.le_trans (Nat.le_of_ble_eq_true rfl) hR.1, Nat.le_trans (Nat.le_of_ble_eq_true rfl) hR.2⟩ hl (Nat.le_of_ble_eq_true rfl) dX8_firstThatCannotBe_17 ⟨Nat.zero_le _, Nat.zero_le _⟩ rfl) (fun H locs h hX => ?_)
      refine lv_aload_n C.1 C.2.1 dX8_firstThatCannotBe_20 rfl (lv_at hl 1 rfl) ?_
      refine lv_iload_n C.1 C.2.1 dX8_firstThatCannotBe_21 rfl (lv_at hl 3 rfl) ?_
      obtain ⟨q4, hq_q4, hf⟩ := ob_ hf
      refine x_ai K h (x_VN C K h [.int v3] (c_X4_item l κ G cy ad H.size σ v1 v3 hk_v1 hq_q4) mi_X4_item rfl im_yX4_item se_yX4_item nm_RX8_199 cl_4 hk_v1 ⟨rfl, rfl, Nat.le_trans (Nat.le_of_ble_eq_true rfl) hR.1, Nat.le_trans (Nat.le_of_ble_eq_true rfl) hR.2⟩ hl (Nat.le_of_ble_eq_true rfl) dX8_firstThatCannotBe_22 ⟨Nat.zero_le _, Nat.zero_le _⟩ rfl) (fun H locs h hX => ?_)
      obtain ⟨q5, hq_q5, hf⟩ := ob_ hf
      refine x_ai K h (x_VN C K h [.int q3, .int q4] (c_X6_firstWord fu l κ G cy ad H.size σ b2 q3 q4 hk_b2 hq_q5) mi_X6_firstWord rfl im_yX6_firstWord se_yX6_firstWord nm_RX8_292 cl_6 hk_b2 ⟨rfl, rfl, Nat.le_trans (Nat.le_of_ble_eq_true rfl) hR.1, Nat.le_trans (Nat.le_of_ble_eq_true rfl) hR.2⟩ hl (Nat.le_of_ble_eq_true rfl) dX8_firstThatCannotBe_25 ⟨Nat.zero_le _, Nat.zero_le _⟩ rfl) (fun H locs h hX => ?_)
      have hE := hE.trans hX
      have hk_v0 := hX.k hk_v0 (by decide)
      have hk_v1 := hX.k hk_v1 (by decide)
      refine lv_iconst (v := (-1 : Int32)) C.1 C.2.1 dX8_firstThatCannotBe_28 (by decide) ?_
      refine lv_icmp_ne (tgt := 34) C.1 C.2.1 dX8_firstThatCannotBe_29 (by decide) (fun c6 => ?_) (fun c6 => ?_)
      · have hf := if_f hf c6
        refine lv_iinc (v := v3 + (1 : Int32)) (lv' := [(3, .int (v3 + (1 : Int32))), (0, .ref (ad v0)), (1, .ref (ad v1)), (2, .int v2)]) C.1 C.2.1 dX8_firstThatCannotBe_34 hl (k := 3) rfl rfl (by decide) rfl (fun ls hl => ?_)
        refine lv_goto (tgt := 2) C.1 C.2.1 dX8_firstThatCannotBe_37 (by decide) ?_
        exact ih q5.2 v0 v1 v2 (v3 + (1 : Int32)) hE hk_v0 hk_v1 hf _ _ _ h (lv_sub hl [1, 2, 3, 0] rfl)
      · have hf := if_t hf c6
        refine lv_iload_n C.1 C.2.1 dX8_firstThatCannotBe_32 rfl (lv_at hl 3 rfl) ?_
        exact x_ri C hr hlk h hE (pf_1 (Option.some.inj hf)) (pf_2 (Option.some.inj hf)) dX8_firstThatCannotBe_33
def f_X8_firstThatCannotBe (fu : Nat) (σ : St_) (a0 : Nat) (x1 : Nat) (x2 : Int32) : Option (Int32 × St_) := f_X8_firstThatCannotBe_2 fu fu σ a0 x1 x2 (0 : Int32)
set_option maxHeartbeats 4000000 in
set_option maxRecDepth 100000 in
theorem w_X8_firstThatCannotBe {p : Program} {l : Launch} {e : Env} {R : Room} {s : State} {m : MethodId} {args : Array Value} {below : List Frame} {meth : Method} {c : Code} {κ : Ka_} {G : va_G} {cy : Nat → ClassId} {ad : Nat → Nat} {sz : Nat} {σ0 : St_} (fu : Nat) (C : CallFix p m c cX8_firstThatCannotBe 4 s args wU_ RX8) (K : Kx_ κ G cy (va_A (wl_ cy ad σ0) sz) s) (hr : meth.sig.returnType = some .int) (hlk : meth.locks = false) (hR : 4 ≤ R.frames ∧ 100 ≤ R.locals) {q : Int32 × St_} : ∀ (σ : St_) (a0 : Nat) (x1 : Nat) (x2 : Int32), Ex_ σ0 σ → kd_ σ a0 = 8 → kd_ σ x1 = 4 → f_X8_firstThatCannotBe fu σ a0 x1 x2 = some q → ∀ (H : Heap) (locs : List Loc) (ls : Array Slot), Ht_ G cy (va_A (wl_ cy ad σ0) sz) s ad σ H locs → lv_has ls 4 [(0, .ref (ad a0)), (1, .ref (ad x1)), (2, .int x2)] → W p l e R s m args below meth c H locs 0 0 (MQ below (Qi_ G cy ad σ0 q.2 sz q.1) args s 0 0 (va_A (wl_ cy ad σ0) sz)) (F0 m 0 ls []) := by
  intro σ a0 x1 x2 hE hk_a0 hk_x1 hf H locs ls h hl
  have hf : (f_X8_firstThatCannotBe_2 fu fu σ a0 x1 x2 (0 : Int32)) = some q := hf
  refine lv_iconst (v := (0 : Int32)) C.1 C.2.1 dX8_firstThatCannotBe_0 (by decide) ?_
  refine lv_istore_n (i := 3) (lv' := [(3, .int (0 : Int32)), (0, .ref (ad a0)), (1, .ref (ad x1)), (2, .int x2)]) C.1 C.2.1 dX8_firstThatCannotBe_1 rfl hl (by decide) rfl (fun ls hl => ?_)
  exact w_X8_firstThatCannotBe_2 fu C K hr hlk hR fu σ a0 x1 x2 (0 : Int32) hE hk_a0 hk_x1 hf _ _ _ h (lv_sub hl [1, 2, 3, 0] rfl)
theorem c_X8_firstThatCannotBe (fu : Nat) (l : Launch) (κ : Ka_) (G : va_G) (cy : Nat → ClassId) (ad : Nat → Nat) (sz : Nat) (σ : St_) (a0 : Nat) (x1 : Nat) (x2 : Int32) (hk_a0 : kd_ σ a0 = 8) (hk_x1 : kd_ σ x1 = 4) {q : Int32 × St_} (hf : f_X8_firstThatCannotBe fu σ a0 x1 x2 = some q) : Met l yX8_firstThatCannotBe (Cond.code yX8_firstThatCannotBe cX8_firstThatCannotBe 4 (some .int) :: wU_) { frames := 4, cells := 0, slots := 0, locals := 100 } (va_Pc [.ref (ad a0), .ref (ad x1), .int x2] (Pr_ κ G cy ad σ sz)) (Qi_ G cy ad σ q.2 sz q.1) 0 0 (va_A (wl_ cy ad σ) sz) :=
  x_met (by decide) (fun p e R s m below meth c ls hR C hr hlk hin _ K h hl => w_X8_firstThatCannotBe fu C K hr hlk ⟨hR.1, hR.2.1⟩ σ a0 x1 x2 Ex_.rf hk_a0 hk_x1 hf s.heap [] ls h hl) (Nat.le_of_ble_eq_true rfl)
-- X8_firstRow
theorem mi_X8_firstRow : Mi_ yX8_firstRow cX8_firstRow 5 (some .int) 2 := ⟨co_yX8_firstRow, in_RX8, by decide, by decide, by decide +kernel⟩
def f_X8_firstRow_28 (fu : Nat) : Nat → St_ → Nat → Nat → Int32 → Int32 → Int32 → Option (Int32 × St_)
  | 0 => fun _ _ _ _ _ _ => none
  | n + 1 => fun σ  v0  v1  v2  v3  v4 => if (si_ σ v1 2) ≤ v4 then some (v3, σ) else (dr_ σ 6 (sr_ σ v0 7)).bind fun b2 => (f_X8_cellAhead σ v1 v4 v2).bind fun q3 => (f_X4_item σ v1 v4).bind fun q4 => (f_X6_firstWord fu σ b2 q3 q4).bind fun q5 => (f_X8_firstRow_28 fu n) q5.2 v0 v1 v2 (((v3 * (10 : Int32)) + q5.1) + (1 : Int32)) (v4 + (1 : Int32))
set_option maxHeartbeats 4000000 in
set_option maxRecDepth 100000 in
theorem w_X8_firstRow_28 {p : Program} {l : Launch} {e : Env} {R : Room} {s : State} {m : MethodId} {args : Array Value} {below : List Frame} {meth : Method} {c : Code} {κ : Ka_} {G : va_G} {cy : Nat → ClassId} {ad : Nat → Nat} {sz : Nat} {σ0 : St_} (fu : Nat) (C : CallFix p m c cX8_firstRow 5 s args wU_ RX8) (K : Kx_ κ G cy (va_A (wl_ cy ad σ0) sz) s) (hr : meth.sig.returnType = some .int) (hlk : meth.locks = false) (hR : 5 ≤ R.frames ∧ 123 ≤ R.locals) {q : Int32 × St_} : ∀ n : Nat, ∀ (σ : St_) (v0 : Nat) (v1 : Nat) (v2 : Int32) (v3 : Int32) (v4 : Int32), Ex_ σ0 σ → kd_ σ v0 = 8 → kd_ σ v1 = 4 → f_X8_firstRow_28 fu n σ v0 v1 v2 v3 v4 = some q → ∀ (H : Heap) (locs : List Loc) (ls : Array Slot), Ht_ G cy (va_A (wl_ cy ad σ0) sz) s ad σ H locs → lv_has ls 5 [(0, .ref (ad v0)), (1, .ref (ad v1)), (2, .int v2), (3, .int v3), (4, .int v4)] → W p l e R s m args below meth c H locs 0 0 (MQ below (Qi_ G cy ad σ0 q.2 sz q.1) args s 0 0 (va_A (wl_ cy ad σ0) sz)) (F0 m 28 ls []) := by
  intro n
  induction n with
  | zero =>
    intro σ v0 v1 v2 v3 v4 hE hk_v0 hk_v1 hf H locs ls h hl
    cases hf
  | succ n ih =>
    intro σ v0 v1 v2 v3 v4 hE hk_v0 hk_v1 hf H locs ls h hl
    have hf : (if (si_ σ v1 2) ≤ v4 then some (v3, σ) else (dr_ σ 6 (sr_ σ v0 7)).bind fun b2 => (f_X8_cellAhead σ v1 v4 v2).bind fun q3 => (f_X4_item σ v1 v4).bind fun q4 => (f_X6_firstWord fu σ b2 q3 q4).bind fun q5 => (f_X8_firstRow_28 fu n) q5.2 v0 v1 v2 (((v3 * (10 : Int32)) + q5.1) + (1 : Int32)) (v4 + (1 : Int32))) = some q := hf
    refine lv_iload C.1 C.2.1 dX8_firstRow_28 (lv_at hl 4 rfl) ?_
    refine lv_aload_n C.1 C.2.1 dX8_firstRow_30 rfl (lv_at hl 1 rfl) ?_
    refine x_getN (v := .int (si_ σ v1 2)) C K h cl_4 hk_v1 2 (by decide) nf_RX8_196 rfl dX8_firstRow_31 ?_
    refine lv_icmp_ge (tgt := 71) C.1 C.2.1 dX8_firstRow_34 (by decide) (fun c1 => ?_) (fun c1 => ?_)
    · have hf := if_t hf c1
      refine lv_iload_n C.1 C.2.1 dX8_firstRow_71 rfl (lv_at hl 3 rfl) ?_
      exact x_ri C hr hlk h hE (pf_1 (Option.some.inj hf)) (pf_2 (Option.some.inj hf)) dX8_firstRow_72
    · have hf := if_f hf c1
      refine lv_iload_n C.1 C.2.1 dX8_firstRow_37 rfl (lv_at hl 3 rfl) ?_
      refine lv_bipush (v := (10 : Int32)) C.1 C.2.1 dX8_firstRow_38 (by decide) ?_
      refine lv_imul C.1 C.2.1 dX8_firstRow_40 ?_
      refine lv_aload_n C.1 C.2.1 dX8_firstRow_41 rfl (lv_at hl 0 rfl) ?_
      obtain ⟨b2, hb_b2, hf⟩ := ob_ hf
      obtain ⟨hq_b2, hk_b2⟩ := dr_in hb_b2
      refine x_get (v := .ref (ad b2)) C K h cl_8 hk_v0 7 (by decide) fl_RX8_49 (hv_r (o := sr_ σ v0 7) rfl hq_b2) dX8_firstRow_42 ?_
      refine lv_aload_n C.1 C.2.1 dX8_firstRow_45 rfl (lv_at hl 1 rfl) ?_
      refine lv_iload C.1 C.2.1 dX8_firstRow_46 (lv_at hl 4 rfl) ?_
      refine lv_iload_n C.1 C.2.1 dX8_firstRow_48 rfl (lv_at hl 2 rfl) ?_
      obtain ⟨q3, hq_q3, hf⟩ := ob_ hf
      refine x_ai K h (x_S C K h [.ref (ad v1), .int v4, .int v2] (c_X8_cellAhead l κ G cy ad H.size σ v1 v4 v2 hk_v1 hq_q3) mi_X8_cellAhead rfl st_yX8_cellAhead ml_RX8_288 ⟨rfl, rfl, Nat.le_trans (Nat.le_of_ble_eq_true rfl) hR.1, Nat.le_trans (Nat.le_of_ble_eq_true rfl) hR.2⟩ hl (Nat.le_of_ble_eq_true rfl) dX8_firstRow_49 ⟨Nat.zero_le _, Nat.zero_le _⟩ rfl) (fun H locs h hX => ?_)
      refine lv_aload_n C.1 C.2.1 dX8_firstRow_52 rfl (lv_at hl 1 rfl) ?_
      refine lv_iload C.1 C.2.1 dX8_firstRow_53 (lv_at hl 4 rfl) ?_
      obtain ⟨q4, hq_q4, hf⟩ := ob_ hf
      refine x_ai K h (x_VN C K h [.int v4] (c_X4_item l κ G cy ad H.size σ v1 v4 hk_v1 hq_q4) mi_X4_item rfl im_yX4_item se_yX4_item nm_RX8_199 cl_4 hk_v1 ⟨rfl, rfl, Nat.le_trans (Nat.le_of_ble_eq_true rfl) hR.1, Nat.le_trans (Nat.le_of_ble_eq_true rfl) hR.2⟩ hl (Nat.le_of_ble_eq_true rfl) dX8_firstRow_55 ⟨Nat.zero_le _, Nat.zero_le _⟩ rfl) (fun H locs h hX => ?_)
      obtain ⟨q5, hq_q5, hf⟩ := ob_ hf
      refine x_ai K h (x_VN C K h [.int q3, .int q4] (c_X6_firstWord fu l κ G cy ad H.size σ b2 q3 q4 hk_b2 hq_q5) mi_X6_firstWord rfl im_yX6_firstWord se_yX6_firstWord nm_RX8_292 cl_6 hk_b2 ⟨rfl, rfl, Nat.le_trans (Nat.le_of_ble_eq_true rfl) hR.1, Nat.le_trans (Nat.le_of_ble_eq_true rfl) hR.2⟩ hl (Nat.le_of_ble_eq_true rfl) dX8_firstRow_58 ⟨Nat.zero_le _, Nat.zero_le _⟩ rfl) (fun H locs h hX => ?_)
      have hE := hE.trans hX
      have hk_v0 := hX.k hk_v0 (by decide)
      have hk_v1 := hX.k hk_v1 (by decide)
      refine lv_iadd C.1 C.2.1 dX8_firstRow_61 ?_
      refine lv_iconst (v := (1 : Int32)) C.1 C.2.1 dX8_firstRow_62 (by decide) ?_
      refine lv_iadd C.1 C.2.1 dX8_firstRow_63 ?_
      refine lv_istore_n (i := 3) (lv' := [(3, .int (((v3 * (10 : Int32)) + q5.1) + (1 : Int32))), (0, .ref (ad v0)), (1, .ref (ad v1)), (2, .int v2), (4, .int v4)]) C.1 C.2.1 dX8_firstRow_64 rfl hl (by decide) rfl (fun ls hl => ?_)
      refine lv_iinc (v := v4 + (1 : Int32)) (lv' := [(4, .int (v4 + (1 : Int32))), (3, .int (((v3 * (10 : Int32)) + q5.1) + (1 : Int32))), (0, .ref (ad v0)), (1, .ref (ad v1)), (2, .int v2)]) C.1 C.2.1 dX8_firstRow_65 hl (k := 4) rfl rfl (by decide) rfl (fun ls hl => ?_)
      refine lv_goto (tgt := 28) C.1 C.2.1 dX8_firstRow_68 (by decide) ?_
      exact ih q5.2 v0 v1 v2 (((v3 * (10 : Int32)) + q5.1) + (1 : Int32)) (v4 + (1 : Int32)) hE hk_v0 hk_v1 hf _ _ _ h (lv_sub hl [2, 3, 4, 1, 0] rfl)
def f_X8_firstRow (fu : Nat) (σ : St_) (a0 : Nat) (x1 : Nat) (x2 : Int32) : Option (Int32 × St_) := (f_X8_firstThatCannotBe fu σ a0 x1 x2).bind fun q3 => if q3.1 = (-1 : Int32) then if (si_ q3.2 x1 2) ≤ (9 : Int32) then f_X8_firstRow_28 fu fu q3.2 a0 x1 x2 (0 : Int32) (0 : Int32) else some ((-1 : Int32), q3.2) else some ((0 : Int32), q3.2)
set_option maxHeartbeats 4000000 in
set_option maxRecDepth 100000 in
theorem w_X8_firstRow {p : Program} {l : Launch} {e : Env} {R : Room} {s : State} {m : MethodId} {args : Array Value} {below : List Frame} {meth : Method} {c : Code} {κ : Ka_} {G : va_G} {cy : Nat → ClassId} {ad : Nat → Nat} {sz : Nat} {σ0 : St_} (fu : Nat) (C : CallFix p m c cX8_firstRow 5 s args wU_ RX8) (K : Kx_ κ G cy (va_A (wl_ cy ad σ0) sz) s) (hr : meth.sig.returnType = some .int) (hlk : meth.locks = false) (hR : 5 ≤ R.frames ∧ 123 ≤ R.locals) {q : Int32 × St_} : ∀ (σ : St_) (a0 : Nat) (x1 : Nat) (x2 : Int32), Ex_ σ0 σ → kd_ σ a0 = 8 → kd_ σ x1 = 4 → f_X8_firstRow fu σ a0 x1 x2 = some q → ∀ (H : Heap) (locs : List Loc) (ls : Array Slot), Ht_ G cy (va_A (wl_ cy ad σ0) sz) s ad σ H locs → lv_has ls 5 [(0, .ref (ad a0)), (1, .ref (ad x1)), (2, .int x2)] → W p l e R s m args below meth c H locs 0 0 (MQ below (Qi_ G cy ad σ0 q.2 sz q.1) args s 0 0 (va_A (wl_ cy ad σ0) sz)) (F0 m 0 ls []) := by
  intro σ a0 x1 x2 hE hk_a0 hk_x1 hf H locs ls h hl
  have hf : ((f_X8_firstThatCannotBe fu σ a0 x1 x2).bind fun q3 => if q3.1 = (-1 : Int32) then if (si_ q3.2 x1 2) ≤ (9 : Int32) then f_X8_firstRow_28 fu fu q3.2 a0 x1 x2 (0 : Int32) (0 : Int32) else some ((-1 : Int32), q3.2) else some ((0 : Int32), q3.2)) = some q := hf
  refine lv_aload_n C.1 C.2.1 dX8_firstRow_0 rfl (lv_at hl 0 rfl) ?_
  refine lv_aload_n C.1 C.2.1 dX8_firstRow_1 rfl (lv_at hl 1 rfl) ?_
  refine lv_iload_n C.1 C.2.1 dX8_firstRow_2 rfl (lv_at hl 2 rfl) ?_
  obtain ⟨q3, hq_q3, hf⟩ := ob_ hf
  refine x_ai K h (x_V C K h [.ref (ad x1), .int x2] (c_X8_firstThatCannotBe fu l κ G cy ad H.size σ a0 x1 x2 hk_a0 hk_x1 hq_q3) mi_X8_firstThatCannotBe rfl im_yX8_firstThatCannotBe se_yX8_firstThatCannotBe ml_RX8_254 cl_8 hk_a0 ⟨rfl, rfl, Nat.le_trans (Nat.le_of_ble_eq_true rfl) hR.1, Nat.le_trans (Nat.le_of_ble_eq_true rfl) hR.2⟩ hl (Nat.le_of_ble_eq_true rfl) dX8_firstRow_3 ⟨Nat.zero_le _, Nat.zero_le _⟩ rfl) (fun H locs h hX => ?_)
  have hE := hE.trans hX
  have hk_a0 := hX.k hk_a0 (by decide)
  have hk_x1 := hX.k hk_x1 (by decide)
  refine lv_iconst (v := (-1 : Int32)) C.1 C.2.1 dX8_firstRow_6 (by decide) ?_
  refine lv_icmp_eq (tgt := 12) C.1 C.2.1 dX8_firstRow_7 (by decide) (fun c4 => ?_) (fun c4 => ?_)
  · have hf := if_t hf c4
    refine lv_aload_n C.1 C.2.1 dX8_firstRow_12 rfl (lv_at hl 1 rfl) ?_
    refine x_getN (v := .int (si_ q3.2 x1 2)) C K h cl_4 hk_x1 2 (by decide) nf_RX8_196 rfl dX8_firstRow_13 ?_
    refine lv_bipush (v := (9 : Int32)) C.1 C.2.1 dX8_firstRow_16 (by decide) ?_
    refine lv_icmp_le (tgt := 23) C.1 C.2.1 dX8_firstRow_18 (by decide) (fun c5 => ?_) (fun c5 => ?_)
    · have hf := if_t hf c5
      refine lv_iconst (v := (0 : Int32)) C.1 C.2.1 dX8_firstRow_23 (by decide) ?_
      refine lv_istore_n (i := 3) (lv' := [(3, .int (0 : Int32)), (0, .ref (ad a0)), (1, .ref (ad x1)), (2, .int x2)]) C.1 C.2.1 dX8_firstRow_24 rfl hl (by decide) rfl (fun ls hl => ?_)
      refine lv_iconst (v := (0 : Int32)) C.1 C.2.1 dX8_firstRow_25 (by decide) ?_
      refine lv_istore (i := 4) (lv' := [(4, .int (0 : Int32)), (3, .int (0 : Int32)), (0, .ref (ad a0)), (1, .ref (ad x1)), (2, .int x2)]) C.1 C.2.1 dX8_firstRow_26 hl (by decide) rfl (fun ls hl => ?_)
      exact w_X8_firstRow_28 fu C K hr hlk hR fu q3.2 a0 x1 x2 (0 : Int32) (0 : Int32) hE hk_a0 hk_x1 hf _ _ _ h (lv_sub hl [2, 3, 4, 1, 0] rfl)
    · have hf := if_f hf c5
      refine lv_iconst (v := (-1 : Int32)) C.1 C.2.1 dX8_firstRow_21 (by decide) ?_
      exact x_ri C hr hlk h hE (pf_1 (Option.some.inj hf)) (pf_2 (Option.some.inj hf)) dX8_firstRow_22
  · have hf := if_f hf c4
    refine lv_iconst (v := (0 : Int32)) C.1 C.2.1 dX8_firstRow_10 (by decide) ?_
    exact x_ri C hr hlk h hE (pf_1 (Option.some.inj hf)) (pf_2 (Option.some.inj hf)) dX8_firstRow_11
theorem c_X8_firstRow (fu : Nat) (l : Launch) (κ : Ka_) (G : va_G) (cy : Nat → ClassId) (ad : Nat → Nat) (sz : Nat) (σ : St_) (a0 : Nat) (x1 : Nat) (x2 : Int32) (hk_a0 : kd_ σ a0 = 8) (hk_x1 : kd_ σ x1 = 4) {q : Int32 × St_} (hf : f_X8_firstRow fu σ a0 x1 x2 = some q) : Met l yX8_firstRow (Cond.code yX8_firstRow cX8_firstRow 5 (some .int) :: wU_) { frames := 5, cells := 0, slots := 0, locals := 123 } (va_Pc [.ref (ad a0), .ref (ad x1), .int x2] (Pr_ κ G cy ad σ sz)) (Qi_ G cy ad σ q.2 sz q.1) 0 0 (va_A (wl_ cy ad σ) sz) :=
  x_met (by decide) (fun p e R s m below meth c ls hR C hr hlk hin _ K h hl => w_X8_firstRow fu C K hr hlk ⟨hR.1, hR.2.1⟩ σ a0 x1 x2 Ex_.rf hk_a0 hk_x1 hf s.heap [] ls h hl) (Nat.le_of_ble_eq_true rfl)
-- X8_sureWords
theorem mi_X8_sureWords : Mi_ yX8_sureWords cX8_sureWords 5 (some .int) 2 := ⟨co_yX8_sureWords, in_RX8, by decide, by decide, by decide +kernel⟩
def f_X8_sureWords_5 (fu : Nat) : Nat → St_ → Nat → Nat → Int32 → Int32 → Int32 → Option (Int32 × St_)
  | 0 => fun _ _ _ _ _ _ => none
  | n + 1 => fun σ  v0  v1  v2  v3  v4 => if (si_ σ v1 2) ≤ v4 then some (v3, σ) else (dr_ σ 6 (sr_ σ v0 7)).bind fun b2 => (f_X8_cellAhead σ v1 v4 v2).bind fun q3 => (f_X4_item σ v1 v4).bind fun q4 => (f_X6_wordCount fu σ b2 q3 q4).bind fun q5 => if q5.1 = (1 : Int32) then (f_X8_sureWords_5 fu n) q5.2 v0 v1 v2 (v3 + (1 : Int32)) (v4 + (1 : Int32)) else (f_X8_sureWords_5 fu n) q5.2 v0 v1 v2 (v3 + (0 : Int32)) (v4 + (1 : Int32))
set_option maxHeartbeats 4000000 in
set_option maxRecDepth 100000 in
theorem w_X8_sureWords_5 {p : Program} {l : Launch} {e : Env} {R : Room} {s : State} {m : MethodId} {args : Array Value} {below : List Frame} {meth : Method} {c : Code} {κ : Ka_} {G : va_G} {cy : Nat → ClassId} {ad : Nat → Nat} {sz : Nat} {σ0 : St_} (fu : Nat) (C : CallFix p m c cX8_sureWords 5 s args wU_ RX8) (K : Kx_ κ G cy (va_A (wl_ cy ad σ0) sz) s) (hr : meth.sig.returnType = some .int) (hlk : meth.locks = false) (hR : 4 ≤ R.frames ∧ 101 ≤ R.locals) {q : Int32 × St_} : ∀ n : Nat, ∀ (σ : St_) (v0 : Nat) (v1 : Nat) (v2 : Int32) (v3 : Int32) (v4 : Int32), Ex_ σ0 σ → kd_ σ v0 = 8 → kd_ σ v1 = 4 → f_X8_sureWords_5 fu n σ v0 v1 v2 v3 v4 = some q → ∀ (H : Heap) (locs : List Loc) (ls : Array Slot), Ht_ G cy (va_A (wl_ cy ad σ0) sz) s ad σ H locs → lv_has ls 5 [(0, .ref (ad v0)), (1, .ref (ad v1)), (2, .int v2), (3, .int v3), (4, .int v4)] → W p l e R s m args below meth c H locs 0 0 (MQ below (Qi_ G cy ad σ0 q.2 sz q.1) args s 0 0 (va_A (wl_ cy ad σ0) sz)) (F0 m 5 ls []) := by
  intro n
  induction n with
  | zero =>
    intro σ v0 v1 v2 v3 v4 hE hk_v0 hk_v1 hf H locs ls h hl
    cases hf
  | succ n ih =>
    intro σ v0 v1 v2 v3 v4 hE hk_v0 hk_v1 hf H locs ls h hl
    have hf : (if (si_ σ v1 2) ≤ v4 then some (v3, σ) else (dr_ σ 6 (sr_ σ v0 7)).bind fun b2 => (f_X8_cellAhead σ v1 v4 v2).bind fun q3 => (f_X4_item σ v1 v4).bind fun q4 => (f_X6_wordCount fu σ b2 q3 q4).bind fun q5 => if q5.1 = (1 : Int32) then (f_X8_sureWords_5 fu n) q5.2 v0 v1 v2 (v3 + (1 : Int32)) (v4 + (1 : Int32)) else (f_X8_sureWords_5 fu n) q5.2 v0 v1 v2 (v3 + (0 : Int32)) (v4 + (1 : Int32))) = some q := hf
    refine lv_iload C.1 C.2.1 dX8_sureWords_5 (lv_at hl 4 rfl) ?_
    refine lv_aload_n C.1 C.2.1 dX8_sureWords_7 rfl (lv_at hl 1 rfl) ?_
    refine x_getN (v := .int (si_ σ v1 2)) C K h cl_4 hk_v1 2 (by decide) nf_RX8_196 rfl dX8_sureWords_8 ?_
    refine lv_icmp_ge (tgt := 52) C.1 C.2.1 dX8_sureWords_11 (by decide) (fun c1 => ?_) (fun c1 => ?_)
    · have hf := if_t hf c1
      refine lv_iload_n C.1 C.2.1 dX8_sureWords_52 rfl (lv_at hl 3 rfl) ?_
      exact x_ri C hr hlk h hE (pf_1 (Option.some.inj hf)) (pf_2 (Option.some.inj hf)) dX8_sureWords_53
    · have hf := if_f hf c1
      refine lv_iload_n C.1 C.2.1 dX8_sureWords_14 rfl (lv_at hl 3 rfl) ?_
      refine lv_aload_n C.1 C.2.1 dX8_sureWords_15 rfl (lv_at hl 0 rfl) ?_
      obtain ⟨b2, hb_b2, hf⟩ := ob_ hf
      obtain ⟨hq_b2, hk_b2⟩ := dr_in hb_b2
      refine x_get (v := .ref (ad b2)) C K h cl_8 hk_v0 7 (by decide) fl_RX8_49 (hv_r (o := sr_ σ v0 7) rfl hq_b2) dX8_sureWords_16 ?_
      refine lv_aload_n C.1 C.2.1 dX8_sureWords_19 rfl (lv_at hl 1 rfl) ?_
      refine lv_iload C.1 C.2.1 dX8_sureWords_20 (lv_at hl 4 rfl) ?_
      refine lv_iload_n C.1 C.2.1 dX8_sureWords_22 rfl (lv_at hl 2 rfl) ?_
      obtain ⟨q3, hq_q3, hf⟩ := ob_ hf
      refine x_ai K h (x_S C K h [.ref (ad v1), .int v4, .int v2] (c_X8_cellAhead l κ G cy ad H.size σ v1 v4 v2 hk_v1 hq_q3) mi_X8_cellAhead rfl st_yX8_cellAhead ml_RX8_288 ⟨rfl, rfl, Nat.le_trans (Nat.le_of_ble_eq_true rfl) hR.1, Nat.le_trans (Nat.le_of_ble_eq_true rfl) hR.2⟩ hl (Nat.le_of_ble_eq_true rfl) dX8_sureWords_23 ⟨Nat.zero_le _, Nat.zero_le _⟩ rfl) (fun H locs h hX => ?_)
      refine lv_aload_n C.1 C.2.1 dX8_sureWords_26 rfl (lv_at hl 1 rfl) ?_
      refine lv_iload C.1 C.2.1 dX8_sureWords_27 (lv_at hl 4 rfl) ?_
      obtain ⟨q4, hq_q4, hf⟩ := ob_ hf
      refine x_ai K h (x_VN C K h [.int v4] (c_X4_item l κ G cy ad H.size σ v1 v4 hk_v1 hq_q4) mi_X4_item rfl im_yX4_item se_yX4_item nm_RX8_199 cl_4 hk_v1 ⟨rfl, rfl, Nat.le_trans (Nat.le_of_ble_eq_true rfl) hR.1, Nat.le_trans (Nat.le_of_ble_eq_true rfl) hR.2⟩ hl (Nat.le_of_ble_eq_true rfl) dX8_sureWords_29 ⟨Nat.zero_le _, Nat.zero_le _⟩ rfl) (fun H locs h hX => ?_)
      obtain ⟨q5, hq_q5, hf⟩ := ob_ hf
      refine x_ai K h (x_VN C K h [.int q3, .int q4] (c_X6_wordCount fu l κ G cy ad H.size σ b2 q3 q4 hk_b2 hq_q5) mi_X6_wordCount rfl im_yX6_wordCount se_yX6_wordCount nm_RX8_295 cl_6 hk_b2 ⟨rfl, rfl, Nat.le_trans (Nat.le_of_ble_eq_true rfl) hR.1, Nat.le_trans (Nat.le_of_ble_eq_true rfl) hR.2⟩ hl (Nat.le_of_ble_eq_true rfl) dX8_sureWords_32 ⟨Nat.zero_le _, Nat.zero_le _⟩ rfl) (fun H locs h hX => ?_)
      have hE := hE.trans hX
      have hk_v0 := hX.k hk_v0 (by decide)
      have hk_v1 := hX.k hk_v1 (by decide)
      refine lv_iconst (v := (1 : Int32)) C.1 C.2.1 dX8_sureWords_35 (by decide) ?_
      refine lv_icmp_ne (tgt := 43) C.1 C.2.1 dX8_sureWords_36 (by decide) (fun c6 => ?_) (fun c6 => ?_)
      · have hf := if_f hf c6
        refine lv_iconst (v := (0 : Int32)) C.1 C.2.1 dX8_sureWords_43 (by decide) ?_
        refine lv_iadd C.1 C.2.1 dX8_sureWords_44 ?_
        refine lv_istore_n (i := 3) (lv' := [(3, .int (v3 + (0 : Int32))), (0, .ref (ad v0)), (1, .ref (ad v1)), (2, .int v2), (4, .int v4)]) C.1 C.2.1 dX8_sureWords_45 rfl hl (by decide) rfl (fun ls hl => ?_)
        refine lv_iinc (v := v4 + (1 : Int32)) (lv' := [(4, .int (v4 + (1 : Int32))), (3, .int (v3 + (0 : Int32))), (0, .ref (ad v0)), (1, .ref (ad v1)), (2, .int v2)]) C.1 C.2.1 dX8_sureWords_46 hl (k := 4) rfl rfl (by decide) rfl (fun ls hl => ?_)
        refine lv_goto (tgt := 5) C.1 C.2.1 dX8_sureWords_49 (by decide) ?_
        exact ih q5.2 v0 v1 v2 (v3 + (0 : Int32)) (v4 + (1 : Int32)) hE hk_v0 hk_v1 hf _ _ _ h (lv_sub hl [2, 3, 4, 1, 0] rfl)
      · have hf := if_t hf c6
        refine lv_iconst (v := (1 : Int32)) C.1 C.2.1 dX8_sureWords_39 (by decide) ?_
        refine lv_goto (tgt := 44) C.1 C.2.1 dX8_sureWords_40 (by decide) ?_
        refine lv_iadd C.1 C.2.1 dX8_sureWords_44 ?_
        refine lv_istore_n (i := 3) (lv' := [(3, .int (v3 + (1 : Int32))), (0, .ref (ad v0)), (1, .ref (ad v1)), (2, .int v2), (4, .int v4)]) C.1 C.2.1 dX8_sureWords_45 rfl hl (by decide) rfl (fun ls hl => ?_)
        refine lv_iinc (v := v4 + (1 : Int32)) (lv' := [(4, .int (v4 + (1 : Int32))), (3, .int (v3 + (1 : Int32))), (0, .ref (ad v0)), (1, .ref (ad v1)), (2, .int v2)]) C.1 C.2.1 dX8_sureWords_46 hl (k := 4) rfl rfl (by decide) rfl (fun ls hl => ?_)
        refine lv_goto (tgt := 5) C.1 C.2.1 dX8_sureWords_49 (by decide) ?_
        exact ih q5.2 v0 v1 v2 (v3 + (1 : Int32)) (v4 + (1 : Int32)) hE hk_v0 hk_v1 hf _ _ _ h (lv_sub hl [2, 3, 4, 1, 0] rfl)
def f_X8_sureWords (fu : Nat) (σ : St_) (a0 : Nat) (x1 : Nat) (x2 : Int32) : Option (Int32 × St_) := f_X8_sureWords_5 fu fu σ a0 x1 x2 (0 : Int32) (0 : Int32)
set_option maxHeartbeats 4000000 in
set_option maxRecDepth 100000 in
theorem w_X8_sureWords {p : Program} {l : Launch} {e : Env} {R : Room} {s : State} {m : MethodId} {args : Array Value} {below : List Frame} {meth : Method} {c : Code} {κ : Ka_} {G : va_G} {cy : Nat → ClassId} {ad : Nat → Nat} {sz : Nat} {σ0 : St_} (fu : Nat) (C : CallFix p m c cX8_sureWords 5 s args wU_ RX8) (K : Kx_ κ G cy (va_A (wl_ cy ad σ0) sz) s) (hr : meth.sig.returnType = some .int) (hlk : meth.locks = false) (hR : 4 ≤ R.frames ∧ 101 ≤ R.locals) {q : Int32 × St_} : ∀ (σ : St_) (a0 : Nat) (x1 : Nat) (x2 : Int32), Ex_ σ0 σ → kd_ σ a0 = 8 → kd_ σ x1 = 4 → f_X8_sureWords fu σ a0 x1 x2 = some q → ∀ (H : Heap) (locs : List Loc) (ls : Array Slot), Ht_ G cy (va_A (wl_ cy ad σ0) sz) s ad σ H locs → lv_has ls 5 [(0, .ref (ad a0)), (1, .ref (ad x1)), (2, .int x2)] → W p l e R s m args below meth c H locs 0 0 (MQ below (Qi_ G cy ad σ0 q.2 sz q.1) args s 0 0 (va_A (wl_ cy ad σ0) sz)) (F0 m 0 ls []) := by
  intro σ a0 x1 x2 hE hk_a0 hk_x1 hf H locs ls h hl
  have hf : (f_X8_sureWords_5 fu fu σ a0 x1 x2 (0 : Int32) (0 : Int32)) = some q := hf
  refine lv_iconst (v := (0 : Int32)) C.1 C.2.1 dX8_sureWords_0 (by decide) ?_
  refine lv_istore_n (i := 3) (lv' := [(3, .int (0 : Int32)), (0, .ref (ad a0)), (1, .ref (ad x1)), (2, .int x2)]) C.1 C.2.1 dX8_sureWords_1 rfl hl (by decide) rfl (fun ls hl => ?_)
  refine lv_iconst (v := (0 : Int32)) C.1 C.2.1 dX8_sureWords_2 (by decide) ?_
  refine lv_istore (i := 4) (lv' := [(4, .int (0 : Int32)), (3, .int (0 : Int32)), (0, .ref (ad a0)), (1, .ref (ad x1)), (2, .int x2)]) C.1 C.2.1 dX8_sureWords_3 hl (by decide) rfl (fun ls hl => ?_)
  exact w_X8_sureWords_5 fu C K hr hlk hR fu σ a0 x1 x2 (0 : Int32) (0 : Int32) hE hk_a0 hk_x1 hf _ _ _ h (lv_sub hl [2, 3, 4, 1, 0] rfl)
theorem c_X8_sureWords (fu : Nat) (l : Launch) (κ : Ka_) (G : va_G) (cy : Nat → ClassId) (ad : Nat → Nat) (sz : Nat) (σ : St_) (a0 : Nat) (x1 : Nat) (x2 : Int32) (hk_a0 : kd_ σ a0 = 8) (hk_x1 : kd_ σ x1 = 4) {q : Int32 × St_} (hf : f_X8_sureWords fu σ a0 x1 x2 = some q) : Met l yX8_sureWords (Cond.code yX8_sureWords cX8_sureWords 5 (some .int) :: wU_) { frames := 4, cells := 0, slots := 0, locals := 101 } (va_Pc [.ref (ad a0), .ref (ad x1), .int x2] (Pr_ κ G cy ad σ sz)) (Qi_ G cy ad σ q.2 sz q.1) 0 0 (va_A (wl_ cy ad σ) sz) :=
  x_met (by decide) (fun p e R s m below meth c ls hR C hr hlk hin _ K h hl => w_X8_sureWords fu C K hr hlk ⟨hR.1, hR.2.1⟩ σ a0 x1 x2 Ex_.rf hk_a0 hk_x1 hf s.heap [] ls h hl) (Nat.le_of_ble_eq_true rfl)
-- X8_kindsThatFit
theorem mi_X8_kindsThatFit : Mi_ yX8_kindsThatFit cX8_kindsThatFit 5 (some .int) 2 := ⟨co_yX8_kindsThatFit, in_RX8, by decide, by decide, by decide +kernel⟩
def f_X8_kindsThatFit_5 (fu : Nat) : Nat → St_ → Nat → Nat → Int32 → Int32 → Int32 → Option (Int32 × St_)
  | 0 => fun _ _ _ _ _ _ => none
  | n + 1 => fun σ  v0  v1  v2  v3  v4 => if (6 : Int32) ≤ v4 then some (v3, σ) else (dr_ σ 6 (sr_ σ v0 7)).bind fun b2 => (f_X8_firstThatCannotBe fu (f_X6_beOfKind σ b2 v4) v0 v1 v2).bind fun q4 => if q4.1 = (-1 : Int32) then (f_X8_kindsThatFit_5 fu n) q4.2 v0 v1 v2 (v3 ||| ((1 : Int32) <<< (v4 &&& 31))) (v4 + (1 : Int32)) else (f_X8_kindsThatFit_5 fu n) q4.2 v0 v1 v2 (v3 ||| (0 : Int32)) (v4 + (1 : Int32))
set_option maxHeartbeats 4000000 in
set_option maxRecDepth 100000 in
theorem w_X8_kindsThatFit_5 {p : Program} {l : Launch} {e : Env} {R : Room} {s : State} {m : MethodId} {args : Array Value} {below : List Frame} {meth : Method} {c : Code} {κ : Ka_} {G : va_G} {cy : Nat → ClassId} {ad : Nat → Nat} {sz : Nat} {σ0 : St_} (fu : Nat) (C : CallFix p m c cX8_kindsThatFit 5 s args wU_ RX8) (K : Kx_ κ G cy (va_A (wl_ cy ad σ0) sz) s) (hr : meth.sig.returnType = some .int) (hlk : meth.locks = false) (hR : 5 ≤ R.frames ∧ 123 ≤ R.locals) {q : Int32 × St_} : ∀ n : Nat, ∀ (σ : St_) (v0 : Nat) (v1 : Nat) (v2 : Int32) (v3 : Int32) (v4 : Int32), Ex_ σ0 σ → kd_ σ v0 = 8 → kd_ σ v1 = 4 → f_X8_kindsThatFit_5 fu n σ v0 v1 v2 v3 v4 = some q → ∀ (H : Heap) (locs : List Loc) (ls : Array Slot), Ht_ G cy (va_A (wl_ cy ad σ0) sz) s ad σ H locs → lv_has ls 5 [(0, .ref (ad v0)), (1, .ref (ad v1)), (2, .int v2), (3, .int v3), (4, .int v4)] → W p l e R s m args below meth c H locs 0 0 (MQ below (Qi_ G cy ad σ0 q.2 sz q.1) args s 0 0 (va_A (wl_ cy ad σ0) sz)) (F0 m 5 ls []) := by
  intro n
  induction n with
  | zero =>
    intro σ v0 v1 v2 v3 v4 hE hk_v0 hk_v1 hf H locs ls h hl
    cases hf
  | succ n ih =>
    intro σ v0 v1 v2 v3 v4 hE hk_v0 hk_v1 hf H locs ls h hl
    have hf : (if (6 : Int32) ≤ v4 then some (v3, σ) else (dr_ σ 6 (sr_ σ v0 7)).bind fun b2 => (f_X8_firstThatCannotBe fu (f_X6_beOfKind σ b2 v4) v0 v1 v2).bind fun q4 => if q4.1 = (-1 : Int32) then (f_X8_kindsThatFit_5 fu n) q4.2 v0 v1 v2 (v3 ||| ((1 : Int32) <<< (v4 &&& 31))) (v4 + (1 : Int32)) else (f_X8_kindsThatFit_5 fu n) q4.2 v0 v1 v2 (v3 ||| (0 : Int32)) (v4 + (1 : Int32))) = some q := hf
    refine lv_iload C.1 C.2.1 dX8_kindsThatFit_5 (lv_at hl 4 rfl) ?_
    refine lv_bipush (v := (6 : Int32)) C.1 C.2.1 dX8_kindsThatFit_7 (by decide) ?_
    refine lv_icmp_ge (tgt := 48) C.1 C.2.1 dX8_kindsThatFit_9 (by decide) (fun c1 => ?_) (fun c1 => ?_)
    · have hf := if_t hf c1
      refine lv_iload_n C.1 C.2.1 dX8_kindsThatFit_48 rfl (lv_at hl 3 rfl) ?_
      exact x_ri C hr hlk h hE (pf_1 (Option.some.inj hf)) (pf_2 (Option.some.inj hf)) dX8_kindsThatFit_49
    · have hf := if_f hf c1
      refine lv_aload_n C.1 C.2.1 dX8_kindsThatFit_12 rfl (lv_at hl 0 rfl) ?_
      obtain ⟨b2, hb_b2, hf⟩ := ob_ hf
      obtain ⟨hq_b2, hk_b2⟩ := dr_in hb_b2
      refine x_get (v := .ref (ad b2)) C K h cl_8 hk_v0 7 (by decide) fl_RX8_49 (hv_r (o := sr_ σ v0 7) rfl hq_b2) dX8_kindsThatFit_13 ?_
      refine lv_iload C.1 C.2.1 dX8_kindsThatFit_16 (lv_at hl 4 rfl) ?_
      refine x_av K h (x_VN C K h [.int v4] (c_X6_beOfKind l κ G cy ad H.size σ b2 v4 hk_b2 rfl) mi_X6_beOfKind rfl im_yX6_beOfKind se_yX6_beOfKind nm_RX8_298 cl_6 hk_b2 ⟨rfl, rfl, Nat.le_trans (Nat.le_of_ble_eq_true rfl) hR.1, Nat.le_trans (Nat.le_of_ble_eq_true rfl) hR.2⟩ hl (Nat.le_of_ble_eq_true rfl) dX8_kindsThatFit_18 ⟨Nat.zero_le _, Nat.zero_le _⟩ rfl) (fun H locs h hX => ?_)
      have hE := hE.trans hX
      have hk_v0 := hX.k hk_v0 (by decide)
      have hk_v1 := hX.k hk_v1 (by decide)
      refine lv_iload_n C.1 C.2.1 dX8_kindsThatFit_21 rfl (lv_at hl 3 rfl) ?_
      refine lv_aload_n C.1 C.2.1 dX8_kindsThatFit_22 rfl (lv_at hl 0 rfl) ?_
      refine lv_aload_n C.1 C.2.1 dX8_kindsThatFit_23 rfl (lv_at hl 1 rfl) ?_
      refine lv_iload_n C.1 C.2.1 dX8_kindsThatFit_24 rfl (lv_at hl 2 rfl) ?_
      obtain ⟨q4, hq_q4, hf⟩ := ob_ hf
      refine x_ai K h (x_V C K h [.ref (ad v1), .int v2] (c_X8_firstThatCannotBe fu l κ G cy ad H.size (f_X6_beOfKind σ b2 v4) v0 v1 v2 hk_v0 hk_v1 hq_q4) mi_X8_firstThatCannotBe rfl im_yX8_firstThatCannotBe se_yX8_firstThatCannotBe ml_RX8_254 cl_8 hk_v0 ⟨rfl, rfl, Nat.le_trans (Nat.le_of_ble_eq_true rfl) hR.1, Nat.le_trans (Nat.le_of_ble_eq_true rfl) hR.2⟩ hl (Nat.le_of_ble_eq_true rfl) dX8_kindsThatFit_25 ⟨Nat.zero_le _, Nat.zero_le _⟩ rfl) (fun H locs h hX => ?_)
      have hE := hE.trans hX
      have hk_v0 := hX.k hk_v0 (by decide)
      have hk_v1 := hX.k hk_v1 (by decide)
      refine lv_iconst (v := (-1 : Int32)) C.1 C.2.1 dX8_kindsThatFit_28 (by decide) ?_
      refine lv_icmp_ne (tgt := 39) C.1 C.2.1 dX8_kindsThatFit_29 (by decide) (fun c5 => ?_) (fun c5 => ?_)
      · have hf := if_f hf c5
        refine lv_iconst (v := (0 : Int32)) C.1 C.2.1 dX8_kindsThatFit_39 (by decide) ?_
        refine lv_ior C.1 C.2.1 dX8_kindsThatFit_40 ?_
        refine lv_istore_n (i := 3) (lv' := [(3, .int (v3 ||| (0 : Int32))), (0, .ref (ad v0)), (1, .ref (ad v1)), (2, .int v2), (4, .int v4)]) C.1 C.2.1 dX8_kindsThatFit_41 rfl hl (by decide) rfl (fun ls hl => ?_)
        refine lv_iinc (v := v4 + (1 : Int32)) (lv' := [(4, .int (v4 + (1 : Int32))), (3, .int (v3 ||| (0 : Int32))), (0, .ref (ad v0)), (1, .ref (ad v1)), (2, .int v2)]) C.1 C.2.1 dX8_kindsThatFit_42 hl (k := 4) rfl rfl (by decide) rfl (fun ls hl => ?_)
        refine lv_goto (tgt := 5) C.1 C.2.1 dX8_kindsThatFit_45 (by decide) ?_
        exact ih q4.2 v0 v1 v2 (v3 ||| (0 : Int32)) (v4 + (1 : Int32)) hE hk_v0 hk_v1 hf _ _ _ h (lv_sub hl [2, 3, 4, 1, 0] rfl)
      · have hf := if_t hf c5
        refine lv_iconst (v := (1 : Int32)) C.1 C.2.1 dX8_kindsThatFit_32 (by decide) ?_
        refine lv_iload C.1 C.2.1 dX8_kindsThatFit_33 (lv_at hl 4 rfl) ?_
        refine lv_ishl C.1 C.2.1 dX8_kindsThatFit_35 ?_
        refine lv_goto (tgt := 40) C.1 C.2.1 dX8_kindsThatFit_36 (by decide) ?_
        refine lv_ior C.1 C.2.1 dX8_kindsThatFit_40 ?_
        refine lv_istore_n (i := 3) (lv' := [(3, .int (v3 ||| ((1 : Int32) <<< (v4 &&& 31)))), (0, .ref (ad v0)), (1, .ref (ad v1)), (2, .int v2), (4, .int v4)]) C.1 C.2.1 dX8_kindsThatFit_41 rfl hl (by decide) rfl (fun ls hl => ?_)
        refine lv_iinc (v := v4 + (1 : Int32)) (lv' := [(4, .int (v4 + (1 : Int32))), (3, .int (v3 ||| ((1 : Int32) <<< (v4 &&& 31)))), (0, .ref (ad v0)), (1, .ref (ad v1)), (2, .int v2)]) C.1 C.2.1 dX8_kindsThatFit_42 hl (k := 4) rfl rfl (by decide) rfl (fun ls hl => ?_)
        refine lv_goto (tgt := 5) C.1 C.2.1 dX8_kindsThatFit_45 (by decide) ?_
        exact ih q4.2 v0 v1 v2 (v3 ||| ((1 : Int32) <<< (v4 &&& 31))) (v4 + (1 : Int32)) hE hk_v0 hk_v1 hf _ _ _ h (lv_sub hl [2, 3, 4, 1, 0] rfl)
def f_X8_kindsThatFit (fu : Nat) (σ : St_) (a0 : Nat) (x1 : Nat) (x2 : Int32) : Option (Int32 × St_) := f_X8_kindsThatFit_5 fu fu σ a0 x1 x2 (0 : Int32) (0 : Int32)
set_option maxHeartbeats 4000000 in
set_option maxRecDepth 100000 in
theorem w_X8_kindsThatFit {p : Program} {l : Launch} {e : Env} {R : Room} {s : State} {m : MethodId} {args : Array Value} {below : List Frame} {meth : Method} {c : Code} {κ : Ka_} {G : va_G} {cy : Nat → ClassId} {ad : Nat → Nat} {sz : Nat} {σ0 : St_} (fu : Nat) (C : CallFix p m c cX8_kindsThatFit 5 s args wU_ RX8) (K : Kx_ κ G cy (va_A (wl_ cy ad σ0) sz) s) (hr : meth.sig.returnType = some .int) (hlk : meth.locks = false) (hR : 5 ≤ R.frames ∧ 123 ≤ R.locals) {q : Int32 × St_} : ∀ (σ : St_) (a0 : Nat) (x1 : Nat) (x2 : Int32), Ex_ σ0 σ → kd_ σ a0 = 8 → kd_ σ x1 = 4 → f_X8_kindsThatFit fu σ a0 x1 x2 = some q → ∀ (H : Heap) (locs : List Loc) (ls : Array Slot), Ht_ G cy (va_A (wl_ cy ad σ0) sz) s ad σ H locs → lv_has ls 5 [(0, .ref (ad a0)), (1, .ref (ad x1)), (2, .int x2)] → W p l e R s m args below meth c H locs 0 0 (MQ below (Qi_ G cy ad σ0 q.2 sz q.1) args s 0 0 (va_A (wl_ cy ad σ0) sz)) (F0 m 0 ls []) := by
  intro σ a0 x1 x2 hE hk_a0 hk_x1 hf H locs ls h hl
  have hf : (f_X8_kindsThatFit_5 fu fu σ a0 x1 x2 (0 : Int32) (0 : Int32)) = some q := hf
  refine lv_iconst (v := (0 : Int32)) C.1 C.2.1 dX8_kindsThatFit_0 (by decide) ?_
  refine lv_istore_n (i := 3) (lv' := [(3, .int (0 : Int32)), (0, .ref (ad a0)), (1, .ref (ad x1)), (2, .int x2)]) C.1 C.2.1 dX8_kindsThatFit_1 rfl hl (by decide) rfl (fun ls hl => ?_)
  refine lv_iconst (v := (0 : Int32)) C.1 C.2.1 dX8_kindsThatFit_2 (by decide) ?_
  refine lv_istore (i := 4) (lv' := [(4, .int (0 : Int32)), (3, .int (0 : Int32)), (0, .ref (ad a0)), (1, .ref (ad x1)), (2, .int x2)]) C.1 C.2.1 dX8_kindsThatFit_3 hl (by decide) rfl (fun ls hl => ?_)
  exact w_X8_kindsThatFit_5 fu C K hr hlk hR fu σ a0 x1 x2 (0 : Int32) (0 : Int32) hE hk_a0 hk_x1 hf _ _ _ h (lv_sub hl [2, 3, 4, 1, 0] rfl)
theorem c_X8_kindsThatFit (fu : Nat) (l : Launch) (κ : Ka_) (G : va_G) (cy : Nat → ClassId) (ad : Nat → Nat) (sz : Nat) (σ : St_) (a0 : Nat) (x1 : Nat) (x2 : Int32) (hk_a0 : kd_ σ a0 = 8) (hk_x1 : kd_ σ x1 = 4) {q : Int32 × St_} (hf : f_X8_kindsThatFit fu σ a0 x1 x2 = some q) : Met l yX8_kindsThatFit (Cond.code yX8_kindsThatFit cX8_kindsThatFit 5 (some .int) :: wU_) { frames := 5, cells := 0, slots := 0, locals := 123 } (va_Pc [.ref (ad a0), .ref (ad x1), .int x2] (Pr_ κ G cy ad σ sz)) (Qi_ G cy ad σ q.2 sz q.1) 0 0 (va_A (wl_ cy ad σ) sz) :=
  x_met (by decide) (fun p e R s m below meth c ls hR C hr hlk hin _ K h hl => w_X8_kindsThatFit fu C K hr hlk ⟨hR.1, hR.2.1⟩ σ a0 x1 x2 Ex_.rf hk_a0 hk_x1 hf s.heap [] ls h hl) (Nat.le_of_ble_eq_true rfl)
-- X8_numbersThatFit
theorem mi_X8_numbersThatFit : Mi_ yX8_numbersThatFit cX8_numbersThatFit 5 (some .int) 2 := ⟨co_yX8_numbersThatFit, in_RX8, by decide, by decide, by decide +kernel⟩
def f_X8_numbersThatFit_5 (fu : Nat) : Nat → St_ → Nat → Nat → Int32 → Int32 → Int32 → Option (Int32 × St_)
  | 0 => fun _ _ _ _ _ _ => none
  | n + 1 => fun σ  v0  v1  v2  v3  v4 => if (10 : Int32) ≤ v4 then some (v3, σ) else (dr_ σ 6 (sr_ σ v0 7)).bind fun b2 => (f_X6_beNumbered σ b2 v4).bind fun q3 => (f_X8_firstThatCannotBe fu q3 v0 v1 v2).bind fun q4 => if q4.1 = (-1 : Int32) then (f_X8_numbersThatFit_5 fu n) q4.2 v0 v1 v2 (v3 ||| ((1 : Int32) <<< (v4 &&& 31))) (v4 + (1 : Int32)) else (f_X8_numbersThatFit_5 fu n) q4.2 v0 v1 v2 (v3 ||| (0 : Int32)) (v4 + (1 : Int32))
set_option maxHeartbeats 4000000 in
set_option maxRecDepth 100000 in
theorem w_X8_numbersThatFit_5 {p : Program} {l : Launch} {e : Env} {R : Room} {s : State} {m : MethodId} {args : Array Value} {below : List Frame} {meth : Method} {c : Code} {κ : Ka_} {G : va_G} {cy : Nat → ClassId} {ad : Nat → Nat} {sz : Nat} {σ0 : St_} (fu : Nat) (C : CallFix p m c cX8_numbersThatFit 5 s args wU_ RX8) (K : Kx_ κ G cy (va_A (wl_ cy ad σ0) sz) s) (hr : meth.sig.returnType = some .int) (hlk : meth.locks = false) (hR : 5 ≤ R.frames ∧ 123 ≤ R.locals) {q : Int32 × St_} : ∀ n : Nat, ∀ (σ : St_) (v0 : Nat) (v1 : Nat) (v2 : Int32) (v3 : Int32) (v4 : Int32), Ex_ σ0 σ → kd_ σ v0 = 8 → kd_ σ v1 = 4 → f_X8_numbersThatFit_5 fu n σ v0 v1 v2 v3 v4 = some q → ∀ (H : Heap) (locs : List Loc) (ls : Array Slot), Ht_ G cy (va_A (wl_ cy ad σ0) sz) s ad σ H locs → lv_has ls 5 [(0, .ref (ad v0)), (1, .ref (ad v1)), (2, .int v2), (3, .int v3), (4, .int v4)] → W p l e R s m args below meth c H locs 0 0 (MQ below (Qi_ G cy ad σ0 q.2 sz q.1) args s 0 0 (va_A (wl_ cy ad σ0) sz)) (F0 m 5 ls []) := by
  intro n
  induction n with
  | zero =>
    intro σ v0 v1 v2 v3 v4 hE hk_v0 hk_v1 hf H locs ls h hl
    cases hf
  | succ n ih =>
    intro σ v0 v1 v2 v3 v4 hE hk_v0 hk_v1 hf H locs ls h hl
    have hf : (if (10 : Int32) ≤ v4 then some (v3, σ) else (dr_ σ 6 (sr_ σ v0 7)).bind fun b2 => (f_X6_beNumbered σ b2 v4).bind fun q3 => (f_X8_firstThatCannotBe fu q3 v0 v1 v2).bind fun q4 => if q4.1 = (-1 : Int32) then (f_X8_numbersThatFit_5 fu n) q4.2 v0 v1 v2 (v3 ||| ((1 : Int32) <<< (v4 &&& 31))) (v4 + (1 : Int32)) else (f_X8_numbersThatFit_5 fu n) q4.2 v0 v1 v2 (v3 ||| (0 : Int32)) (v4 + (1 : Int32))) = some q := hf
    refine lv_iload C.1 C.2.1 dX8_numbersThatFit_5 (lv_at hl 4 rfl) ?_
    refine lv_bipush (v := (10 : Int32)) C.1 C.2.1 dX8_numbersThatFit_7 (by decide) ?_
    refine lv_icmp_ge (tgt := 48) C.1 C.2.1 dX8_numbersThatFit_9 (by decide) (fun c1 => ?_) (fun c1 => ?_)
    · have hf := if_t hf c1
      refine lv_iload_n C.1 C.2.1 dX8_numbersThatFit_48 rfl (lv_at hl 3 rfl) ?_
      exact x_ri C hr hlk h hE (pf_1 (Option.some.inj hf)) (pf_2 (Option.some.inj hf)) dX8_numbersThatFit_49
    · have hf := if_f hf c1
      refine lv_aload_n C.1 C.2.1 dX8_numbersThatFit_12 rfl (lv_at hl 0 rfl) ?_
      obtain ⟨b2, hb_b2, hf⟩ := ob_ hf
      obtain ⟨hq_b2, hk_b2⟩ := dr_in hb_b2
      refine x_get (v := .ref (ad b2)) C K h cl_8 hk_v0 7 (by decide) fl_RX8_49 (hv_r (o := sr_ σ v0 7) rfl hq_b2) dX8_numbersThatFit_13 ?_
      refine lv_iload C.1 C.2.1 dX8_numbersThatFit_16 (lv_at hl 4 rfl) ?_
      obtain ⟨q3, hq_q3, hf⟩ := ob_ hf
      refine x_av K h (x_VN C K h [.int v4] (c_X6_beNumbered l κ G cy ad H.size σ b2 v4 hk_b2 hq_q3) mi_X6_beNumbered rfl im_yX6_beNumbered se_yX6_beNumbered nm_RX8_302 cl_6 hk_b2 ⟨rfl, rfl, Nat.le_trans (Nat.le_of_ble_eq_true rfl) hR.1, Nat.le_trans (Nat.le_of_ble_eq_true rfl) hR.2⟩ hl (Nat.le_of_ble_eq_true rfl) dX8_numbersThatFit_18 ⟨Nat.zero_le _, Nat.zero_le _⟩ rfl) (fun H locs h hX => ?_)
      have hE := hE.trans hX
      have hk_v0 := hX.k hk_v0 (by decide)
      have hk_v1 := hX.k hk_v1 (by decide)
      refine lv_iload_n C.1 C.2.1 dX8_numbersThatFit_21 rfl (lv_at hl 3 rfl) ?_
      refine lv_aload_n C.1 C.2.1 dX8_numbersThatFit_22 rfl (lv_at hl 0 rfl) ?_
      refine lv_aload_n C.1 C.2.1 dX8_numbersThatFit_23 rfl (lv_at hl 1 rfl) ?_
      refine lv_iload_n C.1 C.2.1 dX8_numbersThatFit_24 rfl (lv_at hl 2 rfl) ?_
      obtain ⟨q4, hq_q4, hf⟩ := ob_ hf
      refine x_ai K h (x_V C K h [.ref (ad v1), .int v2] (c_X8_firstThatCannotBe fu l κ G cy ad H.size q3 v0 v1 v2 hk_v0 hk_v1 hq_q4) mi_X8_firstThatCannotBe rfl im_yX8_firstThatCannotBe se_yX8_firstThatCannotBe ml_RX8_254 cl_8 hk_v0 ⟨rfl, rfl, Nat.le_trans (Nat.le_of_ble_eq_true rfl) hR.1, Nat.le_trans (Nat.le_of_ble_eq_true rfl) hR.2⟩ hl (Nat.le_of_ble_eq_true rfl) dX8_numbersThatFit_25 ⟨Nat.zero_le _, Nat.zero_le _⟩ rfl) (fun H locs h hX => ?_)
      have hE := hE.trans hX
      have hk_v0 := hX.k hk_v0 (by decide)
      have hk_v1 := hX.k hk_v1 (by decide)
      refine lv_iconst (v := (-1 : Int32)) C.1 C.2.1 dX8_numbersThatFit_28 (by decide) ?_
      refine lv_icmp_ne (tgt := 39) C.1 C.2.1 dX8_numbersThatFit_29 (by decide) (fun c5 => ?_) (fun c5 => ?_)
      · have hf := if_f hf c5
        refine lv_iconst (v := (0 : Int32)) C.1 C.2.1 dX8_numbersThatFit_39 (by decide) ?_
        refine lv_ior C.1 C.2.1 dX8_numbersThatFit_40 ?_
        refine lv_istore_n (i := 3) (lv' := [(3, .int (v3 ||| (0 : Int32))), (0, .ref (ad v0)), (1, .ref (ad v1)), (2, .int v2), (4, .int v4)]) C.1 C.2.1 dX8_numbersThatFit_41 rfl hl (by decide) rfl (fun ls hl => ?_)
        refine lv_iinc (v := v4 + (1 : Int32)) (lv' := [(4, .int (v4 + (1 : Int32))), (3, .int (v3 ||| (0 : Int32))), (0, .ref (ad v0)), (1, .ref (ad v1)), (2, .int v2)]) C.1 C.2.1 dX8_numbersThatFit_42 hl (k := 4) rfl rfl (by decide) rfl (fun ls hl => ?_)
        refine lv_goto (tgt := 5) C.1 C.2.1 dX8_numbersThatFit_45 (by decide) ?_
        exact ih q4.2 v0 v1 v2 (v3 ||| (0 : Int32)) (v4 + (1 : Int32)) hE hk_v0 hk_v1 hf _ _ _ h (lv_sub hl [2, 3, 4, 1, 0] rfl)
      · have hf := if_t hf c5
        refine lv_iconst (v := (1 : Int32)) C.1 C.2.1 dX8_numbersThatFit_32 (by decide) ?_
        refine lv_iload C.1 C.2.1 dX8_numbersThatFit_33 (lv_at hl 4 rfl) ?_
        refine lv_ishl C.1 C.2.1 dX8_numbersThatFit_35 ?_
        refine lv_goto (tgt := 40) C.1 C.2.1 dX8_numbersThatFit_36 (by decide) ?_
        refine lv_ior C.1 C.2.1 dX8_numbersThatFit_40 ?_
        refine lv_istore_n (i := 3) (lv' := [(3, .int (v3 ||| ((1 : Int32) <<< (v4 &&& 31)))), (0, .ref (ad v0)), (1, .ref (ad v1)), (2, .int v2), (4, .int v4)]) C.1 C.2.1 dX8_numbersThatFit_41 rfl hl (by decide) rfl (fun ls hl => ?_)
        refine lv_iinc (v := v4 + (1 : Int32)) (lv' := [(4, .int (v4 + (1 : Int32))), (3, .int (v3 ||| ((1 : Int32) <<< (v4 &&& 31)))), (0, .ref (ad v0)), (1, .ref (ad v1)), (2, .int v2)]) C.1 C.2.1 dX8_numbersThatFit_42 hl (k := 4) rfl rfl (by decide) rfl (fun ls hl => ?_)
        refine lv_goto (tgt := 5) C.1 C.2.1 dX8_numbersThatFit_45 (by decide) ?_
        exact ih q4.2 v0 v1 v2 (v3 ||| ((1 : Int32) <<< (v4 &&& 31))) (v4 + (1 : Int32)) hE hk_v0 hk_v1 hf _ _ _ h (lv_sub hl [2, 3, 4, 1, 0] rfl)
def f_X8_numbersThatFit (fu : Nat) (σ : St_) (a0 : Nat) (x1 : Nat) (x2 : Int32) : Option (Int32 × St_) := f_X8_numbersThatFit_5 fu fu σ a0 x1 x2 (0 : Int32) (0 : Int32)
set_option maxHeartbeats 4000000 in
set_option maxRecDepth 100000 in
theorem w_X8_numbersThatFit {p : Program} {l : Launch} {e : Env} {R : Room} {s : State} {m : MethodId} {args : Array Value} {below : List Frame} {meth : Method} {c : Code} {κ : Ka_} {G : va_G} {cy : Nat → ClassId} {ad : Nat → Nat} {sz : Nat} {σ0 : St_} (fu : Nat) (C : CallFix p m c cX8_numbersThatFit 5 s args wU_ RX8) (K : Kx_ κ G cy (va_A (wl_ cy ad σ0) sz) s) (hr : meth.sig.returnType = some .int) (hlk : meth.locks = false) (hR : 5 ≤ R.frames ∧ 123 ≤ R.locals) {q : Int32 × St_} : ∀ (σ : St_) (a0 : Nat) (x1 : Nat) (x2 : Int32), Ex_ σ0 σ → kd_ σ a0 = 8 → kd_ σ x1 = 4 → f_X8_numbersThatFit fu σ a0 x1 x2 = some q → ∀ (H : Heap) (locs : List Loc) (ls : Array Slot), Ht_ G cy (va_A (wl_ cy ad σ0) sz) s ad σ H locs → lv_has ls 5 [(0, .ref (ad a0)), (1, .ref (ad x1)), (2, .int x2)] → W p l e R s m args below meth c H locs 0 0 (MQ below (Qi_ G cy ad σ0 q.2 sz q.1) args s 0 0 (va_A (wl_ cy ad σ0) sz)) (F0 m 0 ls []) := by
  intro σ a0 x1 x2 hE hk_a0 hk_x1 hf H locs ls h hl
  have hf : (f_X8_numbersThatFit_5 fu fu σ a0 x1 x2 (0 : Int32) (0 : Int32)) = some q := hf
  refine lv_iconst (v := (0 : Int32)) C.1 C.2.1 dX8_numbersThatFit_0 (by decide) ?_
  refine lv_istore_n (i := 3) (lv' := [(3, .int (0 : Int32)), (0, .ref (ad a0)), (1, .ref (ad x1)), (2, .int x2)]) C.1 C.2.1 dX8_numbersThatFit_1 rfl hl (by decide) rfl (fun ls hl => ?_)
  refine lv_iconst (v := (0 : Int32)) C.1 C.2.1 dX8_numbersThatFit_2 (by decide) ?_
  refine lv_istore (i := 4) (lv' := [(4, .int (0 : Int32)), (3, .int (0 : Int32)), (0, .ref (ad a0)), (1, .ref (ad x1)), (2, .int x2)]) C.1 C.2.1 dX8_numbersThatFit_3 hl (by decide) rfl (fun ls hl => ?_)
  exact w_X8_numbersThatFit_5 fu C K hr hlk hR fu σ a0 x1 x2 (0 : Int32) (0 : Int32) hE hk_a0 hk_x1 hf _ _ _ h (lv_sub hl [2, 3, 4, 1, 0] rfl)
theorem c_X8_numbersThatFit (fu : Nat) (l : Launch) (κ : Ka_) (G : va_G) (cy : Nat → ClassId) (ad : Nat → Nat) (sz : Nat) (σ : St_) (a0 : Nat) (x1 : Nat) (x2 : Int32) (hk_a0 : kd_ σ a0 = 8) (hk_x1 : kd_ σ x1 = 4) {q : Int32 × St_} (hf : f_X8_numbersThatFit fu σ a0 x1 x2 = some q) : Met l yX8_numbersThatFit (Cond.code yX8_numbersThatFit cX8_numbersThatFit 5 (some .int) :: wU_) { frames := 5, cells := 0, slots := 0, locals := 123 } (va_Pc [.ref (ad a0), .ref (ad x1), .int x2] (Pr_ κ G cy ad σ sz)) (Qi_ G cy ad σ q.2 sz q.1) 0 0 (va_A (wl_ cy ad σ) sz) :=
  x_met (by decide) (fun p e R s m below meth c ls hR C hr hlk hin _ K h hl => w_X8_numbersThatFit fu C K hr hlk ⟨hR.1, hR.2.1⟩ σ a0 x1 x2 Ex_.rf hk_a0 hk_x1 hf s.heap [] ls h hl) (Nat.le_of_ble_eq_true rfl)
-- X8_textsThatFit
theorem mi_X8_textsThatFit : Mi_ yX8_textsThatFit cX8_textsThatFit 5 (some .int) 2 := ⟨co_yX8_textsThatFit, in_RX8, by decide, by decide, by decide +kernel⟩
def f_X8_textsThatFit_5 (fu : Nat) : Nat → St_ → Nat → Nat → Int32 → Int32 → Int32 → Option (Int32 × St_)
  | 0 => fun _ _ _ _ _ _ => none
  | n + 1 => fun σ  v0  v1  v2  v3  v4 => if (si_ σ v0 5) ≤ v4 then some (v3, σ) else (dr_ σ 6 (sr_ σ v0 7)).bind fun b2 => (f_X8_textAt σ v0 v4).bind fun q3 => (f_X6_goBy σ b2 q3).bind fun q4 => (f_X8_firstThatCannotBe fu q4 v0 v1 v2).bind fun q5 => if q5.1 = (-1 : Int32) then (f_X8_textsThatFit_5 fu n) q5.2 v0 v1 v2 (v3 ||| ((1 : Int32) <<< (v4 &&& 31))) (v4 + (1 : Int32)) else (f_X8_textsThatFit_5 fu n) q5.2 v0 v1 v2 (v3 ||| (0 : Int32)) (v4 + (1 : Int32))
set_option maxHeartbeats 4000000 in
set_option maxRecDepth 100000 in
theorem w_X8_textsThatFit_5 {p : Program} {l : Launch} {e : Env} {R : Room} {s : State} {m : MethodId} {args : Array Value} {below : List Frame} {meth : Method} {c : Code} {κ : Ka_} {G : va_G} {cy : Nat → ClassId} {ad : Nat → Nat} {sz : Nat} {σ0 : St_} (fu : Nat) (C : CallFix p m c cX8_textsThatFit 5 s args wU_ RX8) (K : Kx_ κ G cy (va_A (wl_ cy ad σ0) sz) s) (hr : meth.sig.returnType = some .int) (hlk : meth.locks = false) (hR : 5 ≤ R.frames ∧ 123 ≤ R.locals) {q : Int32 × St_} : ∀ n : Nat, ∀ (σ : St_) (v0 : Nat) (v1 : Nat) (v2 : Int32) (v3 : Int32) (v4 : Int32), Ex_ σ0 σ → kd_ σ v0 = 8 → kd_ σ v1 = 4 → f_X8_textsThatFit_5 fu n σ v0 v1 v2 v3 v4 = some q → ∀ (H : Heap) (locs : List Loc) (ls : Array Slot), Ht_ G cy (va_A (wl_ cy ad σ0) sz) s ad σ H locs → lv_has ls 5 [(0, .ref (ad v0)), (1, .ref (ad v1)), (2, .int v2), (3, .int v3), (4, .int v4)] → W p l e R s m args below meth c H locs 0 0 (MQ below (Qi_ G cy ad σ0 q.2 sz q.1) args s 0 0 (va_A (wl_ cy ad σ0) sz)) (F0 m 5 ls []) := by
  intro n
  induction n with
  | zero =>
    intro σ v0 v1 v2 v3 v4 hE hk_v0 hk_v1 hf H locs ls h hl
    cases hf
  | succ n ih =>
    intro σ v0 v1 v2 v3 v4 hE hk_v0 hk_v1 hf H locs ls h hl
    have hf : (if (si_ σ v0 5) ≤ v4 then some (v3, σ) else (dr_ σ 6 (sr_ σ v0 7)).bind fun b2 => (f_X8_textAt σ v0 v4).bind fun q3 => (f_X6_goBy σ b2 q3).bind fun q4 => (f_X8_firstThatCannotBe fu q4 v0 v1 v2).bind fun q5 => if q5.1 = (-1 : Int32) then (f_X8_textsThatFit_5 fu n) q5.2 v0 v1 v2 (v3 ||| ((1 : Int32) <<< (v4 &&& 31))) (v4 + (1 : Int32)) else (f_X8_textsThatFit_5 fu n) q5.2 v0 v1 v2 (v3 ||| (0 : Int32)) (v4 + (1 : Int32))) = some q := hf
    refine lv_iload C.1 C.2.1 dX8_textsThatFit_5 (lv_at hl 4 rfl) ?_
    refine lv_aload_n C.1 C.2.1 dX8_textsThatFit_7 rfl (lv_at hl 0 rfl) ?_
    refine x_get (v := .int (si_ σ v0 5)) C K h cl_8 hk_v0 5 (by decide) fl_RX8_36 rfl dX8_textsThatFit_8 ?_
    refine lv_icmp_ge (tgt := 54) C.1 C.2.1 dX8_textsThatFit_11 (by decide) (fun c1 => ?_) (fun c1 => ?_)
    · have hf := if_t hf c1
      refine lv_iload_n C.1 C.2.1 dX8_textsThatFit_54 rfl (lv_at hl 3 rfl) ?_
      exact x_ri C hr hlk h hE (pf_1 (Option.some.inj hf)) (pf_2 (Option.some.inj hf)) dX8_textsThatFit_55
    · have hf := if_f hf c1
      refine lv_aload_n C.1 C.2.1 dX8_textsThatFit_14 rfl (lv_at hl 0 rfl) ?_
      obtain ⟨b2, hb_b2, hf⟩ := ob_ hf
      obtain ⟨hq_b2, hk_b2⟩ := dr_in hb_b2
      refine x_get (v := .ref (ad b2)) C K h cl_8 hk_v0 7 (by decide) fl_RX8_49 (hv_r (o := sr_ σ v0 7) rfl hq_b2) dX8_textsThatFit_15 ?_
      refine lv_aload_n C.1 C.2.1 dX8_textsThatFit_18 rfl (lv_at hl 0 rfl) ?_
      refine lv_iload C.1 C.2.1 dX8_textsThatFit_19 (lv_at hl 4 rfl) ?_
      obtain ⟨q3, hq_q3, hf⟩ := ob_ hf
      refine x_aq K h (x_V C K h [.int v4] (c_X8_textAt l κ G cy ad H.size σ v0 v4 hk_v0 hq_q3) mi_X8_textAt rfl im_yX8_textAt se_yX8_textAt ml_RX8_305 cl_8 hk_v0 ⟨rfl, rfl, Nat.le_trans (Nat.le_of_ble_eq_true rfl) hR.1, Nat.le_trans (Nat.le_of_ble_eq_true rfl) hR.2⟩ hl (Nat.le_of_ble_eq_true rfl) dX8_textsThatFit_21 ⟨Nat.zero_le _, Nat.zero_le _⟩ rfl) (fun H locs h hX => ?_)
      obtain ⟨q4, hq_q4, hf⟩ := ob_ hf
      refine x_av K h (x_VN C K h [rv_ ad q3] (c_X6_goBy l κ G cy ad H.size σ b2 q3 hk_b2 hq_q4) mi_X6_goBy rfl im_yX6_goBy se_yX6_goBy nm_RX8_309 cl_6 hk_b2 ⟨rfl, rfl, Nat.le_trans (Nat.le_of_ble_eq_true rfl) hR.1, Nat.le_trans (Nat.le_of_ble_eq_true rfl) hR.2⟩ hl (Nat.le_of_ble_eq_true rfl) dX8_textsThatFit_24 ⟨Nat.zero_le _, Nat.zero_le _⟩ rfl) (fun H locs h hX => ?_)
      have hE := hE.trans hX
      have hk_v0 := hX.k hk_v0 (by decide)
      have hk_v1 := hX.k hk_v1 (by decide)
      refine lv_iload_n C.1 C.2.1 dX8_textsThatFit_27 rfl (lv_at hl 3 rfl) ?_
      refine lv_aload_n C.1 C.2.1 dX8_textsThatFit_28 rfl (lv_at hl 0 rfl) ?_
      refine lv_aload_n C.1 C.2.1 dX8_textsThatFit_29 rfl (lv_at hl 1 rfl) ?_
      refine lv_iload_n C.1 C.2.1 dX8_textsThatFit_30 rfl (lv_at hl 2 rfl) ?_
      obtain ⟨q5, hq_q5, hf⟩ := ob_ hf
      refine x_ai K h (x_V C K h [.ref (ad v1), .int v2] (c_X8_firstThatCannotBe fu l κ G cy ad H.size q4 v0 v1 v2 hk_v0 hk_v1 hq_q5) mi_X8_firstThatCannotBe rfl im_yX8_firstThatCannotBe se_yX8_firstThatCannotBe ml_RX8_254 cl_8 hk_v0 ⟨rfl, rfl, Nat.le_trans (Nat.le_of_ble_eq_true rfl) hR.1, Nat.le_trans (Nat.le_of_ble_eq_true rfl) hR.2⟩ hl (Nat.le_of_ble_eq_true rfl) dX8_textsThatFit_31 ⟨Nat.zero_le _, Nat.zero_le _⟩ rfl) (fun H locs h hX => ?_)
      have hE := hE.trans hX
      have hk_v0 := hX.k hk_v0 (by decide)
      have hk_v1 := hX.k hk_v1 (by decide)
      refine lv_iconst (v := (-1 : Int32)) C.1 C.2.1 dX8_textsThatFit_34 (by decide) ?_
      refine lv_icmp_ne (tgt := 45) C.1 C.2.1 dX8_textsThatFit_35 (by decide) (fun c6 => ?_) (fun c6 => ?_)
      · have hf := if_f hf c6
        refine lv_iconst (v := (0 : Int32)) C.1 C.2.1 dX8_textsThatFit_45 (by decide) ?_
        refine lv_ior C.1 C.2.1 dX8_textsThatFit_46 ?_
        refine lv_istore_n (i := 3) (lv' := [(3, .int (v3 ||| (0 : Int32))), (0, .ref (ad v0)), (1, .ref (ad v1)), (2, .int v2), (4, .int v4)]) C.1 C.2.1 dX8_textsThatFit_47 rfl hl (by decide) rfl (fun ls hl => ?_)
        refine lv_iinc (v := v4 + (1 : Int32)) (lv' := [(4, .int (v4 + (1 : Int32))), (3, .int (v3 ||| (0 : Int32))), (0, .ref (ad v0)), (1, .ref (ad v1)), (2, .int v2)]) C.1 C.2.1 dX8_textsThatFit_48 hl (k := 4) rfl rfl (by decide) rfl (fun ls hl => ?_)
        refine lv_goto (tgt := 5) C.1 C.2.1 dX8_textsThatFit_51 (by decide) ?_
        exact ih q5.2 v0 v1 v2 (v3 ||| (0 : Int32)) (v4 + (1 : Int32)) hE hk_v0 hk_v1 hf _ _ _ h (lv_sub hl [2, 3, 4, 1, 0] rfl)
      · have hf := if_t hf c6
        refine lv_iconst (v := (1 : Int32)) C.1 C.2.1 dX8_textsThatFit_38 (by decide) ?_
        refine lv_iload C.1 C.2.1 dX8_textsThatFit_39 (lv_at hl 4 rfl) ?_
        refine lv_ishl C.1 C.2.1 dX8_textsThatFit_41 ?_
        refine lv_goto (tgt := 46) C.1 C.2.1 dX8_textsThatFit_42 (by decide) ?_
        refine lv_ior C.1 C.2.1 dX8_textsThatFit_46 ?_
        refine lv_istore_n (i := 3) (lv' := [(3, .int (v3 ||| ((1 : Int32) <<< (v4 &&& 31)))), (0, .ref (ad v0)), (1, .ref (ad v1)), (2, .int v2), (4, .int v4)]) C.1 C.2.1 dX8_textsThatFit_47 rfl hl (by decide) rfl (fun ls hl => ?_)
        refine lv_iinc (v := v4 + (1 : Int32)) (lv' := [(4, .int (v4 + (1 : Int32))), (3, .int (v3 ||| ((1 : Int32) <<< (v4 &&& 31)))), (0, .ref (ad v0)), (1, .ref (ad v1)), (2, .int v2)]) C.1 C.2.1 dX8_textsThatFit_48 hl (k := 4) rfl rfl (by decide) rfl (fun ls hl => ?_)
        refine lv_goto (tgt := 5) C.1 C.2.1 dX8_textsThatFit_51 (by decide) ?_
        exact ih q5.2 v0 v1 v2 (v3 ||| ((1 : Int32) <<< (v4 &&& 31))) (v4 + (1 : Int32)) hE hk_v0 hk_v1 hf _ _ _ h (lv_sub hl [2, 3, 4, 1, 0] rfl)
def f_X8_textsThatFit (fu : Nat) (σ : St_) (a0 : Nat) (x1 : Nat) (x2 : Int32) : Option (Int32 × St_) := f_X8_textsThatFit_5 fu fu σ a0 x1 x2 (0 : Int32) (0 : Int32)
set_option maxHeartbeats 4000000 in
set_option maxRecDepth 100000 in
theorem w_X8_textsThatFit {p : Program} {l : Launch} {e : Env} {R : Room} {s : State} {m : MethodId} {args : Array Value} {below : List Frame} {meth : Method} {c : Code} {κ : Ka_} {G : va_G} {cy : Nat → ClassId} {ad : Nat → Nat} {sz : Nat} {σ0 : St_} (fu : Nat) (C : CallFix p m c cX8_textsThatFit 5 s args wU_ RX8) (K : Kx_ κ G cy (va_A (wl_ cy ad σ0) sz) s) (hr : meth.sig.returnType = some .int) (hlk : meth.locks = false) (hR : 5 ≤ R.frames ∧ 123 ≤ R.locals) {q : Int32 × St_} : ∀ (σ : St_) (a0 : Nat) (x1 : Nat) (x2 : Int32), Ex_ σ0 σ → kd_ σ a0 = 8 → kd_ σ x1 = 4 → f_X8_textsThatFit fu σ a0 x1 x2 = some q → ∀ (H : Heap) (locs : List Loc) (ls : Array Slot), Ht_ G cy (va_A (wl_ cy ad σ0) sz) s ad σ H locs → lv_has ls 5 [(0, .ref (ad a0)), (1, .ref (ad x1)), (2, .int x2)] → W p l e R s m args below meth c H locs 0 0 (MQ below (Qi_ G cy ad σ0 q.2 sz q.1) args s 0 0 (va_A (wl_ cy ad σ0) sz)) (F0 m 0 ls []) := by
  intro σ a0 x1 x2 hE hk_a0 hk_x1 hf H locs ls h hl
  have hf : (f_X8_textsThatFit_5 fu fu σ a0 x1 x2 (0 : Int32) (0 : Int32)) = some q := hf
  refine lv_iconst (v := (0 : Int32)) C.1 C.2.1 dX8_textsThatFit_0 (by decide) ?_
  refine lv_istore_n (i := 3) (lv' := [(3, .int (0 : Int32)), (0, .ref (ad a0)), (1, .ref (ad x1)), (2, .int x2)]) C.1 C.2.1 dX8_textsThatFit_1 rfl hl (by decide) rfl (fun ls hl => ?_)
  refine lv_iconst (v := (0 : Int32)) C.1 C.2.1 dX8_textsThatFit_2 (by decide) ?_
  refine lv_istore (i := 4) (lv' := [(4, .int (0 : Int32)), (3, .int (0 : Int32)), (0, .ref (ad a0)), (1, .ref (ad x1)), (2, .int x2)]) C.1 C.2.1 dX8_textsThatFit_3 hl (by decide) rfl (fun ls hl => ?_)
  exact w_X8_textsThatFit_5 fu C K hr hlk hR fu σ a0 x1 x2 (0 : Int32) (0 : Int32) hE hk_a0 hk_x1 hf _ _ _ h (lv_sub hl [2, 3, 4, 1, 0] rfl)
theorem c_X8_textsThatFit (fu : Nat) (l : Launch) (κ : Ka_) (G : va_G) (cy : Nat → ClassId) (ad : Nat → Nat) (sz : Nat) (σ : St_) (a0 : Nat) (x1 : Nat) (x2 : Int32) (hk_a0 : kd_ σ a0 = 8) (hk_x1 : kd_ σ x1 = 4) {q : Int32 × St_} (hf : f_X8_textsThatFit fu σ a0 x1 x2 = some q) : Met l yX8_textsThatFit (Cond.code yX8_textsThatFit cX8_textsThatFit 5 (some .int) :: wU_) { frames := 5, cells := 0, slots := 0, locals := 123 } (va_Pc [.ref (ad a0), .ref (ad x1), .int x2] (Pr_ κ G cy ad σ sz)) (Qi_ G cy ad σ q.2 sz q.1) 0 0 (va_A (wl_ cy ad σ) sz) :=
  x_met (by decide) (fun p e R s m below meth c ls hR C hr hlk hin _ K h hl => w_X8_textsThatFit fu C K hr hlk ⟨hR.1, hR.2.1⟩ σ a0 x1 x2 Ex_.rf hk_a0 hk_x1 hf s.heap [] ls h hl) (Nat.le_of_ble_eq_true rfl)
-- X8_tells
theorem mi_X8_tells : Mi_ yX8_tells cX8_tells 7 (some .int) 3 := ⟨co_yX8_tells, in_RX8, by decide, by decide, by decide +kernel⟩
def f_X8_tells (fu : Nat) (σ : St_) (a0 : Nat) (x1 : Int32) (x2 : Int32) (x3 : Int32) : Option (Int32 × St_) := (f_X8_refusalOfTold fu σ a0 x1 x2 (f_X8_isBelow x3 (6 : Int32)) (20 : Int32) (36 : Int32)).bind fun q6 => (f_X8_sheetAt σ a0 x1).bind fun q7 => (dr_ σ 1 (sr_ σ a0 0)).bind fun b8 => (f_X1_carpetAt σ b8 x2).bind fun q9 => if q6 = 0 then oc_ q7 (some (q6, σ)) (fun b11 => if kd_ σ b11 = 4 then oc_ q9 (some (q6, σ)) (fun b12 => if kd_ σ b12 = 0 then (f_X8_think σ a0 b12).bind fun q13 => if x3 = (0 : Int32) then (f_X8_firstThatCannotBe fu q13 a0 b11 (si_ q13 b12 2)).bind fun q15 => some (q15.1, q15.2) else if x3 = (1 : Int32) then (f_X8_firstRow fu q13 a0 b11 (si_ q13 b12 2)).bind fun q17 => some (q17.1, q17.2) else if x3 = (2 : Int32) then (f_X8_sureWords fu q13 a0 b11 (si_ q13 b12 2)).bind fun q19 => some (q19.1, q19.2) else if x3 = (3 : Int32) then (f_X8_kindsThatFit fu q13 a0 b11 (si_ q13 b12 2)).bind fun q21 => some (q21.1, q21.2) else if x3 = (4 : Int32) then (f_X8_numbersThatFit fu q13 a0 b11 (si_ q13 b12 2)).bind fun q23 => some (q23.1, q23.2) else (f_X8_textsThatFit fu q13 a0 b11 (si_ q13 b12 2)).bind fun q24 => some (q24.1, q24.2) else none) else none) else some (q6, σ)
set_option maxHeartbeats 4000000 in
set_option maxRecDepth 100000 in
theorem w_X8_tells {p : Program} {l : Launch} {e : Env} {R : Room} {s : State} {m : MethodId} {args : Array Value} {below : List Frame} {meth : Method} {c : Code} {κ : Ka_} {G : va_G} {cy : Nat → ClassId} {ad : Nat → Nat} {sz : Nat} {σ0 : St_} (fu : Nat) (C : CallFix p m c cX8_tells 7 s args wU_ RX8) (K : Kx_ κ G cy (va_A (wl_ cy ad σ0) sz) s) (hr : meth.sig.returnType = some .int) (hlk : meth.locks = false) (hR : 6 ≤ R.frames ∧ 147 ≤ R.locals) {q : Int32 × St_} : ∀ (σ : St_) (a0 : Nat) (x1 : Int32) (x2 : Int32) (x3 : Int32), Ex_ σ0 σ → kd_ σ a0 = 8 → f_X8_tells fu σ a0 x1 x2 x3 = some q → ∀ (H : Heap) (locs : List Loc) (ls : Array Slot), Ht_ G cy (va_A (wl_ cy ad σ0) sz) s ad σ H locs → lv_has ls 7 [(0, .ref (ad a0)), (1, .int x1), (2, .int x2), (3, .int x3)] → W p l e R s m args below meth c H locs 0 0 (MQ below (Qi_ G cy ad σ0 q.2 sz q.1) args s 0 0 (va_A (wl_ cy ad σ0) sz)) (F0 m 0 ls []) := by
  intro σ a0 x1 x2 x3 hE hk_a0 hf H locs ls h hl
  have hf : ((f_X8_refusalOfTold fu σ a0 x1 x2 (f_X8_isBelow x3 (6 : Int32)) (20 : Int32) (36 : Int32)).bind fun q6 => (f_X8_sheetAt σ a0 x1).bind fun q7 => (dr_ σ 1 (sr_ σ a0 0)).bind fun b8 => (f_X1_carpetAt σ b8 x2).bind fun q9 => if q6 = 0 then oc_ q7 (some (q6, σ)) (fun b11 => if kd_ σ b11 = 4 then oc_ q9 (some (q6, σ)) (fun b12 => if kd_ σ b12 = 0 then (f_X8_think σ a0 b12).bind fun q13 => if x3 = (0 : Int32) then (f_X8_firstThatCannotBe fu q13 a0 b11 (si_ q13 b12 2)).bind fun q15 => some (q15.1, q15.2) else if x3 = (1 : Int32) then (f_X8_firstRow fu q13 a0 b11 (si_ q13 b12 2)).bind fun q17 => some (q17.1, q17.2) else if x3 = (2 : Int32) then (f_X8_sureWords fu q13 a0 b11 (si_ q13 b12 2)).bind fun q19 => some (q19.1, q19.2) else if x3 = (3 : Int32) then (f_X8_kindsThatFit fu q13 a0 b11 (si_ q13 b12 2)).bind fun q21 => some (q21.1, q21.2) else if x3 = (4 : Int32) then (f_X8_numbersThatFit fu q13 a0 b11 (si_ q13 b12 2)).bind fun q23 => some (q23.1, q23.2) else (f_X8_textsThatFit fu q13 a0 b11 (si_ q13 b12 2)).bind fun q24 => some (q24.1, q24.2) else none) else none) else some (q6, σ)) = some q := hf
  refine lv_aload_n C.1 C.2.1 dX8_tells_0 rfl (lv_at hl 0 rfl) ?_
  refine lv_iload_n C.1 C.2.1 dX8_tells_1 rfl (lv_at hl 1 rfl) ?_
  refine lv_iload_n C.1 C.2.1 dX8_tells_2 rfl (lv_at hl 2 rfl) ?_
  refine lv_iload_n C.1 C.2.1 dX8_tells_3 rfl (lv_at hl 3 rfl) ?_
  refine lv_bipush (v := (6 : Int32)) C.1 C.2.1 dX8_tells_4 (by decide) ?_
  refine x_az K h (x_S C K h [.int x3, .int (6 : Int32)] (c_X8_isBelow l κ G cy ad H.size σ x3 (6 : Int32) rfl) mi_X8_isBelow rfl st_yX8_isBelow ml_RX8_116 ⟨rfl, rfl, Nat.le_trans (Nat.le_of_ble_eq_true rfl) hR.1, Nat.le_trans (Nat.le_of_ble_eq_true rfl) hR.2⟩ hl (Nat.le_of_ble_eq_true rfl) dX8_tells_6 ⟨Nat.zero_le _, Nat.zero_le _⟩ rfl) (fun H locs h hX hz5 => ?_)
  refine lv_bipush (v := (20 : Int32)) C.1 C.2.1 dX8_tells_9 (by decide) ?_
  refine lv_bipush (v := (36 : Int32)) C.1 C.2.1 dX8_tells_11 (by decide) ?_
  obtain ⟨q6, hq_q6, hf⟩ := ob_ hf
  refine x_ai K h (x_V C K h [.int x1, .int x2, .int (f_X8_isBelow x3 (6 : Int32)), .int (20 : Int32), .int (36 : Int32)] (c_X8_refusalOfTold fu l κ G cy ad H.size σ a0 x1 x2 (f_X8_isBelow x3 (6 : Int32)) (20 : Int32) (36 : Int32) hk_a0 hq_q6) mi_X8_refusalOfTold rfl im_yX8_refusalOfTold se_yX8_refusalOfTold ml_RX8_188 cl_8 hk_a0 ⟨rfl, rfl, Nat.le_trans (Nat.le_of_ble_eq_true rfl) hR.1, Nat.le_trans (Nat.le_of_ble_eq_true rfl) hR.2⟩ hl (Nat.le_of_ble_eq_true rfl) dX8_tells_13 ⟨Nat.zero_le _, Nat.zero_le _⟩ rfl) (fun H locs h hX => ?_)
  refine lv_istore (i := 4) (lv' := [(4, .int q6), (0, .ref (ad a0)), (1, .int x1), (2, .int x2), (3, .int x3)]) C.1 C.2.1 dX8_tells_16 hl (by decide) rfl (fun ls hl => ?_)
  refine lv_aload_n C.1 C.2.1 dX8_tells_18 rfl (lv_at hl 1 rfl) ?_
  refine lv_iload_n C.1 C.2.1 dX8_tells_19 rfl (lv_at hl 2 rfl) ?_
  obtain ⟨q7, hq_q7, hf⟩ := ob_ hf
  refine x_aq K h (x_V C K h [.int x1] (c_X8_sheetAt l κ G cy ad H.size σ a0 x1 hk_a0 hq_q7) mi_X8_sheetAt rfl im_yX8_sheetAt se_yX8_sheetAt ml_RX8_192 cl_8 hk_a0 ⟨rfl, rfl, Nat.le_trans (Nat.le_of_ble_eq_true rfl) hR.1, Nat.le_trans (Nat.le_of_ble_eq_true rfl) hR.2⟩ hl (Nat.le_of_ble_eq_true rfl) dX8_tells_20 ⟨Nat.zero_le _, Nat.zero_le _⟩ rfl) (fun H locs h hX => ?_)
  refine x_astoreq (i := 5) (lv' := [(5, rv_ ad q7), (4, .int q6), (0, .ref (ad a0)), (1, .int x1), (2, .int x2), (3, .int x3)]) C.1 C.2.1 dX8_tells_23 hl (by decide) rfl (fun ls hl => ?_)
  refine lv_aload_n C.1 C.2.1 dX8_tells_25 rfl (lv_at hl 2 rfl) ?_
  obtain ⟨b8, hb_b8, hf⟩ := ob_ hf
  obtain ⟨hq_b8, hk_b8⟩ := dr_in hb_b8
  refine x_get (v := .ref (ad b8)) C K h cl_8 hk_a0 0 (by decide) fl_RX8_12 (hv_r (o := sr_ σ a0 0) rfl hq_b8) dX8_tells_26 ?_
  refine lv_iload_n C.1 C.2.1 dX8_tells_29 rfl (lv_at hl 4 rfl) ?_
  obtain ⟨q9, hq_q9, hf⟩ := ob_ hf
  refine x_aq K h (x_VN C K h [.int x2] (c_X1_carpetAt l κ G cy ad H.size σ b8 x2 hk_b8 hq_q9) mi_X1_carpetAt rfl im_yX1_carpetAt se_yX1_carpetAt nm_RX8_130 cl_1 hk_b8 ⟨rfl, rfl, Nat.le_trans (Nat.le_of_ble_eq_true rfl) hR.1, Nat.le_trans (Nat.le_of_ble_eq_true rfl) hR.2⟩ hl (Nat.le_of_ble_eq_true rfl) dX8_tells_30 ⟨Nat.zero_le _, Nat.zero_le _⟩ rfl) (fun H locs h hX => ?_)
  refine x_astoreq (i := 6) (lv' := [(6, rv_ ad q9), (5, rv_ ad q7), (4, .int q6), (0, .ref (ad a0)), (1, .int x1), (2, .int x2), (3, .int x3)]) C.1 C.2.1 dX8_tells_33 hl (by decide) (by simp [rv_c]) (fun ls hl => ?_)
  refine lv_iload C.1 C.2.1 dX8_tells_35 (lv_at hl 2 rfl) ?_
  refine lv_if_ne (tgt := 50) C.1 C.2.1 dX8_tells_37 (by decide) (fun c10 => ?_) (fun c10 => ?_)
  · have hf := if_f hf c10
    refine lv_iload C.1 C.2.1 dX8_tells_50 (lv_at hl 2 rfl) ?_
    exact x_ri C hr hlk h hE (pf_1 (Option.some.inj hf)) (pf_2 (Option.some.inj hf)) dX8_tells_52
  · have hf := if_t hf c10
    refine x_aloadq C.1 C.2.1 dX8_tells_40 (lv_at hl 1 rfl) ?_
    cases q7 with
    | none =>
      have hf := oc_n hf
      refine lv_ifnullN (tgt := 50) C.1 C.2.1 dX8_tells_42 (by decide) ?_
      refine lv_iload C.1 C.2.1 dX8_tells_50 (lv_at hl 2 rfl) ?_
      exact x_ri C hr hlk h hE (pf_1 (Option.some.inj hf)) (pf_2 (Option.some.inj hf)) dX8_tells_52
    | some b11 =>
      obtain ⟨hk_b11, hf⟩ := gd_ (oc_s hf)
      refine lv_ifnull C.1 C.2.1 dX8_tells_42 ?_
      refine x_aloadq C.1 C.2.1 dX8_tells_45 (lv_at hl 0 rfl) ?_
      cases q9 with
      | none =>
        have hf := oc_n hf
        refine lv_ifnonnullN C.1 C.2.1 dX8_tells_47 ?_
        refine lv_iload C.1 C.2.1 dX8_tells_50 (lv_at hl 2 rfl) ?_
        exact x_ri C hr hlk h hE (pf_1 (Option.some.inj hf)) (pf_2 (Option.some.inj hf)) dX8_tells_52
      | some b12 =>
        obtain ⟨hk_b12, hf⟩ := gd_ (oc_s hf)
        refine lv_ifnonnull (tgt := 53) C.1 C.2.1 dX8_tells_47 (by decide) ?_
        refine lv_aload_n C.1 C.2.1 dX8_tells_53 rfl (lv_at hl 3 rfl) ?_
        refine lv_aload C.1 C.2.1 dX8_tells_54 (lv_at hl 0 rfl) ?_
        obtain ⟨q13, hq_q13, hf⟩ := ob_ hf
        refine x_av K h (x_V C K h [.ref (ad b12)] (c_X8_think l κ G cy ad H.size σ a0 b12 hk_a0 hk_b12 hq_q13) mi_X8_think rfl im_yX8_think se_yX8_think ml_RX8_153 cl_8 hk_a0 ⟨rfl, rfl, Nat.le_trans (Nat.le_of_ble_eq_true rfl) hR.1, Nat.le_trans (Nat.le_of_ble_eq_true rfl) hR.2⟩ hl (Nat.le_of_ble_eq_true rfl) dX8_tells_56 ⟨Nat.zero_le _, Nat.zero_le _⟩ rfl) (fun H locs h hX => ?_)
        have hE := hE.trans hX
        have hk_a0 := hX.k hk_a0 (by decide)
        have hk_b11 := hX.k hk_b11 (by decide)
        have hk_b12 := hX.k hk_b12 (by decide)
        refine lv_iload_n C.1 C.2.1 dX8_tells_59 rfl (lv_at hl 6 rfl) ?_
        by_cases c14 : x3 = (0 : Int32)
        · have hf := if_t hf c14
          refine lv_tableIn (off := 36) (tgt := 96) C.1 C.2.1 dX8_tells_60 (by rw [c14]; decide) (by rw [c14]; decide) (by rw [c14]; rfl) (by decide) ?_
          refine lv_aload_n C.1 C.2.1 dX8_tells_96 rfl (lv_at hl 3 rfl) ?_
          refine lv_aload C.1 C.2.1 dX8_tells_97 (lv_at hl 1 rfl) ?_
          refine lv_aload C.1 C.2.1 dX8_tells_99 (lv_at hl 0 rfl) ?_
          refine x_getN (v := .int (si_ q13 b12 2)) C K h cl_0 hk_b12 2 (by decide) nf_RX8_157 rfl dX8_tells_101 ?_
          obtain ⟨q15, hq_q15, hf⟩ := ob_ hf
          refine x_ai K h (x_V C K h [.ref (ad b11), .int (si_ q13 b12 2)] (c_X8_firstThatCannotBe fu l κ G cy ad H.size q13 a0 b11 (si_ q13 b12 2) hk_a0 hk_b11 hq_q15) mi_X8_firstThatCannotBe rfl im_yX8_firstThatCannotBe se_yX8_firstThatCannotBe ml_RX8_254 cl_8 hk_a0 ⟨rfl, rfl, Nat.le_trans (Nat.le_of_ble_eq_true rfl) hR.1, Nat.le_trans (Nat.le_of_ble_eq_true rfl) hR.2⟩ hl (Nat.le_of_ble_eq_true rfl) dX8_tells_104 ⟨Nat.zero_le _, Nat.zero_le _⟩ rfl) (fun H locs h hX => ?_)
          have hE := hE.trans hX
          have hk_a0 := hX.k hk_a0 (by decide)
          have hk_b11 := hX.k hk_b11 (by decide)
          have hk_b12 := hX.k hk_b12 (by decide)
          exact x_ri C hr hlk h hE (pf_1 (Option.some.inj hf)) (pf_2 (Option.some.inj hf)) dX8_tells_107
        · have hf := if_f hf c14
          by_cases c16 : x3 = (1 : Int32)
          · have hf := if_t hf c16
            refine lv_tableIn (off := 48) (tgt := 108) C.1 C.2.1 dX8_tells_60 (by rw [c16]; decide) (by rw [c16]; decide) (by rw [c16]; rfl) (by decide) ?_
            refine lv_aload_n C.1 C.2.1 dX8_tells_108 rfl (lv_at hl 3 rfl) ?_
            refine lv_aload C.1 C.2.1 dX8_tells_109 (lv_at hl 1 rfl) ?_
            refine lv_aload C.1 C.2.1 dX8_tells_111 (lv_at hl 0 rfl) ?_
            refine x_getN (v := .int (si_ q13 b12 2)) C K h cl_0 hk_b12 2 (by decide) nf_RX8_157 rfl dX8_tells_113 ?_
            obtain ⟨q17, hq_q17, hf⟩ := ob_ hf
            refine x_ai K h (x_V C K h [.ref (ad b11), .int (si_ q13 b12 2)] (c_X8_firstRow fu l κ G cy ad H.size q13 a0 b11 (si_ q13 b12 2) hk_a0 hk_b11 hq_q17) mi_X8_firstRow rfl im_yX8_firstRow se_yX8_firstRow ml_RX8_258 cl_8 hk_a0 ⟨rfl, rfl, Nat.le_trans (Nat.le_of_ble_eq_true rfl) hR.1, Nat.le_trans (Nat.le_of_ble_eq_true rfl) hR.2⟩ hl (Nat.le_of_ble_eq_true rfl) dX8_tells_116 ⟨Nat.zero_le _, Nat.zero_le _⟩ rfl) (fun H locs h hX => ?_)
            have hE := hE.trans hX
            have hk_a0 := hX.k hk_a0 (by decide)
            have hk_b11 := hX.k hk_b11 (by decide)
            have hk_b12 := hX.k hk_b12 (by decide)
            exact x_ri C hr hlk h hE (pf_1 (Option.some.inj hf)) (pf_2 (Option.some.inj hf)) dX8_tells_119
          · have hf := if_f hf c16
            by_cases c18 : x3 = (2 : Int32)
            · have hf := if_t hf c18
              refine lv_tableIn (off := 60) (tgt := 120) C.1 C.2.1 dX8_tells_60 (by rw [c18]; decide) (by rw [c18]; decide) (by rw [c18]; rfl) (by decide) ?_
              refine lv_aload_n C.1 C.2.1 dX8_tells_120 rfl (lv_at hl 3 rfl) ?_
              refine lv_aload C.1 C.2.1 dX8_tells_121 (lv_at hl 1 rfl) ?_
              refine lv_aload C.1 C.2.1 dX8_tells_123 (lv_at hl 0 rfl) ?_
              refine x_getN (v := .int (si_ q13 b12 2)) C K h cl_0 hk_b12 2 (by decide) nf_RX8_157 rfl dX8_tells_125 ?_
              obtain ⟨q19, hq_q19, hf⟩ := ob_ hf
              refine x_ai K h (x_V C K h [.ref (ad b11), .int (si_ q13 b12 2)] (c_X8_sureWords fu l κ G cy ad H.size q13 a0 b11 (si_ q13 b12 2) hk_a0 hk_b11 hq_q19) mi_X8_sureWords rfl im_yX8_sureWords se_yX8_sureWords ml_RX8_261 cl_8 hk_a0 ⟨rfl, rfl, Nat.le_trans (Nat.le_of_ble_eq_true rfl) hR.1, Nat.le_trans (Nat.le_of_ble_eq_true rfl) hR.2⟩ hl (Nat.le_of_ble_eq_true rfl) dX8_tells_128 ⟨Nat.zero_le _, Nat.zero_le _⟩ rfl) (fun H locs h hX => ?_)
              have hE := hE.trans hX
              have hk_a0 := hX.k hk_a0 (by decide)
              have hk_b11 := hX.k hk_b11 (by decide)
              have hk_b12 := hX.k hk_b12 (by decide)
              exact x_ri C hr hlk h hE (pf_1 (Option.some.inj hf)) (pf_2 (Option.some.inj hf)) dX8_tells_131
            · have hf := if_f hf c18
              by_cases c20 : x3 = (3 : Int32)
              · have hf := if_t hf c20
                refine lv_tableIn (off := 72) (tgt := 132) C.1 C.2.1 dX8_tells_60 (by rw [c20]; decide) (by rw [c20]; decide) (by rw [c20]; rfl) (by decide) ?_
                refine lv_aload_n C.1 C.2.1 dX8_tells_132 rfl (lv_at hl 3 rfl) ?_
                refine lv_aload C.1 C.2.1 dX8_tells_133 (lv_at hl 1 rfl) ?_
                refine lv_aload C.1 C.2.1 dX8_tells_135 (lv_at hl 0 rfl) ?_
                refine x_getN (v := .int (si_ q13 b12 2)) C K h cl_0 hk_b12 2 (by decide) nf_RX8_157 rfl dX8_tells_137 ?_
                obtain ⟨q21, hq_q21, hf⟩ := ob_ hf
                refine x_ai K h (x_V C K h [.ref (ad b11), .int (si_ q13 b12 2)] (c_X8_kindsThatFit fu l κ G cy ad H.size q13 a0 b11 (si_ q13 b12 2) hk_a0 hk_b11 hq_q21) mi_X8_kindsThatFit rfl im_yX8_kindsThatFit se_yX8_kindsThatFit ml_RX8_264 cl_8 hk_a0 ⟨rfl, rfl, Nat.le_trans (Nat.le_of_ble_eq_true rfl) hR.1, Nat.le_trans (Nat.le_of_ble_eq_true rfl) hR.2⟩ hl (Nat.le_of_ble_eq_true rfl) dX8_tells_140 ⟨Nat.zero_le _, Nat.zero_le _⟩ rfl) (fun H locs h hX => ?_)
                have hE := hE.trans hX
                have hk_a0 := hX.k hk_a0 (by decide)
                have hk_b11 := hX.k hk_b11 (by decide)
                have hk_b12 := hX.k hk_b12 (by decide)
                exact x_ri C hr hlk h hE (pf_1 (Option.some.inj hf)) (pf_2 (Option.some.inj hf)) dX8_tells_143
              · have hf := if_f hf c20
                by_cases c22 : x3 = (4 : Int32)
                · have hf := if_t hf c22
                  refine lv_tableIn (off := 84) (tgt := 144) C.1 C.2.1 dX8_tells_60 (by rw [c22]; decide) (by rw [c22]; decide) (by rw [c22]; rfl) (by decide) ?_
                  refine lv_aload_n C.1 C.2.1 dX8_tells_144 rfl (lv_at hl 3 rfl) ?_
                  refine lv_aload C.1 C.2.1 dX8_tells_145 (lv_at hl 1 rfl) ?_
                  refine lv_aload C.1 C.2.1 dX8_tells_147 (lv_at hl 0 rfl) ?_
                  refine x_getN (v := .int (si_ q13 b12 2)) C K h cl_0 hk_b12 2 (by decide) nf_RX8_157 rfl dX8_tells_149 ?_
                  obtain ⟨q23, hq_q23, hf⟩ := ob_ hf
                  refine x_ai K h (x_V C K h [.ref (ad b11), .int (si_ q13 b12 2)] (c_X8_numbersThatFit fu l κ G cy ad H.size q13 a0 b11 (si_ q13 b12 2) hk_a0 hk_b11 hq_q23) mi_X8_numbersThatFit rfl im_yX8_numbersThatFit se_yX8_numbersThatFit ml_RX8_267 cl_8 hk_a0 ⟨rfl, rfl, Nat.le_trans (Nat.le_of_ble_eq_true rfl) hR.1, Nat.le_trans (Nat.le_of_ble_eq_true rfl) hR.2⟩ hl (Nat.le_of_ble_eq_true rfl) dX8_tells_152 ⟨Nat.zero_le _, Nat.zero_le _⟩ rfl) (fun H locs h hX => ?_)
                  have hE := hE.trans hX
                  have hk_a0 := hX.k hk_a0 (by decide)
                  have hk_b11 := hX.k hk_b11 (by decide)
                  have hk_b12 := hX.k hk_b12 (by decide)
                  exact x_ri C hr hlk h hE (pf_1 (Option.some.inj hf)) (pf_2 (Option.some.inj hf)) dX8_tells_155
                · have hf := if_f hf c22
                  refine lv_tableOut (tgt := 156) C.1 C.2.1 dX8_tells_60 (by have e0 := ne_i c14 (z := 0) (by decide); have e1 := ne_i c16 (z := 1) (by decide); have e2 := ne_i c18 (z := 2) (by decide); have e3 := ne_i c20 (z := 3) (by decide); have e4 := ne_i c22 (z := 4) (by decide); omega) (by decide) ?_
                  refine lv_aload_n C.1 C.2.1 dX8_tells_156 rfl (lv_at hl 3 rfl) ?_
                  refine lv_aload C.1 C.2.1 dX8_tells_157 (lv_at hl 1 rfl) ?_
                  refine lv_aload C.1 C.2.1 dX8_tells_159 (lv_at hl 0 rfl) ?_
                  refine x_getN (v := .int (si_ q13 b12 2)) C K h cl_0 hk_b12 2 (by decide) nf_RX8_157 rfl dX8_tells_161 ?_
                  obtain ⟨q24, hq_q24, hf⟩ := ob_ hf
                  refine x_ai K h (x_V C K h [.ref (ad b11), .int (si_ q13 b12 2)] (c_X8_textsThatFit fu l κ G cy ad H.size q13 a0 b11 (si_ q13 b12 2) hk_a0 hk_b11 hq_q24) mi_X8_textsThatFit rfl im_yX8_textsThatFit se_yX8_textsThatFit ml_RX8_270 cl_8 hk_a0 ⟨rfl, rfl, Nat.le_trans (Nat.le_of_ble_eq_true rfl) hR.1, Nat.le_trans (Nat.le_of_ble_eq_true rfl) hR.2⟩ hl (Nat.le_of_ble_eq_true rfl) dX8_tells_164 ⟨Nat.zero_le _, Nat.zero_le _⟩ rfl) (fun H locs h hX => ?_)
                  have hE := hE.trans hX
                  have hk_a0 := hX.k hk_a0 (by decide)
                  have hk_b11 := hX.k hk_b11 (by decide)
                  have hk_b12 := hX.k hk_b12 (by decide)
                  exact x_ri C hr hlk h hE (pf_1 (Option.some.inj hf)) (pf_2 (Option.some.inj hf)) dX8_tells_167
theorem c_X8_tells (fu : Nat) (l : Launch) (κ : Ka_) (G : va_G) (cy : Nat → ClassId) (ad : Nat → Nat) (sz : Nat) (σ : St_) (a0 : Nat) (x1 : Int32) (x2 : Int32) (x3 : Int32) (hk_a0 : kd_ σ a0 = 8) {q : Int32 × St_} (hf : f_X8_tells fu σ a0 x1 x2 x3 = some q) : Met l yX8_tells (Cond.code yX8_tells cX8_tells 7 (some .int) :: wU_) { frames := 6, cells := 0, slots := 0, locals := 147 } (va_Pc [.ref (ad a0), .int x1, .int x2, .int x3] (Pr_ κ G cy ad σ sz)) (Qi_ G cy ad σ q.2 sz q.1) 0 0 (va_A (wl_ cy ad σ) sz) :=
  x_met (by decide) (fun p e R s m below meth c ls hR C hr hlk hin _ K h hl => w_X8_tells fu C K hr hlk ⟨hR.1, hR.2.1⟩ σ a0 x1 x2 x3 Ex_.rf hk_a0 hf s.heap [] ls h hl) (Nat.le_of_ble_eq_true rfl)
-- X8_howMany
theorem mi_X8_howMany : Mi_ yX8_howMany cX8_howMany 6 (some .long) 2 := ⟨co_yX8_howMany, in_RX8, by decide, by decide, by decide +kernel⟩
def f_X8_howMany_5 (fu : Nat) : Nat → St_ → Nat → Nat → Int32 → Int64 → Int32 → Option (Int64 × St_)
  | 0 => fun _ _ _ _ _ _ => none
  | n + 1 => fun σ  v0  v1  v2  v3  v5 => if (si_ σ v1 2) ≤ v5 then some (v3, σ) else (dr_ σ 6 (sr_ σ v0 7)).bind fun b2 => (f_X8_cellAhead σ v1 v5 v2).bind fun q3 => (f_X4_item σ v1 v5).bind fun q4 => (f_X6_wordCount fu σ b2 q3 q4).bind fun q5 => (f_X8_howMany_5 fu n) q5.2 v0 v1 v2 (v3 * q5.1.toInt64) (v5 + (1 : Int32))
set_option maxHeartbeats 4000000 in
set_option maxRecDepth 100000 in
theorem w_X8_howMany_5 {p : Program} {l : Launch} {e : Env} {R : Room} {s : State} {m : MethodId} {args : Array Value} {below : List Frame} {meth : Method} {c : Code} {κ : Ka_} {G : va_G} {cy : Nat → ClassId} {ad : Nat → Nat} {sz : Nat} {σ0 : St_} (fu : Nat) (C : CallFix p m c cX8_howMany 6 s args wU_ RX8) (K : Kx_ κ G cy (va_A (wl_ cy ad σ0) sz) s) (hr : meth.sig.returnType = some .long) (hlk : meth.locks = false) (hR : 4 ≤ R.frames ∧ 101 ≤ R.locals) {q : Int64 × St_} : ∀ n : Nat, ∀ (σ : St_) (v0 : Nat) (v1 : Nat) (v2 : Int32) (v3 : Int64) (v5 : Int32), Ex_ σ0 σ → kd_ σ v0 = 8 → kd_ σ v1 = 4 → f_X8_howMany_5 fu n σ v0 v1 v2 v3 v5 = some q → ∀ (H : Heap) (locs : List Loc) (ls : Array Slot), Ht_ G cy (va_A (wl_ cy ad σ0) sz) s ad σ H locs → lv_has ls 6 [(0, .ref (ad v0)), (1, .ref (ad v1)), (2, .int v2), (3, .long v3), (5, .int v5)] → W p l e R s m args below meth c H locs 0 0 (MQ below (Ql_ G cy ad σ0 q.2 sz q.1) args s 0 0 (va_A (wl_ cy ad σ0) sz)) (F0 m 5 ls []) := by
  intro n
  induction n with
  | zero =>
    intro σ v0 v1 v2 v3 v5 hE hk_v0 hk_v1 hf H locs ls h hl
    cases hf
  | succ n ih =>
    intro σ v0 v1 v2 v3 v5 hE hk_v0 hk_v1 hf H locs ls h hl
    have hf : (if (si_ σ v1 2) ≤ v5 then some (v3, σ) else (dr_ σ 6 (sr_ σ v0 7)).bind fun b2 => (f_X8_cellAhead σ v1 v5 v2).bind fun q3 => (f_X4_item σ v1 v5).bind fun q4 => (f_X6_wordCount fu σ b2 q3 q4).bind fun q5 => (f_X8_howMany_5 fu n) q5.2 v0 v1 v2 (v3 * q5.1.toInt64) (v5 + (1 : Int32))) = some q := hf
    refine lv_iload C.1 C.2.1 dX8_howMany_5 (lv_at hl 4 rfl) ?_
    refine lv_aload_n C.1 C.2.1 dX8_howMany_7 rfl (lv_at hl 1 rfl) ?_
    refine x_getN (v := .int (si_ σ v1 2)) C K h cl_4 hk_v1 2 (by decide) nf_RX8_196 rfl dX8_howMany_8 ?_
    refine lv_icmp_ge (tgt := 44) C.1 C.2.1 dX8_howMany_11 (by decide) (fun c1 => ?_) (fun c1 => ?_)
    · have hf := if_t hf c1
      refine lv_lload_n C.1 C.2.1 dX8_howMany_44 rfl (lv_at hl 3 rfl) ?_
      exact x_rl C hr hlk h hE (pf_1 (Option.some.inj hf)) (pf_2 (Option.some.inj hf)) dX8_howMany_45
    · have hf := if_f hf c1
      refine lv_lload_n C.1 C.2.1 dX8_howMany_14 rfl (lv_at hl 3 rfl) ?_
      refine lv_aload_n C.1 C.2.1 dX8_howMany_15 rfl (lv_at hl 0 rfl) ?_
      obtain ⟨b2, hb_b2, hf⟩ := ob_ hf
      obtain ⟨hq_b2, hk_b2⟩ := dr_in hb_b2
      refine x_get (v := .ref (ad b2)) C K h cl_8 hk_v0 7 (by decide) fl_RX8_49 (hv_r (o := sr_ σ v0 7) rfl hq_b2) dX8_howMany_16 ?_
      refine lv_aload_n C.1 C.2.1 dX8_howMany_19 rfl (lv_at hl 1 rfl) ?_
      refine lv_iload C.1 C.2.1 dX8_howMany_20 (lv_at hl 4 rfl) ?_
      refine lv_iload_n C.1 C.2.1 dX8_howMany_22 rfl (lv_at hl 2 rfl) ?_
      obtain ⟨q3, hq_q3, hf⟩ := ob_ hf
      refine x_ai K h (x_S C K h [.ref (ad v1), .int v5, .int v2] (c_X8_cellAhead l κ G cy ad H.size σ v1 v5 v2 hk_v1 hq_q3) mi_X8_cellAhead rfl st_yX8_cellAhead ml_RX8_288 ⟨rfl, rfl, Nat.le_trans (Nat.le_of_ble_eq_true rfl) hR.1, Nat.le_trans (Nat.le_of_ble_eq_true rfl) hR.2⟩ hl (Nat.le_of_ble_eq_true rfl) dX8_howMany_23 ⟨Nat.zero_le _, Nat.zero_le _⟩ rfl) (fun H locs h hX => ?_)
      refine lv_aload_n C.1 C.2.1 dX8_howMany_26 rfl (lv_at hl 1 rfl) ?_
      refine lv_iload C.1 C.2.1 dX8_howMany_27 (lv_at hl 4 rfl) ?_
      obtain ⟨q4, hq_q4, hf⟩ := ob_ hf
      refine x_ai K h (x_VN C K h [.int v5] (c_X4_item l κ G cy ad H.size σ v1 v5 hk_v1 hq_q4) mi_X4_item rfl im_yX4_item se_yX4_item nm_RX8_199 cl_4 hk_v1 ⟨rfl, rfl, Nat.le_trans (Nat.le_of_ble_eq_true rfl) hR.1, Nat.le_trans (Nat.le_of_ble_eq_true rfl) hR.2⟩ hl (Nat.le_of_ble_eq_true rfl) dX8_howMany_29 ⟨Nat.zero_le _, Nat.zero_le _⟩ rfl) (fun H locs h hX => ?_)
      obtain ⟨q5, hq_q5, hf⟩ := ob_ hf
      refine x_ai K h (x_VN C K h [.int q3, .int q4] (c_X6_wordCount fu l κ G cy ad H.size σ b2 q3 q4 hk_b2 hq_q5) mi_X6_wordCount rfl im_yX6_wordCount se_yX6_wordCount nm_RX8_295 cl_6 hk_b2 ⟨rfl, rfl, Nat.le_trans (Nat.le_of_ble_eq_true rfl) hR.1, Nat.le_trans (Nat.le_of_ble_eq_true rfl) hR.2⟩ hl (Nat.le_of_ble_eq_true rfl) dX8_howMany_32 ⟨Nat.zero_le _, Nat.zero_le _⟩ rfl) (fun H locs h hX => ?_)
      have hE := hE.trans hX
      have hk_v0 := hX.k hk_v0 (by decide)
      have hk_v1 := hX.k hk_v1 (by decide)
      refine lv_i2l C.1 C.2.1 dX8_howMany_35 rfl ?_
      refine lv_lmul C.1 C.2.1 dX8_howMany_36 ?_
      refine lv_lstore_n (i := 3) (lv' := [(3, .long (v3 * q5.1.toInt64)), (0, .ref (ad v0)), (1, .ref (ad v1)), (2, .int v2), (5, .int v5)]) C.1 C.2.1 dX8_howMany_37 rfl hl (by decide) rfl (fun ls hl => ?_)
      refine lv_iinc (v := v5 + (1 : Int32)) (lv' := [(5, .int (v5 + (1 : Int32))), (3, .long (v3 * q5.1.toInt64)), (0, .ref (ad v0)), (1, .ref (ad v1)), (2, .int v2)]) C.1 C.2.1 dX8_howMany_38 hl (k := 4) rfl rfl (by decide) rfl (fun ls hl => ?_)
      refine lv_goto (tgt := 5) C.1 C.2.1 dX8_howMany_41 (by decide) ?_
      exact ih q5.2 v0 v1 v2 (v3 * q5.1.toInt64) (v5 + (1 : Int32)) hE hk_v0 hk_v1 hf _ _ _ h (lv_sub hl [2, 3, 4, 1, 0] rfl)
def f_X8_howMany (fu : Nat) (σ : St_) (a0 : Nat) (x1 : Nat) (x2 : Int32) : Option (Int64 × St_) := f_X8_howMany_5 fu fu σ a0 x1 x2 (1 : Int64) (0 : Int32)
set_option maxHeartbeats 4000000 in
set_option maxRecDepth 100000 in
theorem w_X8_howMany {p : Program} {l : Launch} {e : Env} {R : Room} {s : State} {m : MethodId} {args : Array Value} {below : List Frame} {meth : Method} {c : Code} {κ : Ka_} {G : va_G} {cy : Nat → ClassId} {ad : Nat → Nat} {sz : Nat} {σ0 : St_} (fu : Nat) (C : CallFix p m c cX8_howMany 6 s args wU_ RX8) (K : Kx_ κ G cy (va_A (wl_ cy ad σ0) sz) s) (hr : meth.sig.returnType = some .long) (hlk : meth.locks = false) (hR : 4 ≤ R.frames ∧ 101 ≤ R.locals) {q : Int64 × St_} : ∀ (σ : St_) (a0 : Nat) (x1 : Nat) (x2 : Int32), Ex_ σ0 σ → kd_ σ a0 = 8 → kd_ σ x1 = 4 → f_X8_howMany fu σ a0 x1 x2 = some q → ∀ (H : Heap) (locs : List Loc) (ls : Array Slot), Ht_ G cy (va_A (wl_ cy ad σ0) sz) s ad σ H locs → lv_has ls 6 [(0, .ref (ad a0)), (1, .ref (ad x1)), (2, .int x2)] → W p l e R s m args below meth c H locs 0 0 (MQ below (Ql_ G cy ad σ0 q.2 sz q.1) args s 0 0 (va_A (wl_ cy ad σ0) sz)) (F0 m 0 ls []) := by
  intro σ a0 x1 x2 hE hk_a0 hk_x1 hf H locs ls h hl
  have hf : (f_X8_howMany_5 fu fu σ a0 x1 x2 (1 : Int64) (0 : Int32)) = some q := hf
  refine lv_lconst (v := (1 : Int64)) C.1 C.2.1 dX8_howMany_0 (by decide) ?_
  refine lv_lstore_n (i := 3) (lv' := [(3, .long (1 : Int64)), (0, .ref (ad a0)), (1, .ref (ad x1)), (2, .int x2)]) C.1 C.2.1 dX8_howMany_1 rfl hl (by decide) rfl (fun ls hl => ?_)
  refine lv_iconst (v := (0 : Int32)) C.1 C.2.1 dX8_howMany_2 (by decide) ?_
  refine lv_istore (i := 5) (lv' := [(5, .int (0 : Int32)), (3, .long (1 : Int64)), (0, .ref (ad a0)), (1, .ref (ad x1)), (2, .int x2)]) C.1 C.2.1 dX8_howMany_3 hl (by decide) rfl (fun ls hl => ?_)
  exact w_X8_howMany_5 fu C K hr hlk hR fu σ a0 x1 x2 (1 : Int64) (0 : Int32) hE hk_a0 hk_x1 hf _ _ _ h (lv_sub hl [2, 3, 4, 1, 0] rfl)
theorem c_X8_howMany (fu : Nat) (l : Launch) (κ : Ka_) (G : va_G) (cy : Nat → ClassId) (ad : Nat → Nat) (sz : Nat) (σ : St_) (a0 : Nat) (x1 : Nat) (x2 : Int32) (hk_a0 : kd_ σ a0 = 8) (hk_x1 : kd_ σ x1 = 4) {q : Int64 × St_} (hf : f_X8_howMany fu σ a0 x1 x2 = some q) : Met l yX8_howMany (Cond.code yX8_howMany cX8_howMany 6 (some .long) :: wU_) { frames := 4, cells := 0, slots := 0, locals := 101 } (va_Pc [.ref (ad a0), .ref (ad x1), .int x2] (Pr_ κ G cy ad σ sz)) (Ql_ G cy ad σ q.2 sz q.1) 0 0 (va_A (wl_ cy ad σ) sz) :=
  x_met (by decide) (fun p e R s m below meth c ls hR C hr hlk hin _ K h hl => w_X8_howMany fu C K hr hlk ⟨hR.1, hR.2.1⟩ σ a0 x1 x2 Ex_.rf hk_a0 hk_x1 hf s.heap [] ls h hl) (Nat.le_of_ble_eq_true rfl)
-- X8_startsThatFit
theorem mi_X8_startsThatFit : Mi_ yX8_startsThatFit cX8_startsThatFit 5 (some .long) 1 := ⟨co_yX8_startsThatFit, in_RX8, by decide, by decide, by decide +kernel⟩
def f_X8_startsThatFit_57 (fu : Nat) : Nat → St_ → Nat → Nat → Int64 → Int32 → Option (Int64 × St_)
  | 0 => fun _ _ _ _ _ => none
  | n + 1 => fun σ  v0  v1  v2  v4 => if (36 : Int32) ≤ v4 then some (v2, σ) else (dr_ σ 6 (sr_ σ v0 7)).bind fun b2 => (f_X4_item σ v1 (0 : Int32)).bind fun q3 => (f_X6_firstWord fu σ b2 v4 q3).bind fun q4 => if q4.1 = (-1 : Int32) then (f_X8_startsThatFit_57 fu n) q4.2 v0 v1 (v2 ||| (0 : Int64)) (v4 + (1 : Int32)) else (f_X8_startsThatFit_57 fu n) q4.2 v0 v1 (v2 ||| ((1 : Int64) <<< (v4.toInt64 &&& 63))) (v4 + (1 : Int32))
set_option maxHeartbeats 4000000 in
set_option maxRecDepth 100000 in
theorem w_X8_startsThatFit_57 {p : Program} {l : Launch} {e : Env} {R : Room} {s : State} {m : MethodId} {args : Array Value} {below : List Frame} {meth : Method} {c : Code} {κ : Ka_} {G : va_G} {cy : Nat → ClassId} {ad : Nat → Nat} {sz : Nat} {σ0 : St_} (fu : Nat) (C : CallFix p m c cX8_startsThatFit 5 s args wU_ RX8) (K : Kx_ κ G cy (va_A (wl_ cy ad σ0) sz) s) (hr : meth.sig.returnType = some .long) (hlk : meth.locks = false) (hR : 4 ≤ R.frames ∧ 100 ≤ R.locals) {q : Int64 × St_} : ∀ n : Nat, ∀ (σ : St_) (v0 : Nat) (v1 : Nat) (v2 : Int64) (v4 : Int32), Ex_ σ0 σ → kd_ σ v0 = 8 → kd_ σ v1 = 4 → f_X8_startsThatFit_57 fu n σ v0 v1 v2 v4 = some q → ∀ (H : Heap) (locs : List Loc) (ls : Array Slot), Ht_ G cy (va_A (wl_ cy ad σ0) sz) s ad σ H locs → lv_has ls 5 [(0, .ref (ad v0)), (1, .ref (ad v1)), (2, .long v2), (4, .int v4)] → W p l e R s m args below meth c H locs 0 0 (MQ below (Ql_ G cy ad σ0 q.2 sz q.1) args s 0 0 (va_A (wl_ cy ad σ0) sz)) (F0 m 57 ls []) := by
  intro n
  induction n with
  | zero =>
    intro σ v0 v1 v2 v4 hE hk_v0 hk_v1 hf H locs ls h hl
    cases hf
  | succ n ih =>
    intro σ v0 v1 v2 v4 hE hk_v0 hk_v1 hf H locs ls h hl
    have hf : (if (36 : Int32) ≤ v4 then some (v2, σ) else (dr_ σ 6 (sr_ σ v0 7)).bind fun b2 => (f_X4_item σ v1 (0 : Int32)).bind fun q3 => (f_X6_firstWord fu σ b2 v4 q3).bind fun q4 => if q4.1 = (-1 : Int32) then (f_X8_startsThatFit_57 fu n) q4.2 v0 v1 (v2 ||| (0 : Int64)) (v4 + (1 : Int32)) else (f_X8_startsThatFit_57 fu n) q4.2 v0 v1 (v2 ||| ((1 : Int64) <<< (v4.toInt64 &&& 63))) (v4 + (1 : Int32))) = some q := hf
    refine lv_iload C.1 C.2.1 dX8_startsThatFit_57 (lv_at hl 3 rfl) ?_
    refine lv_bipush (v := (36 : Int32)) C.1 C.2.1 dX8_startsThatFit_59 (by decide) ?_
    refine lv_icmp_ge (tgt := 99) C.1 C.2.1 dX8_startsThatFit_61 (by decide) (fun c1 => ?_) (fun c1 => ?_)
    · have hf := if_t hf c1
      refine lv_lload_n C.1 C.2.1 dX8_startsThatFit_99 rfl (lv_at hl 2 rfl) ?_
      exact x_rl C hr hlk h hE (pf_1 (Option.some.inj hf)) (pf_2 (Option.some.inj hf)) dX8_startsThatFit_100
    · have hf := if_f hf c1
      refine lv_lload_n C.1 C.2.1 dX8_startsThatFit_64 rfl (lv_at hl 2 rfl) ?_
      refine lv_aload_n C.1 C.2.1 dX8_startsThatFit_65 rfl (lv_at hl 0 rfl) ?_
      obtain ⟨b2, hb_b2, hf⟩ := ob_ hf
      obtain ⟨hq_b2, hk_b2⟩ := dr_in hb_b2
      refine x_get (v := .ref (ad b2)) C K h cl_8 hk_v0 7 (by decide) fl_RX8_49 (hv_r (o := sr_ σ v0 7) rfl hq_b2) dX8_startsThatFit_66 ?_
      refine lv_iload C.1 C.2.1 dX8_startsThatFit_69 (lv_at hl 3 rfl) ?_
      refine lv_aload_n C.1 C.2.1 dX8_startsThatFit_71 rfl (lv_at hl 1 rfl) ?_
      refine lv_iconst (v := (0 : Int32)) C.1 C.2.1 dX8_startsThatFit_72 (by decide) ?_
      obtain ⟨q3, hq_q3, hf⟩ := ob_ hf
      refine x_ai K h (x_VN C K h [.int (0 : Int32)] (c_X4_item l κ G cy ad H.size σ v1 (0 : Int32) hk_v1 hq_q3) mi_X4_item rfl im_yX4_item se_yX4_item nm_RX8_199 cl_4 hk_v1 ⟨rfl, rfl, Nat.le_trans (Nat.le_of_ble_eq_true rfl) hR.1, Nat.le_trans (Nat.le_of_ble_eq_true rfl) hR.2⟩ hl (Nat.le_of_ble_eq_true rfl) dX8_startsThatFit_73 ⟨Nat.zero_le _, Nat.zero_le _⟩ rfl) (fun H locs h hX => ?_)
      obtain ⟨q4, hq_q4, hf⟩ := ob_ hf
      refine x_ai K h (x_VN C K h [.int v4, .int q3] (c_X6_firstWord fu l κ G cy ad H.size σ b2 v4 q3 hk_b2 hq_q4) mi_X6_firstWord rfl im_yX6_firstWord se_yX6_firstWord nm_RX8_292 cl_6 hk_b2 ⟨rfl, rfl, Nat.le_trans (Nat.le_of_ble_eq_true rfl) hR.1, Nat.le_trans (Nat.le_of_ble_eq_true rfl) hR.2⟩ hl (Nat.le_of_ble_eq_true rfl) dX8_startsThatFit_76 ⟨Nat.zero_le _, Nat.zero_le _⟩ rfl) (fun H locs h hX => ?_)
      have hE := hE.trans hX
      have hk_v0 := hX.k hk_v0 (by decide)
      have hk_v1 := hX.k hk_v1 (by decide)
      refine lv_iconst (v := (-1 : Int32)) C.1 C.2.1 dX8_startsThatFit_79 (by decide) ?_
      refine lv_icmp_ne (tgt := 87) C.1 C.2.1 dX8_startsThatFit_80 (by decide) (fun c5 => ?_) (fun c5 => ?_)
      · have hf := if_f hf c5
        refine lv_lconst (v := (1 : Int64)) C.1 C.2.1 dX8_startsThatFit_87 (by decide) ?_
        refine lv_iload C.1 C.2.1 dX8_startsThatFit_88 (lv_at hl 3 rfl) ?_
        refine lv_lshl C.1 C.2.1 dX8_startsThatFit_90 rfl ?_
        refine lv_lor C.1 C.2.1 dX8_startsThatFit_91 ?_
        refine lv_lstore_n (i := 2) (lv' := [(2, .long (v2 ||| ((1 : Int64) <<< (v4.toInt64 &&& 63)))), (0, .ref (ad v0)), (1, .ref (ad v1)), (4, .int v4)]) C.1 C.2.1 dX8_startsThatFit_92 rfl hl (by decide) rfl (fun ls hl => ?_)
        refine lv_iinc (v := v4 + (1 : Int32)) (lv' := [(4, .int (v4 + (1 : Int32))), (2, .long (v2 ||| ((1 : Int64) <<< (v4.toInt64 &&& 63)))), (0, .ref (ad v0)), (1, .ref (ad v1))]) C.1 C.2.1 dX8_startsThatFit_93 hl (k := 3) rfl rfl (by decide) rfl (fun ls hl => ?_)
        refine lv_goto (tgt := 57) C.1 C.2.1 dX8_startsThatFit_96 (by decide) ?_
        exact ih q4.2 v0 v1 (v2 ||| ((1 : Int64) <<< (v4.toInt64 &&& 63))) (v4 + (1 : Int32)) hE hk_v0 hk_v1 hf _ _ _ h (lv_sub hl [2, 3, 1, 0] rfl)
      · have hf := if_t hf c5
        refine lv_lconst (v := (0 : Int64)) C.1 C.2.1 dX8_startsThatFit_83 (by decide) ?_
        refine lv_goto (tgt := 91) C.1 C.2.1 dX8_startsThatFit_84 (by decide) ?_
        refine lv_lor C.1 C.2.1 dX8_startsThatFit_91 ?_
        refine lv_lstore_n (i := 2) (lv' := [(2, .long (v2 ||| (0 : Int64))), (0, .ref (ad v0)), (1, .ref (ad v1)), (4, .int v4)]) C.1 C.2.1 dX8_startsThatFit_92 rfl hl (by decide) rfl (fun ls hl => ?_)
        refine lv_iinc (v := v4 + (1 : Int32)) (lv' := [(4, .int (v4 + (1 : Int32))), (2, .long (v2 ||| (0 : Int64))), (0, .ref (ad v0)), (1, .ref (ad v1))]) C.1 C.2.1 dX8_startsThatFit_93 hl (k := 3) rfl rfl (by decide) rfl (fun ls hl => ?_)
        refine lv_goto (tgt := 57) C.1 C.2.1 dX8_startsThatFit_96 (by decide) ?_
        exact ih q4.2 v0 v1 (v2 ||| (0 : Int64)) (v4 + (1 : Int32)) hE hk_v0 hk_v1 hf _ _ _ h (lv_sub hl [2, 3, 1, 0] rfl)
def f_X8_startsThatFit_13 (fu : Nat) : Nat → St_ → Nat → Nat → Int32 → Option (Int64 × St_)
  | 0 => fun _ _ _ _ => none
  | n + 1 => fun σ  v0  v1  v2 => if (si_ σ v1 2) ≤ v2 then f_X8_startsThatFit_57 fu fu σ v0 v1 (0 : Int64) (0 : Int32) else (dr_ σ 6 (sr_ σ v0 7)).bind fun b2 => (f_X4_item σ v1 (v2 - (1 : Int32))).bind fun q3 => (f_X4_item σ v1 v2).bind fun q4 => (f_X6_firstWord fu σ b2 q3 q4).bind fun q5 => if q5.1 = (-1 : Int32) then some ((0 : Int64), q5.2) else (f_X8_startsThatFit_13 fu n) q5.2 v0 v1 (v2 + (1 : Int32))
set_option maxHeartbeats 4000000 in
set_option maxRecDepth 100000 in
theorem w_X8_startsThatFit_13 {p : Program} {l : Launch} {e : Env} {R : Room} {s : State} {m : MethodId} {args : Array Value} {below : List Frame} {meth : Method} {c : Code} {κ : Ka_} {G : va_G} {cy : Nat → ClassId} {ad : Nat → Nat} {sz : Nat} {σ0 : St_} (fu : Nat) (C : CallFix p m c cX8_startsThatFit 5 s args wU_ RX8) (K : Kx_ κ G cy (va_A (wl_ cy ad σ0) sz) s) (hr : meth.sig.returnType = some .long) (hlk : meth.locks = false) (hR : 4 ≤ R.frames ∧ 100 ≤ R.locals) {q : Int64 × St_} : ∀ n : Nat, ∀ (σ : St_) (v0 : Nat) (v1 : Nat) (v2 : Int32), Ex_ σ0 σ → kd_ σ v0 = 8 → kd_ σ v1 = 4 → f_X8_startsThatFit_13 fu n σ v0 v1 v2 = some q → ∀ (H : Heap) (locs : List Loc) (ls : Array Slot), Ht_ G cy (va_A (wl_ cy ad σ0) sz) s ad σ H locs → lv_has ls 5 [(0, .ref (ad v0)), (1, .ref (ad v1)), (2, .int v2)] → W p l e R s m args below meth c H locs 0 0 (MQ below (Ql_ G cy ad σ0 q.2 sz q.1) args s 0 0 (va_A (wl_ cy ad σ0) sz)) (F0 m 13 ls []) := by
  intro n
  induction n with
  | zero =>
    intro σ v0 v1 v2 hE hk_v0 hk_v1 hf H locs ls h hl
    cases hf
  | succ n ih =>
    intro σ v0 v1 v2 hE hk_v0 hk_v1 hf H locs ls h hl
    have hf : (if (si_ σ v1 2) ≤ v2 then f_X8_startsThatFit_57 fu fu σ v0 v1 (0 : Int64) (0 : Int32) else (dr_ σ 6 (sr_ σ v0 7)).bind fun b2 => (f_X4_item σ v1 (v2 - (1 : Int32))).bind fun q3 => (f_X4_item σ v1 v2).bind fun q4 => (f_X6_firstWord fu σ b2 q3 q4).bind fun q5 => if q5.1 = (-1 : Int32) then some ((0 : Int64), q5.2) else (f_X8_startsThatFit_13 fu n) q5.2 v0 v1 (v2 + (1 : Int32))) = some q := hf
    refine lv_iload_n C.1 C.2.1 dX8_startsThatFit_13 rfl (lv_at hl 2 rfl) ?_
    refine lv_aload_n C.1 C.2.1 dX8_startsThatFit_14 rfl (lv_at hl 1 rfl) ?_
    refine x_getN (v := .int (si_ σ v1 2)) C K h cl_4 hk_v1 2 (by decide) nf_RX8_196 rfl dX8_startsThatFit_15 ?_
    refine lv_icmp_ge (tgt := 52) C.1 C.2.1 dX8_startsThatFit_18 (by decide) (fun c1 => ?_) (fun c1 => ?_)
    · have hf := if_t hf c1
      refine lv_lconst (v := (0 : Int64)) C.1 C.2.1 dX8_startsThatFit_52 (by decide) ?_
      refine lv_lstore_n (i := 2) (lv' := [(2, .long (0 : Int64)), (0, .ref (ad v0)), (1, .ref (ad v1))]) C.1 C.2.1 dX8_startsThatFit_53 rfl hl (by decide) rfl (fun ls hl => ?_)
      refine lv_iconst (v := (0 : Int32)) C.1 C.2.1 dX8_startsThatFit_54 (by decide) ?_
      refine lv_istore (i := 4) (lv' := [(4, .int (0 : Int32)), (2, .long (0 : Int64)), (0, .ref (ad v0)), (1, .ref (ad v1))]) C.1 C.2.1 dX8_startsThatFit_55 hl (by decide) rfl (fun ls hl => ?_)
      exact w_X8_startsThatFit_57 fu C K hr hlk hR fu σ v0 v1 (0 : Int64) (0 : Int32) hE hk_v0 hk_v1 hf _ _ _ h (lv_sub hl [2, 3, 1, 0] rfl)
    · have hf := if_f hf c1
      refine lv_aload_n C.1 C.2.1 dX8_startsThatFit_21 rfl (lv_at hl 0 rfl) ?_
      obtain ⟨b2, hb_b2, hf⟩ := ob_ hf
      obtain ⟨hq_b2, hk_b2⟩ := dr_in hb_b2
      refine x_get (v := .ref (ad b2)) C K h cl_8 hk_v0 7 (by decide) fl_RX8_49 (hv_r (o := sr_ σ v0 7) rfl hq_b2) dX8_startsThatFit_22 ?_
      refine lv_aload_n C.1 C.2.1 dX8_startsThatFit_25 rfl (lv_at hl 1 rfl) ?_
      refine lv_iload_n C.1 C.2.1 dX8_startsThatFit_26 rfl (lv_at hl 2 rfl) ?_
      refine lv_iconst (v := (1 : Int32)) C.1 C.2.1 dX8_startsThatFit_27 (by decide) ?_
      refine lv_isub C.1 C.2.1 dX8_startsThatFit_28 ?_
      obtain ⟨q3, hq_q3, hf⟩ := ob_ hf
      refine x_ai K h (x_VN C K h [.int (v2 - (1 : Int32))] (c_X4_item l κ G cy ad H.size σ v1 (v2 - (1 : Int32)) hk_v1 hq_q3) mi_X4_item rfl im_yX4_item se_yX4_item nm_RX8_199 cl_4 hk_v1 ⟨rfl, rfl, Nat.le_trans (Nat.le_of_ble_eq_true rfl) hR.1, Nat.le_trans (Nat.le_of_ble_eq_true rfl) hR.2⟩ hl (Nat.le_of_ble_eq_true rfl) dX8_startsThatFit_29 ⟨Nat.zero_le _, Nat.zero_le _⟩ rfl) (fun H locs h hX => ?_)
      refine lv_aload_n C.1 C.2.1 dX8_startsThatFit_32 rfl (lv_at hl 1 rfl) ?_
      refine lv_iload_n C.1 C.2.1 dX8_startsThatFit_33 rfl (lv_at hl 2 rfl) ?_
      obtain ⟨q4, hq_q4, hf⟩ := ob_ hf
      refine x_ai K h (x_VN C K h [.int v2] (c_X4_item l κ G cy ad H.size σ v1 v2 hk_v1 hq_q4) mi_X4_item rfl im_yX4_item se_yX4_item nm_RX8_199 cl_4 hk_v1 ⟨rfl, rfl, Nat.le_trans (Nat.le_of_ble_eq_true rfl) hR.1, Nat.le_trans (Nat.le_of_ble_eq_true rfl) hR.2⟩ hl (Nat.le_of_ble_eq_true rfl) dX8_startsThatFit_34 ⟨Nat.zero_le _, Nat.zero_le _⟩ rfl) (fun H locs h hX => ?_)
      obtain ⟨q5, hq_q5, hf⟩ := ob_ hf
      refine x_ai K h (x_VN C K h [.int q3, .int q4] (c_X6_firstWord fu l κ G cy ad H.size σ b2 q3 q4 hk_b2 hq_q5) mi_X6_firstWord rfl im_yX6_firstWord se_yX6_firstWord nm_RX8_292 cl_6 hk_b2 ⟨rfl, rfl, Nat.le_trans (Nat.le_of_ble_eq_true rfl) hR.1, Nat.le_trans (Nat.le_of_ble_eq_true rfl) hR.2⟩ hl (Nat.le_of_ble_eq_true rfl) dX8_startsThatFit_37 ⟨Nat.zero_le _, Nat.zero_le _⟩ rfl) (fun H locs h hX => ?_)
      have hE := hE.trans hX
      have hk_v0 := hX.k hk_v0 (by decide)
      have hk_v1 := hX.k hk_v1 (by decide)
      refine lv_iconst (v := (-1 : Int32)) C.1 C.2.1 dX8_startsThatFit_40 (by decide) ?_
      refine lv_icmp_ne (tgt := 46) C.1 C.2.1 dX8_startsThatFit_41 (by decide) (fun c6 => ?_) (fun c6 => ?_)
      · have hf := if_f hf c6
        refine lv_iinc (v := v2 + (1 : Int32)) (lv' := [(2, .int (v2 + (1 : Int32))), (0, .ref (ad v0)), (1, .ref (ad v1))]) C.1 C.2.1 dX8_startsThatFit_46 hl (k := 2) rfl rfl (by decide) rfl (fun ls hl => ?_)
        refine lv_goto (tgt := 13) C.1 C.2.1 dX8_startsThatFit_49 (by decide) ?_
        exact ih q5.2 v0 v1 (v2 + (1 : Int32)) hE hk_v0 hk_v1 hf _ _ _ h (lv_sub hl [1, 2, 0] rfl)
      · have hf := if_t hf c6
        refine lv_lconst (v := (0 : Int64)) C.1 C.2.1 dX8_startsThatFit_44 (by decide) ?_
        exact x_rl C hr hlk h hE (pf_1 (Option.some.inj hf)) (pf_2 (Option.some.inj hf)) dX8_startsThatFit_45
def f_X8_startsThatFit (fu : Nat) (σ : St_) (a0 : Nat) (x1 : Nat) : Option (Int64 × St_) := if (si_ σ x1 2) = 0 then some ((68719476735 : Int64), σ) else f_X8_startsThatFit_13 fu fu σ a0 x1 (1 : Int32)
set_option maxHeartbeats 4000000 in
set_option maxRecDepth 100000 in
theorem w_X8_startsThatFit {p : Program} {l : Launch} {e : Env} {R : Room} {s : State} {m : MethodId} {args : Array Value} {below : List Frame} {meth : Method} {c : Code} {κ : Ka_} {G : va_G} {cy : Nat → ClassId} {ad : Nat → Nat} {sz : Nat} {σ0 : St_} (fu : Nat) (C : CallFix p m c cX8_startsThatFit 5 s args wU_ RX8) (K : Kx_ κ G cy (va_A (wl_ cy ad σ0) sz) s) (hr : meth.sig.returnType = some .long) (hlk : meth.locks = false) (hR : 4 ≤ R.frames ∧ 100 ≤ R.locals) {q : Int64 × St_} : ∀ (σ : St_) (a0 : Nat) (x1 : Nat), Ex_ σ0 σ → kd_ σ a0 = 8 → kd_ σ x1 = 4 → f_X8_startsThatFit fu σ a0 x1 = some q → ∀ (H : Heap) (locs : List Loc) (ls : Array Slot), Ht_ G cy (va_A (wl_ cy ad σ0) sz) s ad σ H locs → lv_has ls 5 [(0, .ref (ad a0)), (1, .ref (ad x1))] → W p l e R s m args below meth c H locs 0 0 (MQ below (Ql_ G cy ad σ0 q.2 sz q.1) args s 0 0 (va_A (wl_ cy ad σ0) sz)) (F0 m 0 ls []) := by
  intro σ a0 x1 hE hk_a0 hk_x1 hf H locs ls h hl
  have hf : (if (si_ σ x1 2) = 0 then some ((68719476735 : Int64), σ) else f_X8_startsThatFit_13 fu fu σ a0 x1 (1 : Int32)) = some q := hf
  refine lv_aload_n C.1 C.2.1 dX8_startsThatFit_0 rfl (lv_at hl 1 rfl) ?_
  refine x_getN (v := .int (si_ σ x1 2)) C K h cl_4 hk_x1 2 (by decide) nf_RX8_196 rfl dX8_startsThatFit_1 ?_
  refine lv_if_ne (tgt := 11) C.1 C.2.1 dX8_startsThatFit_4 (by decide) (fun c2 => ?_) (fun c2 => ?_)
  · have hf := if_f hf c2
    refine lv_iconst (v := (1 : Int32)) C.1 C.2.1 dX8_startsThatFit_11 (by decide) ?_
    refine lv_istore_n (i := 2) (lv' := [(2, .int (1 : Int32)), (0, .ref (ad a0)), (1, .ref (ad x1))]) C.1 C.2.1 dX8_startsThatFit_12 rfl hl (by decide) rfl (fun ls hl => ?_)
    exact w_X8_startsThatFit_13 fu C K hr hlk hR fu σ a0 x1 (1 : Int32) hE hk_a0 hk_x1 hf _ _ _ h (lv_sub hl [1, 2, 0] rfl)
  · have hf := if_t hf c2
    refine lv_ldc2 (v := (68719476735 : Int64)) C.1 C.2.1 C.2.2.2.1 (C.2.2.2.2 _ cl_RX8_313) dX8_startsThatFit_7 ?_
    exact x_rl C hr hlk h hE (pf_1 (Option.some.inj hf)) (pf_2 (Option.some.inj hf)) dX8_startsThatFit_10
theorem c_X8_startsThatFit (fu : Nat) (l : Launch) (κ : Ka_) (G : va_G) (cy : Nat → ClassId) (ad : Nat → Nat) (sz : Nat) (σ : St_) (a0 : Nat) (x1 : Nat) (hk_a0 : kd_ σ a0 = 8) (hk_x1 : kd_ σ x1 = 4) {q : Int64 × St_} (hf : f_X8_startsThatFit fu σ a0 x1 = some q) : Met l yX8_startsThatFit (Cond.code yX8_startsThatFit cX8_startsThatFit 5 (some .long) :: wU_) { frames := 4, cells := 0, slots := 0, locals := 100 } (va_Pc [.ref (ad a0), .ref (ad x1)] (Pr_ κ G cy ad σ sz)) (Ql_ G cy ad σ q.2 sz q.1) 0 0 (va_A (wl_ cy ad σ) sz) :=
  x_met (by decide) (fun p e R s m below meth c ls hR C hr hlk hin _ K h hl => w_X8_startsThatFit fu C K hr hlk ⟨hR.1, hR.2.1⟩ σ a0 x1 Ex_.rf hk_a0 hk_x1 hf s.heap [] ls h hl) (Nat.le_of_ble_eq_true rfl)
-- X8_ways
theorem mi_X8_ways : Mi_ yX8_ways cX8_ways 7 (some .long) 3 := ⟨co_yX8_ways, in_RX8, by decide, by decide, by decide +kernel⟩
def f_X8_ways (fu : Nat) (σ : St_) (a0 : Nat) (x1 : Int32) (x2 : Int32) (x3 : Int32) : Option (Int64 × St_) := (f_X8_refusalOfTold fu σ a0 x1 x2 (f_X8_isBelow x3 (2 : Int32)) (20 : Int32) (36 : Int32)).bind fun q6 => (f_X8_sheetAt σ a0 x1).bind fun q7 => (dr_ σ 1 (sr_ σ a0 0)).bind fun b8 => (f_X1_carpetAt σ b8 x2).bind fun q9 => if q6 = 0 then oc_ q7 (some ((-4611686018427387904 : Int64), σ)) (fun b11 => if kd_ σ b11 = 4 then oc_ q9 (some ((-4611686018427387904 : Int64), σ)) (fun b12 => if kd_ σ b12 = 0 then (f_X8_think σ a0 b12).bind fun q13 => if x3 = 0 then (f_X8_howMany fu q13 a0 b11 (si_ q13 b12 2)).bind fun q16 => some (q16.1, q16.2) else (f_X8_startsThatFit fu q13 a0 b11).bind fun q15 => some (q15.1, q15.2) else none) else none) else some ((-4611686018427387904 : Int64), σ)
set_option maxHeartbeats 4000000 in
set_option maxRecDepth 100000 in
theorem w_X8_ways {p : Program} {l : Launch} {e : Env} {R : Room} {s : State} {m : MethodId} {args : Array Value} {below : List Frame} {meth : Method} {c : Code} {κ : Ka_} {G : va_G} {cy : Nat → ClassId} {ad : Nat → Nat} {sz : Nat} {σ0 : St_} (fu : Nat) (C : CallFix p m c cX8_ways 7 s args wU_ RX8) (K : Kx_ κ G cy (va_A (wl_ cy ad σ0) sz) s) (hr : meth.sig.returnType = some .long) (hlk : meth.locks = false) (hR : 5 ≤ R.frames ∧ 126 ≤ R.locals) {q : Int64 × St_} : ∀ (σ : St_) (a0 : Nat) (x1 : Int32) (x2 : Int32) (x3 : Int32), Ex_ σ0 σ → kd_ σ a0 = 8 → f_X8_ways fu σ a0 x1 x2 x3 = some q → ∀ (H : Heap) (locs : List Loc) (ls : Array Slot), Ht_ G cy (va_A (wl_ cy ad σ0) sz) s ad σ H locs → lv_has ls 7 [(0, .ref (ad a0)), (1, .int x1), (2, .int x2), (3, .int x3)] → W p l e R s m args below meth c H locs 0 0 (MQ below (Ql_ G cy ad σ0 q.2 sz q.1) args s 0 0 (va_A (wl_ cy ad σ0) sz)) (F0 m 0 ls []) := by
  intro σ a0 x1 x2 x3 hE hk_a0 hf H locs ls h hl
  have hf : ((f_X8_refusalOfTold fu σ a0 x1 x2 (f_X8_isBelow x3 (2 : Int32)) (20 : Int32) (36 : Int32)).bind fun q6 => (f_X8_sheetAt σ a0 x1).bind fun q7 => (dr_ σ 1 (sr_ σ a0 0)).bind fun b8 => (f_X1_carpetAt σ b8 x2).bind fun q9 => if q6 = 0 then oc_ q7 (some ((-4611686018427387904 : Int64), σ)) (fun b11 => if kd_ σ b11 = 4 then oc_ q9 (some ((-4611686018427387904 : Int64), σ)) (fun b12 => if kd_ σ b12 = 0 then (f_X8_think σ a0 b12).bind fun q13 => if x3 = 0 then (f_X8_howMany fu q13 a0 b11 (si_ q13 b12 2)).bind fun q16 => some (q16.1, q16.2) else (f_X8_startsThatFit fu q13 a0 b11).bind fun q15 => some (q15.1, q15.2) else none) else none) else some ((-4611686018427387904 : Int64), σ)) = some q := hf
  refine lv_aload_n C.1 C.2.1 dX8_ways_0 rfl (lv_at hl 0 rfl) ?_
  refine lv_iload_n C.1 C.2.1 dX8_ways_1 rfl (lv_at hl 1 rfl) ?_
  refine lv_iload_n C.1 C.2.1 dX8_ways_2 rfl (lv_at hl 2 rfl) ?_
  refine lv_iload_n C.1 C.2.1 dX8_ways_3 rfl (lv_at hl 3 rfl) ?_
  refine lv_iconst (v := (2 : Int32)) C.1 C.2.1 dX8_ways_4 (by decide) ?_
  refine x_az K h (x_S C K h [.int x3, .int (2 : Int32)] (c_X8_isBelow l κ G cy ad H.size σ x3 (2 : Int32) rfl) mi_X8_isBelow rfl st_yX8_isBelow ml_RX8_116 ⟨rfl, rfl, Nat.le_trans (Nat.le_of_ble_eq_true rfl) hR.1, Nat.le_trans (Nat.le_of_ble_eq_true rfl) hR.2⟩ hl (Nat.le_of_ble_eq_true rfl) dX8_ways_5 ⟨Nat.zero_le _, Nat.zero_le _⟩ rfl) (fun H locs h hX hz5 => ?_)
  refine lv_bipush (v := (20 : Int32)) C.1 C.2.1 dX8_ways_8 (by decide) ?_
  refine lv_bipush (v := (36 : Int32)) C.1 C.2.1 dX8_ways_10 (by decide) ?_
  obtain ⟨q6, hq_q6, hf⟩ := ob_ hf
  refine x_ai K h (x_V C K h [.int x1, .int x2, .int (f_X8_isBelow x3 (2 : Int32)), .int (20 : Int32), .int (36 : Int32)] (c_X8_refusalOfTold fu l κ G cy ad H.size σ a0 x1 x2 (f_X8_isBelow x3 (2 : Int32)) (20 : Int32) (36 : Int32) hk_a0 hq_q6) mi_X8_refusalOfTold rfl im_yX8_refusalOfTold se_yX8_refusalOfTold ml_RX8_188 cl_8 hk_a0 ⟨rfl, rfl, Nat.le_trans (Nat.le_of_ble_eq_true rfl) hR.1, Nat.le_trans (Nat.le_of_ble_eq_true rfl) hR.2⟩ hl (Nat.le_of_ble_eq_true rfl) dX8_ways_12 ⟨Nat.zero_le _, Nat.zero_le _⟩ rfl) (fun H locs h hX => ?_)
  refine lv_istore (i := 4) (lv' := [(4, .int q6), (0, .ref (ad a0)), (1, .int x1), (2, .int x2), (3, .int x3)]) C.1 C.2.1 dX8_ways_15 hl (by decide) rfl (fun ls hl => ?_)
  refine lv_aload_n C.1 C.2.1 dX8_ways_17 rfl (lv_at hl 1 rfl) ?_
  refine lv_iload_n C.1 C.2.1 dX8_ways_18 rfl (lv_at hl 2 rfl) ?_
  obtain ⟨q7, hq_q7, hf⟩ := ob_ hf
  refine x_aq K h (x_V C K h [.int x1] (c_X8_sheetAt l κ G cy ad H.size σ a0 x1 hk_a0 hq_q7) mi_X8_sheetAt rfl im_yX8_sheetAt se_yX8_sheetAt ml_RX8_192 cl_8 hk_a0 ⟨rfl, rfl, Nat.le_trans (Nat.le_of_ble_eq_true rfl) hR.1, Nat.le_trans (Nat.le_of_ble_eq_true rfl) hR.2⟩ hl (Nat.le_of_ble_eq_true rfl) dX8_ways_19 ⟨Nat.zero_le _, Nat.zero_le _⟩ rfl) (fun H locs h hX => ?_)
  refine x_astoreq (i := 5) (lv' := [(5, rv_ ad q7), (4, .int q6), (0, .ref (ad a0)), (1, .int x1), (2, .int x2), (3, .int x3)]) C.1 C.2.1 dX8_ways_22 hl (by decide) rfl (fun ls hl => ?_)
  refine lv_aload_n C.1 C.2.1 dX8_ways_24 rfl (lv_at hl 2 rfl) ?_
  obtain ⟨b8, hb_b8, hf⟩ := ob_ hf
  obtain ⟨hq_b8, hk_b8⟩ := dr_in hb_b8
  refine x_get (v := .ref (ad b8)) C K h cl_8 hk_a0 0 (by decide) fl_RX8_12 (hv_r (o := sr_ σ a0 0) rfl hq_b8) dX8_ways_25 ?_
  refine lv_iload_n C.1 C.2.1 dX8_ways_28 rfl (lv_at hl 4 rfl) ?_
  obtain ⟨q9, hq_q9, hf⟩ := ob_ hf
  refine x_aq K h (x_VN C K h [.int x2] (c_X1_carpetAt l κ G cy ad H.size σ b8 x2 hk_b8 hq_q9) mi_X1_carpetAt rfl im_yX1_carpetAt se_yX1_carpetAt nm_RX8_130 cl_1 hk_b8 ⟨rfl, rfl, Nat.le_trans (Nat.le_of_ble_eq_true rfl) hR.1, Nat.le_trans (Nat.le_of_ble_eq_true rfl) hR.2⟩ hl (Nat.le_of_ble_eq_true rfl) dX8_ways_29 ⟨Nat.zero_le _, Nat.zero_le _⟩ rfl) (fun H locs h hX => ?_)
  refine x_astoreq (i := 6) (lv' := [(6, rv_ ad q9), (5, rv_ ad q7), (4, .int q6), (0, .ref (ad a0)), (1, .int x1), (2, .int x2), (3, .int x3)]) C.1 C.2.1 dX8_ways_32 hl (by decide) (by simp [rv_c]) (fun ls hl => ?_)
  refine lv_iload C.1 C.2.1 dX8_ways_34 (lv_at hl 2 rfl) ?_
  refine lv_if_ne (tgt := 49) C.1 C.2.1 dX8_ways_36 (by decide) (fun c10 => ?_) (fun c10 => ?_)
  · have hf := if_f hf c10
    refine lv_ldc2 (v := (-4611686018427387904 : Int64)) C.1 C.2.1 C.2.2.2.1 (C.2.2.2.2 _ cl_RX8_212) dX8_ways_49 ?_
    exact x_rl C hr hlk h hE (pf_1 (Option.some.inj hf)) (pf_2 (Option.some.inj hf)) dX8_ways_52
  · have hf := if_t hf c10
    refine x_aloadq C.1 C.2.1 dX8_ways_39 (lv_at hl 1 rfl) ?_
    cases q7 with
    | none =>
      have hf := oc_n hf
      refine lv_ifnullN (tgt := 49) C.1 C.2.1 dX8_ways_41 (by decide) ?_
      refine lv_ldc2 (v := (-4611686018427387904 : Int64)) C.1 C.2.1 C.2.2.2.1 (C.2.2.2.2 _ cl_RX8_212) dX8_ways_49 ?_
      exact x_rl C hr hlk h hE (pf_1 (Option.some.inj hf)) (pf_2 (Option.some.inj hf)) dX8_ways_52
    | some b11 =>
      obtain ⟨hk_b11, hf⟩ := gd_ (oc_s hf)
      refine lv_ifnull C.1 C.2.1 dX8_ways_41 ?_
      refine x_aloadq C.1 C.2.1 dX8_ways_44 (lv_at hl 0 rfl) ?_
      cases q9 with
      | none =>
        have hf := oc_n hf
        refine lv_ifnonnullN C.1 C.2.1 dX8_ways_46 ?_
        refine lv_ldc2 (v := (-4611686018427387904 : Int64)) C.1 C.2.1 C.2.2.2.1 (C.2.2.2.2 _ cl_RX8_212) dX8_ways_49 ?_
        exact x_rl C hr hlk h hE (pf_1 (Option.some.inj hf)) (pf_2 (Option.some.inj hf)) dX8_ways_52
      | some b12 =>
        obtain ⟨hk_b12, hf⟩ := gd_ (oc_s hf)
        refine lv_ifnonnull (tgt := 53) C.1 C.2.1 dX8_ways_46 (by decide) ?_
        refine lv_aload_n C.1 C.2.1 dX8_ways_53 rfl (lv_at hl 3 rfl) ?_
        refine lv_aload C.1 C.2.1 dX8_ways_54 (lv_at hl 0 rfl) ?_
        obtain ⟨q13, hq_q13, hf⟩ := ob_ hf
        refine x_av K h (x_V C K h [.ref (ad b12)] (c_X8_think l κ G cy ad H.size σ a0 b12 hk_a0 hk_b12 hq_q13) mi_X8_think rfl im_yX8_think se_yX8_think ml_RX8_153 cl_8 hk_a0 ⟨rfl, rfl, Nat.le_trans (Nat.le_of_ble_eq_true rfl) hR.1, Nat.le_trans (Nat.le_of_ble_eq_true rfl) hR.2⟩ hl (Nat.le_of_ble_eq_true rfl) dX8_ways_56 ⟨Nat.zero_le _, Nat.zero_le _⟩ rfl) (fun H locs h hX => ?_)
        have hE := hE.trans hX
        have hk_a0 := hX.k hk_a0 (by decide)
        have hk_b11 := hX.k hk_b11 (by decide)
        have hk_b12 := hX.k hk_b12 (by decide)
        refine lv_iload_n C.1 C.2.1 dX8_ways_59 rfl (lv_at hl 6 rfl) ?_
        refine lv_if_ne (tgt := 77) C.1 C.2.1 dX8_ways_60 (by decide) (fun c14 => ?_) (fun c14 => ?_)
        · have hf := if_f hf c14
          refine lv_aload_n C.1 C.2.1 dX8_ways_77 rfl (lv_at hl 3 rfl) ?_
          refine lv_aload C.1 C.2.1 dX8_ways_78 (lv_at hl 1 rfl) ?_
          obtain ⟨q15, hq_q15, hf⟩ := ob_ hf
          refine x_al K h (x_V C K h [.ref (ad b11)] (c_X8_startsThatFit fu l κ G cy ad H.size q13 a0 b11 hk_a0 hk_b11 hq_q15) mi_X8_startsThatFit rfl im_yX8_startsThatFit se_yX8_startsThatFit ml_RX8_277 cl_8 hk_a0 ⟨rfl, rfl, Nat.le_trans (Nat.le_of_ble_eq_true rfl) hR.1, Nat.le_trans (Nat.le_of_ble_eq_true rfl) hR.2⟩ hl (Nat.le_of_ble_eq_true rfl) dX8_ways_80 ⟨Nat.zero_le _, Nat.zero_le _⟩ rfl) (fun H locs h hX => ?_)
          have hE := hE.trans hX
          have hk_a0 := hX.k hk_a0 (by decide)
          have hk_b11 := hX.k hk_b11 (by decide)
          have hk_b12 := hX.k hk_b12 (by decide)
          exact x_rl C hr hlk h hE (pf_1 (Option.some.inj hf)) (pf_2 (Option.some.inj hf)) dX8_ways_83
        · have hf := if_t hf c14
          refine lv_aload_n C.1 C.2.1 dX8_ways_63 rfl (lv_at hl 3 rfl) ?_
          refine lv_aload C.1 C.2.1 dX8_ways_64 (lv_at hl 1 rfl) ?_
          refine lv_aload C.1 C.2.1 dX8_ways_66 (lv_at hl 0 rfl) ?_
          refine x_getN (v := .int (si_ q13 b12 2)) C K h cl_0 hk_b12 2 (by decide) nf_RX8_157 rfl dX8_ways_68 ?_
          obtain ⟨q16, hq_q16, hf⟩ := ob_ hf
          refine x_al K h (x_V C K h [.ref (ad b11), .int (si_ q13 b12 2)] (c_X8_howMany fu l κ G cy ad H.size q13 a0 b11 (si_ q13 b12 2) hk_a0 hk_b11 hq_q16) mi_X8_howMany rfl im_yX8_howMany se_yX8_howMany ml_RX8_273 cl_8 hk_a0 ⟨rfl, rfl, Nat.le_trans (Nat.le_of_ble_eq_true rfl) hR.1, Nat.le_trans (Nat.le_of_ble_eq_true rfl) hR.2⟩ hl (Nat.le_of_ble_eq_true rfl) dX8_ways_71 ⟨Nat.zero_le _, Nat.zero_le _⟩ rfl) (fun H locs h hX => ?_)
          have hE := hE.trans hX
          have hk_a0 := hX.k hk_a0 (by decide)
          have hk_b11 := hX.k hk_b11 (by decide)
          have hk_b12 := hX.k hk_b12 (by decide)
          refine lv_goto (tgt := 83) C.1 C.2.1 dX8_ways_74 (by decide) ?_
          exact x_rl C hr hlk h hE (pf_1 (Option.some.inj hf)) (pf_2 (Option.some.inj hf)) dX8_ways_83
theorem c_X8_ways (fu : Nat) (l : Launch) (κ : Ka_) (G : va_G) (cy : Nat → ClassId) (ad : Nat → Nat) (sz : Nat) (σ : St_) (a0 : Nat) (x1 : Int32) (x2 : Int32) (x3 : Int32) (hk_a0 : kd_ σ a0 = 8) {q : Int64 × St_} (hf : f_X8_ways fu σ a0 x1 x2 x3 = some q) : Met l yX8_ways (Cond.code yX8_ways cX8_ways 7 (some .long) :: wU_) { frames := 5, cells := 0, slots := 0, locals := 126 } (va_Pc [.ref (ad a0), .int x1, .int x2, .int x3] (Pr_ κ G cy ad σ sz)) (Ql_ G cy ad σ q.2 sz q.1) 0 0 (va_A (wl_ cy ad σ) sz) :=
  x_met (by decide) (fun p e R s m below meth c ls hR C hr hlk hin _ K h hl => w_X8_ways fu C K hr hlk ⟨hR.1, hR.2.1⟩ σ a0 x1 x2 x3 Ex_.rf hk_a0 hf s.heap [] ls h hl) (Nat.le_of_ble_eq_true rfl)
-- X8_drawnAfter
theorem mi_X8_drawnAfter : Mi_ yX8_drawnAfter cX8_drawnAfter 1 (some .int) 1 := ⟨co_yX8_drawnAfter, in_RX8, by decide, by decide, by decide +kernel⟩
def f_X8_drawnAfter (x1 : Int32) : Int32 := (x1 * (1103515245 : Int32)) + (12345 : Int32)
set_option maxHeartbeats 4000000 in
set_option maxRecDepth 100000 in
theorem w_X8_drawnAfter {p : Program} {l : Launch} {e : Env} {R : Room} {s : State} {m : MethodId} {args : Array Value} {below : List Frame} {meth : Method} {c : Code} {κ : Ka_} {G : va_G} {cy : Nat → ClassId} {ad : Nat → Nat} {sz : Nat} {σ : St_} (C : CallFix p m c cX8_drawnAfter 1 s args wU_ RX8) (K : Kx_ κ G cy (va_A (wl_ cy ad σ) sz) s) (hr : meth.sig.returnType = some .int) (hlk : meth.locks = false) (hR : 0 ≤ R.frames ∧ 0 ≤ R.locals) {q : Int32} : ∀ (x1 : Int32), f_X8_drawnAfter x1 = q → ∀ (H : Heap) (locs : List Loc) (ls : Array Slot), Ht_ G cy (va_A (wl_ cy ad σ) sz) s ad σ H locs → lv_has ls 1 [(0, .int x1)] → W p l e R s m args below meth c H locs 0 0 (MQ below (Qi_ G cy ad σ σ sz q) args s 0 0 (va_A (wl_ cy ad σ) sz)) (F0 m 0 ls []) := by
  intro x1 hf H locs ls h hl
  have hf : ((x1 * (1103515245 : Int32)) + (12345 : Int32)) = q := hf
  refine lv_iload_n C.1 C.2.1 dX8_drawnAfter_0 rfl (lv_at hl 0 rfl) ?_
  refine lv_ldcw (v := (1103515245 : Int32)) C.1 C.2.1 C.2.2.2.1 (C.2.2.2.2 _ ck_RX8_321) dX8_drawnAfter_1 ?_
  refine lv_imul C.1 C.2.1 dX8_drawnAfter_4 ?_
  refine lv_sipush (v := (12345 : Int32)) C.1 C.2.1 dX8_drawnAfter_5 (by decide) ?_
  refine lv_iadd C.1 C.2.1 dX8_drawnAfter_8 ?_
  exact x_ri C hr hlk h Ex_.rf hf rfl dX8_drawnAfter_9
theorem c_X8_drawnAfter (l : Launch) (κ : Ka_) (G : va_G) (cy : Nat → ClassId) (ad : Nat → Nat) (sz : Nat) (σ : St_) (x1 : Int32) {q : Int32} (hf : f_X8_drawnAfter x1 = q) : Met l yX8_drawnAfter (Cond.code yX8_drawnAfter cX8_drawnAfter 1 (some .int) :: wU_) { frames := 0, cells := 0, slots := 0, locals := 0 } (va_Pc [.int x1] (Pr_ κ G cy ad σ sz)) (Qi_ G cy ad σ σ sz q) 0 0 (va_A (wl_ cy ad σ) sz) :=
  x_met (by decide) (fun p e R s m below meth c ls hR C hr hlk hin _ K h hl => w_X8_drawnAfter C K hr hlk ⟨hR.1, hR.2.1⟩ x1 hf s.heap [] ls h hl) (Nat.le_of_ble_eq_true rfl)
-- X8_wordOf
theorem mi_X8_wordOf : Mi_ yX8_wordOf cX8_wordOf 1 (some .int) 1 := ⟨co_yX8_wordOf, in_RX8, by decide, by decide, by decide +kernel⟩
def f_X8_wordOf (x1 : Int32) : Int32 := ((x1.toUInt32 >>> ((9 : Int32).toUInt32 &&& Int32.toUInt32 31)).toInt32) - ((x1.toUInt32 >>> ((9 : Int32).toUInt32 &&& Int32.toUInt32 31)).toInt32) / (8 : Int32) * (8 : Int32)
set_option maxHeartbeats 4000000 in
set_option maxRecDepth 100000 in
theorem w_X8_wordOf {p : Program} {l : Launch} {e : Env} {R : Room} {s : State} {m : MethodId} {args : Array Value} {below : List Frame} {meth : Method} {c : Code} {κ : Ka_} {G : va_G} {cy : Nat → ClassId} {ad : Nat → Nat} {sz : Nat} {σ : St_} (C : CallFix p m c cX8_wordOf 1 s args wU_ RX8) (K : Kx_ κ G cy (va_A (wl_ cy ad σ) sz) s) (hr : meth.sig.returnType = some .int) (hlk : meth.locks = false) (hR : 0 ≤ R.frames ∧ 0 ≤ R.locals) {q : Int32} : ∀ (x1 : Int32), f_X8_wordOf x1 = q → ∀ (H : Heap) (locs : List Loc) (ls : Array Slot), Ht_ G cy (va_A (wl_ cy ad σ) sz) s ad σ H locs → lv_has ls 1 [(0, .int x1)] → W p l e R s m args below meth c H locs 0 0 (MQ below (Qi_ G cy ad σ σ sz q) args s 0 0 (va_A (wl_ cy ad σ) sz)) (F0 m 0 ls []) := by
  intro x1 hf H locs ls h hl
  have hf : (((x1.toUInt32 >>> ((9 : Int32).toUInt32 &&& Int32.toUInt32 31)).toInt32) - ((x1.toUInt32 >>> ((9 : Int32).toUInt32 &&& Int32.toUInt32 31)).toInt32) / (8 : Int32) * (8 : Int32)) = q := hf
  refine lv_iload_n C.1 C.2.1 dX8_wordOf_0 rfl (lv_at hl 0 rfl) ?_
  refine lv_bipush (v := (9 : Int32)) C.1 C.2.1 dX8_wordOf_1 (by decide) ?_
  refine lv_iushr C.1 C.2.1 dX8_wordOf_3 rfl ?_
  refine lv_bipush (v := (8 : Int32)) C.1 C.2.1 dX8_wordOf_4 (by decide) ?_
  refine lv_irem C.1 C.2.1 dX8_wordOf_6 (by decide) ?_
  exact x_ri C hr hlk h Ex_.rf hf rfl dX8_wordOf_7
theorem c_X8_wordOf (l : Launch) (κ : Ka_) (G : va_G) (cy : Nat → ClassId) (ad : Nat → Nat) (sz : Nat) (σ : St_) (x1 : Int32) {q : Int32} (hf : f_X8_wordOf x1 = q) : Met l yX8_wordOf (Cond.code yX8_wordOf cX8_wordOf 1 (some .int) :: wU_) { frames := 0, cells := 0, slots := 0, locals := 0 } (va_Pc [.int x1] (Pr_ κ G cy ad σ sz)) (Qi_ G cy ad σ σ sz q) 0 0 (va_A (wl_ cy ad σ) sz) :=
  x_met (by decide) (fun p e R s m below meth c ls hR C hr hlk hin _ K h hl => w_X8_wordOf C K hr hlk ⟨hR.1, hR.2.1⟩ x1 hf s.heap [] ls h hl) (Nat.le_of_ble_eq_true rfl)
-- X8_drawn
theorem mi_X8_drawn : Mi_ yX8_drawn cX8_drawn 8 (some .int) 3 := ⟨co_yX8_drawn, in_RX8, by decide, by decide, by decide +kernel⟩
def f_X8_drawn_46 (fu : Nat) : Nat → St_ → Nat → Int32 → Int32 → Int32 → Int32 → Option (Int32 × St_)
  | 0 => fun _ _ _ _ _ _ => none
  | n + 1 => fun σ  v0  v3  v5  v6  v7 => if v3 ≤ v7 then some (v5, σ) else (dr_ σ 6 (sr_ σ v0 7)).bind fun b3 => (f_X6_goal fu σ b3 v5 (f_X8_wordOf (f_X8_drawnAfter v6))).bind fun q5 => (f_X8_drawn_46 fu n) q5.2 v0 v3 q5.1 (f_X8_drawnAfter v6) (v7 + (1 : Int32))
set_option maxHeartbeats 4000000 in
set_option maxRecDepth 100000 in
theorem w_X8_drawn_46 {p : Program} {l : Launch} {e : Env} {R : Room} {s : State} {m : MethodId} {args : Array Value} {below : List Frame} {meth : Method} {c : Code} {κ : Ka_} {G : va_G} {cy : Nat → ClassId} {ad : Nat → Nat} {sz : Nat} {σ0 : St_} (fu : Nat) (C : CallFix p m c cX8_drawn 8 s args wU_ RX8) (K : Kx_ κ G cy (va_A (wl_ cy ad σ0) sz) s) (hr : meth.sig.returnType = some .int) (hlk : meth.locks = false) (hR : 3 ≤ R.frames ∧ 77 ≤ R.locals) {q : Int32 × St_} : ∀ n : Nat, ∀ (σ : St_) (v0 : Nat) (v3 : Int32) (v5 : Int32) (v6 : Int32) (v7 : Int32), Ex_ σ0 σ → kd_ σ v0 = 8 → f_X8_drawn_46 fu n σ v0 v3 v5 v6 v7 = some q → ∀ (H : Heap) (locs : List Loc) (ls : Array Slot), Ht_ G cy (va_A (wl_ cy ad σ0) sz) s ad σ H locs → lv_has ls 8 [(0, .ref (ad v0)), (3, .int v3), (5, .int v5), (6, .int v6), (7, .int v7)] → W p l e R s m args below meth c H locs 0 0 (MQ below (Qi_ G cy ad σ0 q.2 sz q.1) args s 0 0 (va_A (wl_ cy ad σ0) sz)) (F0 m 46 ls []) := by
  intro n
  induction n with
  | zero =>
    intro σ v0 v3 v5 v6 v7 hE hk_v0 hf H locs ls h hl
    cases hf
  | succ n ih =>
    intro σ v0 v3 v5 v6 v7 hE hk_v0 hf H locs ls h hl
    have hf : (if v3 ≤ v7 then some (v5, σ) else (dr_ σ 6 (sr_ σ v0 7)).bind fun b3 => (f_X6_goal fu σ b3 v5 (f_X8_wordOf (f_X8_drawnAfter v6))).bind fun q5 => (f_X8_drawn_46 fu n) q5.2 v0 v3 q5.1 (f_X8_drawnAfter v6) (v7 + (1 : Int32))) = some q := hf
    refine lv_iload C.1 C.2.1 dX8_drawn_46 (lv_at hl 4 rfl) ?_
    refine lv_iload_n C.1 C.2.1 dX8_drawn_48 rfl (lv_at hl 1 rfl) ?_
    refine lv_icmp_ge (tgt := 81) C.1 C.2.1 dX8_drawn_49 (by decide) (fun c1 => ?_) (fun c1 => ?_)
    · have hf := if_t hf c1
      refine lv_iload C.1 C.2.1 dX8_drawn_81 (lv_at hl 2 rfl) ?_
      exact x_ri C hr hlk h hE (pf_1 (Option.some.inj hf)) (pf_2 (Option.some.inj hf)) dX8_drawn_83
    · have hf := if_f hf c1
      refine lv_iload C.1 C.2.1 dX8_drawn_52 (lv_at hl 3 rfl) ?_
      refine x_ai K h (x_S C K h [.int v6] (c_X8_drawnAfter l κ G cy ad H.size σ v6 rfl) mi_X8_drawnAfter rfl st_yX8_drawnAfter ml_RX8_315 ⟨rfl, rfl, Nat.le_trans (Nat.le_of_ble_eq_true rfl) hR.1, Nat.le_trans (Nat.le_of_ble_eq_true rfl) hR.2⟩ hl (Nat.le_of_ble_eq_true rfl) dX8_drawn_54 ⟨Nat.zero_le _, Nat.zero_le _⟩ rfl) (fun H locs h hX => ?_)
      refine lv_istore (i := 6) (lv' := [(6, .int (f_X8_drawnAfter v6)), (0, .ref (ad v0)), (3, .int v3), (5, .int v5), (7, .int v7)]) C.1 C.2.1 dX8_drawn_57 hl (by decide) rfl (fun ls hl => ?_)
      refine lv_aload_n C.1 C.2.1 dX8_drawn_59 rfl (lv_at hl 1 rfl) ?_
      obtain ⟨b3, hb_b3, hf⟩ := ob_ hf
      obtain ⟨hq_b3, hk_b3⟩ := dr_in hb_b3
      refine x_get (v := .ref (ad b3)) C K h cl_8 hk_v0 7 (by decide) fl_RX8_49 (hv_r (o := sr_ σ v0 7) rfl hq_b3) dX8_drawn_60 ?_
      refine lv_iload C.1 C.2.1 dX8_drawn_63 (lv_at hl 3 rfl) ?_
      refine lv_iload C.1 C.2.1 dX8_drawn_65 (lv_at hl 0 rfl) ?_
      refine x_ai K h (x_S C K h [.int (f_X8_drawnAfter v6)] (c_X8_wordOf l κ G cy ad H.size σ (f_X8_drawnAfter v6) rfl) mi_X8_wordOf rfl st_yX8_wordOf ml_RX8_318 ⟨rfl, rfl, Nat.le_trans (Nat.le_of_ble_eq_true rfl) hR.1, Nat.le_trans (Nat.le_of_ble_eq_true rfl) hR.2⟩ hl (Nat.le_of_ble_eq_true rfl) dX8_drawn_67 ⟨Nat.zero_le _, Nat.zero_le _⟩ rfl) (fun H locs h hX => ?_)
      obtain ⟨q5, hq_q5, hf⟩ := ob_ hf
      refine x_ai K h (x_VN C K h [.int v5, .int (f_X8_wordOf (f_X8_drawnAfter v6))] (c_X6_goal fu l κ G cy ad H.size σ b3 v5 (f_X8_wordOf (f_X8_drawnAfter v6)) hk_b3 hq_q5) mi_X6_goal rfl im_yX6_goal se_yX6_goal nm_RX8_160 cl_6 hk_b3 ⟨rfl, rfl, Nat.le_trans (Nat.le_of_ble_eq_true rfl) hR.1, Nat.le_trans (Nat.le_of_ble_eq_true rfl) hR.2⟩ hl (Nat.le_of_ble_eq_true rfl) dX8_drawn_70 ⟨Nat.zero_le _, Nat.zero_le _⟩ rfl) (fun H locs h hX => ?_)
      have hE := hE.trans hX
      have hk_v0 := hX.k hk_v0 (by decide)
      refine lv_istore (i := 5) (lv' := [(5, .int q5.1), (6, .int (f_X8_drawnAfter v6)), (0, .ref (ad v0)), (3, .int v3), (7, .int v7)]) C.1 C.2.1 dX8_drawn_73 hl (by decide) rfl (fun ls hl => ?_)
      refine lv_iinc (v := v7 + (1 : Int32)) (lv' := [(7, .int (v7 + (1 : Int32))), (5, .int q5.1), (6, .int (f_X8_drawnAfter v6)), (0, .ref (ad v0)), (3, .int v3)]) C.1 C.2.1 dX8_drawn_75 hl (k := 4) rfl rfl (by decide) rfl (fun ls hl => ?_)
      refine lv_goto (tgt := 46) C.1 C.2.1 dX8_drawn_78 (by decide) ?_
      exact ih q5.2 v0 v3 q5.1 (f_X8_drawnAfter v6) (v7 + (1 : Int32)) hE hk_v0 hf _ _ _ h (lv_sub hl [3, 4, 1, 2, 0] rfl)
def f_X8_drawn (fu : Nat) (σ : St_) (a0 : Nat) (x1 : Int32) (x2 : Int32) (x3 : Int32) : Option (Int32 × St_) := (dr_ σ 1 (sr_ σ a0 0)).bind fun b4 => (f_X1_carpetAt σ b4 x2).bind fun q5 => oc_ q5 (some ((-2 : Int32), σ)) (fun b6 => if kd_ σ b6 = 0 then if (f_X8_isBelow x3 (100 : Int32)) = 0 then some ((-2 : Int32), σ) else (f_X8_think σ a0 b6).bind fun q10 => f_X8_drawn_46 fu fu q10 a0 x3 (si_ q10 b6 2) x1 (0 : Int32) else none)
set_option maxHeartbeats 4000000 in
set_option maxRecDepth 100000 in
theorem w_X8_drawn {p : Program} {l : Launch} {e : Env} {R : Room} {s : State} {m : MethodId} {args : Array Value} {below : List Frame} {meth : Method} {c : Code} {κ : Ka_} {G : va_G} {cy : Nat → ClassId} {ad : Nat → Nat} {sz : Nat} {σ0 : St_} (fu : Nat) (C : CallFix p m c cX8_drawn 8 s args wU_ RX8) (K : Kx_ κ G cy (va_A (wl_ cy ad σ0) sz) s) (hr : meth.sig.returnType = some .int) (hlk : meth.locks = false) (hR : 3 ≤ R.frames ∧ 77 ≤ R.locals) {q : Int32 × St_} : ∀ (σ : St_) (a0 : Nat) (x1 : Int32) (x2 : Int32) (x3 : Int32), Ex_ σ0 σ → kd_ σ a0 = 8 → f_X8_drawn fu σ a0 x1 x2 x3 = some q → ∀ (H : Heap) (locs : List Loc) (ls : Array Slot), Ht_ G cy (va_A (wl_ cy ad σ0) sz) s ad σ H locs → lv_has ls 8 [(0, .ref (ad a0)), (1, .int x1), (2, .int x2), (3, .int x3)] → W p l e R s m args below meth c H locs 0 0 (MQ below (Qi_ G cy ad σ0 q.2 sz q.1) args s 0 0 (va_A (wl_ cy ad σ0) sz)) (F0 m 0 ls []) := by
  intro σ a0 x1 x2 x3 hE hk_a0 hf H locs ls h hl
  have hf : ((dr_ σ 1 (sr_ σ a0 0)).bind fun b4 => (f_X1_carpetAt σ b4 x2).bind fun q5 => oc_ q5 (some ((-2 : Int32), σ)) (fun b6 => if kd_ σ b6 = 0 then if (f_X8_isBelow x3 (100 : Int32)) = 0 then some ((-2 : Int32), σ) else (f_X8_think σ a0 b6).bind fun q10 => f_X8_drawn_46 fu fu q10 a0 x3 (si_ q10 b6 2) x1 (0 : Int32) else none)) = some q := hf
  refine lv_aload_n C.1 C.2.1 dX8_drawn_0 rfl (lv_at hl 0 rfl) ?_
  obtain ⟨b4, hb_b4, hf⟩ := ob_ hf
  obtain ⟨hq_b4, hk_b4⟩ := dr_in hb_b4
  refine x_get (v := .ref (ad b4)) C K h cl_8 hk_a0 0 (by decide) fl_RX8_12 (hv_r (o := sr_ σ a0 0) rfl hq_b4) dX8_drawn_1 ?_
  refine lv_iload_n C.1 C.2.1 dX8_drawn_4 rfl (lv_at hl 2 rfl) ?_
  obtain ⟨q5, hq_q5, hf⟩ := ob_ hf
  refine x_aq K h (x_VN C K h [.int x2] (c_X1_carpetAt l κ G cy ad H.size σ b4 x2 hk_b4 hq_q5) mi_X1_carpetAt rfl im_yX1_carpetAt se_yX1_carpetAt nm_RX8_130 cl_1 hk_b4 ⟨rfl, rfl, Nat.le_trans (Nat.le_of_ble_eq_true rfl) hR.1, Nat.le_trans (Nat.le_of_ble_eq_true rfl) hR.2⟩ hl (Nat.le_of_ble_eq_true rfl) dX8_drawn_5 ⟨Nat.zero_le _, Nat.zero_le _⟩ rfl) (fun H locs h hX => ?_)
  refine x_astoreq (i := 4) (lv' := [(4, rv_ ad q5), (0, .ref (ad a0)), (1, .int x1), (2, .int x2), (3, .int x3)]) C.1 C.2.1 dX8_drawn_8 hl (by decide) rfl (fun ls hl => ?_)
  refine x_aloadq C.1 C.2.1 dX8_drawn_10 (lv_at hl 0 rfl) ?_
  cases q5 with
  | none =>
    have hf := oc_n hf
    refine lv_ifnullN (tgt := 24) C.1 C.2.1 dX8_drawn_12 (by decide) ?_
    refine lv_bipush (v := (-2 : Int32)) C.1 C.2.1 dX8_drawn_24 (by decide) ?_
    exact x_ri C hr hlk h hE (pf_1 (Option.some.inj hf)) (pf_2 (Option.some.inj hf)) dX8_drawn_26
  | some b6 =>
    obtain ⟨hk_b6, hf⟩ := gd_ (oc_s hf)
    refine lv_ifnull C.1 C.2.1 dX8_drawn_12 ?_
    refine lv_iload_n C.1 C.2.1 dX8_drawn_15 rfl (lv_at hl 4 rfl) ?_
    refine lv_bipush (v := (100 : Int32)) C.1 C.2.1 dX8_drawn_16 (by decide) ?_
    refine x_az K h (x_S C K h [.int x3, .int (100 : Int32)] (c_X8_isBelow l κ G cy ad H.size σ x3 (100 : Int32) rfl) mi_X8_isBelow rfl st_yX8_isBelow ml_RX8_116 ⟨rfl, rfl, Nat.le_trans (Nat.le_of_ble_eq_true rfl) hR.1, Nat.le_trans (Nat.le_of_ble_eq_true rfl) hR.2⟩ hl (Nat.le_of_ble_eq_true rfl) dX8_drawn_18 ⟨Nat.zero_le _, Nat.zero_le _⟩ rfl) (fun H locs h hX hz8 => ?_)
    refine lv_if_ne (tgt := 27) C.1 C.2.1 dX8_drawn_21 (by decide) (fun c9 => ?_) (fun c9 => ?_)
    · have hf := if_f hf c9
      refine lv_aload_n C.1 C.2.1 dX8_drawn_27 rfl (lv_at hl 1 rfl) ?_
      refine lv_aload C.1 C.2.1 dX8_drawn_28 (lv_at hl 0 rfl) ?_
      obtain ⟨q10, hq_q10, hf⟩ := ob_ hf
      refine x_av K h (x_V C K h [.ref (ad b6)] (c_X8_think l κ G cy ad H.size σ a0 b6 hk_a0 hk_b6 hq_q10) mi_X8_think rfl im_yX8_think se_yX8_think ml_RX8_153 cl_8 hk_a0 ⟨rfl, rfl, Nat.le_trans (Nat.le_of_ble_eq_true rfl) hR.1, Nat.le_trans (Nat.le_of_ble_eq_true rfl) hR.2⟩ hl (Nat.le_of_ble_eq_true rfl) dX8_drawn_30 ⟨Nat.zero_le _, Nat.zero_le _⟩ rfl) (fun H locs h hX => ?_)
      have hE := hE.trans hX
      have hk_a0 := hX.k hk_a0 (by decide)
      have hk_b6 := hX.k hk_b6 (by decide)
      refine lv_aload C.1 C.2.1 dX8_drawn_33 (lv_at hl 0 rfl) ?_
      refine x_getN (v := .int (si_ q10 b6 2)) C K h cl_0 hk_b6 2 (by decide) nf_RX8_157 rfl dX8_drawn_35 ?_
      refine lv_istore (i := 5) (lv' := [(5, .int (si_ q10 b6 2)), (4, .ref (ad b6)), (0, .ref (ad a0)), (1, .int x1), (2, .int x2), (3, .int x3)]) C.1 C.2.1 dX8_drawn_38 hl (by decide) rfl (fun ls hl => ?_)
      refine lv_iload_n C.1 C.2.1 dX8_drawn_40 rfl (lv_at hl 3 rfl) ?_
      refine lv_istore (i := 6) (lv' := [(6, .int x1), (5, .int (si_ q10 b6 2)), (4, .ref (ad b6)), (0, .ref (ad a0)), (1, .int x1), (2, .int x2), (3, .int x3)]) C.1 C.2.1 dX8_drawn_41 hl (by decide) rfl (fun ls hl => ?_)
      refine lv_iconst (v := (0 : Int32)) C.1 C.2.1 dX8_drawn_43 (by decide) ?_
      refine lv_istore (i := 7) (lv' := [(7, .int (0 : Int32)), (6, .int x1), (5, .int (si_ q10 b6 2)), (4, .ref (ad b6)), (0, .ref (ad a0)), (1, .int x1), (2, .int x2), (3, .int x3)]) C.1 C.2.1 dX8_drawn_44 hl (by decide) rfl (fun ls hl => ?_)
      exact w_X8_drawn_46 fu C K hr hlk hR fu q10 a0 x3 (si_ q10 b6 2) x1 (0 : Int32) hE hk_a0 hf _ _ _ h (lv_sub hl [4, 7, 2, 1, 0] rfl)
    · have hf := if_t hf c9
      refine lv_bipush (v := (-2 : Int32)) C.1 C.2.1 dX8_drawn_24 (by decide) ?_
      exact x_ri C hr hlk h hE (pf_1 (Option.some.inj hf)) (pf_2 (Option.some.inj hf)) dX8_drawn_26
theorem c_X8_drawn (fu : Nat) (l : Launch) (κ : Ka_) (G : va_G) (cy : Nat → ClassId) (ad : Nat → Nat) (sz : Nat) (σ : St_) (a0 : Nat) (x1 : Int32) (x2 : Int32) (x3 : Int32) (hk_a0 : kd_ σ a0 = 8) {q : Int32 × St_} (hf : f_X8_drawn fu σ a0 x1 x2 x3 = some q) : Met l yX8_drawn (Cond.code yX8_drawn cX8_drawn 8 (some .int) :: wU_) { frames := 3, cells := 0, slots := 0, locals := 77 } (va_Pc [.ref (ad a0), .int x1, .int x2, .int x3] (Pr_ κ G cy ad σ sz)) (Qi_ G cy ad σ q.2 sz q.1) 0 0 (va_A (wl_ cy ad σ) sz) :=
  x_met (by decide) (fun p e R s m below meth c ls hR C hr hlk hin _ K h hl => w_X8_drawn fu C K hr hlk ⟨hR.1, hR.2.1⟩ σ a0 x1 x2 x3 Ex_.rf hk_a0 hf s.heap [] ls h hl) (Nat.le_of_ble_eq_true rfl)
-- X8_comesBy
theorem mi_X8_comesBy : Mi_ yX8_comesBy cX8_comesBy 7 (some .boolean) 3 := ⟨co_yX8_comesBy, in_RX8, by decide, by decide, by decide +kernel⟩
def f_X8_comesBy_9 (fu : Nat) : Nat → St_ → Nat → Int32 → Int32 → Int32 → Int32 → Option (Int32 × St_)
  | 0 => fun _ _ _ _ _ _ => none
  | n + 1 => fun σ  v0  v3  v4  v5  v6 => if (12 : Int32) ≤ v6 then if v4 = v3 then some ((1 : Int32), σ) else some ((0 : Int32), σ) else if v4 = v3 then if v4 = v3 then some ((1 : Int32), σ) else some ((0 : Int32), σ) else (dr_ σ 6 (sr_ σ v0 7)).bind fun b6 => (f_X6_goal fu σ b6 v4 (f_X8_wordOf (f_X8_drawnAfter v5))).bind fun q8 => (f_X8_comesBy_9 fu n) q8.2 v0 v3 q8.1 (f_X8_drawnAfter v5) (v6 + (1 : Int32))
set_option maxHeartbeats 4000000 in
set_option maxRecDepth 100000 in
theorem w_X8_comesBy_9 {p : Program} {l : Launch} {e : Env} {R : Room} {s : State} {m : MethodId} {args : Array Value} {below : List Frame} {meth : Method} {c : Code} {κ : Ka_} {G : va_G} {cy : Nat → ClassId} {ad : Nat → Nat} {sz : Nat} {σ0 : St_} (fu : Nat) (C : CallFix p m c cX8_comesBy 7 s args wU_ RX8) (K : Kx_ κ G cy (va_A (wl_ cy ad σ0) sz) s) (hr : meth.sig.returnType = some .boolean) (hlk : meth.locks = false) (hR : 3 ≤ R.frames ∧ 77 ≤ R.locals) {q : Int32 × St_} : ∀ n : Nat, ∀ (σ : St_) (v0 : Nat) (v3 : Int32) (v4 : Int32) (v5 : Int32) (v6 : Int32), Ex_ σ0 σ → kd_ σ v0 = 8 → f_X8_comesBy_9 fu n σ v0 v3 v4 v5 v6 = some q → ∀ (H : Heap) (locs : List Loc) (ls : Array Slot), Ht_ G cy (va_A (wl_ cy ad σ0) sz) s ad σ H locs → lv_has ls 7 [(0, .ref (ad v0)), (3, .int v3), (4, .int v4), (5, .int v5), (6, .int v6)] → W p l e R s m args below meth c H locs 0 0 (MQ below (Qz_ G cy ad σ0 q.2 sz q.1) args s 0 0 (va_A (wl_ cy ad σ0) sz)) (F0 m 9 ls []) := by
  intro n
  induction n with
  | zero =>
    intro σ v0 v3 v4 v5 v6 hE hk_v0 hf H locs ls h hl
    cases hf
  | succ n ih =>
    intro σ v0 v3 v4 v5 v6 hE hk_v0 hf H locs ls h hl
    have hf : (if (12 : Int32) ≤ v6 then if v4 = v3 then some ((1 : Int32), σ) else some ((0 : Int32), σ) else if v4 = v3 then if v4 = v3 then some ((1 : Int32), σ) else some ((0 : Int32), σ) else (dr_ σ 6 (sr_ σ v0 7)).bind fun b6 => (f_X6_goal fu σ b6 v4 (f_X8_wordOf (f_X8_drawnAfter v5))).bind fun q8 => (f_X8_comesBy_9 fu n) q8.2 v0 v3 q8.1 (f_X8_drawnAfter v5) (v6 + (1 : Int32))) = some q := hf
    refine lv_iload C.1 C.2.1 dX8_comesBy_9 (lv_at hl 4 rfl) ?_
    refine lv_bipush (v := (12 : Int32)) C.1 C.2.1 dX8_comesBy_11 (by decide) ?_
    refine lv_icmp_ge (tgt := 51) C.1 C.2.1 dX8_comesBy_13 (by decide) (fun c1 => ?_) (fun c1 => ?_)
    · have hf := if_t hf c1
      refine lv_iload C.1 C.2.1 dX8_comesBy_51 (lv_at hl 2 rfl) ?_
      refine lv_iload_n C.1 C.2.1 dX8_comesBy_53 rfl (lv_at hl 1 rfl) ?_
      refine lv_icmp_ne (tgt := 61) C.1 C.2.1 dX8_comesBy_54 (by decide) (fun c2 => ?_) (fun c2 => ?_)
      · have hf := if_f hf c2
        refine lv_iconst (v := (0 : Int32)) C.1 C.2.1 dX8_comesBy_61 (by decide) ?_
        exact x_rzz C hr hlk h hE (by decide) (pf_1 (Option.some.inj hf)) (pf_2 (Option.some.inj hf)) dX8_comesBy_62
      · have hf := if_t hf c2
        refine lv_iconst (v := (1 : Int32)) C.1 C.2.1 dX8_comesBy_57 (by decide) ?_
        refine lv_goto (tgt := 62) C.1 C.2.1 dX8_comesBy_58 (by decide) ?_
        exact x_rzz C hr hlk h hE (by decide) (pf_1 (Option.some.inj hf)) (pf_2 (Option.some.inj hf)) dX8_comesBy_62
    · have hf := if_f hf c1
      refine lv_iload C.1 C.2.1 dX8_comesBy_16 (lv_at hl 2 rfl) ?_
      refine lv_iload_n C.1 C.2.1 dX8_comesBy_18 rfl (lv_at hl 1 rfl) ?_
      refine lv_icmp_eq (tgt := 51) C.1 C.2.1 dX8_comesBy_19 (by decide) (fun c3 => ?_) (fun c3 => ?_)
      · have hf := if_t hf c3
        refine lv_iload C.1 C.2.1 dX8_comesBy_51 (lv_at hl 2 rfl) ?_
        refine lv_iload_n C.1 C.2.1 dX8_comesBy_53 rfl (lv_at hl 1 rfl) ?_
        refine lv_icmp_ne (tgt := 61) C.1 C.2.1 dX8_comesBy_54 (by decide) (fun c4 => ?_) (fun c4 => ?_)
        · have hf := if_f hf c4
          refine lv_iconst (v := (0 : Int32)) C.1 C.2.1 dX8_comesBy_61 (by decide) ?_
          exact x_rzz C hr hlk h hE (by decide) (pf_1 (Option.some.inj hf)) (pf_2 (Option.some.inj hf)) dX8_comesBy_62
        · have hf := if_t hf c4
          refine lv_iconst (v := (1 : Int32)) C.1 C.2.1 dX8_comesBy_57 (by decide) ?_
          refine lv_goto (tgt := 62) C.1 C.2.1 dX8_comesBy_58 (by decide) ?_
          exact x_rzz C hr hlk h hE (by decide) (pf_1 (Option.some.inj hf)) (pf_2 (Option.some.inj hf)) dX8_comesBy_62
      · have hf := if_f hf c3
        refine lv_iload C.1 C.2.1 dX8_comesBy_22 (lv_at hl 3 rfl) ?_
        refine x_ai K h (x_S C K h [.int v5] (c_X8_drawnAfter l κ G cy ad H.size σ v5 rfl) mi_X8_drawnAfter rfl st_yX8_drawnAfter ml_RX8_315 ⟨rfl, rfl, Nat.le_trans (Nat.le_of_ble_eq_true rfl) hR.1, Nat.le_trans (Nat.le_of_ble_eq_true rfl) hR.2⟩ hl (Nat.le_of_ble_eq_true rfl) dX8_comesBy_24 ⟨Nat.zero_le _, Nat.zero_le _⟩ rfl) (fun H locs h hX => ?_)
        refine lv_istore (i := 5) (lv' := [(5, .int (f_X8_drawnAfter v5)), (0, .ref (ad v0)), (3, .int v3), (4, .int v4), (6, .int v6)]) C.1 C.2.1 dX8_comesBy_27 hl (by decide) rfl (fun ls hl => ?_)
        refine lv_aload_n C.1 C.2.1 dX8_comesBy_29 rfl (lv_at hl 1 rfl) ?_
        obtain ⟨b6, hb_b6, hf⟩ := ob_ hf
        obtain ⟨hq_b6, hk_b6⟩ := dr_in hb_b6
        refine x_get (v := .ref (ad b6)) C K h cl_8 hk_v0 7 (by decide) fl_RX8_49 (hv_r (o := sr_ σ v0 7) rfl hq_b6) dX8_comesBy_30 ?_
        refine lv_iload C.1 C.2.1 dX8_comesBy_33 (lv_at hl 3 rfl) ?_
        refine lv_iload C.1 C.2.1 dX8_comesBy_35 (lv_at hl 0 rfl) ?_
        refine x_ai K h (x_S C K h [.int (f_X8_drawnAfter v5)] (c_X8_wordOf l κ G cy ad H.size σ (f_X8_drawnAfter v5) rfl) mi_X8_wordOf rfl st_yX8_wordOf ml_RX8_318 ⟨rfl, rfl, Nat.le_trans (Nat.le_of_ble_eq_true rfl) hR.1, Nat.le_trans (Nat.le_of_ble_eq_true rfl) hR.2⟩ hl (Nat.le_of_ble_eq_true rfl) dX8_comesBy_37 ⟨Nat.zero_le _, Nat.zero_le _⟩ rfl) (fun H locs h hX => ?_)
        obtain ⟨q8, hq_q8, hf⟩ := ob_ hf
        refine x_ai K h (x_VN C K h [.int v4, .int (f_X8_wordOf (f_X8_drawnAfter v5))] (c_X6_goal fu l κ G cy ad H.size σ b6 v4 (f_X8_wordOf (f_X8_drawnAfter v5)) hk_b6 hq_q8) mi_X6_goal rfl im_yX6_goal se_yX6_goal nm_RX8_160 cl_6 hk_b6 ⟨rfl, rfl, Nat.le_trans (Nat.le_of_ble_eq_true rfl) hR.1, Nat.le_trans (Nat.le_of_ble_eq_true rfl) hR.2⟩ hl (Nat.le_of_ble_eq_true rfl) dX8_comesBy_40 ⟨Nat.zero_le _, Nat.zero_le _⟩ rfl) (fun H locs h hX => ?_)
        have hE := hE.trans hX
        have hk_v0 := hX.k hk_v0 (by decide)
        refine lv_istore (i := 4) (lv' := [(4, .int q8.1), (5, .int (f_X8_drawnAfter v5)), (0, .ref (ad v0)), (3, .int v3), (6, .int v6)]) C.1 C.2.1 dX8_comesBy_43 hl (by decide) rfl (fun ls hl => ?_)
        refine lv_iinc (v := v6 + (1 : Int32)) (lv' := [(6, .int (v6 + (1 : Int32))), (4, .int q8.1), (5, .int (f_X8_drawnAfter v5)), (0, .ref (ad v0)), (3, .int v3)]) C.1 C.2.1 dX8_comesBy_45 hl (k := 4) rfl rfl (by decide) rfl (fun ls hl => ?_)
        refine lv_goto (tgt := 9) C.1 C.2.1 dX8_comesBy_48 (by decide) ?_
        exact ih q8.2 v0 v3 q8.1 (f_X8_drawnAfter v5) (v6 + (1 : Int32)) hE hk_v0 hf _ _ _ h (lv_sub hl [3, 4, 1, 2, 0] rfl)
def f_X8_comesBy (fu : Nat) (σ : St_) (a0 : Nat) (x1 : Int32) (x2 : Int32) (x3 : Int32) : Option (Int32 × St_) := f_X8_comesBy_9 fu fu σ a0 x3 x2 x1 (0 : Int32)
set_option maxHeartbeats 4000000 in
set_option maxRecDepth 100000 in
theorem w_X8_comesBy {p : Program} {l : Launch} {e : Env} {R : Room} {s : State} {m : MethodId} {args : Array Value} {below : List Frame} {meth : Method} {c : Code} {κ : Ka_} {G : va_G} {cy : Nat → ClassId} {ad : Nat → Nat} {sz : Nat} {σ0 : St_} (fu : Nat) (C : CallFix p m c cX8_comesBy 7 s args wU_ RX8) (K : Kx_ κ G cy (va_A (wl_ cy ad σ0) sz) s) (hr : meth.sig.returnType = some .boolean) (hlk : meth.locks = false) (hR : 3 ≤ R.frames ∧ 77 ≤ R.locals) {q : Int32 × St_} : ∀ (σ : St_) (a0 : Nat) (x1 : Int32) (x2 : Int32) (x3 : Int32), Ex_ σ0 σ → kd_ σ a0 = 8 → f_X8_comesBy fu σ a0 x1 x2 x3 = some q → ∀ (H : Heap) (locs : List Loc) (ls : Array Slot), Ht_ G cy (va_A (wl_ cy ad σ0) sz) s ad σ H locs → lv_has ls 7 [(0, .ref (ad a0)), (1, .int x1), (2, .int x2), (3, .int x3)] → W p l e R s m args below meth c H locs 0 0 (MQ below (Qz_ G cy ad σ0 q.2 sz q.1) args s 0 0 (va_A (wl_ cy ad σ0) sz)) (F0 m 0 ls []) := by
  intro σ a0 x1 x2 x3 hE hk_a0 hf H locs ls h hl
  have hf : (f_X8_comesBy_9 fu fu σ a0 x3 x2 x1 (0 : Int32)) = some q := hf
  refine lv_iload_n C.1 C.2.1 dX8_comesBy_0 rfl (lv_at hl 2 rfl) ?_
  refine lv_istore (i := 4) (lv' := [(4, .int x2), (0, .ref (ad a0)), (1, .int x1), (2, .int x2), (3, .int x3)]) C.1 C.2.1 dX8_comesBy_1 hl (by decide) rfl (fun ls hl => ?_)
  refine lv_iload_n C.1 C.2.1 dX8_comesBy_3 rfl (lv_at hl 2 rfl) ?_
  refine lv_istore (i := 5) (lv' := [(5, .int x1), (4, .int x2), (0, .ref (ad a0)), (1, .int x1), (2, .int x2), (3, .int x3)]) C.1 C.2.1 dX8_comesBy_4 hl (by decide) rfl (fun ls hl => ?_)
  refine lv_iconst (v := (0 : Int32)) C.1 C.2.1 dX8_comesBy_6 (by decide) ?_
  refine lv_istore (i := 6) (lv' := [(6, .int (0 : Int32)), (5, .int x1), (4, .int x2), (0, .ref (ad a0)), (1, .int x1), (2, .int x2), (3, .int x3)]) C.1 C.2.1 dX8_comesBy_7 hl (by decide) rfl (fun ls hl => ?_)
  exact w_X8_comesBy_9 fu C K hr hlk hR fu σ a0 x3 x2 x1 (0 : Int32) hE hk_a0 hf _ _ _ h (lv_sub hl [3, 6, 2, 1, 0] rfl)
theorem c_X8_comesBy (fu : Nat) (l : Launch) (κ : Ka_) (G : va_G) (cy : Nat → ClassId) (ad : Nat → Nat) (sz : Nat) (σ : St_) (a0 : Nat) (x1 : Int32) (x2 : Int32) (x3 : Int32) (hk_a0 : kd_ σ a0 = 8) {q : Int32 × St_} (hf : f_X8_comesBy fu σ a0 x1 x2 x3 = some q) : Met l yX8_comesBy (Cond.code yX8_comesBy cX8_comesBy 7 (some .boolean) :: wU_) { frames := 3, cells := 0, slots := 0, locals := 77 } (va_Pc [.ref (ad a0), .int x1, .int x2, .int x3] (Pr_ κ G cy ad σ sz)) (Qz_ G cy ad σ q.2 sz q.1) 0 0 (va_A (wl_ cy ad σ) sz) :=
  x_met (by decide) (fun p e R s m below meth c ls hR C hr hlk hin _ K h hl => w_X8_comesBy fu C K hr hlk ⟨hR.1, hR.2.1⟩ σ a0 x1 x2 x3 Ex_.rf hk_a0 hf s.heap [] ls h hl) (Nat.le_of_ble_eq_true rfl)
-- X8_commonDivisor
theorem mi_X8_commonDivisor : Mi_ yX8_commonDivisor cX8_commonDivisor 3 (some .int) 2 := ⟨co_yX8_commonDivisor, in_RX8, by decide, by decide, by decide +kernel⟩
def f_X8_commonDivisor_2 (fu : Nat) : Nat → Int32 → Int32 → Int32 → Option Int32
  | 0 => fun _ _ _ => none
  | n + 1 => fun v0  v1  v2 => if v2 ≤ (1 : Int32) then some (1 : Int32) else if ¬ v2 = 0 then if (v0 - v0 / v2 * v2) = 0 then if ¬ v2 = 0 then if (v1 - v1 / v2 * v2) = 0 then some v2 else (f_X8_commonDivisor_2 fu n) v0 v1 (v2 + (-1 : Int32)) else none else (f_X8_commonDivisor_2 fu n) v0 v1 (v2 + (-1 : Int32)) else none
set_option maxHeartbeats 4000000 in
set_option maxRecDepth 100000 in
theorem w_X8_commonDivisor_2 {p : Program} {l : Launch} {e : Env} {R : Room} {s : State} {m : MethodId} {args : Array Value} {below : List Frame} {meth : Method} {c : Code} {κ : Ka_} {G : va_G} {cy : Nat → ClassId} {ad : Nat → Nat} {sz : Nat} {σ : St_} (fu : Nat) (C : CallFix p m c cX8_commonDivisor 3 s args wU_ RX8) (K : Kx_ κ G cy (va_A (wl_ cy ad σ) sz) s) (hr : meth.sig.returnType = some .int) (hlk : meth.locks = false) (hR : 0 ≤ R.frames ∧ 0 ≤ R.locals) {q : Int32} : ∀ n : Nat, ∀ (v0 : Int32) (v1 : Int32) (v2 : Int32), f_X8_commonDivisor_2 fu n v0 v1 v2 = some q → ∀ (H : Heap) (locs : List Loc) (ls : Array Slot), Ht_ G cy (va_A (wl_ cy ad σ) sz) s ad σ H locs → lv_has ls 3 [(0, .int v0), (1, .int v1), (2, .int v2)] → W p l e R s m args below meth c H locs 0 0 (MQ below (Qi_ G cy ad σ σ sz q) args s 0 0 (va_A (wl_ cy ad σ) sz)) (F0 m 2 ls []) := by
  intro n
  induction n with
  | zero =>
    intro v0 v1 v2 hf H locs ls h hl
    cases hf
  | succ n ih =>
    intro v0 v1 v2 hf H locs ls h hl
    have hf : (if v2 ≤ (1 : Int32) then some (1 : Int32) else if ¬ v2 = 0 then if (v0 - v0 / v2 * v2) = 0 then if ¬ v2 = 0 then if (v1 - v1 / v2 * v2) = 0 then some v2 else (f_X8_commonDivisor_2 fu n) v0 v1 (v2 + (-1 : Int32)) else none else (f_X8_commonDivisor_2 fu n) v0 v1 (v2 + (-1 : Int32)) else none) = some q := hf
    refine lv_iload_n C.1 C.2.1 dX8_commonDivisor_2 rfl (lv_at hl 2 rfl) ?_
    refine lv_iconst (v := (1 : Int32)) C.1 C.2.1 dX8_commonDivisor_3 (by decide) ?_
    refine lv_icmp_le (tgt := 27) C.1 C.2.1 dX8_commonDivisor_4 (by decide) (fun c1 => ?_) (fun c1 => ?_)
    · have hf := if_t hf c1
      refine lv_iconst (v := (1 : Int32)) C.1 C.2.1 dX8_commonDivisor_27 (by decide) ?_
      exact x_ri C hr hlk h Ex_.rf (Option.some.inj hf) rfl dX8_commonDivisor_28
    · have hf := if_f hf c1
      refine lv_iload_n C.1 C.2.1 dX8_commonDivisor_7 rfl (lv_at hl 0 rfl) ?_
      refine lv_iload_n C.1 C.2.1 dX8_commonDivisor_8 rfl (lv_at hl 2 rfl) ?_
      obtain ⟨hd2, hf⟩ := gd_ hf
      refine lv_irem C.1 C.2.1 dX8_commonDivisor_9 hd2 ?_
      refine lv_if_ne (tgt := 21) C.1 C.2.1 dX8_commonDivisor_10 (by decide) (fun c3 => ?_) (fun c3 => ?_)
      · have hf := if_f hf c3
        refine lv_iinc (v := v2 + (-1 : Int32)) (lv' := [(2, .int (v2 + (-1 : Int32))), (0, .int v0), (1, .int v1)]) C.1 C.2.1 dX8_commonDivisor_21 hl (k := 2) rfl rfl (by decide) rfl (fun ls hl => ?_)
        refine lv_goto (tgt := 2) C.1 C.2.1 dX8_commonDivisor_24 (by decide) ?_
        exact ih v0 v1 (v2 + (-1 : Int32)) hf _ _ _ h (lv_sub hl [1, 2, 0] rfl)
      · have hf := if_t hf c3
        refine lv_iload_n C.1 C.2.1 dX8_commonDivisor_13 rfl (lv_at hl 1 rfl) ?_
        refine lv_iload_n C.1 C.2.1 dX8_commonDivisor_14 rfl (lv_at hl 2 rfl) ?_
        obtain ⟨hd4, hf⟩ := gd_ hf
        refine lv_irem C.1 C.2.1 dX8_commonDivisor_15 hd4 ?_
        refine lv_if_ne (tgt := 21) C.1 C.2.1 dX8_commonDivisor_16 (by decide) (fun c5 => ?_) (fun c5 => ?_)
        · have hf := if_f hf c5
          refine lv_iinc (v := v2 + (-1 : Int32)) (lv' := [(2, .int (v2 + (-1 : Int32))), (0, .int v0), (1, .int v1)]) C.1 C.2.1 dX8_commonDivisor_21 hl (k := 2) rfl rfl (by decide) rfl (fun ls hl => ?_)
          refine lv_goto (tgt := 2) C.1 C.2.1 dX8_commonDivisor_24 (by decide) ?_
          exact ih v0 v1 (v2 + (-1 : Int32)) hf _ _ _ h (lv_sub hl [1, 2, 0] rfl)
        · have hf := if_t hf c5
          refine lv_iload_n C.1 C.2.1 dX8_commonDivisor_19 rfl (lv_at hl 2 rfl) ?_
          exact x_ri C hr hlk h Ex_.rf (Option.some.inj hf) rfl dX8_commonDivisor_20
def f_X8_commonDivisor (fu : Nat) (x1 : Int32) (x2 : Int32) : Option Int32 := f_X8_commonDivisor_2 fu fu x1 x2 x2
set_option maxHeartbeats 4000000 in
set_option maxRecDepth 100000 in
theorem w_X8_commonDivisor {p : Program} {l : Launch} {e : Env} {R : Room} {s : State} {m : MethodId} {args : Array Value} {below : List Frame} {meth : Method} {c : Code} {κ : Ka_} {G : va_G} {cy : Nat → ClassId} {ad : Nat → Nat} {sz : Nat} {σ : St_} (fu : Nat) (C : CallFix p m c cX8_commonDivisor 3 s args wU_ RX8) (K : Kx_ κ G cy (va_A (wl_ cy ad σ) sz) s) (hr : meth.sig.returnType = some .int) (hlk : meth.locks = false) (hR : 0 ≤ R.frames ∧ 0 ≤ R.locals) {q : Int32} : ∀ (x1 : Int32) (x2 : Int32), f_X8_commonDivisor fu x1 x2 = some q → ∀ (H : Heap) (locs : List Loc) (ls : Array Slot), Ht_ G cy (va_A (wl_ cy ad σ) sz) s ad σ H locs → lv_has ls 3 [(0, .int x1), (1, .int x2)] → W p l e R s m args below meth c H locs 0 0 (MQ below (Qi_ G cy ad σ σ sz q) args s 0 0 (va_A (wl_ cy ad σ) sz)) (F0 m 0 ls []) := by
  intro x1 x2 hf H locs ls h hl
  have hf : (f_X8_commonDivisor_2 fu fu x1 x2 x2) = some q := hf
  refine lv_iload_n C.1 C.2.1 dX8_commonDivisor_0 rfl (lv_at hl 1 rfl) ?_
  refine lv_istore_n (i := 2) (lv' := [(2, .int x2), (0, .int x1), (1, .int x2)]) C.1 C.2.1 dX8_commonDivisor_1 rfl hl (by decide) rfl (fun ls hl => ?_)
  exact w_X8_commonDivisor_2 fu C K hr hlk hR fu x1 x2 x2 hf _ _ _ h (lv_sub hl [1, 2, 0] rfl)
theorem c_X8_commonDivisor (fu : Nat) (l : Launch) (κ : Ka_) (G : va_G) (cy : Nat → ClassId) (ad : Nat → Nat) (sz : Nat) (σ : St_) (x1 : Int32) (x2 : Int32) {q : Int32} (hf : f_X8_commonDivisor fu x1 x2 = some q) : Met l yX8_commonDivisor (Cond.code yX8_commonDivisor cX8_commonDivisor 3 (some .int) :: wU_) { frames := 0, cells := 0, slots := 0, locals := 0 } (va_Pc [.int x1, .int x2] (Pr_ κ G cy ad σ sz)) (Qi_ G cy ad σ σ sz q) 0 0 (va_A (wl_ cy ad σ) sz) :=
  x_met (by decide) (fun p e R s m below meth c ls hR C hr hlk hin _ K h hl => w_X8_commonDivisor fu C K hr hlk ⟨hR.1, hR.2.1⟩ x1 x2 hf s.heap [] ls h hl) (Nat.le_of_ble_eq_true rfl)
-- X8_chance
theorem mi_X8_chance : Mi_ yX8_chance cX8_chance 9 (some .long) 5 := ⟨co_yX8_chance, in_RX8, by decide, by decide, by decide +kernel⟩
def f_X8_chance_63 (fu : Nat) : Nat → St_ → Nat → Int32 → Int32 → Int32 → Int32 → Nat → Int32 → Int32 → Option (Int64 × St_)
  | 0 => fun _ _ _ _ _ _ _ _ _ => none
  | n + 1 => fun σ  v0  v1  v2  v4  v5  v6  v7  v8 => if v2 ≤ v8 then (f_X8_commonDivisor fu v7 v2).bind fun q2 => if v5 = 0 then if ¬ (if (1 : Int32) < q2 then q2 else (1 : Int32)) = 0 then some ((v7 / (if (1 : Int32) < q2 then q2 else (1 : Int32))).toInt64, σ) else none else if ¬ (if (1 : Int32) < q2 then q2 else (1 : Int32)) = 0 then some ((v2 / (if (1 : Int32) < q2 then q2 else (1 : Int32))).toInt64, σ) else none else (f_X8_comesBy fu σ v0 (v1 + v8) (si_ σ v6 2) v4).bind fun q6 => if q6.1 = 0 then (f_X8_chance_63 fu n) q6.2 v0 v1 v2 v4 v5 v6 (v7 + (0 : Int32)) (v8 + (1 : Int32)) else (f_X8_chance_63 fu n) q6.2 v0 v1 v2 v4 v5 v6 (v7 + (1 : Int32)) (v8 + (1 : Int32))
set_option maxHeartbeats 4000000 in
set_option maxRecDepth 100000 in
theorem w_X8_chance_63 {p : Program} {l : Launch} {e : Env} {R : Room} {s : State} {m : MethodId} {args : Array Value} {below : List Frame} {meth : Method} {c : Code} {κ : Ka_} {G : va_G} {cy : Nat → ClassId} {ad : Nat → Nat} {sz : Nat} {σ0 : St_} (fu : Nat) (C : CallFix p m c cX8_chance 9 s args wU_ RX8) (K : Kx_ κ G cy (va_A (wl_ cy ad σ0) sz) s) (hr : meth.sig.returnType = some .long) (hlk : meth.locks = false) (hR : 4 ≤ R.frames ∧ 103 ≤ R.locals) {q : Int64 × St_} : ∀ n : Nat, ∀ (σ : St_) (v0 : Nat) (v1 : Int32) (v2 : Int32) (v4 : Int32) (v5 : Int32) (v6 : Nat) (v7 : Int32) (v8 : Int32), Ex_ σ0 σ → kd_ σ v0 = 8 → kd_ σ v6 = 0 → f_X8_chance_63 fu n σ v0 v1 v2 v4 v5 v6 v7 v8 = some q → ∀ (H : Heap) (locs : List Loc) (ls : Array Slot), Ht_ G cy (va_A (wl_ cy ad σ0) sz) s ad σ H locs → lv_has ls 9 [(0, .ref (ad v0)), (1, .int v1), (2, .int v2), (4, .int v4), (5, .int v5), (6, .ref (ad v6)), (7, .int v7), (8, .int v8)] → W p l e R s m args below meth c H locs 0 0 (MQ below (Ql_ G cy ad σ0 q.2 sz q.1) args s 0 0 (va_A (wl_ cy ad σ0) sz)) (F0 m 63 ls []) := by
  intro n
  induction n with
  | zero =>
    intro σ v0 v1 v2 v4 v5 v6 v7 v8 hE hk_v0 hk_v6 hf H locs ls h hl
    cases hf
  | succ n ih =>
    intro σ v0 v1 v2 v4 v5 v6 v7 v8 hE hk_v0 hk_v6 hf H locs ls h hl
    have hf : (if v2 ≤ v8 then (f_X8_commonDivisor fu v7 v2).bind fun q2 => if v5 = 0 then if ¬ (if (1 : Int32) < q2 then q2 else (1 : Int32)) = 0 then some ((v7 / (if (1 : Int32) < q2 then q2 else (1 : Int32))).toInt64, σ) else none else if ¬ (if (1 : Int32) < q2 then q2 else (1 : Int32)) = 0 then some ((v2 / (if (1 : Int32) < q2 then q2 else (1 : Int32))).toInt64, σ) else none else (f_X8_comesBy fu σ v0 (v1 + v8) (si_ σ v6 2) v4).bind fun q6 => if q6.1 = 0 then (f_X8_chance_63 fu n) q6.2 v0 v1 v2 v4 v5 v6 (v7 + (0 : Int32)) (v8 + (1 : Int32)) else (f_X8_chance_63 fu n) q6.2 v0 v1 v2 v4 v5 v6 (v7 + (1 : Int32)) (v8 + (1 : Int32))) = some q := hf
    refine lv_iload C.1 C.2.1 dX8_chance_63 (lv_at hl 7 rfl) ?_
    refine lv_iload_n C.1 C.2.1 dX8_chance_65 rfl (lv_at hl 2 rfl) ?_
    refine lv_icmp_ge (tgt := 103) C.1 C.2.1 dX8_chance_66 (by decide) (fun c1 => ?_) (fun c1 => ?_)
    · have hf := if_t hf c1
      refine lv_iload C.1 C.2.1 dX8_chance_103 (lv_at hl 6 rfl) ?_
      refine lv_iload_n C.1 C.2.1 dX8_chance_105 rfl (lv_at hl 2 rfl) ?_
      obtain ⟨q2, hq_q2, hf⟩ := ob_ hf
      refine x_ai K h (x_S C K h [.int v7, .int v2] (c_X8_commonDivisor fu l κ G cy ad H.size σ v7 v2 hq_q2) mi_X8_commonDivisor rfl st_yX8_commonDivisor ml_RX8_326 ⟨rfl, rfl, Nat.le_trans (Nat.le_of_ble_eq_true rfl) hR.1, Nat.le_trans (Nat.le_of_ble_eq_true rfl) hR.2⟩ hl (Nat.le_of_ble_eq_true rfl) dX8_chance_106 ⟨Nat.zero_le _, Nat.zero_le _⟩ rfl) (fun H locs h hX => ?_)
      refine lv_istore (i := 8) (lv' := [(8, .int q2), (0, .ref (ad v0)), (1, .int v1), (2, .int v2), (4, .int v4), (5, .int v5), (6, .ref (ad v6)), (7, .int v7)]) C.1 C.2.1 dX8_chance_109 hl (by decide) rfl (fun ls hl => ?_)
      refine lv_iload C.1 C.2.1 dX8_chance_111 (lv_at hl 5 rfl) ?_
      refine lv_if_ne (tgt := 121) C.1 C.2.1 dX8_chance_113 (by decide) (fun c3 => ?_) (fun c3 => ?_)
      · have hf := if_f hf c3
        refine lv_iload_n C.1 C.2.1 dX8_chance_121 rfl (lv_at hl 3 rfl) ?_
        refine lv_iconst (v := (1 : Int32)) C.1 C.2.1 dX8_chance_122 (by decide) ?_
        refine lv_iload C.1 C.2.1 dX8_chance_123 (lv_at hl 0 rfl) ?_
        refine va_mmax C.1 C.2.1 (C.2.2.1.trans hl.1.symm) C.2.2.2.1 (C.2.2.2.2 _ ml_RX8_329) (C.2.2.2.2 _ st_yJ9_max_7cf53) (C.2.2.2.2 _ in_RJ9) (C.2.2.2.2 _ co_yJ9_max_7cf53) (Nat.le_trans (by decide) hR.1) (Nat.le_trans (Nat.le_of_ble_eq_true rfl) hR.2) (Nat.zero_le _) (Nat.zero_le _) dX8_chance_125 ?_
        obtain ⟨hd4, hf⟩ := gd_ hf
        refine lv_idiv C.1 C.2.1 dX8_chance_128 hd4 ?_
        refine lv_i2l C.1 C.2.1 dX8_chance_129 rfl ?_
        exact x_rl C hr hlk h hE (pf_1 (Option.some.inj hf)) (pf_2 (Option.some.inj hf)) dX8_chance_130
      · have hf := if_t hf c3
        refine lv_iload C.1 C.2.1 dX8_chance_116 (lv_at hl 7 rfl) ?_
        refine lv_goto (tgt := 122) C.1 C.2.1 dX8_chance_118 (by decide) ?_
        refine lv_iconst (v := (1 : Int32)) C.1 C.2.1 dX8_chance_122 (by decide) ?_
        refine lv_iload C.1 C.2.1 dX8_chance_123 (lv_at hl 0 rfl) ?_
        refine va_mmax C.1 C.2.1 (C.2.2.1.trans hl.1.symm) C.2.2.2.1 (C.2.2.2.2 _ ml_RX8_329) (C.2.2.2.2 _ st_yJ9_max_7cf53) (C.2.2.2.2 _ in_RJ9) (C.2.2.2.2 _ co_yJ9_max_7cf53) (Nat.le_trans (by decide) hR.1) (Nat.le_trans (Nat.le_of_ble_eq_true rfl) hR.2) (Nat.zero_le _) (Nat.zero_le _) dX8_chance_125 ?_
        obtain ⟨hd5, hf⟩ := gd_ hf
        refine lv_idiv C.1 C.2.1 dX8_chance_128 hd5 ?_
        refine lv_i2l C.1 C.2.1 dX8_chance_129 rfl ?_
        exact x_rl C hr hlk h hE (pf_1 (Option.some.inj hf)) (pf_2 (Option.some.inj hf)) dX8_chance_130
    · have hf := if_f hf c1
      refine lv_iload C.1 C.2.1 dX8_chance_69 (lv_at hl 6 rfl) ?_
      refine lv_aload_n C.1 C.2.1 dX8_chance_71 rfl (lv_at hl 0 rfl) ?_
      refine lv_iload_n C.1 C.2.1 dX8_chance_72 rfl (lv_at hl 1 rfl) ?_
      refine lv_iload C.1 C.2.1 dX8_chance_73 (lv_at hl 7 rfl) ?_
      refine lv_iadd C.1 C.2.1 dX8_chance_75 ?_
      refine lv_aload C.1 C.2.1 dX8_chance_76 (lv_at hl 5 rfl) ?_
      refine x_getN (v := .int (si_ σ v6 2)) C K h cl_0 hk_v6 2 (by decide) nf_RX8_157 rfl dX8_chance_78 ?_
      refine lv_iload C.1 C.2.1 dX8_chance_81 (lv_at hl 3 rfl) ?_
      obtain ⟨q6, hq_q6, hf⟩ := ob_ hf
      refine x_az K h (x_V C K h [.int (v1 + v8), .int (si_ σ v6 2), .int v4] (c_X8_comesBy fu l κ G cy ad H.size σ v0 (v1 + v8) (si_ σ v6 2) v4 hk_v0 hq_q6) mi_X8_comesBy rfl im_yX8_comesBy se_yX8_comesBy ml_RX8_322 cl_8 hk_v0 ⟨rfl, rfl, Nat.le_trans (Nat.le_of_ble_eq_true rfl) hR.1, Nat.le_trans (Nat.le_of_ble_eq_true rfl) hR.2⟩ hl (Nat.le_of_ble_eq_true rfl) dX8_chance_83 ⟨Nat.zero_le _, Nat.zero_le _⟩ rfl) (fun H locs h hX hz7 => ?_)
      have hE := hE.trans hX
      have hk_v0 := hX.k hk_v0 (by decide)
      have hk_v6 := hX.k hk_v6 (by decide)
      refine lv_if_eq (tgt := 93) C.1 C.2.1 dX8_chance_86 (by decide) (fun c8 => ?_) (fun c8 => ?_)
      · have hf := if_t hf c8
        refine lv_iconst (v := (0 : Int32)) C.1 C.2.1 dX8_chance_93 (by decide) ?_
        refine lv_iadd C.1 C.2.1 dX8_chance_94 ?_
        refine lv_istore (i := 7) (lv' := [(7, .int (v7 + (0 : Int32))), (0, .ref (ad v0)), (1, .int v1), (2, .int v2), (4, .int v4), (5, .int v5), (6, .ref (ad v6)), (8, .int v8)]) C.1 C.2.1 dX8_chance_95 hl (by decide) rfl (fun ls hl => ?_)
        refine lv_iinc (v := v8 + (1 : Int32)) (lv' := [(8, .int (v8 + (1 : Int32))), (7, .int (v7 + (0 : Int32))), (0, .ref (ad v0)), (1, .int v1), (2, .int v2), (4, .int v4), (5, .int v5), (6, .ref (ad v6))]) C.1 C.2.1 dX8_chance_97 hl (k := 7) rfl rfl (by decide) rfl (fun ls hl => ?_)
        refine lv_goto (tgt := 63) C.1 C.2.1 dX8_chance_100 (by decide) ?_
        exact ih q6.2 v0 v1 v2 v4 v5 v6 (v7 + (0 : Int32)) (v8 + (1 : Int32)) hE hk_v0 hk_v6 hf _ _ _ h (lv_sub hl [2, 3, 4, 5, 6, 7, 1, 0] rfl)
      · have hf := if_f hf c8
        refine lv_iconst (v := (1 : Int32)) C.1 C.2.1 dX8_chance_89 (by decide) ?_
        refine lv_goto (tgt := 94) C.1 C.2.1 dX8_chance_90 (by decide) ?_
        refine lv_iadd C.1 C.2.1 dX8_chance_94 ?_
        refine lv_istore (i := 7) (lv' := [(7, .int (v7 + (1 : Int32))), (0, .ref (ad v0)), (1, .int v1), (2, .int v2), (4, .int v4), (5, .int v5), (6, .ref (ad v6)), (8, .int v8)]) C.1 C.2.1 dX8_chance_95 hl (by decide) rfl (fun ls hl => ?_)
        refine lv_iinc (v := v8 + (1 : Int32)) (lv' := [(8, .int (v8 + (1 : Int32))), (7, .int (v7 + (1 : Int32))), (0, .ref (ad v0)), (1, .int v1), (2, .int v2), (4, .int v4), (5, .int v5), (6, .ref (ad v6))]) C.1 C.2.1 dX8_chance_97 hl (k := 7) rfl rfl (by decide) rfl (fun ls hl => ?_)
        refine lv_goto (tgt := 63) C.1 C.2.1 dX8_chance_100 (by decide) ?_
        exact ih q6.2 v0 v1 v2 v4 v5 v6 (v7 + (1 : Int32)) (v8 + (1 : Int32)) hE hk_v0 hk_v6 hf _ _ _ h (lv_sub hl [2, 3, 4, 5, 6, 7, 1, 0] rfl)
def f_X8_chance (fu : Nat) (σ : St_) (a0 : Nat) (x1 : Int32) (x2 : Int32) (x3 : Int32) (x4 : Int32) (x5 : Int32) : Option (Int64 × St_) := (dr_ σ 1 (sr_ σ a0 0)).bind fun b6 => (f_X1_carpetAt σ b6 x3).bind fun q7 => oc_ q7 (some ((-4611686018427387904 : Int64), σ)) (fun b8 => if kd_ σ b8 = 0 then if (f_X8_isBelow x4 (36 : Int32)) = 0 then some ((-4611686018427387904 : Int64), σ) else if (f_X8_isBelow x2 (21 : Int32)) = 0 then some ((-4611686018427387904 : Int64), σ) else if x2 = 0 then some ((-4611686018427387904 : Int64), σ) else if (f_X8_isBelow x5 (2 : Int32)) = 0 then some ((-4611686018427387904 : Int64), σ) else (f_X8_think σ a0 b8).bind fun q19 => f_X8_chance_63 fu fu q19 a0 x1 x2 x4 x5 b8 (0 : Int32) (0 : Int32) else none)
set_option maxHeartbeats 4000000 in
set_option maxRecDepth 100000 in
theorem w_X8_chance {p : Program} {l : Launch} {e : Env} {R : Room} {s : State} {m : MethodId} {args : Array Value} {below : List Frame} {meth : Method} {c : Code} {κ : Ka_} {G : va_G} {cy : Nat → ClassId} {ad : Nat → Nat} {sz : Nat} {σ0 : St_} (fu : Nat) (C : CallFix p m c cX8_chance 9 s args wU_ RX8) (K : Kx_ κ G cy (va_A (wl_ cy ad σ0) sz) s) (hr : meth.sig.returnType = some .long) (hlk : meth.locks = false) (hR : 4 ≤ R.frames ∧ 103 ≤ R.locals) {q : Int64 × St_} : ∀ (σ : St_) (a0 : Nat) (x1 : Int32) (x2 : Int32) (x3 : Int32) (x4 : Int32) (x5 : Int32), Ex_ σ0 σ → kd_ σ a0 = 8 → f_X8_chance fu σ a0 x1 x2 x3 x4 x5 = some q → ∀ (H : Heap) (locs : List Loc) (ls : Array Slot), Ht_ G cy (va_A (wl_ cy ad σ0) sz) s ad σ H locs → lv_has ls 9 [(0, .ref (ad a0)), (1, .int x1), (2, .int x2), (3, .int x3), (4, .int x4), (5, .int x5)] → W p l e R s m args below meth c H locs 0 0 (MQ below (Ql_ G cy ad σ0 q.2 sz q.1) args s 0 0 (va_A (wl_ cy ad σ0) sz)) (F0 m 0 ls []) := by
  intro σ a0 x1 x2 x3 x4 x5 hE hk_a0 hf H locs ls h hl
  have hf : ((dr_ σ 1 (sr_ σ a0 0)).bind fun b6 => (f_X1_carpetAt σ b6 x3).bind fun q7 => oc_ q7 (some ((-4611686018427387904 : Int64), σ)) (fun b8 => if kd_ σ b8 = 0 then if (f_X8_isBelow x4 (36 : Int32)) = 0 then some ((-4611686018427387904 : Int64), σ) else if (f_X8_isBelow x2 (21 : Int32)) = 0 then some ((-4611686018427387904 : Int64), σ) else if x2 = 0 then some ((-4611686018427387904 : Int64), σ) else if (f_X8_isBelow x5 (2 : Int32)) = 0 then some ((-4611686018427387904 : Int64), σ) else (f_X8_think σ a0 b8).bind fun q19 => f_X8_chance_63 fu fu q19 a0 x1 x2 x4 x5 b8 (0 : Int32) (0 : Int32) else none)) = some q := hf
  refine lv_aload_n C.1 C.2.1 dX8_chance_0 rfl (lv_at hl 0 rfl) ?_
  obtain ⟨b6, hb_b6, hf⟩ := ob_ hf
  obtain ⟨hq_b6, hk_b6⟩ := dr_in hb_b6
  refine x_get (v := .ref (ad b6)) C K h cl_8 hk_a0 0 (by decide) fl_RX8_12 (hv_r (o := sr_ σ a0 0) rfl hq_b6) dX8_chance_1 ?_
  refine lv_iload_n C.1 C.2.1 dX8_chance_4 rfl (lv_at hl 3 rfl) ?_
  obtain ⟨q7, hq_q7, hf⟩ := ob_ hf
  refine x_aq K h (x_VN C K h [.int x3] (c_X1_carpetAt l κ G cy ad H.size σ b6 x3 hk_b6 hq_q7) mi_X1_carpetAt rfl im_yX1_carpetAt se_yX1_carpetAt nm_RX8_130 cl_1 hk_b6 ⟨rfl, rfl, Nat.le_trans (Nat.le_of_ble_eq_true rfl) hR.1, Nat.le_trans (Nat.le_of_ble_eq_true rfl) hR.2⟩ hl (Nat.le_of_ble_eq_true rfl) dX8_chance_5 ⟨Nat.zero_le _, Nat.zero_le _⟩ rfl) (fun H locs h hX => ?_)
  refine x_astoreq (i := 6) (lv' := [(6, rv_ ad q7), (0, .ref (ad a0)), (1, .int x1), (2, .int x2), (3, .int x3), (4, .int x4), (5, .int x5)]) C.1 C.2.1 dX8_chance_8 hl (by decide) rfl (fun ls hl => ?_)
  refine x_aloadq C.1 C.2.1 dX8_chance_10 (lv_at hl 0 rfl) ?_
  cases q7 with
  | none =>
    have hf := oc_n hf
    refine lv_ifnullN (tgt := 47) C.1 C.2.1 dX8_chance_12 (by decide) ?_
    refine lv_ldc2 (v := (-4611686018427387904 : Int64)) C.1 C.2.1 C.2.2.2.1 (C.2.2.2.2 _ cl_RX8_212) dX8_chance_47 ?_
    exact x_rl C hr hlk h hE (pf_1 (Option.some.inj hf)) (pf_2 (Option.some.inj hf)) dX8_chance_50
  | some b8 =>
    obtain ⟨hk_b8, hf⟩ := gd_ (oc_s hf)
    refine lv_ifnull C.1 C.2.1 dX8_chance_12 ?_
    refine lv_iload C.1 C.2.1 dX8_chance_15 (lv_at hl 5 rfl) ?_
    refine lv_bipush (v := (36 : Int32)) C.1 C.2.1 dX8_chance_17 (by decide) ?_
    refine x_az K h (x_S C K h [.int x4, .int (36 : Int32)] (c_X8_isBelow l κ G cy ad H.size σ x4 (36 : Int32) rfl) mi_X8_isBelow rfl st_yX8_isBelow ml_RX8_116 ⟨rfl, rfl, Nat.le_trans (Nat.le_of_ble_eq_true rfl) hR.1, Nat.le_trans (Nat.le_of_ble_eq_true rfl) hR.2⟩ hl (Nat.le_of_ble_eq_true rfl) dX8_chance_19 ⟨Nat.zero_le _, Nat.zero_le _⟩ rfl) (fun H locs h hX hz10 => ?_)
    refine lv_if_eq (tgt := 47) C.1 C.2.1 dX8_chance_22 (by decide) (fun c11 => ?_) (fun c11 => ?_)
    · have hf := if_t hf c11
      refine lv_ldc2 (v := (-4611686018427387904 : Int64)) C.1 C.2.1 C.2.2.2.1 (C.2.2.2.2 _ cl_RX8_212) dX8_chance_47 ?_
      exact x_rl C hr hlk h hE (pf_1 (Option.some.inj hf)) (pf_2 (Option.some.inj hf)) dX8_chance_50
    · have hf := if_f hf c11
      refine lv_iload_n C.1 C.2.1 dX8_chance_25 rfl (lv_at hl 3 rfl) ?_
      refine lv_bipush (v := (21 : Int32)) C.1 C.2.1 dX8_chance_26 (by decide) ?_
      refine x_az K h (x_S C K h [.int x2, .int (21 : Int32)] (c_X8_isBelow l κ G cy ad H.size σ x2 (21 : Int32) rfl) mi_X8_isBelow rfl st_yX8_isBelow ml_RX8_116 ⟨rfl, rfl, Nat.le_trans (Nat.le_of_ble_eq_true rfl) hR.1, Nat.le_trans (Nat.le_of_ble_eq_true rfl) hR.2⟩ hl (Nat.le_of_ble_eq_true rfl) dX8_chance_28 ⟨Nat.zero_le _, Nat.zero_le _⟩ rfl) (fun H locs h hX hz13 => ?_)
      refine lv_if_eq (tgt := 47) C.1 C.2.1 dX8_chance_31 (by decide) (fun c14 => ?_) (fun c14 => ?_)
      · have hf := if_t hf c14
        refine lv_ldc2 (v := (-4611686018427387904 : Int64)) C.1 C.2.1 C.2.2.2.1 (C.2.2.2.2 _ cl_RX8_212) dX8_chance_47 ?_
        exact x_rl C hr hlk h hE (pf_1 (Option.some.inj hf)) (pf_2 (Option.some.inj hf)) dX8_chance_50
      · have hf := if_f hf c14
        refine lv_iload_n C.1 C.2.1 dX8_chance_34 rfl (lv_at hl 3 rfl) ?_
        refine lv_if_eq (tgt := 47) C.1 C.2.1 dX8_chance_35 (by decide) (fun c15 => ?_) (fun c15 => ?_)
        · have hf := if_t hf c15
          refine lv_ldc2 (v := (-4611686018427387904 : Int64)) C.1 C.2.1 C.2.2.2.1 (C.2.2.2.2 _ cl_RX8_212) dX8_chance_47 ?_
          exact x_rl C hr hlk h hE (pf_1 (Option.some.inj hf)) (pf_2 (Option.some.inj hf)) dX8_chance_50
        · have hf := if_f hf c15
          refine lv_iload C.1 C.2.1 dX8_chance_38 (lv_at hl 6 rfl) ?_
          refine lv_iconst (v := (2 : Int32)) C.1 C.2.1 dX8_chance_40 (by decide) ?_
          refine x_az K h (x_S C K h [.int x5, .int (2 : Int32)] (c_X8_isBelow l κ G cy ad H.size σ x5 (2 : Int32) rfl) mi_X8_isBelow rfl st_yX8_isBelow ml_RX8_116 ⟨rfl, rfl, Nat.le_trans (Nat.le_of_ble_eq_true rfl) hR.1, Nat.le_trans (Nat.le_of_ble_eq_true rfl) hR.2⟩ hl (Nat.le_of_ble_eq_true rfl) dX8_chance_41 ⟨Nat.zero_le _, Nat.zero_le _⟩ rfl) (fun H locs h hX hz17 => ?_)
          refine lv_if_ne (tgt := 51) C.1 C.2.1 dX8_chance_44 (by decide) (fun c18 => ?_) (fun c18 => ?_)
          · have hf := if_f hf c18
            refine lv_aload_n C.1 C.2.1 dX8_chance_51 rfl (lv_at hl 1 rfl) ?_
            refine lv_aload C.1 C.2.1 dX8_chance_52 (lv_at hl 0 rfl) ?_
            obtain ⟨q19, hq_q19, hf⟩ := ob_ hf
            refine x_av K h (x_V C K h [.ref (ad b8)] (c_X8_think l κ G cy ad H.size σ a0 b8 hk_a0 hk_b8 hq_q19) mi_X8_think rfl im_yX8_think se_yX8_think ml_RX8_153 cl_8 hk_a0 ⟨rfl, rfl, Nat.le_trans (Nat.le_of_ble_eq_true rfl) hR.1, Nat.le_trans (Nat.le_of_ble_eq_true rfl) hR.2⟩ hl (Nat.le_of_ble_eq_true rfl) dX8_chance_54 ⟨Nat.zero_le _, Nat.zero_le _⟩ rfl) (fun H locs h hX => ?_)
            have hE := hE.trans hX
            have hk_a0 := hX.k hk_a0 (by decide)
            have hk_b8 := hX.k hk_b8 (by decide)
            refine lv_iconst (v := (0 : Int32)) C.1 C.2.1 dX8_chance_57 (by decide) ?_
            refine lv_istore (i := 7) (lv' := [(7, .int (0 : Int32)), (6, .ref (ad b8)), (0, .ref (ad a0)), (1, .int x1), (2, .int x2), (3, .int x3), (4, .int x4), (5, .int x5)]) C.1 C.2.1 dX8_chance_58 hl (by decide) rfl (fun ls hl => ?_)
            refine lv_iconst (v := (0 : Int32)) C.1 C.2.1 dX8_chance_60 (by decide) ?_
            refine lv_istore (i := 8) (lv' := [(8, .int (0 : Int32)), (7, .int (0 : Int32)), (6, .ref (ad b8)), (0, .ref (ad a0)), (1, .int x1), (2, .int x2), (3, .int x3), (4, .int x4), (5, .int x5)]) C.1 C.2.1 dX8_chance_61 hl (by decide) rfl (fun ls hl => ?_)
            exact w_X8_chance_63 fu C K hr hlk hR fu q19 a0 x1 x2 x4 x5 b8 (0 : Int32) (0 : Int32) hE hk_a0 hk_b8 hf _ _ _ h (lv_sub hl [3, 4, 5, 7, 8, 2, 1, 0] rfl)
          · have hf := if_t hf c18
            refine lv_ldc2 (v := (-4611686018427387904 : Int64)) C.1 C.2.1 C.2.2.2.1 (C.2.2.2.2 _ cl_RX8_212) dX8_chance_47 ?_
            exact x_rl C hr hlk h hE (pf_1 (Option.some.inj hf)) (pf_2 (Option.some.inj hf)) dX8_chance_50
theorem c_X8_chance (fu : Nat) (l : Launch) (κ : Ka_) (G : va_G) (cy : Nat → ClassId) (ad : Nat → Nat) (sz : Nat) (σ : St_) (a0 : Nat) (x1 : Int32) (x2 : Int32) (x3 : Int32) (x4 : Int32) (x5 : Int32) (hk_a0 : kd_ σ a0 = 8) {q : Int64 × St_} (hf : f_X8_chance fu σ a0 x1 x2 x3 x4 x5 = some q) : Met l yX8_chance (Cond.code yX8_chance cX8_chance 9 (some .long) :: wU_) { frames := 4, cells := 0, slots := 0, locals := 103 } (va_Pc [.ref (ad a0), .int x1, .int x2, .int x3, .int x4, .int x5] (Pr_ κ G cy ad σ sz)) (Ql_ G cy ad σ q.2 sz q.1) 0 0 (va_A (wl_ cy ad σ) sz) :=
  x_met (by decide) (fun p e R s m below meth c ls hR C hr hlk hin _ K h hl => w_X8_chance fu C K hr hlk ⟨hR.1, hR.2.1⟩ σ a0 x1 x2 x3 x4 x5 Ex_.rf hk_a0 hf s.heap [] ls h hl) (Nat.le_of_ble_eq_true rfl)
-- X8_image
theorem mi_X8_image : Mi_ yX8_image cX8_image 1 (some .int) 0 := ⟨co_yX8_image, in_RX8, by decide, by decide, by decide +kernel⟩
def f_X8_image (fu : Nat) (σ : St_) (a0 : Nat) : Option (Int32 × St_) := (dr_ σ 1 (sr_ σ a0 1)).bind fun b1 => (dr_ σ 1 (sr_ σ a0 0)).bind fun b2 => (f_X1_becomeLike fu σ b1 b2).bind fun q3 => (dr_ (ui_ q3 a0 2 (1 : Int32)) 1 (sr_ (ui_ q3 a0 2 (1 : Int32)) a0 1)).bind fun b4 => some (si_ (ui_ q3 a0 2 (1 : Int32)) b4 1, ui_ q3 a0 2 (1 : Int32))
set_option maxHeartbeats 4000000 in
set_option maxRecDepth 100000 in
theorem w_X8_image {p : Program} {l : Launch} {e : Env} {R : Room} {s : State} {m : MethodId} {args : Array Value} {below : List Frame} {meth : Method} {c : Code} {κ : Ka_} {G : va_G} {cy : Nat → ClassId} {ad : Nat → Nat} {sz : Nat} {σ0 : St_} (fu : Nat) (C : CallFix p m c cX8_image 1 s args wU_ RX8) (K : Kx_ κ G cy (va_A (wl_ cy ad σ0) sz) s) (hr : meth.sig.returnType = some .int) (hlk : meth.locks = false) (hR : 2 ≤ R.frames ∧ 47 ≤ R.locals) {q : Int32 × St_} : ∀ (σ : St_) (a0 : Nat), Ex_ σ0 σ → kd_ σ a0 = 8 → f_X8_image fu σ a0 = some q → ∀ (H : Heap) (locs : List Loc) (ls : Array Slot), Ht_ G cy (va_A (wl_ cy ad σ0) sz) s ad σ H locs → lv_has ls 1 [(0, .ref (ad a0))] → W p l e R s m args below meth c H locs 0 0 (MQ below (Qi_ G cy ad σ0 q.2 sz q.1) args s 0 0 (va_A (wl_ cy ad σ0) sz)) (F0 m 0 ls []) := by
  intro σ a0 hE hk_a0 hf H locs ls h hl
  have hf : ((dr_ σ 1 (sr_ σ a0 1)).bind fun b1 => (dr_ σ 1 (sr_ σ a0 0)).bind fun b2 => (f_X1_becomeLike fu σ b1 b2).bind fun q3 => (dr_ (ui_ q3 a0 2 (1 : Int32)) 1 (sr_ (ui_ q3 a0 2 (1 : Int32)) a0 1)).bind fun b4 => some (si_ (ui_ q3 a0 2 (1 : Int32)) b4 1, ui_ q3 a0 2 (1 : Int32))) = some q := hf
  refine lv_aload_n C.1 C.2.1 dX8_image_0 rfl (lv_at hl 0 rfl) ?_
  obtain ⟨b1, hb_b1, hf⟩ := ob_ hf
  obtain ⟨hq_b1, hk_b1⟩ := dr_in hb_b1
  refine x_get (v := .ref (ad b1)) C K h cl_8 hk_a0 1 (by decide) fl_RX8_16 (hv_r (o := sr_ σ a0 1) rfl hq_b1) dX8_image_1 ?_
  refine lv_aload_n C.1 C.2.1 dX8_image_4 rfl (lv_at hl 0 rfl) ?_
  obtain ⟨b2, hb_b2, hf⟩ := ob_ hf
  obtain ⟨hq_b2, hk_b2⟩ := dr_in hb_b2
  refine x_get (v := .ref (ad b2)) C K h cl_8 hk_a0 0 (by decide) fl_RX8_12 (hv_r (o := sr_ σ a0 0) rfl hq_b2) dX8_image_5 ?_
  obtain ⟨q3, hq_q3, hf⟩ := ob_ hf
  refine x_av K h (x_VN C K h [.ref (ad b2)] (c_X1_becomeLike fu l κ G cy ad H.size σ b1 b2 hk_b1 hk_b2 hq_q3) mi_X1_becomeLike rfl im_yX1_becomeLike se_yX1_becomeLike nm_RX8_334 cl_1 hk_b1 ⟨rfl, rfl, Nat.le_trans (Nat.le_of_ble_eq_true rfl) hR.1, Nat.le_trans (Nat.le_of_ble_eq_true rfl) hR.2⟩ hl (Nat.le_of_ble_eq_true rfl) dX8_image_8 ⟨Nat.zero_le _, Nat.zero_le _⟩ rfl) (fun H locs h hX => ?_)
  have hE := hE.trans hX
  have hk_a0 := hX.k hk_a0 (by decide)
  refine lv_aload_n C.1 C.2.1 dX8_image_11 rfl (lv_at hl 0 rfl) ?_
  refine lv_iconst (v := (1 : Int32)) C.1 C.2.1 dX8_image_12 (by decide) ?_
  refine x_putI C K h cl_8 hk_a0 2 (by decide) fl_RX8_19 rfl (by decide) (by decide) (Nat.le_of_ble_eq_true rfl) (fun _ _ _ => rfl) dX8_image_13 (fun H locs h => ?_)
  have hE := hE.up (up_i q3 a0 2 (1 : Int32))
  refine lv_aload_n C.1 C.2.1 dX8_image_16 rfl (lv_at hl 0 rfl) ?_
  obtain ⟨b4, hb_b4, hf⟩ := ob_ hf
  obtain ⟨hq_b4, hk_b4⟩ := dr_in hb_b4
  refine x_get (v := .ref (ad b4)) C K h cl_8 hk_a0 1 (by decide) fl_RX8_16 (hv_r (o := sr_ (ui_ q3 a0 2 (1 : Int32)) a0 1) rfl hq_b4) dX8_image_17 ?_
  refine x_getN (v := .int (si_ (ui_ q3 a0 2 (1 : Int32)) b4 1)) C K h cl_1 hk_b4 1 (by decide) nf_RX8_248 rfl dX8_image_20 ?_
  exact x_ri C hr hlk h hE (pf_1 (Option.some.inj hf)) (pf_2 (Option.some.inj hf)) dX8_image_23
theorem c_X8_image (fu : Nat) (l : Launch) (κ : Ka_) (G : va_G) (cy : Nat → ClassId) (ad : Nat → Nat) (sz : Nat) (σ : St_) (a0 : Nat) (hk_a0 : kd_ σ a0 = 8) {q : Int32 × St_} (hf : f_X8_image fu σ a0 = some q) : Met l yX8_image (Cond.code yX8_image cX8_image 1 (some .int) :: wU_) { frames := 2, cells := 0, slots := 0, locals := 47 } (va_Pc [.ref (ad a0)] (Pr_ κ G cy ad σ sz)) (Qi_ G cy ad σ q.2 sz q.1) 0 0 (va_A (wl_ cy ad σ) sz) :=
  x_met (by decide) (fun p e R s m below meth c ls hR C hr hlk hin _ K h hl => w_X8_image fu C K hr hlk ⟨hR.1, hR.2.1⟩ σ a0 Ex_.rf hk_a0 hf s.heap [] ls h hl) (Nat.le_of_ble_eq_true rfl)
-- X8_back
theorem mi_X8_back : Mi_ yX8_back cX8_back 1 (some .int) 0 := ⟨co_yX8_back, in_RX8, by decide, by decide, by decide +kernel⟩
def f_X8_back (fu : Nat) (σ : St_) (a0 : Nat) : Option (Int32 × St_) := if (si_ σ a0 2) = 0 then some ((-3 : Int32), σ) else (dr_ σ 1 (sr_ σ a0 0)).bind fun b2 => (dr_ σ 1 (sr_ σ a0 1)).bind fun b3 => (f_X1_becomeLike fu σ b2 b3).bind fun q4 => (dr_ q4 1 (sr_ q4 a0 0)).bind fun b5 => some (si_ q4 b5 1, q4)
set_option maxHeartbeats 4000000 in
set_option maxRecDepth 100000 in
theorem w_X8_back {p : Program} {l : Launch} {e : Env} {R : Room} {s : State} {m : MethodId} {args : Array Value} {below : List Frame} {meth : Method} {c : Code} {κ : Ka_} {G : va_G} {cy : Nat → ClassId} {ad : Nat → Nat} {sz : Nat} {σ0 : St_} (fu : Nat) (C : CallFix p m c cX8_back 1 s args wU_ RX8) (K : Kx_ κ G cy (va_A (wl_ cy ad σ0) sz) s) (hr : meth.sig.returnType = some .int) (hlk : meth.locks = false) (hR : 2 ≤ R.frames ∧ 47 ≤ R.locals) {q : Int32 × St_} : ∀ (σ : St_) (a0 : Nat), Ex_ σ0 σ → kd_ σ a0 = 8 → f_X8_back fu σ a0 = some q → ∀ (H : Heap) (locs : List Loc) (ls : Array Slot), Ht_ G cy (va_A (wl_ cy ad σ0) sz) s ad σ H locs → lv_has ls 1 [(0, .ref (ad a0))] → W p l e R s m args below meth c H locs 0 0 (MQ below (Qi_ G cy ad σ0 q.2 sz q.1) args s 0 0 (va_A (wl_ cy ad σ0) sz)) (F0 m 0 ls []) := by
  intro σ a0 hE hk_a0 hf H locs ls h hl
  have hf : (if (si_ σ a0 2) = 0 then some ((-3 : Int32), σ) else (dr_ σ 1 (sr_ σ a0 0)).bind fun b2 => (dr_ σ 1 (sr_ σ a0 1)).bind fun b3 => (f_X1_becomeLike fu σ b2 b3).bind fun q4 => (dr_ q4 1 (sr_ q4 a0 0)).bind fun b5 => some (si_ q4 b5 1, q4)) = some q := hf
  refine lv_aload_n C.1 C.2.1 dX8_back_0 rfl (lv_at hl 0 rfl) ?_
  refine x_get (v := .int (si_ σ a0 2)) C K h cl_8 hk_a0 2 (by decide) fl_RX8_19 rfl dX8_back_1 ?_
  refine lv_if_ne (tgt := 10) C.1 C.2.1 dX8_back_4 (by decide) (fun c1 => ?_) (fun c1 => ?_)
  · have hf := if_f hf c1
    refine lv_aload_n C.1 C.2.1 dX8_back_10 rfl (lv_at hl 0 rfl) ?_
    obtain ⟨b2, hb_b2, hf⟩ := ob_ hf
    obtain ⟨hq_b2, hk_b2⟩ := dr_in hb_b2
    refine x_get (v := .ref (ad b2)) C K h cl_8 hk_a0 0 (by decide) fl_RX8_12 (hv_r (o := sr_ σ a0 0) rfl hq_b2) dX8_back_11 ?_
    refine lv_aload_n C.1 C.2.1 dX8_back_14 rfl (lv_at hl 0 rfl) ?_
    obtain ⟨b3, hb_b3, hf⟩ := ob_ hf
    obtain ⟨hq_b3, hk_b3⟩ := dr_in hb_b3
    refine x_get (v := .ref (ad b3)) C K h cl_8 hk_a0 1 (by decide) fl_RX8_16 (hv_r (o := sr_ σ a0 1) rfl hq_b3) dX8_back_15 ?_
    obtain ⟨q4, hq_q4, hf⟩ := ob_ hf
    refine x_av K h (x_VN C K h [.ref (ad b3)] (c_X1_becomeLike fu l κ G cy ad H.size σ b2 b3 hk_b2 hk_b3 hq_q4) mi_X1_becomeLike rfl im_yX1_becomeLike se_yX1_becomeLike nm_RX8_334 cl_1 hk_b2 ⟨rfl, rfl, Nat.le_trans (Nat.le_of_ble_eq_true rfl) hR.1, Nat.le_trans (Nat.le_of_ble_eq_true rfl) hR.2⟩ hl (Nat.le_of_ble_eq_true rfl) dX8_back_18 ⟨Nat.zero_le _, Nat.zero_le _⟩ rfl) (fun H locs h hX => ?_)
    have hE := hE.trans hX
    have hk_a0 := hX.k hk_a0 (by decide)
    refine lv_aload_n C.1 C.2.1 dX8_back_21 rfl (lv_at hl 0 rfl) ?_
    obtain ⟨b5, hb_b5, hf⟩ := ob_ hf
    obtain ⟨hq_b5, hk_b5⟩ := dr_in hb_b5
    refine x_get (v := .ref (ad b5)) C K h cl_8 hk_a0 0 (by decide) fl_RX8_12 (hv_r (o := sr_ q4 a0 0) rfl hq_b5) dX8_back_22 ?_
    refine x_getN (v := .int (si_ q4 b5 1)) C K h cl_1 hk_b5 1 (by decide) nf_RX8_248 rfl dX8_back_25 ?_
    exact x_ri C hr hlk h hE (pf_1 (Option.some.inj hf)) (pf_2 (Option.some.inj hf)) dX8_back_28
  · have hf := if_t hf c1
    refine lv_bipush (v := (-3 : Int32)) C.1 C.2.1 dX8_back_7 (by decide) ?_
    exact x_ri C hr hlk h hE (pf_1 (Option.some.inj hf)) (pf_2 (Option.some.inj hf)) dX8_back_9
theorem c_X8_back (fu : Nat) (l : Launch) (κ : Ka_) (G : va_G) (cy : Nat → ClassId) (ad : Nat → Nat) (sz : Nat) (σ : St_) (a0 : Nat) (hk_a0 : kd_ σ a0 = 8) {q : Int32 × St_} (hf : f_X8_back fu σ a0 = some q) : Met l yX8_back (Cond.code yX8_back cX8_back 1 (some .int) :: wU_) { frames := 2, cells := 0, slots := 0, locals := 47 } (va_Pc [.ref (ad a0)] (Pr_ κ G cy ad σ sz)) (Qi_ G cy ad σ q.2 sz q.1) 0 0 (va_A (wl_ cy ad σ) sz) :=
  x_met (by decide) (fun p e R s m below meth c ls hR C hr hlk hin _ K h hl => w_X8_back fu C K hr hlk ⟨hR.1, hR.2.1⟩ σ a0 Ex_.rf hk_a0 hf s.heap [] ls h hl) (Nat.le_of_ble_eq_true rfl)
-- X8_count
theorem mi_X8_count : Mi_ yX8_count cX8_count 2 (some .int) 1 := ⟨co_yX8_count, in_RX8, by decide, by decide, by decide +kernel⟩
def f_X8_count (fu : Nat) (σ : St_) (a0 : Nat) (x1 : Int32) : Option Int32 := if x1 = (0 : Int32) then (dr_ σ 1 (sr_ σ a0 0)).bind fun b3 => some (si_ σ b3 1) else if x1 = (1 : Int32) then (dr_ σ 1 (sr_ σ a0 0)).bind fun b5 => some (f_J13_bitCount_95d88 (sl_ σ b5 4)) else if x1 = (2 : Int32) then (dr_ σ 1 (sr_ σ a0 0)).bind fun b8 => (f_X1_flownCount fu σ b8).bind fun q9 => some q9 else if x1 = (3 : Int32) then some (si_ σ a0 5) else if x1 = (4 : Int32) then (dr_ σ 3 (sr_ σ a0 3)).bind fun b12 => some (si_ σ b12 1) else if x1 = (5 : Int32) then (dr_ σ 1 (sr_ σ a0 0)).bind fun b14 => some (si_ σ b14 3) else some (-2 : Int32)
set_option maxHeartbeats 4000000 in
set_option maxRecDepth 100000 in
theorem w_X8_count {p : Program} {l : Launch} {e : Env} {R : Room} {s : State} {m : MethodId} {args : Array Value} {below : List Frame} {meth : Method} {c : Code} {κ : Ka_} {G : va_G} {cy : Nat → ClassId} {ad : Nat → Nat} {sz : Nat} {σ : St_} (fu : Nat) (C : CallFix p m c cX8_count 2 s args wU_ RX8) (K : Kx_ κ G cy (va_A (wl_ cy ad σ) sz) s) (hr : meth.sig.returnType = some .int) (hlk : meth.locks = false) (hR : 1 ≤ R.frames ∧ 22 ≤ R.locals) {q : Int32} : ∀ (a0 : Nat) (x1 : Int32), kd_ σ a0 = 8 → f_X8_count fu σ a0 x1 = some q → ∀ (H : Heap) (locs : List Loc) (ls : Array Slot), Ht_ G cy (va_A (wl_ cy ad σ) sz) s ad σ H locs → lv_has ls 2 [(0, .ref (ad a0)), (1, .int x1)] → W p l e R s m args below meth c H locs 0 0 (MQ below (Qi_ G cy ad σ σ sz q) args s 0 0 (va_A (wl_ cy ad σ) sz)) (F0 m 0 ls []) := by
  intro a0 x1 hk_a0 hf H locs ls h hl
  have hf : (if x1 = (0 : Int32) then (dr_ σ 1 (sr_ σ a0 0)).bind fun b3 => some (si_ σ b3 1) else if x1 = (1 : Int32) then (dr_ σ 1 (sr_ σ a0 0)).bind fun b5 => some (f_J13_bitCount_95d88 (sl_ σ b5 4)) else if x1 = (2 : Int32) then (dr_ σ 1 (sr_ σ a0 0)).bind fun b8 => (f_X1_flownCount fu σ b8).bind fun q9 => some q9 else if x1 = (3 : Int32) then some (si_ σ a0 5) else if x1 = (4 : Int32) then (dr_ σ 3 (sr_ σ a0 3)).bind fun b12 => some (si_ σ b12 1) else if x1 = (5 : Int32) then (dr_ σ 1 (sr_ σ a0 0)).bind fun b14 => some (si_ σ b14 3) else some (-2 : Int32)) = some q := hf
  refine lv_iload_n C.1 C.2.1 dX8_count_0 rfl (lv_at hl 1 rfl) ?_
  by_cases c2 : x1 = (0 : Int32)
  · have hf := if_t hf c2
    refine lv_tableIn (off := 39) (tgt := 40) C.1 C.2.1 dX8_count_1 (by rw [c2]; decide) (by rw [c2]; decide) (by rw [c2]; rfl) (by decide) ?_
    refine lv_aload_n C.1 C.2.1 dX8_count_40 rfl (lv_at hl 0 rfl) ?_
    obtain ⟨b3, hb_b3, hf⟩ := ob_ hf
    obtain ⟨hq_b3, hk_b3⟩ := dr_in hb_b3
    refine x_get (v := .ref (ad b3)) C K h cl_8 hk_a0 0 (by decide) fl_RX8_12 (hv_r (o := sr_ σ a0 0) rfl hq_b3) dX8_count_41 ?_
    refine x_getN (v := .int (si_ σ b3 1)) C K h cl_1 hk_b3 1 (by decide) nf_RX8_248 rfl dX8_count_44 ?_
    exact x_ri C hr hlk h Ex_.rf (Option.some.inj hf) rfl dX8_count_47
  · have hf := if_f hf c2
    by_cases c4 : x1 = (1 : Int32)
    · have hf := if_t hf c4
      refine lv_tableIn (off := 47) (tgt := 48) C.1 C.2.1 dX8_count_1 (by rw [c4]; decide) (by rw [c4]; decide) (by rw [c4]; rfl) (by decide) ?_
      refine lv_aload_n C.1 C.2.1 dX8_count_48 rfl (lv_at hl 0 rfl) ?_
      obtain ⟨b5, hb_b5, hf⟩ := ob_ hf
      obtain ⟨hq_b5, hk_b5⟩ := dr_in hb_b5
      refine x_get (v := .ref (ad b5)) C K h cl_8 hk_a0 0 (by decide) fl_RX8_12 (hv_r (o := sr_ σ a0 0) rfl hq_b5) dX8_count_49 ?_
      refine x_getN (v := .long (sl_ σ b5 4)) C K h cl_1 hk_b5 4 (by decide) nf_RX8_338 rfl dX8_count_52 ?_
      refine x_ai K h (x_S C K h [.long (sl_ σ b5 4)] (c_J13_bitCount_95d88 l κ G cy ad H.size σ (sl_ σ b5 4) rfl) mi_J13_bitCount_95d88 rfl st_yJ13_bitCount_95d88 ml_RX8_342 ⟨rfl, rfl, Nat.le_trans (Nat.le_of_ble_eq_true rfl) hR.1, Nat.le_trans (Nat.le_of_ble_eq_true rfl) hR.2⟩ hl (Nat.le_of_ble_eq_true rfl) dX8_count_55 ⟨Nat.zero_le _, Nat.zero_le _⟩ rfl) (fun H locs h hX => ?_)
      exact x_ri C hr hlk h Ex_.rf (Option.some.inj hf) rfl dX8_count_58
    · have hf := if_f hf c4
      by_cases c7 : x1 = (2 : Int32)
      · have hf := if_t hf c7
        refine lv_tableIn (off := 58) (tgt := 59) C.1 C.2.1 dX8_count_1 (by rw [c7]; decide) (by rw [c7]; decide) (by rw [c7]; rfl) (by decide) ?_
        refine lv_aload_n C.1 C.2.1 dX8_count_59 rfl (lv_at hl 0 rfl) ?_
        obtain ⟨b8, hb_b8, hf⟩ := ob_ hf
        obtain ⟨hq_b8, hk_b8⟩ := dr_in hb_b8
        refine x_get (v := .ref (ad b8)) C K h cl_8 hk_a0 0 (by decide) fl_RX8_12 (hv_r (o := sr_ σ a0 0) rfl hq_b8) dX8_count_60 ?_
        obtain ⟨q9, hq_q9, hf⟩ := ob_ hf
        refine x_ai K h (x_VN C K h [] (c_X1_flownCount fu l κ G cy ad H.size σ b8 hk_b8 hq_q9) mi_X1_flownCount rfl im_yX1_flownCount se_yX1_flownCount nm_RX8_348 cl_1 hk_b8 ⟨rfl, rfl, Nat.le_trans (Nat.le_of_ble_eq_true rfl) hR.1, Nat.le_trans (Nat.le_of_ble_eq_true rfl) hR.2⟩ hl (Nat.le_of_ble_eq_true rfl) dX8_count_63 ⟨Nat.zero_le _, Nat.zero_le _⟩ rfl) (fun H locs h hX => ?_)
        exact x_ri C hr hlk h Ex_.rf (Option.some.inj hf) rfl dX8_count_66
      · have hf := if_f hf c7
        by_cases c10 : x1 = (3 : Int32)
        · have hf := if_t hf c10
          refine lv_tableIn (off := 66) (tgt := 67) C.1 C.2.1 dX8_count_1 (by rw [c10]; decide) (by rw [c10]; decide) (by rw [c10]; rfl) (by decide) ?_
          refine lv_aload_n C.1 C.2.1 dX8_count_67 rfl (lv_at hl 0 rfl) ?_
          refine x_get (v := .int (si_ σ a0 5)) C K h cl_8 hk_a0 5 (by decide) fl_RX8_36 rfl dX8_count_68 ?_
          exact x_ri C hr hlk h Ex_.rf (Option.some.inj hf) rfl dX8_count_71
        · have hf := if_f hf c10
          by_cases c11 : x1 = (4 : Int32)
          · have hf := if_t hf c11
            refine lv_tableIn (off := 71) (tgt := 72) C.1 C.2.1 dX8_count_1 (by rw [c11]; decide) (by rw [c11]; decide) (by rw [c11]; rfl) (by decide) ?_
            refine lv_aload_n C.1 C.2.1 dX8_count_72 rfl (lv_at hl 0 rfl) ?_
            obtain ⟨b12, hb_b12, hf⟩ := ob_ hf
            obtain ⟨hq_b12, hk_b12⟩ := dr_in hb_b12
            refine x_get (v := .ref (ad b12)) C K h cl_8 hk_a0 3 (by decide) fl_RX8_26 (hv_r (o := sr_ σ a0 3) rfl hq_b12) dX8_count_73 ?_
            refine x_getN (v := .int (si_ σ b12 1)) C K h cl_3 hk_b12 1 (by decide) nf_RX8_351 rfl dX8_count_76 ?_
            exact x_ri C hr hlk h Ex_.rf (Option.some.inj hf) rfl dX8_count_79
          · have hf := if_f hf c11
            by_cases c13 : x1 = (5 : Int32)
            · have hf := if_t hf c13
              refine lv_tableIn (off := 79) (tgt := 80) C.1 C.2.1 dX8_count_1 (by rw [c13]; decide) (by rw [c13]; decide) (by rw [c13]; rfl) (by decide) ?_
              refine lv_aload_n C.1 C.2.1 dX8_count_80 rfl (lv_at hl 0 rfl) ?_
              obtain ⟨b14, hb_b14, hf⟩ := ob_ hf
              obtain ⟨hq_b14, hk_b14⟩ := dr_in hb_b14
              refine x_get (v := .ref (ad b14)) C K h cl_8 hk_a0 0 (by decide) fl_RX8_12 (hv_r (o := sr_ σ a0 0) rfl hq_b14) dX8_count_81 ?_
              refine x_getN (v := .int (si_ σ b14 3)) C K h cl_1 hk_b14 3 (by decide) nf_RX8_178 rfl dX8_count_84 ?_
              exact x_ri C hr hlk h Ex_.rf (Option.some.inj hf) rfl dX8_count_87
            · have hf := if_f hf c13
              refine lv_tableOut (tgt := 88) C.1 C.2.1 dX8_count_1 (by have e0 := ne_i c2 (z := 0) (by decide); have e1 := ne_i c4 (z := 1) (by decide); have e2 := ne_i c7 (z := 2) (by decide); have e3 := ne_i c10 (z := 3) (by decide); have e4 := ne_i c11 (z := 4) (by decide); have e5 := ne_i c13 (z := 5) (by decide); omega) (by decide) ?_
              refine lv_bipush (v := (-2 : Int32)) C.1 C.2.1 dX8_count_88 (by decide) ?_
              exact x_ri C hr hlk h Ex_.rf (Option.some.inj hf) rfl dX8_count_90
theorem c_X8_count (fu : Nat) (l : Launch) (κ : Ka_) (G : va_G) (cy : Nat → ClassId) (ad : Nat → Nat) (sz : Nat) (σ : St_) (a0 : Nat) (x1 : Int32) (hk_a0 : kd_ σ a0 = 8) {q : Int32} (hf : f_X8_count fu σ a0 x1 = some q) : Met l yX8_count (Cond.code yX8_count cX8_count 2 (some .int) :: wU_) { frames := 1, cells := 0, slots := 0, locals := 22 } (va_Pc [.ref (ad a0), .int x1] (Pr_ κ G cy ad σ sz)) (Qi_ G cy ad σ σ sz q) 0 0 (va_A (wl_ cy ad σ) sz) :=
  x_met (by decide) (fun p e R s m below meth c ls hR C hr hlk hin _ K h hl => w_X8_count fu C K hr hlk ⟨hR.1, hR.2.1⟩ a0 x1 hk_a0 hf s.heap [] ls h hl) (Nat.le_of_ble_eq_true rfl)
-- X8_sheet
theorem mi_X8_sheet : Mi_ yX8_sheet cX8_sheet 5 (some .int) 3 := ⟨co_yX8_sheet, in_RX8, by decide, by decide, by decide +kernel⟩
def f_X8_sheet (fu : Nat) (σ : St_) (a0 : Nat) (x1 : Int32) (x2 : Int32) (x3 : Int32) : Option (Int32 × St_) := (f_X8_sheetAt σ a0 x1).bind fun q4 => oc_ q4 (some ((-2 : Int32), σ)) (fun b5 => if kd_ σ b5 = 4 then if x2 < (-1 : Int32) then some ((-2 : Int32), σ) else if x2 < (3 : Int32) then if x2 = (-1 : Int32) then some ((1 : Int32), f_X4_makeMissing σ b5) else if x3 ≤ (40 : Int32) then if 0 ≤ x3 then (f_X4_makeRow fu σ b5 x2 x3).bind fun q11 => some ((1 : Int32), q11) else some ((-14 : Int32), σ) else some ((-2 : Int32), σ) else some ((-2 : Int32), σ) else none)
set_option maxHeartbeats 4000000 in
set_option maxRecDepth 100000 in
theorem w_X8_sheet {p : Program} {l : Launch} {e : Env} {R : Room} {s : State} {m : MethodId} {args : Array Value} {below : List Frame} {meth : Method} {c : Code} {κ : Ka_} {G : va_G} {cy : Nat → ClassId} {ad : Nat → Nat} {sz : Nat} {σ0 : St_} (fu : Nat) (C : CallFix p m c cX8_sheet 5 s args wU_ RX8) (K : Kx_ κ G cy (va_A (wl_ cy ad σ0) sz) s) (hr : meth.sig.returnType = some .int) (hlk : meth.locks = false) (hR : 2 ≤ R.frames ∧ 45 ≤ R.locals) {q : Int32 × St_} : ∀ (σ : St_) (a0 : Nat) (x1 : Int32) (x2 : Int32) (x3 : Int32), Ex_ σ0 σ → kd_ σ a0 = 8 → f_X8_sheet fu σ a0 x1 x2 x3 = some q → ∀ (H : Heap) (locs : List Loc) (ls : Array Slot), Ht_ G cy (va_A (wl_ cy ad σ0) sz) s ad σ H locs → lv_has ls 5 [(0, .ref (ad a0)), (1, .int x1), (2, .int x2), (3, .int x3)] → W p l e R s m args below meth c H locs 0 0 (MQ below (Qi_ G cy ad σ0 q.2 sz q.1) args s 0 0 (va_A (wl_ cy ad σ0) sz)) (F0 m 0 ls []) := by
  intro σ a0 x1 x2 x3 hE hk_a0 hf H locs ls h hl
  have hf : ((f_X8_sheetAt σ a0 x1).bind fun q4 => oc_ q4 (some ((-2 : Int32), σ)) (fun b5 => if kd_ σ b5 = 4 then if x2 < (-1 : Int32) then some ((-2 : Int32), σ) else if x2 < (3 : Int32) then if x2 = (-1 : Int32) then some ((1 : Int32), f_X4_makeMissing σ b5) else if x3 ≤ (40 : Int32) then if 0 ≤ x3 then (f_X4_makeRow fu σ b5 x2 x3).bind fun q11 => some ((1 : Int32), q11) else some ((-14 : Int32), σ) else some ((-2 : Int32), σ) else some ((-2 : Int32), σ) else none)) = some q := hf
  refine lv_aload_n C.1 C.2.1 dX8_sheet_0 rfl (lv_at hl 0 rfl) ?_
  refine lv_iload_n C.1 C.2.1 dX8_sheet_1 rfl (lv_at hl 1 rfl) ?_
  obtain ⟨q4, hq_q4, hf⟩ := ob_ hf
  refine x_aq K h (x_V C K h [.int x1] (c_X8_sheetAt l κ G cy ad H.size σ a0 x1 hk_a0 hq_q4) mi_X8_sheetAt rfl im_yX8_sheetAt se_yX8_sheetAt ml_RX8_192 cl_8 hk_a0 ⟨rfl, rfl, Nat.le_trans (Nat.le_of_ble_eq_true rfl) hR.1, Nat.le_trans (Nat.le_of_ble_eq_true rfl) hR.2⟩ hl (Nat.le_of_ble_eq_true rfl) dX8_sheet_2 ⟨Nat.zero_le _, Nat.zero_le _⟩ rfl) (fun H locs h hX => ?_)
  refine x_astoreq (i := 4) (lv' := [(4, rv_ ad q4), (0, .ref (ad a0)), (1, .int x1), (2, .int x2), (3, .int x3)]) C.1 C.2.1 dX8_sheet_5 hl (by decide) rfl (fun ls hl => ?_)
  refine x_aloadq C.1 C.2.1 dX8_sheet_7 (lv_at hl 0 rfl) ?_
  cases q4 with
  | none =>
    have hf := oc_n hf
    refine lv_ifnullN (tgt := 22) C.1 C.2.1 dX8_sheet_9 (by decide) ?_
    refine lv_bipush (v := (-2 : Int32)) C.1 C.2.1 dX8_sheet_22 (by decide) ?_
    exact x_ri C hr hlk h hE (pf_1 (Option.some.inj hf)) (pf_2 (Option.some.inj hf)) dX8_sheet_24
  | some b5 =>
    obtain ⟨hk_b5, hf⟩ := gd_ (oc_s hf)
    refine lv_ifnull C.1 C.2.1 dX8_sheet_9 ?_
    refine lv_iload_n C.1 C.2.1 dX8_sheet_12 rfl (lv_at hl 3 rfl) ?_
    refine lv_iconst (v := (-1 : Int32)) C.1 C.2.1 dX8_sheet_13 (by decide) ?_
    refine lv_icmp_lt (tgt := 22) C.1 C.2.1 dX8_sheet_14 (by decide) (fun c6 => ?_) (fun c6 => ?_)
    · have hf := if_t hf c6
      refine lv_bipush (v := (-2 : Int32)) C.1 C.2.1 dX8_sheet_22 (by decide) ?_
      exact x_ri C hr hlk h hE (pf_1 (Option.some.inj hf)) (pf_2 (Option.some.inj hf)) dX8_sheet_24
    · have hf := if_f hf c6
      refine lv_iload_n C.1 C.2.1 dX8_sheet_17 rfl (lv_at hl 3 rfl) ?_
      refine lv_iconst (v := (3 : Int32)) C.1 C.2.1 dX8_sheet_18 (by decide) ?_
      refine lv_icmp_lt (tgt := 25) C.1 C.2.1 dX8_sheet_19 (by decide) (fun c7 => ?_) (fun c7 => ?_)
      · have hf := if_t hf c7
        refine lv_iload_n C.1 C.2.1 dX8_sheet_25 rfl (lv_at hl 3 rfl) ?_
        refine lv_iconst (v := (-1 : Int32)) C.1 C.2.1 dX8_sheet_26 (by decide) ?_
        refine lv_icmp_ne (tgt := 37) C.1 C.2.1 dX8_sheet_27 (by decide) (fun c8 => ?_) (fun c8 => ?_)
        · have hf := if_f hf c8
          refine lv_iload_n C.1 C.2.1 dX8_sheet_37 rfl (lv_at hl 4 rfl) ?_
          refine lv_bipush (v := (40 : Int32)) C.1 C.2.1 dX8_sheet_38 (by decide) ?_
          refine lv_icmp_le (tgt := 46) C.1 C.2.1 dX8_sheet_40 (by decide) (fun c9 => ?_) (fun c9 => ?_)
          · have hf := if_t hf c9
            refine lv_iload_n C.1 C.2.1 dX8_sheet_46 rfl (lv_at hl 4 rfl) ?_
            refine lv_if_ge (tgt := 53) C.1 C.2.1 dX8_sheet_47 (by decide) (fun c10 => ?_) (fun c10 => ?_)
            · have hf := if_t hf c10
              refine lv_aload C.1 C.2.1 dX8_sheet_53 (lv_at hl 0 rfl) ?_
              refine lv_iload_n C.1 C.2.1 dX8_sheet_55 rfl (lv_at hl 3 rfl) ?_
              refine lv_iload_n C.1 C.2.1 dX8_sheet_56 rfl (lv_at hl 4 rfl) ?_
              obtain ⟨q11, hq_q11, hf⟩ := ob_ hf
              refine x_av K h (x_VN C K h [.int x2, .int x3] (c_X4_makeRow fu l κ G cy ad H.size σ b5 x2 x3 hk_b5 hq_q11) mi_X4_makeRow rfl im_yX4_makeRow se_yX4_makeRow nm_RX8_355 cl_4 hk_b5 ⟨rfl, rfl, Nat.le_trans (Nat.le_of_ble_eq_true rfl) hR.1, Nat.le_trans (Nat.le_of_ble_eq_true rfl) hR.2⟩ hl (Nat.le_of_ble_eq_true rfl) dX8_sheet_57 ⟨Nat.zero_le _, Nat.zero_le _⟩ rfl) (fun H locs h hX => ?_)
              have hE := hE.trans hX
              have hk_a0 := hX.k hk_a0 (by decide)
              have hk_b5 := hX.k hk_b5 (by decide)
              refine lv_iconst (v := (1 : Int32)) C.1 C.2.1 dX8_sheet_60 (by decide) ?_
              exact x_ri C hr hlk h hE (pf_1 (Option.some.inj hf)) (pf_2 (Option.some.inj hf)) dX8_sheet_61
            · have hf := if_f hf c10
              refine lv_bipush (v := (-14 : Int32)) C.1 C.2.1 dX8_sheet_50 (by decide) ?_
              exact x_ri C hr hlk h hE (pf_1 (Option.some.inj hf)) (pf_2 (Option.some.inj hf)) dX8_sheet_52
          · have hf := if_f hf c9
            refine lv_bipush (v := (-2 : Int32)) C.1 C.2.1 dX8_sheet_43 (by decide) ?_
            exact x_ri C hr hlk h hE (pf_1 (Option.some.inj hf)) (pf_2 (Option.some.inj hf)) dX8_sheet_45
        · have hf := if_t hf c8
          refine lv_aload C.1 C.2.1 dX8_sheet_30 (lv_at hl 0 rfl) ?_
          refine x_av K h (x_VN C K h [] (c_X4_makeMissing l κ G cy ad H.size σ b5 hk_b5 rfl) mi_X4_makeMissing rfl im_yX4_makeMissing se_yX4_makeMissing nm_RX8_352 cl_4 hk_b5 ⟨rfl, rfl, Nat.le_trans (Nat.le_of_ble_eq_true rfl) hR.1, Nat.le_trans (Nat.le_of_ble_eq_true rfl) hR.2⟩ hl (Nat.le_of_ble_eq_true rfl) dX8_sheet_32 ⟨Nat.zero_le _, Nat.zero_le _⟩ rfl) (fun H locs h hX => ?_)
          have hE := hE.trans hX
          have hk_a0 := hX.k hk_a0 (by decide)
          have hk_b5 := hX.k hk_b5 (by decide)
          refine lv_iconst (v := (1 : Int32)) C.1 C.2.1 dX8_sheet_35 (by decide) ?_
          exact x_ri C hr hlk h hE (pf_1 (Option.some.inj hf)) (pf_2 (Option.some.inj hf)) dX8_sheet_36
      · have hf := if_f hf c7
        refine lv_bipush (v := (-2 : Int32)) C.1 C.2.1 dX8_sheet_22 (by decide) ?_
        exact x_ri C hr hlk h hE (pf_1 (Option.some.inj hf)) (pf_2 (Option.some.inj hf)) dX8_sheet_24
theorem c_X8_sheet (fu : Nat) (l : Launch) (κ : Ka_) (G : va_G) (cy : Nat → ClassId) (ad : Nat → Nat) (sz : Nat) (σ : St_) (a0 : Nat) (x1 : Int32) (x2 : Int32) (x3 : Int32) (hk_a0 : kd_ σ a0 = 8) {q : Int32 × St_} (hf : f_X8_sheet fu σ a0 x1 x2 x3 = some q) : Met l yX8_sheet (Cond.code yX8_sheet cX8_sheet 5 (some .int) :: wU_) { frames := 2, cells := 0, slots := 0, locals := 45 } (va_Pc [.ref (ad a0), .int x1, .int x2, .int x3] (Pr_ κ G cy ad σ sz)) (Qi_ G cy ad σ q.2 sz q.1) 0 0 (va_A (wl_ cy ad σ) sz) :=
  x_met (by decide) (fun p e R s m below meth c ls hR C hr hlk hin _ K h hl => w_X8_sheet fu C K hr hlk ⟨hR.1, hR.2.1⟩ σ a0 x1 x2 x3 Ex_.rf hk_a0 hf s.heap [] ls h hl) (Nat.le_of_ble_eq_true rfl)
-- X8_cell
theorem mi_X8_cell : Mi_ yX8_cell cX8_cell 5 (some .int) 3 := ⟨co_yX8_cell, in_RX8, by decide, by decide, by decide +kernel⟩
def f_X8_cell (σ : St_) (a0 : Nat) (x1 : Int32) (x2 : Int32) (x3 : Int32) : Option (Int32 × St_) := (f_X8_sheetAt σ a0 x1).bind fun q4 => oc_ q4 (some ((-2 : Int32), σ)) (fun b5 => if kd_ σ b5 = 4 then if (f_X4_isMissing σ b5) = 0 then if (f_X8_isBelow x2 (si_ σ b5 2)) = 0 then some ((-12 : Int32), σ) else (f_X4_put σ b5 x2 x3).bind fun q12 => some ((1 : Int32), q12) else some ((-11 : Int32), σ) else none)
set_option maxHeartbeats 4000000 in
set_option maxRecDepth 100000 in
theorem w_X8_cell {p : Program} {l : Launch} {e : Env} {R : Room} {s : State} {m : MethodId} {args : Array Value} {below : List Frame} {meth : Method} {c : Code} {κ : Ka_} {G : va_G} {cy : Nat → ClassId} {ad : Nat → Nat} {sz : Nat} {σ0 : St_} (C : CallFix p m c cX8_cell 5 s args wU_ RX8) (K : Kx_ κ G cy (va_A (wl_ cy ad σ0) sz) s) (hr : meth.sig.returnType = some .int) (hlk : meth.locks = false) (hR : 2 ≤ R.frames ∧ 43 ≤ R.locals) {q : Int32 × St_} : ∀ (σ : St_) (a0 : Nat) (x1 : Int32) (x2 : Int32) (x3 : Int32), Ex_ σ0 σ → kd_ σ a0 = 8 → f_X8_cell σ a0 x1 x2 x3 = some q → ∀ (H : Heap) (locs : List Loc) (ls : Array Slot), Ht_ G cy (va_A (wl_ cy ad σ0) sz) s ad σ H locs → lv_has ls 5 [(0, .ref (ad a0)), (1, .int x1), (2, .int x2), (3, .int x3)] → W p l e R s m args below meth c H locs 0 0 (MQ below (Qi_ G cy ad σ0 q.2 sz q.1) args s 0 0 (va_A (wl_ cy ad σ0) sz)) (F0 m 0 ls []) := by
  intro σ a0 x1 x2 x3 hE hk_a0 hf H locs ls h hl
  have hf : ((f_X8_sheetAt σ a0 x1).bind fun q4 => oc_ q4 (some ((-2 : Int32), σ)) (fun b5 => if kd_ σ b5 = 4 then if (f_X4_isMissing σ b5) = 0 then if (f_X8_isBelow x2 (si_ σ b5 2)) = 0 then some ((-12 : Int32), σ) else (f_X4_put σ b5 x2 x3).bind fun q12 => some ((1 : Int32), q12) else some ((-11 : Int32), σ) else none)) = some q := hf
  refine lv_aload_n C.1 C.2.1 dX8_cell_0 rfl (lv_at hl 0 rfl) ?_
  refine lv_iload_n C.1 C.2.1 dX8_cell_1 rfl (lv_at hl 1 rfl) ?_
  obtain ⟨q4, hq_q4, hf⟩ := ob_ hf
  refine x_aq K h (x_V C K h [.int x1] (c_X8_sheetAt l κ G cy ad H.size σ a0 x1 hk_a0 hq_q4) mi_X8_sheetAt rfl im_yX8_sheetAt se_yX8_sheetAt ml_RX8_192 cl_8 hk_a0 ⟨rfl, rfl, Nat.le_trans (Nat.le_of_ble_eq_true rfl) hR.1, Nat.le_trans (Nat.le_of_ble_eq_true rfl) hR.2⟩ hl (Nat.le_of_ble_eq_true rfl) dX8_cell_2 ⟨Nat.zero_le _, Nat.zero_le _⟩ rfl) (fun H locs h hX => ?_)
  refine x_astoreq (i := 4) (lv' := [(4, rv_ ad q4), (0, .ref (ad a0)), (1, .int x1), (2, .int x2), (3, .int x3)]) C.1 C.2.1 dX8_cell_5 hl (by decide) rfl (fun ls hl => ?_)
  refine x_aloadq C.1 C.2.1 dX8_cell_7 (lv_at hl 0 rfl) ?_
  cases q4 with
  | none =>
    have hf := oc_n hf
    refine lv_ifnonnullN C.1 C.2.1 dX8_cell_9 ?_
    refine lv_bipush (v := (-2 : Int32)) C.1 C.2.1 dX8_cell_12 (by decide) ?_
    exact x_ri C hr hlk h hE (pf_1 (Option.some.inj hf)) (pf_2 (Option.some.inj hf)) dX8_cell_14
  | some b5 =>
    obtain ⟨hk_b5, hf⟩ := gd_ (oc_s hf)
    refine lv_ifnonnull (tgt := 15) C.1 C.2.1 dX8_cell_9 (by decide) ?_
    refine lv_aload C.1 C.2.1 dX8_cell_15 (lv_at hl 0 rfl) ?_
    refine x_az K h (x_VN C K h [] (c_X4_isMissing l κ G cy ad H.size σ b5 hk_b5 rfl) mi_X4_isMissing rfl im_yX4_isMissing se_yX4_isMissing nm_RX8_281 cl_4 hk_b5 ⟨rfl, rfl, Nat.le_trans (Nat.le_of_ble_eq_true rfl) hR.1, Nat.le_trans (Nat.le_of_ble_eq_true rfl) hR.2⟩ hl (Nat.le_of_ble_eq_true rfl) dX8_cell_17 ⟨Nat.zero_le _, Nat.zero_le _⟩ rfl) (fun H locs h hX hz7 => ?_)
    refine lv_if_eq (tgt := 26) C.1 C.2.1 dX8_cell_20 (by decide) (fun c8 => ?_) (fun c8 => ?_)
    · have hf := if_t hf c8
      refine lv_iload_n C.1 C.2.1 dX8_cell_26 rfl (lv_at hl 3 rfl) ?_
      refine lv_aload C.1 C.2.1 dX8_cell_27 (lv_at hl 0 rfl) ?_
      refine x_getN (v := .int (si_ σ b5 2)) C K h cl_4 hk_b5 2 (by decide) nf_RX8_196 rfl dX8_cell_29 ?_
      refine x_az K h (x_S C K h [.int x2, .int (si_ σ b5 2)] (c_X8_isBelow l κ G cy ad H.size σ x2 (si_ σ b5 2) rfl) mi_X8_isBelow rfl st_yX8_isBelow ml_RX8_116 ⟨rfl, rfl, Nat.le_trans (Nat.le_of_ble_eq_true rfl) hR.1, Nat.le_trans (Nat.le_of_ble_eq_true rfl) hR.2⟩ hl (Nat.le_of_ble_eq_true rfl) dX8_cell_32 ⟨Nat.zero_le _, Nat.zero_le _⟩ rfl) (fun H locs h hX hz10 => ?_)
      refine lv_if_ne (tgt := 41) C.1 C.2.1 dX8_cell_35 (by decide) (fun c11 => ?_) (fun c11 => ?_)
      · have hf := if_f hf c11
        refine lv_aload C.1 C.2.1 dX8_cell_41 (lv_at hl 0 rfl) ?_
        refine lv_iload_n C.1 C.2.1 dX8_cell_43 rfl (lv_at hl 3 rfl) ?_
        refine lv_iload_n C.1 C.2.1 dX8_cell_44 rfl (lv_at hl 4 rfl) ?_
        obtain ⟨q12, hq_q12, hf⟩ := ob_ hf
        refine x_av K h (x_VN C K h [.int x2, .int x3] (c_X4_put l κ G cy ad H.size σ b5 x2 x3 hk_b5 hq_q12) mi_X4_put rfl im_yX4_put se_yX4_put nm_RX8_358 cl_4 hk_b5 ⟨rfl, rfl, Nat.le_trans (Nat.le_of_ble_eq_true rfl) hR.1, Nat.le_trans (Nat.le_of_ble_eq_true rfl) hR.2⟩ hl (Nat.le_of_ble_eq_true rfl) dX8_cell_45 ⟨Nat.zero_le _, Nat.zero_le _⟩ rfl) (fun H locs h hX => ?_)
        have hE := hE.trans hX
        have hk_a0 := hX.k hk_a0 (by decide)
        have hk_b5 := hX.k hk_b5 (by decide)
        refine lv_iconst (v := (1 : Int32)) C.1 C.2.1 dX8_cell_48 (by decide) ?_
        exact x_ri C hr hlk h hE (pf_1 (Option.some.inj hf)) (pf_2 (Option.some.inj hf)) dX8_cell_49
      · have hf := if_t hf c11
        refine lv_bipush (v := (-12 : Int32)) C.1 C.2.1 dX8_cell_38 (by decide) ?_
        exact x_ri C hr hlk h hE (pf_1 (Option.some.inj hf)) (pf_2 (Option.some.inj hf)) dX8_cell_40
    · have hf := if_f hf c8
      refine lv_bipush (v := (-11 : Int32)) C.1 C.2.1 dX8_cell_23 (by decide) ?_
      exact x_ri C hr hlk h hE (pf_1 (Option.some.inj hf)) (pf_2 (Option.some.inj hf)) dX8_cell_25
theorem c_X8_cell (l : Launch) (κ : Ka_) (G : va_G) (cy : Nat → ClassId) (ad : Nat → Nat) (sz : Nat) (σ : St_) (a0 : Nat) (x1 : Int32) (x2 : Int32) (x3 : Int32) (hk_a0 : kd_ σ a0 = 8) {q : Int32 × St_} (hf : f_X8_cell σ a0 x1 x2 x3 = some q) : Met l yX8_cell (Cond.code yX8_cell cX8_cell 5 (some .int) :: wU_) { frames := 2, cells := 0, slots := 0, locals := 43 } (va_Pc [.ref (ad a0), .int x1, .int x2, .int x3] (Pr_ κ G cy ad σ sz)) (Qi_ G cy ad σ q.2 sz q.1) 0 0 (va_A (wl_ cy ad σ) sz) :=
  x_met (by decide) (fun p e R s m below meth c ls hR C hr hlk hin _ K h hl => w_X8_cell C K hr hlk ⟨hR.1, hR.2.1⟩ σ a0 x1 x2 x3 Ex_.rf hk_a0 hf s.heap [] ls h hl) (Nat.le_of_ble_eq_true rfl)
-- X8_copy
theorem mi_X8_copy : Mi_ yX8_copy cX8_copy 8 (some .int) 5 := ⟨co_yX8_copy, in_RX8, by decide, by decide, by decide +kernel⟩
def f_X8_copy (σ : St_) (a0 : Nat) (x1 : Int32) (x2 : Int32) (x3 : Int32) (x4 : Int32) (x5 : Int32) : Option (Int32 × St_) := (f_X8_sheetAt σ a0 x1).bind fun q6 => (f_X8_sheetAt σ a0 x3).bind fun q7 => oc_ q6 (some ((-2 : Int32), σ)) (fun b8 => if kd_ σ b8 = 4 then oc_ q7 (some ((-2 : Int32), σ)) (fun b9 => if kd_ σ b9 = 4 then if (f_X4_isMissing σ b8) = 0 then if (f_X4_isMissing σ b9) = 0 then if (si_ σ b8 1) = (si_ σ b9 1) then if (f_X4_holds σ b8 x2 x5) = 0 then some ((-12 : Int32), σ) else if (f_X4_holds σ b9 x4 x5) = 0 then some ((-12 : Int32), σ) else (dr_ σ 10 (sr_ σ b8 0)).bind fun b23 => (dr_ σ 10 (sr_ σ b9 0)).bind fun b24 => if (¬ x2 < 0 ∧ ¬ x4 < 0 ∧ ¬ x5 < 0 ∧ x2.toNatClampNeg + x5.toNatClampNeg ≤ ln_ σ b23 ∧ x4.toNatClampNeg + x5.toNatClampNeg ≤ ln_ σ b24) then some (x5, uw_ σ b24 (va_cpy (si_ σ b23) (si_ σ b24) x2.toNatClampNeg x4.toNatClampNeg x5.toNatClampNeg)) else none else some ((-13 : Int32), σ) else some ((-11 : Int32), σ) else some ((-11 : Int32), σ) else none) else none)
set_option maxHeartbeats 4000000 in
set_option maxRecDepth 100000 in
theorem w_X8_copy {p : Program} {l : Launch} {e : Env} {R : Room} {s : State} {m : MethodId} {args : Array Value} {below : List Frame} {meth : Method} {c : Code} {κ : Ka_} {G : va_G} {cy : Nat → ClassId} {ad : Nat → Nat} {sz : Nat} {σ0 : St_} (C : CallFix p m c cX8_copy 8 s args wU_ RX8) (K : Kx_ κ G cy (va_A (wl_ cy ad σ0) sz) s) (hr : meth.sig.returnType = some .int) (hlk : meth.locks = false) (hR : 2 ≤ R.frames ∧ 60 ≤ R.locals) {q : Int32 × St_} : ∀ (σ : St_) (a0 : Nat) (x1 : Int32) (x2 : Int32) (x3 : Int32) (x4 : Int32) (x5 : Int32), Ex_ σ0 σ → kd_ σ a0 = 8 → f_X8_copy σ a0 x1 x2 x3 x4 x5 = some q → ∀ (H : Heap) (locs : List Loc) (ls : Array Slot), Ht_ G cy (va_A (wl_ cy ad σ0) sz) s ad σ H locs → lv_has ls 8 [(0, .ref (ad a0)), (1, .int x1), (2, .int x2), (3, .int x3), (4, .int x4), (5, .int x5)] → W p l e R s m args below meth c H locs 0 0 (MQ below (Qi_ G cy ad σ0 q.2 sz q.1) args s 0 0 (va_A (wl_ cy ad σ0) sz)) (F0 m 0 ls []) := by
  intro σ a0 x1 x2 x3 x4 x5 hE hk_a0 hf H locs ls h hl
  have hf : ((f_X8_sheetAt σ a0 x1).bind fun q6 => (f_X8_sheetAt σ a0 x3).bind fun q7 => oc_ q6 (some ((-2 : Int32), σ)) (fun b8 => if kd_ σ b8 = 4 then oc_ q7 (some ((-2 : Int32), σ)) (fun b9 => if kd_ σ b9 = 4 then if (f_X4_isMissing σ b8) = 0 then if (f_X4_isMissing σ b9) = 0 then if (si_ σ b8 1) = (si_ σ b9 1) then if (f_X4_holds σ b8 x2 x5) = 0 then some ((-12 : Int32), σ) else if (f_X4_holds σ b9 x4 x5) = 0 then some ((-12 : Int32), σ) else (dr_ σ 10 (sr_ σ b8 0)).bind fun b23 => (dr_ σ 10 (sr_ σ b9 0)).bind fun b24 => if (¬ x2 < 0 ∧ ¬ x4 < 0 ∧ ¬ x5 < 0 ∧ x2.toNatClampNeg + x5.toNatClampNeg ≤ ln_ σ b23 ∧ x4.toNatClampNeg + x5.toNatClampNeg ≤ ln_ σ b24) then some (x5, uw_ σ b24 (va_cpy (si_ σ b23) (si_ σ b24) x2.toNatClampNeg x4.toNatClampNeg x5.toNatClampNeg)) else none else some ((-13 : Int32), σ) else some ((-11 : Int32), σ) else some ((-11 : Int32), σ) else none) else none)) = some q := hf
  refine lv_aload_n C.1 C.2.1 dX8_copy_0 rfl (lv_at hl 0 rfl) ?_
  refine lv_iload_n C.1 C.2.1 dX8_copy_1 rfl (lv_at hl 1 rfl) ?_
  obtain ⟨q6, hq_q6, hf⟩ := ob_ hf
  refine x_aq K h (x_V C K h [.int x1] (c_X8_sheetAt l κ G cy ad H.size σ a0 x1 hk_a0 hq_q6) mi_X8_sheetAt rfl im_yX8_sheetAt se_yX8_sheetAt ml_RX8_192 cl_8 hk_a0 ⟨rfl, rfl, Nat.le_trans (Nat.le_of_ble_eq_true rfl) hR.1, Nat.le_trans (Nat.le_of_ble_eq_true rfl) hR.2⟩ hl (Nat.le_of_ble_eq_true rfl) dX8_copy_2 ⟨Nat.zero_le _, Nat.zero_le _⟩ rfl) (fun H locs h hX => ?_)
  refine x_astoreq (i := 6) (lv' := [(6, rv_ ad q6), (0, .ref (ad a0)), (1, .int x1), (2, .int x2), (3, .int x3), (4, .int x4), (5, .int x5)]) C.1 C.2.1 dX8_copy_5 hl (by decide) rfl (fun ls hl => ?_)
  refine lv_aload_n C.1 C.2.1 dX8_copy_7 rfl (lv_at hl 1 rfl) ?_
  refine lv_iload_n C.1 C.2.1 dX8_copy_8 rfl (lv_at hl 4 rfl) ?_
  obtain ⟨q7, hq_q7, hf⟩ := ob_ hf
  refine x_aq K h (x_V C K h [.int x3] (c_X8_sheetAt l κ G cy ad H.size σ a0 x3 hk_a0 hq_q7) mi_X8_sheetAt rfl im_yX8_sheetAt se_yX8_sheetAt ml_RX8_192 cl_8 hk_a0 ⟨rfl, rfl, Nat.le_trans (Nat.le_of_ble_eq_true rfl) hR.1, Nat.le_trans (Nat.le_of_ble_eq_true rfl) hR.2⟩ hl (Nat.le_of_ble_eq_true rfl) dX8_copy_9 ⟨Nat.zero_le _, Nat.zero_le _⟩ rfl) (fun H locs h hX => ?_)
  refine x_astoreq (i := 7) (lv' := [(7, rv_ ad q7), (6, rv_ ad q6), (0, .ref (ad a0)), (1, .int x1), (2, .int x2), (3, .int x3), (4, .int x4), (5, .int x5)]) C.1 C.2.1 dX8_copy_12 hl (by decide) (by simp [rv_c]) (fun ls hl => ?_)
  refine x_aloadq C.1 C.2.1 dX8_copy_14 (lv_at hl 1 rfl) ?_
  cases q6 with
  | none =>
    have hf := oc_n hf
    refine lv_ifnullN (tgt := 24) C.1 C.2.1 dX8_copy_16 (by decide) ?_
    refine lv_bipush (v := (-2 : Int32)) C.1 C.2.1 dX8_copy_24 (by decide) ?_
    exact x_ri C hr hlk h hE (pf_1 (Option.some.inj hf)) (pf_2 (Option.some.inj hf)) dX8_copy_26
  | some b8 =>
    obtain ⟨hk_b8, hf⟩ := gd_ (oc_s hf)
    refine lv_ifnull C.1 C.2.1 dX8_copy_16 ?_
    refine x_aloadq C.1 C.2.1 dX8_copy_19 (lv_at hl 0 rfl) ?_
    cases q7 with
    | none =>
      have hf := oc_n hf
      refine lv_ifnonnullN C.1 C.2.1 dX8_copy_21 ?_
      refine lv_bipush (v := (-2 : Int32)) C.1 C.2.1 dX8_copy_24 (by decide) ?_
      exact x_ri C hr hlk h hE (pf_1 (Option.some.inj hf)) (pf_2 (Option.some.inj hf)) dX8_copy_26
    | some b9 =>
      obtain ⟨hk_b9, hf⟩ := gd_ (oc_s hf)
      refine lv_ifnonnull (tgt := 27) C.1 C.2.1 dX8_copy_21 (by decide) ?_
      refine lv_aload C.1 C.2.1 dX8_copy_27 (lv_at hl 1 rfl) ?_
      refine x_az K h (x_VN C K h [] (c_X4_isMissing l κ G cy ad H.size σ b8 hk_b8 rfl) mi_X4_isMissing rfl im_yX4_isMissing se_yX4_isMissing nm_RX8_281 cl_4 hk_b8 ⟨rfl, rfl, Nat.le_trans (Nat.le_of_ble_eq_true rfl) hR.1, Nat.le_trans (Nat.le_of_ble_eq_true rfl) hR.2⟩ hl (Nat.le_of_ble_eq_true rfl) dX8_copy_29 ⟨Nat.zero_le _, Nat.zero_le _⟩ rfl) (fun H locs h hX hz11 => ?_)
      refine lv_if_ne (tgt := 43) C.1 C.2.1 dX8_copy_32 (by decide) (fun c12 => ?_) (fun c12 => ?_)
      · have hf := if_f hf c12
        refine lv_bipush (v := (-11 : Int32)) C.1 C.2.1 dX8_copy_43 (by decide) ?_
        exact x_ri C hr hlk h hE (pf_1 (Option.some.inj hf)) (pf_2 (Option.some.inj hf)) dX8_copy_45
      · have hf := if_t hf c12
        refine lv_aload C.1 C.2.1 dX8_copy_35 (lv_at hl 0 rfl) ?_
        refine x_az K h (x_VN C K h [] (c_X4_isMissing l κ G cy ad H.size σ b9 hk_b9 rfl) mi_X4_isMissing rfl im_yX4_isMissing se_yX4_isMissing nm_RX8_281 cl_4 hk_b9 ⟨rfl, rfl, Nat.le_trans (Nat.le_of_ble_eq_true rfl) hR.1, Nat.le_trans (Nat.le_of_ble_eq_true rfl) hR.2⟩ hl (Nat.le_of_ble_eq_true rfl) dX8_copy_37 ⟨Nat.zero_le _, Nat.zero_le _⟩ rfl) (fun H locs h hX hz14 => ?_)
        refine lv_if_eq (tgt := 46) C.1 C.2.1 dX8_copy_40 (by decide) (fun c15 => ?_) (fun c15 => ?_)
        · have hf := if_t hf c15
          refine lv_aload C.1 C.2.1 dX8_copy_46 (lv_at hl 1 rfl) ?_
          refine x_getN (v := .int (si_ σ b8 1)) C K h cl_4 hk_b8 1 (by decide) nf_RX8_359 rfl dX8_copy_48 ?_
          refine lv_aload C.1 C.2.1 dX8_copy_51 (lv_at hl 0 rfl) ?_
          refine x_getN (v := .int (si_ σ b9 1)) C K h cl_4 hk_b9 1 (by decide) nf_RX8_359 rfl dX8_copy_53 ?_
          refine lv_icmp_eq (tgt := 62) C.1 C.2.1 dX8_copy_56 (by decide) (fun c16 => ?_) (fun c16 => ?_)
          · have hf := if_t hf c16
            refine lv_aload C.1 C.2.1 dX8_copy_62 (lv_at hl 1 rfl) ?_
            refine lv_iload_n C.1 C.2.1 dX8_copy_64 rfl (lv_at hl 4 rfl) ?_
            refine lv_iload C.1 C.2.1 dX8_copy_65 (lv_at hl 7 rfl) ?_
            refine x_az K h (x_VN C K h [.int x2, .int x5] (c_X4_holds l κ G cy ad H.size σ b8 x2 x5 hk_b8 rfl) mi_X4_holds rfl im_yX4_holds se_yX4_holds nm_RX8_362 cl_4 hk_b8 ⟨rfl, rfl, Nat.le_trans (Nat.le_of_ble_eq_true rfl) hR.1, Nat.le_trans (Nat.le_of_ble_eq_true rfl) hR.2⟩ hl (Nat.le_of_ble_eq_true rfl) dX8_copy_67 ⟨Nat.zero_le _, Nat.zero_le _⟩ rfl) (fun H locs h hX hz18 => ?_)
            refine lv_if_eq (tgt := 85) C.1 C.2.1 dX8_copy_70 (by decide) (fun c19 => ?_) (fun c19 => ?_)
            · have hf := if_t hf c19
              refine lv_bipush (v := (-12 : Int32)) C.1 C.2.1 dX8_copy_85 (by decide) ?_
              exact x_ri C hr hlk h hE (pf_1 (Option.some.inj hf)) (pf_2 (Option.some.inj hf)) dX8_copy_87
            · have hf := if_f hf c19
              refine lv_aload C.1 C.2.1 dX8_copy_73 (lv_at hl 0 rfl) ?_
              refine lv_iload C.1 C.2.1 dX8_copy_75 (lv_at hl 6 rfl) ?_
              refine lv_iload C.1 C.2.1 dX8_copy_77 (lv_at hl 7 rfl) ?_
              refine x_az K h (x_VN C K h [.int x4, .int x5] (c_X4_holds l κ G cy ad H.size σ b9 x4 x5 hk_b9 rfl) mi_X4_holds rfl im_yX4_holds se_yX4_holds nm_RX8_362 cl_4 hk_b9 ⟨rfl, rfl, Nat.le_trans (Nat.le_of_ble_eq_true rfl) hR.1, Nat.le_trans (Nat.le_of_ble_eq_true rfl) hR.2⟩ hl (Nat.le_of_ble_eq_true rfl) dX8_copy_79 ⟨Nat.zero_le _, Nat.zero_le _⟩ rfl) (fun H locs h hX hz21 => ?_)
              refine lv_if_ne (tgt := 88) C.1 C.2.1 dX8_copy_82 (by decide) (fun c22 => ?_) (fun c22 => ?_)
              · have hf := if_f hf c22
                refine lv_aload C.1 C.2.1 dX8_copy_88 (lv_at hl 1 rfl) ?_
                obtain ⟨b23, hb_b23, hf⟩ := ob_ hf
                obtain ⟨hq_b23, hk_b23⟩ := dr_in hb_b23
                refine x_getN (v := .ref (ad b23)) C K h cl_4 hk_b8 0 (by decide) nf_RX8_365 (hv_r (o := sr_ σ b8 0) rfl hq_b23) dX8_copy_90 ?_
                refine lv_iload_n C.1 C.2.1 dX8_copy_93 rfl (lv_at hl 4 rfl) ?_
                refine lv_aload C.1 C.2.1 dX8_copy_94 (lv_at hl 0 rfl) ?_
                obtain ⟨b24, hb_b24, hf⟩ := ob_ hf
                obtain ⟨hq_b24, hk_b24⟩ := dr_in hb_b24
                refine x_getN (v := .ref (ad b24)) C K h cl_4 hk_b9 0 (by decide) nf_RX8_365 (hv_r (o := sr_ σ b9 0) rfl hq_b24) dX8_copy_96 ?_
                refine lv_iload C.1 C.2.1 dX8_copy_99 (lv_at hl 6 rfl) ?_
                refine lv_iload C.1 C.2.1 dX8_copy_101 (lv_at hl 7 rfl) ?_
                obtain ⟨hy25, hf⟩ := gd_ hf
                refine x_copy C K h hl ml_RX8_369 na_copy st_copy in_copy hk_b23 hk_b24 hy25.1 hy25.2.1 hy25.2.2.1 hy25.2.2.2.1 hy25.2.2.2.2 (Nat.le_trans (by decide) hR.1) (Nat.le_trans (by decide) hR.2) dX8_copy_103 (fun H locs h => ?_)
                have hE := hE.up (up_w σ b24 (va_cpy (si_ σ b23) (si_ σ b24) x2.toNatClampNeg x4.toNatClampNeg x5.toNatClampNeg))
                refine lv_iload C.1 C.2.1 dX8_copy_106 (lv_at hl 7 rfl) ?_
                exact x_ri C hr hlk h hE (pf_1 (Option.some.inj hf)) (pf_2 (Option.some.inj hf)) dX8_copy_108
              · have hf := if_t hf c22
                refine lv_bipush (v := (-12 : Int32)) C.1 C.2.1 dX8_copy_85 (by decide) ?_
                exact x_ri C hr hlk h hE (pf_1 (Option.some.inj hf)) (pf_2 (Option.some.inj hf)) dX8_copy_87
          · have hf := if_f hf c16
            refine lv_bipush (v := (-13 : Int32)) C.1 C.2.1 dX8_copy_59 (by decide) ?_
            exact x_ri C hr hlk h hE (pf_1 (Option.some.inj hf)) (pf_2 (Option.some.inj hf)) dX8_copy_61
        · have hf := if_f hf c15
          refine lv_bipush (v := (-11 : Int32)) C.1 C.2.1 dX8_copy_43 (by decide) ?_
          exact x_ri C hr hlk h hE (pf_1 (Option.some.inj hf)) (pf_2 (Option.some.inj hf)) dX8_copy_45
theorem c_X8_copy (l : Launch) (κ : Ka_) (G : va_G) (cy : Nat → ClassId) (ad : Nat → Nat) (sz : Nat) (σ : St_) (a0 : Nat) (x1 : Int32) (x2 : Int32) (x3 : Int32) (x4 : Int32) (x5 : Int32) (hk_a0 : kd_ σ a0 = 8) {q : Int32 × St_} (hf : f_X8_copy σ a0 x1 x2 x3 x4 x5 = some q) : Met l yX8_copy (Cond.code yX8_copy cX8_copy 8 (some .int) :: wU_) { frames := 2, cells := 0, slots := 0, locals := 60 } (va_Pc [.ref (ad a0), .int x1, .int x2, .int x3, .int x4, .int x5] (Pr_ κ G cy ad σ sz)) (Qi_ G cy ad σ q.2 sz q.1) 0 0 (va_A (wl_ cy ad σ) sz) :=
  x_met (by decide) (fun p e R s m below meth c ls hR C hr hlk hin _ K h hl => w_X8_copy C K hr hlk ⟨hR.1, hR.2.1⟩ σ a0 x1 x2 x3 x4 x5 Ex_.rf hk_a0 hf s.heap [] ls h hl) (Nat.le_of_ble_eq_true rfl)
-- X8_carpets
theorem mi_X8_carpets : Mi_ yX8_carpets cX8_carpets 9 (some .int) 4 := ⟨co_yX8_carpets, in_RX8, by decide, by decide, by decide +kernel⟩
def f_X8_carpets_69 (fu : Nat) : Nat → St_ → Nat → Int32 → Int32 → Nat → Int32 → Int32 → Option (Int32 × St_)
  | 0 => fun _ _ _ _ _ _ _ => none
  | n + 1 => fun σ  v0  v3  v4  v5  v6  v7 => if v4 ≤ v7 then some (v6, σ) else if (f_X4_holds σ v5 (v3 + ((3 : Int32) * v7)) (3 : Int32)) = 0 then some ((-12 : Int32), σ) else (f_X4_item σ v5 (v3 + ((3 : Int32) * v7))).bind fun q5 => (f_X4_item σ v5 ((v3 + ((3 : Int32) * v7)) + (1 : Int32))).bind fun q6 => (f_X4_item σ v5 ((v3 + ((3 : Int32) * v7)) + (2 : Int32))).bind fun q7 => (f_X8_lay σ v0 q5 q6 q7).bind fun q8 => if q8.1 < 0 then (f_X8_carpets_69 fu n) q8.2 v0 v3 v4 v5 (v6 + (0 : Int32)) (v7 + (1 : Int32)) else (f_X8_carpets_69 fu n) q8.2 v0 v3 v4 v5 (v6 + (1 : Int32)) (v7 + (1 : Int32))
set_option maxHeartbeats 4000000 in
set_option maxRecDepth 100000 in
theorem w_X8_carpets_69 {p : Program} {l : Launch} {e : Env} {R : Room} {s : State} {m : MethodId} {args : Array Value} {below : List Frame} {meth : Method} {c : Code} {κ : Ka_} {G : va_G} {cy : Nat → ClassId} {ad : Nat → Nat} {sz : Nat} {σ0 : St_} (fu : Nat) (C : CallFix p m c cX8_carpets 9 s args wU_ RX8) (K : Kx_ κ G cy (va_A (wl_ cy ad σ0) sz) s) (hr : meth.sig.returnType = some .int) (hlk : meth.locks = false) (hR : 3 ≤ R.frames ∧ 70 ≤ R.locals) {q : Int32 × St_} : ∀ n : Nat, ∀ (σ : St_) (v0 : Nat) (v3 : Int32) (v4 : Int32) (v5 : Nat) (v6 : Int32) (v7 : Int32), Ex_ σ0 σ → kd_ σ v0 = 8 → kd_ σ v5 = 4 → f_X8_carpets_69 fu n σ v0 v3 v4 v5 v6 v7 = some q → ∀ (H : Heap) (locs : List Loc) (ls : Array Slot), Ht_ G cy (va_A (wl_ cy ad σ0) sz) s ad σ H locs → lv_has ls 9 [(0, .ref (ad v0)), (3, .int v3), (4, .int v4), (5, .ref (ad v5)), (6, .int v6), (7, .int v7)] → W p l e R s m args below meth c H locs 0 0 (MQ below (Qi_ G cy ad σ0 q.2 sz q.1) args s 0 0 (va_A (wl_ cy ad σ0) sz)) (F0 m 69 ls []) := by
  intro n
  induction n with
  | zero =>
    intro σ v0 v3 v4 v5 v6 v7 hE hk_v0 hk_v5 hf H locs ls h hl
    cases hf
  | succ n ih =>
    intro σ v0 v3 v4 v5 v6 v7 hE hk_v0 hk_v5 hf H locs ls h hl
    have hf : (if v4 ≤ v7 then some (v6, σ) else if (f_X4_holds σ v5 (v3 + ((3 : Int32) * v7)) (3 : Int32)) = 0 then some ((-12 : Int32), σ) else (f_X4_item σ v5 (v3 + ((3 : Int32) * v7))).bind fun q5 => (f_X4_item σ v5 ((v3 + ((3 : Int32) * v7)) + (1 : Int32))).bind fun q6 => (f_X4_item σ v5 ((v3 + ((3 : Int32) * v7)) + (2 : Int32))).bind fun q7 => (f_X8_lay σ v0 q5 q6 q7).bind fun q8 => if q8.1 < 0 then (f_X8_carpets_69 fu n) q8.2 v0 v3 v4 v5 (v6 + (0 : Int32)) (v7 + (1 : Int32)) else (f_X8_carpets_69 fu n) q8.2 v0 v3 v4 v5 (v6 + (1 : Int32)) (v7 + (1 : Int32))) = some q := hf
    refine lv_iload C.1 C.2.1 dX8_carpets_69 (lv_at hl 5 rfl) ?_
    refine lv_iload C.1 C.2.1 dX8_carpets_71 (lv_at hl 2 rfl) ?_
    refine lv_icmp_ge (tgt := 146) C.1 C.2.1 dX8_carpets_73 (by decide) (fun c1 => ?_) (fun c1 => ?_)
    · have hf := if_t hf c1
      refine lv_iload C.1 C.2.1 dX8_carpets_146 (lv_at hl 4 rfl) ?_
      exact x_ri C hr hlk h hE (pf_1 (Option.some.inj hf)) (pf_2 (Option.some.inj hf)) dX8_carpets_148
    · have hf := if_f hf c1
      refine lv_iload_n C.1 C.2.1 dX8_carpets_76 rfl (lv_at hl 1 rfl) ?_
      refine lv_iconst (v := (3 : Int32)) C.1 C.2.1 dX8_carpets_77 (by decide) ?_
      refine lv_iload C.1 C.2.1 dX8_carpets_78 (lv_at hl 5 rfl) ?_
      refine lv_imul C.1 C.2.1 dX8_carpets_80 ?_
      refine lv_iadd C.1 C.2.1 dX8_carpets_81 ?_
      refine lv_istore (i := 8) (lv' := [(8, .int (v3 + ((3 : Int32) * v7))), (0, .ref (ad v0)), (3, .int v3), (4, .int v4), (5, .ref (ad v5)), (6, .int v6), (7, .int v7)]) C.1 C.2.1 dX8_carpets_82 hl (by decide) rfl (fun ls hl => ?_)
      refine lv_aload C.1 C.2.1 dX8_carpets_84 (lv_at hl 4 rfl) ?_
      refine lv_iload C.1 C.2.1 dX8_carpets_86 (lv_at hl 0 rfl) ?_
      refine lv_iconst (v := (3 : Int32)) C.1 C.2.1 dX8_carpets_88 (by decide) ?_
      refine x_az K h (x_VN C K h [.int (v3 + ((3 : Int32) * v7)), .int (3 : Int32)] (c_X4_holds l κ G cy ad H.size σ v5 (v3 + ((3 : Int32) * v7)) (3 : Int32) hk_v5 rfl) mi_X4_holds rfl im_yX4_holds se_yX4_holds nm_RX8_362 cl_4 hk_v5 ⟨rfl, rfl, Nat.le_trans (Nat.le_of_ble_eq_true rfl) hR.1, Nat.le_trans (Nat.le_of_ble_eq_true rfl) hR.2⟩ hl (Nat.le_of_ble_eq_true rfl) dX8_carpets_89 ⟨Nat.zero_le _, Nat.zero_le _⟩ rfl) (fun H locs h hX hz3 => ?_)
      refine lv_if_ne (tgt := 98) C.1 C.2.1 dX8_carpets_92 (by decide) (fun c4 => ?_) (fun c4 => ?_)
      · have hf := if_f hf c4
        refine lv_iload C.1 C.2.1 dX8_carpets_98 (lv_at hl 5 rfl) ?_
        refine lv_aload_n C.1 C.2.1 dX8_carpets_100 rfl (lv_at hl 1 rfl) ?_
        refine lv_aload C.1 C.2.1 dX8_carpets_101 (lv_at hl 4 rfl) ?_
        refine lv_iload C.1 C.2.1 dX8_carpets_103 (lv_at hl 0 rfl) ?_
        obtain ⟨q5, hq_q5, hf⟩ := ob_ hf
        refine x_ai K h (x_VN C K h [.int (v3 + ((3 : Int32) * v7))] (c_X4_item l κ G cy ad H.size σ v5 (v3 + ((3 : Int32) * v7)) hk_v5 hq_q5) mi_X4_item rfl im_yX4_item se_yX4_item nm_RX8_199 cl_4 hk_v5 ⟨rfl, rfl, Nat.le_trans (Nat.le_of_ble_eq_true rfl) hR.1, Nat.le_trans (Nat.le_of_ble_eq_true rfl) hR.2⟩ hl (Nat.le_of_ble_eq_true rfl) dX8_carpets_105 ⟨Nat.zero_le _, Nat.zero_le _⟩ rfl) (fun H locs h hX => ?_)
        refine lv_aload C.1 C.2.1 dX8_carpets_108 (lv_at hl 4 rfl) ?_
        refine lv_iload C.1 C.2.1 dX8_carpets_110 (lv_at hl 0 rfl) ?_
        refine lv_iconst (v := (1 : Int32)) C.1 C.2.1 dX8_carpets_112 (by decide) ?_
        refine lv_iadd C.1 C.2.1 dX8_carpets_113 ?_
        obtain ⟨q6, hq_q6, hf⟩ := ob_ hf
        refine x_ai K h (x_VN C K h [.int ((v3 + ((3 : Int32) * v7)) + (1 : Int32))] (c_X4_item l κ G cy ad H.size σ v5 ((v3 + ((3 : Int32) * v7)) + (1 : Int32)) hk_v5 hq_q6) mi_X4_item rfl im_yX4_item se_yX4_item nm_RX8_199 cl_4 hk_v5 ⟨rfl, rfl, Nat.le_trans (Nat.le_of_ble_eq_true rfl) hR.1, Nat.le_trans (Nat.le_of_ble_eq_true rfl) hR.2⟩ hl (Nat.le_of_ble_eq_true rfl) dX8_carpets_114 ⟨Nat.zero_le _, Nat.zero_le _⟩ rfl) (fun H locs h hX => ?_)
        refine lv_aload C.1 C.2.1 dX8_carpets_117 (lv_at hl 4 rfl) ?_
        refine lv_iload C.1 C.2.1 dX8_carpets_119 (lv_at hl 0 rfl) ?_
        refine lv_iconst (v := (2 : Int32)) C.1 C.2.1 dX8_carpets_121 (by decide) ?_
        refine lv_iadd C.1 C.2.1 dX8_carpets_122 ?_
        obtain ⟨q7, hq_q7, hf⟩ := ob_ hf
        refine x_ai K h (x_VN C K h [.int ((v3 + ((3 : Int32) * v7)) + (2 : Int32))] (c_X4_item l κ G cy ad H.size σ v5 ((v3 + ((3 : Int32) * v7)) + (2 : Int32)) hk_v5 hq_q7) mi_X4_item rfl im_yX4_item se_yX4_item nm_RX8_199 cl_4 hk_v5 ⟨rfl, rfl, Nat.le_trans (Nat.le_of_ble_eq_true rfl) hR.1, Nat.le_trans (Nat.le_of_ble_eq_true rfl) hR.2⟩ hl (Nat.le_of_ble_eq_true rfl) dX8_carpets_123 ⟨Nat.zero_le _, Nat.zero_le _⟩ rfl) (fun H locs h hX => ?_)
        obtain ⟨q8, hq_q8, hf⟩ := ob_ hf
        refine x_ai K h (x_V C K h [.int q5, .int q6, .int q7] (c_X8_lay l κ G cy ad H.size σ v0 q5 q6 q7 hk_v0 hq_q8) mi_X8_lay rfl im_yX8_lay se_yX8_lay ml_RX8_144 cl_8 hk_v0 ⟨rfl, rfl, Nat.le_trans (Nat.le_of_ble_eq_true rfl) hR.1, Nat.le_trans (Nat.le_of_ble_eq_true rfl) hR.2⟩ hl (Nat.le_of_ble_eq_true rfl) dX8_carpets_126 ⟨Nat.zero_le _, Nat.zero_le _⟩ rfl) (fun H locs h hX => ?_)
        have hE := hE.trans hX
        have hk_v0 := hX.k hk_v0 (by decide)
        have hk_v5 := hX.k hk_v5 (by decide)
        refine lv_if_lt (tgt := 136) C.1 C.2.1 dX8_carpets_129 (by decide) (fun c9 => ?_) (fun c9 => ?_)
        · have hf := if_t hf c9
          refine lv_iconst (v := (0 : Int32)) C.1 C.2.1 dX8_carpets_136 (by decide) ?_
          refine lv_iadd C.1 C.2.1 dX8_carpets_137 ?_
          refine lv_istore (i := 6) (lv' := [(6, .int (v6 + (0 : Int32))), (8, .int (v3 + ((3 : Int32) * v7))), (0, .ref (ad v0)), (3, .int v3), (4, .int v4), (5, .ref (ad v5)), (7, .int v7)]) C.1 C.2.1 dX8_carpets_138 hl (by decide) rfl (fun ls hl => ?_)
          refine lv_iinc (v := v7 + (1 : Int32)) (lv' := [(7, .int (v7 + (1 : Int32))), (6, .int (v6 + (0 : Int32))), (8, .int (v3 + ((3 : Int32) * v7))), (0, .ref (ad v0)), (3, .int v3), (4, .int v4), (5, .ref (ad v5))]) C.1 C.2.1 dX8_carpets_140 hl (k := 6) rfl rfl (by decide) rfl (fun ls hl => ?_)
          refine lv_goto (tgt := 69) C.1 C.2.1 dX8_carpets_143 (by decide) ?_
          exact ih q8.2 v0 v3 v4 v5 (v6 + (0 : Int32)) (v7 + (1 : Int32)) hE hk_v0 hk_v5 hf _ _ _ h (lv_sub hl [3, 4, 5, 6, 1, 0] rfl)
        · have hf := if_f hf c9
          refine lv_iconst (v := (1 : Int32)) C.1 C.2.1 dX8_carpets_132 (by decide) ?_
          refine lv_goto (tgt := 137) C.1 C.2.1 dX8_carpets_133 (by decide) ?_
          refine lv_iadd C.1 C.2.1 dX8_carpets_137 ?_
          refine lv_istore (i := 6) (lv' := [(6, .int (v6 + (1 : Int32))), (8, .int (v3 + ((3 : Int32) * v7))), (0, .ref (ad v0)), (3, .int v3), (4, .int v4), (5, .ref (ad v5)), (7, .int v7)]) C.1 C.2.1 dX8_carpets_138 hl (by decide) rfl (fun ls hl => ?_)
          refine lv_iinc (v := v7 + (1 : Int32)) (lv' := [(7, .int (v7 + (1 : Int32))), (6, .int (v6 + (1 : Int32))), (8, .int (v3 + ((3 : Int32) * v7))), (0, .ref (ad v0)), (3, .int v3), (4, .int v4), (5, .ref (ad v5))]) C.1 C.2.1 dX8_carpets_140 hl (k := 6) rfl rfl (by decide) rfl (fun ls hl => ?_)
          refine lv_goto (tgt := 69) C.1 C.2.1 dX8_carpets_143 (by decide) ?_
          exact ih q8.2 v0 v3 v4 v5 (v6 + (1 : Int32)) (v7 + (1 : Int32)) hE hk_v0 hk_v5 hf _ _ _ h (lv_sub hl [3, 4, 5, 6, 1, 0] rfl)
      · have hf := if_t hf c4
        refine lv_bipush (v := (-12 : Int32)) C.1 C.2.1 dX8_carpets_95 (by decide) ?_
        exact x_ri C hr hlk h hE (pf_1 (Option.some.inj hf)) (pf_2 (Option.some.inj hf)) dX8_carpets_97
def f_X8_carpets_52 (fu : Nat) (σ : St_) (v0 : Nat) (v3 : Int32) (v4 : Int32) (v5 : Nat) : Option (Int32 × St_) := if (f_X4_isMissing σ v5) = 0 then f_X8_carpets_69 fu fu σ v0 v3 v4 v5 (0 : Int32) (0 : Int32) else some ((-11 : Int32), σ)
set_option maxHeartbeats 4000000 in
set_option maxRecDepth 100000 in
theorem w_X8_carpets_52 {p : Program} {l : Launch} {e : Env} {R : Room} {s : State} {m : MethodId} {args : Array Value} {below : List Frame} {meth : Method} {c : Code} {κ : Ka_} {G : va_G} {cy : Nat → ClassId} {ad : Nat → Nat} {sz : Nat} {σ0 : St_} (fu : Nat) (C : CallFix p m c cX8_carpets 9 s args wU_ RX8) (K : Kx_ κ G cy (va_A (wl_ cy ad σ0) sz) s) (hr : meth.sig.returnType = some .int) (hlk : meth.locks = false) (hR : 3 ≤ R.frames ∧ 70 ≤ R.locals) {q : Int32 × St_} : ∀ (σ : St_) (v0 : Nat) (v3 : Int32) (v4 : Int32) (v5 : Nat), Ex_ σ0 σ → kd_ σ v0 = 8 → kd_ σ v5 = 4 → f_X8_carpets_52 fu σ v0 v3 v4 v5 = some q → ∀ (H : Heap) (locs : List Loc) (ls : Array Slot), Ht_ G cy (va_A (wl_ cy ad σ0) sz) s ad σ H locs → lv_has ls 9 [(0, .ref (ad v0)), (3, .int v3), (4, .int v4), (5, .ref (ad v5))] → W p l e R s m args below meth c H locs 0 0 (MQ below (Qi_ G cy ad σ0 q.2 sz q.1) args s 0 0 (va_A (wl_ cy ad σ0) sz)) (F0 m 52 ls []) := by
  intro σ v0 v3 v4 v5 hE hk_v0 hk_v5 hf H locs ls h hl
  have hf : (if (f_X4_isMissing σ v5) = 0 then f_X8_carpets_69 fu fu σ v0 v3 v4 v5 (0 : Int32) (0 : Int32) else some ((-11 : Int32), σ)) = some q := hf
  refine lv_aload C.1 C.2.1 dX8_carpets_52 (lv_at hl 3 rfl) ?_
  refine x_az K h (x_VN C K h [] (c_X4_isMissing l κ G cy ad H.size σ v5 hk_v5 rfl) mi_X4_isMissing rfl im_yX4_isMissing se_yX4_isMissing nm_RX8_281 cl_4 hk_v5 ⟨rfl, rfl, Nat.le_trans (Nat.le_of_ble_eq_true rfl) hR.1, Nat.le_trans (Nat.le_of_ble_eq_true rfl) hR.2⟩ hl (Nat.le_of_ble_eq_true rfl) dX8_carpets_54 ⟨Nat.zero_le _, Nat.zero_le _⟩ rfl) (fun H locs h hX hz2 => ?_)
  refine lv_if_eq (tgt := 63) C.1 C.2.1 dX8_carpets_57 (by decide) (fun c3 => ?_) (fun c3 => ?_)
  · have hf := if_t hf c3
    refine lv_iconst (v := (0 : Int32)) C.1 C.2.1 dX8_carpets_63 (by decide) ?_
    refine lv_istore (i := 6) (lv' := [(6, .int (0 : Int32)), (0, .ref (ad v0)), (3, .int v3), (4, .int v4), (5, .ref (ad v5))]) C.1 C.2.1 dX8_carpets_64 hl (by decide) rfl (fun ls hl => ?_)
    refine lv_iconst (v := (0 : Int32)) C.1 C.2.1 dX8_carpets_66 (by decide) ?_
    refine lv_istore (i := 7) (lv' := [(7, .int (0 : Int32)), (6, .int (0 : Int32)), (0, .ref (ad v0)), (3, .int v3), (4, .int v4), (5, .ref (ad v5))]) C.1 C.2.1 dX8_carpets_67 hl (by decide) rfl (fun ls hl => ?_)
    exact w_X8_carpets_69 fu C K hr hlk hR fu σ v0 v3 v4 v5 (0 : Int32) (0 : Int32) hE hk_v0 hk_v5 hf _ _ _ h (lv_sub hl [2, 3, 4, 5, 1, 0] rfl)
  · have hf := if_f hf c3
    refine lv_bipush (v := (-11 : Int32)) C.1 C.2.1 dX8_carpets_60 (by decide) ?_
    exact x_ri C hr hlk h hE (pf_1 (Option.some.inj hf)) (pf_2 (Option.some.inj hf)) dX8_carpets_62
def f_X8_carpets (fu : Nat) (σ : St_) (a0 : Nat) (x1 : Int32) (x2 : Int32) (x3 : Int32) (x4 : Int32) : Option (Int32 × St_) := (f_X8_sheetAt σ a0 x1).bind fun q5 => oc_ q5 (some ((-2 : Int32), σ)) (fun b6 => if kd_ σ b6 = 4 then if (f_X8_isBelow x2 (3 : Int32)) = 0 then some ((-2 : Int32), σ) else if (f_X8_isBelow x4 (5 : Int32)) = 0 then some ((-2 : Int32), σ) else if (f_X4_isMissing σ b6) = 0 then if (si_ σ b6 1) = x2 then f_X8_carpets_52 fu σ a0 x3 x4 b6 else some ((-13 : Int32), σ) else f_X8_carpets_52 fu σ a0 x3 x4 b6 else none)
set_option maxHeartbeats 4000000 in
set_option maxRecDepth 100000 in
theorem w_X8_carpets {p : Program} {l : Launch} {e : Env} {R : Room} {s : State} {m : MethodId} {args : Array Value} {below : List Frame} {meth : Method} {c : Code} {κ : Ka_} {G : va_G} {cy : Nat → ClassId} {ad : Nat → Nat} {sz : Nat} {σ0 : St_} (fu : Nat) (C : CallFix p m c cX8_carpets 9 s args wU_ RX8) (K : Kx_ κ G cy (va_A (wl_ cy ad σ0) sz) s) (hr : meth.sig.returnType = some .int) (hlk : meth.locks = false) (hR : 3 ≤ R.frames ∧ 70 ≤ R.locals) {q : Int32 × St_} : ∀ (σ : St_) (a0 : Nat) (x1 : Int32) (x2 : Int32) (x3 : Int32) (x4 : Int32), Ex_ σ0 σ → kd_ σ a0 = 8 → f_X8_carpets fu σ a0 x1 x2 x3 x4 = some q → ∀ (H : Heap) (locs : List Loc) (ls : Array Slot), Ht_ G cy (va_A (wl_ cy ad σ0) sz) s ad σ H locs → lv_has ls 9 [(0, .ref (ad a0)), (1, .int x1), (2, .int x2), (3, .int x3), (4, .int x4)] → W p l e R s m args below meth c H locs 0 0 (MQ below (Qi_ G cy ad σ0 q.2 sz q.1) args s 0 0 (va_A (wl_ cy ad σ0) sz)) (F0 m 0 ls []) := by
  intro σ a0 x1 x2 x3 x4 hE hk_a0 hf H locs ls h hl
  have hf : ((f_X8_sheetAt σ a0 x1).bind fun q5 => oc_ q5 (some ((-2 : Int32), σ)) (fun b6 => if kd_ σ b6 = 4 then if (f_X8_isBelow x2 (3 : Int32)) = 0 then some ((-2 : Int32), σ) else if (f_X8_isBelow x4 (5 : Int32)) = 0 then some ((-2 : Int32), σ) else if (f_X4_isMissing σ b6) = 0 then if (si_ σ b6 1) = x2 then f_X8_carpets_52 fu σ a0 x3 x4 b6 else some ((-13 : Int32), σ) else f_X8_carpets_52 fu σ a0 x3 x4 b6 else none)) = some q := hf
  refine lv_aload_n C.1 C.2.1 dX8_carpets_0 rfl (lv_at hl 0 rfl) ?_
  refine lv_iload_n C.1 C.2.1 dX8_carpets_1 rfl (lv_at hl 1 rfl) ?_
  obtain ⟨q5, hq_q5, hf⟩ := ob_ hf
  refine x_aq K h (x_V C K h [.int x1] (c_X8_sheetAt l κ G cy ad H.size σ a0 x1 hk_a0 hq_q5) mi_X8_sheetAt rfl im_yX8_sheetAt se_yX8_sheetAt ml_RX8_192 cl_8 hk_a0 ⟨rfl, rfl, Nat.le_trans (Nat.le_of_ble_eq_true rfl) hR.1, Nat.le_trans (Nat.le_of_ble_eq_true rfl) hR.2⟩ hl (Nat.le_of_ble_eq_true rfl) dX8_carpets_2 ⟨Nat.zero_le _, Nat.zero_le _⟩ rfl) (fun H locs h hX => ?_)
  refine x_astoreq (i := 5) (lv' := [(5, rv_ ad q5), (0, .ref (ad a0)), (1, .int x1), (2, .int x2), (3, .int x3), (4, .int x4)]) C.1 C.2.1 dX8_carpets_5 hl (by decide) rfl (fun ls hl => ?_)
  refine x_aloadq C.1 C.2.1 dX8_carpets_7 (lv_at hl 0 rfl) ?_
  cases q5 with
  | none =>
    have hf := oc_n hf
    refine lv_ifnullN (tgt := 29) C.1 C.2.1 dX8_carpets_9 (by decide) ?_
    refine lv_bipush (v := (-2 : Int32)) C.1 C.2.1 dX8_carpets_29 (by decide) ?_
    exact x_ri C hr hlk h hE (pf_1 (Option.some.inj hf)) (pf_2 (Option.some.inj hf)) dX8_carpets_31
  | some b6 =>
    obtain ⟨hk_b6, hf⟩ := gd_ (oc_s hf)
    refine lv_ifnull C.1 C.2.1 dX8_carpets_9 ?_
    refine lv_iload_n C.1 C.2.1 dX8_carpets_12 rfl (lv_at hl 3 rfl) ?_
    refine lv_iconst (v := (3 : Int32)) C.1 C.2.1 dX8_carpets_13 (by decide) ?_
    refine x_az K h (x_S C K h [.int x2, .int (3 : Int32)] (c_X8_isBelow l κ G cy ad H.size σ x2 (3 : Int32) rfl) mi_X8_isBelow rfl st_yX8_isBelow ml_RX8_116 ⟨rfl, rfl, Nat.le_trans (Nat.le_of_ble_eq_true rfl) hR.1, Nat.le_trans (Nat.le_of_ble_eq_true rfl) hR.2⟩ hl (Nat.le_of_ble_eq_true rfl) dX8_carpets_14 ⟨Nat.zero_le _, Nat.zero_le _⟩ rfl) (fun H locs h hX hz8 => ?_)
    refine lv_if_eq (tgt := 29) C.1 C.2.1 dX8_carpets_17 (by decide) (fun c9 => ?_) (fun c9 => ?_)
    · have hf := if_t hf c9
      refine lv_bipush (v := (-2 : Int32)) C.1 C.2.1 dX8_carpets_29 (by decide) ?_
      exact x_ri C hr hlk h hE (pf_1 (Option.some.inj hf)) (pf_2 (Option.some.inj hf)) dX8_carpets_31
    · have hf := if_f hf c9
      refine lv_iload C.1 C.2.1 dX8_carpets_20 (lv_at hl 5 rfl) ?_
      refine lv_iconst (v := (5 : Int32)) C.1 C.2.1 dX8_carpets_22 (by decide) ?_
      refine x_az K h (x_S C K h [.int x4, .int (5 : Int32)] (c_X8_isBelow l κ G cy ad H.size σ x4 (5 : Int32) rfl) mi_X8_isBelow rfl st_yX8_isBelow ml_RX8_116 ⟨rfl, rfl, Nat.le_trans (Nat.le_of_ble_eq_true rfl) hR.1, Nat.le_trans (Nat.le_of_ble_eq_true rfl) hR.2⟩ hl (Nat.le_of_ble_eq_true rfl) dX8_carpets_23 ⟨Nat.zero_le _, Nat.zero_le _⟩ rfl) (fun H locs h hX hz11 => ?_)
      refine lv_if_ne (tgt := 32) C.1 C.2.1 dX8_carpets_26 (by decide) (fun c12 => ?_) (fun c12 => ?_)
      · have hf := if_f hf c12
        refine lv_aload C.1 C.2.1 dX8_carpets_32 (lv_at hl 0 rfl) ?_
        refine x_az K h (x_VN C K h [] (c_X4_isMissing l κ G cy ad H.size σ b6 hk_b6 rfl) mi_X4_isMissing rfl im_yX4_isMissing se_yX4_isMissing nm_RX8_281 cl_4 hk_b6 ⟨rfl, rfl, Nat.le_trans (Nat.le_of_ble_eq_true rfl) hR.1, Nat.le_trans (Nat.le_of_ble_eq_true rfl) hR.2⟩ hl (Nat.le_of_ble_eq_true rfl) dX8_carpets_34 ⟨Nat.zero_le _, Nat.zero_le _⟩ rfl) (fun H locs h hX hz14 => ?_)
        refine lv_if_ne (tgt := 52) C.1 C.2.1 dX8_carpets_37 (by decide) (fun c15 => ?_) (fun c15 => ?_)
        · have hf := if_f hf c15
          exact w_X8_carpets_52 fu C K hr hlk hR σ a0 x3 x4 b6 hE hk_a0 hk_b6 hf _ _ _ h (lv_sub hl [1, 4, 5, 0] rfl)
        · have hf := if_t hf c15
          refine lv_aload C.1 C.2.1 dX8_carpets_40 (lv_at hl 0 rfl) ?_
          refine x_getN (v := .int (si_ σ b6 1)) C K h cl_4 hk_b6 1 (by decide) nf_RX8_359 rfl dX8_carpets_42 ?_
          refine lv_iload_n C.1 C.2.1 dX8_carpets_45 rfl (lv_at hl 3 rfl) ?_
          refine lv_icmp_eq (tgt := 52) C.1 C.2.1 dX8_carpets_46 (by decide) (fun c16 => ?_) (fun c16 => ?_)
          · have hf := if_t hf c16
            exact w_X8_carpets_52 fu C K hr hlk hR σ a0 x3 x4 b6 hE hk_a0 hk_b6 hf _ _ _ h (lv_sub hl [1, 4, 5, 0] rfl)
          · have hf := if_f hf c16
            refine lv_bipush (v := (-13 : Int32)) C.1 C.2.1 dX8_carpets_49 (by decide) ?_
            exact x_ri C hr hlk h hE (pf_1 (Option.some.inj hf)) (pf_2 (Option.some.inj hf)) dX8_carpets_51
      · have hf := if_t hf c12
        refine lv_bipush (v := (-2 : Int32)) C.1 C.2.1 dX8_carpets_29 (by decide) ?_
        exact x_ri C hr hlk h hE (pf_1 (Option.some.inj hf)) (pf_2 (Option.some.inj hf)) dX8_carpets_31
theorem c_X8_carpets (fu : Nat) (l : Launch) (κ : Ka_) (G : va_G) (cy : Nat → ClassId) (ad : Nat → Nat) (sz : Nat) (σ : St_) (a0 : Nat) (x1 : Int32) (x2 : Int32) (x3 : Int32) (x4 : Int32) (hk_a0 : kd_ σ a0 = 8) {q : Int32 × St_} (hf : f_X8_carpets fu σ a0 x1 x2 x3 x4 = some q) : Met l yX8_carpets (Cond.code yX8_carpets cX8_carpets 9 (some .int) :: wU_) { frames := 3, cells := 0, slots := 0, locals := 70 } (va_Pc [.ref (ad a0), .int x1, .int x2, .int x3, .int x4] (Pr_ κ G cy ad σ sz)) (Qi_ G cy ad σ q.2 sz q.1) 0 0 (va_A (wl_ cy ad σ) sz) :=
  x_met (by decide) (fun p e R s m below meth c ls hR C hr hlk hin _ K h hl => w_X8_carpets fu C K hr hlk ⟨hR.1, hR.2.1⟩ σ a0 x1 x2 x3 x4 Ex_.rf hk_a0 hf s.heap [] ls h hl) (Nat.le_of_ble_eq_true rfl)
-- X8_isUnder
theorem mi_X8_isUnder : Mi_ yX8_isUnder cX8_isUnder 4 (some .boolean) 2 := ⟨co_yX8_isUnder, in_RX8, by decide, by decide, by decide +kernel⟩
def f_X8_isUnder_4 (fu : Nat) (σ : St_) : Nat → Int32 → Int32 → Int32 → Option Int32
  | 0 => fun _ _ _ => none
  | n + 1 => fun v1  v2  v3 => if (6 : Int32) ≤ v3 then if v2 = v1 then some (1 : Int32) else some (0 : Int32) else if v2 = v1 then if v2 = v1 then some (1 : Int32) else some (0 : Int32) else if (f_X8_isBelow v2 (6 : Int32)) = 0 then if v2 = v1 then some (1 : Int32) else some (0 : Int32) else (ix_ v2 6).bind fun j9 => (f_X8_isUnder_4 fu σ n) v1 (un_ j9) (v3 + (1 : Int32))
set_option maxHeartbeats 4000000 in
set_option maxRecDepth 100000 in
theorem w_X8_isUnder_4 {p : Program} {l : Launch} {e : Env} {R : Room} {s : State} {m : MethodId} {args : Array Value} {below : List Frame} {meth : Method} {c : Code} {κ : Ka_} {G : va_G} {cy : Nat → ClassId} {ad : Nat → Nat} {sz : Nat} {σ : St_} (fu : Nat) (C : CallFix p m c cX8_isUnder 4 s args wU_ RX8) (K : Kx_ κ G cy (va_A (wl_ cy ad σ) sz) s) (hr : meth.sig.returnType = some .boolean) (hlk : meth.locks = false) (hR : 1 ≤ R.frames ∧ 21 ≤ R.locals) {q : Int32} : ∀ n : Nat, ∀ (v1 : Int32) (v2 : Int32) (v3 : Int32), f_X8_isUnder_4 fu σ n v1 v2 v3 = some q → ∀ (H : Heap) (locs : List Loc) (ls : Array Slot), Ht_ G cy (va_A (wl_ cy ad σ) sz) s ad σ H locs → lv_has ls 4 [(1, .int v1), (2, .int v2), (3, .int v3)] → W p l e R s m args below meth c H locs 0 0 (MQ below (Qz_ G cy ad σ σ sz q) args s 0 0 (va_A (wl_ cy ad σ) sz)) (F0 m 4 ls []) := by
  intro n
  induction n with
  | zero =>
    intro v1 v2 v3 hf H locs ls h hl
    cases hf
  | succ n ih =>
    intro v1 v2 v3 hf H locs ls h hl
    have hf : (if (6 : Int32) ≤ v3 then if v2 = v1 then some (1 : Int32) else some (0 : Int32) else if v2 = v1 then if v2 = v1 then some (1 : Int32) else some (0 : Int32) else if (f_X8_isBelow v2 (6 : Int32)) = 0 then if v2 = v1 then some (1 : Int32) else some (0 : Int32) else (ix_ v2 6).bind fun j9 => (f_X8_isUnder_4 fu σ n) v1 (un_ j9) (v3 + (1 : Int32))) = some q := hf
    refine lv_iload_n C.1 C.2.1 dX8_isUnder_4 rfl (lv_at hl 2 rfl) ?_
    refine lv_bipush (v := (6 : Int32)) C.1 C.2.1 dX8_isUnder_5 (by decide) ?_
    refine lv_icmp_ge (tgt := 38) C.1 C.2.1 dX8_isUnder_7 (by decide) (fun c1 => ?_) (fun c1 => ?_)
    · have hf := if_t hf c1
      refine lv_iload_n C.1 C.2.1 dX8_isUnder_38 rfl (lv_at hl 1 rfl) ?_
      refine lv_iload_n C.1 C.2.1 dX8_isUnder_39 rfl (lv_at hl 0 rfl) ?_
      refine lv_icmp_ne (tgt := 47) C.1 C.2.1 dX8_isUnder_40 (by decide) (fun c2 => ?_) (fun c2 => ?_)
      · have hf := if_f hf c2
        refine lv_iconst (v := (0 : Int32)) C.1 C.2.1 dX8_isUnder_47 (by decide) ?_
        exact x_rzz C hr hlk h Ex_.rf (by decide) (Option.some.inj hf) rfl dX8_isUnder_48
      · have hf := if_t hf c2
        refine lv_iconst (v := (1 : Int32)) C.1 C.2.1 dX8_isUnder_43 (by decide) ?_
        refine lv_goto (tgt := 48) C.1 C.2.1 dX8_isUnder_44 (by decide) ?_
        exact x_rzz C hr hlk h Ex_.rf (by decide) (Option.some.inj hf) rfl dX8_isUnder_48
    · have hf := if_f hf c1
      refine lv_iload_n C.1 C.2.1 dX8_isUnder_10 rfl (lv_at hl 1 rfl) ?_
      refine lv_iload_n C.1 C.2.1 dX8_isUnder_11 rfl (lv_at hl 0 rfl) ?_
      refine lv_icmp_eq (tgt := 38) C.1 C.2.1 dX8_isUnder_12 (by decide) (fun c3 => ?_) (fun c3 => ?_)
      · have hf := if_t hf c3
        refine lv_iload_n C.1 C.2.1 dX8_isUnder_38 rfl (lv_at hl 1 rfl) ?_
        refine lv_iload_n C.1 C.2.1 dX8_isUnder_39 rfl (lv_at hl 0 rfl) ?_
        refine lv_icmp_ne (tgt := 47) C.1 C.2.1 dX8_isUnder_40 (by decide) (fun c4 => ?_) (fun c4 => ?_)
        · have hf := if_f hf c4
          refine lv_iconst (v := (0 : Int32)) C.1 C.2.1 dX8_isUnder_47 (by decide) ?_
          exact x_rzz C hr hlk h Ex_.rf (by decide) (Option.some.inj hf) rfl dX8_isUnder_48
        · have hf := if_t hf c4
          refine lv_iconst (v := (1 : Int32)) C.1 C.2.1 dX8_isUnder_43 (by decide) ?_
          refine lv_goto (tgt := 48) C.1 C.2.1 dX8_isUnder_44 (by decide) ?_
          exact x_rzz C hr hlk h Ex_.rf (by decide) (Option.some.inj hf) rfl dX8_isUnder_48
      · have hf := if_f hf c3
        refine lv_iload_n C.1 C.2.1 dX8_isUnder_15 rfl (lv_at hl 1 rfl) ?_
        refine va_gets C.1 C.2.1 K.2.2.1.1 h.2.2.1 C.2.2.2.1 (C.2.2.2.2 _ fl_RX8_384) (fun _ z => z) dX8_isUnder_16 ?_
        refine x_tlen C K h dX8_isUnder_19 ?_
        refine x_az K h (x_S C K h [.int v2, .int (6 : Int32)] (c_X8_isBelow l κ G cy ad H.size σ v2 (6 : Int32) rfl) mi_X8_isBelow rfl st_yX8_isBelow ml_RX8_116 ⟨rfl, rfl, Nat.le_trans (Nat.le_of_ble_eq_true rfl) hR.1, Nat.le_trans (Nat.le_of_ble_eq_true rfl) hR.2⟩ hl (Nat.le_of_ble_eq_true rfl) dX8_isUnder_20 ⟨Nat.zero_le _, Nat.zero_le _⟩ rfl) (fun H locs h hX hz6 => ?_)
        refine lv_if_eq (tgt := 38) C.1 C.2.1 dX8_isUnder_23 (by decide) (fun c7 => ?_) (fun c7 => ?_)
        · have hf := if_t hf c7
          refine lv_iload_n C.1 C.2.1 dX8_isUnder_38 rfl (lv_at hl 1 rfl) ?_
          refine lv_iload_n C.1 C.2.1 dX8_isUnder_39 rfl (lv_at hl 0 rfl) ?_
          refine lv_icmp_ne (tgt := 47) C.1 C.2.1 dX8_isUnder_40 (by decide) (fun c8 => ?_) (fun c8 => ?_)
          · have hf := if_f hf c8
            refine lv_iconst (v := (0 : Int32)) C.1 C.2.1 dX8_isUnder_47 (by decide) ?_
            exact x_rzz C hr hlk h Ex_.rf (by decide) (Option.some.inj hf) rfl dX8_isUnder_48
          · have hf := if_t hf c8
            refine lv_iconst (v := (1 : Int32)) C.1 C.2.1 dX8_isUnder_43 (by decide) ?_
            refine lv_goto (tgt := 48) C.1 C.2.1 dX8_isUnder_44 (by decide) ?_
            exact x_rzz C hr hlk h Ex_.rf (by decide) (Option.some.inj hf) rfl dX8_isUnder_48
        · have hf := if_f hf c7
          refine va_gets C.1 C.2.1 K.2.2.1.1 h.2.2.1 C.2.2.2.1 (C.2.2.2.2 _ fl_RX8_384) (fun _ z => z) dX8_isUnder_26 ?_
          refine lv_iload_n C.1 C.2.1 dX8_isUnder_29 rfl (lv_at hl 1 rfl) ?_
          obtain ⟨j9, hj_j9, hf⟩ := ob_ hf
          refine x_tald C K h hj_j9 dX8_isUnder_30 ?_
          refine lv_istore_n (i := 2) (lv' := [(2, .int (un_ j9)), (1, .int v1), (3, .int v3)]) C.1 C.2.1 dX8_isUnder_31 rfl hl (by decide) rfl (fun ls hl => ?_)
          refine lv_iinc (v := v3 + (1 : Int32)) (lv' := [(3, .int (v3 + (1 : Int32))), (2, .int (un_ j9)), (1, .int v1)]) C.1 C.2.1 dX8_isUnder_32 hl (k := 2) rfl rfl (by decide) rfl (fun ls hl => ?_)
          refine lv_goto (tgt := 4) C.1 C.2.1 dX8_isUnder_35 (by decide) ?_
          exact ih v1 (un_ j9) (v3 + (1 : Int32)) hf _ _ _ h (lv_sub hl [2, 1, 0] rfl)
def f_X8_isUnder (fu : Nat) (σ : St_) (x1 : Int32) (x2 : Int32) : Option Int32 := f_X8_isUnder_4 fu σ fu x2 x1 (0 : Int32)
set_option maxHeartbeats 4000000 in
set_option maxRecDepth 100000 in
theorem w_X8_isUnder {p : Program} {l : Launch} {e : Env} {R : Room} {s : State} {m : MethodId} {args : Array Value} {below : List Frame} {meth : Method} {c : Code} {κ : Ka_} {G : va_G} {cy : Nat → ClassId} {ad : Nat → Nat} {sz : Nat} {σ : St_} (fu : Nat) (C : CallFix p m c cX8_isUnder 4 s args wU_ RX8) (K : Kx_ κ G cy (va_A (wl_ cy ad σ) sz) s) (hr : meth.sig.returnType = some .boolean) (hlk : meth.locks = false) (hR : 1 ≤ R.frames ∧ 21 ≤ R.locals) {q : Int32} : ∀ (x1 : Int32) (x2 : Int32), f_X8_isUnder fu σ x1 x2 = some q → ∀ (H : Heap) (locs : List Loc) (ls : Array Slot), Ht_ G cy (va_A (wl_ cy ad σ) sz) s ad σ H locs → lv_has ls 4 [(0, .int x1), (1, .int x2)] → W p l e R s m args below meth c H locs 0 0 (MQ below (Qz_ G cy ad σ σ sz q) args s 0 0 (va_A (wl_ cy ad σ) sz)) (F0 m 0 ls []) := by
  intro x1 x2 hf H locs ls h hl
  have hf : (f_X8_isUnder_4 fu σ fu x2 x1 (0 : Int32)) = some q := hf
  refine lv_iload_n C.1 C.2.1 dX8_isUnder_0 rfl (lv_at hl 0 rfl) ?_
  refine lv_istore_n (i := 2) (lv' := [(2, .int x1), (0, .int x1), (1, .int x2)]) C.1 C.2.1 dX8_isUnder_1 rfl hl (by decide) rfl (fun ls hl => ?_)
  refine lv_iconst (v := (0 : Int32)) C.1 C.2.1 dX8_isUnder_2 (by decide) ?_
  refine lv_istore_n (i := 3) (lv' := [(3, .int (0 : Int32)), (2, .int x1), (0, .int x1), (1, .int x2)]) C.1 C.2.1 dX8_isUnder_3 rfl hl (by decide) rfl (fun ls hl => ?_)
  exact w_X8_isUnder_4 fu C K hr hlk hR fu x2 x1 (0 : Int32) hf _ _ _ h (lv_sub hl [3, 1, 0] rfl)
theorem c_X8_isUnder (fu : Nat) (l : Launch) (κ : Ka_) (G : va_G) (cy : Nat → ClassId) (ad : Nat → Nat) (sz : Nat) (σ : St_) (x1 : Int32) (x2 : Int32) {q : Int32} (hf : f_X8_isUnder fu σ x1 x2 = some q) : Met l yX8_isUnder (Cond.code yX8_isUnder cX8_isUnder 4 (some .boolean) :: wU_) { frames := 1, cells := 0, slots := 0, locals := 21 } (va_Pc [.int x1, .int x2] (Pr_ κ G cy ad σ sz)) (Qz_ G cy ad σ σ sz q) 0 0 (va_A (wl_ cy ad σ) sz) :=
  x_met (by decide) (fun p e R s m below meth c ls hR C hr hlk hin _ K h hl => w_X8_isUnder fu C K hr hlk ⟨hR.1, hR.2.1⟩ x1 x2 hf s.heap [] ls h hl) (Nat.le_of_ble_eq_true rfl)
-- X8_taken
theorem mi_X8_taken : Mi_ yX8_taken cX8_taken 4 (some .int) 2 := ⟨co_yX8_taken, in_RX8, by decide, by decide, by decide +kernel⟩
def f_X8_taken (fu : Nat) (σ : St_) (a0 : Nat) (x1 : Int32) (x2 : Int32) : Option Int32 := if (f_X8_isBelow x2 (6 : Int32)) = 0 then some (-2 : Int32) else (dr_ σ 1 (sr_ σ a0 0)).bind fun b6 => (f_X1_carpetAt σ b6 x1).bind fun q7 => oc_ q7 (some (-11 : Int32)) (fun b8 => if kd_ σ b8 = 0 then (f_X8_isUnder fu σ (si_ σ b8 0) x2).bind fun q9 => if q9 = 0 then some (-13 : Int32) else some (si_ σ b8 1) else none)
set_option maxHeartbeats 4000000 in
set_option maxRecDepth 100000 in
theorem w_X8_taken {p : Program} {l : Launch} {e : Env} {R : Room} {s : State} {m : MethodId} {args : Array Value} {below : List Frame} {meth : Method} {c : Code} {κ : Ka_} {G : va_G} {cy : Nat → ClassId} {ad : Nat → Nat} {sz : Nat} {σ : St_} (fu : Nat) (C : CallFix p m c cX8_taken 4 s args wU_ RX8) (K : Kx_ κ G cy (va_A (wl_ cy ad σ) sz) s) (hr : meth.sig.returnType = some .int) (hlk : meth.locks = false) (hR : 2 ≤ R.frames ∧ 44 ≤ R.locals) {q : Int32} : ∀ (a0 : Nat) (x1 : Int32) (x2 : Int32), kd_ σ a0 = 8 → f_X8_taken fu σ a0 x1 x2 = some q → ∀ (H : Heap) (locs : List Loc) (ls : Array Slot), Ht_ G cy (va_A (wl_ cy ad σ) sz) s ad σ H locs → lv_has ls 4 [(0, .ref (ad a0)), (1, .int x1), (2, .int x2)] → W p l e R s m args below meth c H locs 0 0 (MQ below (Qi_ G cy ad σ σ sz q) args s 0 0 (va_A (wl_ cy ad σ) sz)) (F0 m 0 ls []) := by
  intro a0 x1 x2 hk_a0 hf H locs ls h hl
  have hf : (if (f_X8_isBelow x2 (6 : Int32)) = 0 then some (-2 : Int32) else (dr_ σ 1 (sr_ σ a0 0)).bind fun b6 => (f_X1_carpetAt σ b6 x1).bind fun q7 => oc_ q7 (some (-11 : Int32)) (fun b8 => if kd_ σ b8 = 0 then (f_X8_isUnder fu σ (si_ σ b8 0) x2).bind fun q9 => if q9 = 0 then some (-13 : Int32) else some (si_ σ b8 1) else none)) = some q := hf
  refine lv_iload_n C.1 C.2.1 dX8_taken_0 rfl (lv_at hl 2 rfl) ?_
  refine lv_bipush (v := (6 : Int32)) C.1 C.2.1 dX8_taken_1 (by decide) ?_
  refine x_az K h (x_S C K h [.int x2, .int (6 : Int32)] (c_X8_isBelow l κ G cy ad H.size σ x2 (6 : Int32) rfl) mi_X8_isBelow rfl st_yX8_isBelow ml_RX8_116 ⟨rfl, rfl, Nat.le_trans (Nat.le_of_ble_eq_true rfl) hR.1, Nat.le_trans (Nat.le_of_ble_eq_true rfl) hR.2⟩ hl (Nat.le_of_ble_eq_true rfl) dX8_taken_3 ⟨Nat.zero_le _, Nat.zero_le _⟩ rfl) (fun H locs h hX hz4 => ?_)
  refine lv_if_ne (tgt := 12) C.1 C.2.1 dX8_taken_6 (by decide) (fun c5 => ?_) (fun c5 => ?_)
  · have hf := if_f hf c5
    refine lv_aload_n C.1 C.2.1 dX8_taken_12 rfl (lv_at hl 0 rfl) ?_
    obtain ⟨b6, hb_b6, hf⟩ := ob_ hf
    obtain ⟨hq_b6, hk_b6⟩ := dr_in hb_b6
    refine x_get (v := .ref (ad b6)) C K h cl_8 hk_a0 0 (by decide) fl_RX8_12 (hv_r (o := sr_ σ a0 0) rfl hq_b6) dX8_taken_13 ?_
    refine lv_iload_n C.1 C.2.1 dX8_taken_16 rfl (lv_at hl 1 rfl) ?_
    obtain ⟨q7, hq_q7, hf⟩ := ob_ hf
    refine x_aq K h (x_VN C K h [.int x1] (c_X1_carpetAt l κ G cy ad H.size σ b6 x1 hk_b6 hq_q7) mi_X1_carpetAt rfl im_yX1_carpetAt se_yX1_carpetAt nm_RX8_130 cl_1 hk_b6 ⟨rfl, rfl, Nat.le_trans (Nat.le_of_ble_eq_true rfl) hR.1, Nat.le_trans (Nat.le_of_ble_eq_true rfl) hR.2⟩ hl (Nat.le_of_ble_eq_true rfl) dX8_taken_17 ⟨Nat.zero_le _, Nat.zero_le _⟩ rfl) (fun H locs h hX => ?_)
    refine x_astore_nq (i := 3) (lv' := [(3, rv_ ad q7), (0, .ref (ad a0)), (1, .int x1), (2, .int x2)]) C.1 C.2.1 dX8_taken_20 rfl hl (by decide) rfl (fun ls hl => ?_)
    refine x_aload_nq C.1 C.2.1 dX8_taken_21 rfl (lv_at hl 0 rfl) ?_
    cases q7 with
    | none =>
      have hf := oc_n hf
      refine lv_ifnonnullN C.1 C.2.1 dX8_taken_22 ?_
      refine lv_bipush (v := (-11 : Int32)) C.1 C.2.1 dX8_taken_25 (by decide) ?_
      exact x_ri C hr hlk h Ex_.rf (Option.some.inj hf) rfl dX8_taken_27
    | some b8 =>
      obtain ⟨hk_b8, hf⟩ := gd_ (oc_s hf)
      refine lv_ifnonnull (tgt := 28) C.1 C.2.1 dX8_taken_22 (by decide) ?_
      refine lv_aload_n C.1 C.2.1 dX8_taken_28 rfl (lv_at hl 0 rfl) ?_
      refine x_getN (v := .int (si_ σ b8 0)) C K h cl_0 hk_b8 0 (by decide) nf_RX8_375 rfl dX8_taken_29 ?_
      refine lv_iload_n C.1 C.2.1 dX8_taken_32 rfl (lv_at hl 3 rfl) ?_
      obtain ⟨q9, hq_q9, hf⟩ := ob_ hf
      refine x_az K h (x_S C K h [.int (si_ σ b8 0), .int x2] (c_X8_isUnder fu l κ G cy ad H.size σ (si_ σ b8 0) x2 hq_q9) mi_X8_isUnder rfl st_yX8_isUnder ml_RX8_378 ⟨rfl, rfl, Nat.le_trans (Nat.le_of_ble_eq_true rfl) hR.1, Nat.le_trans (Nat.le_of_ble_eq_true rfl) hR.2⟩ hl (Nat.le_of_ble_eq_true rfl) dX8_taken_33 ⟨Nat.zero_le _, Nat.zero_le _⟩ rfl) (fun H locs h hX hz10 => ?_)
      refine lv_if_eq (tgt := 46) C.1 C.2.1 dX8_taken_36 (by decide) (fun c11 => ?_) (fun c11 => ?_)
      · have hf := if_t hf c11
        refine lv_bipush (v := (-13 : Int32)) C.1 C.2.1 dX8_taken_46 (by decide) ?_
        exact x_ri C hr hlk h Ex_.rf (Option.some.inj hf) rfl dX8_taken_48
      · have hf := if_f hf c11
        refine lv_aload_n C.1 C.2.1 dX8_taken_39 rfl (lv_at hl 0 rfl) ?_
        refine x_getN (v := .int (si_ σ b8 1)) C K h cl_0 hk_b8 1 (by decide) nf_RX8_381 rfl dX8_taken_40 ?_
        refine lv_goto (tgt := 48) C.1 C.2.1 dX8_taken_43 (by decide) ?_
        exact x_ri C hr hlk h Ex_.rf (Option.some.inj hf) rfl dX8_taken_48
  · have hf := if_t hf c5
    refine lv_bipush (v := (-2 : Int32)) C.1 C.2.1 dX8_taken_9 (by decide) ?_
    exact x_ri C hr hlk h Ex_.rf (Option.some.inj hf) rfl dX8_taken_11
theorem c_X8_taken (fu : Nat) (l : Launch) (κ : Ka_) (G : va_G) (cy : Nat → ClassId) (ad : Nat → Nat) (sz : Nat) (σ : St_) (a0 : Nat) (x1 : Int32) (x2 : Int32) (hk_a0 : kd_ σ a0 = 8) {q : Int32} (hf : f_X8_taken fu σ a0 x1 x2 = some q) : Met l yX8_taken (Cond.code yX8_taken cX8_taken 4 (some .int) :: wU_) { frames := 2, cells := 0, slots := 0, locals := 44 } (va_Pc [.ref (ad a0), .int x1, .int x2] (Pr_ κ G cy ad σ sz)) (Qi_ G cy ad σ σ sz q) 0 0 (va_A (wl_ cy ad σ) sz) :=
  x_met (by decide) (fun p e R s m below meth c ls hR C hr hlk hin _ K h hl => w_X8_taken fu C K hr hlk ⟨hR.1, hR.2.1⟩ a0 x1 x2 hk_a0 hf s.heap [] ls h hl) (Nat.le_of_ble_eq_true rfl)
