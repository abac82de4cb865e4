-- X1_carpetAt
theorem mi_X1_carpetAt : Mi_ yX1_carpetAt cX1_carpetAt 2 (some (.object "FlownOnceAndLaid$Carpet")) 1 := ⟨co_yX1_carpetAt, in_RX1, by decide, by decide, by decide +kernel⟩
def f_X1_carpetAt (σ : St_) (a0 : Nat) (x1 : Int32) : Option (Option Nat) := if (si_ σ a0 1) ≤ x1 then some none else (dr_ σ 13 (sr_ σ a0 0)).bind fun b3 => if (f_X8_isBelow x1 (nI (ln_ σ b3))) = 0 then some none else (ix_ x1 (ln_ σ b3)).bind fun j7 => (dr_ σ 0 (sr_ σ b3 j7)).bind fun b8 => some (some b8)
set_option maxHeartbeats 4000000 in
set_option maxRecDepth 100000 in
theorem w_X1_carpetAt {p : Program} {l : Launch} {e : Env} {R : Room} {s : State} {m : MethodId} {args : Array Value} {below : List Frame} {meth : Method} {c : Code} {κ : Ka_} {G : va_G} {cy : Nat → ClassId} {ad : Nat → Nat} {sz : Nat} {σ : St_} (C : CallFix p m c cX1_carpetAt 2 s args wU_ RX1) (K : Kx_ κ G cy (va_A (wl_ cy ad σ) sz) s) (hr : meth.sig.returnType = some (.object "FlownOnceAndLaid$Carpet")) (hlk : meth.locks = false) (hR : 1 ≤ R.frames ∧ 21 ≤ R.locals) {q : Option Nat} : ∀ (a0 : Nat) (x1 : Int32), kd_ σ a0 = 1 → f_X1_carpetAt σ a0 x1 = some q → ∀ (H : Heap) (locs : List Loc) (ls : Array Slot), Ht_ G cy (va_A (wl_ cy ad σ) sz) s ad σ H locs → lv_has ls 2 [(0, .ref (ad a0)), (1, .int x1)] → W p l e R s m args below meth c H locs 0 0 (MQ below (Qq_ G cy ad σ σ sz q) args s 0 0 (va_A (wl_ cy ad σ) sz)) (F0 m 0 ls []) := by
  intro a0 x1 hk_a0 hf H locs ls h hl
  have hf : (if (si_ σ a0 1) ≤ x1 then some none else (dr_ σ 13 (sr_ σ a0 0)).bind fun b3 => if (f_X8_isBelow x1 (nI (ln_ σ b3))) = 0 then some none else (ix_ x1 (ln_ σ b3)).bind fun j7 => (dr_ σ 0 (sr_ σ b3 j7)).bind fun b8 => some (some b8)) = some q := hf
  refine lv_iload_n C.1 C.2.1 dX1_carpetAt_0 rfl (lv_at hl 1 rfl) ?_
  refine lv_aload_n C.1 C.2.1 dX1_carpetAt_1 rfl (lv_at hl 0 rfl) ?_
  refine x_get (v := .int (si_ σ a0 1)) C K h cl_1 hk_a0 1 (by decide) fl_RX1_18 rfl dX1_carpetAt_2 ?_
  refine lv_icmp_ge (tgt := 29) C.1 C.2.1 dX1_carpetAt_5 (by decide) (fun c2 => ?_) (fun c2 => ?_)
  · have hf := if_t hf c2
    refine lv_null C.1 C.2.1 dX1_carpetAt_29 ?_
    exact x_rq (v := none) C hr hlk h Ex_.rf (Option.some.inj hf) rfl dX1_carpetAt_30
  · have hf := if_f hf c2
    refine lv_iload_n C.1 C.2.1 dX1_carpetAt_8 rfl (lv_at hl 1 rfl) ?_
    refine lv_aload_n C.1 C.2.1 dX1_carpetAt_9 rfl (lv_at hl 0 rfl) ?_
    obtain ⟨b3, hb_b3, hf⟩ := ob_ hf
    obtain ⟨hq_b3, hk_b3⟩ := dr_in hb_b3
    refine x_get (v := .ref (ad b3)) C K h cl_1 hk_a0 0 (by decide) fl_RX1_11 (hv_r (o := sr_ σ a0 0) rfl hq_b3) dX1_carpetAt_10 ?_
    refine x_rlen C K h 3 (by decide) rfl (fun _ _ _ _ => rfl) hk_b3 dX1_carpetAt_13 ?_
    refine x_az K h (x_SN C K h [.int x1, .int (nI (ln_ σ b3))] (c_X8_isBelow l κ G cy ad H.size σ x1 (nI (ln_ σ b3)) rfl) mi_X8_isBelow rfl st_yX8_isBelow nm_RX1_22 ⟨rfl, rfl, Nat.le_trans (Nat.le_of_ble_eq_true rfl) hR.1, Nat.le_trans (Nat.le_of_ble_eq_true rfl) hR.2⟩ hl (Nat.le_of_ble_eq_true rfl) dX1_carpetAt_14 ⟨Nat.zero_le _, Nat.zero_le _⟩ rfl) (fun H locs h hX hz5 => ?_)
    refine lv_if_eq (tgt := 29) C.1 C.2.1 dX1_carpetAt_17 (by decide) (fun c6 => ?_) (fun c6 => ?_)
    · have hf := if_t hf c6
      refine lv_null C.1 C.2.1 dX1_carpetAt_29 ?_
      exact x_rq (v := none) C hr hlk h Ex_.rf (Option.some.inj hf) rfl dX1_carpetAt_30
    · have hf := if_f hf c6
      refine lv_aload_n C.1 C.2.1 dX1_carpetAt_20 rfl (lv_at hl 0 rfl) ?_
      refine x_get (v := .ref (ad b3)) C K h cl_1 hk_a0 0 (by decide) fl_RX1_11 (hv_r (o := sr_ σ a0 0) rfl hq_b3) dX1_carpetAt_21 ?_
      refine lv_iload_n C.1 C.2.1 dX1_carpetAt_24 rfl (lv_at hl 1 rfl) ?_
      obtain ⟨j7, hj_j7, hf⟩ := ob_ hf
      obtain ⟨b8, hb_b8, hf⟩ := ob_ hf
      obtain ⟨hq_b8, hk_b8⟩ := dr_in hb_b8
      refine x_aaldN C K h 3 (by decide) rfl (fun _ _ _ _ => rfl) hk_b3 hj_j7 hq_b8 dX1_carpetAt_25 ?_
      refine lv_goto (tgt := 30) C.1 C.2.1 dX1_carpetAt_26 (by decide) ?_
      exact x_rq (v := (some b8)) C hr hlk h Ex_.rf (Option.some.inj hf) rfl dX1_carpetAt_30
theorem c_X1_carpetAt (l : Launch) (κ : Ka_) (G : va_G) (cy : Nat → ClassId) (ad : Nat → Nat) (sz : Nat) (σ : St_) (a0 : Nat) (x1 : Int32) (hk_a0 : kd_ σ a0 = 1) {q : Option Nat} (hf : f_X1_carpetAt σ a0 x1 = some q) : Met l yX1_carpetAt (Cond.code yX1_carpetAt cX1_carpetAt 2 (some (.object "FlownOnceAndLaid$Carpet")) :: wU_) { frames := 1, cells := 0, slots := 0, locals := 21 } (va_Pc [.ref (ad a0), .int x1] (Pr_ κ G cy ad σ sz)) (Qq_ G cy ad σ σ sz q) 0 0 (va_A (wl_ cy ad σ) sz) :=
  x_met (by decide) (fun p e R s m below meth c ls hR C hr hlk hin _ K h hl => w_X1_carpetAt C K hr hlk ⟨hR.1, hR.2.1⟩ a0 x1 hk_a0 hf s.heap [] ls h hl) (Nat.le_of_ble_eq_true rfl)
-- X1_add
theorem mi_X1_add : Mi_ yX1_add cX1_add 4 (some .int) 3 := ⟨co_yX1_add, in_RX1, by decide, by decide, by decide +kernel⟩
def f_X1_add (σ : St_) (a0 : Nat) (x1 : Int32) (x2 : Int32) (x3 : Int32) : Option (Int32 × St_) := (dr_ σ 13 (sr_ σ a0 0)).bind fun b4 => if (f_X8_isBelow (si_ σ a0 1) (nI (ln_ σ b4))) = 0 then some ((-4 : Int32), σ) else (ix_ (si_ σ a0 1) (ln_ σ b4)).bind fun j8 => (dr_ σ 0 (sr_ σ b4 j8)).bind fun b9 => some ((si_ (ui_ (f_X0_become σ b9 x1 x2 x3 (0 : Int32)) a0 1 ((si_ (f_X0_become σ b9 x1 x2 x3 (0 : Int32)) a0 1) + (1 : Int32))) a0 1) - (1 : Int32), ui_ (f_X0_become σ b9 x1 x2 x3 (0 : Int32)) a0 1 ((si_ (f_X0_become σ b9 x1 x2 x3 (0 : Int32)) a0 1) + (1 : Int32)))
set_option maxHeartbeats 4000000 in
set_option maxRecDepth 100000 in
theorem w_X1_add {p : Program} {l : Launch} {e : Env} {R : Room} {s : State} {m : MethodId} {args : Array Value} {below : List Frame} {meth : Method} {c : Code} {κ : Ka_} {G : va_G} {cy : Nat → ClassId} {ad : Nat → Nat} {sz : Nat} {σ0 : St_} (C : CallFix p m c cX1_add 4 s args wU_ RX1) (K : Kx_ κ G cy (va_A (wl_ cy ad σ0) sz) s) (hr : meth.sig.returnType = some .int) (hlk : meth.locks = false) (hR : 1 ≤ R.frames ∧ 24 ≤ R.locals) {q : Int32 × St_} : ∀ (σ : St_) (a0 : Nat) (x1 : Int32) (x2 : Int32) (x3 : Int32), Ex_ σ0 σ → kd_ σ a0 = 1 → f_X1_add σ a0 x1 x2 x3 = some q → ∀ (H : Heap) (locs : List Loc) (ls : Array Slot), Ht_ G cy (va_A (wl_ cy ad σ0) sz) s ad σ H locs → lv_has ls 4 [(0, .ref (ad a0)), (1, .int x1), (2, .int x2), (3, .int x3)] → W p l e R s m args below meth c H locs 0 0 (MQ below (Qi_ G cy ad σ0 q.2 sz q.1) args s 0 0 (va_A (wl_ cy ad σ0) sz)) (F0 m 0 ls []) := by
  intro σ a0 x1 x2 x3 hE hk_a0 hf H locs ls h hl
  have hf : ((dr_ σ 13 (sr_ σ a0 0)).bind fun b4 => if (f_X8_isBelow (si_ σ a0 1) (nI (ln_ σ b4))) = 0 then some ((-4 : Int32), σ) else (ix_ (si_ σ a0 1) (ln_ σ b4)).bind fun j8 => (dr_ σ 0 (sr_ σ b4 j8)).bind fun b9 => some ((si_ (ui_ (f_X0_become σ b9 x1 x2 x3 (0 : Int32)) a0 1 ((si_ (f_X0_become σ b9 x1 x2 x3 (0 : Int32)) a0 1) + (1 : Int32))) a0 1) - (1 : Int32), ui_ (f_X0_become σ b9 x1 x2 x3 (0 : Int32)) a0 1 ((si_ (f_X0_become σ b9 x1 x2 x3 (0 : Int32)) a0 1) + (1 : Int32)))) = some q := hf
  refine lv_aload_n C.1 C.2.1 dX1_add_0 rfl (lv_at hl 0 rfl) ?_
  refine x_get (v := .int (si_ σ a0 1)) C K h cl_1 hk_a0 1 (by decide) fl_RX1_18 rfl dX1_add_1 ?_
  refine lv_aload_n C.1 C.2.1 dX1_add_4 rfl (lv_at hl 0 rfl) ?_
  obtain ⟨b4, hb_b4, hf⟩ := ob_ hf
  obtain ⟨hq_b4, hk_b4⟩ := dr_in hb_b4
  refine x_get (v := .ref (ad b4)) C K h cl_1 hk_a0 0 (by decide) fl_RX1_11 (hv_r (o := sr_ σ a0 0) rfl hq_b4) dX1_add_5 ?_
  refine x_rlen C K h 3 (by decide) rfl (fun _ _ _ _ => rfl) hk_b4 dX1_add_8 ?_
  refine x_az K h (x_SN C K h [.int (si_ σ a0 1), .int (nI (ln_ σ b4))] (c_X8_isBelow l κ G cy ad H.size σ (si_ σ a0 1) (nI (ln_ σ b4)) rfl) mi_X8_isBelow rfl st_yX8_isBelow nm_RX1_22 ⟨rfl, rfl, Nat.le_trans (Nat.le_of_ble_eq_true rfl) hR.1, Nat.le_trans (Nat.le_of_ble_eq_true rfl) hR.2⟩ hl (Nat.le_of_ble_eq_true rfl) dX1_add_9 ⟨Nat.zero_le _, Nat.zero_le _⟩ rfl) (fun H locs h hX hz6 => ?_)
  refine lv_if_ne (tgt := 18) C.1 C.2.1 dX1_add_12 (by decide) (fun c7 => ?_) (fun c7 => ?_)
  · have hf := if_f hf c7
    refine lv_aload_n C.1 C.2.1 dX1_add_18 rfl (lv_at hl 0 rfl) ?_
    refine x_get (v := .ref (ad b4)) C K h cl_1 hk_a0 0 (by decide) fl_RX1_11 (hv_r (o := sr_ σ a0 0) rfl hq_b4) dX1_add_19 ?_
    refine lv_aload_n C.1 C.2.1 dX1_add_22 rfl (lv_at hl 0 rfl) ?_
    refine x_get (v := .int (si_ σ a0 1)) C K h cl_1 hk_a0 1 (by decide) fl_RX1_18 rfl dX1_add_23 ?_
    obtain ⟨j8, hj_j8, hf⟩ := ob_ hf
    obtain ⟨b9, hb_b9, hf⟩ := ob_ hf
    obtain ⟨hq_b9, hk_b9⟩ := dr_in hb_b9
    refine x_aaldN C K h 3 (by decide) rfl (fun _ _ _ _ => rfl) hk_b4 hj_j8 hq_b9 dX1_add_26 ?_
    refine lv_iload_n C.1 C.2.1 dX1_add_27 rfl (lv_at hl 1 rfl) ?_
    refine lv_iload_n C.1 C.2.1 dX1_add_28 rfl (lv_at hl 2 rfl) ?_
    refine lv_iload_n C.1 C.2.1 dX1_add_29 rfl (lv_at hl 3 rfl) ?_
    refine lv_iconst (v := (0 : Int32)) C.1 C.2.1 dX1_add_30 (by decide) ?_
    refine x_av K h (x_VN C K h [.int x1, .int x2, .int x3, .int (0 : Int32)] (c_X0_become l κ G cy ad H.size σ b9 x1 x2 x3 (0 : Int32) hk_b9 rfl) mi_X0_become rfl im_yX0_become se_yX0_become nm_RX1_26 cl_0 hk_b9 ⟨rfl, rfl, Nat.le_trans (Nat.le_of_ble_eq_true rfl) hR.1, Nat.le_trans (Nat.le_of_ble_eq_true rfl) hR.2⟩ hl (Nat.le_of_ble_eq_true rfl) dX1_add_31 ⟨Nat.zero_le _, Nat.zero_le _⟩ rfl) (fun H locs h hX => ?_)
    have hE := hE.trans hX
    have hk_a0 := hX.k hk_a0 (by decide)
    refine lv_aload_n C.1 C.2.1 dX1_add_34 rfl (lv_at hl 0 rfl) ?_
    refine lv_dup C.1 C.2.1 dX1_add_35 rfl ?_
    refine x_get (v := .int (si_ (f_X0_become σ b9 x1 x2 x3 (0 : Int32)) a0 1)) C K h cl_1 hk_a0 1 (by decide) fl_RX1_18 rfl dX1_add_36 ?_
    refine lv_iconst (v := (1 : Int32)) C.1 C.2.1 dX1_add_39 (by decide) ?_
    refine lv_iadd C.1 C.2.1 dX1_add_40 ?_
    refine x_putI C K h cl_1 hk_a0 1 (by decide) fl_RX1_18 rfl rfl rfl (Nat.le_of_ble_eq_true rfl) (fun _ _ _ => rfl) dX1_add_41 (fun H locs h => ?_)
    have hE := hE.up (up_i (f_X0_become σ b9 x1 x2 x3 (0 : Int32)) a0 1 ((si_ (f_X0_become σ b9 x1 x2 x3 (0 : Int32)) a0 1) + (1 : Int32)))
    refine lv_aload_n C.1 C.2.1 dX1_add_44 rfl (lv_at hl 0 rfl) ?_
    refine x_get (v := .int (si_ (ui_ (f_X0_become σ b9 x1 x2 x3 (0 : Int32)) a0 1 ((si_ (f_X0_become σ b9 x1 x2 x3 (0 : Int32)) a0 1) + (1 : Int32))) a0 1)) C K h cl_1 hk_a0 1 (by decide) fl_RX1_18 rfl dX1_add_45 ?_
    refine lv_iconst (v := (1 : Int32)) C.1 C.2.1 dX1_add_48 (by decide) ?_
    refine lv_isub C.1 C.2.1 dX1_add_49 ?_
    exact x_ri C hr hlk h hE (pf_1 (Option.some.inj hf)) (pf_2 (Option.some.inj hf)) dX1_add_50
  · have hf := if_t hf c7
    refine lv_bipush (v := (-4 : Int32)) C.1 C.2.1 dX1_add_15 (by decide) ?_
    exact x_ri C hr hlk h hE (pf_1 (Option.some.inj hf)) (pf_2 (Option.some.inj hf)) dX1_add_17
theorem c_X1_add (l : Launch) (κ : Ka_) (G : va_G) (cy : Nat → ClassId) (ad : Nat → Nat) (sz : Nat) (σ : St_) (a0 : Nat) (x1 : Int32) (x2 : Int32) (x3 : Int32) (hk_a0 : kd_ σ a0 = 1) {q : Int32 × St_} (hf : f_X1_add σ a0 x1 x2 x3 = some q) : Met l yX1_add (Cond.code yX1_add cX1_add 4 (some .int) :: wU_) { frames := 1, cells := 0, slots := 0, locals := 24 } (va_Pc [.ref (ad a0), .int x1, .int x2, .int x3] (Pr_ κ G cy ad σ sz)) (Qi_ G cy ad σ q.2 sz q.1) 0 0 (va_A (wl_ cy ad σ) sz) :=
  x_met (by decide) (fun p e R s m below meth c ls hR C hr hlk hin _ K h hl => w_X1_add C K hr hlk ⟨hR.1, hR.2.1⟩ σ a0 x1 x2 x3 Ex_.rf hk_a0 hf s.heap [] ls h hl) (Nat.le_of_ble_eq_true rfl)
-- X1_wallOn
theorem mi_X1_wallOn : Mi_ yX1_wallOn cX1_wallOn 2 (some .int) 1 := ⟨co_yX1_wallOn, in_RX1, by decide, by decide, by decide +kernel⟩
def f_X1_wallOn (σ : St_) (a0 : Nat) (x1 : Int32) : Int32 := ((((sl_ σ a0 4).toUInt64 >>> (x1.toInt64.toUInt64 &&& Int64.toUInt64 63)).toInt64) &&& (1 : Int64)).toInt32
set_option maxHeartbeats 4000000 in
set_option maxRecDepth 100000 in
theorem w_X1_wallOn {p : Program} {l : Launch} {e : Env} {R : Room} {s : State} {m : MethodId} {args : Array Value} {below : List Frame} {meth : Method} {c : Code} {κ : Ka_} {G : va_G} {cy : Nat → ClassId} {ad : Nat → Nat} {sz : Nat} {σ : St_} (C : CallFix p m c cX1_wallOn 2 s args wU_ RX1) (K : Kx_ κ G cy (va_A (wl_ cy ad σ) sz) s) (hr : meth.sig.returnType = some .int) (hlk : meth.locks = false) (hR : 0 ≤ R.frames ∧ 0 ≤ R.locals) {q : Int32} : ∀ (a0 : Nat) (x1 : Int32), kd_ σ a0 = 1 → f_X1_wallOn σ a0 x1 = q → ∀ (H : Heap) (locs : List Loc) (ls : Array Slot), Ht_ G cy (va_A (wl_ cy ad σ) sz) s ad σ H locs → lv_has ls 2 [(0, .ref (ad a0)), (1, .int x1)] → W p l e R s m args below meth c H locs 0 0 (MQ below (Qi_ G cy ad σ σ sz q) args s 0 0 (va_A (wl_ cy ad σ) sz)) (F0 m 0 ls []) := by
  intro a0 x1 hk_a0 hf H locs ls h hl
  have hf : (((((sl_ σ a0 4).toUInt64 >>> (x1.toInt64.toUInt64 &&& Int64.toUInt64 63)).toInt64) &&& (1 : Int64)).toInt32) = q := hf
  refine lv_aload_n C.1 C.2.1 dX1_wallOn_0 rfl (lv_at hl 0 rfl) ?_
  refine x_get (v := .long (sl_ σ a0 4)) C K h cl_1 hk_a0 4 (by decide) fl_RX1_30 rfl dX1_wallOn_1 ?_
  refine lv_iload_n C.1 C.2.1 dX1_wallOn_4 rfl (lv_at hl 1 rfl) ?_
  refine lv_lushr C.1 C.2.1 dX1_wallOn_5 rfl ?_
  refine lv_lconst (v := (1 : Int64)) C.1 C.2.1 dX1_wallOn_6 (by decide) ?_
  refine lv_land C.1 C.2.1 dX1_wallOn_7 ?_
  refine lv_l2i C.1 C.2.1 dX1_wallOn_8 rfl ?_
  exact x_ri C hr hlk h Ex_.rf hf rfl dX1_wallOn_9
theorem c_X1_wallOn (l : Launch) (κ : Ka_) (G : va_G) (cy : Nat → ClassId) (ad : Nat → Nat) (sz : Nat) (σ : St_) (a0 : Nat) (x1 : Int32) (hk_a0 : kd_ σ a0 = 1) {q : Int32} (hf : f_X1_wallOn σ a0 x1 = q) : Met l yX1_wallOn (Cond.code yX1_wallOn cX1_wallOn 2 (some .int) :: wU_) { frames := 0, cells := 0, slots := 0, locals := 0 } (va_Pc [.ref (ad a0), .int x1] (Pr_ κ G cy ad σ sz)) (Qi_ G cy ad σ σ sz q) 0 0 (va_A (wl_ cy ad σ) sz) :=
  x_met (by decide) (fun p e R s m below meth c ls hR C hr hlk hin _ K h hl => w_X1_wallOn C K hr hlk ⟨hR.1, hR.2.1⟩ a0 x1 hk_a0 hf s.heap [] ls h hl) (Nat.le_of_ble_eq_true rfl)
-- X1_putWall
theorem mi_X1_putWall : Mi_ yX1_putWall cX1_putWall 3 none 2 := ⟨co_yX1_putWall, in_RX1, by decide, by decide, by decide +kernel⟩
def f_X1_putWall (σ : St_) (a0 : Nat) (x1 : Int32) (x2 : Int32) : St_ := if x2 = (1 : Int32) then ul_ σ a0 4 ((sl_ σ a0 4) ||| ((1 : Int64) <<< (x1.toInt64 &&& 63))) else ul_ σ a0 4 ((sl_ σ a0 4) &&& (((1 : Int64) <<< (x1.toInt64 &&& 63)) ^^^ (-1 : Int64)))
set_option maxHeartbeats 4000000 in
set_option maxRecDepth 100000 in
theorem w_X1_putWall {p : Program} {l : Launch} {e : Env} {R : Room} {s : State} {m : MethodId} {args : Array Value} {below : List Frame} {meth : Method} {c : Code} {κ : Ka_} {G : va_G} {cy : Nat → ClassId} {ad : Nat → Nat} {sz : Nat} {σ0 : St_} (C : CallFix p m c cX1_putWall 3 s args wU_ RX1) (K : Kx_ κ G cy (va_A (wl_ cy ad σ0) sz) s) (hr : meth.sig.returnType = none) (hlk : meth.locks = false) (hR : 0 ≤ R.frames ∧ 0 ≤ R.locals) {q : St_} : ∀ (σ : St_) (a0 : Nat) (x1 : Int32) (x2 : Int32), Ex_ σ0 σ → kd_ σ a0 = 1 → f_X1_putWall σ a0 x1 x2 = q → ∀ (H : Heap) (locs : List Loc) (ls : Array Slot), Ht_ G cy (va_A (wl_ cy ad σ0) sz) s ad σ H locs → lv_has ls 3 [(0, .ref (ad a0)), (1, .int x1), (2, .int x2)] → W p l e R s m args below meth c H locs 0 0 (MQ below (Qv_ G cy ad σ0 q sz) args s 0 0 (va_A (wl_ cy ad σ0) sz)) (F0 m 0 ls []) := by
  intro σ a0 x1 x2 hE hk_a0 hf H locs ls h hl
  have hf : (if x2 = (1 : Int32) then ul_ σ a0 4 ((sl_ σ a0 4) ||| ((1 : Int64) <<< (x1.toInt64 &&& 63))) else ul_ σ a0 4 ((sl_ σ a0 4) &&& (((1 : Int64) <<< (x1.toInt64 &&& 63)) ^^^ (-1 : Int64)))) = q := hf
  refine lv_aload_n C.1 C.2.1 dX1_putWall_0 rfl (lv_at hl 0 rfl) ?_
  refine lv_iload_n C.1 C.2.1 dX1_putWall_1 rfl (lv_at hl 2 rfl) ?_
  refine lv_iconst (v := (1 : Int32)) C.1 C.2.1 dX1_putWall_2 (by decide) ?_
  refine lv_icmp_ne (tgt := 17) C.1 C.2.1 dX1_putWall_3 (by decide) (fun c3 => ?_) (fun c3 => ?_)
  · have hf := if_f hf c3
    refine lv_aload_n C.1 C.2.1 dX1_putWall_17 rfl (lv_at hl 0 rfl) ?_
    refine x_get (v := .long (sl_ σ a0 4)) C K h cl_1 hk_a0 4 (by decide) fl_RX1_30 rfl dX1_putWall_18 ?_
    refine lv_lconst (v := (1 : Int64)) C.1 C.2.1 dX1_putWall_21 (by decide) ?_
    refine lv_iload_n C.1 C.2.1 dX1_putWall_22 rfl (lv_at hl 1 rfl) ?_
    refine lv_lshl C.1 C.2.1 dX1_putWall_23 rfl ?_
    refine lv_ldc2 (v := (-1 : Int64)) C.1 C.2.1 C.2.2.2.1 (C.2.2.2.2 _ cl_RX1_34) dX1_putWall_24 ?_
    refine lv_lxor C.1 C.2.1 dX1_putWall_27 ?_
    refine lv_land C.1 C.2.1 dX1_putWall_28 ?_
    refine x_putL C K h cl_1 hk_a0 4 (by decide) fl_RX1_30 rfl rfl rfl (Nat.le_of_ble_eq_true rfl) (fun _ _ _ => rfl) dX1_putWall_29 (fun H locs h => ?_)
    have hE := hE.up (up_l σ a0 4 ((sl_ σ a0 4) &&& (((1 : Int64) <<< (x1.toInt64 &&& 63)) ^^^ (-1 : Int64))))
    exact x_rv C hr hlk h hE hf dX1_putWall_32
  · have hf := if_t hf c3
    refine lv_aload_n C.1 C.2.1 dX1_putWall_6 rfl (lv_at hl 0 rfl) ?_
    refine x_get (v := .long (sl_ σ a0 4)) C K h cl_1 hk_a0 4 (by decide) fl_RX1_30 rfl dX1_putWall_7 ?_
    refine lv_lconst (v := (1 : Int64)) C.1 C.2.1 dX1_putWall_10 (by decide) ?_
    refine lv_iload_n C.1 C.2.1 dX1_putWall_11 rfl (lv_at hl 1 rfl) ?_
    refine lv_lshl C.1 C.2.1 dX1_putWall_12 rfl ?_
    refine lv_lor C.1 C.2.1 dX1_putWall_13 ?_
    refine lv_goto (tgt := 29) C.1 C.2.1 dX1_putWall_14 (by decide) ?_
    refine x_putL C K h cl_1 hk_a0 4 (by decide) fl_RX1_30 rfl rfl rfl (Nat.le_of_ble_eq_true rfl) (fun _ _ _ => rfl) dX1_putWall_29 (fun H locs h => ?_)
    have hE := hE.up (up_l σ a0 4 ((sl_ σ a0 4) ||| ((1 : Int64) <<< (x1.toInt64 &&& 63))))
    exact x_rv C hr hlk h hE hf dX1_putWall_32
theorem c_X1_putWall (l : Launch) (κ : Ka_) (G : va_G) (cy : Nat → ClassId) (ad : Nat → Nat) (sz : Nat) (σ : St_) (a0 : Nat) (x1 : Int32) (x2 : Int32) (hk_a0 : kd_ σ a0 = 1) {q : St_} (hf : f_X1_putWall σ a0 x1 x2 = q) : Met l yX1_putWall (Cond.code yX1_putWall cX1_putWall 3 none :: wU_) { frames := 0, cells := 0, slots := 0, locals := 0 } (va_Pc [.ref (ad a0), .int x1, .int x2] (Pr_ κ G cy ad σ sz)) (Qv_ G cy ad σ q sz) 0 0 (va_A (wl_ cy ad σ) sz) :=
  x_met (by decide) (fun p e R s m below meth c ls hR C hr hlk hin _ K h hl => w_X1_putWall C K hr hlk ⟨hR.1, hR.2.1⟩ σ a0 x1 x2 Ex_.rf hk_a0 hf s.heap [] ls h hl) (Nat.le_of_ble_eq_true rfl)
-- X1_flownCount
theorem mi_X1_flownCount : Mi_ yX1_flownCount cX1_flownCount 3 (some .int) 0 := ⟨co_yX1_flownCount, in_RX1, by decide, by decide, by decide +kernel⟩
def f_X1_flownCount_4 (fu : Nat) (σ : St_) : Nat → Nat → Int32 → Int32 → Option Int32
  | 0 => fun _ _ _ => none
  | n + 1 => fun v0  v1  v2 => if (si_ σ v0 1) ≤ v2 then some v1 else (dr_ σ 13 (sr_ σ v0 0)).bind fun b2 => if (nI (ln_ σ b2)) ≤ v2 then some v1 else (ix_ v2 (ln_ σ b2)).bind fun j4 => (dr_ σ 0 (sr_ σ b2 j4)).bind fun b5 => (f_X1_flownCount_4 fu σ n) v0 (v1 + (si_ σ b5 3)) (v2 + (1 : Int32))
set_option maxHeartbeats 4000000 in
set_option maxRecDepth 100000 in
theorem w_X1_flownCount_4 {p : Program} {l : Launch} {e : Env} {R : Room} {s : State} {m : MethodId} {args : Array Value} {below : List Frame} {meth : Method} {c : Code} {κ : Ka_} {G : va_G} {cy : Nat → ClassId} {ad : Nat → Nat} {sz : Nat} {σ : St_} (fu : Nat) (C : CallFix p m c cX1_flownCount 3 s args wU_ RX1) (K : Kx_ κ G cy (va_A (wl_ cy ad σ) sz) s) (hr : meth.sig.returnType = some .int) (hlk : meth.locks = false) (hR : 0 ≤ R.frames ∧ 0 ≤ R.locals) {q : Int32} : ∀ n : Nat, ∀ (v0 : Nat) (v1 : Int32) (v2 : Int32), kd_ σ v0 = 1 → f_X1_flownCount_4 fu σ n v0 v1 v2 = some q → ∀ (H : Heap) (locs : List Loc) (ls : Array Slot), Ht_ G cy (va_A (wl_ cy ad σ) sz) s ad σ H locs → lv_has ls 3 [(0, .ref (ad v0)), (1, .int v1), (2, .int v2)] → W p l e R s m args below meth c H locs 0 0 (MQ below (Qi_ G cy ad σ σ sz q) args s 0 0 (va_A (wl_ cy ad σ) sz)) (F0 m 4 ls []) := by
  intro n
  induction n with
  | zero =>
    intro v0 v1 v2 hk_v0 hf H locs ls h hl
    cases hf
  | succ n ih =>
    intro v0 v1 v2 hk_v0 hf H locs ls h hl
    have hf : (if (si_ σ v0 1) ≤ v2 then some v1 else (dr_ σ 13 (sr_ σ v0 0)).bind fun b2 => if (nI (ln_ σ b2)) ≤ v2 then some v1 else (ix_ v2 (ln_ σ b2)).bind fun j4 => (dr_ σ 0 (sr_ σ b2 j4)).bind fun b5 => (f_X1_flownCount_4 fu σ n) v0 (v1 + (si_ σ b5 3)) (v2 + (1 : Int32))) = some q := hf
    refine lv_iload_n C.1 C.2.1 dX1_flownCount_4 rfl (lv_at hl 2 rfl) ?_
    refine lv_aload_n C.1 C.2.1 dX1_flownCount_5 rfl (lv_at hl 0 rfl) ?_
    refine x_get (v := .int (si_ σ v0 1)) C K h cl_1 hk_v0 1 (by decide) fl_RX1_18 rfl dX1_flownCount_6 ?_
    refine lv_icmp_ge (tgt := 39) C.1 C.2.1 dX1_flownCount_9 (by decide) (fun c1 => ?_) (fun c1 => ?_)
    · have hf := if_t hf c1
      refine lv_iload_n C.1 C.2.1 dX1_flownCount_39 rfl (lv_at hl 1 rfl) ?_
      exact x_ri C hr hlk h Ex_.rf (Option.some.inj hf) rfl dX1_flownCount_40
    · have hf := if_f hf c1
      refine lv_iload_n C.1 C.2.1 dX1_flownCount_12 rfl (lv_at hl 2 rfl) ?_
      refine lv_aload_n C.1 C.2.1 dX1_flownCount_13 rfl (lv_at hl 0 rfl) ?_
      obtain ⟨b2, hb_b2, hf⟩ := ob_ hf
      obtain ⟨hq_b2, hk_b2⟩ := dr_in hb_b2
      refine x_get (v := .ref (ad b2)) C K h cl_1 hk_v0 0 (by decide) fl_RX1_11 (hv_r (o := sr_ σ v0 0) rfl hq_b2) dX1_flownCount_14 ?_
      refine x_rlen C K h 3 (by decide) rfl (fun _ _ _ _ => rfl) hk_b2 dX1_flownCount_17 ?_
      refine lv_icmp_ge (tgt := 39) C.1 C.2.1 dX1_flownCount_18 (by decide) (fun c3 => ?_) (fun c3 => ?_)
      · have hf := if_t hf c3
        refine lv_iload_n C.1 C.2.1 dX1_flownCount_39 rfl (lv_at hl 1 rfl) ?_
        exact x_ri C hr hlk h Ex_.rf (Option.some.inj hf) rfl dX1_flownCount_40
      · have hf := if_f hf c3
        refine lv_iload_n C.1 C.2.1 dX1_flownCount_21 rfl (lv_at hl 1 rfl) ?_
        refine lv_aload_n C.1 C.2.1 dX1_flownCount_22 rfl (lv_at hl 0 rfl) ?_
        refine x_get (v := .ref (ad b2)) C K h cl_1 hk_v0 0 (by decide) fl_RX1_11 (hv_r (o := sr_ σ v0 0) rfl hq_b2) dX1_flownCount_23 ?_
        refine lv_iload_n C.1 C.2.1 dX1_flownCount_26 rfl (lv_at hl 2 rfl) ?_
        obtain ⟨j4, hj_j4, hf⟩ := ob_ hf
        obtain ⟨b5, hb_b5, hf⟩ := ob_ hf
        obtain ⟨hq_b5, hk_b5⟩ := dr_in hb_b5
        refine x_aaldN C K h 3 (by decide) rfl (fun _ _ _ _ => rfl) hk_b2 hj_j4 hq_b5 dX1_flownCount_27 ?_
        refine x_getN (v := .int (si_ σ b5 3)) C K h cl_0 hk_b5 3 (by decide) nf_RX1_36 rfl dX1_flownCount_28 ?_
        refine lv_iadd C.1 C.2.1 dX1_flownCount_31 ?_
        refine lv_istore_n (i := 1) (lv' := [(1, .int (v1 + (si_ σ b5 3))), (0, .ref (ad v0)), (2, .int v2)]) C.1 C.2.1 dX1_flownCount_32 rfl hl (by decide) rfl (fun ls hl => ?_)
        refine lv_iinc (v := v2 + (1 : Int32)) (lv' := [(2, .int (v2 + (1 : Int32))), (1, .int (v1 + (si_ σ b5 3))), (0, .ref (ad v0))]) C.1 C.2.1 dX1_flownCount_33 hl (k := 2) rfl rfl (by decide) rfl (fun ls hl => ?_)
        refine lv_goto (tgt := 4) C.1 C.2.1 dX1_flownCount_36 (by decide) ?_
        exact ih v0 (v1 + (si_ σ b5 3)) (v2 + (1 : Int32)) hk_v0 hf _ _ _ h (lv_sub hl [2, 1, 0] rfl)
def f_X1_flownCount (fu : Nat) (σ : St_) (a0 : Nat) : Option Int32 := f_X1_flownCount_4 fu σ fu a0 (0 : Int32) (0 : Int32)
set_option maxHeartbeats 4000000 in
set_option maxRecDepth 100000 in
theorem w_X1_flownCount {p : Program} {l : Launch} {e : Env} {R : Room} {s : State} {m : MethodId} {args : Array Value} {below : List Frame} {meth : Method} {c : Code} {κ : Ka_} {G : va_G} {cy : Nat → ClassId} {ad : Nat → Nat} {sz : Nat} {σ : St_} (fu : Nat) (C : CallFix p m c cX1_flownCount 3 s args wU_ RX1) (K : Kx_ κ G cy (va_A (wl_ cy ad σ) sz) s) (hr : meth.sig.returnType = some .int) (hlk : meth.locks = false) (hR : 0 ≤ R.frames ∧ 0 ≤ R.locals) {q : Int32} : ∀ (a0 : Nat), kd_ σ a0 = 1 → f_X1_flownCount fu σ a0 = some q → ∀ (H : Heap) (locs : List Loc) (ls : Array Slot), Ht_ G cy (va_A (wl_ cy ad σ) sz) s ad σ H locs → lv_has ls 3 [(0, .ref (ad a0))] → W p l e R s m args below meth c H locs 0 0 (MQ below (Qi_ G cy ad σ σ sz q) args s 0 0 (va_A (wl_ cy ad σ) sz)) (F0 m 0 ls []) := by
  intro a0 hk_a0 hf H locs ls h hl
  have hf : (f_X1_flownCount_4 fu σ fu a0 (0 : Int32) (0 : Int32)) = some q := hf
  refine lv_iconst (v := (0 : Int32)) C.1 C.2.1 dX1_flownCount_0 (by decide) ?_
  refine lv_istore_n (i := 1) (lv' := [(1, .int (0 : Int32)), (0, .ref (ad a0))]) C.1 C.2.1 dX1_flownCount_1 rfl hl (by decide) rfl (fun ls hl => ?_)
  refine lv_iconst (v := (0 : Int32)) C.1 C.2.1 dX1_flownCount_2 (by decide) ?_
  refine lv_istore_n (i := 2) (lv' := [(2, .int (0 : Int32)), (1, .int (0 : Int32)), (0, .ref (ad a0))]) C.1 C.2.1 dX1_flownCount_3 rfl hl (by decide) rfl (fun ls hl => ?_)
  exact w_X1_flownCount_4 fu C K hr hlk hR fu a0 (0 : Int32) (0 : Int32) hk_a0 hf _ _ _ h (lv_sub hl [2, 1, 0] rfl)
theorem c_X1_flownCount (fu : Nat) (l : Launch) (κ : Ka_) (G : va_G) (cy : Nat → ClassId) (ad : Nat → Nat) (sz : Nat) (σ : St_) (a0 : Nat) (hk_a0 : kd_ σ a0 = 1) {q : Int32} (hf : f_X1_flownCount fu σ a0 = some q) : Met l yX1_flownCount (Cond.code yX1_flownCount cX1_flownCount 3 (some .int) :: wU_) { frames := 0, cells := 0, slots := 0, locals := 0 } (va_Pc [.ref (ad a0)] (Pr_ κ G cy ad σ sz)) (Qi_ G cy ad σ σ sz q) 0 0 (va_A (wl_ cy ad σ) sz) :=
  x_met (by decide) (fun p e R s m below meth c ls hR C hr hlk hin _ K h hl => w_X1_flownCount fu C K hr hlk ⟨hR.1, hR.2.1⟩ a0 hk_a0 hf s.heap [] ls h hl) (Nat.le_of_ble_eq_true rfl)
-- X1_distance
theorem mi_X1_distance : Mi_ yX1_distance cX1_distance 2 (some .int) 2 := ⟨co_yX1_distance, in_RX1, by decide, by decide, by decide +kernel⟩
def f_X1_distance (x1 : Int32) (x2 : Int32) : Int32 := (if 0 ≤ ((x1 - x1 / (6 : Int32) * (6 : Int32)) - (x2 - x2 / (6 : Int32) * (6 : Int32))) then ((x1 - x1 / (6 : Int32) * (6 : Int32)) - (x2 - x2 / (6 : Int32) * (6 : Int32))) else 0 - ((x1 - x1 / (6 : Int32) * (6 : Int32)) - (x2 - x2 / (6 : Int32) * (6 : Int32)))) + (if 0 ≤ ((x1 / (6 : Int32)) - (x2 / (6 : Int32))) then ((x1 / (6 : Int32)) - (x2 / (6 : Int32))) else 0 - ((x1 / (6 : Int32)) - (x2 / (6 : Int32))))
set_option maxHeartbeats 4000000 in
set_option maxRecDepth 100000 in
theorem w_X1_distance {p : Program} {l : Launch} {e : Env} {R : Room} {s : State} {m : MethodId} {args : Array Value} {below : List Frame} {meth : Method} {c : Code} {κ : Ka_} {G : va_G} {cy : Nat → ClassId} {ad : Nat → Nat} {sz : Nat} {σ : St_} (C : CallFix p m c cX1_distance 2 s args wU_ RX1) (K : Kx_ κ G cy (va_A (wl_ cy ad σ) sz) s) (hr : meth.sig.returnType = some .int) (hlk : meth.locks = false) (hR : 1 ≤ R.frames ∧ 30 ≤ R.locals) {q : Int32} : ∀ (x1 : Int32) (x2 : Int32), f_X1_distance x1 x2 = q → ∀ (H : Heap) (locs : List Loc) (ls : Array Slot), Ht_ G cy (va_A (wl_ cy ad σ) sz) s ad σ H locs → lv_has ls 2 [(0, .int x1), (1, .int x2)] → W p l e R s m args below meth c H locs 0 0 (MQ below (Qi_ G cy ad σ σ sz q) args s 0 0 (va_A (wl_ cy ad σ) sz)) (F0 m 0 ls []) := by
  intro x1 x2 hf H locs ls h hl
  have hf : ((if 0 ≤ ((x1 - x1 / (6 : Int32) * (6 : Int32)) - (x2 - x2 / (6 : Int32) * (6 : Int32))) then ((x1 - x1 / (6 : Int32) * (6 : Int32)) - (x2 - x2 / (6 : Int32) * (6 : Int32))) else 0 - ((x1 - x1 / (6 : Int32) * (6 : Int32)) - (x2 - x2 / (6 : Int32) * (6 : Int32)))) + (if 0 ≤ ((x1 / (6 : Int32)) - (x2 / (6 : Int32))) then ((x1 / (6 : Int32)) - (x2 / (6 : Int32))) else 0 - ((x1 / (6 : Int32)) - (x2 / (6 : Int32))))) = q := hf
  refine lv_iload_n C.1 C.2.1 dX1_distance_0 rfl (lv_at hl 0 rfl) ?_
  refine lv_bipush (v := (6 : Int32)) C.1 C.2.1 dX1_distance_1 (by decide) ?_
  refine lv_irem C.1 C.2.1 dX1_distance_3 (by decide) ?_
  refine lv_iload_n C.1 C.2.1 dX1_distance_4 rfl (lv_at hl 1 rfl) ?_
  refine lv_bipush (v := (6 : Int32)) C.1 C.2.1 dX1_distance_5 (by decide) ?_
  refine lv_irem C.1 C.2.1 dX1_distance_7 (by decide) ?_
  refine lv_isub C.1 C.2.1 dX1_distance_8 ?_
  refine va_mabs C.1 C.2.1 (C.2.2.1.trans hl.1.symm) C.2.2.2.1 (C.2.2.2.2 _ ml_RX1_50) (C.2.2.2.2 _ st_yJ9_abs_0f7a4) (C.2.2.2.2 _ in_RJ9) (C.2.2.2.2 _ co_yJ9_abs_0f7a4) (Nat.le_trans (by decide) hR.1) (Nat.le_trans (Nat.le_of_ble_eq_true rfl) hR.2) (Nat.zero_le _) (Nat.zero_le _) dX1_distance_9 ?_
  refine lv_iload_n C.1 C.2.1 dX1_distance_12 rfl (lv_at hl 0 rfl) ?_
  refine lv_bipush (v := (6 : Int32)) C.1 C.2.1 dX1_distance_13 (by decide) ?_
  refine lv_idiv C.1 C.2.1 dX1_distance_15 (by decide) ?_
  refine lv_iload_n C.1 C.2.1 dX1_distance_16 rfl (lv_at hl 1 rfl) ?_
  refine lv_bipush (v := (6 : Int32)) C.1 C.2.1 dX1_distance_17 (by decide) ?_
  refine lv_idiv C.1 C.2.1 dX1_distance_19 (by decide) ?_
  refine lv_isub C.1 C.2.1 dX1_distance_20 ?_
  refine va_mabs C.1 C.2.1 (C.2.2.1.trans hl.1.symm) C.2.2.2.1 (C.2.2.2.2 _ ml_RX1_50) (C.2.2.2.2 _ st_yJ9_abs_0f7a4) (C.2.2.2.2 _ in_RJ9) (C.2.2.2.2 _ co_yJ9_abs_0f7a4) (Nat.le_trans (by decide) hR.1) (Nat.le_trans (Nat.le_of_ble_eq_true rfl) hR.2) (Nat.zero_le _) (Nat.zero_le _) dX1_distance_21 ?_
  refine lv_iadd C.1 C.2.1 dX1_distance_24 ?_
  exact x_ri C hr hlk h Ex_.rf hf rfl dX1_distance_25
theorem c_X1_distance (l : Launch) (κ : Ka_) (G : va_G) (cy : Nat → ClassId) (ad : Nat → Nat) (sz : Nat) (σ : St_) (x1 : Int32) (x2 : Int32) {q : Int32} (hf : f_X1_distance x1 x2 = q) : Met l yX1_distance (Cond.code yX1_distance cX1_distance 2 (some .int) :: wU_) { frames := 1, cells := 0, slots := 0, locals := 30 } (va_Pc [.int x1, .int x2] (Pr_ κ G cy ad σ sz)) (Qi_ G cy ad σ σ sz q) 0 0 (va_A (wl_ cy ad σ) sz) :=
  x_met (by decide) (fun p e R s m below meth c ls hR C hr hlk hin _ K h hl => w_X1_distance C K hr hlk ⟨hR.1, hR.2.1⟩ x1 x2 hf s.heap [] ls h hl) (Nat.le_of_ble_eq_true rfl)
-- X1_nearTo
theorem mi_X1_nearTo : Mi_ yX1_nearTo cX1_nearTo 6 (some .int) 1 := ⟨co_yX1_nearTo, in_RX1, by decide, by decide, by decide +kernel⟩
def f_X1_nearTo_11 (fu : Nat) (σ : St_) : Nat → Nat → Int32 → Option Nat → Int32 → Int32 → Option Int32
  | 0 => fun _ _ _ _ _ => none
  | n + 1 => fun v0  v1  v2  v3  v4 => (dr_ σ 13 (sr_ σ v0 0)).bind fun b1 => if (nI (ln_ σ b1)) ≤ v4 then some v3 else (f_X1_carpetAt σ v0 v4).bind fun q3 => if v4 = v1 then (f_X1_nearTo_11 fu σ n) v0 v1 v2 v3 (v4 + (1 : Int32)) else oc_ v2 ((f_X1_nearTo_11 fu σ n) v0 v1 none v3 (v4 + (1 : Int32))) (fun b5 => if kd_ σ b5 = 0 then oc_ q3 ((f_X1_nearTo_11 fu σ n) v0 v1 (some b5) v3 (v4 + (1 : Int32))) (fun b6 => if kd_ σ b6 = 0 then if (1 : Int32) < (f_X1_distance (si_ σ b5 2) (si_ σ b6 2)) then (f_X1_nearTo_11 fu σ n) v0 v1 (some b5) (v3 + (0 : Int32)) (v4 + (1 : Int32)) else (f_X1_nearTo_11 fu σ n) v0 v1 (some b5) (v3 + (1 : Int32)) (v4 + (1 : Int32)) else none) else none)
set_option maxHeartbeats 4000000 in
set_option maxRecDepth 100000 in
theorem w_X1_nearTo_11 {p : Program} {l : Launch} {e : Env} {R : Room} {s : State} {m : MethodId} {args : Array Value} {below : List Frame} {meth : Method} {c : Code} {κ : Ka_} {G : va_G} {cy : Nat → ClassId} {ad : Nat → Nat} {sz : Nat} {σ : St_} (fu : Nat) (C : CallFix p m c cX1_nearTo 6 s args wU_ RX1) (K : Kx_ κ G cy (va_A (wl_ cy ad σ) sz) s) (hr : meth.sig.returnType = some .int) (hlk : meth.locks = false) (hR : 2 ≤ R.frames ∧ 51 ≤ R.locals) {q : Int32} : ∀ n : Nat, ∀ (v0 : Nat) (v1 : Int32) (v2 : Option Nat) (v3 : Int32) (v4 : Int32), kd_ σ v0 = 1 → f_X1_nearTo_11 fu σ n v0 v1 v2 v3 v4 = some q → ∀ (H : Heap) (locs : List Loc) (ls : Array Slot), Ht_ G cy (va_A (wl_ cy ad σ) sz) s ad σ H locs → lv_has ls 6 [(0, .ref (ad v0)), (1, .int v1), (2, rv_ ad v2), (3, .int v3), (4, .int v4)] → W p l e R s m args below meth c H locs 0 0 (MQ below (Qi_ G cy ad σ σ sz q) args s 0 0 (va_A (wl_ cy ad σ) sz)) (F0 m 11 ls []) := by
  intro n
  induction n with
  | zero =>
    intro v0 v1 v2 v3 v4 hk_v0 hf H locs ls h hl
    cases hf
  | succ n ih =>
    intro v0 v1 v2 v3 v4 hk_v0 hf H locs ls h hl
    have hf : ((dr_ σ 13 (sr_ σ v0 0)).bind fun b1 => if (nI (ln_ σ b1)) ≤ v4 then some v3 else (f_X1_carpetAt σ v0 v4).bind fun q3 => if v4 = v1 then (f_X1_nearTo_11 fu σ n) v0 v1 v2 v3 (v4 + (1 : Int32)) else oc_ v2 ((f_X1_nearTo_11 fu σ n) v0 v1 none v3 (v4 + (1 : Int32))) (fun b5 => if kd_ σ b5 = 0 then oc_ q3 ((f_X1_nearTo_11 fu σ n) v0 v1 (some b5) v3 (v4 + (1 : Int32))) (fun b6 => if kd_ σ b6 = 0 then if (1 : Int32) < (f_X1_distance (si_ σ b5 2) (si_ σ b6 2)) then (f_X1_nearTo_11 fu σ n) v0 v1 (some b5) (v3 + (0 : Int32)) (v4 + (1 : Int32)) else (f_X1_nearTo_11 fu σ n) v0 v1 (some b5) (v3 + (1 : Int32)) (v4 + (1 : Int32)) else none) else none)) = some q := hf
    refine lv_iload C.1 C.2.1 dX1_nearTo_11 (lv_at hl 4 rfl) ?_
    refine lv_aload_n C.1 C.2.1 dX1_nearTo_13 rfl (lv_at hl 0 rfl) ?_
    obtain ⟨b1, hb_b1, hf⟩ := ob_ hf
    obtain ⟨hq_b1, hk_b1⟩ := dr_in hb_b1
    refine x_get (v := .ref (ad b1)) C K h cl_1 hk_v0 0 (by decide) fl_RX1_11 (hv_r (o := sr_ σ v0 0) rfl hq_b1) dX1_nearTo_14 ?_
    refine x_rlen C K h 3 (by decide) rfl (fun _ _ _ _ => rfl) hk_b1 dX1_nearTo_17 ?_
    refine lv_icmp_ge (tgt := 74) C.1 C.2.1 dX1_nearTo_18 (by decide) (fun c2 => ?_) (fun c2 => ?_)
    · have hf := if_t hf c2
      refine lv_iload_n C.1 C.2.1 dX1_nearTo_74 rfl (lv_at hl 3 rfl) ?_
      exact x_ri C hr hlk h Ex_.rf (Option.some.inj hf) rfl dX1_nearTo_75
    · have hf := if_f hf c2
      refine lv_aload_n C.1 C.2.1 dX1_nearTo_21 rfl (lv_at hl 0 rfl) ?_
      refine lv_iload C.1 C.2.1 dX1_nearTo_22 (lv_at hl 4 rfl) ?_
      obtain ⟨q3, hq_q3, hf⟩ := ob_ hf
      refine x_aq K h (x_V C K h [.int v4] (c_X1_carpetAt l κ G cy ad H.size σ v0 v4 hk_v0 hq_q3) mi_X1_carpetAt rfl im_yX1_carpetAt se_yX1_carpetAt ml_RX1_39 cl_1 hk_v0 ⟨rfl, rfl, Nat.le_trans (Nat.le_of_ble_eq_true rfl) hR.1, Nat.le_trans (Nat.le_of_ble_eq_true rfl) hR.2⟩ hl (Nat.le_of_ble_eq_true rfl) dX1_nearTo_24 ⟨Nat.zero_le _, Nat.zero_le _⟩ rfl) (fun H locs h hX => ?_)
      refine x_astoreq (i := 5) (lv' := [(5, rv_ ad q3), (0, .ref (ad v0)), (1, .int v1), (2, rv_ ad v2), (3, .int v3), (4, .int v4)]) C.1 C.2.1 dX1_nearTo_27 hl (by decide) rfl (fun ls hl => ?_)
      refine lv_iload C.1 C.2.1 dX1_nearTo_29 (lv_at hl 5 rfl) ?_
      refine lv_iload_n C.1 C.2.1 dX1_nearTo_31 rfl (lv_at hl 2 rfl) ?_
      refine lv_icmp_eq (tgt := 68) C.1 C.2.1 dX1_nearTo_32 (by decide) (fun c4 => ?_) (fun c4 => ?_)
      · have hf := if_t hf c4
        refine lv_iinc (v := v4 + (1 : Int32)) (lv' := [(4, .int (v4 + (1 : Int32))), (5, rv_ ad q3), (0, .ref (ad v0)), (1, .int v1), (2, rv_ ad v2), (3, .int v3)]) C.1 C.2.1 dX1_nearTo_68 hl (k := 5) rfl rfl (by decide) rfl (fun ls hl => ?_)
        refine lv_goto (tgt := 11) C.1 C.2.1 dX1_nearTo_71 (by decide) ?_
        exact ih v0 v1 v2 v3 (v4 + (1 : Int32)) hk_v0 hf _ _ _ h (lv_sub hl [2, 3, 4, 5, 0] rfl)
      · have hf := if_f hf c4
        refine x_aload_nq C.1 C.2.1 dX1_nearTo_35 rfl (lv_at hl 3 rfl) ?_
        cases v2 with
        | none =>
          have hf := oc_n hf
          refine lv_ifnullN (tgt := 68) C.1 C.2.1 dX1_nearTo_36 (by decide) ?_
          refine lv_iinc (v := v4 + (1 : Int32)) (lv' := [(4, .int (v4 + (1 : Int32))), (5, rv_ ad q3), (0, .ref (ad v0)), (1, .int v1), (2, rv_ ad none), (3, .int v3)]) C.1 C.2.1 dX1_nearTo_68 hl (k := 5) rfl rfl (by decide) rfl (fun ls hl => ?_)
          refine lv_goto (tgt := 11) C.1 C.2.1 dX1_nearTo_71 (by decide) ?_
          exact ih v0 v1 none v3 (v4 + (1 : Int32)) hk_v0 hf _ _ _ h (lv_sub hl [2, 3, 4, 5, 0] rfl)
        | some b5 =>
          obtain ⟨hk_b5, hf⟩ := gd_ (oc_s hf)
          refine lv_ifnull C.1 C.2.1 dX1_nearTo_36 ?_
          refine x_aloadq C.1 C.2.1 dX1_nearTo_39 (lv_at hl 0 rfl) ?_
          cases q3 with
          | none =>
            have hf := oc_n hf
            refine lv_ifnullN (tgt := 68) C.1 C.2.1 dX1_nearTo_41 (by decide) ?_
            refine lv_iinc (v := v4 + (1 : Int32)) (lv' := [(4, .int (v4 + (1 : Int32))), (5, rv_ ad none), (0, .ref (ad v0)), (1, .int v1), (2, .ref (ad b5)), (3, .int v3)]) C.1 C.2.1 dX1_nearTo_68 hl (k := 5) rfl rfl (by decide) rfl (fun ls hl => ?_)
            refine lv_goto (tgt := 11) C.1 C.2.1 dX1_nearTo_71 (by decide) ?_
            exact ih v0 v1 (some b5) v3 (v4 + (1 : Int32)) hk_v0 hf _ _ _ h (lv_sub hl [2, 3, 4, 5, 0] rfl)
          | some b6 =>
            obtain ⟨hk_b6, hf⟩ := gd_ (oc_s hf)
            refine lv_ifnull C.1 C.2.1 dX1_nearTo_41 ?_
            refine lv_iload_n C.1 C.2.1 dX1_nearTo_44 rfl (lv_at hl 4 rfl) ?_
            refine lv_aload_n C.1 C.2.1 dX1_nearTo_45 rfl (lv_at hl 3 rfl) ?_
            refine x_getN (v := .int (si_ σ b5 2)) C K h cl_0 hk_b5 2 (by decide) nf_RX1_43 rfl dX1_nearTo_46 ?_
            refine lv_aload C.1 C.2.1 dX1_nearTo_49 (lv_at hl 0 rfl) ?_
            refine x_getN (v := .int (si_ σ b6 2)) C K h cl_0 hk_b6 2 (by decide) nf_RX1_43 rfl dX1_nearTo_51 ?_
            refine x_ai K h (x_S C K h [.int (si_ σ b5 2), .int (si_ σ b6 2)] (c_X1_distance l κ G cy ad H.size σ (si_ σ b5 2) (si_ σ b6 2) rfl) mi_X1_distance rfl st_yX1_distance ml_RX1_46 ⟨rfl, rfl, Nat.le_trans (Nat.le_of_ble_eq_true rfl) hR.1, Nat.le_trans (Nat.le_of_ble_eq_true rfl) hR.2⟩ hl (Nat.le_of_ble_eq_true rfl) dX1_nearTo_54 ⟨Nat.zero_le _, Nat.zero_le _⟩ rfl) (fun H locs h hX => ?_)
            refine lv_iconst (v := (1 : Int32)) C.1 C.2.1 dX1_nearTo_57 (by decide) ?_
            refine lv_icmp_gt (tgt := 65) C.1 C.2.1 dX1_nearTo_58 (by decide) (fun c8 => ?_) (fun c8 => ?_)
            · have hf := if_t hf c8
              refine lv_iconst (v := (0 : Int32)) C.1 C.2.1 dX1_nearTo_65 (by decide) ?_
              refine lv_iadd C.1 C.2.1 dX1_nearTo_66 ?_
              refine lv_istore_n (i := 3) (lv' := [(3, .int (v3 + (0 : Int32))), (5, .ref (ad b6)), (0, .ref (ad v0)), (1, .int v1), (2, .ref (ad b5)), (4, .int v4)]) C.1 C.2.1 dX1_nearTo_67 rfl hl (by decide) rfl (fun ls hl => ?_)
              refine lv_iinc (v := v4 + (1 : Int32)) (lv' := [(4, .int (v4 + (1 : Int32))), (3, .int (v3 + (0 : Int32))), (5, .ref (ad b6)), (0, .ref (ad v0)), (1, .int v1), (2, .ref (ad b5))]) C.1 C.2.1 dX1_nearTo_68 hl (k := 5) rfl rfl (by decide) rfl (fun ls hl => ?_)
              refine lv_goto (tgt := 11) C.1 C.2.1 dX1_nearTo_71 (by decide) ?_
              exact ih v0 v1 (some b5) (v3 + (0 : Int32)) (v4 + (1 : Int32)) hk_v0 hf _ _ _ h (lv_sub hl [3, 4, 5, 1, 0] rfl)
            · have hf := if_f hf c8
              refine lv_iconst (v := (1 : Int32)) C.1 C.2.1 dX1_nearTo_61 (by decide) ?_
              refine lv_goto (tgt := 66) C.1 C.2.1 dX1_nearTo_62 (by decide) ?_
              refine lv_iadd C.1 C.2.1 dX1_nearTo_66 ?_
              refine lv_istore_n (i := 3) (lv' := [(3, .int (v3 + (1 : Int32))), (5, .ref (ad b6)), (0, .ref (ad v0)), (1, .int v1), (2, .ref (ad b5)), (4, .int v4)]) C.1 C.2.1 dX1_nearTo_67 rfl hl (by decide) rfl (fun ls hl => ?_)
              refine lv_iinc (v := v4 + (1 : Int32)) (lv' := [(4, .int (v4 + (1 : Int32))), (3, .int (v3 + (1 : Int32))), (5, .ref (ad b6)), (0, .ref (ad v0)), (1, .int v1), (2, .ref (ad b5))]) C.1 C.2.1 dX1_nearTo_68 hl (k := 5) rfl rfl (by decide) rfl (fun ls hl => ?_)
              refine lv_goto (tgt := 11) C.1 C.2.1 dX1_nearTo_71 (by decide) ?_
              exact ih v0 v1 (some b5) (v3 + (1 : Int32)) (v4 + (1 : Int32)) hk_v0 hf _ _ _ h (lv_sub hl [3, 4, 5, 1, 0] rfl)
def f_X1_nearTo (fu : Nat) (σ : St_) (a0 : Nat) (x1 : Int32) : Option Int32 := (f_X1_carpetAt σ a0 x1).bind fun q2 => f_X1_nearTo_11 fu σ fu a0 x1 q2 (0 : Int32) (0 : Int32)
set_option maxHeartbeats 4000000 in
set_option maxRecDepth 100000 in
theorem w_X1_nearTo {p : Program} {l : Launch} {e : Env} {R : Room} {s : State} {m : MethodId} {args : Array Value} {below : List Frame} {meth : Method} {c : Code} {κ : Ka_} {G : va_G} {cy : Nat → ClassId} {ad : Nat → Nat} {sz : Nat} {σ : St_} (fu : Nat) (C : CallFix p m c cX1_nearTo 6 s args wU_ RX1) (K : Kx_ κ G cy (va_A (wl_ cy ad σ) sz) s) (hr : meth.sig.returnType = some .int) (hlk : meth.locks = false) (hR : 2 ≤ R.frames ∧ 51 ≤ R.locals) {q : Int32} : ∀ (a0 : Nat) (x1 : Int32), kd_ σ a0 = 1 → f_X1_nearTo fu σ a0 x1 = some q → ∀ (H : Heap) (locs : List Loc) (ls : Array Slot), Ht_ G cy (va_A (wl_ cy ad σ) sz) s ad σ H locs → lv_has ls 6 [(0, .ref (ad a0)), (1, .int x1)] → W p l e R s m args below meth c H locs 0 0 (MQ below (Qi_ G cy ad σ σ sz q) args s 0 0 (va_A (wl_ cy ad σ) sz)) (F0 m 0 ls []) := by
  intro a0 x1 hk_a0 hf H locs ls h hl
  have hf : ((f_X1_carpetAt σ a0 x1).bind fun q2 => f_X1_nearTo_11 fu σ fu a0 x1 q2 (0 : Int32) (0 : Int32)) = some q := hf
  refine lv_aload_n C.1 C.2.1 dX1_nearTo_0 rfl (lv_at hl 0 rfl) ?_
  refine lv_iload_n C.1 C.2.1 dX1_nearTo_1 rfl (lv_at hl 1 rfl) ?_
  obtain ⟨q2, hq_q2, hf⟩ := ob_ hf
  refine x_aq K h (x_V C K h [.int x1] (c_X1_carpetAt l κ G cy ad H.size σ a0 x1 hk_a0 hq_q2) mi_X1_carpetAt rfl im_yX1_carpetAt se_yX1_carpetAt ml_RX1_39 cl_1 hk_a0 ⟨rfl, rfl, Nat.le_trans (Nat.le_of_ble_eq_true rfl) hR.1, Nat.le_trans (Nat.le_of_ble_eq_true rfl) hR.2⟩ hl (Nat.le_of_ble_eq_true rfl) dX1_nearTo_2 ⟨Nat.zero_le _, Nat.zero_le _⟩ rfl) (fun H locs h hX => ?_)
  refine x_astore_nq (i := 2) (lv' := [(2, rv_ ad q2), (0, .ref (ad a0)), (1, .int x1)]) C.1 C.2.1 dX1_nearTo_5 rfl hl (by decide) rfl (fun ls hl => ?_)
  refine lv_iconst (v := (0 : Int32)) C.1 C.2.1 dX1_nearTo_6 (by decide) ?_
  refine lv_istore_n (i := 3) (lv' := [(3, .int (0 : Int32)), (2, rv_ ad q2), (0, .ref (ad a0)), (1, .int x1)]) C.1 C.2.1 dX1_nearTo_7 rfl hl (by decide) (by simp [rv_c]) (fun ls hl => ?_)
  refine lv_iconst (v := (0 : Int32)) C.1 C.2.1 dX1_nearTo_8 (by decide) ?_
  refine lv_istore (i := 4) (lv' := [(4, .int (0 : Int32)), (3, .int (0 : Int32)), (2, rv_ ad q2), (0, .ref (ad a0)), (1, .int x1)]) C.1 C.2.1 dX1_nearTo_9 hl (by decide) rfl (fun ls hl => ?_)
  exact w_X1_nearTo_11 fu C K hr hlk hR fu a0 x1 q2 (0 : Int32) (0 : Int32) hk_a0 hf _ _ _ h (lv_sub hl [3, 4, 2, 1, 0] rfl)
theorem c_X1_nearTo (fu : Nat) (l : Launch) (κ : Ka_) (G : va_G) (cy : Nat → ClassId) (ad : Nat → Nat) (sz : Nat) (σ : St_) (a0 : Nat) (x1 : Int32) (hk_a0 : kd_ σ a0 = 1) {q : Int32} (hf : f_X1_nearTo fu σ a0 x1 = some q) : Met l yX1_nearTo (Cond.code yX1_nearTo cX1_nearTo 6 (some .int) :: wU_) { frames := 2, cells := 0, slots := 0, locals := 51 } (va_Pc [.ref (ad a0), .int x1] (Pr_ κ G cy ad σ sz)) (Qi_ G cy ad σ σ sz q) 0 0 (va_A (wl_ cy ad σ) sz) :=
  x_met (by decide) (fun p e R s m below meth c ls hR C hr hlk hin _ K h hl => w_X1_nearTo fu C K hr hlk ⟨hR.1, hR.2.1⟩ a0 x1 hk_a0 hf s.heap [] ls h hl) (Nat.le_of_ble_eq_true rfl)
-- X1_becomeLike
theorem mi_X1_becomeLike : Mi_ yX1_becomeLike cX1_becomeLike 4 none 1 := ⟨co_yX1_becomeLike, in_RX1, by decide, by decide, by decide +kernel⟩
def f_X1_becomeLike_34 (fu : Nat) : Nat → St_ → Nat → Nat → Int32 → Option St_
  | 0 => fun _ _ _ _ => none
  | n + 1 => fun σ  v0  v1  v2 => (dr_ σ 13 (sr_ σ v0 0)).bind fun b1 => if (nI (ln_ σ b1)) ≤ v2 then some σ else (dr_ σ 13 (sr_ σ v1 0)).bind fun b3 => if (nI (ln_ σ b3)) ≤ v2 then some σ else (ix_ v2 (ln_ σ b3)).bind fun j5 => (dr_ σ 0 (sr_ σ b3 j5)).bind fun b6 => (ix_ v2 (ln_ σ b1)).bind fun j7 => (dr_ σ 0 (sr_ σ b1 j7)).bind fun b8 => (f_X1_becomeLike_34 fu n) (f_X0_become σ b8 (si_ σ b6 0) (si_ σ b6 1) (si_ σ b6 2) (si_ σ b6 3)) v0 v1 (v2 + (1 : Int32))
set_option maxHeartbeats 4000000 in
set_option maxRecDepth 100000 in
theorem w_X1_becomeLike_34 {p : Program} {l : Launch} {e : Env} {R : Room} {s : State} {m : MethodId} {args : Array Value} {below : List Frame} {meth : Method} {c : Code} {κ : Ka_} {G : va_G} {cy : Nat → ClassId} {ad : Nat → Nat} {sz : Nat} {σ0 : St_} (fu : Nat) (C : CallFix p m c cX1_becomeLike 4 s args wU_ RX1) (K : Kx_ κ G cy (va_A (wl_ cy ad σ0) sz) s) (hr : meth.sig.returnType = none) (hlk : meth.locks = false) (hR : 1 ≤ R.frames ∧ 24 ≤ R.locals) {q : St_} : ∀ n : Nat, ∀ (σ : St_) (v0 : Nat) (v1 : Nat) (v2 : Int32), Ex_ σ0 σ → kd_ σ v0 = 1 → kd_ σ v1 = 1 → f_X1_becomeLike_34 fu n σ v0 v1 v2 = some q → ∀ (H : Heap) (locs : List Loc) (ls : Array Slot), Ht_ G cy (va_A (wl_ cy ad σ0) sz) s ad σ H locs → lv_has ls 4 [(0, .ref (ad v0)), (1, .ref (ad v1)), (2, .int v2)] → W p l e R s m args below meth c H locs 0 0 (MQ below (Qv_ G cy ad σ0 q sz) args s 0 0 (va_A (wl_ cy ad σ0) sz)) (F0 m 34 ls []) := by
  intro n
  induction n with
  | zero =>
    intro σ v0 v1 v2 hE hk_v0 hk_v1 hf H locs ls h hl
    cases hf
  | succ n ih =>
    intro σ v0 v1 v2 hE hk_v0 hk_v1 hf H locs ls h hl
    have hf : ((dr_ σ 13 (sr_ σ v0 0)).bind fun b1 => if (nI (ln_ σ b1)) ≤ v2 then some σ else (dr_ σ 13 (sr_ σ v1 0)).bind fun b3 => if (nI (ln_ σ b3)) ≤ v2 then some σ else (ix_ v2 (ln_ σ b3)).bind fun j5 => (dr_ σ 0 (sr_ σ b3 j5)).bind fun b6 => (ix_ v2 (ln_ σ b1)).bind fun j7 => (dr_ σ 0 (sr_ σ b1 j7)).bind fun b8 => (f_X1_becomeLike_34 fu n) (f_X0_become σ b8 (si_ σ b6 0) (si_ σ b6 1) (si_ σ b6 2) (si_ σ b6 3)) v0 v1 (v2 + (1 : Int32))) = some q := hf
    refine lv_iload_n C.1 C.2.1 dX1_becomeLike_34 rfl (lv_at hl 2 rfl) ?_
    refine lv_aload_n C.1 C.2.1 dX1_becomeLike_35 rfl (lv_at hl 0 rfl) ?_
    obtain ⟨b1, hb_b1, hf⟩ := ob_ hf
    obtain ⟨hq_b1, hk_b1⟩ := dr_in hb_b1
    refine x_get (v := .ref (ad b1)) C K h cl_1 hk_v0 0 (by decide) fl_RX1_11 (hv_r (o := sr_ σ v0 0) rfl hq_b1) dX1_becomeLike_36 ?_
    refine x_rlen C K h 3 (by decide) rfl (fun _ _ _ _ => rfl) hk_b1 dX1_becomeLike_39 ?_
    refine lv_icmp_ge (tgt := 90) C.1 C.2.1 dX1_becomeLike_40 (by decide) (fun c2 => ?_) (fun c2 => ?_)
    · have hf := if_t hf c2
      exact x_rv C hr hlk h hE (Option.some.inj hf) dX1_becomeLike_90
    · have hf := if_f hf c2
      refine lv_iload_n C.1 C.2.1 dX1_becomeLike_43 rfl (lv_at hl 2 rfl) ?_
      refine lv_aload_n C.1 C.2.1 dX1_becomeLike_44 rfl (lv_at hl 1 rfl) ?_
      obtain ⟨b3, hb_b3, hf⟩ := ob_ hf
      obtain ⟨hq_b3, hk_b3⟩ := dr_in hb_b3
      refine x_get (v := .ref (ad b3)) C K h cl_1 hk_v1 0 (by decide) fl_RX1_11 (hv_r (o := sr_ σ v1 0) rfl hq_b3) dX1_becomeLike_45 ?_
      refine x_rlen C K h 3 (by decide) rfl (fun _ _ _ _ => rfl) hk_b3 dX1_becomeLike_48 ?_
      refine lv_icmp_ge (tgt := 90) C.1 C.2.1 dX1_becomeLike_49 (by decide) (fun c4 => ?_) (fun c4 => ?_)
      · have hf := if_t hf c4
        exact x_rv C hr hlk h hE (Option.some.inj hf) dX1_becomeLike_90
      · have hf := if_f hf c4
        refine lv_aload_n C.1 C.2.1 dX1_becomeLike_52 rfl (lv_at hl 1 rfl) ?_
        refine x_get (v := .ref (ad b3)) C K h cl_1 hk_v1 0 (by decide) fl_RX1_11 (hv_r (o := sr_ σ v1 0) rfl hq_b3) dX1_becomeLike_53 ?_
        refine lv_iload_n C.1 C.2.1 dX1_becomeLike_56 rfl (lv_at hl 2 rfl) ?_
        obtain ⟨j5, hj_j5, hf⟩ := ob_ hf
        obtain ⟨b6, hb_b6, hf⟩ := ob_ hf
        obtain ⟨hq_b6, hk_b6⟩ := dr_in hb_b6
        refine x_aaldN C K h 3 (by decide) rfl (fun _ _ _ _ => rfl) hk_b3 hj_j5 hq_b6 dX1_becomeLike_57 ?_
        refine lv_astore_n (i := 3) (lv' := [(3, .ref (ad b6)), (0, .ref (ad v0)), (1, .ref (ad v1)), (2, .int v2)]) C.1 C.2.1 dX1_becomeLike_58 rfl hl (by decide) rfl (fun ls hl => ?_)
        refine lv_aload_n C.1 C.2.1 dX1_becomeLike_59 rfl (lv_at hl 1 rfl) ?_
        refine x_get (v := .ref (ad b1)) C K h cl_1 hk_v0 0 (by decide) fl_RX1_11 (hv_r (o := sr_ σ v0 0) rfl hq_b1) dX1_becomeLike_60 ?_
        refine lv_iload_n C.1 C.2.1 dX1_becomeLike_63 rfl (lv_at hl 3 rfl) ?_
        obtain ⟨j7, hj_j7, hf⟩ := ob_ hf
        obtain ⟨b8, hb_b8, hf⟩ := ob_ hf
        obtain ⟨hq_b8, hk_b8⟩ := dr_in hb_b8
        refine x_aaldN C K h 3 (by decide) rfl (fun _ _ _ _ => rfl) hk_b1 hj_j7 hq_b8 dX1_becomeLike_64 ?_
        refine lv_aload_n C.1 C.2.1 dX1_becomeLike_65 rfl (lv_at hl 0 rfl) ?_
        refine x_getN (v := .int (si_ σ b6 0)) C K h cl_0 hk_b6 0 (by decide) nf_RX1_62 rfl dX1_becomeLike_66 ?_
        refine lv_aload_n C.1 C.2.1 dX1_becomeLike_69 rfl (lv_at hl 0 rfl) ?_
        refine x_getN (v := .int (si_ σ b6 1)) C K h cl_0 hk_b6 1 (by decide) nf_RX1_65 rfl dX1_becomeLike_70 ?_
        refine lv_aload_n C.1 C.2.1 dX1_becomeLike_73 rfl (lv_at hl 0 rfl) ?_
        refine x_getN (v := .int (si_ σ b6 2)) C K h cl_0 hk_b6 2 (by decide) nf_RX1_43 rfl dX1_becomeLike_74 ?_
        refine lv_aload_n C.1 C.2.1 dX1_becomeLike_77 rfl (lv_at hl 0 rfl) ?_
        refine x_getN (v := .int (si_ σ b6 3)) C K h cl_0 hk_b6 3 (by decide) nf_RX1_36 rfl dX1_becomeLike_78 ?_
        refine x_av K h (x_VN C K h [.int (si_ σ b6 0), .int (si_ σ b6 1), .int (si_ σ b6 2), .int (si_ σ b6 3)] (c_X0_become l κ G cy ad H.size σ b8 (si_ σ b6 0) (si_ σ b6 1) (si_ σ b6 2) (si_ σ b6 3) hk_b8 rfl) mi_X0_become rfl im_yX0_become se_yX0_become nm_RX1_26 cl_0 hk_b8 ⟨rfl, rfl, Nat.le_trans (Nat.le_of_ble_eq_true rfl) hR.1, Nat.le_trans (Nat.le_of_ble_eq_true rfl) hR.2⟩ hl (Nat.le_of_ble_eq_true rfl) dX1_becomeLike_81 ⟨Nat.zero_le _, Nat.zero_le _⟩ rfl) (fun H locs h hX => ?_)
        have hE := hE.trans hX
        have hk_v0 := hX.k hk_v0 (by decide)
        have hk_v1 := hX.k hk_v1 (by decide)
        have hk_b6 := hX.k hk_b6 (by decide)
        refine lv_iinc (v := v2 + (1 : Int32)) (lv' := [(2, .int (v2 + (1 : Int32))), (3, .ref (ad b6)), (0, .ref (ad v0)), (1, .ref (ad v1))]) C.1 C.2.1 dX1_becomeLike_84 hl (k := 3) rfl rfl (by decide) rfl (fun ls hl => ?_)
        refine lv_goto (tgt := 34) C.1 C.2.1 dX1_becomeLike_87 (by decide) ?_
        exact ih (f_X0_become σ b8 (si_ σ b6 0) (si_ σ b6 1) (si_ σ b6 2) (si_ σ b6 3)) v0 v1 (v2 + (1 : Int32)) hE hk_v0 hk_v1 hf _ _ _ h (lv_sub hl [2, 3, 0] rfl)
def f_X1_becomeLike (fu : Nat) (σ : St_) (a0 : Nat) (x1 : Nat) : Option St_ := f_X1_becomeLike_34 fu fu (ul_ (ui_ (ui_ (ui_ σ a0 1 (si_ σ x1 1)) a0 2 (si_ (ui_ σ a0 1 (si_ σ x1 1)) x1 2)) a0 3 (si_ (ui_ (ui_ σ a0 1 (si_ σ x1 1)) a0 2 (si_ (ui_ σ a0 1 (si_ σ x1 1)) x1 2)) x1 3)) a0 4 (sl_ (ui_ (ui_ (ui_ σ a0 1 (si_ σ x1 1)) a0 2 (si_ (ui_ σ a0 1 (si_ σ x1 1)) x1 2)) a0 3 (si_ (ui_ (ui_ σ a0 1 (si_ σ x1 1)) a0 2 (si_ (ui_ σ a0 1 (si_ σ x1 1)) x1 2)) x1 3)) x1 4)) a0 x1 (0 : Int32)
set_option maxHeartbeats 4000000 in
set_option maxRecDepth 100000 in
theorem w_X1_becomeLike {p : Program} {l : Launch} {e : Env} {R : Room} {s : State} {m : MethodId} {args : Array Value} {below : List Frame} {meth : Method} {c : Code} {κ : Ka_} {G : va_G} {cy : Nat → ClassId} {ad : Nat → Nat} {sz : Nat} {σ0 : St_} (fu : Nat) (C : CallFix p m c cX1_becomeLike 4 s args wU_ RX1) (K : Kx_ κ G cy (va_A (wl_ cy ad σ0) sz) s) (hr : meth.sig.returnType = none) (hlk : meth.locks = false) (hR : 1 ≤ R.frames ∧ 24 ≤ R.locals) {q : St_} : ∀ (σ : St_) (a0 : Nat) (x1 : Nat), Ex_ σ0 σ → kd_ σ a0 = 1 → kd_ σ x1 = 1 → f_X1_becomeLike fu σ a0 x1 = some q → ∀ (H : Heap) (locs : List Loc) (ls : Array Slot), Ht_ G cy (va_A (wl_ cy ad σ0) sz) s ad σ H locs → lv_has ls 4 [(0, .ref (ad a0)), (1, .ref (ad x1))] → W p l e R s m args below meth c H locs 0 0 (MQ below (Qv_ G cy ad σ0 q sz) args s 0 0 (va_A (wl_ cy ad σ0) sz)) (F0 m 0 ls []) := by
  intro σ a0 x1 hE hk_a0 hk_x1 hf H locs ls h hl
  have hf : (f_X1_becomeLike_34 fu fu (ul_ (ui_ (ui_ (ui_ σ a0 1 (si_ σ x1 1)) a0 2 (si_ (ui_ σ a0 1 (si_ σ x1 1)) x1 2)) a0 3 (si_ (ui_ (ui_ σ a0 1 (si_ σ x1 1)) a0 2 (si_ (ui_ σ a0 1 (si_ σ x1 1)) x1 2)) x1 3)) a0 4 (sl_ (ui_ (ui_ (ui_ σ a0 1 (si_ σ x1 1)) a0 2 (si_ (ui_ σ a0 1 (si_ σ x1 1)) x1 2)) a0 3 (si_ (ui_ (ui_ σ a0 1 (si_ σ x1 1)) a0 2 (si_ (ui_ σ a0 1 (si_ σ x1 1)) x1 2)) x1 3)) x1 4)) a0 x1 (0 : Int32)) = some q := hf
  refine lv_aload_n C.1 C.2.1 dX1_becomeLike_0 rfl (lv_at hl 0 rfl) ?_
  refine lv_aload_n C.1 C.2.1 dX1_becomeLike_1 rfl (lv_at hl 1 rfl) ?_
  refine x_get (v := .int (si_ σ x1 1)) C K h cl_1 hk_x1 1 (by decide) fl_RX1_18 rfl dX1_becomeLike_2 ?_
  refine x_putI C K h cl_1 hk_a0 1 (by decide) fl_RX1_18 rfl rfl rfl (Nat.le_of_ble_eq_true rfl) (fun _ _ _ => rfl) dX1_becomeLike_5 (fun H locs h => ?_)
  have hE := hE.up (up_i σ a0 1 (si_ σ x1 1))
  refine lv_aload_n C.1 C.2.1 dX1_becomeLike_8 rfl (lv_at hl 0 rfl) ?_
  refine lv_aload_n C.1 C.2.1 dX1_becomeLike_9 rfl (lv_at hl 1 rfl) ?_
  refine x_get (v := .int (si_ (ui_ σ a0 1 (si_ σ x1 1)) x1 2)) C K h cl_1 hk_x1 2 (by decide) fl_RX1_56 rfl dX1_becomeLike_10 ?_
  refine x_putI C K h cl_1 hk_a0 2 (by decide) fl_RX1_56 rfl rfl rfl (Nat.le_of_ble_eq_true rfl) (fun _ _ _ => rfl) dX1_becomeLike_13 (fun H locs h => ?_)
  have hE := hE.up (up_i (ui_ σ a0 1 (si_ σ x1 1)) a0 2 (si_ (ui_ σ a0 1 (si_ σ x1 1)) x1 2))
  refine lv_aload_n C.1 C.2.1 dX1_becomeLike_16 rfl (lv_at hl 0 rfl) ?_
  refine lv_aload_n C.1 C.2.1 dX1_becomeLike_17 rfl (lv_at hl 1 rfl) ?_
  refine x_get (v := .int (si_ (ui_ (ui_ σ a0 1 (si_ σ x1 1)) a0 2 (si_ (ui_ σ a0 1 (si_ σ x1 1)) x1 2)) x1 3)) C K h cl_1 hk_x1 3 (by decide) fl_RX1_59 rfl dX1_becomeLike_18 ?_
  refine x_putI C K h cl_1 hk_a0 3 (by decide) fl_RX1_59 rfl rfl rfl (Nat.le_of_ble_eq_true rfl) (fun _ _ _ => rfl) dX1_becomeLike_21 (fun H locs h => ?_)
  have hE := hE.up (up_i (ui_ (ui_ σ a0 1 (si_ σ x1 1)) a0 2 (si_ (ui_ σ a0 1 (si_ σ x1 1)) x1 2)) a0 3 (si_ (ui_ (ui_ σ a0 1 (si_ σ x1 1)) a0 2 (si_ (ui_ σ a0 1 (si_ σ x1 1)) x1 2)) x1 3))
  refine lv_aload_n C.1 C.2.1 dX1_becomeLike_24 rfl (lv_at hl 0 rfl) ?_
  refine lv_aload_n C.1 C.2.1 dX1_becomeLike_25 rfl (lv_at hl 1 rfl) ?_
  refine x_get (v := .long (sl_ (ui_ (ui_ (ui_ σ a0 1 (si_ σ x1 1)) a0 2 (si_ (ui_ σ a0 1 (si_ σ x1 1)) x1 2)) a0 3 (si_ (ui_ (ui_ σ a0 1 (si_ σ x1 1)) a0 2 (si_ (ui_ σ a0 1 (si_ σ x1 1)) x1 2)) x1 3)) x1 4)) C K h cl_1 hk_x1 4 (by decide) fl_RX1_30 rfl dX1_becomeLike_26 ?_
  refine x_putL C K h cl_1 hk_a0 4 (by decide) fl_RX1_30 rfl rfl rfl (Nat.le_of_ble_eq_true rfl) (fun _ _ _ => rfl) dX1_becomeLike_29 (fun H locs h => ?_)
  have hE := hE.up (up_l (ui_ (ui_ (ui_ σ a0 1 (si_ σ x1 1)) a0 2 (si_ (ui_ σ a0 1 (si_ σ x1 1)) x1 2)) a0 3 (si_ (ui_ (ui_ σ a0 1 (si_ σ x1 1)) a0 2 (si_ (ui_ σ a0 1 (si_ σ x1 1)) x1 2)) x1 3)) a0 4 (sl_ (ui_ (ui_ (ui_ σ a0 1 (si_ σ x1 1)) a0 2 (si_ (ui_ σ a0 1 (si_ σ x1 1)) x1 2)) a0 3 (si_ (ui_ (ui_ σ a0 1 (si_ σ x1 1)) a0 2 (si_ (ui_ σ a0 1 (si_ σ x1 1)) x1 2)) x1 3)) x1 4))
  refine lv_iconst (v := (0 : Int32)) C.1 C.2.1 dX1_becomeLike_32 (by decide) ?_
  refine lv_istore_n (i := 2) (lv' := [(2, .int (0 : Int32)), (0, .ref (ad a0)), (1, .ref (ad x1))]) C.1 C.2.1 dX1_becomeLike_33 rfl hl (by decide) rfl (fun ls hl => ?_)
  exact w_X1_becomeLike_34 fu C K hr hlk hR fu (ul_ (ui_ (ui_ (ui_ σ a0 1 (si_ σ x1 1)) a0 2 (si_ (ui_ σ a0 1 (si_ σ x1 1)) x1 2)) a0 3 (si_ (ui_ (ui_ σ a0 1 (si_ σ x1 1)) a0 2 (si_ (ui_ σ a0 1 (si_ σ x1 1)) x1 2)) x1 3)) a0 4 (sl_ (ui_ (ui_ (ui_ σ a0 1 (si_ σ x1 1)) a0 2 (si_ (ui_ σ a0 1 (si_ σ x1 1)) x1 2)) a0 3 (si_ (ui_ (ui_ σ a0 1 (si_ σ x1 1)) a0 2 (si_ (ui_ σ a0 1 (si_ σ x1 1)) x1 2)) x1 3)) x1 4)) a0 x1 (0 : Int32) hE hk_a0 hk_x1 hf _ _ _ h (lv_sub hl [1, 2, 0] rfl)
theorem c_X1_becomeLike (fu : Nat) (l : Launch) (κ : Ka_) (G : va_G) (cy : Nat → ClassId) (ad : Nat → Nat) (sz : Nat) (σ : St_) (a0 : Nat) (x1 : Nat) (hk_a0 : kd_ σ a0 = 1) (hk_x1 : kd_ σ x1 = 1) {q : St_} (hf : f_X1_becomeLike fu σ a0 x1 = some q) : Met l yX1_becomeLike (Cond.code yX1_becomeLike cX1_becomeLike 4 none :: wU_) { frames := 1, cells := 0, slots := 0, locals := 24 } (va_Pc [.ref (ad a0), .ref (ad x1)] (Pr_ κ G cy ad σ sz)) (Qv_ G cy ad σ q sz) 0 0 (va_A (wl_ cy ad σ) sz) :=
  x_met (by decide) (fun p e R s m below meth c ls hR C hr hlk hin _ K h hl => w_X1_becomeLike fu C K hr hlk ⟨hR.1, hR.2.1⟩ σ a0 x1 Ex_.rf hk_a0 hk_x1 hf s.heap [] ls h hl) (Nat.le_of_ble_eq_true rfl)
