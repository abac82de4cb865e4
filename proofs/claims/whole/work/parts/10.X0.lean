-- X8_isBelow
theorem mi_X8_isBelow : Mi_ yX8_isBelow cX8_isBelow 2 (some .boolean) 2 := ⟨co_yX8_isBelow, in_RX8, by decide, by decide, by decide +kernel⟩
def f_X8_isBelow (x1 : Int32) (x2 : Int32) : Int32 := if x1 < 0 then (0 : Int32) else if x2 ≤ x1 then (0 : Int32) else (1 : Int32)
set_option maxHeartbeats 4000000 in
set_option maxRecDepth 100000 in
theorem w_X8_isBelow {p : Program} {l : Launch} {e : Env} {R : Room} {s : State} {m : MethodId} {args : Array Value} {below : List Frame} {meth : Method} {c : Code} {κ : Ka_} {G : va_G} {cy : Nat → ClassId} {ad : Nat → Nat} {sz : Nat} {σ : St_} (C : CallFix p m c cX8_isBelow 2 s args wU_ RX8) (K : Kx_ κ G cy (va_A (wl_ cy ad σ) sz) s) (hr : meth.sig.returnType = some .boolean) (hlk : meth.locks = false) (hR : 0 ≤ R.frames ∧ 0 ≤ R.locals) {q : Int32} : ∀ (x1 : Int32) (x2 : Int32), f_X8_isBelow x1 x2 = q → ∀ (H : Heap) (locs : List Loc) (ls : Array Slot), Ht_ G cy (va_A (wl_ cy ad σ) sz) s ad σ H locs → lv_has ls 2 [(0, .int x1), (1, .int x2)] → W p l e R s m args below meth c H locs 0 0 (MQ below (Qz_ G cy ad σ σ sz q) args s 0 0 (va_A (wl_ cy ad σ) sz)) (F0 m 0 ls []) := by
  intro x1 x2 hf H locs ls h hl
  have hf : (if x1 < 0 then (0 : Int32) else if x2 ≤ x1 then (0 : Int32) else (1 : Int32)) = q := hf
  refine lv_iload_n C.1 C.2.1 dX8_isBelow_0 rfl (lv_at hl 0 rfl) ?_
  refine lv_if_lt (tgt := 13) C.1 C.2.1 dX8_isBelow_1 (by decide) (fun c3 => ?_) (fun c3 => ?_)
  · have hf := if_t hf c3
    refine lv_iconst (v := (0 : Int32)) C.1 C.2.1 dX8_isBelow_13 (by decide) ?_
    exact x_rzz C hr hlk h Ex_.rf (by decide) hf rfl dX8_isBelow_14
  · have hf := if_f hf c3
    refine lv_iload_n C.1 C.2.1 dX8_isBelow_4 rfl (lv_at hl 0 rfl) ?_
    refine lv_iload_n C.1 C.2.1 dX8_isBelow_5 rfl (lv_at hl 1 rfl) ?_
    refine lv_icmp_ge (tgt := 13) C.1 C.2.1 dX8_isBelow_6 (by decide) (fun c4 => ?_) (fun c4 => ?_)
    · have hf := if_t hf c4
      refine lv_iconst (v := (0 : Int32)) C.1 C.2.1 dX8_isBelow_13 (by decide) ?_
      exact x_rzz C hr hlk h Ex_.rf (by decide) hf rfl dX8_isBelow_14
    · have hf := if_f hf c4
      refine lv_iconst (v := (1 : Int32)) C.1 C.2.1 dX8_isBelow_9 (by decide) ?_
      refine lv_goto (tgt := 14) C.1 C.2.1 dX8_isBelow_10 (by decide) ?_
      exact x_rzz C hr hlk h Ex_.rf (by decide) hf rfl dX8_isBelow_14
theorem c_X8_isBelow (l : Launch) (κ : Ka_) (G : va_G) (cy : Nat → ClassId) (ad : Nat → Nat) (sz : Nat) (σ : St_) (x1 : Int32) (x2 : Int32) {q : Int32} (hf : f_X8_isBelow x1 x2 = q) : Met l yX8_isBelow (Cond.code yX8_isBelow cX8_isBelow 2 (some .boolean) :: wU_) { frames := 0, cells := 0, slots := 0, locals := 0 } (va_Pc [.int x1, .int x2] (Pr_ κ G cy ad σ sz)) (Qz_ G cy ad σ σ sz q) 0 0 (va_A (wl_ cy ad σ) sz) :=
  x_met (by decide) (fun p e R s m below meth c ls hR C hr hlk hin _ K h hl => w_X8_isBelow C K hr hlk ⟨hR.1, hR.2.1⟩ x1 x2 hf s.heap [] ls h hl) (Nat.le_of_ble_eq_true rfl)
-- X8_bounded
theorem mi_X8_bounded : Mi_ yX8_bounded cX8_bounded 3 (some .int) 3 := ⟨co_yX8_bounded, in_RX8, by decide, by decide, by decide +kernel⟩
def f_X8_bounded (x1 : Int32) (x2 : Int32) (x3 : Int32) : Int32 := if x2 ≤ x1 then if x1 ≤ x3 then x1 else x3 else x2
set_option maxHeartbeats 4000000 in
set_option maxRecDepth 100000 in
theorem w_X8_bounded {p : Program} {l : Launch} {e : Env} {R : Room} {s : State} {m : MethodId} {args : Array Value} {below : List Frame} {meth : Method} {c : Code} {κ : Ka_} {G : va_G} {cy : Nat → ClassId} {ad : Nat → Nat} {sz : Nat} {σ : St_} (C : CallFix p m c cX8_bounded 3 s args wU_ RX8) (K : Kx_ κ G cy (va_A (wl_ cy ad σ) sz) s) (hr : meth.sig.returnType = some .int) (hlk : meth.locks = false) (hR : 0 ≤ R.frames ∧ 0 ≤ R.locals) {q : Int32} : ∀ (x1 : Int32) (x2 : Int32) (x3 : Int32), f_X8_bounded x1 x2 x3 = q → ∀ (H : Heap) (locs : List Loc) (ls : Array Slot), Ht_ G cy (va_A (wl_ cy ad σ) sz) s ad σ H locs → lv_has ls 3 [(0, .int x1), (1, .int x2), (2, .int x3)] → W p l e R s m args below meth c H locs 0 0 (MQ below (Qi_ G cy ad σ σ sz q) args s 0 0 (va_A (wl_ cy ad σ) sz)) (F0 m 0 ls []) := by
  intro x1 x2 x3 hf H locs ls h hl
  have hf : (if x2 ≤ x1 then if x1 ≤ x3 then x1 else x3 else x2) = q := hf
  refine lv_iload_n C.1 C.2.1 dX8_bounded_0 rfl (lv_at hl 0 rfl) ?_
  refine lv_iload_n C.1 C.2.1 dX8_bounded_1 rfl (lv_at hl 1 rfl) ?_
  refine lv_icmp_ge (tgt := 9) C.1 C.2.1 dX8_bounded_2 (by decide) (fun c4 => ?_) (fun c4 => ?_)
  · have hf := if_t hf c4
    refine lv_iload_n C.1 C.2.1 dX8_bounded_9 rfl (lv_at hl 0 rfl) ?_
    refine lv_iload_n C.1 C.2.1 dX8_bounded_10 rfl (lv_at hl 2 rfl) ?_
    refine lv_icmp_le (tgt := 18) C.1 C.2.1 dX8_bounded_11 (by decide) (fun c5 => ?_) (fun c5 => ?_)
    · have hf := if_t hf c5
      refine lv_iload_n C.1 C.2.1 dX8_bounded_18 rfl (lv_at hl 0 rfl) ?_
      exact x_ri C hr hlk h Ex_.rf hf rfl dX8_bounded_19
    · have hf := if_f hf c5
      refine lv_iload_n C.1 C.2.1 dX8_bounded_14 rfl (lv_at hl 2 rfl) ?_
      refine lv_goto (tgt := 19) C.1 C.2.1 dX8_bounded_15 (by decide) ?_
      exact x_ri C hr hlk h Ex_.rf hf rfl dX8_bounded_19
  · have hf := if_f hf c4
    refine lv_iload_n C.1 C.2.1 dX8_bounded_5 rfl (lv_at hl 1 rfl) ?_
    refine lv_goto (tgt := 19) C.1 C.2.1 dX8_bounded_6 (by decide) ?_
    exact x_ri C hr hlk h Ex_.rf hf rfl dX8_bounded_19
theorem c_X8_bounded (l : Launch) (κ : Ka_) (G : va_G) (cy : Nat → ClassId) (ad : Nat → Nat) (sz : Nat) (σ : St_) (x1 : Int32) (x2 : Int32) (x3 : Int32) {q : Int32} (hf : f_X8_bounded x1 x2 x3 = q) : Met l yX8_bounded (Cond.code yX8_bounded cX8_bounded 3 (some .int) :: wU_) { frames := 0, cells := 0, slots := 0, locals := 0 } (va_Pc [.int x1, .int x2, .int x3] (Pr_ κ G cy ad σ sz)) (Qi_ G cy ad σ σ sz q) 0 0 (va_A (wl_ cy ad σ) sz) :=
  x_met (by decide) (fun p e R s m below meth c ls hR C hr hlk hin _ K h hl => w_X8_bounded C K hr hlk ⟨hR.1, hR.2.1⟩ x1 x2 x3 hf s.heap [] ls h hl) (Nat.le_of_ble_eq_true rfl)
-- X0_become
theorem mi_X0_become : Mi_ yX0_become cX0_become 5 none 4 := ⟨co_yX0_become, in_RX0, by decide, by decide, by decide +kernel⟩
def f_X0_become (σ : St_) (a0 : Nat) (x1 : Int32) (x2 : Int32) (x3 : Int32) (x4 : Int32) : St_ := ui_ (ui_ (ui_ (ui_ σ a0 0 x1) a0 1 x2) a0 2 x3) a0 3 x4
set_option maxHeartbeats 4000000 in
set_option maxRecDepth 100000 in
theorem w_X0_become {p : Program} {l : Launch} {e : Env} {R : Room} {s : State} {m : MethodId} {args : Array Value} {below : List Frame} {meth : Method} {c : Code} {κ : Ka_} {G : va_G} {cy : Nat → ClassId} {ad : Nat → Nat} {sz : Nat} {σ0 : St_} (C : CallFix p m c cX0_become 5 s args wU_ RX0) (K : Kx_ κ G cy (va_A (wl_ cy ad σ0) sz) s) (hr : meth.sig.returnType = none) (hlk : meth.locks = false) (hR : 0 ≤ R.frames ∧ 0 ≤ R.locals) {q : St_} : ∀ (σ : St_) (a0 : Nat) (x1 : Int32) (x2 : Int32) (x3 : Int32) (x4 : Int32), Ex_ σ0 σ → kd_ σ a0 = 0 → f_X0_become σ a0 x1 x2 x3 x4 = q → ∀ (H : Heap) (locs : List Loc) (ls : Array Slot), Ht_ G cy (va_A (wl_ cy ad σ0) sz) s ad σ H locs → lv_has ls 5 [(0, .ref (ad a0)), (1, .int x1), (2, .int x2), (3, .int x3), (4, .int x4)] → W p l e R s m args below meth c H locs 0 0 (MQ below (Qv_ G cy ad σ0 q sz) args s 0 0 (va_A (wl_ cy ad σ0) sz)) (F0 m 0 ls []) := by
  intro σ a0 x1 x2 x3 x4 hE hk_a0 hf H locs ls h hl
  have hf : (ui_ (ui_ (ui_ (ui_ σ a0 0 x1) a0 1 x2) a0 2 x3) a0 3 x4) = q := hf
  refine lv_aload_n C.1 C.2.1 dX0_become_0 rfl (lv_at hl 0 rfl) ?_
  refine lv_iload_n C.1 C.2.1 dX0_become_1 rfl (lv_at hl 1 rfl) ?_
  refine x_putI C K h cl_0 hk_a0 0 (by decide) fl_RX0_7 rfl rfl rfl (Nat.le_of_ble_eq_true rfl) (fun _ _ _ => rfl) dX0_become_2 (fun H locs h => ?_)
  have hE := hE.up (up_i σ a0 0 x1)
  refine lv_aload_n C.1 C.2.1 dX0_become_5 rfl (lv_at hl 0 rfl) ?_
  refine lv_iload_n C.1 C.2.1 dX0_become_6 rfl (lv_at hl 2 rfl) ?_
  refine x_putI C K h cl_0 hk_a0 1 (by decide) fl_RX0_13 rfl rfl rfl (Nat.le_of_ble_eq_true rfl) (fun _ _ _ => rfl) dX0_become_7 (fun H locs h => ?_)
  have hE := hE.up (up_i (ui_ σ a0 0 x1) a0 1 x2)
  refine lv_aload_n C.1 C.2.1 dX0_become_10 rfl (lv_at hl 0 rfl) ?_
  refine lv_iload_n C.1 C.2.1 dX0_become_11 rfl (lv_at hl 3 rfl) ?_
  refine x_putI C K h cl_0 hk_a0 2 (by decide) fl_RX0_16 rfl rfl rfl (Nat.le_of_ble_eq_true rfl) (fun _ _ _ => rfl) dX0_become_12 (fun H locs h => ?_)
  have hE := hE.up (up_i (ui_ (ui_ σ a0 0 x1) a0 1 x2) a0 2 x3)
  refine lv_aload_n C.1 C.2.1 dX0_become_15 rfl (lv_at hl 0 rfl) ?_
  refine lv_iload C.1 C.2.1 dX0_become_16 (lv_at hl 4 rfl) ?_
  refine x_putI C K h cl_0 hk_a0 3 (by decide) fl_RX0_19 rfl rfl rfl (Nat.le_of_ble_eq_true rfl) (fun _ _ _ => rfl) dX0_become_18 (fun H locs h => ?_)
  have hE := hE.up (up_i (ui_ (ui_ (ui_ σ a0 0 x1) a0 1 x2) a0 2 x3) a0 3 x4)
  exact x_rv C hr hlk h hE hf dX0_become_21
theorem c_X0_become (l : Launch) (κ : Ka_) (G : va_G) (cy : Nat → ClassId) (ad : Nat → Nat) (sz : Nat) (σ : St_) (a0 : Nat) (x1 : Int32) (x2 : Int32) (x3 : Int32) (x4 : Int32) (hk_a0 : kd_ σ a0 = 0) {q : St_} (hf : f_X0_become σ a0 x1 x2 x3 x4 = q) : Met l yX0_become (Cond.code yX0_become cX0_become 5 none :: wU_) { frames := 0, cells := 0, slots := 0, locals := 0 } (va_Pc [.ref (ad a0), .int x1, .int x2, .int x3, .int x4] (Pr_ κ G cy ad σ sz)) (Qv_ G cy ad σ q sz) 0 0 (va_A (wl_ cy ad σ) sz) :=
  x_met (by decide) (fun p e R s m below meth c ls hR C hr hlk hin _ K h hl => w_X0_become C K hr hlk ⟨hR.1, hR.2.1⟩ σ a0 x1 x2 x3 x4 Ex_.rf hk_a0 hf s.heap [] ls h hl) (Nat.le_of_ble_eq_true rfl)
-- X0_tell
theorem mi_X0_tell : Mi_ yX0_tell cX0_tell 2 (some .int) 1 := ⟨co_yX0_tell, in_RX0, by decide, by decide, by decide +kernel⟩
def f_X0_tell (σ : St_) (a0 : Nat) (x1 : Int32) : Int32 := if x1 = (2 : Int32) then si_ σ a0 1 else if x1 = (3 : Int32) then si_ σ a0 2 else if x1 = (4 : Int32) then si_ σ a0 3 else si_ σ a0 0
set_option maxHeartbeats 4000000 in
set_option maxRecDepth 100000 in
theorem w_X0_tell {p : Program} {l : Launch} {e : Env} {R : Room} {s : State} {m : MethodId} {args : Array Value} {below : List Frame} {meth : Method} {c : Code} {κ : Ka_} {G : va_G} {cy : Nat → ClassId} {ad : Nat → Nat} {sz : Nat} {σ : St_} (C : CallFix p m c cX0_tell 2 s args wU_ RX0) (K : Kx_ κ G cy (va_A (wl_ cy ad σ) sz) s) (hr : meth.sig.returnType = some .int) (hlk : meth.locks = false) (hR : 0 ≤ R.frames ∧ 0 ≤ R.locals) {q : Int32} : ∀ (a0 : Nat) (x1 : Int32), kd_ σ a0 = 0 → f_X0_tell σ a0 x1 = q → ∀ (H : Heap) (locs : List Loc) (ls : Array Slot), Ht_ G cy (va_A (wl_ cy ad σ) sz) s ad σ H locs → lv_has ls 2 [(0, .ref (ad a0)), (1, .int x1)] → W p l e R s m args below meth c H locs 0 0 (MQ below (Qi_ G cy ad σ σ sz q) args s 0 0 (va_A (wl_ cy ad σ) sz)) (F0 m 0 ls []) := by
  intro a0 x1 hk_a0 hf H locs ls h hl
  have hf : (if x1 = (2 : Int32) then si_ σ a0 1 else if x1 = (3 : Int32) then si_ σ a0 2 else if x1 = (4 : Int32) then si_ σ a0 3 else si_ σ a0 0) = q := hf
  refine lv_iload_n C.1 C.2.1 dX0_tell_0 rfl (lv_at hl 1 rfl) ?_
  by_cases c2 : x1 = (2 : Int32)
  · have hf := if_t hf c2
    refine lv_tableIn (off := 27) (tgt := 28) C.1 C.2.1 dX0_tell_1 (by rw [c2]; decide) (by rw [c2]; decide) (by rw [c2]; rfl) (by decide) ?_
    refine lv_aload_n C.1 C.2.1 dX0_tell_28 rfl (lv_at hl 0 rfl) ?_
    refine x_get (v := .int (si_ σ a0 1)) C K h cl_0 hk_a0 1 (by decide) fl_RX0_13 rfl dX0_tell_29 ?_
    exact x_ri C hr hlk h Ex_.rf hf rfl dX0_tell_32
  · have hf := if_f hf c2
    by_cases c3 : x1 = (3 : Int32)
    · have hf := if_t hf c3
      refine lv_tableIn (off := 32) (tgt := 33) C.1 C.2.1 dX0_tell_1 (by rw [c3]; decide) (by rw [c3]; decide) (by rw [c3]; rfl) (by decide) ?_
      refine lv_aload_n C.1 C.2.1 dX0_tell_33 rfl (lv_at hl 0 rfl) ?_
      refine x_get (v := .int (si_ σ a0 2)) C K h cl_0 hk_a0 2 (by decide) fl_RX0_16 rfl dX0_tell_34 ?_
      exact x_ri C hr hlk h Ex_.rf hf rfl dX0_tell_37
    · have hf := if_f hf c3
      by_cases c4 : x1 = (4 : Int32)
      · have hf := if_t hf c4
        refine lv_tableIn (off := 37) (tgt := 38) C.1 C.2.1 dX0_tell_1 (by rw [c4]; decide) (by rw [c4]; decide) (by rw [c4]; rfl) (by decide) ?_
        refine lv_aload_n C.1 C.2.1 dX0_tell_38 rfl (lv_at hl 0 rfl) ?_
        refine x_get (v := .int (si_ σ a0 3)) C K h cl_0 hk_a0 3 (by decide) fl_RX0_19 rfl dX0_tell_39 ?_
        exact x_ri C hr hlk h Ex_.rf hf rfl dX0_tell_42
      · have hf := if_f hf c4
        refine lv_tableOut (tgt := 43) C.1 C.2.1 dX0_tell_1 (by have e0 := ne_i c2 (z := 2) (by decide); have e1 := ne_i c3 (z := 3) (by decide); have e2 := ne_i c4 (z := 4) (by decide); omega) (by decide) ?_
        refine lv_aload_n C.1 C.2.1 dX0_tell_43 rfl (lv_at hl 0 rfl) ?_
        refine x_get (v := .int (si_ σ a0 0)) C K h cl_0 hk_a0 0 (by decide) fl_RX0_7 rfl dX0_tell_44 ?_
        exact x_ri C hr hlk h Ex_.rf hf rfl dX0_tell_47
theorem c_X0_tell (l : Launch) (κ : Ka_) (G : va_G) (cy : Nat → ClassId) (ad : Nat → Nat) (sz : Nat) (σ : St_) (a0 : Nat) (x1 : Int32) (hk_a0 : kd_ σ a0 = 0) {q : Int32} (hf : f_X0_tell σ a0 x1 = q) : Met l yX0_tell (Cond.code yX0_tell cX0_tell 2 (some .int) :: wU_) { frames := 0, cells := 0, slots := 0, locals := 0 } (va_Pc [.ref (ad a0), .int x1] (Pr_ κ G cy ad σ sz)) (Qi_ G cy ad σ σ sz q) 0 0 (va_A (wl_ cy ad σ) sz) :=
  x_met (by decide) (fun p e R s m below meth c ls hR C hr hlk hin _ K h hl => w_X0_tell C K hr hlk ⟨hR.1, hR.2.1⟩ a0 x1 hk_a0 hf s.heap [] ls h hl) (Nat.le_of_ble_eq_true rfl)
-- X0_put
theorem mi_X0_put : Mi_ yX0_put cX0_put 3 none 2 := ⟨co_yX0_put, in_RX0, by decide, by decide, by decide +kernel⟩
def f_X0_put (σ : St_) (a0 : Nat) (x1 : Int32) (x2 : Int32) : St_ := if x1 = (2 : Int32) then ui_ σ a0 1 x2 else if x1 = (3 : Int32) then ui_ σ a0 2 x2 else ui_ σ a0 3 x2
set_option maxHeartbeats 4000000 in
set_option maxRecDepth 100000 in
theorem w_X0_put {p : Program} {l : Launch} {e : Env} {R : Room} {s : State} {m : MethodId} {args : Array Value} {below : List Frame} {meth : Method} {c : Code} {κ : Ka_} {G : va_G} {cy : Nat → ClassId} {ad : Nat → Nat} {sz : Nat} {σ0 : St_} (C : CallFix p m c cX0_put 3 s args wU_ RX0) (K : Kx_ κ G cy (va_A (wl_ cy ad σ0) sz) s) (hr : meth.sig.returnType = none) (hlk : meth.locks = false) (hR : 0 ≤ R.frames ∧ 0 ≤ R.locals) {q : St_} : ∀ (σ : St_) (a0 : Nat) (x1 : Int32) (x2 : Int32), Ex_ σ0 σ → kd_ σ a0 = 0 → f_X0_put σ a0 x1 x2 = q → ∀ (H : Heap) (locs : List Loc) (ls : Array Slot), Ht_ G cy (va_A (wl_ cy ad σ0) sz) s ad σ H locs → lv_has ls 3 [(0, .ref (ad a0)), (1, .int x1), (2, .int x2)] → W p l e R s m args below meth c H locs 0 0 (MQ below (Qv_ G cy ad σ0 q sz) args s 0 0 (va_A (wl_ cy ad σ0) sz)) (F0 m 0 ls []) := by
  intro σ a0 x1 x2 hE hk_a0 hf H locs ls h hl
  have hf : (if x1 = (2 : Int32) then ui_ σ a0 1 x2 else if x1 = (3 : Int32) then ui_ σ a0 2 x2 else ui_ σ a0 3 x2) = q := hf
  refine lv_iload_n C.1 C.2.1 dX0_put_0 rfl (lv_at hl 1 rfl) ?_
  by_cases c3 : x1 = (2 : Int32)
  · have hf := if_t hf c3
    refine lv_lookup (off := 27) (tgt := 28) C.1 C.2.1 dX0_put_1 (by decide) (by rw [c3]; decide) (by decide) ?_
    refine lv_aload_n C.1 C.2.1 dX0_put_28 rfl (lv_at hl 0 rfl) ?_
    refine lv_iload_n C.1 C.2.1 dX0_put_29 rfl (lv_at hl 2 rfl) ?_
    refine x_putI C K h cl_0 hk_a0 1 (by decide) fl_RX0_13 rfl rfl rfl (Nat.le_of_ble_eq_true rfl) (fun _ _ _ => rfl) dX0_put_30 (fun H locs h => ?_)
    have hE := hE.up (up_i σ a0 1 x2)
    refine lv_goto (tgt := 49) C.1 C.2.1 dX0_put_33 (by decide) ?_
    exact x_rv C hr hlk h hE hf dX0_put_49
  · have hf := if_f hf c3
    by_cases c4 : x1 = (3 : Int32)
    · have hf := if_t hf c4
      refine lv_lookup (off := 35) (tgt := 36) C.1 C.2.1 dX0_put_1 (by decide) (by rw [c4]; decide) (by decide) ?_
      refine lv_aload_n C.1 C.2.1 dX0_put_36 rfl (lv_at hl 0 rfl) ?_
      refine lv_iload_n C.1 C.2.1 dX0_put_37 rfl (lv_at hl 2 rfl) ?_
      refine x_putI C K h cl_0 hk_a0 2 (by decide) fl_RX0_16 rfl rfl rfl (Nat.le_of_ble_eq_true rfl) (fun _ _ _ => rfl) dX0_put_38 (fun H locs h => ?_)
      have hE := hE.up (up_i σ a0 2 x2)
      refine lv_goto (tgt := 49) C.1 C.2.1 dX0_put_41 (by decide) ?_
      exact x_rv C hr hlk h hE hf dX0_put_49
    · have hf := if_f hf c4
      refine lv_lookup (off := 43) (tgt := 44) C.1 C.2.1 dX0_put_1 (by decide) (lk_f (ne_i c3 (by decide)) (lk_f (ne_i c4 (by decide)) (rfl))) (by decide) ?_
      refine lv_aload_n C.1 C.2.1 dX0_put_44 rfl (lv_at hl 0 rfl) ?_
      refine lv_iload_n C.1 C.2.1 dX0_put_45 rfl (lv_at hl 2 rfl) ?_
      refine x_putI C K h cl_0 hk_a0 3 (by decide) fl_RX0_19 rfl rfl rfl (Nat.le_of_ble_eq_true rfl) (fun _ _ _ => rfl) dX0_put_46 (fun H locs h => ?_)
      have hE := hE.up (up_i σ a0 3 x2)
      exact x_rv C hr hlk h hE hf dX0_put_49
theorem c_X0_put (l : Launch) (κ : Ka_) (G : va_G) (cy : Nat → ClassId) (ad : Nat → Nat) (sz : Nat) (σ : St_) (a0 : Nat) (x1 : Int32) (x2 : Int32) (hk_a0 : kd_ σ a0 = 0) {q : St_} (hf : f_X0_put σ a0 x1 x2 = q) : Met l yX0_put (Cond.code yX0_put cX0_put 3 none :: wU_) { frames := 0, cells := 0, slots := 0, locals := 0 } (va_Pc [.ref (ad a0), .int x1, .int x2] (Pr_ κ G cy ad σ sz)) (Qv_ G cy ad σ q sz) 0 0 (va_A (wl_ cy ad σ) sz) :=
  x_met (by decide) (fun p e R s m below meth c ls hR C hr hlk hin _ K h hl => w_X0_put C K hr hlk ⟨hR.1, hR.2.1⟩ σ a0 x1 x2 Ex_.rf hk_a0 hf s.heap [] ls h hl) (Nat.le_of_ble_eq_true rfl)
