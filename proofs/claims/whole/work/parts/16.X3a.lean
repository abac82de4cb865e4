-- X3_put
theorem mi_X3_put : Mi_ yX3_put cX3_put 2 (some .int) 1 := ⟨co_yX3_put, in_RX3, by decide, by decide, by decide +kernel⟩
def f_X3_put (σ : St_) (a0 : Nat) (x1 : Int32) : Option (Int32 × St_) := (dr_ σ 10 (sr_ σ a0 0)).bind fun b2 => if (f_X8_isBelow (si_ σ a0 1) (nI (ln_ σ b2))) = 0 then some ((-4 : Int32), σ) else (ix_ (si_ σ a0 1) (ln_ σ b2)).bind fun j6 => some (si_ (ui_ (ui_ σ b2 j6 x1) a0 1 ((si_ (ui_ σ b2 j6 x1) a0 1) + (1 : Int32))) a0 1, ui_ (ui_ σ b2 j6 x1) a0 1 ((si_ (ui_ σ b2 j6 x1) a0 1) + (1 : Int32)))
set_option maxHeartbeats 4000000 in
set_option maxRecDepth 100000 in
theorem w_X3_put {p : Program} {l : Launch} {e : Env} {R : Room} {s : State} {m : MethodId} {args : Array Value} {below : List Frame} {meth : Method} {c : Code} {κ : Ka_} {G : va_G} {cy : Nat → ClassId} {ad : Nat → Nat} {sz : Nat} {σ0 : St_} (C : CallFix p m c cX3_put 2 s args wU_ RX3) (K : Kx_ κ G cy (va_A (wl_ cy ad σ0) sz) s) (hr : meth.sig.returnType = some .int) (hlk : meth.locks = false) (hR : 1 ≤ R.frames ∧ 21 ≤ R.locals) {q : Int32 × St_} : ∀ (σ : St_) (a0 : Nat) (x1 : Int32), Ex_ σ0 σ → kd_ σ a0 = 3 → f_X3_put σ a0 x1 = some q → ∀ (H : Heap) (locs : List Loc) (ls : Array Slot), Ht_ G cy (va_A (wl_ cy ad σ0) sz) s ad σ H locs → lv_has ls 2 [(0, .ref (ad a0)), (1, .int x1)] → W p l e R s m args below meth c H locs 0 0 (MQ below (Qi_ G cy ad σ0 q.2 sz q.1) args s 0 0 (va_A (wl_ cy ad σ0) sz)) (F0 m 0 ls []) := by
  intro σ a0 x1 hE hk_a0 hf H locs ls h hl
  have hf : ((dr_ σ 10 (sr_ σ a0 0)).bind fun b2 => if (f_X8_isBelow (si_ σ a0 1) (nI (ln_ σ b2))) = 0 then some ((-4 : Int32), σ) else (ix_ (si_ σ a0 1) (ln_ σ b2)).bind fun j6 => some (si_ (ui_ (ui_ σ b2 j6 x1) a0 1 ((si_ (ui_ σ b2 j6 x1) a0 1) + (1 : Int32))) a0 1, ui_ (ui_ σ b2 j6 x1) a0 1 ((si_ (ui_ σ b2 j6 x1) a0 1) + (1 : Int32)))) = some q := hf
  refine lv_aload_n C.1 C.2.1 dX3_put_0 rfl (lv_at hl 0 rfl) ?_
  refine x_get (v := .int (si_ σ a0 1)) C K h cl_3 hk_a0 1 (by decide) fl_RX3_15 rfl dX3_put_1 ?_
  refine lv_aload_n C.1 C.2.1 dX3_put_4 rfl (lv_at hl 0 rfl) ?_
  obtain ⟨b2, hb_b2, hf⟩ := ob_ hf
  obtain ⟨hq_b2, hk_b2⟩ := dr_in hb_b2
  refine x_get (v := .ref (ad b2)) C K h cl_3 hk_a0 0 (by decide) fl_RX3_9 (hv_r (o := sr_ σ a0 0) rfl hq_b2) dX3_put_5 ?_
  refine x_ilen C K h hk_b2 dX3_put_8 ?_
  refine x_az K h (x_SN C K h [.int (si_ σ a0 1), .int (nI (ln_ σ b2))] (c_X8_isBelow l κ G cy ad H.size σ (si_ σ a0 1) (nI (ln_ σ b2)) rfl) mi_X8_isBelow rfl st_yX8_isBelow nm_RX3_46 ⟨rfl, rfl, Nat.le_trans (Nat.le_of_ble_eq_true rfl) hR.1, Nat.le_trans (Nat.le_of_ble_eq_true rfl) hR.2⟩ hl (Nat.le_of_ble_eq_true rfl) dX3_put_9 ⟨Nat.zero_le _, Nat.zero_le _⟩ rfl) (fun H locs h hX hz4 => ?_)
  refine lv_if_ne (tgt := 18) C.1 C.2.1 dX3_put_12 (by decide) (fun c5 => ?_) (fun c5 => ?_)
  · have hf := if_f hf c5
    refine lv_aload_n C.1 C.2.1 dX3_put_18 rfl (lv_at hl 0 rfl) ?_
    refine x_get (v := .ref (ad b2)) C K h cl_3 hk_a0 0 (by decide) fl_RX3_9 (hv_r (o := sr_ σ a0 0) rfl hq_b2) dX3_put_19 ?_
    refine lv_aload_n C.1 C.2.1 dX3_put_22 rfl (lv_at hl 0 rfl) ?_
    refine x_get (v := .int (si_ σ a0 1)) C K h cl_3 hk_a0 1 (by decide) fl_RX3_15 rfl dX3_put_23 ?_
    refine lv_iload_n C.1 C.2.1 dX3_put_26 rfl (lv_at hl 1 rfl) ?_
    obtain ⟨j6, hj_j6, hf⟩ := ob_ hf
    refine x_iast C K h hk_b2 hj_j6 dX3_put_27 (fun H locs h => ?_)
    have hE := hE.up (up_i σ b2 j6 x1)
    refine lv_aload_n C.1 C.2.1 dX3_put_28 rfl (lv_at hl 0 rfl) ?_
    refine lv_dup C.1 C.2.1 dX3_put_29 rfl ?_
    refine x_get (v := .int (si_ (ui_ σ b2 j6 x1) a0 1)) C K h cl_3 hk_a0 1 (by decide) fl_RX3_15 rfl dX3_put_30 ?_
    refine lv_iconst (v := (1 : Int32)) C.1 C.2.1 dX3_put_33 (by decide) ?_
    refine lv_iadd C.1 C.2.1 dX3_put_34 ?_
    refine x_putI C K h cl_3 hk_a0 1 (by decide) fl_RX3_15 rfl rfl rfl (Nat.le_of_ble_eq_true rfl) (fun _ _ _ => rfl) dX3_put_35 (fun H locs h => ?_)
    have hE := hE.up (up_i (ui_ σ b2 j6 x1) a0 1 ((si_ (ui_ σ b2 j6 x1) a0 1) + (1 : Int32)))
    refine lv_aload_n C.1 C.2.1 dX3_put_38 rfl (lv_at hl 0 rfl) ?_
    refine x_get (v := .int (si_ (ui_ (ui_ σ b2 j6 x1) a0 1 ((si_ (ui_ σ b2 j6 x1) a0 1) + (1 : Int32))) a0 1)) C K h cl_3 hk_a0 1 (by decide) fl_RX3_15 rfl dX3_put_39 ?_
    exact x_ri C hr hlk h hE (pf_1 (Option.some.inj hf)) (pf_2 (Option.some.inj hf)) dX3_put_42
  · have hf := if_t hf c5
    refine lv_bipush (v := (-4 : Int32)) C.1 C.2.1 dX3_put_15 (by decide) ?_
    exact x_ri C hr hlk h hE (pf_1 (Option.some.inj hf)) (pf_2 (Option.some.inj hf)) dX3_put_17
theorem c_X3_put (l : Launch) (κ : Ka_) (G : va_G) (cy : Nat → ClassId) (ad : Nat → Nat) (sz : Nat) (σ : St_) (a0 : Nat) (x1 : Int32) (hk_a0 : kd_ σ a0 = 3) {q : Int32 × St_} (hf : f_X3_put σ a0 x1 = some q) : Met l yX3_put (Cond.code yX3_put cX3_put 2 (some .int) :: wU_) { frames := 1, cells := 0, slots := 0, locals := 21 } (va_Pc [.ref (ad a0), .int x1] (Pr_ κ G cy ad σ sz)) (Qi_ G cy ad σ q.2 sz q.1) 0 0 (va_A (wl_ cy ad σ) sz) :=
  x_met (by decide) (fun p e R s m below meth c ls hR C hr hlk hin _ K h hl => w_X3_put C K hr hlk ⟨hR.1, hR.2.1⟩ σ a0 x1 Ex_.rf hk_a0 hf s.heap [] ls h hl) (Nat.le_of_ble_eq_true rfl)
-- X3_clear
theorem mi_X3_clear : Mi_ yX3_clear cX3_clear 1 none 0 := ⟨co_yX3_clear, in_RX3, by decide, by decide, by decide +kernel⟩
def f_X3_clear (σ : St_) (a0 : Nat) : St_ := ui_ σ a0 1 (0 : Int32)
set_option maxHeartbeats 4000000 in
set_option maxRecDepth 100000 in
theorem w_X3_clear {p : Program} {l : Launch} {e : Env} {R : Room} {s : State} {m : MethodId} {args : Array Value} {below : List Frame} {meth : Method} {c : Code} {κ : Ka_} {G : va_G} {cy : Nat → ClassId} {ad : Nat → Nat} {sz : Nat} {σ0 : St_} (C : CallFix p m c cX3_clear 1 s args wU_ RX3) (K : Kx_ κ G cy (va_A (wl_ cy ad σ0) sz) s) (hr : meth.sig.returnType = none) (hlk : meth.locks = false) (hR : 0 ≤ R.frames ∧ 0 ≤ R.locals) {q : St_} : ∀ (σ : St_) (a0 : Nat), Ex_ σ0 σ → kd_ σ a0 = 3 → f_X3_clear σ a0 = q → ∀ (H : Heap) (locs : List Loc) (ls : Array Slot), Ht_ G cy (va_A (wl_ cy ad σ0) sz) s ad σ H locs → lv_has ls 1 [(0, .ref (ad a0))] → W p l e R s m args below meth c H locs 0 0 (MQ below (Qv_ G cy ad σ0 q sz) args s 0 0 (va_A (wl_ cy ad σ0) sz)) (F0 m 0 ls []) := by
  intro σ a0 hE hk_a0 hf H locs ls h hl
  have hf : (ui_ σ a0 1 (0 : Int32)) = q := hf
  refine lv_aload_n C.1 C.2.1 dX3_clear_0 rfl (lv_at hl 0 rfl) ?_
  refine lv_iconst (v := (0 : Int32)) C.1 C.2.1 dX3_clear_1 (by decide) ?_
  refine x_putI C K h cl_3 hk_a0 1 (by decide) fl_RX3_15 rfl rfl rfl (Nat.le_of_ble_eq_true rfl) (fun _ _ _ => rfl) dX3_clear_2 (fun H locs h => ?_)
  have hE := hE.up (up_i σ a0 1 (0 : Int32))
  exact x_rv C hr hlk h hE hf dX3_clear_5
theorem c_X3_clear (l : Launch) (κ : Ka_) (G : va_G) (cy : Nat → ClassId) (ad : Nat → Nat) (sz : Nat) (σ : St_) (a0 : Nat) (hk_a0 : kd_ σ a0 = 3) {q : St_} (hf : f_X3_clear σ a0 = q) : Met l yX3_clear (Cond.code yX3_clear cX3_clear 1 none :: wU_) { frames := 0, cells := 0, slots := 0, locals := 0 } (va_Pc [.ref (ad a0)] (Pr_ κ G cy ad σ sz)) (Qv_ G cy ad σ q sz) 0 0 (va_A (wl_ cy ad σ) sz) :=
  x_met (by decide) (fun p e R s m below meth c ls hR C hr hlk hin _ K h hl => w_X3_clear C K hr hlk ⟨hR.1, hR.2.1⟩ σ a0 Ex_.rf hk_a0 hf s.heap [] ls h hl) (Nat.le_of_ble_eq_true rfl)
-- X3_place
theorem mi_X3_place : Mi_ yX3_place cX3_place 1 (some .int) 0 := ⟨co_yX3_place, in_RX3, by decide, by decide, by decide +kernel⟩
def f_X3_place (σ : St_) (a0 : Nat) : Option Int32 := if (f_X8_isBelow (si_ σ a0 6) (si_ σ a0 5)) = 0 then some (si_ σ a0 1) else (dr_ σ 10 (sr_ σ a0 3)).bind fun b4 => (ix_ (si_ σ a0 6) (ln_ σ b4)).bind fun j5 => some (si_ σ b4 j5)
set_option maxHeartbeats 4000000 in
set_option maxRecDepth 100000 in
theorem w_X3_place {p : Program} {l : Launch} {e : Env} {R : Room} {s : State} {m : MethodId} {args : Array Value} {below : List Frame} {meth : Method} {c : Code} {κ : Ka_} {G : va_G} {cy : Nat → ClassId} {ad : Nat → Nat} {sz : Nat} {σ : St_} (C : CallFix p m c cX3_place 1 s args wU_ RX3) (K : Kx_ κ G cy (va_A (wl_ cy ad σ) sz) s) (hr : meth.sig.returnType = some .int) (hlk : meth.locks = false) (hR : 1 ≤ R.frames ∧ 21 ≤ R.locals) {q : Int32} : ∀ (a0 : Nat), kd_ σ a0 = 3 → f_X3_place σ a0 = some q → ∀ (H : Heap) (locs : List Loc) (ls : Array Slot), Ht_ G cy (va_A (wl_ cy ad σ) sz) s ad σ H locs → lv_has ls 1 [(0, .ref (ad a0))] → W p l e R s m args below meth c H locs 0 0 (MQ below (Qi_ G cy ad σ σ sz q) args s 0 0 (va_A (wl_ cy ad σ) sz)) (F0 m 0 ls []) := by
  intro a0 hk_a0 hf H locs ls h hl
  have hf : (if (f_X8_isBelow (si_ σ a0 6) (si_ σ a0 5)) = 0 then some (si_ σ a0 1) else (dr_ σ 10 (sr_ σ a0 3)).bind fun b4 => (ix_ (si_ σ a0 6) (ln_ σ b4)).bind fun j5 => some (si_ σ b4 j5)) = some q := hf
  refine lv_aload_n C.1 C.2.1 dX3_place_0 rfl (lv_at hl 0 rfl) ?_
  refine x_get (v := .int (si_ σ a0 6)) C K h cl_3 hk_a0 6 (by decide) fl_RX3_31 rfl dX3_place_1 ?_
  refine lv_aload_n C.1 C.2.1 dX3_place_4 rfl (lv_at hl 0 rfl) ?_
  refine x_get (v := .int (si_ σ a0 5)) C K h cl_3 hk_a0 5 (by decide) fl_RX3_28 rfl dX3_place_5 ?_
  refine x_az K h (x_SN C K h [.int (si_ σ a0 6), .int (si_ σ a0 5)] (c_X8_isBelow l κ G cy ad H.size σ (si_ σ a0 6) (si_ σ a0 5) rfl) mi_X8_isBelow rfl st_yX8_isBelow nm_RX3_46 ⟨rfl, rfl, Nat.le_trans (Nat.le_of_ble_eq_true rfl) hR.1, Nat.le_trans (Nat.le_of_ble_eq_true rfl) hR.2⟩ hl (Nat.le_of_ble_eq_true rfl) dX3_place_8 ⟨Nat.zero_le _, Nat.zero_le _⟩ rfl) (fun H locs h hX hz2 => ?_)
  refine lv_if_eq (tgt := 26) C.1 C.2.1 dX3_place_11 (by decide) (fun c3 => ?_) (fun c3 => ?_)
  · have hf := if_t hf c3
    refine lv_aload_n C.1 C.2.1 dX3_place_26 rfl (lv_at hl 0 rfl) ?_
    refine x_get (v := .int (si_ σ a0 1)) C K h cl_3 hk_a0 1 (by decide) fl_RX3_15 rfl dX3_place_27 ?_
    exact x_ri C hr hlk h Ex_.rf (Option.some.inj hf) rfl dX3_place_30
  · have hf := if_f hf c3
    refine lv_aload_n C.1 C.2.1 dX3_place_14 rfl (lv_at hl 0 rfl) ?_
    obtain ⟨b4, hb_b4, hf⟩ := ob_ hf
    obtain ⟨hq_b4, hk_b4⟩ := dr_in hb_b4
    refine x_get (v := .ref (ad b4)) C K h cl_3 hk_a0 3 (by decide) fl_RX3_22 (hv_r (o := sr_ σ a0 3) rfl hq_b4) dX3_place_15 ?_
    refine lv_aload_n C.1 C.2.1 dX3_place_18 rfl (lv_at hl 0 rfl) ?_
    refine x_get (v := .int (si_ σ a0 6)) C K h cl_3 hk_a0 6 (by decide) fl_RX3_31 rfl dX3_place_19 ?_
    obtain ⟨j5, hj_j5, hf⟩ := ob_ hf
    refine x_iald C K h hk_b4 hj_j5 dX3_place_22 ?_
    refine lv_goto (tgt := 30) C.1 C.2.1 dX3_place_23 (by decide) ?_
    exact x_ri C hr hlk h Ex_.rf (Option.some.inj hf) rfl dX3_place_30
theorem c_X3_place (l : Launch) (κ : Ka_) (G : va_G) (cy : Nat → ClassId) (ad : Nat → Nat) (sz : Nat) (σ : St_) (a0 : Nat) (hk_a0 : kd_ σ a0 = 3) {q : Int32} (hf : f_X3_place σ a0 = some q) : Met l yX3_place (Cond.code yX3_place cX3_place 1 (some .int) :: wU_) { frames := 1, cells := 0, slots := 0, locals := 21 } (va_Pc [.ref (ad a0)] (Pr_ κ G cy ad σ sz)) (Qi_ G cy ad σ σ sz q) 0 0 (va_A (wl_ cy ad σ) sz) :=
  x_met (by decide) (fun p e R s m below meth c ls hR C hr hlk hin _ K h hl => w_X3_place C K hr hlk ⟨hR.1, hR.2.1⟩ a0 hk_a0 hf s.heap [] ls h hl) (Nat.le_of_ble_eq_true rfl)
-- X3_letterAt
theorem mi_X3_letterAt : Mi_ yX3_letterAt cX3_letterAt 2 (some .int) 1 := ⟨co_yX3_letterAt, in_RX3, by decide, by decide, by decide +kernel⟩
def f_X3_letterAt (σ : St_) (a0 : Nat) (x1 : Int32) : Option Int32 := if x1 < 0 then some (-1 : Int32) else if (si_ σ a0 1) ≤ x1 then some (-1 : Int32) else (dr_ σ 10 (sr_ σ a0 0)).bind fun b4 => if (nI (ln_ σ b4)) ≤ x1 then some (-1 : Int32) else (ix_ x1 (ln_ σ b4)).bind fun j6 => some (si_ σ b4 j6)
set_option maxHeartbeats 4000000 in
set_option maxRecDepth 100000 in
theorem w_X3_letterAt {p : Program} {l : Launch} {e : Env} {R : Room} {s : State} {m : MethodId} {args : Array Value} {below : List Frame} {meth : Method} {c : Code} {κ : Ka_} {G : va_G} {cy : Nat → ClassId} {ad : Nat → Nat} {sz : Nat} {σ : St_} (C : CallFix p m c cX3_letterAt 2 s args wU_ RX3) (K : Kx_ κ G cy (va_A (wl_ cy ad σ) sz) s) (hr : meth.sig.returnType = some .int) (hlk : meth.locks = false) (hR : 0 ≤ R.frames ∧ 0 ≤ R.locals) {q : Int32} : ∀ (a0 : Nat) (x1 : Int32), kd_ σ a0 = 3 → f_X3_letterAt σ a0 x1 = some q → ∀ (H : Heap) (locs : List Loc) (ls : Array Slot), Ht_ G cy (va_A (wl_ cy ad σ) sz) s ad σ H locs → lv_has ls 2 [(0, .ref (ad a0)), (1, .int x1)] → W p l e R s m args below meth c H locs 0 0 (MQ below (Qi_ G cy ad σ σ sz q) args s 0 0 (va_A (wl_ cy ad σ) sz)) (F0 m 0 ls []) := by
  intro a0 x1 hk_a0 hf H locs ls h hl
  have hf : (if x1 < 0 then some (-1 : Int32) else if (si_ σ a0 1) ≤ x1 then some (-1 : Int32) else (dr_ σ 10 (sr_ σ a0 0)).bind fun b4 => if (nI (ln_ σ b4)) ≤ x1 then some (-1 : Int32) else (ix_ x1 (ln_ σ b4)).bind fun j6 => some (si_ σ b4 j6)) = some q := hf
  refine lv_iload_n C.1 C.2.1 dX3_letterAt_0 rfl (lv_at hl 1 rfl) ?_
  refine lv_if_lt (tgt := 30) C.1 C.2.1 dX3_letterAt_1 (by decide) (fun c2 => ?_) (fun c2 => ?_)
  · have hf := if_t hf c2
    refine lv_iconst (v := (-1 : Int32)) C.1 C.2.1 dX3_letterAt_30 (by decide) ?_
    exact x_ri C hr hlk h Ex_.rf (Option.some.inj hf) rfl dX3_letterAt_31
  · have hf := if_f hf c2
    refine lv_iload_n C.1 C.2.1 dX3_letterAt_4 rfl (lv_at hl 1 rfl) ?_
    refine lv_aload_n C.1 C.2.1 dX3_letterAt_5 rfl (lv_at hl 0 rfl) ?_
    refine x_get (v := .int (si_ σ a0 1)) C K h cl_3 hk_a0 1 (by decide) fl_RX3_15 rfl dX3_letterAt_6 ?_
    refine lv_icmp_ge (tgt := 30) C.1 C.2.1 dX3_letterAt_9 (by decide) (fun c3 => ?_) (fun c3 => ?_)
    · have hf := if_t hf c3
      refine lv_iconst (v := (-1 : Int32)) C.1 C.2.1 dX3_letterAt_30 (by decide) ?_
      exact x_ri C hr hlk h Ex_.rf (Option.some.inj hf) rfl dX3_letterAt_31
    · have hf := if_f hf c3
      refine lv_iload_n C.1 C.2.1 dX3_letterAt_12 rfl (lv_at hl 1 rfl) ?_
      refine lv_aload_n C.1 C.2.1 dX3_letterAt_13 rfl (lv_at hl 0 rfl) ?_
      obtain ⟨b4, hb_b4, hf⟩ := ob_ hf
      obtain ⟨hq_b4, hk_b4⟩ := dr_in hb_b4
      refine x_get (v := .ref (ad b4)) C K h cl_3 hk_a0 0 (by decide) fl_RX3_9 (hv_r (o := sr_ σ a0 0) rfl hq_b4) dX3_letterAt_14 ?_
      refine x_ilen C K h hk_b4 dX3_letterAt_17 ?_
      refine lv_icmp_ge (tgt := 30) C.1 C.2.1 dX3_letterAt_18 (by decide) (fun c5 => ?_) (fun c5 => ?_)
      · have hf := if_t hf c5
        refine lv_iconst (v := (-1 : Int32)) C.1 C.2.1 dX3_letterAt_30 (by decide) ?_
        exact x_ri C hr hlk h Ex_.rf (Option.some.inj hf) rfl dX3_letterAt_31
      · have hf := if_f hf c5
        refine lv_aload_n C.1 C.2.1 dX3_letterAt_21 rfl (lv_at hl 0 rfl) ?_
        refine x_get (v := .ref (ad b4)) C K h cl_3 hk_a0 0 (by decide) fl_RX3_9 (hv_r (o := sr_ σ a0 0) rfl hq_b4) dX3_letterAt_22 ?_
        refine lv_iload_n C.1 C.2.1 dX3_letterAt_25 rfl (lv_at hl 1 rfl) ?_
        obtain ⟨j6, hj_j6, hf⟩ := ob_ hf
        refine x_iald C K h hk_b4 hj_j6 dX3_letterAt_26 ?_
        refine lv_goto (tgt := 31) C.1 C.2.1 dX3_letterAt_27 (by decide) ?_
        exact x_ri C hr hlk h Ex_.rf (Option.some.inj hf) rfl dX3_letterAt_31
theorem c_X3_letterAt (l : Launch) (κ : Ka_) (G : va_G) (cy : Nat → ClassId) (ad : Nat → Nat) (sz : Nat) (σ : St_) (a0 : Nat) (x1 : Int32) (hk_a0 : kd_ σ a0 = 3) {q : Int32} (hf : f_X3_letterAt σ a0 x1 = some q) : Met l yX3_letterAt (Cond.code yX3_letterAt cX3_letterAt 2 (some .int) :: wU_) { frames := 0, cells := 0, slots := 0, locals := 0 } (va_Pc [.ref (ad a0), .int x1] (Pr_ κ G cy ad σ sz)) (Qi_ G cy ad σ σ sz q) 0 0 (va_A (wl_ cy ad σ) sz) :=
  x_met (by decide) (fun p e R s m below meth c ls hR C hr hlk hin _ K h hl => w_X3_letterAt C K hr hlk ⟨hR.1, hR.2.1⟩ a0 x1 hk_a0 hf s.heap [] ls h hl) (Nat.le_of_ble_eq_true rfl)
-- X3_isLetter
theorem mi_X3_isLetter : Mi_ yX3_isLetter cX3_isLetter 1 (some .boolean) 1 := ⟨co_yX3_isLetter, in_RX3, by decide, by decide, by decide +kernel⟩
def f_X3_isLetter (x1 : Int32) : Int32 := if x1 < (97 : Int32) then (0 : Int32) else if (122 : Int32) < x1 then (0 : Int32) else (1 : Int32)
set_option maxHeartbeats 4000000 in
set_option maxRecDepth 100000 in
theorem w_X3_isLetter {p : Program} {l : Launch} {e : Env} {R : Room} {s : State} {m : MethodId} {args : Array Value} {below : List Frame} {meth : Method} {c : Code} {κ : Ka_} {G : va_G} {cy : Nat → ClassId} {ad : Nat → Nat} {sz : Nat} {σ : St_} (C : CallFix p m c cX3_isLetter 1 s args wU_ RX3) (K : Kx_ κ G cy (va_A (wl_ cy ad σ) sz) s) (hr : meth.sig.returnType = some .boolean) (hlk : meth.locks = false) (hR : 0 ≤ R.frames ∧ 0 ≤ R.locals) {q : Int32} : ∀ (x1 : Int32), f_X3_isLetter x1 = q → ∀ (H : Heap) (locs : List Loc) (ls : Array Slot), Ht_ G cy (va_A (wl_ cy ad σ) sz) s ad σ H locs → lv_has ls 1 [(0, .int x1)] → W p l e R s m args below meth c H locs 0 0 (MQ below (Qz_ G cy ad σ σ sz q) args s 0 0 (va_A (wl_ cy ad σ) sz)) (F0 m 0 ls []) := by
  intro x1 hf H locs ls h hl
  have hf : (if x1 < (97 : Int32) then (0 : Int32) else if (122 : Int32) < x1 then (0 : Int32) else (1 : Int32)) = q := hf
  refine lv_iload_n C.1 C.2.1 dX3_isLetter_0 rfl (lv_at hl 0 rfl) ?_
  refine lv_bipush (v := (97 : Int32)) C.1 C.2.1 dX3_isLetter_1 (by decide) ?_
  refine lv_icmp_lt (tgt := 16) C.1 C.2.1 dX3_isLetter_3 (by decide) (fun c2 => ?_) (fun c2 => ?_)
  · have hf := if_t hf c2
    refine lv_iconst (v := (0 : Int32)) C.1 C.2.1 dX3_isLetter_16 (by decide) ?_
    exact x_rzz C hr hlk h Ex_.rf (by decide) hf rfl dX3_isLetter_17
  · have hf := if_f hf c2
    refine lv_iload_n C.1 C.2.1 dX3_isLetter_6 rfl (lv_at hl 0 rfl) ?_
    refine lv_bipush (v := (122 : Int32)) C.1 C.2.1 dX3_isLetter_7 (by decide) ?_
    refine lv_icmp_gt (tgt := 16) C.1 C.2.1 dX3_isLetter_9 (by decide) (fun c3 => ?_) (fun c3 => ?_)
    · have hf := if_t hf c3
      refine lv_iconst (v := (0 : Int32)) C.1 C.2.1 dX3_isLetter_16 (by decide) ?_
      exact x_rzz C hr hlk h Ex_.rf (by decide) hf rfl dX3_isLetter_17
    · have hf := if_f hf c3
      refine lv_iconst (v := (1 : Int32)) C.1 C.2.1 dX3_isLetter_12 (by decide) ?_
      refine lv_goto (tgt := 17) C.1 C.2.1 dX3_isLetter_13 (by decide) ?_
      exact x_rzz C hr hlk h Ex_.rf (by decide) hf rfl dX3_isLetter_17
theorem c_X3_isLetter (l : Launch) (κ : Ka_) (G : va_G) (cy : Nat → ClassId) (ad : Nat → Nat) (sz : Nat) (σ : St_) (x1 : Int32) {q : Int32} (hf : f_X3_isLetter x1 = q) : Met l yX3_isLetter (Cond.code yX3_isLetter cX3_isLetter 1 (some .boolean) :: wU_) { frames := 0, cells := 0, slots := 0, locals := 0 } (va_Pc [.int x1] (Pr_ κ G cy ad σ sz)) (Qz_ G cy ad σ σ sz q) 0 0 (va_A (wl_ cy ad σ) sz) :=
  x_met (by decide) (fun p e R s m below meth c ls hR C hr hlk hin _ K h hl => w_X3_isLetter C K hr hlk ⟨hR.1, hR.2.1⟩ x1 hf s.heap [] ls h hl) (Nat.le_of_ble_eq_true rfl)
-- X3_wordEnd
theorem mi_X3_wordEnd : Mi_ yX3_wordEnd cX3_wordEnd 4 (some .int) 1 := ⟨co_yX3_wordEnd, in_RX3, by decide, by decide, by decide +kernel⟩
def f_X3_wordEnd_4 (fu : Nat) (σ : St_) : Nat → Nat → Int32 → Int32 → Option Int32
  | 0 => fun _ _ _ => none
  | n + 1 => fun v0  v2  v3 => if (si_ σ v0 1) ≤ v3 then some v2 else (f_X3_letterAt σ v0 v3).bind fun q2 => if (f_X3_isLetter q2) = 0 then some v2 else (f_X3_wordEnd_4 fu σ n) v0 (v3 + (1 : Int32)) (v3 + (1 : Int32))
set_option maxHeartbeats 4000000 in
set_option maxRecDepth 100000 in
theorem w_X3_wordEnd_4 {p : Program} {l : Launch} {e : Env} {R : Room} {s : State} {m : MethodId} {args : Array Value} {below : List Frame} {meth : Method} {c : Code} {κ : Ka_} {G : va_G} {cy : Nat → ClassId} {ad : Nat → Nat} {sz : Nat} {σ : St_} (fu : Nat) (C : CallFix p m c cX3_wordEnd 4 s args wU_ RX3) (K : Kx_ κ G cy (va_A (wl_ cy ad σ) sz) s) (hr : meth.sig.returnType = some .int) (hlk : meth.locks = false) (hR : 1 ≤ R.frames ∧ 21 ≤ R.locals) {q : Int32} : ∀ n : Nat, ∀ (v0 : Nat) (v2 : Int32) (v3 : Int32), kd_ σ v0 = 3 → f_X3_wordEnd_4 fu σ n v0 v2 v3 = some q → ∀ (H : Heap) (locs : List Loc) (ls : Array Slot), Ht_ G cy (va_A (wl_ cy ad σ) sz) s ad σ H locs → lv_has ls 4 [(0, .ref (ad v0)), (2, .int v2), (3, .int v3)] → W p l e R s m args below meth c H locs 0 0 (MQ below (Qi_ G cy ad σ σ sz q) args s 0 0 (va_A (wl_ cy ad σ) sz)) (F0 m 4 ls []) := by
  intro n
  induction n with
  | zero =>
    intro v0 v2 v3 hk_v0 hf H locs ls h hl
    cases hf
  | succ n ih =>
    intro v0 v2 v3 hk_v0 hf H locs ls h hl
    have hf : (if (si_ σ v0 1) ≤ v3 then some v2 else (f_X3_letterAt σ v0 v3).bind fun q2 => if (f_X3_isLetter q2) = 0 then some v2 else (f_X3_wordEnd_4 fu σ n) v0 (v3 + (1 : Int32)) (v3 + (1 : Int32))) = some q := hf
    refine lv_iload_n C.1 C.2.1 dX3_wordEnd_4 rfl (lv_at hl 2 rfl) ?_
    refine lv_aload_n C.1 C.2.1 dX3_wordEnd_5 rfl (lv_at hl 0 rfl) ?_
    refine x_get (v := .int (si_ σ v0 1)) C K h cl_3 hk_v0 1 (by decide) fl_RX3_15 rfl dX3_wordEnd_6 ?_
    refine lv_icmp_ge (tgt := 33) C.1 C.2.1 dX3_wordEnd_9 (by decide) (fun c1 => ?_) (fun c1 => ?_)
    · have hf := if_t hf c1
      refine lv_iload_n C.1 C.2.1 dX3_wordEnd_33 rfl (lv_at hl 1 rfl) ?_
      exact x_ri C hr hlk h Ex_.rf (Option.some.inj hf) rfl dX3_wordEnd_34
    · have hf := if_f hf c1
      refine lv_aload_n C.1 C.2.1 dX3_wordEnd_12 rfl (lv_at hl 0 rfl) ?_
      refine lv_iload_n C.1 C.2.1 dX3_wordEnd_13 rfl (lv_at hl 2 rfl) ?_
      obtain ⟨q2, hq_q2, hf⟩ := ob_ hf
      refine x_ai K h (x_V C K h [.int v3] (c_X3_letterAt l κ G cy ad H.size σ v0 v3 hk_v0 hq_q2) mi_X3_letterAt rfl im_yX3_letterAt se_yX3_letterAt ml_RX3_76 cl_3 hk_v0 ⟨rfl, rfl, Nat.le_trans (Nat.le_of_ble_eq_true rfl) hR.1, Nat.le_trans (Nat.le_of_ble_eq_true rfl) hR.2⟩ hl (Nat.le_of_ble_eq_true rfl) dX3_wordEnd_14 ⟨Nat.zero_le _, Nat.zero_le _⟩ rfl) (fun H locs h hX => ?_)
      refine x_az K h (x_S C K h [.int q2] (c_X3_isLetter l κ G cy ad H.size σ q2 rfl) mi_X3_isLetter rfl st_yX3_isLetter ml_RX3_80 ⟨rfl, rfl, Nat.le_trans (Nat.le_of_ble_eq_true rfl) hR.1, Nat.le_trans (Nat.le_of_ble_eq_true rfl) hR.2⟩ hl (Nat.le_of_ble_eq_true rfl) dX3_wordEnd_17 ⟨Nat.zero_le _, Nat.zero_le _⟩ rfl) (fun H locs h hX hz4 => ?_)
      refine lv_if_eq (tgt := 33) C.1 C.2.1 dX3_wordEnd_20 (by decide) (fun c5 => ?_) (fun c5 => ?_)
      · have hf := if_t hf c5
        refine lv_iload_n C.1 C.2.1 dX3_wordEnd_33 rfl (lv_at hl 1 rfl) ?_
        exact x_ri C hr hlk h Ex_.rf (Option.some.inj hf) rfl dX3_wordEnd_34
      · have hf := if_f hf c5
        refine lv_iload_n C.1 C.2.1 dX3_wordEnd_23 rfl (lv_at hl 2 rfl) ?_
        refine lv_iconst (v := (1 : Int32)) C.1 C.2.1 dX3_wordEnd_24 (by decide) ?_
        refine lv_iadd C.1 C.2.1 dX3_wordEnd_25 ?_
        refine lv_istore_n (i := 2) (lv' := [(2, .int (v3 + (1 : Int32))), (0, .ref (ad v0)), (3, .int v3)]) C.1 C.2.1 dX3_wordEnd_26 rfl hl (by decide) rfl (fun ls hl => ?_)
        refine lv_iinc (v := v3 + (1 : Int32)) (lv' := [(3, .int (v3 + (1 : Int32))), (2, .int (v3 + (1 : Int32))), (0, .ref (ad v0))]) C.1 C.2.1 dX3_wordEnd_27 hl (k := 2) rfl rfl (by decide) rfl (fun ls hl => ?_)
        refine lv_goto (tgt := 4) C.1 C.2.1 dX3_wordEnd_30 (by decide) ?_
        exact ih v0 (v3 + (1 : Int32)) (v3 + (1 : Int32)) hk_v0 hf _ _ _ h (lv_sub hl [2, 1, 0] rfl)
def f_X3_wordEnd (fu : Nat) (σ : St_) (a0 : Nat) (x1 : Int32) : Option Int32 := f_X3_wordEnd_4 fu σ fu a0 x1 x1
set_option maxHeartbeats 4000000 in
set_option maxRecDepth 100000 in
theorem w_X3_wordEnd {p : Program} {l : Launch} {e : Env} {R : Room} {s : State} {m : MethodId} {args : Array Value} {below : List Frame} {meth : Method} {c : Code} {κ : Ka_} {G : va_G} {cy : Nat → ClassId} {ad : Nat → Nat} {sz : Nat} {σ : St_} (fu : Nat) (C : CallFix p m c cX3_wordEnd 4 s args wU_ RX3) (K : Kx_ κ G cy (va_A (wl_ cy ad σ) sz) s) (hr : meth.sig.returnType = some .int) (hlk : meth.locks = false) (hR : 1 ≤ R.frames ∧ 21 ≤ R.locals) {q : Int32} : ∀ (a0 : Nat) (x1 : Int32), kd_ σ a0 = 3 → f_X3_wordEnd fu σ a0 x1 = some q → ∀ (H : Heap) (locs : List Loc) (ls : Array Slot), Ht_ G cy (va_A (wl_ cy ad σ) sz) s ad σ H locs → lv_has ls 4 [(0, .ref (ad a0)), (1, .int x1)] → W p l e R s m args below meth c H locs 0 0 (MQ below (Qi_ G cy ad σ σ sz q) args s 0 0 (va_A (wl_ cy ad σ) sz)) (F0 m 0 ls []) := by
  intro a0 x1 hk_a0 hf H locs ls h hl
  have hf : (f_X3_wordEnd_4 fu σ fu a0 x1 x1) = some q := hf
  refine lv_iload_n C.1 C.2.1 dX3_wordEnd_0 rfl (lv_at hl 1 rfl) ?_
  refine lv_istore_n (i := 2) (lv' := [(2, .int x1), (0, .ref (ad a0)), (1, .int x1)]) C.1 C.2.1 dX3_wordEnd_1 rfl hl (by decide) rfl (fun ls hl => ?_)
  refine lv_iload_n C.1 C.2.1 dX3_wordEnd_2 rfl (lv_at hl 2 rfl) ?_
  refine lv_istore_n (i := 3) (lv' := [(3, .int x1), (2, .int x1), (0, .ref (ad a0)), (1, .int x1)]) C.1 C.2.1 dX3_wordEnd_3 rfl hl (by decide) rfl (fun ls hl => ?_)
  exact w_X3_wordEnd_4 fu C K hr hlk hR fu a0 x1 x1 hk_a0 hf _ _ _ h (lv_sub hl [2, 1, 0] rfl)
theorem c_X3_wordEnd (fu : Nat) (l : Launch) (κ : Ka_) (G : va_G) (cy : Nat → ClassId) (ad : Nat → Nat) (sz : Nat) (σ : St_) (a0 : Nat) (x1 : Int32) (hk_a0 : kd_ σ a0 = 3) {q : Int32} (hf : f_X3_wordEnd fu σ a0 x1 = some q) : Met l yX3_wordEnd (Cond.code yX3_wordEnd cX3_wordEnd 4 (some .int) :: wU_) { frames := 1, cells := 0, slots := 0, locals := 21 } (va_Pc [.ref (ad a0), .int x1] (Pr_ κ G cy ad σ sz)) (Qi_ G cy ad σ σ sz q) 0 0 (va_A (wl_ cy ad σ) sz) :=
  x_met (by decide) (fun p e R s m below meth c ls hR C hr hlk hin _ K h hl => w_X3_wordEnd fu C K hr hlk ⟨hR.1, hR.2.1⟩ a0 x1 hk_a0 hf s.heap [] ls h hl) (Nat.le_of_ble_eq_true rfl)
-- X3_spells
theorem mi_X3_spells : Mi_ yX3_spells cX3_spells 5 (some .boolean) 3 := ⟨co_yX3_spells, in_RX3, by decide, by decide, by decide +kernel⟩
def f_X3_spells_15 (fu : Nat) (σ : St_) : Nat → Nat → Int32 → Nat → Int32 → Option Int32
  | 0 => fun _ _ _ _ => none
  | n + 1 => fun v0  v1  v3  v4 => if (nI (sLen_.getD v3 0)) ≤ v4 then some (1 : Int32) else (f_X3_letterAt σ v0 (v1 + v4)).bind fun q2 => (ix_ v4 (sLen_.getD v3 0)).bind fun j3 => if q2 = ((sByt_.getD v3 []).getD j3 0) then (f_X3_spells_15 fu σ n) v0 v1 v3 (v4 + (1 : Int32)) else some (0 : Int32)
set_option maxHeartbeats 4000000 in
set_option maxRecDepth 100000 in
theorem w_X3_spells_15 {p : Program} {l : Launch} {e : Env} {R : Room} {s : State} {m : MethodId} {args : Array Value} {below : List Frame} {meth : Method} {c : Code} {κ : Ka_} {G : va_G} {cy : Nat → ClassId} {ad : Nat → Nat} {sz : Nat} {σ : St_} (fu : Nat) (C : CallFix p m c cX3_spells 5 s args wU_ RX3) (K : Kx_ κ G cy (va_A (wl_ cy ad σ) sz) s) (hr : meth.sig.returnType = some .boolean) (hlk : meth.locks = false) (hR : 6 ≤ R.frames ∧ 200 ≤ R.locals) {q : Int32} : ∀ n : Nat, ∀ (v0 : Nat) (v1 : Int32) (v3 : Nat) (v4 : Int32), kd_ σ v0 = 3 → v3 < 13 → f_X3_spells_15 fu σ n v0 v1 v3 v4 = some q → ∀ (H : Heap) (locs : List Loc) (ls : Array Slot), Ht_ G cy (va_A (wl_ cy ad σ) sz) s ad σ H locs → lv_has ls 5 [(0, .ref (ad v0)), (1, .int v1), (3, .ref (κ.1 v3)), (4, .int v4)] → W p l e R s m args below meth c H locs 0 0 (MQ below (Qz_ G cy ad σ σ sz q) args s 0 0 (va_A (wl_ cy ad σ) sz)) (F0 m 15 ls []) := by
  intro n
  induction n with
  | zero =>
    intro v0 v1 v3 v4 hk_v0 hk_v3 hf H locs ls h hl
    cases hf
  | succ n ih =>
    intro v0 v1 v3 v4 hk_v0 hk_v3 hf H locs ls h hl
    have hf : (if (nI (sLen_.getD v3 0)) ≤ v4 then some (1 : Int32) else (f_X3_letterAt σ v0 (v1 + v4)).bind fun q2 => (ix_ v4 (sLen_.getD v3 0)).bind fun j3 => if q2 = ((sByt_.getD v3 []).getD j3 0) then (f_X3_spells_15 fu σ n) v0 v1 v3 (v4 + (1 : Int32)) else some (0 : Int32)) = some q := hf
    refine lv_iload C.1 C.2.1 dX3_spells_15 (lv_at hl 3 rfl) ?_
    refine lv_aload_n C.1 C.2.1 dX3_spells_17 rfl (lv_at hl 2 rfl) ?_
    refine x_ai K h (x_VS C K h hk_v3 [] (c_J0_length_8abf5 l κ G cy ad H.size σ v3 hk_v3) mi_J0_length_8abf5 rfl im_yJ0_length_8abf5 se_yJ0_length_8abf5 ml_RX3_133 ⟨rfl, rfl, Nat.le_trans (Nat.le_of_ble_eq_true rfl) hR.1, Nat.le_trans (Nat.le_of_ble_eq_true rfl) hR.2⟩ hl (Nat.le_of_ble_eq_true rfl) dX3_spells_18 ⟨Nat.zero_le _, Nat.zero_le _⟩ rfl) (fun H locs h hX => ?_)
    refine lv_icmp_ge (tgt := 49) C.1 C.2.1 dX3_spells_21 (by decide) (fun c1 => ?_) (fun c1 => ?_)
    · have hf := if_t hf c1
      refine lv_iconst (v := (1 : Int32)) C.1 C.2.1 dX3_spells_49 (by decide) ?_
      exact x_rzz C hr hlk h Ex_.rf (by decide) (Option.some.inj hf) rfl dX3_spells_50
    · have hf := if_f hf c1
      refine lv_aload_n C.1 C.2.1 dX3_spells_24 rfl (lv_at hl 0 rfl) ?_
      refine lv_iload_n C.1 C.2.1 dX3_spells_25 rfl (lv_at hl 1 rfl) ?_
      refine lv_iload C.1 C.2.1 dX3_spells_26 (lv_at hl 3 rfl) ?_
      refine lv_iadd C.1 C.2.1 dX3_spells_28 ?_
      obtain ⟨q2, hq_q2, hf⟩ := ob_ hf
      refine x_ai K h (x_V C K h [.int (v1 + v4)] (c_X3_letterAt l κ G cy ad H.size σ v0 (v1 + v4) hk_v0 hq_q2) mi_X3_letterAt rfl im_yX3_letterAt se_yX3_letterAt ml_RX3_76 cl_3 hk_v0 ⟨rfl, rfl, Nat.le_trans (Nat.le_of_ble_eq_true rfl) hR.1, Nat.le_trans (Nat.le_of_ble_eq_true rfl) hR.2⟩ hl (Nat.le_of_ble_eq_true rfl) dX3_spells_29 ⟨Nat.zero_le _, Nat.zero_le _⟩ rfl) (fun H locs h hX => ?_)
      refine lv_aload_n C.1 C.2.1 dX3_spells_32 rfl (lv_at hl 2 rfl) ?_
      refine lv_iload C.1 C.2.1 dX3_spells_33 (lv_at hl 3 rfl) ?_
      obtain ⟨j3, hj_j3, hf⟩ := ob_ hf
      refine x_ai K h (x_VS C K h hk_v3 [.int v4] (c_J0_charAt_5068e l κ G cy ad H.size σ v3 v4 hk_v3 hj_j3) mi_J0_charAt_5068e rfl im_yJ0_charAt_5068e se_yJ0_charAt_5068e ml_RX3_138 ⟨rfl, rfl, Nat.le_trans (Nat.le_of_ble_eq_true rfl) hR.1, Nat.le_trans (Nat.le_of_ble_eq_true rfl) hR.2⟩ hl (Nat.le_of_ble_eq_true rfl) dX3_spells_35 ⟨Nat.zero_le _, Nat.zero_le _⟩ rfl) (fun H locs h hX => ?_)
      refine lv_icmp_eq (tgt := 43) C.1 C.2.1 dX3_spells_38 (by decide) (fun c4 => ?_) (fun c4 => ?_)
      · have hf := if_t hf c4
        refine lv_iinc (v := v4 + (1 : Int32)) (lv' := [(4, .int (v4 + (1 : Int32))), (0, .ref (ad v0)), (1, .int v1), (3, .ref (κ.1 v3))]) C.1 C.2.1 dX3_spells_43 hl (k := 3) rfl rfl (by decide) rfl (fun ls hl => ?_)
        refine lv_goto (tgt := 15) C.1 C.2.1 dX3_spells_46 (by decide) ?_
        exact ih v0 v1 v3 (v4 + (1 : Int32)) hk_v0 hk_v3 hf _ _ _ h (lv_sub hl [1, 2, 3, 0] rfl)
      · have hf := if_f hf c4
        refine lv_iconst (v := (0 : Int32)) C.1 C.2.1 dX3_spells_41 (by decide) ?_
        exact x_rzz C hr hlk h Ex_.rf (by decide) (Option.some.inj hf) rfl dX3_spells_42
def f_X3_spells (fu : Nat) (σ : St_) (a0 : Nat) (x1 : Int32) (x2 : Int32) (x3 : Nat) : Option Int32 := if (x2 - x1) = (nI (sLen_.getD x3 0)) then f_X3_spells_15 fu σ fu a0 x1 x3 (0 : Int32) else some (0 : Int32)
set_option maxHeartbeats 4000000 in
set_option maxRecDepth 100000 in
theorem w_X3_spells {p : Program} {l : Launch} {e : Env} {R : Room} {s : State} {m : MethodId} {args : Array Value} {below : List Frame} {meth : Method} {c : Code} {κ : Ka_} {G : va_G} {cy : Nat → ClassId} {ad : Nat → Nat} {sz : Nat} {σ : St_} (fu : Nat) (C : CallFix p m c cX3_spells 5 s args wU_ RX3) (K : Kx_ κ G cy (va_A (wl_ cy ad σ) sz) s) (hr : meth.sig.returnType = some .boolean) (hlk : meth.locks = false) (hR : 6 ≤ R.frames ∧ 200 ≤ R.locals) {q : Int32} : ∀ (a0 : Nat) (x1 : Int32) (x2 : Int32) (x3 : Nat), kd_ σ a0 = 3 → x3 < 13 → f_X3_spells fu σ a0 x1 x2 x3 = some q → ∀ (H : Heap) (locs : List Loc) (ls : Array Slot), Ht_ G cy (va_A (wl_ cy ad σ) sz) s ad σ H locs → lv_has ls 5 [(0, .ref (ad a0)), (1, .int x1), (2, .int x2), (3, .ref (κ.1 x3))] → W p l e R s m args below meth c H locs 0 0 (MQ below (Qz_ G cy ad σ σ sz q) args s 0 0 (va_A (wl_ cy ad σ) sz)) (F0 m 0 ls []) := by
  intro a0 x1 x2 x3 hk_a0 hk_x3 hf H locs ls h hl
  have hf : (if (x2 - x1) = (nI (sLen_.getD x3 0)) then f_X3_spells_15 fu σ fu a0 x1 x3 (0 : Int32) else some (0 : Int32)) = some q := hf
  refine lv_iload_n C.1 C.2.1 dX3_spells_0 rfl (lv_at hl 2 rfl) ?_
  refine lv_iload_n C.1 C.2.1 dX3_spells_1 rfl (lv_at hl 1 rfl) ?_
  refine lv_isub C.1 C.2.1 dX3_spells_2 ?_
  refine lv_aload_n C.1 C.2.1 dX3_spells_3 rfl (lv_at hl 3 rfl) ?_
  refine x_ai K h (x_VS C K h hk_x3 [] (c_J0_length_8abf5 l κ G cy ad H.size σ x3 hk_x3) mi_J0_length_8abf5 rfl im_yJ0_length_8abf5 se_yJ0_length_8abf5 ml_RX3_133 ⟨rfl, rfl, Nat.le_trans (Nat.le_of_ble_eq_true rfl) hR.1, Nat.le_trans (Nat.le_of_ble_eq_true rfl) hR.2⟩ hl (Nat.le_of_ble_eq_true rfl) dX3_spells_4 ⟨Nat.zero_le _, Nat.zero_le _⟩ rfl) (fun H locs h hX => ?_)
  refine lv_icmp_eq (tgt := 12) C.1 C.2.1 dX3_spells_7 (by decide) (fun c4 => ?_) (fun c4 => ?_)
  · have hf := if_t hf c4
    refine lv_iconst (v := (0 : Int32)) C.1 C.2.1 dX3_spells_12 (by decide) ?_
    refine lv_istore (i := 4) (lv' := [(4, .int (0 : Int32)), (0, .ref (ad a0)), (1, .int x1), (2, .int x2), (3, .ref (κ.1 x3))]) C.1 C.2.1 dX3_spells_13 hl (by decide) rfl (fun ls hl => ?_)
    exact w_X3_spells_15 fu C K hr hlk hR fu a0 x1 x3 (0 : Int32) hk_a0 hk_x3 hf _ _ _ h (lv_sub hl [1, 2, 4, 0] rfl)
  · have hf := if_f hf c4
    refine lv_iconst (v := (0 : Int32)) C.1 C.2.1 dX3_spells_10 (by decide) ?_
    exact x_rzz C hr hlk h Ex_.rf (by decide) (Option.some.inj hf) rfl dX3_spells_11
theorem c_X3_spells (fu : Nat) (l : Launch) (κ : Ka_) (G : va_G) (cy : Nat → ClassId) (ad : Nat → Nat) (sz : Nat) (σ : St_) (a0 : Nat) (x1 : Int32) (x2 : Int32) (x3 : Nat) (hk_a0 : kd_ σ a0 = 3) (hk_x3 : x3 < 13) {q : Int32} (hf : f_X3_spells fu σ a0 x1 x2 x3 = some q) : Met l yX3_spells (Cond.code yX3_spells cX3_spells 5 (some .boolean) :: wU_) { frames := 6, cells := 0, slots := 0, locals := 200 } (va_Pc [.ref (ad a0), .int x1, .int x2, .ref (κ.1 x3)] (Pr_ κ G cy ad σ sz)) (Qz_ G cy ad σ σ sz q) 0 0 (va_A (wl_ cy ad σ) sz) :=
  x_met (by decide) (fun p e R s m below meth c ls hR C hr hlk hin _ K h hl => w_X3_spells fu C K hr hlk ⟨hR.1, hR.2.1⟩ a0 x1 x2 x3 hk_a0 hk_x3 hf s.heap [] ls h hl) (Nat.le_of_ble_eq_true rfl)
-- X3_wordToken
theorem mi_X3_wordToken : Mi_ yX3_wordToken cX3_wordToken 3 (some .int) 2 := ⟨co_yX3_wordToken, in_RX3, by decide, by decide, by decide +kernel⟩
def f_X3_wordToken (fu : Nat) (σ : St_) (a0 : Nat) (x1 : Int32) (x2 : Int32) : Option Int32 := (f_X3_spells fu σ a0 x1 x2 1).bind fun q3 => if q3 = 0 then (f_X3_spells fu σ a0 x1 x2 2).bind fun q6 => if q6 = 0 then (f_X3_spells fu σ a0 x1 x2 3).bind fun q9 => if q9 = 0 then (f_X3_spells fu σ a0 x1 x2 4).bind fun q12 => if q12 = 0 then (f_X3_spells fu σ a0 x1 x2 5).bind fun q15 => if q15 = 0 then (f_X3_spells fu σ a0 x1 x2 6).bind fun q18 => if q18 = 0 then (f_X3_spells fu σ a0 x1 x2 7).bind fun q21 => if q21 = 0 then (f_X3_spells fu σ a0 x1 x2 8).bind fun q24 => if q24 = 0 then (f_X3_spells fu σ a0 x1 x2 9).bind fun q27 => if q27 = 0 then (f_X3_spells fu σ a0 x1 x2 10).bind fun q30 => if q30 = 0 then (f_X3_spells fu σ a0 x1 x2 11).bind fun q33 => if q33 = 0 then (f_X3_spells fu σ a0 x1 x2 12).bind fun q36 => if q36 = 0 then some (1 : Int32) else some (9 : Int32) else some (8 : Int32) else some (7 : Int32) else some (6 : Int32) else some (5 : Int32) else some (4 : Int32) else some (21 : Int32) else some (20 : Int32) else some (19 : Int32) else some (18 : Int32) else some (17 : Int32) else some (16 : Int32)
set_option maxHeartbeats 4000000 in
set_option maxRecDepth 100000 in
theorem w_X3_wordToken {p : Program} {l : Launch} {e : Env} {R : Room} {s : State} {m : MethodId} {args : Array Value} {below : List Frame} {meth : Method} {c : Code} {κ : Ka_} {G : va_G} {cy : Nat → ClassId} {ad : Nat → Nat} {sz : Nat} {σ : St_} (fu : Nat) (C : CallFix p m c cX3_wordToken 3 s args wU_ RX3) (K : Kx_ κ G cy (va_A (wl_ cy ad σ) sz) s) (hr : meth.sig.returnType = some .int) (hlk : meth.locks = false) (hR : 7 ≤ R.frames ∧ 224 ≤ R.locals) {q : Int32} : ∀ (a0 : Nat) (x1 : Int32) (x2 : Int32), kd_ σ a0 = 3 → f_X3_wordToken fu σ a0 x1 x2 = some q → ∀ (H : Heap) (locs : List Loc) (ls : Array Slot), Ht_ G cy (va_A (wl_ cy ad σ) sz) s ad σ H locs → lv_has ls 3 [(0, .ref (ad a0)), (1, .int x1), (2, .int x2)] → W p l e R s m args below meth c H locs 0 0 (MQ below (Qi_ G cy ad σ σ sz q) args s 0 0 (va_A (wl_ cy ad σ) sz)) (F0 m 0 ls []) := by
  intro a0 x1 x2 hk_a0 hf H locs ls h hl
  have hf : ((f_X3_spells fu σ a0 x1 x2 1).bind fun q3 => if q3 = 0 then (f_X3_spells fu σ a0 x1 x2 2).bind fun q6 => if q6 = 0 then (f_X3_spells fu σ a0 x1 x2 3).bind fun q9 => if q9 = 0 then (f_X3_spells fu σ a0 x1 x2 4).bind fun q12 => if q12 = 0 then (f_X3_spells fu σ a0 x1 x2 5).bind fun q15 => if q15 = 0 then (f_X3_spells fu σ a0 x1 x2 6).bind fun q18 => if q18 = 0 then (f_X3_spells fu σ a0 x1 x2 7).bind fun q21 => if q21 = 0 then (f_X3_spells fu σ a0 x1 x2 8).bind fun q24 => if q24 = 0 then (f_X3_spells fu σ a0 x1 x2 9).bind fun q27 => if q27 = 0 then (f_X3_spells fu σ a0 x1 x2 10).bind fun q30 => if q30 = 0 then (f_X3_spells fu σ a0 x1 x2 11).bind fun q33 => if q33 = 0 then (f_X3_spells fu σ a0 x1 x2 12).bind fun q36 => if q36 = 0 then some (1 : Int32) else some (9 : Int32) else some (8 : Int32) else some (7 : Int32) else some (6 : Int32) else some (5 : Int32) else some (4 : Int32) else some (21 : Int32) else some (20 : Int32) else some (19 : Int32) else some (18 : Int32) else some (17 : Int32) else some (16 : Int32)) = some q := hf
  refine lv_aload_n C.1 C.2.1 dX3_wordToken_0 rfl (lv_at hl 0 rfl) ?_
  refine lv_iload_n C.1 C.2.1 dX3_wordToken_1 rfl (lv_at hl 1 rfl) ?_
  refine lv_iload_n C.1 C.2.1 dX3_wordToken_2 rfl (lv_at hl 2 rfl) ?_
  refine va_ldcS C.1 C.2.1 C.2.2.2.1 (K.2.1.2.1 1 (by decide)) dX3_wordToken_3 ?_
  obtain ⟨q3, hq_q3, hf⟩ := ob_ hf
  refine x_az K h (x_V C K h [.int x1, .int x2, .ref (κ.1 1)] (c_X3_spells fu l κ G cy ad H.size σ a0 x1 x2 1 hk_a0 (by decide) hq_q3) mi_X3_spells rfl im_yX3_spells se_yX3_spells ml_RX3_107 cl_3 hk_a0 ⟨rfl, rfl, Nat.le_trans (Nat.le_of_ble_eq_true rfl) hR.1, Nat.le_trans (Nat.le_of_ble_eq_true rfl) hR.2⟩ hl (Nat.le_of_ble_eq_true rfl) dX3_wordToken_5 ⟨Nat.zero_le _, Nat.zero_le _⟩ rfl) (fun H locs h hX hz4 => ?_)
  refine lv_if_eq (tgt := 16) C.1 C.2.1 dX3_wordToken_8 (by decide) (fun c5 => ?_) (fun c5 => ?_)
  · have hf := if_t hf c5
    refine lv_aload_n C.1 C.2.1 dX3_wordToken_16 rfl (lv_at hl 0 rfl) ?_
    refine lv_iload_n C.1 C.2.1 dX3_wordToken_17 rfl (lv_at hl 1 rfl) ?_
    refine lv_iload_n C.1 C.2.1 dX3_wordToken_18 rfl (lv_at hl 2 rfl) ?_
    refine va_ldcS C.1 C.2.1 C.2.2.2.1 (K.2.1.2.1 2 (by decide)) dX3_wordToken_19 ?_
    obtain ⟨q6, hq_q6, hf⟩ := ob_ hf
    refine x_az K h (x_V C K h [.int x1, .int x2, .ref (κ.1 2)] (c_X3_spells fu l κ G cy ad H.size σ a0 x1 x2 2 hk_a0 (by decide) hq_q6) mi_X3_spells rfl im_yX3_spells se_yX3_spells ml_RX3_107 cl_3 hk_a0 ⟨rfl, rfl, Nat.le_trans (Nat.le_of_ble_eq_true rfl) hR.1, Nat.le_trans (Nat.le_of_ble_eq_true rfl) hR.2⟩ hl (Nat.le_of_ble_eq_true rfl) dX3_wordToken_21 ⟨Nat.zero_le _, Nat.zero_le _⟩ rfl) (fun H locs h hX hz7 => ?_)
    refine lv_if_eq (tgt := 32) C.1 C.2.1 dX3_wordToken_24 (by decide) (fun c8 => ?_) (fun c8 => ?_)
    · have hf := if_t hf c8
      refine lv_aload_n C.1 C.2.1 dX3_wordToken_32 rfl (lv_at hl 0 rfl) ?_
      refine lv_iload_n C.1 C.2.1 dX3_wordToken_33 rfl (lv_at hl 1 rfl) ?_
      refine lv_iload_n C.1 C.2.1 dX3_wordToken_34 rfl (lv_at hl 2 rfl) ?_
      refine va_ldcS C.1 C.2.1 C.2.2.2.1 (K.2.1.2.1 3 (by decide)) dX3_wordToken_35 ?_
      obtain ⟨q9, hq_q9, hf⟩ := ob_ hf
      refine x_az K h (x_V C K h [.int x1, .int x2, .ref (κ.1 3)] (c_X3_spells fu l κ G cy ad H.size σ a0 x1 x2 3 hk_a0 (by decide) hq_q9) mi_X3_spells rfl im_yX3_spells se_yX3_spells ml_RX3_107 cl_3 hk_a0 ⟨rfl, rfl, Nat.le_trans (Nat.le_of_ble_eq_true rfl) hR.1, Nat.le_trans (Nat.le_of_ble_eq_true rfl) hR.2⟩ hl (Nat.le_of_ble_eq_true rfl) dX3_wordToken_37 ⟨Nat.zero_le _, Nat.zero_le _⟩ rfl) (fun H locs h hX hz10 => ?_)
      refine lv_if_eq (tgt := 48) C.1 C.2.1 dX3_wordToken_40 (by decide) (fun c11 => ?_) (fun c11 => ?_)
      · have hf := if_t hf c11
        refine lv_aload_n C.1 C.2.1 dX3_wordToken_48 rfl (lv_at hl 0 rfl) ?_
        refine lv_iload_n C.1 C.2.1 dX3_wordToken_49 rfl (lv_at hl 1 rfl) ?_
        refine lv_iload_n C.1 C.2.1 dX3_wordToken_50 rfl (lv_at hl 2 rfl) ?_
        refine va_ldcS C.1 C.2.1 C.2.2.2.1 (K.2.1.2.1 4 (by decide)) dX3_wordToken_51 ?_
        obtain ⟨q12, hq_q12, hf⟩ := ob_ hf
        refine x_az K h (x_V C K h [.int x1, .int x2, .ref (κ.1 4)] (c_X3_spells fu l κ G cy ad H.size σ a0 x1 x2 4 hk_a0 (by decide) hq_q12) mi_X3_spells rfl im_yX3_spells se_yX3_spells ml_RX3_107 cl_3 hk_a0 ⟨rfl, rfl, Nat.le_trans (Nat.le_of_ble_eq_true rfl) hR.1, Nat.le_trans (Nat.le_of_ble_eq_true rfl) hR.2⟩ hl (Nat.le_of_ble_eq_true rfl) dX3_wordToken_53 ⟨Nat.zero_le _, Nat.zero_le _⟩ rfl) (fun H locs h hX hz13 => ?_)
        refine lv_if_eq (tgt := 64) C.1 C.2.1 dX3_wordToken_56 (by decide) (fun c14 => ?_) (fun c14 => ?_)
        · have hf := if_t hf c14
          refine lv_aload_n C.1 C.2.1 dX3_wordToken_64 rfl (lv_at hl 0 rfl) ?_
          refine lv_iload_n C.1 C.2.1 dX3_wordToken_65 rfl (lv_at hl 1 rfl) ?_
          refine lv_iload_n C.1 C.2.1 dX3_wordToken_66 rfl (lv_at hl 2 rfl) ?_
          refine va_ldcS C.1 C.2.1 C.2.2.2.1 (K.2.1.2.1 5 (by decide)) dX3_wordToken_67 ?_
          obtain ⟨q15, hq_q15, hf⟩ := ob_ hf
          refine x_az K h (x_V C K h [.int x1, .int x2, .ref (κ.1 5)] (c_X3_spells fu l κ G cy ad H.size σ a0 x1 x2 5 hk_a0 (by decide) hq_q15) mi_X3_spells rfl im_yX3_spells se_yX3_spells ml_RX3_107 cl_3 hk_a0 ⟨rfl, rfl, Nat.le_trans (Nat.le_of_ble_eq_true rfl) hR.1, Nat.le_trans (Nat.le_of_ble_eq_true rfl) hR.2⟩ hl (Nat.le_of_ble_eq_true rfl) dX3_wordToken_69 ⟨Nat.zero_le _, Nat.zero_le _⟩ rfl) (fun H locs h hX hz16 => ?_)
          refine lv_if_eq (tgt := 80) C.1 C.2.1 dX3_wordToken_72 (by decide) (fun c17 => ?_) (fun c17 => ?_)
          · have hf := if_t hf c17
            refine lv_aload_n C.1 C.2.1 dX3_wordToken_80 rfl (lv_at hl 0 rfl) ?_
            refine lv_iload_n C.1 C.2.1 dX3_wordToken_81 rfl (lv_at hl 1 rfl) ?_
            refine lv_iload_n C.1 C.2.1 dX3_wordToken_82 rfl (lv_at hl 2 rfl) ?_
            refine va_ldcS C.1 C.2.1 C.2.2.2.1 (K.2.1.2.1 6 (by decide)) dX3_wordToken_83 ?_
            obtain ⟨q18, hq_q18, hf⟩ := ob_ hf
            refine x_az K h (x_V C K h [.int x1, .int x2, .ref (κ.1 6)] (c_X3_spells fu l κ G cy ad H.size σ a0 x1 x2 6 hk_a0 (by decide) hq_q18) mi_X3_spells rfl im_yX3_spells se_yX3_spells ml_RX3_107 cl_3 hk_a0 ⟨rfl, rfl, Nat.le_trans (Nat.le_of_ble_eq_true rfl) hR.1, Nat.le_trans (Nat.le_of_ble_eq_true rfl) hR.2⟩ hl (Nat.le_of_ble_eq_true rfl) dX3_wordToken_85 ⟨Nat.zero_le _, Nat.zero_le _⟩ rfl) (fun H locs h hX hz19 => ?_)
            refine lv_if_eq (tgt := 96) C.1 C.2.1 dX3_wordToken_88 (by decide) (fun c20 => ?_) (fun c20 => ?_)
            · have hf := if_t hf c20
              refine lv_aload_n C.1 C.2.1 dX3_wordToken_96 rfl (lv_at hl 0 rfl) ?_
              refine lv_iload_n C.1 C.2.1 dX3_wordToken_97 rfl (lv_at hl 1 rfl) ?_
              refine lv_iload_n C.1 C.2.1 dX3_wordToken_98 rfl (lv_at hl 2 rfl) ?_
              refine va_ldcS C.1 C.2.1 C.2.2.2.1 (K.2.1.2.1 7 (by decide)) dX3_wordToken_99 ?_
              obtain ⟨q21, hq_q21, hf⟩ := ob_ hf
              refine x_az K h (x_V C K h [.int x1, .int x2, .ref (κ.1 7)] (c_X3_spells fu l κ G cy ad H.size σ a0 x1 x2 7 hk_a0 (by decide) hq_q21) mi_X3_spells rfl im_yX3_spells se_yX3_spells ml_RX3_107 cl_3 hk_a0 ⟨rfl, rfl, Nat.le_trans (Nat.le_of_ble_eq_true rfl) hR.1, Nat.le_trans (Nat.le_of_ble_eq_true rfl) hR.2⟩ hl (Nat.le_of_ble_eq_true rfl) dX3_wordToken_101 ⟨Nat.zero_le _, Nat.zero_le _⟩ rfl) (fun H locs h hX hz22 => ?_)
              refine lv_if_eq (tgt := 111) C.1 C.2.1 dX3_wordToken_104 (by decide) (fun c23 => ?_) (fun c23 => ?_)
              · have hf := if_t hf c23
                refine lv_aload_n C.1 C.2.1 dX3_wordToken_111 rfl (lv_at hl 0 rfl) ?_
                refine lv_iload_n C.1 C.2.1 dX3_wordToken_112 rfl (lv_at hl 1 rfl) ?_
                refine lv_iload_n C.1 C.2.1 dX3_wordToken_113 rfl (lv_at hl 2 rfl) ?_
                refine va_ldcS C.1 C.2.1 C.2.2.2.1 (K.2.1.2.1 8 (by decide)) dX3_wordToken_114 ?_
                obtain ⟨q24, hq_q24, hf⟩ := ob_ hf
                refine x_az K h (x_V C K h [.int x1, .int x2, .ref (κ.1 8)] (c_X3_spells fu l κ G cy ad H.size σ a0 x1 x2 8 hk_a0 (by decide) hq_q24) mi_X3_spells rfl im_yX3_spells se_yX3_spells ml_RX3_107 cl_3 hk_a0 ⟨rfl, rfl, Nat.le_trans (Nat.le_of_ble_eq_true rfl) hR.1, Nat.le_trans (Nat.le_of_ble_eq_true rfl) hR.2⟩ hl (Nat.le_of_ble_eq_true rfl) dX3_wordToken_116 ⟨Nat.zero_le _, Nat.zero_le _⟩ rfl) (fun H locs h hX hz25 => ?_)
                refine lv_if_eq (tgt := 126) C.1 C.2.1 dX3_wordToken_119 (by decide) (fun c26 => ?_) (fun c26 => ?_)
                · have hf := if_t hf c26
                  refine lv_aload_n C.1 C.2.1 dX3_wordToken_126 rfl (lv_at hl 0 rfl) ?_
                  refine lv_iload_n C.1 C.2.1 dX3_wordToken_127 rfl (lv_at hl 1 rfl) ?_
                  refine lv_iload_n C.1 C.2.1 dX3_wordToken_128 rfl (lv_at hl 2 rfl) ?_
                  refine va_ldcS C.1 C.2.1 C.2.2.2.1 (K.2.1.2.1 9 (by decide)) dX3_wordToken_129 ?_
                  obtain ⟨q27, hq_q27, hf⟩ := ob_ hf
                  refine x_az K h (x_V C K h [.int x1, .int x2, .ref (κ.1 9)] (c_X3_spells fu l κ G cy ad H.size σ a0 x1 x2 9 hk_a0 (by decide) hq_q27) mi_X3_spells rfl im_yX3_spells se_yX3_spells ml_RX3_107 cl_3 hk_a0 ⟨rfl, rfl, Nat.le_trans (Nat.le_of_ble_eq_true rfl) hR.1, Nat.le_trans (Nat.le_of_ble_eq_true rfl) hR.2⟩ hl (Nat.le_of_ble_eq_true rfl) dX3_wordToken_131 ⟨Nat.zero_le _, Nat.zero_le _⟩ rfl) (fun H locs h hX hz28 => ?_)
                  refine lv_if_eq (tgt := 142) C.1 C.2.1 dX3_wordToken_134 (by decide) (fun c29 => ?_) (fun c29 => ?_)
                  · have hf := if_t hf c29
                    refine lv_aload_n C.1 C.2.1 dX3_wordToken_142 rfl (lv_at hl 0 rfl) ?_
                    refine lv_iload_n C.1 C.2.1 dX3_wordToken_143 rfl (lv_at hl 1 rfl) ?_
                    refine lv_iload_n C.1 C.2.1 dX3_wordToken_144 rfl (lv_at hl 2 rfl) ?_
                    refine va_ldcS C.1 C.2.1 C.2.2.2.1 (K.2.1.2.1 10 (by decide)) dX3_wordToken_145 ?_
                    obtain ⟨q30, hq_q30, hf⟩ := ob_ hf
                    refine x_az K h (x_V C K h [.int x1, .int x2, .ref (κ.1 10)] (c_X3_spells fu l κ G cy ad H.size σ a0 x1 x2 10 hk_a0 (by decide) hq_q30) mi_X3_spells rfl im_yX3_spells se_yX3_spells ml_RX3_107 cl_3 hk_a0 ⟨rfl, rfl, Nat.le_trans (Nat.le_of_ble_eq_true rfl) hR.1, Nat.le_trans (Nat.le_of_ble_eq_true rfl) hR.2⟩ hl (Nat.le_of_ble_eq_true rfl) dX3_wordToken_147 ⟨Nat.zero_le _, Nat.zero_le _⟩ rfl) (fun H locs h hX hz31 => ?_)
                    refine lv_if_eq (tgt := 158) C.1 C.2.1 dX3_wordToken_150 (by decide) (fun c32 => ?_) (fun c32 => ?_)
                    · have hf := if_t hf c32
                      refine lv_aload_n C.1 C.2.1 dX3_wordToken_158 rfl (lv_at hl 0 rfl) ?_
                      refine lv_iload_n C.1 C.2.1 dX3_wordToken_159 rfl (lv_at hl 1 rfl) ?_
                      refine lv_iload_n C.1 C.2.1 dX3_wordToken_160 rfl (lv_at hl 2 rfl) ?_
                      refine va_ldcS C.1 C.2.1 C.2.2.2.1 (K.2.1.2.1 11 (by decide)) dX3_wordToken_161 ?_
                      obtain ⟨q33, hq_q33, hf⟩ := ob_ hf
                      refine x_az K h (x_V C K h [.int x1, .int x2, .ref (κ.1 11)] (c_X3_spells fu l κ G cy ad H.size σ a0 x1 x2 11 hk_a0 (by decide) hq_q33) mi_X3_spells rfl im_yX3_spells se_yX3_spells ml_RX3_107 cl_3 hk_a0 ⟨rfl, rfl, Nat.le_trans (Nat.le_of_ble_eq_true rfl) hR.1, Nat.le_trans (Nat.le_of_ble_eq_true rfl) hR.2⟩ hl (Nat.le_of_ble_eq_true rfl) dX3_wordToken_163 ⟨Nat.zero_le _, Nat.zero_le _⟩ rfl) (fun H locs h hX hz34 => ?_)
                      refine lv_if_eq (tgt := 174) C.1 C.2.1 dX3_wordToken_166 (by decide) (fun c35 => ?_) (fun c35 => ?_)
                      · have hf := if_t hf c35
                        refine lv_aload_n C.1 C.2.1 dX3_wordToken_174 rfl (lv_at hl 0 rfl) ?_
                        refine lv_iload_n C.1 C.2.1 dX3_wordToken_175 rfl (lv_at hl 1 rfl) ?_
                        refine lv_iload_n C.1 C.2.1 dX3_wordToken_176 rfl (lv_at hl 2 rfl) ?_
                        refine va_ldcS C.1 C.2.1 C.2.2.2.1 (K.2.1.2.1 12 (by decide)) dX3_wordToken_177 ?_
                        obtain ⟨q36, hq_q36, hf⟩ := ob_ hf
                        refine x_az K h (x_V C K h [.int x1, .int x2, .ref (κ.1 12)] (c_X3_spells fu l κ G cy ad H.size σ a0 x1 x2 12 hk_a0 (by decide) hq_q36) mi_X3_spells rfl im_yX3_spells se_yX3_spells ml_RX3_107 cl_3 hk_a0 ⟨rfl, rfl, Nat.le_trans (Nat.le_of_ble_eq_true rfl) hR.1, Nat.le_trans (Nat.le_of_ble_eq_true rfl) hR.2⟩ hl (Nat.le_of_ble_eq_true rfl) dX3_wordToken_179 ⟨Nat.zero_le _, Nat.zero_le _⟩ rfl) (fun H locs h hX hz37 => ?_)
                        refine lv_if_eq (tgt := 190) C.1 C.2.1 dX3_wordToken_182 (by decide) (fun c38 => ?_) (fun c38 => ?_)
                        · have hf := if_t hf c38
                          refine lv_iconst (v := (1 : Int32)) C.1 C.2.1 dX3_wordToken_190 (by decide) ?_
                          exact x_ri C hr hlk h Ex_.rf (Option.some.inj hf) rfl dX3_wordToken_191
                        · have hf := if_f hf c38
                          refine lv_bipush (v := (9 : Int32)) C.1 C.2.1 dX3_wordToken_185 (by decide) ?_
                          refine lv_goto (tgt := 191) C.1 C.2.1 dX3_wordToken_187 (by decide) ?_
                          exact x_ri C hr hlk h Ex_.rf (Option.some.inj hf) rfl dX3_wordToken_191
                      · have hf := if_f hf c35
                        refine lv_bipush (v := (8 : Int32)) C.1 C.2.1 dX3_wordToken_169 (by decide) ?_
                        refine lv_goto (tgt := 191) C.1 C.2.1 dX3_wordToken_171 (by decide) ?_
                        exact x_ri C hr hlk h Ex_.rf (Option.some.inj hf) rfl dX3_wordToken_191
                    · have hf := if_f hf c32
                      refine lv_bipush (v := (7 : Int32)) C.1 C.2.1 dX3_wordToken_153 (by decide) ?_
                      refine lv_goto (tgt := 191) C.1 C.2.1 dX3_wordToken_155 (by decide) ?_
                      exact x_ri C hr hlk h Ex_.rf (Option.some.inj hf) rfl dX3_wordToken_191
                  · have hf := if_f hf c29
                    refine lv_bipush (v := (6 : Int32)) C.1 C.2.1 dX3_wordToken_137 (by decide) ?_
                    refine lv_goto (tgt := 191) C.1 C.2.1 dX3_wordToken_139 (by decide) ?_
                    exact x_ri C hr hlk h Ex_.rf (Option.some.inj hf) rfl dX3_wordToken_191
                · have hf := if_f hf c26
                  refine lv_iconst (v := (5 : Int32)) C.1 C.2.1 dX3_wordToken_122 (by decide) ?_
                  refine lv_goto (tgt := 191) C.1 C.2.1 dX3_wordToken_123 (by decide) ?_
                  exact x_ri C hr hlk h Ex_.rf (Option.some.inj hf) rfl dX3_wordToken_191
              · have hf := if_f hf c23
                refine lv_iconst (v := (4 : Int32)) C.1 C.2.1 dX3_wordToken_107 (by decide) ?_
                refine lv_goto (tgt := 191) C.1 C.2.1 dX3_wordToken_108 (by decide) ?_
                exact x_ri C hr hlk h Ex_.rf (Option.some.inj hf) rfl dX3_wordToken_191
            · have hf := if_f hf c20
              refine lv_bipush (v := (21 : Int32)) C.1 C.2.1 dX3_wordToken_91 (by decide) ?_
              refine lv_goto (tgt := 191) C.1 C.2.1 dX3_wordToken_93 (by decide) ?_
              exact x_ri C hr hlk h Ex_.rf (Option.some.inj hf) rfl dX3_wordToken_191
          · have hf := if_f hf c17
            refine lv_bipush (v := (20 : Int32)) C.1 C.2.1 dX3_wordToken_75 (by decide) ?_
            refine lv_goto (tgt := 191) C.1 C.2.1 dX3_wordToken_77 (by decide) ?_
            exact x_ri C hr hlk h Ex_.rf (Option.some.inj hf) rfl dX3_wordToken_191
        · have hf := if_f hf c14
          refine lv_bipush (v := (19 : Int32)) C.1 C.2.1 dX3_wordToken_59 (by decide) ?_
          refine lv_goto (tgt := 191) C.1 C.2.1 dX3_wordToken_61 (by decide) ?_
          exact x_ri C hr hlk h Ex_.rf (Option.some.inj hf) rfl dX3_wordToken_191
      · have hf := if_f hf c11
        refine lv_bipush (v := (18 : Int32)) C.1 C.2.1 dX3_wordToken_43 (by decide) ?_
        refine lv_goto (tgt := 191) C.1 C.2.1 dX3_wordToken_45 (by decide) ?_
        exact x_ri C hr hlk h Ex_.rf (Option.some.inj hf) rfl dX3_wordToken_191
    · have hf := if_f hf c8
      refine lv_bipush (v := (17 : Int32)) C.1 C.2.1 dX3_wordToken_27 (by decide) ?_
      refine lv_goto (tgt := 191) C.1 C.2.1 dX3_wordToken_29 (by decide) ?_
      exact x_ri C hr hlk h Ex_.rf (Option.some.inj hf) rfl dX3_wordToken_191
  · have hf := if_f hf c5
    refine lv_bipush (v := (16 : Int32)) C.1 C.2.1 dX3_wordToken_11 (by decide) ?_
    refine lv_goto (tgt := 191) C.1 C.2.1 dX3_wordToken_13 (by decide) ?_
    exact x_ri C hr hlk h Ex_.rf (Option.some.inj hf) rfl dX3_wordToken_191
theorem c_X3_wordToken (fu : Nat) (l : Launch) (κ : Ka_) (G : va_G) (cy : Nat → ClassId) (ad : Nat → Nat) (sz : Nat) (σ : St_) (a0 : Nat) (x1 : Int32) (x2 : Int32) (hk_a0 : kd_ σ a0 = 3) {q : Int32} (hf : f_X3_wordToken fu σ a0 x1 x2 = some q) : Met l yX3_wordToken (Cond.code yX3_wordToken cX3_wordToken 3 (some .int) :: wU_) { frames := 7, cells := 0, slots := 0, locals := 224 } (va_Pc [.ref (ad a0), .int x1, .int x2] (Pr_ κ G cy ad σ sz)) (Qi_ G cy ad σ σ sz q) 0 0 (va_A (wl_ cy ad σ) sz) :=
  x_met (by decide) (fun p e R s m below meth c ls hR C hr hlk hin _ K h hl => w_X3_wordToken fu C K hr hlk ⟨hR.1, hR.2.1⟩ a0 x1 x2 hk_a0 hf s.heap [] ls h hl) (Nat.le_of_ble_eq_true rfl)
-- X3_addToken
theorem mi_X3_addToken : Mi_ yX3_addToken cX3_addToken 4 none 3 := ⟨co_yX3_addToken, in_RX3, by decide, by decide, by decide +kernel⟩
def f_X3_addToken (σ : St_) (a0 : Nat) (x1 : Int32) (x2 : Int32) (x3 : Int32) : Option St_ := (dr_ σ 10 (sr_ σ a0 2)).bind fun b4 => if (f_X8_isBelow (si_ σ a0 5) (nI (ln_ σ b4))) = 0 then some σ else (ix_ (si_ σ a0 5) (ln_ σ b4)).bind fun j8 => (dr_ (ui_ σ b4 j8 x1) 10 (sr_ (ui_ σ b4 j8 x1) a0 3)).bind fun b9 => (ix_ (si_ (ui_ σ b4 j8 x1) a0 5) (ln_ (ui_ σ b4 j8 x1) b9)).bind fun j10 => (dr_ (ui_ (ui_ σ b4 j8 x1) b9 j10 x2) 10 (sr_ (ui_ (ui_ σ b4 j8 x1) b9 j10 x2) a0 4)).bind fun b11 => (ix_ (si_ (ui_ (ui_ σ b4 j8 x1) b9 j10 x2) a0 5) (ln_ (ui_ (ui_ σ b4 j8 x1) b9 j10 x2) b11)).bind fun j12 => some (ui_ (ui_ (ui_ (ui_ σ b4 j8 x1) b9 j10 x2) b11 j12 x3) a0 5 ((si_ (ui_ (ui_ (ui_ σ b4 j8 x1) b9 j10 x2) b11 j12 x3) a0 5) + (1 : Int32)))
set_option maxHeartbeats 4000000 in
set_option maxRecDepth 100000 in
theorem w_X3_addToken {p : Program} {l : Launch} {e : Env} {R : Room} {s : State} {m : MethodId} {args : Array Value} {below : List Frame} {meth : Method} {c : Code} {κ : Ka_} {G : va_G} {cy : Nat → ClassId} {ad : Nat → Nat} {sz : Nat} {σ0 : St_} (C : CallFix p m c cX3_addToken 4 s args wU_ RX3) (K : Kx_ κ G cy (va_A (wl_ cy ad σ0) sz) s) (hr : meth.sig.returnType = none) (hlk : meth.locks = false) (hR : 1 ≤ R.frames ∧ 21 ≤ R.locals) {q : St_} : ∀ (σ : St_) (a0 : Nat) (x1 : Int32) (x2 : Int32) (x3 : Int32), Ex_ σ0 σ → kd_ σ a0 = 3 → f_X3_addToken σ a0 x1 x2 x3 = some q → ∀ (H : Heap) (locs : List Loc) (ls : Array Slot), Ht_ G cy (va_A (wl_ cy ad σ0) sz) s ad σ H locs → lv_has ls 4 [(0, .ref (ad a0)), (1, .int x1), (2, .int x2), (3, .int x3)] → W p l e R s m args below meth c H locs 0 0 (MQ below (Qv_ G cy ad σ0 q sz) args s 0 0 (va_A (wl_ cy ad σ0) sz)) (F0 m 0 ls []) := by
  intro σ a0 x1 x2 x3 hE hk_a0 hf H locs ls h hl
  have hf : ((dr_ σ 10 (sr_ σ a0 2)).bind fun b4 => if (f_X8_isBelow (si_ σ a0 5) (nI (ln_ σ b4))) = 0 then some σ else (ix_ (si_ σ a0 5) (ln_ σ b4)).bind fun j8 => (dr_ (ui_ σ b4 j8 x1) 10 (sr_ (ui_ σ b4 j8 x1) a0 3)).bind fun b9 => (ix_ (si_ (ui_ σ b4 j8 x1) a0 5) (ln_ (ui_ σ b4 j8 x1) b9)).bind fun j10 => (dr_ (ui_ (ui_ σ b4 j8 x1) b9 j10 x2) 10 (sr_ (ui_ (ui_ σ b4 j8 x1) b9 j10 x2) a0 4)).bind fun b11 => (ix_ (si_ (ui_ (ui_ σ b4 j8 x1) b9 j10 x2) a0 5) (ln_ (ui_ (ui_ σ b4 j8 x1) b9 j10 x2) b11)).bind fun j12 => some (ui_ (ui_ (ui_ (ui_ σ b4 j8 x1) b9 j10 x2) b11 j12 x3) a0 5 ((si_ (ui_ (ui_ (ui_ σ b4 j8 x1) b9 j10 x2) b11 j12 x3) a0 5) + (1 : Int32)))) = some q := hf
  refine lv_aload_n C.1 C.2.1 dX3_addToken_0 rfl (lv_at hl 0 rfl) ?_
  refine x_get (v := .int (si_ σ a0 5)) C K h cl_3 hk_a0 5 (by decide) fl_RX3_28 rfl dX3_addToken_1 ?_
  refine lv_aload_n C.1 C.2.1 dX3_addToken_4 rfl (lv_at hl 0 rfl) ?_
  obtain ⟨b4, hb_b4, hf⟩ := ob_ hf
  obtain ⟨hq_b4, hk_b4⟩ := dr_in hb_b4
  refine x_get (v := .ref (ad b4)) C K h cl_3 hk_a0 2 (by decide) fl_RX3_19 (hv_r (o := sr_ σ a0 2) rfl hq_b4) dX3_addToken_5 ?_
  refine x_ilen C K h hk_b4 dX3_addToken_8 ?_
  refine x_az K h (x_SN C K h [.int (si_ σ a0 5), .int (nI (ln_ σ b4))] (c_X8_isBelow l κ G cy ad H.size σ (si_ σ a0 5) (nI (ln_ σ b4)) rfl) mi_X8_isBelow rfl st_yX8_isBelow nm_RX3_46 ⟨rfl, rfl, Nat.le_trans (Nat.le_of_ble_eq_true rfl) hR.1, Nat.le_trans (Nat.le_of_ble_eq_true rfl) hR.2⟩ hl (Nat.le_of_ble_eq_true rfl) dX3_addToken_9 ⟨Nat.zero_le _, Nat.zero_le _⟩ rfl) (fun H locs h hX hz6 => ?_)
  refine lv_if_eq (tgt := 55) C.1 C.2.1 dX3_addToken_12 (by decide) (fun c7 => ?_) (fun c7 => ?_)
  · have hf := if_t hf c7
    exact x_rv C hr hlk h hE (Option.some.inj hf) dX3_addToken_55
  · have hf := if_f hf c7
    refine lv_aload_n C.1 C.2.1 dX3_addToken_15 rfl (lv_at hl 0 rfl) ?_
    refine x_get (v := .ref (ad b4)) C K h cl_3 hk_a0 2 (by decide) fl_RX3_19 (hv_r (o := sr_ σ a0 2) rfl hq_b4) dX3_addToken_16 ?_
    refine lv_aload_n C.1 C.2.1 dX3_addToken_19 rfl (lv_at hl 0 rfl) ?_
    refine x_get (v := .int (si_ σ a0 5)) C K h cl_3 hk_a0 5 (by decide) fl_RX3_28 rfl dX3_addToken_20 ?_
    refine lv_iload_n C.1 C.2.1 dX3_addToken_23 rfl (lv_at hl 1 rfl) ?_
    obtain ⟨j8, hj_j8, hf⟩ := ob_ hf
    refine x_iast C K h hk_b4 hj_j8 dX3_addToken_24 (fun H locs h => ?_)
    have hE := hE.up (up_i σ b4 j8 x1)
    refine lv_aload_n C.1 C.2.1 dX3_addToken_25 rfl (lv_at hl 0 rfl) ?_
    obtain ⟨b9, hb_b9, hf⟩ := ob_ hf
    obtain ⟨hq_b9, hk_b9⟩ := dr_in hb_b9
    refine x_get (v := .ref (ad b9)) C K h cl_3 hk_a0 3 (by decide) fl_RX3_22 (hv_r (o := sr_ (ui_ σ b4 j8 x1) a0 3) rfl hq_b9) dX3_addToken_26 ?_
    refine lv_aload_n C.1 C.2.1 dX3_addToken_29 rfl (lv_at hl 0 rfl) ?_
    refine x_get (v := .int (si_ (ui_ σ b4 j8 x1) a0 5)) C K h cl_3 hk_a0 5 (by decide) fl_RX3_28 rfl dX3_addToken_30 ?_
    refine lv_iload_n C.1 C.2.1 dX3_addToken_33 rfl (lv_at hl 2 rfl) ?_
    obtain ⟨j10, hj_j10, hf⟩ := ob_ hf
    refine x_iast C K h hk_b9 hj_j10 dX3_addToken_34 (fun H locs h => ?_)
    have hE := hE.up (up_i (ui_ σ b4 j8 x1) b9 j10 x2)
    refine lv_aload_n C.1 C.2.1 dX3_addToken_35 rfl (lv_at hl 0 rfl) ?_
    obtain ⟨b11, hb_b11, hf⟩ := ob_ hf
    obtain ⟨hq_b11, hk_b11⟩ := dr_in hb_b11
    refine x_get (v := .ref (ad b11)) C K h cl_3 hk_a0 4 (by decide) fl_RX3_25 (hv_r (o := sr_ (ui_ (ui_ σ b4 j8 x1) b9 j10 x2) a0 4) rfl hq_b11) dX3_addToken_36 ?_
    refine lv_aload_n C.1 C.2.1 dX3_addToken_39 rfl (lv_at hl 0 rfl) ?_
    refine x_get (v := .int (si_ (ui_ (ui_ σ b4 j8 x1) b9 j10 x2) a0 5)) C K h cl_3 hk_a0 5 (by decide) fl_RX3_28 rfl dX3_addToken_40 ?_
    refine lv_iload_n C.1 C.2.1 dX3_addToken_43 rfl (lv_at hl 3 rfl) ?_
    obtain ⟨j12, hj_j12, hf⟩ := ob_ hf
    refine x_iast C K h hk_b11 hj_j12 dX3_addToken_44 (fun H locs h => ?_)
    have hE := hE.up (up_i (ui_ (ui_ σ b4 j8 x1) b9 j10 x2) b11 j12 x3)
    refine lv_aload_n C.1 C.2.1 dX3_addToken_45 rfl (lv_at hl 0 rfl) ?_
    refine lv_dup C.1 C.2.1 dX3_addToken_46 rfl ?_
    refine x_get (v := .int (si_ (ui_ (ui_ (ui_ σ b4 j8 x1) b9 j10 x2) b11 j12 x3) a0 5)) C K h cl_3 hk_a0 5 (by decide) fl_RX3_28 rfl dX3_addToken_47 ?_
    refine lv_iconst (v := (1 : Int32)) C.1 C.2.1 dX3_addToken_50 (by decide) ?_
    refine lv_iadd C.1 C.2.1 dX3_addToken_51 ?_
    refine x_putI C K h cl_3 hk_a0 5 (by decide) fl_RX3_28 rfl rfl rfl (Nat.le_of_ble_eq_true rfl) (fun _ _ _ => rfl) dX3_addToken_52 (fun H locs h => ?_)
    have hE := hE.up (up_i (ui_ (ui_ (ui_ σ b4 j8 x1) b9 j10 x2) b11 j12 x3) a0 5 ((si_ (ui_ (ui_ (ui_ σ b4 j8 x1) b9 j10 x2) b11 j12 x3) a0 5) + (1 : Int32)))
    exact x_rv C hr hlk h hE (Option.some.inj hf) dX3_addToken_55
theorem c_X3_addToken (l : Launch) (κ : Ka_) (G : va_G) (cy : Nat → ClassId) (ad : Nat → Nat) (sz : Nat) (σ : St_) (a0 : Nat) (x1 : Int32) (x2 : Int32) (x3 : Int32) (hk_a0 : kd_ σ a0 = 3) {q : St_} (hf : f_X3_addToken σ a0 x1 x2 x3 = some q) : Met l yX3_addToken (Cond.code yX3_addToken cX3_addToken 4 none :: wU_) { frames := 1, cells := 0, slots := 0, locals := 21 } (va_Pc [.ref (ad a0), .int x1, .int x2, .int x3] (Pr_ κ G cy ad σ sz)) (Qv_ G cy ad σ q sz) 0 0 (va_A (wl_ cy ad σ) sz) :=
  x_met (by decide) (fun p e R s m below meth c ls hR C hr hlk hin _ K h hl => w_X3_addToken C K hr hlk ⟨hR.1, hR.2.1⟩ σ a0 x1 x2 x3 Ex_.rf hk_a0 hf s.heap [] ls h hl) (Nat.le_of_ble_eq_true rfl)
-- X3_isDigit
theorem mi_X3_isDigit : Mi_ yX3_isDigit cX3_isDigit 1 (some .boolean) 1 := ⟨co_yX3_isDigit, in_RX3, by decide, by decide, by decide +kernel⟩
def f_X3_isDigit (x1 : Int32) : Int32 := if x1 < (48 : Int32) then (0 : Int32) else if (57 : Int32) < x1 then (0 : Int32) else (1 : Int32)
set_option maxHeartbeats 4000000 in
set_option maxRecDepth 100000 in
theorem w_X3_isDigit {p : Program} {l : Launch} {e : Env} {R : Room} {s : State} {m : MethodId} {args : Array Value} {below : List Frame} {meth : Method} {c : Code} {κ : Ka_} {G : va_G} {cy : Nat → ClassId} {ad : Nat → Nat} {sz : Nat} {σ : St_} (C : CallFix p m c cX3_isDigit 1 s args wU_ RX3) (K : Kx_ κ G cy (va_A (wl_ cy ad σ) sz) s) (hr : meth.sig.returnType = some .boolean) (hlk : meth.locks = false) (hR : 0 ≤ R.frames ∧ 0 ≤ R.locals) {q : Int32} : ∀ (x1 : Int32), f_X3_isDigit x1 = q → ∀ (H : Heap) (locs : List Loc) (ls : Array Slot), Ht_ G cy (va_A (wl_ cy ad σ) sz) s ad σ H locs → lv_has ls 1 [(0, .int x1)] → W p l e R s m args below meth c H locs 0 0 (MQ below (Qz_ G cy ad σ σ sz q) args s 0 0 (va_A (wl_ cy ad σ) sz)) (F0 m 0 ls []) := by
  intro x1 hf H locs ls h hl
  have hf : (if x1 < (48 : Int32) then (0 : Int32) else if (57 : Int32) < x1 then (0 : Int32) else (1 : Int32)) = q := hf
  refine lv_iload_n C.1 C.2.1 dX3_isDigit_0 rfl (lv_at hl 0 rfl) ?_
  refine lv_bipush (v := (48 : Int32)) C.1 C.2.1 dX3_isDigit_1 (by decide) ?_
  refine lv_icmp_lt (tgt := 16) C.1 C.2.1 dX3_isDigit_3 (by decide) (fun c2 => ?_) (fun c2 => ?_)
  · have hf := if_t hf c2
    refine lv_iconst (v := (0 : Int32)) C.1 C.2.1 dX3_isDigit_16 (by decide) ?_
    exact x_rzz C hr hlk h Ex_.rf (by decide) hf rfl dX3_isDigit_17
  · have hf := if_f hf c2
    refine lv_iload_n C.1 C.2.1 dX3_isDigit_6 rfl (lv_at hl 0 rfl) ?_
    refine lv_bipush (v := (57 : Int32)) C.1 C.2.1 dX3_isDigit_7 (by decide) ?_
    refine lv_icmp_gt (tgt := 16) C.1 C.2.1 dX3_isDigit_9 (by decide) (fun c3 => ?_) (fun c3 => ?_)
    · have hf := if_t hf c3
      refine lv_iconst (v := (0 : Int32)) C.1 C.2.1 dX3_isDigit_16 (by decide) ?_
      exact x_rzz C hr hlk h Ex_.rf (by decide) hf rfl dX3_isDigit_17
    · have hf := if_f hf c3
      refine lv_iconst (v := (1 : Int32)) C.1 C.2.1 dX3_isDigit_12 (by decide) ?_
      refine lv_goto (tgt := 17) C.1 C.2.1 dX3_isDigit_13 (by decide) ?_
      exact x_rzz C hr hlk h Ex_.rf (by decide) hf rfl dX3_isDigit_17
theorem c_X3_isDigit (l : Launch) (κ : Ka_) (G : va_G) (cy : Nat → ClassId) (ad : Nat → Nat) (sz : Nat) (σ : St_) (x1 : Int32) {q : Int32} (hf : f_X3_isDigit x1 = q) : Met l yX3_isDigit (Cond.code yX3_isDigit cX3_isDigit 1 (some .boolean) :: wU_) { frames := 0, cells := 0, slots := 0, locals := 0 } (va_Pc [.int x1] (Pr_ κ G cy ad σ sz)) (Qz_ G cy ad σ σ sz q) 0 0 (va_A (wl_ cy ad σ) sz) :=
  x_met (by decide) (fun p e R s m below meth c ls hR C hr hlk hin _ K h hl => w_X3_isDigit C K hr hlk ⟨hR.1, hR.2.1⟩ x1 hf s.heap [] ls h hl) (Nat.le_of_ble_eq_true rfl)
-- X3_numberEnd
theorem mi_X3_numberEnd : Mi_ yX3_numberEnd cX3_numberEnd 4 (some .int) 1 := ⟨co_yX3_numberEnd, in_RX3, by decide, by decide, by decide +kernel⟩
def f_X3_numberEnd_4 (fu : Nat) (σ : St_) : Nat → Nat → Int32 → Int32 → Option Int32
  | 0 => fun _ _ _ => none
  | n + 1 => fun v0  v2  v3 => if (si_ σ v0 1) ≤ v3 then some v2 else (f_X3_letterAt σ v0 v3).bind fun q2 => if (f_X3_isDigit q2) = 0 then some v2 else (f_X3_numberEnd_4 fu σ n) v0 (v3 + (1 : Int32)) (v3 + (1 : Int32))
set_option maxHeartbeats 4000000 in
set_option maxRecDepth 100000 in
theorem w_X3_numberEnd_4 {p : Program} {l : Launch} {e : Env} {R : Room} {s : State} {m : MethodId} {args : Array Value} {below : List Frame} {meth : Method} {c : Code} {κ : Ka_} {G : va_G} {cy : Nat → ClassId} {ad : Nat → Nat} {sz : Nat} {σ : St_} (fu : Nat) (C : CallFix p m c cX3_numberEnd 4 s args wU_ RX3) (K : Kx_ κ G cy (va_A (wl_ cy ad σ) sz) s) (hr : meth.sig.returnType = some .int) (hlk : meth.locks = false) (hR : 1 ≤ R.frames ∧ 21 ≤ R.locals) {q : Int32} : ∀ n : Nat, ∀ (v0 : Nat) (v2 : Int32) (v3 : Int32), kd_ σ v0 = 3 → f_X3_numberEnd_4 fu σ n v0 v2 v3 = some q → ∀ (H : Heap) (locs : List Loc) (ls : Array Slot), Ht_ G cy (va_A (wl_ cy ad σ) sz) s ad σ H locs → lv_has ls 4 [(0, .ref (ad v0)), (2, .int v2), (3, .int v3)] → W p l e R s m args below meth c H locs 0 0 (MQ below (Qi_ G cy ad σ σ sz q) args s 0 0 (va_A (wl_ cy ad σ) sz)) (F0 m 4 ls []) := by
  intro n
  induction n with
  | zero =>
    intro v0 v2 v3 hk_v0 hf H locs ls h hl
    cases hf
  | succ n ih =>
    intro v0 v2 v3 hk_v0 hf H locs ls h hl
    have hf : (if (si_ σ v0 1) ≤ v3 then some v2 else (f_X3_letterAt σ v0 v3).bind fun q2 => if (f_X3_isDigit q2) = 0 then some v2 else (f_X3_numberEnd_4 fu σ n) v0 (v3 + (1 : Int32)) (v3 + (1 : Int32))) = some q := hf
    refine lv_iload_n C.1 C.2.1 dX3_numberEnd_4 rfl (lv_at hl 2 rfl) ?_
    refine lv_aload_n C.1 C.2.1 dX3_numberEnd_5 rfl (lv_at hl 0 rfl) ?_
    refine x_get (v := .int (si_ σ v0 1)) C K h cl_3 hk_v0 1 (by decide) fl_RX3_15 rfl dX3_numberEnd_6 ?_
    refine lv_icmp_ge (tgt := 33) C.1 C.2.1 dX3_numberEnd_9 (by decide) (fun c1 => ?_) (fun c1 => ?_)
    · have hf := if_t hf c1
      refine lv_iload_n C.1 C.2.1 dX3_numberEnd_33 rfl (lv_at hl 1 rfl) ?_
      exact x_ri C hr hlk h Ex_.rf (Option.some.inj hf) rfl dX3_numberEnd_34
    · have hf := if_f hf c1
      refine lv_aload_n C.1 C.2.1 dX3_numberEnd_12 rfl (lv_at hl 0 rfl) ?_
      refine lv_iload_n C.1 C.2.1 dX3_numberEnd_13 rfl (lv_at hl 2 rfl) ?_
      obtain ⟨q2, hq_q2, hf⟩ := ob_ hf
      refine x_ai K h (x_V C K h [.int v3] (c_X3_letterAt l κ G cy ad H.size σ v0 v3 hk_v0 hq_q2) mi_X3_letterAt rfl im_yX3_letterAt se_yX3_letterAt ml_RX3_76 cl_3 hk_v0 ⟨rfl, rfl, Nat.le_trans (Nat.le_of_ble_eq_true rfl) hR.1, Nat.le_trans (Nat.le_of_ble_eq_true rfl) hR.2⟩ hl (Nat.le_of_ble_eq_true rfl) dX3_numberEnd_14 ⟨Nat.zero_le _, Nat.zero_le _⟩ rfl) (fun H locs h hX => ?_)
      refine x_az K h (x_S C K h [.int q2] (c_X3_isDigit l κ G cy ad H.size σ q2 rfl) mi_X3_isDigit rfl st_yX3_isDigit ml_RX3_93 ⟨rfl, rfl, Nat.le_trans (Nat.le_of_ble_eq_true rfl) hR.1, Nat.le_trans (Nat.le_of_ble_eq_true rfl) hR.2⟩ hl (Nat.le_of_ble_eq_true rfl) dX3_numberEnd_17 ⟨Nat.zero_le _, Nat.zero_le _⟩ rfl) (fun H locs h hX hz4 => ?_)
      refine lv_if_eq (tgt := 33) C.1 C.2.1 dX3_numberEnd_20 (by decide) (fun c5 => ?_) (fun c5 => ?_)
      · have hf := if_t hf c5
        refine lv_iload_n C.1 C.2.1 dX3_numberEnd_33 rfl (lv_at hl 1 rfl) ?_
        exact x_ri C hr hlk h Ex_.rf (Option.some.inj hf) rfl dX3_numberEnd_34
      · have hf := if_f hf c5
        refine lv_iload_n C.1 C.2.1 dX3_numberEnd_23 rfl (lv_at hl 2 rfl) ?_
        refine lv_iconst (v := (1 : Int32)) C.1 C.2.1 dX3_numberEnd_24 (by decide) ?_
        refine lv_iadd C.1 C.2.1 dX3_numberEnd_25 ?_
        refine lv_istore_n (i := 2) (lv' := [(2, .int (v3 + (1 : Int32))), (0, .ref (ad v0)), (3, .int v3)]) C.1 C.2.1 dX3_numberEnd_26 rfl hl (by decide) rfl (fun ls hl => ?_)
        refine lv_iinc (v := v3 + (1 : Int32)) (lv' := [(3, .int (v3 + (1 : Int32))), (2, .int (v3 + (1 : Int32))), (0, .ref (ad v0))]) C.1 C.2.1 dX3_numberEnd_27 hl (k := 2) rfl rfl (by decide) rfl (fun ls hl => ?_)
        refine lv_goto (tgt := 4) C.1 C.2.1 dX3_numberEnd_30 (by decide) ?_
        exact ih v0 (v3 + (1 : Int32)) (v3 + (1 : Int32)) hk_v0 hf _ _ _ h (lv_sub hl [2, 1, 0] rfl)
def f_X3_numberEnd (fu : Nat) (σ : St_) (a0 : Nat) (x1 : Int32) : Option Int32 := f_X3_numberEnd_4 fu σ fu a0 x1 x1
set_option maxHeartbeats 4000000 in
set_option maxRecDepth 100000 in
theorem w_X3_numberEnd {p : Program} {l : Launch} {e : Env} {R : Room} {s : State} {m : MethodId} {args : Array Value} {below : List Frame} {meth : Method} {c : Code} {κ : Ka_} {G : va_G} {cy : Nat → ClassId} {ad : Nat → Nat} {sz : Nat} {σ : St_} (fu : Nat) (C : CallFix p m c cX3_numberEnd 4 s args wU_ RX3) (K : Kx_ κ G cy (va_A (wl_ cy ad σ) sz) s) (hr : meth.sig.returnType = some .int) (hlk : meth.locks = false) (hR : 1 ≤ R.frames ∧ 21 ≤ R.locals) {q : Int32} : ∀ (a0 : Nat) (x1 : Int32), kd_ σ a0 = 3 → f_X3_numberEnd fu σ a0 x1 = some q → ∀ (H : Heap) (locs : List Loc) (ls : Array Slot), Ht_ G cy (va_A (wl_ cy ad σ) sz) s ad σ H locs → lv_has ls 4 [(0, .ref (ad a0)), (1, .int x1)] → W p l e R s m args below meth c H locs 0 0 (MQ below (Qi_ G cy ad σ σ sz q) args s 0 0 (va_A (wl_ cy ad σ) sz)) (F0 m 0 ls []) := by
  intro a0 x1 hk_a0 hf H locs ls h hl
  have hf : (f_X3_numberEnd_4 fu σ fu a0 x1 x1) = some q := hf
  refine lv_iload_n C.1 C.2.1 dX3_numberEnd_0 rfl (lv_at hl 1 rfl) ?_
  refine lv_istore_n (i := 2) (lv' := [(2, .int x1), (0, .ref (ad a0)), (1, .int x1)]) C.1 C.2.1 dX3_numberEnd_1 rfl hl (by decide) rfl (fun ls hl => ?_)
  refine lv_iload_n C.1 C.2.1 dX3_numberEnd_2 rfl (lv_at hl 2 rfl) ?_
  refine lv_istore_n (i := 3) (lv' := [(3, .int x1), (2, .int x1), (0, .ref (ad a0)), (1, .int x1)]) C.1 C.2.1 dX3_numberEnd_3 rfl hl (by decide) rfl (fun ls hl => ?_)
  exact w_X3_numberEnd_4 fu C K hr hlk hR fu a0 x1 x1 hk_a0 hf _ _ _ h (lv_sub hl [2, 1, 0] rfl)
theorem c_X3_numberEnd (fu : Nat) (l : Launch) (κ : Ka_) (G : va_G) (cy : Nat → ClassId) (ad : Nat → Nat) (sz : Nat) (σ : St_) (a0 : Nat) (x1 : Int32) (hk_a0 : kd_ σ a0 = 3) {q : Int32} (hf : f_X3_numberEnd fu σ a0 x1 = some q) : Met l yX3_numberEnd (Cond.code yX3_numberEnd cX3_numberEnd 4 (some .int) :: wU_) { frames := 1, cells := 0, slots := 0, locals := 21 } (va_Pc [.ref (ad a0), .int x1] (Pr_ κ G cy ad σ sz)) (Qi_ G cy ad σ σ sz q) 0 0 (va_A (wl_ cy ad σ) sz) :=
  x_met (by decide) (fun p e R s m below meth c ls hR C hr hlk hin _ K h hl => w_X3_numberEnd fu C K hr hlk ⟨hR.1, hR.2.1⟩ a0 x1 hk_a0 hf s.heap [] ls h hl) (Nat.le_of_ble_eq_true rfl)
-- X3_numberValue
theorem mi_X3_numberValue : Mi_ yX3_numberValue cX3_numberValue 5 (some .int) 2 := ⟨co_yX3_numberValue, in_RX3, by decide, by decide, by decide +kernel⟩
def f_X3_numberValue_5 (fu : Nat) (σ : St_) : Nat → Nat → Int32 → Int32 → Int32 → Option Int32
  | 0 => fun _ _ _ _ => none
  | n + 1 => fun v0  v2  v3  v4 => if v2 ≤ v4 then some v3 else (f_X3_letterAt σ v0 v4).bind fun q2 => (f_X3_numberValue_5 fu σ n) v0 v2 (((v3 * (10 : Int32)) + q2) - (48 : Int32)) (v4 + (1 : Int32))
set_option maxHeartbeats 4000000 in
set_option maxRecDepth 100000 in
theorem w_X3_numberValue_5 {p : Program} {l : Launch} {e : Env} {R : Room} {s : State} {m : MethodId} {args : Array Value} {below : List Frame} {meth : Method} {c : Code} {κ : Ka_} {G : va_G} {cy : Nat → ClassId} {ad : Nat → Nat} {sz : Nat} {σ : St_} (fu : Nat) (C : CallFix p m c cX3_numberValue 5 s args wU_ RX3) (K : Kx_ κ G cy (va_A (wl_ cy ad σ) sz) s) (hr : meth.sig.returnType = some .int) (hlk : meth.locks = false) (hR : 1 ≤ R.frames ∧ 21 ≤ R.locals) {q : Int32} : ∀ n : Nat, ∀ (v0 : Nat) (v2 : Int32) (v3 : Int32) (v4 : Int32), kd_ σ v0 = 3 → f_X3_numberValue_5 fu σ n v0 v2 v3 v4 = some q → ∀ (H : Heap) (locs : List Loc) (ls : Array Slot), Ht_ G cy (va_A (wl_ cy ad σ) sz) s ad σ H locs → lv_has ls 5 [(0, .ref (ad v0)), (2, .int v2), (3, .int v3), (4, .int v4)] → W p l e R s m args below meth c H locs 0 0 (MQ below (Qi_ G cy ad σ σ sz q) args s 0 0 (va_A (wl_ cy ad σ) sz)) (F0 m 5 ls []) := by
  intro n
  induction n with
  | zero =>
    intro v0 v2 v3 v4 hk_v0 hf H locs ls h hl
    cases hf
  | succ n ih =>
    intro v0 v2 v3 v4 hk_v0 hf H locs ls h hl
    have hf : (if v2 ≤ v4 then some v3 else (f_X3_letterAt σ v0 v4).bind fun q2 => (f_X3_numberValue_5 fu σ n) v0 v2 (((v3 * (10 : Int32)) + q2) - (48 : Int32)) (v4 + (1 : Int32))) = some q := hf
    refine lv_iload C.1 C.2.1 dX3_numberValue_5 (lv_at hl 3 rfl) ?_
    refine lv_iload_n C.1 C.2.1 dX3_numberValue_7 rfl (lv_at hl 1 rfl) ?_
    refine lv_icmp_ge (tgt := 32) C.1 C.2.1 dX3_numberValue_8 (by decide) (fun c1 => ?_) (fun c1 => ?_)
    · have hf := if_t hf c1
      refine lv_iload_n C.1 C.2.1 dX3_numberValue_32 rfl (lv_at hl 2 rfl) ?_
      exact x_ri C hr hlk h Ex_.rf (Option.some.inj hf) rfl dX3_numberValue_33
    · have hf := if_f hf c1
      refine lv_iload_n C.1 C.2.1 dX3_numberValue_11 rfl (lv_at hl 2 rfl) ?_
      refine lv_bipush (v := (10 : Int32)) C.1 C.2.1 dX3_numberValue_12 (by decide) ?_
      refine lv_imul C.1 C.2.1 dX3_numberValue_14 ?_
      refine lv_aload_n C.1 C.2.1 dX3_numberValue_15 rfl (lv_at hl 0 rfl) ?_
      refine lv_iload C.1 C.2.1 dX3_numberValue_16 (lv_at hl 3 rfl) ?_
      obtain ⟨q2, hq_q2, hf⟩ := ob_ hf
      refine x_ai K h (x_V C K h [.int v4] (c_X3_letterAt l κ G cy ad H.size σ v0 v4 hk_v0 hq_q2) mi_X3_letterAt rfl im_yX3_letterAt se_yX3_letterAt ml_RX3_76 cl_3 hk_v0 ⟨rfl, rfl, Nat.le_trans (Nat.le_of_ble_eq_true rfl) hR.1, Nat.le_trans (Nat.le_of_ble_eq_true rfl) hR.2⟩ hl (Nat.le_of_ble_eq_true rfl) dX3_numberValue_18 ⟨Nat.zero_le _, Nat.zero_le _⟩ rfl) (fun H locs h hX => ?_)
      refine lv_iadd C.1 C.2.1 dX3_numberValue_21 ?_
      refine lv_bipush (v := (48 : Int32)) C.1 C.2.1 dX3_numberValue_22 (by decide) ?_
      refine lv_isub C.1 C.2.1 dX3_numberValue_24 ?_
      refine lv_istore_n (i := 3) (lv' := [(3, .int (((v3 * (10 : Int32)) + q2) - (48 : Int32))), (0, .ref (ad v0)), (2, .int v2), (4, .int v4)]) C.1 C.2.1 dX3_numberValue_25 rfl hl (by decide) rfl (fun ls hl => ?_)
      refine lv_iinc (v := v4 + (1 : Int32)) (lv' := [(4, .int (v4 + (1 : Int32))), (3, .int (((v3 * (10 : Int32)) + q2) - (48 : Int32))), (0, .ref (ad v0)), (2, .int v2)]) C.1 C.2.1 dX3_numberValue_26 hl (k := 3) rfl rfl (by decide) rfl (fun ls hl => ?_)
      refine lv_goto (tgt := 5) C.1 C.2.1 dX3_numberValue_29 (by decide) ?_
      exact ih v0 v2 (((v3 * (10 : Int32)) + q2) - (48 : Int32)) (v4 + (1 : Int32)) hk_v0 hf _ _ _ h (lv_sub hl [2, 3, 1, 0] rfl)
def f_X3_numberValue (fu : Nat) (σ : St_) (a0 : Nat) (x1 : Int32) (x2 : Int32) : Option Int32 := f_X3_numberValue_5 fu σ fu a0 x2 (0 : Int32) x1
set_option maxHeartbeats 4000000 in
set_option maxRecDepth 100000 in
theorem w_X3_numberValue {p : Program} {l : Launch} {e : Env} {R : Room} {s : State} {m : MethodId} {args : Array Value} {below : List Frame} {meth : Method} {c : Code} {κ : Ka_} {G : va_G} {cy : Nat → ClassId} {ad : Nat → Nat} {sz : Nat} {σ : St_} (fu : Nat) (C : CallFix p m c cX3_numberValue 5 s args wU_ RX3) (K : Kx_ κ G cy (va_A (wl_ cy ad σ) sz) s) (hr : meth.sig.returnType = some .int) (hlk : meth.locks = false) (hR : 1 ≤ R.frames ∧ 21 ≤ R.locals) {q : Int32} : ∀ (a0 : Nat) (x1 : Int32) (x2 : Int32), kd_ σ a0 = 3 → f_X3_numberValue fu σ a0 x1 x2 = some q → ∀ (H : Heap) (locs : List Loc) (ls : Array Slot), Ht_ G cy (va_A (wl_ cy ad σ) sz) s ad σ H locs → lv_has ls 5 [(0, .ref (ad a0)), (1, .int x1), (2, .int x2)] → W p l e R s m args below meth c H locs 0 0 (MQ below (Qi_ G cy ad σ σ sz q) args s 0 0 (va_A (wl_ cy ad σ) sz)) (F0 m 0 ls []) := by
  intro a0 x1 x2 hk_a0 hf H locs ls h hl
  have hf : (f_X3_numberValue_5 fu σ fu a0 x2 (0 : Int32) x1) = some q := hf
  refine lv_iconst (v := (0 : Int32)) C.1 C.2.1 dX3_numberValue_0 (by decide) ?_
  refine lv_istore_n (i := 3) (lv' := [(3, .int (0 : Int32)), (0, .ref (ad a0)), (1, .int x1), (2, .int x2)]) C.1 C.2.1 dX3_numberValue_1 rfl hl (by decide) rfl (fun ls hl => ?_)
  refine lv_iload_n C.1 C.2.1 dX3_numberValue_2 rfl (lv_at hl 2 rfl) ?_
  refine lv_istore (i := 4) (lv' := [(4, .int x1), (3, .int (0 : Int32)), (0, .ref (ad a0)), (1, .int x1), (2, .int x2)]) C.1 C.2.1 dX3_numberValue_3 hl (by decide) rfl (fun ls hl => ?_)
  exact w_X3_numberValue_5 fu C K hr hlk hR fu a0 x2 (0 : Int32) x1 hk_a0 hf _ _ _ h (lv_sub hl [2, 4, 1, 0] rfl)
theorem c_X3_numberValue (fu : Nat) (l : Launch) (κ : Ka_) (G : va_G) (cy : Nat → ClassId) (ad : Nat → Nat) (sz : Nat) (σ : St_) (a0 : Nat) (x1 : Int32) (x2 : Int32) (hk_a0 : kd_ σ a0 = 3) {q : Int32} (hf : f_X3_numberValue fu σ a0 x1 x2 = some q) : Met l yX3_numberValue (Cond.code yX3_numberValue cX3_numberValue 5 (some .int) :: wU_) { frames := 1, cells := 0, slots := 0, locals := 21 } (va_Pc [.ref (ad a0), .int x1, .int x2] (Pr_ κ G cy ad σ sz)) (Qi_ G cy ad σ σ sz q) 0 0 (va_A (wl_ cy ad σ) sz) :=
  x_met (by decide) (fun p e R s m below meth c ls hR C hr hlk hin _ K h hl => w_X3_numberValue fu C K hr hlk ⟨hR.1, hR.2.1⟩ a0 x1 x2 hk_a0 hf s.heap [] ls h hl) (Nat.le_of_ble_eq_true rfl)
-- X3_isSign
theorem mi_X3_isSign : Mi_ yX3_isSign cX3_isSign 1 (some .boolean) 1 := ⟨co_yX3_isSign, in_RX3, by decide, by decide, by decide +kernel⟩
def f_X3_isSign (x1 : Int32) : Int32 := if x1 = (40 : Int32) then (1 : Int32) else if x1 = (41 : Int32) then (1 : Int32) else if x1 = (59 : Int32) then (1 : Int32) else if x1 = (43 : Int32) then (1 : Int32) else if x1 = (45 : Int32) then (1 : Int32) else if x1 = (42 : Int32) then (1 : Int32) else if x1 = (60 : Int32) then (1 : Int32) else if x1 = (61 : Int32) then (1 : Int32) else (0 : Int32)
set_option maxHeartbeats 4000000 in
set_option maxRecDepth 100000 in
theorem w_X3_isSign {p : Program} {l : Launch} {e : Env} {R : Room} {s : State} {m : MethodId} {args : Array Value} {below : List Frame} {meth : Method} {c : Code} {κ : Ka_} {G : va_G} {cy : Nat → ClassId} {ad : Nat → Nat} {sz : Nat} {σ : St_} (C : CallFix p m c cX3_isSign 1 s args wU_ RX3) (K : Kx_ κ G cy (va_A (wl_ cy ad σ) sz) s) (hr : meth.sig.returnType = some .boolean) (hlk : meth.locks = false) (hR : 0 ≤ R.frames ∧ 0 ≤ R.locals) {q : Int32} : ∀ (x1 : Int32), f_X3_isSign x1 = q → ∀ (H : Heap) (locs : List Loc) (ls : Array Slot), Ht_ G cy (va_A (wl_ cy ad σ) sz) s ad σ H locs → lv_has ls 1 [(0, .int x1)] → W p l e R s m args below meth c H locs 0 0 (MQ below (Qz_ G cy ad σ σ sz q) args s 0 0 (va_A (wl_ cy ad σ) sz)) (F0 m 0 ls []) := by
  intro x1 hf H locs ls h hl
  have hf : (if x1 = (40 : Int32) then (1 : Int32) else if x1 = (41 : Int32) then (1 : Int32) else if x1 = (59 : Int32) then (1 : Int32) else if x1 = (43 : Int32) then (1 : Int32) else if x1 = (45 : Int32) then (1 : Int32) else if x1 = (42 : Int32) then (1 : Int32) else if x1 = (60 : Int32) then (1 : Int32) else if x1 = (61 : Int32) then (1 : Int32) else (0 : Int32)) = q := hf
  refine lv_iload_n C.1 C.2.1 dX3_isSign_0 rfl (lv_at hl 0 rfl) ?_
  refine lv_bipush (v := (40 : Int32)) C.1 C.2.1 dX3_isSign_1 (by decide) ?_
  refine lv_icmp_eq (tgt := 48) C.1 C.2.1 dX3_isSign_3 (by decide) (fun c2 => ?_) (fun c2 => ?_)
  · have hf := if_t hf c2
    refine lv_iconst (v := (1 : Int32)) C.1 C.2.1 dX3_isSign_48 (by decide) ?_
    refine lv_goto (tgt := 53) C.1 C.2.1 dX3_isSign_49 (by decide) ?_
    exact x_rzz C hr hlk h Ex_.rf (by decide) hf rfl dX3_isSign_53
  · have hf := if_f hf c2
    refine lv_iload_n C.1 C.2.1 dX3_isSign_6 rfl (lv_at hl 0 rfl) ?_
    refine lv_bipush (v := (41 : Int32)) C.1 C.2.1 dX3_isSign_7 (by decide) ?_
    refine lv_icmp_eq (tgt := 48) C.1 C.2.1 dX3_isSign_9 (by decide) (fun c3 => ?_) (fun c3 => ?_)
    · have hf := if_t hf c3
      refine lv_iconst (v := (1 : Int32)) C.1 C.2.1 dX3_isSign_48 (by decide) ?_
      refine lv_goto (tgt := 53) C.1 C.2.1 dX3_isSign_49 (by decide) ?_
      exact x_rzz C hr hlk h Ex_.rf (by decide) hf rfl dX3_isSign_53
    · have hf := if_f hf c3
      refine lv_iload_n C.1 C.2.1 dX3_isSign_12 rfl (lv_at hl 0 rfl) ?_
      refine lv_bipush (v := (59 : Int32)) C.1 C.2.1 dX3_isSign_13 (by decide) ?_
      refine lv_icmp_eq (tgt := 48) C.1 C.2.1 dX3_isSign_15 (by decide) (fun c4 => ?_) (fun c4 => ?_)
      · have hf := if_t hf c4
        refine lv_iconst (v := (1 : Int32)) C.1 C.2.1 dX3_isSign_48 (by decide) ?_
        refine lv_goto (tgt := 53) C.1 C.2.1 dX3_isSign_49 (by decide) ?_
        exact x_rzz C hr hlk h Ex_.rf (by decide) hf rfl dX3_isSign_53
      · have hf := if_f hf c4
        refine lv_iload_n C.1 C.2.1 dX3_isSign_18 rfl (lv_at hl 0 rfl) ?_
        refine lv_bipush (v := (43 : Int32)) C.1 C.2.1 dX3_isSign_19 (by decide) ?_
        refine lv_icmp_eq (tgt := 48) C.1 C.2.1 dX3_isSign_21 (by decide) (fun c5 => ?_) (fun c5 => ?_)
        · have hf := if_t hf c5
          refine lv_iconst (v := (1 : Int32)) C.1 C.2.1 dX3_isSign_48 (by decide) ?_
          refine lv_goto (tgt := 53) C.1 C.2.1 dX3_isSign_49 (by decide) ?_
          exact x_rzz C hr hlk h Ex_.rf (by decide) hf rfl dX3_isSign_53
        · have hf := if_f hf c5
          refine lv_iload_n C.1 C.2.1 dX3_isSign_24 rfl (lv_at hl 0 rfl) ?_
          refine lv_bipush (v := (45 : Int32)) C.1 C.2.1 dX3_isSign_25 (by decide) ?_
          refine lv_icmp_eq (tgt := 48) C.1 C.2.1 dX3_isSign_27 (by decide) (fun c6 => ?_) (fun c6 => ?_)
          · have hf := if_t hf c6
            refine lv_iconst (v := (1 : Int32)) C.1 C.2.1 dX3_isSign_48 (by decide) ?_
            refine lv_goto (tgt := 53) C.1 C.2.1 dX3_isSign_49 (by decide) ?_
            exact x_rzz C hr hlk h Ex_.rf (by decide) hf rfl dX3_isSign_53
          · have hf := if_f hf c6
            refine lv_iload_n C.1 C.2.1 dX3_isSign_30 rfl (lv_at hl 0 rfl) ?_
            refine lv_bipush (v := (42 : Int32)) C.1 C.2.1 dX3_isSign_31 (by decide) ?_
            refine lv_icmp_eq (tgt := 48) C.1 C.2.1 dX3_isSign_33 (by decide) (fun c7 => ?_) (fun c7 => ?_)
            · have hf := if_t hf c7
              refine lv_iconst (v := (1 : Int32)) C.1 C.2.1 dX3_isSign_48 (by decide) ?_
              refine lv_goto (tgt := 53) C.1 C.2.1 dX3_isSign_49 (by decide) ?_
              exact x_rzz C hr hlk h Ex_.rf (by decide) hf rfl dX3_isSign_53
            · have hf := if_f hf c7
              refine lv_iload_n C.1 C.2.1 dX3_isSign_36 rfl (lv_at hl 0 rfl) ?_
              refine lv_bipush (v := (60 : Int32)) C.1 C.2.1 dX3_isSign_37 (by decide) ?_
              refine lv_icmp_eq (tgt := 48) C.1 C.2.1 dX3_isSign_39 (by decide) (fun c8 => ?_) (fun c8 => ?_)
              · have hf := if_t hf c8
                refine lv_iconst (v := (1 : Int32)) C.1 C.2.1 dX3_isSign_48 (by decide) ?_
                refine lv_goto (tgt := 53) C.1 C.2.1 dX3_isSign_49 (by decide) ?_
                exact x_rzz C hr hlk h Ex_.rf (by decide) hf rfl dX3_isSign_53
              · have hf := if_f hf c8
                refine lv_iload_n C.1 C.2.1 dX3_isSign_42 rfl (lv_at hl 0 rfl) ?_
                refine lv_bipush (v := (61 : Int32)) C.1 C.2.1 dX3_isSign_43 (by decide) ?_
                refine lv_icmp_ne (tgt := 52) C.1 C.2.1 dX3_isSign_45 (by decide) (fun c9 => ?_) (fun c9 => ?_)
                · have hf := if_f hf c9
                  refine lv_iconst (v := (0 : Int32)) C.1 C.2.1 dX3_isSign_52 (by decide) ?_
                  exact x_rzz C hr hlk h Ex_.rf (by decide) hf rfl dX3_isSign_53
                · have hf := if_t hf c9
                  refine lv_iconst (v := (1 : Int32)) C.1 C.2.1 dX3_isSign_48 (by decide) ?_
                  refine lv_goto (tgt := 53) C.1 C.2.1 dX3_isSign_49 (by decide) ?_
                  exact x_rzz C hr hlk h Ex_.rf (by decide) hf rfl dX3_isSign_53
theorem c_X3_isSign (l : Launch) (κ : Ka_) (G : va_G) (cy : Nat → ClassId) (ad : Nat → Nat) (sz : Nat) (σ : St_) (x1 : Int32) {q : Int32} (hf : f_X3_isSign x1 = q) : Met l yX3_isSign (Cond.code yX3_isSign cX3_isSign 1 (some .boolean) :: wU_) { frames := 0, cells := 0, slots := 0, locals := 0 } (va_Pc [.int x1] (Pr_ κ G cy ad σ sz)) (Qz_ G cy ad σ σ sz q) 0 0 (va_A (wl_ cy ad σ) sz) :=
  x_met (by decide) (fun p e R s m below meth c ls hR C hr hlk hin _ K h hl => w_X3_isSign C K hr hlk ⟨hR.1, hR.2.1⟩ x1 hf s.heap [] ls h hl) (Nat.le_of_ble_eq_true rfl)
-- X3_findTokens
theorem mi_X3_findTokens : Mi_ yX3_findTokens cX3_findTokens 5 none 0 := ⟨co_yX3_findTokens, in_RX3, by decide, by decide, by decide +kernel⟩
def f_X3_findTokens_137 (fu : Nat) (k9 : St_ → Nat → Int32 → Int32 → Option St_) (σ : St_) (v0 : Nat) (v2 : Int32) (v4 : Int32) : Option St_ := k9 σ v0 v4 (v2 + (1 : Int32))
set_option maxHeartbeats 4000000 in
set_option maxRecDepth 100000 in
theorem w_X3_findTokens_137 {p : Program} {l : Launch} {e : Env} {R : Room} {s : State} {m : MethodId} {args : Array Value} {below : List Frame} {meth : Method} {c : Code} {κ : Ka_} {G : va_G} {cy : Nat → ClassId} {ad : Nat → Nat} {sz : Nat} {σ0 : St_} (fu : Nat) (C : CallFix p m c cX3_findTokens 5 s args wU_ RX3) (K : Kx_ κ G cy (va_A (wl_ cy ad σ0) sz) s) (hr : meth.sig.returnType = none) (hlk : meth.locks = false) (hR : 8 ≤ R.frames ∧ 246 ≤ R.locals) {q : St_} (k9 : St_ → Nat → Int32 → Int32 → Option St_) (hk9 : ∀ (σ : St_) (v0 : Nat) (v1 : Int32) (v2 : Int32), Ex_ σ0 σ → kd_ σ v0 = 3 → k9 σ v0 v1 v2 = some q → ∀ (H : Heap) (locs : List Loc) (ls : Array Slot), Ht_ G cy (va_A (wl_ cy ad σ0) sz) s ad σ H locs → lv_has ls 5 [(0, .ref (ad v0)), (1, .int v1), (2, .int v2)] → W p l e R s m args below meth c H locs 0 0 (MQ below (Qv_ G cy ad σ0 q sz) args s 0 0 (va_A (wl_ cy ad σ0) sz)) (F0 m 9 ls [])) : ∀ (σ : St_) (v0 : Nat) (v2 : Int32) (v4 : Int32), Ex_ σ0 σ → kd_ σ v0 = 3 → f_X3_findTokens_137 fu k9 σ v0 v2 v4 = some q → ∀ (H : Heap) (locs : List Loc) (ls : Array Slot), Ht_ G cy (va_A (wl_ cy ad σ0) sz) s ad σ H locs → lv_has ls 5 [(0, .ref (ad v0)), (2, .int v2), (4, .int v4)] → W p l e R s m args below meth c H locs 0 0 (MQ below (Qv_ G cy ad σ0 q sz) args s 0 0 (va_A (wl_ cy ad σ0) sz)) (F0 m 137 ls []) := by
  intro σ v0 v2 v4 hE hk_v0 hf H locs ls h hl
  have hf : (k9 σ v0 v4 (v2 + (1 : Int32))) = some q := hf
  refine lv_iload C.1 C.2.1 dX3_findTokens_137 (lv_at hl 2 rfl) ?_
  refine lv_istore_n (i := 1) (lv' := [(1, .int v4), (0, .ref (ad v0)), (2, .int v2), (4, .int v4)]) C.1 C.2.1 dX3_findTokens_139 rfl hl (by decide) rfl (fun ls hl => ?_)
  refine lv_iinc (v := v2 + (1 : Int32)) (lv' := [(2, .int (v2 + (1 : Int32))), (1, .int v4), (0, .ref (ad v0)), (4, .int v4)]) C.1 C.2.1 dX3_findTokens_140 hl (k := 2) rfl rfl (by decide) rfl (fun ls hl => ?_)
  refine lv_goto (tgt := 9) C.1 C.2.1 dX3_findTokens_143 (by decide) ?_
  exact hk9 σ v0 v4 (v2 + (1 : Int32)) hE hk_v0 hf _ _ _ h (lv_sub hl [2, 1, 0] rfl)
def f_X3_findTokens_93 (fu : Nat) (k9 : St_ → Nat → Int32 → Int32 → Option St_) (σ : St_) (v0 : Nat) (v1 : Int32) (v2 : Int32) (v4 : Int32) (s0 : Nat) (s1 : Int32) : Option St_ := (f_X3_numberValue fu σ v0 v1 v4).bind fun q1 => (f_X3_addToken σ s0 s1 v1 q1).bind fun q2 => f_X3_findTokens_137 fu k9 q2 v0 v2 v4
set_option maxHeartbeats 4000000 in
set_option maxRecDepth 100000 in
theorem w_X3_findTokens_93 {p : Program} {l : Launch} {e : Env} {R : Room} {s : State} {m : MethodId} {args : Array Value} {below : List Frame} {meth : Method} {c : Code} {κ : Ka_} {G : va_G} {cy : Nat → ClassId} {ad : Nat → Nat} {sz : Nat} {σ0 : St_} (fu : Nat) (C : CallFix p m c cX3_findTokens 5 s args wU_ RX3) (K : Kx_ κ G cy (va_A (wl_ cy ad σ0) sz) s) (hr : meth.sig.returnType = none) (hlk : meth.locks = false) (hR : 8 ≤ R.frames ∧ 246 ≤ R.locals) {q : St_} (k9 : St_ → Nat → Int32 → Int32 → Option St_) (hk9 : ∀ (σ : St_) (v0 : Nat) (v1 : Int32) (v2 : Int32), Ex_ σ0 σ → kd_ σ v0 = 3 → k9 σ v0 v1 v2 = some q → ∀ (H : Heap) (locs : List Loc) (ls : Array Slot), Ht_ G cy (va_A (wl_ cy ad σ0) sz) s ad σ H locs → lv_has ls 5 [(0, .ref (ad v0)), (1, .int v1), (2, .int v2)] → W p l e R s m args below meth c H locs 0 0 (MQ below (Qv_ G cy ad σ0 q sz) args s 0 0 (va_A (wl_ cy ad σ0) sz)) (F0 m 9 ls [])) : ∀ (σ : St_) (v0 : Nat) (v1 : Int32) (v2 : Int32) (v4 : Int32) (s0 : Nat) (s1 : Int32), Ex_ σ0 σ → kd_ σ v0 = 3 → kd_ σ s0 = 3 → f_X3_findTokens_93 fu k9 σ v0 v1 v2 v4 s0 s1 = some q → ∀ (H : Heap) (locs : List Loc) (ls : Array Slot), Ht_ G cy (va_A (wl_ cy ad σ0) sz) s ad σ H locs → lv_has ls 5 [(0, .ref (ad v0)), (1, .int v1), (2, .int v2), (4, .int v4)] → W p l e R s m args below meth c H locs 0 0 (MQ below (Qv_ G cy ad σ0 q sz) args s 0 0 (va_A (wl_ cy ad σ0) sz)) (F0 m 93 ls [.int s1, .ref (ad s0)]) := by
  intro σ v0 v1 v2 v4 s0 s1 hE hk_v0 hk_s0 hf H locs ls h hl
  have hf : ((f_X3_numberValue fu σ v0 v1 v4).bind fun q1 => (f_X3_addToken σ s0 s1 v1 q1).bind fun q2 => f_X3_findTokens_137 fu k9 q2 v0 v2 v4) = some q := hf
  refine lv_iload_n C.1 C.2.1 dX3_findTokens_93 rfl (lv_at hl 1 rfl) ?_
  refine lv_aload_n C.1 C.2.1 dX3_findTokens_94 rfl (lv_at hl 0 rfl) ?_
  refine lv_iload_n C.1 C.2.1 dX3_findTokens_95 rfl (lv_at hl 1 rfl) ?_
  refine lv_iload C.1 C.2.1 dX3_findTokens_96 (lv_at hl 3 rfl) ?_
  obtain ⟨q1, hq_q1, hf⟩ := ob_ hf
  refine x_ai K h (x_V C K h [.int v1, .int v4] (c_X3_numberValue fu l κ G cy ad H.size σ v0 v1 v4 hk_v0 hq_q1) mi_X3_numberValue rfl im_yX3_numberValue se_yX3_numberValue ml_RX3_99 cl_3 hk_v0 ⟨rfl, rfl, Nat.le_trans (Nat.le_of_ble_eq_true rfl) hR.1, Nat.le_trans (Nat.le_of_ble_eq_true rfl) hR.2⟩ hl (Nat.le_of_ble_eq_true rfl) dX3_findTokens_98 ⟨Nat.zero_le _, Nat.zero_le _⟩ rfl) (fun H locs h hX => ?_)
  obtain ⟨q2, hq_q2, hf⟩ := ob_ hf
  refine x_av K h (x_V C K h [.int s1, .int v1, .int q1] (c_X3_addToken l κ G cy ad H.size σ s0 s1 v1 q1 hk_s0 hq_q2) mi_X3_addToken rfl im_yX3_addToken se_yX3_addToken ml_RX3_89 cl_3 hk_s0 ⟨rfl, rfl, Nat.le_trans (Nat.le_of_ble_eq_true rfl) hR.1, Nat.le_trans (Nat.le_of_ble_eq_true rfl) hR.2⟩ hl (Nat.le_of_ble_eq_true rfl) dX3_findTokens_101 ⟨Nat.zero_le _, Nat.zero_le _⟩ rfl) (fun H locs h hX => ?_)
  have hE := hE.trans hX
  have hk_v0 := hX.k hk_v0 (by decide)
  refine lv_goto (tgt := 137) C.1 C.2.1 dX3_findTokens_104 (by decide) ?_
  exact w_X3_findTokens_137 fu C K hr hlk hR k9 hk9 q2 v0 v2 v4 hE hk_v0 hf _ _ _ h (lv_sub hl [0, 2, 3] rfl)
def f_X3_findTokens_9 (fu : Nat) : Nat → St_ → Nat → Int32 → Int32 → Option St_
  | 0 => fun _ _ _ _ => none
  | n + 1 => fun σ  v0  v1  v2 => if (160 : Int32) ≤ v2 then some σ else if (si_ σ v0 1) ≤ v1 then some σ else (f_X3_letterAt σ v0 v1).bind fun q3 => if (f_X3_isLetter q3) = 0 then if (f_X3_isDigit q3) = 0 then if q3 = (32 : Int32) then f_X3_findTokens_137 fu (f_X3_findTokens_9 fu n) σ v0 v2 (v1 + (1 : Int32)) else if q3 = (10 : Int32) then f_X3_findTokens_137 fu (f_X3_findTokens_9 fu n) σ v0 v2 (v1 + (1 : Int32)) else if (f_X3_isSign q3) = 0 then (f_X3_addToken σ v0 (1 : Int32) v1 (0 : Int32)).bind fun q15 => f_X3_findTokens_137 fu (f_X3_findTokens_9 fu n) q15 v0 v2 (v1 + (1 : Int32)) else (f_X3_addToken σ v0 q3 v1 (0 : Int32)).bind fun q16 => f_X3_findTokens_137 fu (f_X3_findTokens_9 fu n) q16 v0 v2 (v1 + (1 : Int32)) else (f_X3_numberEnd fu σ v0 v1).bind fun q17 => if (q17 - v1) ≤ (4 : Int32) then f_X3_findTokens_93 fu (f_X3_findTokens_9 fu n) σ v0 v1 v2 q17 v0 (2 : Int32) else f_X3_findTokens_93 fu (f_X3_findTokens_9 fu n) σ v0 v1 v2 q17 v0 (1 : Int32) else (f_X3_wordEnd fu σ v0 v1).bind fun q19 => (f_X3_wordToken fu σ v0 v1 q19).bind fun q20 => (f_X3_addToken σ v0 q20 v1 (0 : Int32)).bind fun q21 => f_X3_findTokens_137 fu (f_X3_findTokens_9 fu n) q21 v0 v2 q19
set_option maxHeartbeats 4000000 in
set_option maxRecDepth 100000 in
theorem w_X3_findTokens_9 {p : Program} {l : Launch} {e : Env} {R : Room} {s : State} {m : MethodId} {args : Array Value} {below : List Frame} {meth : Method} {c : Code} {κ : Ka_} {G : va_G} {cy : Nat → ClassId} {ad : Nat → Nat} {sz : Nat} {σ0 : St_} (fu : Nat) (C : CallFix p m c cX3_findTokens 5 s args wU_ RX3) (K : Kx_ κ G cy (va_A (wl_ cy ad σ0) sz) s) (hr : meth.sig.returnType = none) (hlk : meth.locks = false) (hR : 8 ≤ R.frames ∧ 246 ≤ R.locals) {q : St_} : ∀ n : Nat, ∀ (σ : St_) (v0 : Nat) (v1 : Int32) (v2 : Int32), Ex_ σ0 σ → kd_ σ v0 = 3 → f_X3_findTokens_9 fu n σ v0 v1 v2 = some q → ∀ (H : Heap) (locs : List Loc) (ls : Array Slot), Ht_ G cy (va_A (wl_ cy ad σ0) sz) s ad σ H locs → lv_has ls 5 [(0, .ref (ad v0)), (1, .int v1), (2, .int v2)] → W p l e R s m args below meth c H locs 0 0 (MQ below (Qv_ G cy ad σ0 q sz) args s 0 0 (va_A (wl_ cy ad σ0) sz)) (F0 m 9 ls []) := by
  intro n
  induction n with
  | zero =>
    intro σ v0 v1 v2 hE hk_v0 hf H locs ls h hl
    cases hf
  | succ n ih =>
    intro σ v0 v1 v2 hE hk_v0 hf H locs ls h hl
    have hf : (if (160 : Int32) ≤ v2 then some σ else if (si_ σ v0 1) ≤ v1 then some σ else (f_X3_letterAt σ v0 v1).bind fun q3 => if (f_X3_isLetter q3) = 0 then if (f_X3_isDigit q3) = 0 then if q3 = (32 : Int32) then f_X3_findTokens_137 fu (f_X3_findTokens_9 fu n) σ v0 v2 (v1 + (1 : Int32)) else if q3 = (10 : Int32) then f_X3_findTokens_137 fu (f_X3_findTokens_9 fu n) σ v0 v2 (v1 + (1 : Int32)) else if (f_X3_isSign q3) = 0 then (f_X3_addToken σ v0 (1 : Int32) v1 (0 : Int32)).bind fun q15 => f_X3_findTokens_137 fu (f_X3_findTokens_9 fu n) q15 v0 v2 (v1 + (1 : Int32)) else (f_X3_addToken σ v0 q3 v1 (0 : Int32)).bind fun q16 => f_X3_findTokens_137 fu (f_X3_findTokens_9 fu n) q16 v0 v2 (v1 + (1 : Int32)) else (f_X3_numberEnd fu σ v0 v1).bind fun q17 => if (q17 - v1) ≤ (4 : Int32) then f_X3_findTokens_93 fu (f_X3_findTokens_9 fu n) σ v0 v1 v2 q17 v0 (2 : Int32) else f_X3_findTokens_93 fu (f_X3_findTokens_9 fu n) σ v0 v1 v2 q17 v0 (1 : Int32) else (f_X3_wordEnd fu σ v0 v1).bind fun q19 => (f_X3_wordToken fu σ v0 v1 q19).bind fun q20 => (f_X3_addToken σ v0 q20 v1 (0 : Int32)).bind fun q21 => f_X3_findTokens_137 fu (f_X3_findTokens_9 fu n) q21 v0 v2 q19) = some q := hf
    refine lv_iload_n C.1 C.2.1 dX3_findTokens_9 rfl (lv_at hl 2 rfl) ?_
    refine lv_sipush (v := (160 : Int32)) C.1 C.2.1 dX3_findTokens_10 (by decide) ?_
    refine lv_icmp_ge (tgt := 146) C.1 C.2.1 dX3_findTokens_13 (by decide) (fun c1 => ?_) (fun c1 => ?_)
    · have hf := if_t hf c1
      exact x_rv C hr hlk h hE (Option.some.inj hf) dX3_findTokens_146
    · have hf := if_f hf c1
      refine lv_iload_n C.1 C.2.1 dX3_findTokens_16 rfl (lv_at hl 1 rfl) ?_
      refine lv_aload_n C.1 C.2.1 dX3_findTokens_17 rfl (lv_at hl 0 rfl) ?_
      refine x_get (v := .int (si_ σ v0 1)) C K h cl_3 hk_v0 1 (by decide) fl_RX3_15 rfl dX3_findTokens_18 ?_
      refine lv_icmp_ge (tgt := 146) C.1 C.2.1 dX3_findTokens_21 (by decide) (fun c2 => ?_) (fun c2 => ?_)
      · have hf := if_t hf c2
        exact x_rv C hr hlk h hE (Option.some.inj hf) dX3_findTokens_146
      · have hf := if_f hf c2
        refine lv_aload_n C.1 C.2.1 dX3_findTokens_24 rfl (lv_at hl 0 rfl) ?_
        refine lv_iload_n C.1 C.2.1 dX3_findTokens_25 rfl (lv_at hl 1 rfl) ?_
        obtain ⟨q3, hq_q3, hf⟩ := ob_ hf
        refine x_ai K h (x_V C K h [.int v1] (c_X3_letterAt l κ G cy ad H.size σ v0 v1 hk_v0 hq_q3) mi_X3_letterAt rfl im_yX3_letterAt se_yX3_letterAt ml_RX3_76 cl_3 hk_v0 ⟨rfl, rfl, Nat.le_trans (Nat.le_of_ble_eq_true rfl) hR.1, Nat.le_trans (Nat.le_of_ble_eq_true rfl) hR.2⟩ hl (Nat.le_of_ble_eq_true rfl) dX3_findTokens_26 ⟨Nat.zero_le _, Nat.zero_le _⟩ rfl) (fun H locs h hX => ?_)
        refine lv_istore_n (i := 3) (lv' := [(3, .int q3), (0, .ref (ad v0)), (1, .int v1), (2, .int v2)]) C.1 C.2.1 dX3_findTokens_29 rfl hl (by decide) rfl (fun ls hl => ?_)
        refine lv_iload_n C.1 C.2.1 dX3_findTokens_30 rfl (lv_at hl 2 rfl) ?_
        refine lv_iconst (v := (1 : Int32)) C.1 C.2.1 dX3_findTokens_31 (by decide) ?_
        refine lv_iadd C.1 C.2.1 dX3_findTokens_32 ?_
        refine lv_istore (i := 4) (lv' := [(4, .int (v1 + (1 : Int32))), (3, .int q3), (0, .ref (ad v0)), (1, .int v1), (2, .int v2)]) C.1 C.2.1 dX3_findTokens_33 hl (by decide) rfl (fun ls hl => ?_)
        refine lv_iload_n C.1 C.2.1 dX3_findTokens_35 rfl (lv_at hl 1 rfl) ?_
        refine x_az K h (x_S C K h [.int q3] (c_X3_isLetter l κ G cy ad H.size σ q3 rfl) mi_X3_isLetter rfl st_yX3_isLetter ml_RX3_80 ⟨rfl, rfl, Nat.le_trans (Nat.le_of_ble_eq_true rfl) hR.1, Nat.le_trans (Nat.le_of_ble_eq_true rfl) hR.2⟩ hl (Nat.le_of_ble_eq_true rfl) dX3_findTokens_36 ⟨Nat.zero_le _, Nat.zero_le _⟩ rfl) (fun H locs h hX hz5 => ?_)
        refine lv_if_eq (tgt := 65) C.1 C.2.1 dX3_findTokens_39 (by decide) (fun c6 => ?_) (fun c6 => ?_)
        · have hf := if_t hf c6
          refine lv_iload_n C.1 C.2.1 dX3_findTokens_65 rfl (lv_at hl 1 rfl) ?_
          refine x_az K h (x_S C K h [.int q3] (c_X3_isDigit l κ G cy ad H.size σ q3 rfl) mi_X3_isDigit rfl st_yX3_isDigit ml_RX3_93 ⟨rfl, rfl, Nat.le_trans (Nat.le_of_ble_eq_true rfl) hR.1, Nat.le_trans (Nat.le_of_ble_eq_true rfl) hR.2⟩ hl (Nat.le_of_ble_eq_true rfl) dX3_findTokens_66 ⟨Nat.zero_le _, Nat.zero_le _⟩ rfl) (fun H locs h hX hz8 => ?_)
          refine lv_if_eq (tgt := 107) C.1 C.2.1 dX3_findTokens_69 (by decide) (fun c9 => ?_) (fun c9 => ?_)
          · have hf := if_t hf c9
            refine lv_iload_n C.1 C.2.1 dX3_findTokens_107 rfl (lv_at hl 1 rfl) ?_
            refine lv_bipush (v := (32 : Int32)) C.1 C.2.1 dX3_findTokens_108 (by decide) ?_
            refine lv_icmp_eq (tgt := 137) C.1 C.2.1 dX3_findTokens_110 (by decide) (fun c10 => ?_) (fun c10 => ?_)
            · have hf := if_t hf c10
              exact w_X3_findTokens_137 fu C K hr hlk hR (f_X3_findTokens_9 fu n) ih σ v0 v2 (v1 + (1 : Int32)) hE hk_v0 hf _ _ _ h (lv_sub hl [2, 4, 0] rfl)
            · have hf := if_f hf c10
              refine lv_iload_n C.1 C.2.1 dX3_findTokens_113 rfl (lv_at hl 1 rfl) ?_
              refine lv_bipush (v := (10 : Int32)) C.1 C.2.1 dX3_findTokens_114 (by decide) ?_
              refine lv_icmp_eq (tgt := 137) C.1 C.2.1 dX3_findTokens_116 (by decide) (fun c11 => ?_) (fun c11 => ?_)
              · have hf := if_t hf c11
                exact w_X3_findTokens_137 fu C K hr hlk hR (f_X3_findTokens_9 fu n) ih σ v0 v2 (v1 + (1 : Int32)) hE hk_v0 hf _ _ _ h (lv_sub hl [2, 4, 0] rfl)
              · have hf := if_f hf c11
                refine lv_aload_n C.1 C.2.1 dX3_findTokens_119 rfl (lv_at hl 2 rfl) ?_
                refine lv_iload_n C.1 C.2.1 dX3_findTokens_120 rfl (lv_at hl 1 rfl) ?_
                refine x_az K h (x_S C K h [.int q3] (c_X3_isSign l κ G cy ad H.size σ q3 rfl) mi_X3_isSign rfl st_yX3_isSign ml_RX3_102 ⟨rfl, rfl, Nat.le_trans (Nat.le_of_ble_eq_true rfl) hR.1, Nat.le_trans (Nat.le_of_ble_eq_true rfl) hR.2⟩ hl (Nat.le_of_ble_eq_true rfl) dX3_findTokens_121 ⟨Nat.zero_le _, Nat.zero_le _⟩ rfl) (fun H locs h hX hz13 => ?_)
                refine lv_if_eq (tgt := 131) C.1 C.2.1 dX3_findTokens_124 (by decide) (fun c14 => ?_) (fun c14 => ?_)
                · have hf := if_t hf c14
                  refine lv_iconst (v := (1 : Int32)) C.1 C.2.1 dX3_findTokens_131 (by decide) ?_
                  refine lv_iload_n C.1 C.2.1 dX3_findTokens_132 rfl (lv_at hl 3 rfl) ?_
                  refine lv_iconst (v := (0 : Int32)) C.1 C.2.1 dX3_findTokens_133 (by decide) ?_
                  obtain ⟨q15, hq_q15, hf⟩ := ob_ hf
                  refine x_av K h (x_V C K h [.int (1 : Int32), .int v1, .int (0 : Int32)] (c_X3_addToken l κ G cy ad H.size σ v0 (1 : Int32) v1 (0 : Int32) hk_v0 hq_q15) mi_X3_addToken rfl im_yX3_addToken se_yX3_addToken ml_RX3_89 cl_3 hk_v0 ⟨rfl, rfl, Nat.le_trans (Nat.le_of_ble_eq_true rfl) hR.1, Nat.le_trans (Nat.le_of_ble_eq_true rfl) hR.2⟩ hl (Nat.le_of_ble_eq_true rfl) dX3_findTokens_134 ⟨Nat.zero_le _, Nat.zero_le _⟩ rfl) (fun H locs h hX => ?_)
                  have hE := hE.trans hX
                  have hk_v0 := hX.k hk_v0 (by decide)
                  exact w_X3_findTokens_137 fu C K hr hlk hR (f_X3_findTokens_9 fu n) ih q15 v0 v2 (v1 + (1 : Int32)) hE hk_v0 hf _ _ _ h (lv_sub hl [2, 4, 0] rfl)
                · have hf := if_f hf c14
                  refine lv_iload_n C.1 C.2.1 dX3_findTokens_127 rfl (lv_at hl 1 rfl) ?_
                  refine lv_goto (tgt := 132) C.1 C.2.1 dX3_findTokens_128 (by decide) ?_
                  refine lv_iload_n C.1 C.2.1 dX3_findTokens_132 rfl (lv_at hl 3 rfl) ?_
                  refine lv_iconst (v := (0 : Int32)) C.1 C.2.1 dX3_findTokens_133 (by decide) ?_
                  obtain ⟨q16, hq_q16, hf⟩ := ob_ hf
                  refine x_av K h (x_V C K h [.int q3, .int v1, .int (0 : Int32)] (c_X3_addToken l κ G cy ad H.size σ v0 q3 v1 (0 : Int32) hk_v0 hq_q16) mi_X3_addToken rfl im_yX3_addToken se_yX3_addToken ml_RX3_89 cl_3 hk_v0 ⟨rfl, rfl, Nat.le_trans (Nat.le_of_ble_eq_true rfl) hR.1, Nat.le_trans (Nat.le_of_ble_eq_true rfl) hR.2⟩ hl (Nat.le_of_ble_eq_true rfl) dX3_findTokens_134 ⟨Nat.zero_le _, Nat.zero_le _⟩ rfl) (fun H locs h hX => ?_)
                  have hE := hE.trans hX
                  have hk_v0 := hX.k hk_v0 (by decide)
                  exact w_X3_findTokens_137 fu C K hr hlk hR (f_X3_findTokens_9 fu n) ih q16 v0 v2 (v1 + (1 : Int32)) hE hk_v0 hf _ _ _ h (lv_sub hl [2, 4, 0] rfl)
          · have hf := if_f hf c9
            refine lv_aload_n C.1 C.2.1 dX3_findTokens_72 rfl (lv_at hl 2 rfl) ?_
            refine lv_iload_n C.1 C.2.1 dX3_findTokens_73 rfl (lv_at hl 3 rfl) ?_
            obtain ⟨q17, hq_q17, hf⟩ := ob_ hf
            refine x_ai K h (x_V C K h [.int v1] (c_X3_numberEnd fu l κ G cy ad H.size σ v0 v1 hk_v0 hq_q17) mi_X3_numberEnd rfl im_yX3_numberEnd se_yX3_numberEnd ml_RX3_96 cl_3 hk_v0 ⟨rfl, rfl, Nat.le_trans (Nat.le_of_ble_eq_true rfl) hR.1, Nat.le_trans (Nat.le_of_ble_eq_true rfl) hR.2⟩ hl (Nat.le_of_ble_eq_true rfl) dX3_findTokens_74 ⟨Nat.zero_le _, Nat.zero_le _⟩ rfl) (fun H locs h hX => ?_)
            refine lv_istore (i := 4) (lv' := [(4, .int q17), (3, .int q3), (0, .ref (ad v0)), (1, .int v1), (2, .int v2)]) C.1 C.2.1 dX3_findTokens_77 hl (by decide) rfl (fun ls hl => ?_)
            refine lv_aload_n C.1 C.2.1 dX3_findTokens_79 rfl (lv_at hl 2 rfl) ?_
            refine lv_iload C.1 C.2.1 dX3_findTokens_80 (lv_at hl 0 rfl) ?_
            refine lv_iload_n C.1 C.2.1 dX3_findTokens_82 rfl (lv_at hl 3 rfl) ?_
            refine lv_isub C.1 C.2.1 dX3_findTokens_83 ?_
            refine lv_iconst (v := (4 : Int32)) C.1 C.2.1 dX3_findTokens_84 (by decide) ?_
            refine lv_icmp_le (tgt := 92) C.1 C.2.1 dX3_findTokens_85 (by decide) (fun c18 => ?_) (fun c18 => ?_)
            · have hf := if_t hf c18
              refine lv_iconst (v := (2 : Int32)) C.1 C.2.1 dX3_findTokens_92 (by decide) ?_
              exact w_X3_findTokens_93 fu C K hr hlk hR (f_X3_findTokens_9 fu n) ih σ v0 v1 v2 q17 v0 (2 : Int32) hE hk_v0 hk_v0 hf _ _ _ h (lv_sub hl [2, 3, 4, 0] rfl)
            · have hf := if_f hf c18
              refine lv_iconst (v := (1 : Int32)) C.1 C.2.1 dX3_findTokens_88 (by decide) ?_
              refine lv_goto (tgt := 93) C.1 C.2.1 dX3_findTokens_89 (by decide) ?_
              exact w_X3_findTokens_93 fu C K hr hlk hR (f_X3_findTokens_9 fu n) ih σ v0 v1 v2 q17 v0 (1 : Int32) hE hk_v0 hk_v0 hf _ _ _ h (lv_sub hl [2, 3, 4, 0] rfl)
        · have hf := if_f hf c6
          refine lv_aload_n C.1 C.2.1 dX3_findTokens_42 rfl (lv_at hl 2 rfl) ?_
          refine lv_iload_n C.1 C.2.1 dX3_findTokens_43 rfl (lv_at hl 3 rfl) ?_
          obtain ⟨q19, hq_q19, hf⟩ := ob_ hf
          refine x_ai K h (x_V C K h [.int v1] (c_X3_wordEnd fu l κ G cy ad H.size σ v0 v1 hk_v0 hq_q19) mi_X3_wordEnd rfl im_yX3_wordEnd se_yX3_wordEnd ml_RX3_83 cl_3 hk_v0 ⟨rfl, rfl, Nat.le_trans (Nat.le_of_ble_eq_true rfl) hR.1, Nat.le_trans (Nat.le_of_ble_eq_true rfl) hR.2⟩ hl (Nat.le_of_ble_eq_true rfl) dX3_findTokens_44 ⟨Nat.zero_le _, Nat.zero_le _⟩ rfl) (fun H locs h hX => ?_)
          refine lv_istore (i := 4) (lv' := [(4, .int q19), (3, .int q3), (0, .ref (ad v0)), (1, .int v1), (2, .int v2)]) C.1 C.2.1 dX3_findTokens_47 hl (by decide) rfl (fun ls hl => ?_)
          refine lv_aload_n C.1 C.2.1 dX3_findTokens_49 rfl (lv_at hl 2 rfl) ?_
          refine lv_aload_n C.1 C.2.1 dX3_findTokens_50 rfl (lv_at hl 2 rfl) ?_
          refine lv_iload_n C.1 C.2.1 dX3_findTokens_51 rfl (lv_at hl 3 rfl) ?_
          refine lv_iload C.1 C.2.1 dX3_findTokens_52 (lv_at hl 0 rfl) ?_
          obtain ⟨q20, hq_q20, hf⟩ := ob_ hf
          refine x_ai K h (x_V C K h [.int v1, .int q19] (c_X3_wordToken fu l κ G cy ad H.size σ v0 v1 q19 hk_v0 hq_q20) mi_X3_wordToken rfl im_yX3_wordToken se_yX3_wordToken ml_RX3_86 cl_3 hk_v0 ⟨rfl, rfl, Nat.le_trans (Nat.le_of_ble_eq_true rfl) hR.1, Nat.le_trans (Nat.le_of_ble_eq_true rfl) hR.2⟩ hl (Nat.le_of_ble_eq_true rfl) dX3_findTokens_54 ⟨Nat.zero_le _, Nat.zero_le _⟩ rfl) (fun H locs h hX => ?_)
          refine lv_iload_n C.1 C.2.1 dX3_findTokens_57 rfl (lv_at hl 3 rfl) ?_
          refine lv_iconst (v := (0 : Int32)) C.1 C.2.1 dX3_findTokens_58 (by decide) ?_
          obtain ⟨q21, hq_q21, hf⟩ := ob_ hf
          refine x_av K h (x_V C K h [.int q20, .int v1, .int (0 : Int32)] (c_X3_addToken l κ G cy ad H.size σ v0 q20 v1 (0 : Int32) hk_v0 hq_q21) mi_X3_addToken rfl im_yX3_addToken se_yX3_addToken ml_RX3_89 cl_3 hk_v0 ⟨rfl, rfl, Nat.le_trans (Nat.le_of_ble_eq_true rfl) hR.1, Nat.le_trans (Nat.le_of_ble_eq_true rfl) hR.2⟩ hl (Nat.le_of_ble_eq_true rfl) dX3_findTokens_59 ⟨Nat.zero_le _, Nat.zero_le _⟩ rfl) (fun H locs h hX => ?_)
          have hE := hE.trans hX
          have hk_v0 := hX.k hk_v0 (by decide)
          refine lv_goto (tgt := 137) C.1 C.2.1 dX3_findTokens_62 (by decide) ?_
          exact w_X3_findTokens_137 fu C K hr hlk hR (f_X3_findTokens_9 fu n) ih q21 v0 v2 q19 hE hk_v0 hf _ _ _ h (lv_sub hl [2, 4, 0] rfl)
def f_X3_findTokens (fu : Nat) (σ : St_) (a0 : Nat) : Option St_ := f_X3_findTokens_9 fu fu (ui_ σ a0 5 (0 : Int32)) a0 (0 : Int32) (0 : Int32)
set_option maxHeartbeats 4000000 in
set_option maxRecDepth 100000 in
theorem w_X3_findTokens {p : Program} {l : Launch} {e : Env} {R : Room} {s : State} {m : MethodId} {args : Array Value} {below : List Frame} {meth : Method} {c : Code} {κ : Ka_} {G : va_G} {cy : Nat → ClassId} {ad : Nat → Nat} {sz : Nat} {σ0 : St_} (fu : Nat) (C : CallFix p m c cX3_findTokens 5 s args wU_ RX3) (K : Kx_ κ G cy (va_A (wl_ cy ad σ0) sz) s) (hr : meth.sig.returnType = none) (hlk : meth.locks = false) (hR : 8 ≤ R.frames ∧ 246 ≤ R.locals) {q : St_} : ∀ (σ : St_) (a0 : Nat), Ex_ σ0 σ → kd_ σ a0 = 3 → f_X3_findTokens fu σ a0 = some q → ∀ (H : Heap) (locs : List Loc) (ls : Array Slot), Ht_ G cy (va_A (wl_ cy ad σ0) sz) s ad σ H locs → lv_has ls 5 [(0, .ref (ad a0))] → W p l e R s m args below meth c H locs 0 0 (MQ below (Qv_ G cy ad σ0 q sz) args s 0 0 (va_A (wl_ cy ad σ0) sz)) (F0 m 0 ls []) := by
  intro σ a0 hE hk_a0 hf H locs ls h hl
  have hf : (f_X3_findTokens_9 fu fu (ui_ σ a0 5 (0 : Int32)) a0 (0 : Int32) (0 : Int32)) = some q := hf
  refine lv_aload_n C.1 C.2.1 dX3_findTokens_0 rfl (lv_at hl 0 rfl) ?_
  refine lv_iconst (v := (0 : Int32)) C.1 C.2.1 dX3_findTokens_1 (by decide) ?_
  refine x_putI C K h cl_3 hk_a0 5 (by decide) fl_RX3_28 rfl rfl rfl (Nat.le_of_ble_eq_true rfl) (fun _ _ _ => rfl) dX3_findTokens_2 (fun H locs h => ?_)
  have hE := hE.up (up_i σ a0 5 (0 : Int32))
  refine lv_iconst (v := (0 : Int32)) C.1 C.2.1 dX3_findTokens_5 (by decide) ?_
  refine lv_istore_n (i := 1) (lv' := [(1, .int (0 : Int32)), (0, .ref (ad a0))]) C.1 C.2.1 dX3_findTokens_6 rfl hl (by decide) rfl (fun ls hl => ?_)
  refine lv_iconst (v := (0 : Int32)) C.1 C.2.1 dX3_findTokens_7 (by decide) ?_
  refine lv_istore_n (i := 2) (lv' := [(2, .int (0 : Int32)), (1, .int (0 : Int32)), (0, .ref (ad a0))]) C.1 C.2.1 dX3_findTokens_8 rfl hl (by decide) rfl (fun ls hl => ?_)
  exact w_X3_findTokens_9 fu C K hr hlk hR fu (ui_ σ a0 5 (0 : Int32)) a0 (0 : Int32) (0 : Int32) hE hk_a0 hf _ _ _ h (lv_sub hl [2, 1, 0] rfl)
theorem c_X3_findTokens (fu : Nat) (l : Launch) (κ : Ka_) (G : va_G) (cy : Nat → ClassId) (ad : Nat → Nat) (sz : Nat) (σ : St_) (a0 : Nat) (hk_a0 : kd_ σ a0 = 3) {q : St_} (hf : f_X3_findTokens fu σ a0 = some q) : Met l yX3_findTokens (Cond.code yX3_findTokens cX3_findTokens 5 none :: wU_) { frames := 8, cells := 0, slots := 0, locals := 246 } (va_Pc [.ref (ad a0)] (Pr_ κ G cy ad σ sz)) (Qv_ G cy ad σ q sz) 0 0 (va_A (wl_ cy ad σ) sz) :=
  x_met (by decide) (fun p e R s m below meth c ls hR C hr hlk hin _ K h hl => w_X3_findTokens fu C K hr hlk ⟨hR.1, hR.2.1⟩ σ a0 Ex_.rf hk_a0 hf s.heap [] ls h hl) (Nat.le_of_ble_eq_true rfl)
-- X3_token
theorem mi_X3_token : Mi_ yX3_token cX3_token 1 (some .int) 0 := ⟨co_yX3_token, in_RX3, by decide, by decide, by decide +kernel⟩
def f_X3_token (σ : St_) (a0 : Nat) : Option Int32 := if (si_ σ a0 6) < 0 then some (0 : Int32) else if (si_ σ a0 5) ≤ (si_ σ a0 6) then some (0 : Int32) else (dr_ σ 10 (sr_ σ a0 2)).bind fun b3 => if (nI (ln_ σ b3)) ≤ (si_ σ a0 6) then some (0 : Int32) else (ix_ (si_ σ a0 6) (ln_ σ b3)).bind fun j5 => some (si_ σ b3 j5)
set_option maxHeartbeats 4000000 in
set_option maxRecDepth 100000 in
theorem w_X3_token {p : Program} {l : Launch} {e : Env} {R : Room} {s : State} {m : MethodId} {args : Array Value} {below : List Frame} {meth : Method} {c : Code} {κ : Ka_} {G : va_G} {cy : Nat → ClassId} {ad : Nat → Nat} {sz : Nat} {σ : St_} (C : CallFix p m c cX3_token 1 s args wU_ RX3) (K : Kx_ κ G cy (va_A (wl_ cy ad σ) sz) s) (hr : meth.sig.returnType = some .int) (hlk : meth.locks = false) (hR : 0 ≤ R.frames ∧ 0 ≤ R.locals) {q : Int32} : ∀ (a0 : Nat), kd_ σ a0 = 3 → f_X3_token σ a0 = some q → ∀ (H : Heap) (locs : List Loc) (ls : Array Slot), Ht_ G cy (va_A (wl_ cy ad σ) sz) s ad σ H locs → lv_has ls 1 [(0, .ref (ad a0))] → W p l e R s m args below meth c H locs 0 0 (MQ below (Qi_ G cy ad σ σ sz q) args s 0 0 (va_A (wl_ cy ad σ) sz)) (F0 m 0 ls []) := by
  intro a0 hk_a0 hf H locs ls h hl
  have hf : (if (si_ σ a0 6) < 0 then some (0 : Int32) else if (si_ σ a0 5) ≤ (si_ σ a0 6) then some (0 : Int32) else (dr_ σ 10 (sr_ σ a0 2)).bind fun b3 => if (nI (ln_ σ b3)) ≤ (si_ σ a0 6) then some (0 : Int32) else (ix_ (si_ σ a0 6) (ln_ σ b3)).bind fun j5 => some (si_ σ b3 j5)) = some q := hf
  refine lv_aload_n C.1 C.2.1 dX3_token_0 rfl (lv_at hl 0 rfl) ?_
  refine x_get (v := .int (si_ σ a0 6)) C K h cl_3 hk_a0 6 (by decide) fl_RX3_31 rfl dX3_token_1 ?_
  refine lv_if_lt (tgt := 42) C.1 C.2.1 dX3_token_4 (by decide) (fun c1 => ?_) (fun c1 => ?_)
  · have hf := if_t hf c1
    refine lv_iconst (v := (0 : Int32)) C.1 C.2.1 dX3_token_42 (by decide) ?_
    exact x_ri C hr hlk h Ex_.rf (Option.some.inj hf) rfl dX3_token_43
  · have hf := if_f hf c1
    refine lv_aload_n C.1 C.2.1 dX3_token_7 rfl (lv_at hl 0 rfl) ?_
    refine x_get (v := .int (si_ σ a0 6)) C K h cl_3 hk_a0 6 (by decide) fl_RX3_31 rfl dX3_token_8 ?_
    refine lv_aload_n C.1 C.2.1 dX3_token_11 rfl (lv_at hl 0 rfl) ?_
    refine x_get (v := .int (si_ σ a0 5)) C K h cl_3 hk_a0 5 (by decide) fl_RX3_28 rfl dX3_token_12 ?_
    refine lv_icmp_ge (tgt := 42) C.1 C.2.1 dX3_token_15 (by decide) (fun c2 => ?_) (fun c2 => ?_)
    · have hf := if_t hf c2
      refine lv_iconst (v := (0 : Int32)) C.1 C.2.1 dX3_token_42 (by decide) ?_
      exact x_ri C hr hlk h Ex_.rf (Option.some.inj hf) rfl dX3_token_43
    · have hf := if_f hf c2
      refine lv_aload_n C.1 C.2.1 dX3_token_18 rfl (lv_at hl 0 rfl) ?_
      refine x_get (v := .int (si_ σ a0 6)) C K h cl_3 hk_a0 6 (by decide) fl_RX3_31 rfl dX3_token_19 ?_
      refine lv_aload_n C.1 C.2.1 dX3_token_22 rfl (lv_at hl 0 rfl) ?_
      obtain ⟨b3, hb_b3, hf⟩ := ob_ hf
      obtain ⟨hq_b3, hk_b3⟩ := dr_in hb_b3
      refine x_get (v := .ref (ad b3)) C K h cl_3 hk_a0 2 (by decide) fl_RX3_19 (hv_r (o := sr_ σ a0 2) rfl hq_b3) dX3_token_23 ?_
      refine x_ilen C K h hk_b3 dX3_token_26 ?_
      refine lv_icmp_ge (tgt := 42) C.1 C.2.1 dX3_token_27 (by decide) (fun c4 => ?_) (fun c4 => ?_)
      · have hf := if_t hf c4
        refine lv_iconst (v := (0 : Int32)) C.1 C.2.1 dX3_token_42 (by decide) ?_
        exact x_ri C hr hlk h Ex_.rf (Option.some.inj hf) rfl dX3_token_43
      · have hf := if_f hf c4
        refine lv_aload_n C.1 C.2.1 dX3_token_30 rfl (lv_at hl 0 rfl) ?_
        refine x_get (v := .ref (ad b3)) C K h cl_3 hk_a0 2 (by decide) fl_RX3_19 (hv_r (o := sr_ σ a0 2) rfl hq_b3) dX3_token_31 ?_
        refine lv_aload_n C.1 C.2.1 dX3_token_34 rfl (lv_at hl 0 rfl) ?_
        refine x_get (v := .int (si_ σ a0 6)) C K h cl_3 hk_a0 6 (by decide) fl_RX3_31 rfl dX3_token_35 ?_
        obtain ⟨j5, hj_j5, hf⟩ := ob_ hf
        refine x_iald C K h hk_b3 hj_j5 dX3_token_38 ?_
        refine lv_goto (tgt := 43) C.1 C.2.1 dX3_token_39 (by decide) ?_
        exact x_ri C hr hlk h Ex_.rf (Option.some.inj hf) rfl dX3_token_43
theorem c_X3_token (l : Launch) (κ : Ka_) (G : va_G) (cy : Nat → ClassId) (ad : Nat → Nat) (sz : Nat) (σ : St_) (a0 : Nat) (hk_a0 : kd_ σ a0 = 3) {q : Int32} (hf : f_X3_token σ a0 = some q) : Met l yX3_token (Cond.code yX3_token cX3_token 1 (some .int) :: wU_) { frames := 0, cells := 0, slots := 0, locals := 0 } (va_Pc [.ref (ad a0)] (Pr_ κ G cy ad σ sz)) (Qi_ G cy ad σ σ sz q) 0 0 (va_A (wl_ cy ad σ) sz) :=
  x_met (by decide) (fun p e R s m below meth c ls hR C hr hlk hin _ K h hl => w_X3_token C K hr hlk ⟨hR.1, hR.2.1⟩ a0 hk_a0 hf s.heap [] ls h hl) (Nat.le_of_ble_eq_true rfl)
-- X3_goOn
theorem mi_X3_goOn : Mi_ yX3_goOn cX3_goOn 1 none 0 := ⟨co_yX3_goOn, in_RX3, by decide, by decide, by decide +kernel⟩
def f_X3_goOn (σ : St_) (a0 : Nat) : St_ := ui_ σ a0 6 ((si_ σ a0 6) + (1 : Int32))
set_option maxHeartbeats 4000000 in
set_option maxRecDepth 100000 in
theorem w_X3_goOn {p : Program} {l : Launch} {e : Env} {R : Room} {s : State} {m : MethodId} {args : Array Value} {below : List Frame} {meth : Method} {c : Code} {κ : Ka_} {G : va_G} {cy : Nat → ClassId} {ad : Nat → Nat} {sz : Nat} {σ0 : St_} (C : CallFix p m c cX3_goOn 1 s args wU_ RX3) (K : Kx_ κ G cy (va_A (wl_ cy ad σ0) sz) s) (hr : meth.sig.returnType = none) (hlk : meth.locks = false) (hR : 0 ≤ R.frames ∧ 0 ≤ R.locals) {q : St_} : ∀ (σ : St_) (a0 : Nat), Ex_ σ0 σ → kd_ σ a0 = 3 → f_X3_goOn σ a0 = q → ∀ (H : Heap) (locs : List Loc) (ls : Array Slot), Ht_ G cy (va_A (wl_ cy ad σ0) sz) s ad σ H locs → lv_has ls 1 [(0, .ref (ad a0))] → W p l e R s m args below meth c H locs 0 0 (MQ below (Qv_ G cy ad σ0 q sz) args s 0 0 (va_A (wl_ cy ad σ0) sz)) (F0 m 0 ls []) := by
  intro σ a0 hE hk_a0 hf H locs ls h hl
  have hf : (ui_ σ a0 6 ((si_ σ a0 6) + (1 : Int32))) = q := hf
  refine lv_aload_n C.1 C.2.1 dX3_goOn_0 rfl (lv_at hl 0 rfl) ?_
  refine lv_dup C.1 C.2.1 dX3_goOn_1 rfl ?_
  refine x_get (v := .int (si_ σ a0 6)) C K h cl_3 hk_a0 6 (by decide) fl_RX3_31 rfl dX3_goOn_2 ?_
  refine lv_iconst (v := (1 : Int32)) C.1 C.2.1 dX3_goOn_5 (by decide) ?_
  refine lv_iadd C.1 C.2.1 dX3_goOn_6 ?_
  refine x_putI C K h cl_3 hk_a0 6 (by decide) fl_RX3_31 rfl rfl rfl (Nat.le_of_ble_eq_true rfl) (fun _ _ _ => rfl) dX3_goOn_7 (fun H locs h => ?_)
  have hE := hE.up (up_i σ a0 6 ((si_ σ a0 6) + (1 : Int32)))
  exact x_rv C hr hlk h hE hf dX3_goOn_10
theorem c_X3_goOn (l : Launch) (κ : Ka_) (G : va_G) (cy : Nat → ClassId) (ad : Nat → Nat) (sz : Nat) (σ : St_) (a0 : Nat) (hk_a0 : kd_ σ a0 = 3) {q : St_} (hf : f_X3_goOn σ a0 = q) : Met l yX3_goOn (Cond.code yX3_goOn cX3_goOn 1 none :: wU_) { frames := 0, cells := 0, slots := 0, locals := 0 } (va_Pc [.ref (ad a0)] (Pr_ κ G cy ad σ sz)) (Qv_ G cy ad σ q sz) 0 0 (va_A (wl_ cy ad σ) sz) :=
  x_met (by decide) (fun p e R s m below meth c ls hR C hr hlk hin _ K h hl => w_X3_goOn C K hr hlk ⟨hR.1, hR.2.1⟩ σ a0 Ex_.rf hk_a0 hf s.heap [] ls h hl) (Nat.le_of_ble_eq_true rfl)
-- X3_pass
theorem mi_X3_pass : Mi_ yX3_pass cX3_pass 2 (some .boolean) 1 := ⟨co_yX3_pass, in_RX3, by decide, by decide, by decide +kernel⟩
def f_X3_pass (σ : St_) (a0 : Nat) (x1 : Int32) : Option (Int32 × St_) := (f_X3_token σ a0).bind fun q2 => if q2 = x1 then some ((1 : Int32), f_X3_goOn σ a0) else some ((0 : Int32), σ)
set_option maxHeartbeats 4000000 in
set_option maxRecDepth 100000 in
theorem w_X3_pass {p : Program} {l : Launch} {e : Env} {R : Room} {s : State} {m : MethodId} {args : Array Value} {below : List Frame} {meth : Method} {c : Code} {κ : Ka_} {G : va_G} {cy : Nat → ClassId} {ad : Nat → Nat} {sz : Nat} {σ0 : St_} (C : CallFix p m c cX3_pass 2 s args wU_ RX3) (K : Kx_ κ G cy (va_A (wl_ cy ad σ0) sz) s) (hr : meth.sig.returnType = some .boolean) (hlk : meth.locks = false) (hR : 1 ≤ R.frames ∧ 20 ≤ R.locals) {q : Int32 × St_} : ∀ (σ : St_) (a0 : Nat) (x1 : Int32), Ex_ σ0 σ → kd_ σ a0 = 3 → f_X3_pass σ a0 x1 = some q → ∀ (H : Heap) (locs : List Loc) (ls : Array Slot), Ht_ G cy (va_A (wl_ cy ad σ0) sz) s ad σ H locs → lv_has ls 2 [(0, .ref (ad a0)), (1, .int x1)] → W p l e R s m args below meth c H locs 0 0 (MQ below (Qz_ G cy ad σ0 q.2 sz q.1) args s 0 0 (va_A (wl_ cy ad σ0) sz)) (F0 m 0 ls []) := by
  intro σ a0 x1 hE hk_a0 hf H locs ls h hl
  have hf : ((f_X3_token σ a0).bind fun q2 => if q2 = x1 then some ((1 : Int32), f_X3_goOn σ a0) else some ((0 : Int32), σ)) = some q := hf
  refine lv_aload_n C.1 C.2.1 dX3_pass_0 rfl (lv_at hl 0 rfl) ?_
  obtain ⟨q2, hq_q2, hf⟩ := ob_ hf
  refine x_ai K h (x_V C K h [] (c_X3_token l κ G cy ad H.size σ a0 hk_a0 hq_q2) mi_X3_token rfl im_yX3_token se_yX3_token ml_RX3_57 cl_3 hk_a0 ⟨rfl, rfl, Nat.le_trans (Nat.le_of_ble_eq_true rfl) hR.1, Nat.le_trans (Nat.le_of_ble_eq_true rfl) hR.2⟩ hl (Nat.le_of_ble_eq_true rfl) dX3_pass_1 ⟨Nat.zero_le _, Nat.zero_le _⟩ rfl) (fun H locs h hX => ?_)
  refine lv_iload_n C.1 C.2.1 dX3_pass_4 rfl (lv_at hl 1 rfl) ?_
  refine lv_icmp_eq (tgt := 10) C.1 C.2.1 dX3_pass_5 (by decide) (fun c3 => ?_) (fun c3 => ?_)
  · have hf := if_t hf c3
    refine lv_aload_n C.1 C.2.1 dX3_pass_10 rfl (lv_at hl 0 rfl) ?_
    refine x_av K h (x_V C K h [] (c_X3_goOn l κ G cy ad H.size σ a0 hk_a0 rfl) mi_X3_goOn rfl im_yX3_goOn se_yX3_goOn ml_RX3_142 cl_3 hk_a0 ⟨rfl, rfl, Nat.le_trans (Nat.le_of_ble_eq_true rfl) hR.1, Nat.le_trans (Nat.le_of_ble_eq_true rfl) hR.2⟩ hl (Nat.le_of_ble_eq_true rfl) dX3_pass_11 ⟨Nat.zero_le _, Nat.zero_le _⟩ rfl) (fun H locs h hX => ?_)
    have hE := hE.trans hX
    have hk_a0 := hX.k hk_a0 (by decide)
    refine lv_iconst (v := (1 : Int32)) C.1 C.2.1 dX3_pass_14 (by decide) ?_
    exact x_rzz C hr hlk h hE (by decide) (pf_1 (Option.some.inj hf)) (pf_2 (Option.some.inj hf)) dX3_pass_15
  · have hf := if_f hf c3
    refine lv_iconst (v := (0 : Int32)) C.1 C.2.1 dX3_pass_8 (by decide) ?_
    exact x_rzz C hr hlk h hE (by decide) (pf_1 (Option.some.inj hf)) (pf_2 (Option.some.inj hf)) dX3_pass_9
theorem c_X3_pass (l : Launch) (κ : Ka_) (G : va_G) (cy : Nat → ClassId) (ad : Nat → Nat) (sz : Nat) (σ : St_) (a0 : Nat) (x1 : Int32) (hk_a0 : kd_ σ a0 = 3) {q : Int32 × St_} (hf : f_X3_pass σ a0 x1 = some q) : Met l yX3_pass (Cond.code yX3_pass cX3_pass 2 (some .boolean) :: wU_) { frames := 1, cells := 0, slots := 0, locals := 20 } (va_Pc [.ref (ad a0), .int x1] (Pr_ κ G cy ad σ sz)) (Qz_ G cy ad σ q.2 sz q.1) 0 0 (va_A (wl_ cy ad σ) sz) :=
  x_met (by decide) (fun p e R s m below meth c ls hR C hr hlk hin _ K h hl => w_X3_pass C K hr hlk ⟨hR.1, hR.2.1⟩ σ a0 x1 Ex_.rf hk_a0 hf s.heap [] ls h hl) (Nat.le_of_ble_eq_true rfl)
-- X3_emit
theorem mi_X3_emit : Mi_ yX3_emit cX3_emit 2 none 1 := ⟨co_yX3_emit, in_RX3, by decide, by decide, by decide +kernel⟩
def f_X3_emit (σ : St_) (a0 : Nat) (x1 : Int32) : Option St_ := (dr_ σ 10 (sr_ σ a0 7)).bind fun b2 => if (f_X8_isBelow (si_ σ a0 8) (nI (ln_ σ b2))) = 0 then some σ else (ix_ (si_ σ a0 8) (ln_ σ b2)).bind fun j6 => some (ui_ (ui_ σ b2 j6 x1) a0 8 ((si_ (ui_ σ b2 j6 x1) a0 8) + (1 : Int32)))
set_option maxHeartbeats 4000000 in
set_option maxRecDepth 100000 in
theorem w_X3_emit {p : Program} {l : Launch} {e : Env} {R : Room} {s : State} {m : MethodId} {args : Array Value} {below : List Frame} {meth : Method} {c : Code} {κ : Ka_} {G : va_G} {cy : Nat → ClassId} {ad : Nat → Nat} {sz : Nat} {σ0 : St_} (C : CallFix p m c cX3_emit 2 s args wU_ RX3) (K : Kx_ κ G cy (va_A (wl_ cy ad σ0) sz) s) (hr : meth.sig.returnType = none) (hlk : meth.locks = false) (hR : 1 ≤ R.frames ∧ 21 ≤ R.locals) {q : St_} : ∀ (σ : St_) (a0 : Nat) (x1 : Int32), Ex_ σ0 σ → kd_ σ a0 = 3 → f_X3_emit σ a0 x1 = some q → ∀ (H : Heap) (locs : List Loc) (ls : Array Slot), Ht_ G cy (va_A (wl_ cy ad σ0) sz) s ad σ H locs → lv_has ls 2 [(0, .ref (ad a0)), (1, .int x1)] → W p l e R s m args below meth c H locs 0 0 (MQ below (Qv_ G cy ad σ0 q sz) args s 0 0 (va_A (wl_ cy ad σ0) sz)) (F0 m 0 ls []) := by
  intro σ a0 x1 hE hk_a0 hf H locs ls h hl
  have hf : ((dr_ σ 10 (sr_ σ a0 7)).bind fun b2 => if (f_X8_isBelow (si_ σ a0 8) (nI (ln_ σ b2))) = 0 then some σ else (ix_ (si_ σ a0 8) (ln_ σ b2)).bind fun j6 => some (ui_ (ui_ σ b2 j6 x1) a0 8 ((si_ (ui_ σ b2 j6 x1) a0 8) + (1 : Int32)))) = some q := hf
  refine lv_aload_n C.1 C.2.1 dX3_emit_0 rfl (lv_at hl 0 rfl) ?_
  refine x_get (v := .int (si_ σ a0 8)) C K h cl_3 hk_a0 8 (by decide) fl_RX3_37 rfl dX3_emit_1 ?_
  refine lv_aload_n C.1 C.2.1 dX3_emit_4 rfl (lv_at hl 0 rfl) ?_
  obtain ⟨b2, hb_b2, hf⟩ := ob_ hf
  obtain ⟨hq_b2, hk_b2⟩ := dr_in hb_b2
  refine x_get (v := .ref (ad b2)) C K h cl_3 hk_a0 7 (by decide) fl_RX3_34 (hv_r (o := sr_ σ a0 7) rfl hq_b2) dX3_emit_5 ?_
  refine x_ilen C K h hk_b2 dX3_emit_8 ?_
  refine x_az K h (x_SN C K h [.int (si_ σ a0 8), .int (nI (ln_ σ b2))] (c_X8_isBelow l κ G cy ad H.size σ (si_ σ a0 8) (nI (ln_ σ b2)) rfl) mi_X8_isBelow rfl st_yX8_isBelow nm_RX3_46 ⟨rfl, rfl, Nat.le_trans (Nat.le_of_ble_eq_true rfl) hR.1, Nat.le_trans (Nat.le_of_ble_eq_true rfl) hR.2⟩ hl (Nat.le_of_ble_eq_true rfl) dX3_emit_9 ⟨Nat.zero_le _, Nat.zero_le _⟩ rfl) (fun H locs h hX hz4 => ?_)
  refine lv_if_eq (tgt := 35) C.1 C.2.1 dX3_emit_12 (by decide) (fun c5 => ?_) (fun c5 => ?_)
  · have hf := if_t hf c5
    exact x_rv C hr hlk h hE (Option.some.inj hf) dX3_emit_35
  · have hf := if_f hf c5
    refine lv_aload_n C.1 C.2.1 dX3_emit_15 rfl (lv_at hl 0 rfl) ?_
    refine x_get (v := .ref (ad b2)) C K h cl_3 hk_a0 7 (by decide) fl_RX3_34 (hv_r (o := sr_ σ a0 7) rfl hq_b2) dX3_emit_16 ?_
    refine lv_aload_n C.1 C.2.1 dX3_emit_19 rfl (lv_at hl 0 rfl) ?_
    refine x_get (v := .int (si_ σ a0 8)) C K h cl_3 hk_a0 8 (by decide) fl_RX3_37 rfl dX3_emit_20 ?_
    refine lv_iload_n C.1 C.2.1 dX3_emit_23 rfl (lv_at hl 1 rfl) ?_
    obtain ⟨j6, hj_j6, hf⟩ := ob_ hf
    refine x_iast C K h hk_b2 hj_j6 dX3_emit_24 (fun H locs h => ?_)
    have hE := hE.up (up_i σ b2 j6 x1)
    refine lv_aload_n C.1 C.2.1 dX3_emit_25 rfl (lv_at hl 0 rfl) ?_
    refine lv_dup C.1 C.2.1 dX3_emit_26 rfl ?_
    refine x_get (v := .int (si_ (ui_ σ b2 j6 x1) a0 8)) C K h cl_3 hk_a0 8 (by decide) fl_RX3_37 rfl dX3_emit_27 ?_
    refine lv_iconst (v := (1 : Int32)) C.1 C.2.1 dX3_emit_30 (by decide) ?_
    refine lv_iadd C.1 C.2.1 dX3_emit_31 ?_
    refine x_putI C K h cl_3 hk_a0 8 (by decide) fl_RX3_37 rfl rfl rfl (Nat.le_of_ble_eq_true rfl) (fun _ _ _ => rfl) dX3_emit_32 (fun H locs h => ?_)
    have hE := hE.up (up_i (ui_ σ b2 j6 x1) a0 8 ((si_ (ui_ σ b2 j6 x1) a0 8) + (1 : Int32)))
    exact x_rv C hr hlk h hE (Option.some.inj hf) dX3_emit_35
theorem c_X3_emit (l : Launch) (κ : Ka_) (G : va_G) (cy : Nat → ClassId) (ad : Nat → Nat) (sz : Nat) (σ : St_) (a0 : Nat) (x1 : Int32) (hk_a0 : kd_ σ a0 = 3) {q : St_} (hf : f_X3_emit σ a0 x1 = some q) : Met l yX3_emit (Cond.code yX3_emit cX3_emit 2 none :: wU_) { frames := 1, cells := 0, slots := 0, locals := 21 } (va_Pc [.ref (ad a0), .int x1] (Pr_ κ G cy ad σ sz)) (Qv_ G cy ad σ q sz) 0 0 (va_A (wl_ cy ad σ) sz) :=
  x_met (by decide) (fun p e R s m below meth c ls hR C hr hlk hin _ K h hl => w_X3_emit C K hr hlk ⟨hR.1, hR.2.1⟩ σ a0 x1 Ex_.rf hk_a0 hf s.heap [] ls h hl) (Nat.le_of_ble_eq_true rfl)
-- X3_readNumber
theorem mi_X3_readNumber : Mi_ yX3_readNumber cX3_readNumber 1 (some .boolean) 0 := ⟨co_yX3_readNumber, in_RX3, by decide, by decide, by decide +kernel⟩
def f_X3_readNumber (σ : St_) (a0 : Nat) : Option (Int32 × St_) := (dr_ σ 10 (sr_ σ a0 4)).bind fun b1 => if (f_X8_isBelow (si_ σ a0 6) (nI (ln_ σ b1))) = 0 then some ((0 : Int32), σ) else (ix_ (si_ σ a0 6) (ln_ σ b1)).bind fun j5 => (f_X3_emit σ a0 (((si_ σ b1 j5) <<< ((4 : Int32) &&& 31)) ||| (0 : Int32))).bind fun q6 => some ((1 : Int32), f_X3_goOn q6 a0)
set_option maxHeartbeats 4000000 in
set_option maxRecDepth 100000 in
theorem w_X3_readNumber {p : Program} {l : Launch} {e : Env} {R : Room} {s : State} {m : MethodId} {args : Array Value} {below : List Frame} {meth : Method} {c : Code} {κ : Ka_} {G : va_G} {cy : Nat → ClassId} {ad : Nat → Nat} {sz : Nat} {σ0 : St_} (C : CallFix p m c cX3_readNumber 1 s args wU_ RX3) (K : Kx_ κ G cy (va_A (wl_ cy ad σ0) sz) s) (hr : meth.sig.returnType = some .boolean) (hlk : meth.locks = false) (hR : 2 ≤ R.frames ∧ 42 ≤ R.locals) {q : Int32 × St_} : ∀ (σ : St_) (a0 : Nat), Ex_ σ0 σ → kd_ σ a0 = 3 → f_X3_readNumber σ a0 = some q → ∀ (H : Heap) (locs : List Loc) (ls : Array Slot), Ht_ G cy (va_A (wl_ cy ad σ0) sz) s ad σ H locs → lv_has ls 1 [(0, .ref (ad a0))] → W p l e R s m args below meth c H locs 0 0 (MQ below (Qz_ G cy ad σ0 q.2 sz q.1) args s 0 0 (va_A (wl_ cy ad σ0) sz)) (F0 m 0 ls []) := by
  intro σ a0 hE hk_a0 hf H locs ls h hl
  have hf : ((dr_ σ 10 (sr_ σ a0 4)).bind fun b1 => if (f_X8_isBelow (si_ σ a0 6) (nI (ln_ σ b1))) = 0 then some ((0 : Int32), σ) else (ix_ (si_ σ a0 6) (ln_ σ b1)).bind fun j5 => (f_X3_emit σ a0 (((si_ σ b1 j5) <<< ((4 : Int32) &&& 31)) ||| (0 : Int32))).bind fun q6 => some ((1 : Int32), f_X3_goOn q6 a0)) = some q := hf
  refine lv_aload_n C.1 C.2.1 dX3_readNumber_0 rfl (lv_at hl 0 rfl) ?_
  refine x_get (v := .int (si_ σ a0 6)) C K h cl_3 hk_a0 6 (by decide) fl_RX3_31 rfl dX3_readNumber_1 ?_
  refine lv_aload_n C.1 C.2.1 dX3_readNumber_4 rfl (lv_at hl 0 rfl) ?_
  obtain ⟨b1, hb_b1, hf⟩ := ob_ hf
  obtain ⟨hq_b1, hk_b1⟩ := dr_in hb_b1
  refine x_get (v := .ref (ad b1)) C K h cl_3 hk_a0 4 (by decide) fl_RX3_25 (hv_r (o := sr_ σ a0 4) rfl hq_b1) dX3_readNumber_5 ?_
  refine x_ilen C K h hk_b1 dX3_readNumber_8 ?_
  refine x_az K h (x_SN C K h [.int (si_ σ a0 6), .int (nI (ln_ σ b1))] (c_X8_isBelow l κ G cy ad H.size σ (si_ σ a0 6) (nI (ln_ σ b1)) rfl) mi_X8_isBelow rfl st_yX8_isBelow nm_RX3_46 ⟨rfl, rfl, Nat.le_trans (Nat.le_of_ble_eq_true rfl) hR.1, Nat.le_trans (Nat.le_of_ble_eq_true rfl) hR.2⟩ hl (Nat.le_of_ble_eq_true rfl) dX3_readNumber_9 ⟨Nat.zero_le _, Nat.zero_le _⟩ rfl) (fun H locs h hX hz3 => ?_)
  refine lv_if_ne (tgt := 17) C.1 C.2.1 dX3_readNumber_12 (by decide) (fun c4 => ?_) (fun c4 => ?_)
  · have hf := if_f hf c4
    refine lv_aload_n C.1 C.2.1 dX3_readNumber_17 rfl (lv_at hl 0 rfl) ?_
    refine lv_aload_n C.1 C.2.1 dX3_readNumber_18 rfl (lv_at hl 0 rfl) ?_
    refine x_get (v := .ref (ad b1)) C K h cl_3 hk_a0 4 (by decide) fl_RX3_25 (hv_r (o := sr_ σ a0 4) rfl hq_b1) dX3_readNumber_19 ?_
    refine lv_aload_n C.1 C.2.1 dX3_readNumber_22 rfl (lv_at hl 0 rfl) ?_
    refine x_get (v := .int (si_ σ a0 6)) C K h cl_3 hk_a0 6 (by decide) fl_RX3_31 rfl dX3_readNumber_23 ?_
    obtain ⟨j5, hj_j5, hf⟩ := ob_ hf
    refine x_iald C K h hk_b1 hj_j5 dX3_readNumber_26 ?_
    refine lv_iconst (v := (4 : Int32)) C.1 C.2.1 dX3_readNumber_27 (by decide) ?_
    refine lv_ishl C.1 C.2.1 dX3_readNumber_28 ?_
    refine lv_iconst (v := (0 : Int32)) C.1 C.2.1 dX3_readNumber_29 (by decide) ?_
    refine lv_ior C.1 C.2.1 dX3_readNumber_30 ?_
    obtain ⟨q6, hq_q6, hf⟩ := ob_ hf
    refine x_av K h (x_V C K h [.int (((si_ σ b1 j5) <<< ((4 : Int32) &&& 31)) ||| (0 : Int32))] (c_X3_emit l κ G cy ad H.size σ a0 (((si_ σ b1 j5) <<< ((4 : Int32) &&& 31)) ||| (0 : Int32)) hk_a0 hq_q6) mi_X3_emit rfl im_yX3_emit se_yX3_emit ml_RX3_154 cl_3 hk_a0 ⟨rfl, rfl, Nat.le_trans (Nat.le_of_ble_eq_true rfl) hR.1, Nat.le_trans (Nat.le_of_ble_eq_true rfl) hR.2⟩ hl (Nat.le_of_ble_eq_true rfl) dX3_readNumber_31 ⟨Nat.zero_le _, Nat.zero_le _⟩ rfl) (fun H locs h hX => ?_)
    have hE := hE.trans hX
    have hk_a0 := hX.k hk_a0 (by decide)
    refine lv_aload_n C.1 C.2.1 dX3_readNumber_34 rfl (lv_at hl 0 rfl) ?_
    refine x_av K h (x_V C K h [] (c_X3_goOn l κ G cy ad H.size q6 a0 hk_a0 rfl) mi_X3_goOn rfl im_yX3_goOn se_yX3_goOn ml_RX3_142 cl_3 hk_a0 ⟨rfl, rfl, Nat.le_trans (Nat.le_of_ble_eq_true rfl) hR.1, Nat.le_trans (Nat.le_of_ble_eq_true rfl) hR.2⟩ hl (Nat.le_of_ble_eq_true rfl) dX3_readNumber_35 ⟨Nat.zero_le _, Nat.zero_le _⟩ rfl) (fun H locs h hX => ?_)
    have hE := hE.trans hX
    have hk_a0 := hX.k hk_a0 (by decide)
    refine lv_iconst (v := (1 : Int32)) C.1 C.2.1 dX3_readNumber_38 (by decide) ?_
    exact x_rzz C hr hlk h hE (by decide) (pf_1 (Option.some.inj hf)) (pf_2 (Option.some.inj hf)) dX3_readNumber_39
  · have hf := if_t hf c4
    refine lv_iconst (v := (0 : Int32)) C.1 C.2.1 dX3_readNumber_15 (by decide) ?_
    exact x_rzz C hr hlk h hE (by decide) (pf_1 (Option.some.inj hf)) (pf_2 (Option.some.inj hf)) dX3_readNumber_16
theorem c_X3_readNumber (l : Launch) (κ : Ka_) (G : va_G) (cy : Nat → ClassId) (ad : Nat → Nat) (sz : Nat) (σ : St_) (a0 : Nat) (hk_a0 : kd_ σ a0 = 3) {q : Int32 × St_} (hf : f_X3_readNumber σ a0 = some q) : Met l yX3_readNumber (Cond.code yX3_readNumber cX3_readNumber 1 (some .boolean) :: wU_) { frames := 2, cells := 0, slots := 0, locals := 42 } (va_Pc [.ref (ad a0)] (Pr_ κ G cy ad σ sz)) (Qz_ G cy ad σ q.2 sz q.1) 0 0 (va_A (wl_ cy ad σ) sz) :=
  x_met (by decide) (fun p e R s m below meth c ls hR C hr hlk hin _ K h hl => w_X3_readNumber C K hr hlk ⟨hR.1, hR.2.1⟩ σ a0 Ex_.rf hk_a0 hf s.heap [] ls h hl) (Nat.le_of_ble_eq_true rfl)
