-- X6_takeUp
theorem mi_X6_takeUp : Mi_ yX6_takeUp cX6_takeUp 5 none 3 := ⟨co_yX6_takeUp, in_RX6, by decide, by decide, by decide +kernel⟩
def f_X6_takeUp (σ : St_) (a0 : Nat) (x1 : Nat) (x2 : Int64) (x3 : Int32) : Option St_ := (dr_ (ul_ (ui_ σ a0 2 (si_ σ x1 0)) a0 3 x2) 10 (sr_ (ul_ (ui_ σ a0 2 (si_ σ x1 0)) a0 3 x2) a0 0)).bind fun b4 => (ix_ (1 : Int32) (ln_ (ul_ (ui_ σ a0 2 (si_ σ x1 0)) a0 3 x2) b4)).bind fun j5 => (ix_ (5 : Int32) (ln_ (ui_ (ul_ (ui_ σ a0 2 (si_ σ x1 0)) a0 3 x2) b4 j5 (si_ (ul_ (ui_ σ a0 2 (si_ σ x1 0)) a0 3 x2) x1 1)) b4)).bind fun j6 => (ix_ (4 : Int32) (ln_ (ui_ (ui_ (ul_ (ui_ σ a0 2 (si_ σ x1 0)) a0 3 x2) b4 j5 (si_ (ul_ (ui_ σ a0 2 (si_ σ x1 0)) a0 3 x2) x1 1)) b4 j6 (si_ (ui_ (ul_ (ui_ σ a0 2 (si_ σ x1 0)) a0 3 x2) b4 j5 (si_ (ul_ (ui_ σ a0 2 (si_ σ x1 0)) a0 3 x2) x1 1)) x1 3)) b4)).bind fun j7 => some (ui_ (ui_ (ui_ (ul_ (ui_ σ a0 2 (si_ σ x1 0)) a0 3 x2) b4 j5 (si_ (ul_ (ui_ σ a0 2 (si_ σ x1 0)) a0 3 x2) x1 1)) b4 j6 (si_ (ui_ (ul_ (ui_ σ a0 2 (si_ σ x1 0)) a0 3 x2) b4 j5 (si_ (ul_ (ui_ σ a0 2 (si_ σ x1 0)) a0 3 x2) x1 1)) x1 3)) b4 j7 x3)
set_option maxHeartbeats 4000000 in
set_option maxRecDepth 100000 in
theorem w_X6_takeUp {p : Program} {l : Launch} {e : Env} {R : Room} {s : State} {m : MethodId} {args : Array Value} {below : List Frame} {meth : Method} {c : Code} {κ : Ka_} {G : va_G} {cy : Nat → ClassId} {ad : Nat → Nat} {sz : Nat} {σ0 : St_} (C : CallFix p m c cX6_takeUp 5 s args wU_ RX6) (K : Kx_ κ G cy (va_A (wl_ cy ad σ0) sz) s) (hr : meth.sig.returnType = none) (hlk : meth.locks = false) (hR : 0 ≤ R.frames ∧ 0 ≤ R.locals) {q : St_} : ∀ (σ : St_) (a0 : Nat) (x1 : Nat) (x2 : Int64) (x3 : Int32), Ex_ σ0 σ → kd_ σ a0 = 6 → kd_ σ x1 = 0 → f_X6_takeUp σ a0 x1 x2 x3 = some q → ∀ (H : Heap) (locs : List Loc) (ls : Array Slot), Ht_ G cy (va_A (wl_ cy ad σ0) sz) s ad σ H locs → lv_has ls 5 [(0, .ref (ad a0)), (1, .ref (ad x1)), (2, .long x2), (4, .int x3)] → W p l e R s m args below meth c H locs 0 0 (MQ below (Qv_ G cy ad σ0 q sz) args s 0 0 (va_A (wl_ cy ad σ0) sz)) (F0 m 0 ls []) := by
  intro σ a0 x1 x2 x3 hE hk_a0 hk_x1 hf H locs ls h hl
  have hf : ((dr_ (ul_ (ui_ σ a0 2 (si_ σ x1 0)) a0 3 x2) 10 (sr_ (ul_ (ui_ σ a0 2 (si_ σ x1 0)) a0 3 x2) a0 0)).bind fun b4 => (ix_ (1 : Int32) (ln_ (ul_ (ui_ σ a0 2 (si_ σ x1 0)) a0 3 x2) b4)).bind fun j5 => (ix_ (5 : Int32) (ln_ (ui_ (ul_ (ui_ σ a0 2 (si_ σ x1 0)) a0 3 x2) b4 j5 (si_ (ul_ (ui_ σ a0 2 (si_ σ x1 0)) a0 3 x2) x1 1)) b4)).bind fun j6 => (ix_ (4 : Int32) (ln_ (ui_ (ui_ (ul_ (ui_ σ a0 2 (si_ σ x1 0)) a0 3 x2) b4 j5 (si_ (ul_ (ui_ σ a0 2 (si_ σ x1 0)) a0 3 x2) x1 1)) b4 j6 (si_ (ui_ (ul_ (ui_ σ a0 2 (si_ σ x1 0)) a0 3 x2) b4 j5 (si_ (ul_ (ui_ σ a0 2 (si_ σ x1 0)) a0 3 x2) x1 1)) x1 3)) b4)).bind fun j7 => some (ui_ (ui_ (ui_ (ul_ (ui_ σ a0 2 (si_ σ x1 0)) a0 3 x2) b4 j5 (si_ (ul_ (ui_ σ a0 2 (si_ σ x1 0)) a0 3 x2) x1 1)) b4 j6 (si_ (ui_ (ul_ (ui_ σ a0 2 (si_ σ x1 0)) a0 3 x2) b4 j5 (si_ (ul_ (ui_ σ a0 2 (si_ σ x1 0)) a0 3 x2) x1 1)) x1 3)) b4 j7 x3)) = some q := hf
  refine lv_aload_n C.1 C.2.1 dX6_takeUp_0 rfl (lv_at hl 0 rfl) ?_
  refine lv_aload_n C.1 C.2.1 dX6_takeUp_1 rfl (lv_at hl 1 rfl) ?_
  refine x_getN (v := .int (si_ σ x1 0)) C K h cl_0 hk_x1 0 (by decide) nf_RX6_32 rfl dX6_takeUp_2 ?_
  refine x_putI C K h cl_6 hk_a0 2 (by decide) fl_RX6_20 rfl rfl rfl (Nat.le_of_ble_eq_true rfl) (fun _ _ _ => rfl) dX6_takeUp_5 (fun H locs h => ?_)
  have hE := hE.up (up_i σ a0 2 (si_ σ x1 0))
  refine lv_aload_n C.1 C.2.1 dX6_takeUp_8 rfl (lv_at hl 0 rfl) ?_
  refine lv_lload_n C.1 C.2.1 dX6_takeUp_9 rfl (lv_at hl 2 rfl) ?_
  refine x_putL C K h cl_6 hk_a0 3 (by decide) fl_RX6_24 rfl rfl rfl (Nat.le_of_ble_eq_true rfl) (fun _ _ _ => rfl) dX6_takeUp_10 (fun H locs h => ?_)
  have hE := hE.up (up_l (ui_ σ a0 2 (si_ σ x1 0)) a0 3 x2)
  refine lv_aload_n C.1 C.2.1 dX6_takeUp_13 rfl (lv_at hl 0 rfl) ?_
  obtain ⟨b4, hb_b4, hf⟩ := ob_ hf
  obtain ⟨hq_b4, hk_b4⟩ := dr_in hb_b4
  refine x_get (v := .ref (ad b4)) C K h cl_6 hk_a0 0 (by decide) fl_RX6_11 (hv_r (o := sr_ (ul_ (ui_ σ a0 2 (si_ σ x1 0)) a0 3 x2) a0 0) rfl hq_b4) dX6_takeUp_14 ?_
  refine lv_iconst (v := (1 : Int32)) C.1 C.2.1 dX6_takeUp_17 (by decide) ?_
  refine lv_aload_n C.1 C.2.1 dX6_takeUp_18 rfl (lv_at hl 1 rfl) ?_
  refine x_getN (v := .int (si_ (ul_ (ui_ σ a0 2 (si_ σ x1 0)) a0 3 x2) x1 1)) C K h cl_0 hk_x1 1 (by decide) nf_RX6_35 rfl dX6_takeUp_19 ?_
  obtain ⟨j5, hj_j5, hf⟩ := ob_ hf
  refine x_iast C K h hk_b4 hj_j5 dX6_takeUp_22 (fun H locs h => ?_)
  have hE := hE.up (up_i (ul_ (ui_ σ a0 2 (si_ σ x1 0)) a0 3 x2) b4 j5 (si_ (ul_ (ui_ σ a0 2 (si_ σ x1 0)) a0 3 x2) x1 1))
  refine lv_aload_n C.1 C.2.1 dX6_takeUp_23 rfl (lv_at hl 0 rfl) ?_
  refine x_get (v := .ref (ad b4)) C K h cl_6 hk_a0 0 (by decide) fl_RX6_11 (hv_r (o := sr_ (ui_ (ul_ (ui_ σ a0 2 (si_ σ x1 0)) a0 3 x2) b4 j5 (si_ (ul_ (ui_ σ a0 2 (si_ σ x1 0)) a0 3 x2) x1 1)) a0 0) rfl hq_b4) dX6_takeUp_24 ?_
  refine lv_iconst (v := (5 : Int32)) C.1 C.2.1 dX6_takeUp_27 (by decide) ?_
  refine lv_aload_n C.1 C.2.1 dX6_takeUp_28 rfl (lv_at hl 1 rfl) ?_
  refine x_getN (v := .int (si_ (ui_ (ul_ (ui_ σ a0 2 (si_ σ x1 0)) a0 3 x2) b4 j5 (si_ (ul_ (ui_ σ a0 2 (si_ σ x1 0)) a0 3 x2) x1 1)) x1 3)) C K h cl_0 hk_x1 3 (by decide) nf_RX6_38 rfl dX6_takeUp_29 ?_
  obtain ⟨j6, hj_j6, hf⟩ := ob_ hf
  refine x_iast C K h hk_b4 hj_j6 dX6_takeUp_32 (fun H locs h => ?_)
  have hE := hE.up (up_i (ui_ (ul_ (ui_ σ a0 2 (si_ σ x1 0)) a0 3 x2) b4 j5 (si_ (ul_ (ui_ σ a0 2 (si_ σ x1 0)) a0 3 x2) x1 1)) b4 j6 (si_ (ui_ (ul_ (ui_ σ a0 2 (si_ σ x1 0)) a0 3 x2) b4 j5 (si_ (ul_ (ui_ σ a0 2 (si_ σ x1 0)) a0 3 x2) x1 1)) x1 3))
  refine lv_aload_n C.1 C.2.1 dX6_takeUp_33 rfl (lv_at hl 0 rfl) ?_
  refine x_get (v := .ref (ad b4)) C K h cl_6 hk_a0 0 (by decide) fl_RX6_11 (hv_r (o := sr_ (ui_ (ui_ (ul_ (ui_ σ a0 2 (si_ σ x1 0)) a0 3 x2) b4 j5 (si_ (ul_ (ui_ σ a0 2 (si_ σ x1 0)) a0 3 x2) x1 1)) b4 j6 (si_ (ui_ (ul_ (ui_ σ a0 2 (si_ σ x1 0)) a0 3 x2) b4 j5 (si_ (ul_ (ui_ σ a0 2 (si_ σ x1 0)) a0 3 x2) x1 1)) x1 3)) a0 0) rfl hq_b4) dX6_takeUp_34 ?_
  refine lv_iconst (v := (4 : Int32)) C.1 C.2.1 dX6_takeUp_37 (by decide) ?_
  refine lv_iload C.1 C.2.1 dX6_takeUp_38 (lv_at hl 3 rfl) ?_
  obtain ⟨j7, hj_j7, hf⟩ := ob_ hf
  refine x_iast C K h hk_b4 hj_j7 dX6_takeUp_40 (fun H locs h => ?_)
  have hE := hE.up (up_i (ui_ (ui_ (ul_ (ui_ σ a0 2 (si_ σ x1 0)) a0 3 x2) b4 j5 (si_ (ul_ (ui_ σ a0 2 (si_ σ x1 0)) a0 3 x2) x1 1)) b4 j6 (si_ (ui_ (ul_ (ui_ σ a0 2 (si_ σ x1 0)) a0 3 x2) b4 j5 (si_ (ul_ (ui_ σ a0 2 (si_ σ x1 0)) a0 3 x2) x1 1)) x1 3)) b4 j7 x3)
  exact x_rv C hr hlk h hE (Option.some.inj hf) dX6_takeUp_41
theorem c_X6_takeUp (l : Launch) (κ : Ka_) (G : va_G) (cy : Nat → ClassId) (ad : Nat → Nat) (sz : Nat) (σ : St_) (a0 : Nat) (x1 : Nat) (x2 : Int64) (x3 : Int32) (hk_a0 : kd_ σ a0 = 6) (hk_x1 : kd_ σ x1 = 0) {q : St_} (hf : f_X6_takeUp σ a0 x1 x2 x3 = some q) : Met l yX6_takeUp (Cond.code yX6_takeUp cX6_takeUp 5 none :: wU_) { frames := 0, cells := 0, slots := 0, locals := 0 } (va_Pc [.ref (ad a0), .ref (ad x1), .long x2, .int x3] (Pr_ κ G cy ad σ sz)) (Qv_ G cy ad σ q sz) 0 0 (va_A (wl_ cy ad σ) sz) :=
  x_met (by decide) (fun p e R s m below meth c ls hR C hr hlk hin _ K h hl => w_X6_takeUp C K hr hlk ⟨hR.1, hR.2.1⟩ σ a0 x1 x2 x3 Ex_.rf hk_a0 hk_x1 hf s.heap [] ls h hl) (Nat.le_of_ble_eq_true rfl)
-- X6_beOfKind
theorem mi_X6_beOfKind : Mi_ yX6_beOfKind cX6_beOfKind 2 none 1 := ⟨co_yX6_beOfKind, in_RX6, by decide, by decide, by decide +kernel⟩
def f_X6_beOfKind (σ : St_) (a0 : Nat) (x1 : Int32) : St_ := ui_ σ a0 2 x1
set_option maxHeartbeats 4000000 in
set_option maxRecDepth 100000 in
theorem w_X6_beOfKind {p : Program} {l : Launch} {e : Env} {R : Room} {s : State} {m : MethodId} {args : Array Value} {below : List Frame} {meth : Method} {c : Code} {κ : Ka_} {G : va_G} {cy : Nat → ClassId} {ad : Nat → Nat} {sz : Nat} {σ0 : St_} (C : CallFix p m c cX6_beOfKind 2 s args wU_ RX6) (K : Kx_ κ G cy (va_A (wl_ cy ad σ0) sz) s) (hr : meth.sig.returnType = none) (hlk : meth.locks = false) (hR : 0 ≤ R.frames ∧ 0 ≤ R.locals) {q : St_} : ∀ (σ : St_) (a0 : Nat) (x1 : Int32), Ex_ σ0 σ → kd_ σ a0 = 6 → f_X6_beOfKind σ a0 x1 = q → ∀ (H : Heap) (locs : List Loc) (ls : Array Slot), Ht_ G cy (va_A (wl_ cy ad σ0) sz) s ad σ H locs → lv_has ls 2 [(0, .ref (ad a0)), (1, .int x1)] → W p l e R s m args below meth c H locs 0 0 (MQ below (Qv_ G cy ad σ0 q sz) args s 0 0 (va_A (wl_ cy ad σ0) sz)) (F0 m 0 ls []) := by
  intro σ a0 x1 hE hk_a0 hf H locs ls h hl
  have hf : (ui_ σ a0 2 x1) = q := hf
  refine lv_aload_n C.1 C.2.1 dX6_beOfKind_0 rfl (lv_at hl 0 rfl) ?_
  refine lv_iload_n C.1 C.2.1 dX6_beOfKind_1 rfl (lv_at hl 1 rfl) ?_
  refine x_putI C K h cl_6 hk_a0 2 (by decide) fl_RX6_20 rfl rfl rfl (Nat.le_of_ble_eq_true rfl) (fun _ _ _ => rfl) dX6_beOfKind_2 (fun H locs h => ?_)
  have hE := hE.up (up_i σ a0 2 x1)
  exact x_rv C hr hlk h hE hf dX6_beOfKind_5
theorem c_X6_beOfKind (l : Launch) (κ : Ka_) (G : va_G) (cy : Nat → ClassId) (ad : Nat → Nat) (sz : Nat) (σ : St_) (a0 : Nat) (x1 : Int32) (hk_a0 : kd_ σ a0 = 6) {q : St_} (hf : f_X6_beOfKind σ a0 x1 = q) : Met l yX6_beOfKind (Cond.code yX6_beOfKind cX6_beOfKind 2 none :: wU_) { frames := 0, cells := 0, slots := 0, locals := 0 } (va_Pc [.ref (ad a0), .int x1] (Pr_ κ G cy ad σ sz)) (Qv_ G cy ad σ q sz) 0 0 (va_A (wl_ cy ad σ) sz) :=
  x_met (by decide) (fun p e R s m below meth c ls hR C hr hlk hin _ K h hl => w_X6_beOfKind C K hr hlk ⟨hR.1, hR.2.1⟩ σ a0 x1 Ex_.rf hk_a0 hf s.heap [] ls h hl) (Nat.le_of_ble_eq_true rfl)
-- X6_beNumbered
theorem mi_X6_beNumbered : Mi_ yX6_beNumbered cX6_beNumbered 2 none 1 := ⟨co_yX6_beNumbered, in_RX6, by decide, by decide, by decide +kernel⟩
def f_X6_beNumbered (σ : St_) (a0 : Nat) (x1 : Int32) : Option St_ := (dr_ σ 10 (sr_ σ a0 0)).bind fun b2 => (ix_ (1 : Int32) (ln_ σ b2)).bind fun j3 => some (ui_ σ b2 j3 x1)
set_option maxHeartbeats 4000000 in
set_option maxRecDepth 100000 in
theorem w_X6_beNumbered {p : Program} {l : Launch} {e : Env} {R : Room} {s : State} {m : MethodId} {args : Array Value} {below : List Frame} {meth : Method} {c : Code} {κ : Ka_} {G : va_G} {cy : Nat → ClassId} {ad : Nat → Nat} {sz : Nat} {σ0 : St_} (C : CallFix p m c cX6_beNumbered 2 s args wU_ RX6) (K : Kx_ κ G cy (va_A (wl_ cy ad σ0) sz) s) (hr : meth.sig.returnType = none) (hlk : meth.locks = false) (hR : 0 ≤ R.frames ∧ 0 ≤ R.locals) {q : St_} : ∀ (σ : St_) (a0 : Nat) (x1 : Int32), Ex_ σ0 σ → kd_ σ a0 = 6 → f_X6_beNumbered σ a0 x1 = some q → ∀ (H : Heap) (locs : List Loc) (ls : Array Slot), Ht_ G cy (va_A (wl_ cy ad σ0) sz) s ad σ H locs → lv_has ls 2 [(0, .ref (ad a0)), (1, .int x1)] → W p l e R s m args below meth c H locs 0 0 (MQ below (Qv_ G cy ad σ0 q sz) args s 0 0 (va_A (wl_ cy ad σ0) sz)) (F0 m 0 ls []) := by
  intro σ a0 x1 hE hk_a0 hf H locs ls h hl
  have hf : ((dr_ σ 10 (sr_ σ a0 0)).bind fun b2 => (ix_ (1 : Int32) (ln_ σ b2)).bind fun j3 => some (ui_ σ b2 j3 x1)) = some q := hf
  refine lv_aload_n C.1 C.2.1 dX6_beNumbered_0 rfl (lv_at hl 0 rfl) ?_
  obtain ⟨b2, hb_b2, hf⟩ := ob_ hf
  obtain ⟨hq_b2, hk_b2⟩ := dr_in hb_b2
  refine x_get (v := .ref (ad b2)) C K h cl_6 hk_a0 0 (by decide) fl_RX6_11 (hv_r (o := sr_ σ a0 0) rfl hq_b2) dX6_beNumbered_1 ?_
  refine lv_iconst (v := (1 : Int32)) C.1 C.2.1 dX6_beNumbered_4 (by decide) ?_
  refine lv_iload_n C.1 C.2.1 dX6_beNumbered_5 rfl (lv_at hl 1 rfl) ?_
  obtain ⟨j3, hj_j3, hf⟩ := ob_ hf
  refine x_iast C K h hk_b2 hj_j3 dX6_beNumbered_6 (fun H locs h => ?_)
  have hE := hE.up (up_i σ b2 j3 x1)
  exact x_rv C hr hlk h hE (Option.some.inj hf) dX6_beNumbered_7
theorem c_X6_beNumbered (l : Launch) (κ : Ka_) (G : va_G) (cy : Nat → ClassId) (ad : Nat → Nat) (sz : Nat) (σ : St_) (a0 : Nat) (x1 : Int32) (hk_a0 : kd_ σ a0 = 6) {q : St_} (hf : f_X6_beNumbered σ a0 x1 = some q) : Met l yX6_beNumbered (Cond.code yX6_beNumbered cX6_beNumbered 2 none :: wU_) { frames := 0, cells := 0, slots := 0, locals := 0 } (va_Pc [.ref (ad a0), .int x1] (Pr_ κ G cy ad σ sz)) (Qv_ G cy ad σ q sz) 0 0 (va_A (wl_ cy ad σ) sz) :=
  x_met (by decide) (fun p e R s m below meth c ls hR C hr hlk hin _ K h hl => w_X6_beNumbered C K hr hlk ⟨hR.1, hR.2.1⟩ σ a0 x1 Ex_.rf hk_a0 hf s.heap [] ls h hl) (Nat.le_of_ble_eq_true rfl)
-- X6_goBy
theorem mi_X6_goBy : Mi_ yX6_goBy cX6_goBy 2 none 1 := ⟨co_yX6_goBy, in_RX6, by decide, by decide, by decide +kernel⟩
def f_X6_goBy (σ : St_) (a0 : Nat) (x1 : Option Nat) : Option St_ := if qk_ σ x1 5 = true then some (ur_ σ a0 4 x1) else none
set_option maxHeartbeats 4000000 in
set_option maxRecDepth 100000 in
theorem w_X6_goBy {p : Program} {l : Launch} {e : Env} {R : Room} {s : State} {m : MethodId} {args : Array Value} {below : List Frame} {meth : Method} {c : Code} {κ : Ka_} {G : va_G} {cy : Nat → ClassId} {ad : Nat → Nat} {sz : Nat} {σ0 : St_} (C : CallFix p m c cX6_goBy 2 s args wU_ RX6) (K : Kx_ κ G cy (va_A (wl_ cy ad σ0) sz) s) (hr : meth.sig.returnType = none) (hlk : meth.locks = false) (hR : 0 ≤ R.frames ∧ 0 ≤ R.locals) {q : St_} : ∀ (σ : St_) (a0 : Nat) (x1 : Option Nat), Ex_ σ0 σ → kd_ σ a0 = 6 → f_X6_goBy σ a0 x1 = some q → ∀ (H : Heap) (locs : List Loc) (ls : Array Slot), Ht_ G cy (va_A (wl_ cy ad σ0) sz) s ad σ H locs → lv_has ls 2 [(0, .ref (ad a0)), (1, rv_ ad x1)] → W p l e R s m args below meth c H locs 0 0 (MQ below (Qv_ G cy ad σ0 q sz) args s 0 0 (va_A (wl_ cy ad σ0) sz)) (F0 m 0 ls []) := by
  intro σ a0 x1 hE hk_a0 hf H locs ls h hl
  have hf : (if qk_ σ x1 5 = true then some (ur_ σ a0 4 x1) else none) = some q := hf
  refine lv_aload_n C.1 C.2.1 dX6_goBy_0 rfl (lv_at hl 0 rfl) ?_
  refine x_aload_nq C.1 C.2.1 dX6_goBy_1 rfl (lv_at hl 1 rfl) ?_
  obtain ⟨hw2, hf⟩ := gd_ hf
  have hE := hE.up (up_r σ a0 4 x1 (fun b hb => h.lt (qk_in hw2 hb) (by decide)))
  refine x_putR (v := x1) C K h cl_6 hk_a0 4 (by decide) fl_RX6_28 rfl (fun b hb => h.lt (qk_in hw2 hb) (by decide)) (rv_nar _ _) (rv_fit _ _ (by decide)) (Nat.le_of_ble_eq_true rfl) (fun _ _ _ => rfl) dX6_goBy_2 (fun H locs h => ?_)
  exact x_rv C hr hlk h hE (Option.some.inj hf) dX6_goBy_5
theorem c_X6_goBy (l : Launch) (κ : Ka_) (G : va_G) (cy : Nat → ClassId) (ad : Nat → Nat) (sz : Nat) (σ : St_) (a0 : Nat) (x1 : Option Nat) (hk_a0 : kd_ σ a0 = 6) {q : St_} (hf : f_X6_goBy σ a0 x1 = some q) : Met l yX6_goBy (Cond.code yX6_goBy cX6_goBy 2 none :: wU_) { frames := 0, cells := 0, slots := 0, locals := 0 } (va_Pc [.ref (ad a0), rv_ ad x1] (Pr_ κ G cy ad σ sz)) (Qv_ G cy ad σ q sz) 0 0 (va_A (wl_ cy ad σ) sz) :=
  x_met (by decide) (fun p e R s m below meth c ls hR C hr hlk hin _ K h hl => w_X6_goBy C K hr hlk ⟨hR.1, hR.2.1⟩ σ a0 x1 Ex_.rf hk_a0 hf s.heap [] ls h hl) (by cases x1 <;>  exact Nat.le_of_ble_eq_true rfl)
-- X6_valueOf
theorem mi_X6_valueOf : Mi_ yX6_valueOf cX6_valueOf 10 (some .int) 3 := ⟨co_yX6_valueOf, in_RX6, by decide, by decide, by decide +kernel⟩
def f_X6_valueOf_396 (fu : Nat) (k33 : St_ → Nat → Nat → Int32 → Int32 → Option (Int32 × St_)) (σ : St_) (v0 : Nat) (v1 : Nat) (v4 : Int32) (v5 : Int32) : Option (Int32 × St_) := k33 σ v0 v1 (v4 + (1 : Int32)) (v5 + (1 : Int32))
set_option maxHeartbeats 4000000 in
set_option maxRecDepth 100000 in
theorem w_X6_valueOf_396 {p : Program} {l : Launch} {e : Env} {R : Room} {s : State} {m : MethodId} {args : Array Value} {below : List Frame} {meth : Method} {c : Code} {κ : Ka_} {G : va_G} {cy : Nat → ClassId} {ad : Nat → Nat} {sz : Nat} {σ0 : St_} (fu : Nat) (C : CallFix p m c cX6_valueOf 10 s args wU_ RX6) (K : Kx_ κ G cy (va_A (wl_ cy ad σ0) sz) s) (hr : meth.sig.returnType = some .int) (hlk : meth.locks = false) (hR : 0 ≤ R.frames ∧ 0 ≤ R.locals) {q : Int32 × St_} (k33 : St_ → Nat → Nat → Int32 → Int32 → Option (Int32 × St_)) (hk33 : ∀ (σ : St_) (v0 : Nat) (v1 : Nat) (v4 : Int32) (v5 : Int32), Ex_ σ0 σ → kd_ σ v0 = 6 → kd_ σ v1 = 10 → k33 σ v0 v1 v4 v5 = some q → ∀ (H : Heap) (locs : List Loc) (ls : Array Slot), Ht_ G cy (va_A (wl_ cy ad σ0) sz) s ad σ H locs → lv_has ls 10 [(0, .ref (ad v0)), (1, .ref (ad v1)), (4, .int v4), (5, .int v5)] → W p l e R s m args below meth c H locs 0 0 (MQ below (Qi_ G cy ad σ0 q.2 sz q.1) args s 0 0 (va_A (wl_ cy ad σ0) sz)) (F0 m 33 ls [])) : ∀ (σ : St_) (v0 : Nat) (v1 : Nat) (v4 : Int32) (v5 : Int32), Ex_ σ0 σ → kd_ σ v0 = 6 → kd_ σ v1 = 10 → f_X6_valueOf_396 fu k33 σ v0 v1 v4 v5 = some q → ∀ (H : Heap) (locs : List Loc) (ls : Array Slot), Ht_ G cy (va_A (wl_ cy ad σ0) sz) s ad σ H locs → lv_has ls 10 [(0, .ref (ad v0)), (1, .ref (ad v1)), (4, .int v4), (5, .int v5)] → W p l e R s m args below meth c H locs 0 0 (MQ below (Qi_ G cy ad σ0 q.2 sz q.1) args s 0 0 (va_A (wl_ cy ad σ0) sz)) (F0 m 396 ls []) := by
  intro σ v0 v1 v4 v5 hE hk_v0 hk_v1 hf H locs ls h hl
  have hf : (k33 σ v0 v1 (v4 + (1 : Int32)) (v5 + (1 : Int32))) = some q := hf
  refine lv_iinc (v := v4 + (1 : Int32)) (lv' := [(4, .int (v4 + (1 : Int32))), (0, .ref (ad v0)), (1, .ref (ad v1)), (5, .int v5)]) C.1 C.2.1 dX6_valueOf_396 hl (k := 2) rfl rfl (by decide) rfl (fun ls hl => ?_)
  refine lv_iinc (v := v5 + (1 : Int32)) (lv' := [(5, .int (v5 + (1 : Int32))), (4, .int (v4 + (1 : Int32))), (0, .ref (ad v0)), (1, .ref (ad v1))]) C.1 C.2.1 dX6_valueOf_399 hl (k := 3) rfl rfl (by decide) rfl (fun ls hl => ?_)
  refine lv_goto (tgt := 33) C.1 C.2.1 dX6_valueOf_402 (by decide) ?_
  exact hk33 σ v0 v1 (v4 + (1 : Int32)) (v5 + (1 : Int32)) hE hk_v0 hk_v1 hf _ _ _ h (lv_sub hl [2, 3, 1, 0] rfl)
def f_X6_valueOf_80 (fu : Nat) (k33 : St_ → Nat → Nat → Int32 → Int32 → Option (Int32 × St_)) (σ : St_) (v0 : Nat) (v1 : Nat) (v5 : Int32) (v6 : Int32) (v7 : Int32) (s0 : Int32) (s1 : Int32) : Option (Int32 × St_) := if (s0 - s1) < 0 then some ((0 : Int32), σ) else (dr_ σ 10 (sr_ σ v0 1)).bind fun b2 => if (nI (ln_ σ b2)) ≤ ((s0 - s1) + (1 : Int32)) then some ((0 : Int32), σ) else if 0 ≤ v7 then (ix_ (s0 - s1) (ln_ σ b2)).bind fun j5 => (ix_ ((s0 - s1) + (1 : Int32)) (ln_ σ b2)).bind fun j6 => if v6 = (0 : Int32) then (ix_ (s0 - s1) (ln_ σ b2)).bind fun j8 => f_X6_valueOf_396 fu k33 (ui_ σ b2 j8 v7) v0 v1 (s0 - s1) v5 else if v6 = (1 : Int32) then (dr_ σ 10 (sr_ σ v0 0)).bind fun b10 => if (nI (ln_ σ b10)) ≤ v7 then (ix_ (s0 - s1) (ln_ σ b2)).bind fun j12 => f_X6_valueOf_396 fu k33 (ui_ σ b2 j12 (0 : Int32)) v0 v1 (s0 - s1) v5 else (ix_ v7 (ln_ σ b10)).bind fun j13 => (ix_ (s0 - s1) (ln_ σ b2)).bind fun j14 => f_X6_valueOf_396 fu k33 (ui_ σ b2 j14 (si_ σ b10 j13)) v0 v1 (s0 - s1) v5 else if v6 = (2 : Int32) then if (si_ σ b2 j5) = 0 then (ix_ (s0 - s1) (ln_ σ b2)).bind fun j18 => f_X6_valueOf_396 fu k33 (ui_ σ b2 j18 (1 : Int32)) v0 v1 (s0 - s1) v5 else (ix_ (s0 - s1) (ln_ σ b2)).bind fun j17 => f_X6_valueOf_396 fu k33 (ui_ σ b2 j17 (0 : Int32)) v0 v1 (s0 - s1) v5 else if v6 = (3 : Int32) then (ix_ (s0 - s1) (ln_ σ b2)).bind fun j20 => f_X6_valueOf_396 fu k33 (ui_ σ b2 j20 (-(si_ σ b2 j5))) v0 v1 (s0 - s1) v5 else if v6 = (4 : Int32) then if (si_ σ b2 j5) = 0 then if (si_ σ b2 j6) = 0 then (ix_ (s0 - s1) (ln_ σ b2)).bind fun j25 => f_X6_valueOf_396 fu k33 (ui_ σ b2 j25 (0 : Int32)) v0 v1 (s0 - s1) v5 else (ix_ (s0 - s1) (ln_ σ b2)).bind fun j26 => f_X6_valueOf_396 fu k33 (ui_ σ b2 j26 (1 : Int32)) v0 v1 (s0 - s1) v5 else (ix_ (s0 - s1) (ln_ σ b2)).bind fun j23 => f_X6_valueOf_396 fu k33 (ui_ σ b2 j23 (1 : Int32)) v0 v1 (s0 - s1) v5 else if v6 = (5 : Int32) then if (si_ σ b2 j5) = 0 then (ix_ (s0 - s1) (ln_ σ b2)).bind fun j29 => f_X6_valueOf_396 fu k33 (ui_ σ b2 j29 (0 : Int32)) v0 v1 (s0 - s1) v5 else if (si_ σ b2 j6) = 0 then (ix_ (s0 - s1) (ln_ σ b2)).bind fun j31 => f_X6_valueOf_396 fu k33 (ui_ σ b2 j31 (0 : Int32)) v0 v1 (s0 - s1) v5 else (ix_ (s0 - s1) (ln_ σ b2)).bind fun j32 => f_X6_valueOf_396 fu k33 (ui_ σ b2 j32 (1 : Int32)) v0 v1 (s0 - s1) v5 else if v6 = (6 : Int32) then if (si_ σ b2 j6) ≤ (si_ σ b2 j5) then (ix_ (s0 - s1) (ln_ σ b2)).bind fun j35 => f_X6_valueOf_396 fu k33 (ui_ σ b2 j35 (0 : Int32)) v0 v1 (s0 - s1) v5 else (ix_ (s0 - s1) (ln_ σ b2)).bind fun j36 => f_X6_valueOf_396 fu k33 (ui_ σ b2 j36 (1 : Int32)) v0 v1 (s0 - s1) v5 else if v6 = (7 : Int32) then if (si_ σ b2 j5) = (si_ σ b2 j6) then (ix_ (s0 - s1) (ln_ σ b2)).bind fun j40 => f_X6_valueOf_396 fu k33 (ui_ σ b2 j40 (1 : Int32)) v0 v1 (s0 - s1) v5 else (ix_ (s0 - s1) (ln_ σ b2)).bind fun j39 => f_X6_valueOf_396 fu k33 (ui_ σ b2 j39 (0 : Int32)) v0 v1 (s0 - s1) v5 else if v6 = (8 : Int32) then (ix_ (s0 - s1) (ln_ σ b2)).bind fun j42 => f_X6_valueOf_396 fu k33 (ui_ σ b2 j42 ((si_ σ b2 j5) + (si_ σ b2 j6))) v0 v1 (s0 - s1) v5 else if v6 = (9 : Int32) then (ix_ (s0 - s1) (ln_ σ b2)).bind fun j44 => f_X6_valueOf_396 fu k33 (ui_ σ b2 j44 ((si_ σ b2 j5) - (si_ σ b2 j6))) v0 v1 (s0 - s1) v5 else (ix_ (s0 - s1) (ln_ σ b2)).bind fun j45 => f_X6_valueOf_396 fu k33 (ui_ σ b2 j45 ((si_ σ b2 j5) * (si_ σ b2 j6))) v0 v1 (s0 - s1) v5 else some ((0 : Int32), σ)
set_option maxHeartbeats 4000000 in
set_option maxRecDepth 100000 in
theorem w_X6_valueOf_80 {p : Program} {l : Launch} {e : Env} {R : Room} {s : State} {m : MethodId} {args : Array Value} {below : List Frame} {meth : Method} {c : Code} {κ : Ka_} {G : va_G} {cy : Nat → ClassId} {ad : Nat → Nat} {sz : Nat} {σ0 : St_} (fu : Nat) (C : CallFix p m c cX6_valueOf 10 s args wU_ RX6) (K : Kx_ κ G cy (va_A (wl_ cy ad σ0) sz) s) (hr : meth.sig.returnType = some .int) (hlk : meth.locks = false) (hR : 0 ≤ R.frames ∧ 0 ≤ R.locals) {q : Int32 × St_} (k33 : St_ → Nat → Nat → Int32 → Int32 → Option (Int32 × St_)) (hk33 : ∀ (σ : St_) (v0 : Nat) (v1 : Nat) (v4 : Int32) (v5 : Int32), Ex_ σ0 σ → kd_ σ v0 = 6 → kd_ σ v1 = 10 → k33 σ v0 v1 v4 v5 = some q → ∀ (H : Heap) (locs : List Loc) (ls : Array Slot), Ht_ G cy (va_A (wl_ cy ad σ0) sz) s ad σ H locs → lv_has ls 10 [(0, .ref (ad v0)), (1, .ref (ad v1)), (4, .int v4), (5, .int v5)] → W p l e R s m args below meth c H locs 0 0 (MQ below (Qi_ G cy ad σ0 q.2 sz q.1) args s 0 0 (va_A (wl_ cy ad σ0) sz)) (F0 m 33 ls [])) : ∀ (σ : St_) (v0 : Nat) (v1 : Nat) (v5 : Int32) (v6 : Int32) (v7 : Int32) (s0 : Int32) (s1 : Int32), Ex_ σ0 σ → kd_ σ v0 = 6 → kd_ σ v1 = 10 → f_X6_valueOf_80 fu k33 σ v0 v1 v5 v6 v7 s0 s1 = some q → ∀ (H : Heap) (locs : List Loc) (ls : Array Slot), Ht_ G cy (va_A (wl_ cy ad σ0) sz) s ad σ H locs → lv_has ls 10 [(0, .ref (ad v0)), (1, .ref (ad v1)), (5, .int v5), (6, .int v6), (7, .int v7)] → W p l e R s m args below meth c H locs 0 0 (MQ below (Qi_ G cy ad σ0 q.2 sz q.1) args s 0 0 (va_A (wl_ cy ad σ0) sz)) (F0 m 80 ls [.int s1, .int s0]) := by
  intro σ v0 v1 v5 v6 v7 s0 s1 hE hk_v0 hk_v1 hf H locs ls h hl
  have hf : (if (s0 - s1) < 0 then some ((0 : Int32), σ) else (dr_ σ 10 (sr_ σ v0 1)).bind fun b2 => if (nI (ln_ σ b2)) ≤ ((s0 - s1) + (1 : Int32)) then some ((0 : Int32), σ) else if 0 ≤ v7 then (ix_ (s0 - s1) (ln_ σ b2)).bind fun j5 => (ix_ ((s0 - s1) + (1 : Int32)) (ln_ σ b2)).bind fun j6 => if v6 = (0 : Int32) then (ix_ (s0 - s1) (ln_ σ b2)).bind fun j8 => f_X6_valueOf_396 fu k33 (ui_ σ b2 j8 v7) v0 v1 (s0 - s1) v5 else if v6 = (1 : Int32) then (dr_ σ 10 (sr_ σ v0 0)).bind fun b10 => if (nI (ln_ σ b10)) ≤ v7 then (ix_ (s0 - s1) (ln_ σ b2)).bind fun j12 => f_X6_valueOf_396 fu k33 (ui_ σ b2 j12 (0 : Int32)) v0 v1 (s0 - s1) v5 else (ix_ v7 (ln_ σ b10)).bind fun j13 => (ix_ (s0 - s1) (ln_ σ b2)).bind fun j14 => f_X6_valueOf_396 fu k33 (ui_ σ b2 j14 (si_ σ b10 j13)) v0 v1 (s0 - s1) v5 else if v6 = (2 : Int32) then if (si_ σ b2 j5) = 0 then (ix_ (s0 - s1) (ln_ σ b2)).bind fun j18 => f_X6_valueOf_396 fu k33 (ui_ σ b2 j18 (1 : Int32)) v0 v1 (s0 - s1) v5 else (ix_ (s0 - s1) (ln_ σ b2)).bind fun j17 => f_X6_valueOf_396 fu k33 (ui_ σ b2 j17 (0 : Int32)) v0 v1 (s0 - s1) v5 else if v6 = (3 : Int32) then (ix_ (s0 - s1) (ln_ σ b2)).bind fun j20 => f_X6_valueOf_396 fu k33 (ui_ σ b2 j20 (-(si_ σ b2 j5))) v0 v1 (s0 - s1) v5 else if v6 = (4 : Int32) then if (si_ σ b2 j5) = 0 then if (si_ σ b2 j6) = 0 then (ix_ (s0 - s1) (ln_ σ b2)).bind fun j25 => f_X6_valueOf_396 fu k33 (ui_ σ b2 j25 (0 : Int32)) v0 v1 (s0 - s1) v5 else (ix_ (s0 - s1) (ln_ σ b2)).bind fun j26 => f_X6_valueOf_396 fu k33 (ui_ σ b2 j26 (1 : Int32)) v0 v1 (s0 - s1) v5 else (ix_ (s0 - s1) (ln_ σ b2)).bind fun j23 => f_X6_valueOf_396 fu k33 (ui_ σ b2 j23 (1 : Int32)) v0 v1 (s0 - s1) v5 else if v6 = (5 : Int32) then if (si_ σ b2 j5) = 0 then (ix_ (s0 - s1) (ln_ σ b2)).bind fun j29 => f_X6_valueOf_396 fu k33 (ui_ σ b2 j29 (0 : Int32)) v0 v1 (s0 - s1) v5 else if (si_ σ b2 j6) = 0 then (ix_ (s0 - s1) (ln_ σ b2)).bind fun j31 => f_X6_valueOf_396 fu k33 (ui_ σ b2 j31 (0 : Int32)) v0 v1 (s0 - s1) v5 else (ix_ (s0 - s1) (ln_ σ b2)).bind fun j32 => f_X6_valueOf_396 fu k33 (ui_ σ b2 j32 (1 : Int32)) v0 v1 (s0 - s1) v5 else if v6 = (6 : Int32) then if (si_ σ b2 j6) ≤ (si_ σ b2 j5) then (ix_ (s0 - s1) (ln_ σ b2)).bind fun j35 => f_X6_valueOf_396 fu k33 (ui_ σ b2 j35 (0 : Int32)) v0 v1 (s0 - s1) v5 else (ix_ (s0 - s1) (ln_ σ b2)).bind fun j36 => f_X6_valueOf_396 fu k33 (ui_ σ b2 j36 (1 : Int32)) v0 v1 (s0 - s1) v5 else if v6 = (7 : Int32) then if (si_ σ b2 j5) = (si_ σ b2 j6) then (ix_ (s0 - s1) (ln_ σ b2)).bind fun j40 => f_X6_valueOf_396 fu k33 (ui_ σ b2 j40 (1 : Int32)) v0 v1 (s0 - s1) v5 else (ix_ (s0 - s1) (ln_ σ b2)).bind fun j39 => f_X6_valueOf_396 fu k33 (ui_ σ b2 j39 (0 : Int32)) v0 v1 (s0 - s1) v5 else if v6 = (8 : Int32) then (ix_ (s0 - s1) (ln_ σ b2)).bind fun j42 => f_X6_valueOf_396 fu k33 (ui_ σ b2 j42 ((si_ σ b2 j5) + (si_ σ b2 j6))) v0 v1 (s0 - s1) v5 else if v6 = (9 : Int32) then (ix_ (s0 - s1) (ln_ σ b2)).bind fun j44 => f_X6_valueOf_396 fu k33 (ui_ σ b2 j44 ((si_ σ b2 j5) - (si_ σ b2 j6))) v0 v1 (s0 - s1) v5 else (ix_ (s0 - s1) (ln_ σ b2)).bind fun j45 => f_X6_valueOf_396 fu k33 (ui_ σ b2 j45 ((si_ σ b2 j5) * (si_ σ b2 j6))) v0 v1 (s0 - s1) v5 else some ((0 : Int32), σ)) = some q := hf
  refine lv_isub C.1 C.2.1 dX6_valueOf_80 ?_
  refine lv_istore (i := 4) (lv' := [(4, .int (s0 - s1)), (0, .ref (ad v0)), (1, .ref (ad v1)), (5, .int v5), (6, .int v6), (7, .int v7)]) C.1 C.2.1 dX6_valueOf_81 hl (by decide) rfl (fun ls hl => ?_)
  refine lv_iload C.1 C.2.1 dX6_valueOf_83 (lv_at hl 0 rfl) ?_
  refine lv_if_lt (tgt := 105) C.1 C.2.1 dX6_valueOf_85 (by decide) (fun c1 => ?_) (fun c1 => ?_)
  · have hf := if_t hf c1
    refine lv_iconst (v := (0 : Int32)) C.1 C.2.1 dX6_valueOf_105 (by decide) ?_
    exact x_ri C hr hlk h hE (pf_1 (Option.some.inj hf)) (pf_2 (Option.some.inj hf)) dX6_valueOf_106
  · have hf := if_f hf c1
    refine lv_iload C.1 C.2.1 dX6_valueOf_88 (lv_at hl 0 rfl) ?_
    refine lv_iconst (v := (1 : Int32)) C.1 C.2.1 dX6_valueOf_90 (by decide) ?_
    refine lv_iadd C.1 C.2.1 dX6_valueOf_91 ?_
    refine lv_aload_n C.1 C.2.1 dX6_valueOf_92 rfl (lv_at hl 1 rfl) ?_
    obtain ⟨b2, hb_b2, hf⟩ := ob_ hf
    obtain ⟨hq_b2, hk_b2⟩ := dr_in hb_b2
    refine x_get (v := .ref (ad b2)) C K h cl_6 hk_v0 1 (by decide) fl_RX6_17 (hv_r (o := sr_ σ v0 1) rfl hq_b2) dX6_valueOf_93 ?_
    refine x_ilen C K h hk_b2 dX6_valueOf_96 ?_
    refine lv_icmp_ge (tgt := 105) C.1 C.2.1 dX6_valueOf_97 (by decide) (fun c3 => ?_) (fun c3 => ?_)
    · have hf := if_t hf c3
      refine lv_iconst (v := (0 : Int32)) C.1 C.2.1 dX6_valueOf_105 (by decide) ?_
      exact x_ri C hr hlk h hE (pf_1 (Option.some.inj hf)) (pf_2 (Option.some.inj hf)) dX6_valueOf_106
    · have hf := if_f hf c3
      refine lv_iload C.1 C.2.1 dX6_valueOf_100 (lv_at hl 5 rfl) ?_
      refine lv_if_ge (tgt := 107) C.1 C.2.1 dX6_valueOf_102 (by decide) (fun c4 => ?_) (fun c4 => ?_)
      · have hf := if_t hf c4
        refine lv_aload_n C.1 C.2.1 dX6_valueOf_107 rfl (lv_at hl 1 rfl) ?_
        refine x_get (v := .ref (ad b2)) C K h cl_6 hk_v0 1 (by decide) fl_RX6_17 (hv_r (o := sr_ σ v0 1) rfl hq_b2) dX6_valueOf_108 ?_
        refine lv_iload C.1 C.2.1 dX6_valueOf_111 (lv_at hl 0 rfl) ?_
        obtain ⟨j5, hj_j5, hf⟩ := ob_ hf
        refine x_iald C K h hk_b2 hj_j5 dX6_valueOf_113 ?_
        refine lv_istore (i := 8) (lv' := [(8, .int (si_ σ b2 j5)), (4, .int (s0 - s1)), (0, .ref (ad v0)), (1, .ref (ad v1)), (5, .int v5), (6, .int v6), (7, .int v7)]) C.1 C.2.1 dX6_valueOf_114 hl (by decide) rfl (fun ls hl => ?_)
        refine lv_aload_n C.1 C.2.1 dX6_valueOf_116 rfl (lv_at hl 2 rfl) ?_
        refine x_get (v := .ref (ad b2)) C K h cl_6 hk_v0 1 (by decide) fl_RX6_17 (hv_r (o := sr_ σ v0 1) rfl hq_b2) dX6_valueOf_117 ?_
        refine lv_iload C.1 C.2.1 dX6_valueOf_120 (lv_at hl 1 rfl) ?_
        refine lv_iconst (v := (1 : Int32)) C.1 C.2.1 dX6_valueOf_122 (by decide) ?_
        refine lv_iadd C.1 C.2.1 dX6_valueOf_123 ?_
        obtain ⟨j6, hj_j6, hf⟩ := ob_ hf
        refine x_iald C K h hk_b2 hj_j6 dX6_valueOf_124 ?_
        refine lv_istore (i := 9) (lv' := [(9, .int (si_ σ b2 j6)), (8, .int (si_ σ b2 j5)), (4, .int (s0 - s1)), (0, .ref (ad v0)), (1, .ref (ad v1)), (5, .int v5), (6, .int v6), (7, .int v7)]) C.1 C.2.1 dX6_valueOf_125 hl (by decide) rfl (fun ls hl => ?_)
        refine lv_iload C.1 C.2.1 dX6_valueOf_127 (lv_at hl 6 rfl) ?_
        by_cases c7 : v6 = (0 : Int32)
        · have hf := if_t hf c7
          refine lv_tableIn (off := 55) (tgt := 184) C.1 C.2.1 dX6_valueOf_129 (by rw [c7]; decide) (by rw [c7]; decide) (by rw [c7]; rfl) (by decide) ?_
          refine lv_aload_n C.1 C.2.1 dX6_valueOf_184 rfl (lv_at hl 3 rfl) ?_
          refine x_get (v := .ref (ad b2)) C K h cl_6 hk_v0 1 (by decide) fl_RX6_17 (hv_r (o := sr_ σ v0 1) rfl hq_b2) dX6_valueOf_185 ?_
          refine lv_iload C.1 C.2.1 dX6_valueOf_188 (lv_at hl 2 rfl) ?_
          refine lv_iload C.1 C.2.1 dX6_valueOf_190 (lv_at hl 7 rfl) ?_
          obtain ⟨j8, hj_j8, hf⟩ := ob_ hf
          refine x_iast C K h hk_b2 hj_j8 dX6_valueOf_192 (fun H locs h => ?_)
          have hE := hE.up (up_i σ b2 j8 v7)
          refine lv_goto (tgt := 396) C.1 C.2.1 dX6_valueOf_193 (by decide) ?_
          exact w_X6_valueOf_396 fu C K hr hlk hR k33 hk33 (ui_ σ b2 j8 v7) v0 v1 (s0 - s1) v5 hE hk_v0 hk_v1 hf _ _ _ h (lv_sub hl [3, 4, 2, 5] rfl)
        · have hf := if_f hf c7
          by_cases c9 : v6 = (1 : Int32)
          · have hf := if_t hf c9
            refine lv_tableIn (off := 67) (tgt := 196) C.1 C.2.1 dX6_valueOf_129 (by rw [c9]; decide) (by rw [c9]; decide) (by rw [c9]; rfl) (by decide) ?_
            refine lv_aload_n C.1 C.2.1 dX6_valueOf_196 rfl (lv_at hl 3 rfl) ?_
            refine x_get (v := .ref (ad b2)) C K h cl_6 hk_v0 1 (by decide) fl_RX6_17 (hv_r (o := sr_ σ v0 1) rfl hq_b2) dX6_valueOf_197 ?_
            refine lv_iload C.1 C.2.1 dX6_valueOf_200 (lv_at hl 2 rfl) ?_
            refine lv_iload C.1 C.2.1 dX6_valueOf_202 (lv_at hl 7 rfl) ?_
            refine lv_aload_n C.1 C.2.1 dX6_valueOf_204 rfl (lv_at hl 3 rfl) ?_
            obtain ⟨b10, hb_b10, hf⟩ := ob_ hf
            obtain ⟨hq_b10, hk_b10⟩ := dr_in hb_b10
            refine x_get (v := .ref (ad b10)) C K h cl_6 hk_v0 0 (by decide) fl_RX6_11 (hv_r (o := sr_ σ v0 0) rfl hq_b10) dX6_valueOf_205 ?_
            refine x_ilen C K h hk_b10 dX6_valueOf_208 ?_
            refine lv_icmp_ge (tgt := 222) C.1 C.2.1 dX6_valueOf_209 (by decide) (fun c11 => ?_) (fun c11 => ?_)
            · have hf := if_t hf c11
              refine lv_iconst (v := (0 : Int32)) C.1 C.2.1 dX6_valueOf_222 (by decide) ?_
              obtain ⟨j12, hj_j12, hf⟩ := ob_ hf
              refine x_iast C K h hk_b2 hj_j12 dX6_valueOf_223 (fun H locs h => ?_)
              have hE := hE.up (up_i σ b2 j12 (0 : Int32))
              refine lv_goto (tgt := 396) C.1 C.2.1 dX6_valueOf_224 (by decide) ?_
              exact w_X6_valueOf_396 fu C K hr hlk hR k33 hk33 (ui_ σ b2 j12 (0 : Int32)) v0 v1 (s0 - s1) v5 hE hk_v0 hk_v1 hf _ _ _ h (lv_sub hl [3, 4, 2, 5] rfl)
            · have hf := if_f hf c11
              refine lv_aload_n C.1 C.2.1 dX6_valueOf_212 rfl (lv_at hl 3 rfl) ?_
              refine x_get (v := .ref (ad b10)) C K h cl_6 hk_v0 0 (by decide) fl_RX6_11 (hv_r (o := sr_ σ v0 0) rfl hq_b10) dX6_valueOf_213 ?_
              refine lv_iload C.1 C.2.1 dX6_valueOf_216 (lv_at hl 7 rfl) ?_
              obtain ⟨j13, hj_j13, hf⟩ := ob_ hf
              refine x_iald C K h hk_b10 hj_j13 dX6_valueOf_218 ?_
              refine lv_goto (tgt := 223) C.1 C.2.1 dX6_valueOf_219 (by decide) ?_
              obtain ⟨j14, hj_j14, hf⟩ := ob_ hf
              refine x_iast C K h hk_b2 hj_j14 dX6_valueOf_223 (fun H locs h => ?_)
              have hE := hE.up (up_i σ b2 j14 (si_ σ b10 j13))
              refine lv_goto (tgt := 396) C.1 C.2.1 dX6_valueOf_224 (by decide) ?_
              exact w_X6_valueOf_396 fu C K hr hlk hR k33 hk33 (ui_ σ b2 j14 (si_ σ b10 j13)) v0 v1 (s0 - s1) v5 hE hk_v0 hk_v1 hf _ _ _ h (lv_sub hl [3, 4, 2, 5] rfl)
          · have hf := if_f hf c9
            by_cases c15 : v6 = (2 : Int32)
            · have hf := if_t hf c15
              refine lv_tableIn (off := 98) (tgt := 227) C.1 C.2.1 dX6_valueOf_129 (by rw [c15]; decide) (by rw [c15]; decide) (by rw [c15]; rfl) (by decide) ?_
              refine lv_aload_n C.1 C.2.1 dX6_valueOf_227 rfl (lv_at hl 3 rfl) ?_
              refine x_get (v := .ref (ad b2)) C K h cl_6 hk_v0 1 (by decide) fl_RX6_17 (hv_r (o := sr_ σ v0 1) rfl hq_b2) dX6_valueOf_228 ?_
              refine lv_iload C.1 C.2.1 dX6_valueOf_231 (lv_at hl 2 rfl) ?_
              refine lv_iload C.1 C.2.1 dX6_valueOf_233 (lv_at hl 1 rfl) ?_
              refine lv_if_ne (tgt := 242) C.1 C.2.1 dX6_valueOf_235 (by decide) (fun c16 => ?_) (fun c16 => ?_)
              · have hf := if_f hf c16
                refine lv_iconst (v := (0 : Int32)) C.1 C.2.1 dX6_valueOf_242 (by decide) ?_
                obtain ⟨j17, hj_j17, hf⟩ := ob_ hf
                refine x_iast C K h hk_b2 hj_j17 dX6_valueOf_243 (fun H locs h => ?_)
                have hE := hE.up (up_i σ b2 j17 (0 : Int32))
                refine lv_goto (tgt := 396) C.1 C.2.1 dX6_valueOf_244 (by decide) ?_
                exact w_X6_valueOf_396 fu C K hr hlk hR k33 hk33 (ui_ σ b2 j17 (0 : Int32)) v0 v1 (s0 - s1) v5 hE hk_v0 hk_v1 hf _ _ _ h (lv_sub hl [3, 4, 2, 5] rfl)
              · have hf := if_t hf c16
                refine lv_iconst (v := (1 : Int32)) C.1 C.2.1 dX6_valueOf_238 (by decide) ?_
                refine lv_goto (tgt := 243) C.1 C.2.1 dX6_valueOf_239 (by decide) ?_
                obtain ⟨j18, hj_j18, hf⟩ := ob_ hf
                refine x_iast C K h hk_b2 hj_j18 dX6_valueOf_243 (fun H locs h => ?_)
                have hE := hE.up (up_i σ b2 j18 (1 : Int32))
                refine lv_goto (tgt := 396) C.1 C.2.1 dX6_valueOf_244 (by decide) ?_
                exact w_X6_valueOf_396 fu C K hr hlk hR k33 hk33 (ui_ σ b2 j18 (1 : Int32)) v0 v1 (s0 - s1) v5 hE hk_v0 hk_v1 hf _ _ _ h (lv_sub hl [3, 4, 2, 5] rfl)
            · have hf := if_f hf c15
              by_cases c19 : v6 = (3 : Int32)
              · have hf := if_t hf c19
                refine lv_tableIn (off := 118) (tgt := 247) C.1 C.2.1 dX6_valueOf_129 (by rw [c19]; decide) (by rw [c19]; decide) (by rw [c19]; rfl) (by decide) ?_
                refine lv_aload_n C.1 C.2.1 dX6_valueOf_247 rfl (lv_at hl 3 rfl) ?_
                refine x_get (v := .ref (ad b2)) C K h cl_6 hk_v0 1 (by decide) fl_RX6_17 (hv_r (o := sr_ σ v0 1) rfl hq_b2) dX6_valueOf_248 ?_
                refine lv_iload C.1 C.2.1 dX6_valueOf_251 (lv_at hl 2 rfl) ?_
                refine lv_iload C.1 C.2.1 dX6_valueOf_253 (lv_at hl 1 rfl) ?_
                refine lv_ineg C.1 C.2.1 dX6_valueOf_255 ?_
                obtain ⟨j20, hj_j20, hf⟩ := ob_ hf
                refine x_iast C K h hk_b2 hj_j20 dX6_valueOf_256 (fun H locs h => ?_)
                have hE := hE.up (up_i σ b2 j20 (-(si_ σ b2 j5)))
                refine lv_goto (tgt := 396) C.1 C.2.1 dX6_valueOf_257 (by decide) ?_
                exact w_X6_valueOf_396 fu C K hr hlk hR k33 hk33 (ui_ σ b2 j20 (-(si_ σ b2 j5))) v0 v1 (s0 - s1) v5 hE hk_v0 hk_v1 hf _ _ _ h (lv_sub hl [3, 4, 2, 5] rfl)
              · have hf := if_f hf c19
                by_cases c21 : v6 = (4 : Int32)
                · have hf := if_t hf c21
                  refine lv_tableIn (off := 131) (tgt := 260) C.1 C.2.1 dX6_valueOf_129 (by rw [c21]; decide) (by rw [c21]; decide) (by rw [c21]; rfl) (by decide) ?_
                  refine lv_aload_n C.1 C.2.1 dX6_valueOf_260 rfl (lv_at hl 3 rfl) ?_
                  refine x_get (v := .ref (ad b2)) C K h cl_6 hk_v0 1 (by decide) fl_RX6_17 (hv_r (o := sr_ σ v0 1) rfl hq_b2) dX6_valueOf_261 ?_
                  refine lv_iload C.1 C.2.1 dX6_valueOf_264 (lv_at hl 2 rfl) ?_
                  refine lv_iload C.1 C.2.1 dX6_valueOf_266 (lv_at hl 1 rfl) ?_
                  refine lv_if_ne (tgt := 276) C.1 C.2.1 dX6_valueOf_268 (by decide) (fun c22 => ?_) (fun c22 => ?_)
                  · have hf := if_f hf c22
                    refine lv_iconst (v := (1 : Int32)) C.1 C.2.1 dX6_valueOf_276 (by decide) ?_
                    refine lv_goto (tgt := 281) C.1 C.2.1 dX6_valueOf_277 (by decide) ?_
                    obtain ⟨j23, hj_j23, hf⟩ := ob_ hf
                    refine x_iast C K h hk_b2 hj_j23 dX6_valueOf_281 (fun H locs h => ?_)
                    have hE := hE.up (up_i σ b2 j23 (1 : Int32))
                    refine lv_goto (tgt := 396) C.1 C.2.1 dX6_valueOf_282 (by decide) ?_
                    exact w_X6_valueOf_396 fu C K hr hlk hR k33 hk33 (ui_ σ b2 j23 (1 : Int32)) v0 v1 (s0 - s1) v5 hE hk_v0 hk_v1 hf _ _ _ h (lv_sub hl [3, 4, 2, 5] rfl)
                  · have hf := if_t hf c22
                    refine lv_iload C.1 C.2.1 dX6_valueOf_271 (lv_at hl 0 rfl) ?_
                    refine lv_if_eq (tgt := 280) C.1 C.2.1 dX6_valueOf_273 (by decide) (fun c24 => ?_) (fun c24 => ?_)
                    · have hf := if_t hf c24
                      refine lv_iconst (v := (0 : Int32)) C.1 C.2.1 dX6_valueOf_280 (by decide) ?_
                      obtain ⟨j25, hj_j25, hf⟩ := ob_ hf
                      refine x_iast C K h hk_b2 hj_j25 dX6_valueOf_281 (fun H locs h => ?_)
                      have hE := hE.up (up_i σ b2 j25 (0 : Int32))
                      refine lv_goto (tgt := 396) C.1 C.2.1 dX6_valueOf_282 (by decide) ?_
                      exact w_X6_valueOf_396 fu C K hr hlk hR k33 hk33 (ui_ σ b2 j25 (0 : Int32)) v0 v1 (s0 - s1) v5 hE hk_v0 hk_v1 hf _ _ _ h (lv_sub hl [3, 4, 2, 5] rfl)
                    · have hf := if_f hf c24
                      refine lv_iconst (v := (1 : Int32)) C.1 C.2.1 dX6_valueOf_276 (by decide) ?_
                      refine lv_goto (tgt := 281) C.1 C.2.1 dX6_valueOf_277 (by decide) ?_
                      obtain ⟨j26, hj_j26, hf⟩ := ob_ hf
                      refine x_iast C K h hk_b2 hj_j26 dX6_valueOf_281 (fun H locs h => ?_)
                      have hE := hE.up (up_i σ b2 j26 (1 : Int32))
                      refine lv_goto (tgt := 396) C.1 C.2.1 dX6_valueOf_282 (by decide) ?_
                      exact w_X6_valueOf_396 fu C K hr hlk hR k33 hk33 (ui_ σ b2 j26 (1 : Int32)) v0 v1 (s0 - s1) v5 hE hk_v0 hk_v1 hf _ _ _ h (lv_sub hl [3, 4, 2, 5] rfl)
                · have hf := if_f hf c21
                  by_cases c27 : v6 = (5 : Int32)
                  · have hf := if_t hf c27
                    refine lv_tableIn (off := 156) (tgt := 285) C.1 C.2.1 dX6_valueOf_129 (by rw [c27]; decide) (by rw [c27]; decide) (by rw [c27]; rfl) (by decide) ?_
                    refine lv_aload_n C.1 C.2.1 dX6_valueOf_285 rfl (lv_at hl 3 rfl) ?_
                    refine x_get (v := .ref (ad b2)) C K h cl_6 hk_v0 1 (by decide) fl_RX6_17 (hv_r (o := sr_ σ v0 1) rfl hq_b2) dX6_valueOf_286 ?_
                    refine lv_iload C.1 C.2.1 dX6_valueOf_289 (lv_at hl 2 rfl) ?_
                    refine lv_iload C.1 C.2.1 dX6_valueOf_291 (lv_at hl 1 rfl) ?_
                    refine lv_if_eq (tgt := 305) C.1 C.2.1 dX6_valueOf_293 (by decide) (fun c28 => ?_) (fun c28 => ?_)
                    · have hf := if_t hf c28
                      refine lv_iconst (v := (0 : Int32)) C.1 C.2.1 dX6_valueOf_305 (by decide) ?_
                      obtain ⟨j29, hj_j29, hf⟩ := ob_ hf
                      refine x_iast C K h hk_b2 hj_j29 dX6_valueOf_306 (fun H locs h => ?_)
                      have hE := hE.up (up_i σ b2 j29 (0 : Int32))
                      refine lv_goto (tgt := 396) C.1 C.2.1 dX6_valueOf_307 (by decide) ?_
                      exact w_X6_valueOf_396 fu C K hr hlk hR k33 hk33 (ui_ σ b2 j29 (0 : Int32)) v0 v1 (s0 - s1) v5 hE hk_v0 hk_v1 hf _ _ _ h (lv_sub hl [3, 4, 2, 5] rfl)
                    · have hf := if_f hf c28
                      refine lv_iload C.1 C.2.1 dX6_valueOf_296 (lv_at hl 0 rfl) ?_
                      refine lv_if_eq (tgt := 305) C.1 C.2.1 dX6_valueOf_298 (by decide) (fun c30 => ?_) (fun c30 => ?_)
                      · have hf := if_t hf c30
                        refine lv_iconst (v := (0 : Int32)) C.1 C.2.1 dX6_valueOf_305 (by decide) ?_
                        obtain ⟨j31, hj_j31, hf⟩ := ob_ hf
                        refine x_iast C K h hk_b2 hj_j31 dX6_valueOf_306 (fun H locs h => ?_)
                        have hE := hE.up (up_i σ b2 j31 (0 : Int32))
                        refine lv_goto (tgt := 396) C.1 C.2.1 dX6_valueOf_307 (by decide) ?_
                        exact w_X6_valueOf_396 fu C K hr hlk hR k33 hk33 (ui_ σ b2 j31 (0 : Int32)) v0 v1 (s0 - s1) v5 hE hk_v0 hk_v1 hf _ _ _ h (lv_sub hl [3, 4, 2, 5] rfl)
                      · have hf := if_f hf c30
                        refine lv_iconst (v := (1 : Int32)) C.1 C.2.1 dX6_valueOf_301 (by decide) ?_
                        refine lv_goto (tgt := 306) C.1 C.2.1 dX6_valueOf_302 (by decide) ?_
                        obtain ⟨j32, hj_j32, hf⟩ := ob_ hf
                        refine x_iast C K h hk_b2 hj_j32 dX6_valueOf_306 (fun H locs h => ?_)
                        have hE := hE.up (up_i σ b2 j32 (1 : Int32))
                        refine lv_goto (tgt := 396) C.1 C.2.1 dX6_valueOf_307 (by decide) ?_
                        exact w_X6_valueOf_396 fu C K hr hlk hR k33 hk33 (ui_ σ b2 j32 (1 : Int32)) v0 v1 (s0 - s1) v5 hE hk_v0 hk_v1 hf _ _ _ h (lv_sub hl [3, 4, 2, 5] rfl)
                  · have hf := if_f hf c27
                    by_cases c33 : v6 = (6 : Int32)
                    · have hf := if_t hf c33
                      refine lv_tableIn (off := 181) (tgt := 310) C.1 C.2.1 dX6_valueOf_129 (by rw [c33]; decide) (by rw [c33]; decide) (by rw [c33]; rfl) (by decide) ?_
                      refine lv_aload_n C.1 C.2.1 dX6_valueOf_310 rfl (lv_at hl 3 rfl) ?_
                      refine x_get (v := .ref (ad b2)) C K h cl_6 hk_v0 1 (by decide) fl_RX6_17 (hv_r (o := sr_ σ v0 1) rfl hq_b2) dX6_valueOf_311 ?_
                      refine lv_iload C.1 C.2.1 dX6_valueOf_314 (lv_at hl 2 rfl) ?_
                      refine lv_iload C.1 C.2.1 dX6_valueOf_316 (lv_at hl 1 rfl) ?_
                      refine lv_iload C.1 C.2.1 dX6_valueOf_318 (lv_at hl 0 rfl) ?_
                      refine lv_icmp_ge (tgt := 327) C.1 C.2.1 dX6_valueOf_320 (by decide) (fun c34 => ?_) (fun c34 => ?_)
                      · have hf := if_t hf c34
                        refine lv_iconst (v := (0 : Int32)) C.1 C.2.1 dX6_valueOf_327 (by decide) ?_
                        obtain ⟨j35, hj_j35, hf⟩ := ob_ hf
                        refine x_iast C K h hk_b2 hj_j35 dX6_valueOf_328 (fun H locs h => ?_)
                        have hE := hE.up (up_i σ b2 j35 (0 : Int32))
                        refine lv_goto (tgt := 396) C.1 C.2.1 dX6_valueOf_329 (by decide) ?_
                        exact w_X6_valueOf_396 fu C K hr hlk hR k33 hk33 (ui_ σ b2 j35 (0 : Int32)) v0 v1 (s0 - s1) v5 hE hk_v0 hk_v1 hf _ _ _ h (lv_sub hl [3, 4, 2, 5] rfl)
                      · have hf := if_f hf c34
                        refine lv_iconst (v := (1 : Int32)) C.1 C.2.1 dX6_valueOf_323 (by decide) ?_
                        refine lv_goto (tgt := 328) C.1 C.2.1 dX6_valueOf_324 (by decide) ?_
                        obtain ⟨j36, hj_j36, hf⟩ := ob_ hf
                        refine x_iast C K h hk_b2 hj_j36 dX6_valueOf_328 (fun H locs h => ?_)
                        have hE := hE.up (up_i σ b2 j36 (1 : Int32))
                        refine lv_goto (tgt := 396) C.1 C.2.1 dX6_valueOf_329 (by decide) ?_
                        exact w_X6_valueOf_396 fu C K hr hlk hR k33 hk33 (ui_ σ b2 j36 (1 : Int32)) v0 v1 (s0 - s1) v5 hE hk_v0 hk_v1 hf _ _ _ h (lv_sub hl [3, 4, 2, 5] rfl)
                    · have hf := if_f hf c33
                      by_cases c37 : v6 = (7 : Int32)
                      · have hf := if_t hf c37
                        refine lv_tableIn (off := 203) (tgt := 332) C.1 C.2.1 dX6_valueOf_129 (by rw [c37]; decide) (by rw [c37]; decide) (by rw [c37]; rfl) (by decide) ?_
                        refine lv_aload_n C.1 C.2.1 dX6_valueOf_332 rfl (lv_at hl 3 rfl) ?_
                        refine x_get (v := .ref (ad b2)) C K h cl_6 hk_v0 1 (by decide) fl_RX6_17 (hv_r (o := sr_ σ v0 1) rfl hq_b2) dX6_valueOf_333 ?_
                        refine lv_iload C.1 C.2.1 dX6_valueOf_336 (lv_at hl 2 rfl) ?_
                        refine lv_iload C.1 C.2.1 dX6_valueOf_338 (lv_at hl 1 rfl) ?_
                        refine lv_iload C.1 C.2.1 dX6_valueOf_340 (lv_at hl 0 rfl) ?_
                        refine lv_icmp_ne (tgt := 349) C.1 C.2.1 dX6_valueOf_342 (by decide) (fun c38 => ?_) (fun c38 => ?_)
                        · have hf := if_f hf c38
                          refine lv_iconst (v := (0 : Int32)) C.1 C.2.1 dX6_valueOf_349 (by decide) ?_
                          obtain ⟨j39, hj_j39, hf⟩ := ob_ hf
                          refine x_iast C K h hk_b2 hj_j39 dX6_valueOf_350 (fun H locs h => ?_)
                          have hE := hE.up (up_i σ b2 j39 (0 : Int32))
                          refine lv_goto (tgt := 396) C.1 C.2.1 dX6_valueOf_351 (by decide) ?_
                          exact w_X6_valueOf_396 fu C K hr hlk hR k33 hk33 (ui_ σ b2 j39 (0 : Int32)) v0 v1 (s0 - s1) v5 hE hk_v0 hk_v1 hf _ _ _ h (lv_sub hl [3, 4, 2, 5] rfl)
                        · have hf := if_t hf c38
                          refine lv_iconst (v := (1 : Int32)) C.1 C.2.1 dX6_valueOf_345 (by decide) ?_
                          refine lv_goto (tgt := 350) C.1 C.2.1 dX6_valueOf_346 (by decide) ?_
                          obtain ⟨j40, hj_j40, hf⟩ := ob_ hf
                          refine x_iast C K h hk_b2 hj_j40 dX6_valueOf_350 (fun H locs h => ?_)
                          have hE := hE.up (up_i σ b2 j40 (1 : Int32))
                          refine lv_goto (tgt := 396) C.1 C.2.1 dX6_valueOf_351 (by decide) ?_
                          exact w_X6_valueOf_396 fu C K hr hlk hR k33 hk33 (ui_ σ b2 j40 (1 : Int32)) v0 v1 (s0 - s1) v5 hE hk_v0 hk_v1 hf _ _ _ h (lv_sub hl [3, 4, 2, 5] rfl)
                      · have hf := if_f hf c37
                        by_cases c41 : v6 = (8 : Int32)
                        · have hf := if_t hf c41
                          refine lv_tableIn (off := 225) (tgt := 354) C.1 C.2.1 dX6_valueOf_129 (by rw [c41]; decide) (by rw [c41]; decide) (by rw [c41]; rfl) (by decide) ?_
                          refine lv_aload_n C.1 C.2.1 dX6_valueOf_354 rfl (lv_at hl 3 rfl) ?_
                          refine x_get (v := .ref (ad b2)) C K h cl_6 hk_v0 1 (by decide) fl_RX6_17 (hv_r (o := sr_ σ v0 1) rfl hq_b2) dX6_valueOf_355 ?_
                          refine lv_iload C.1 C.2.1 dX6_valueOf_358 (lv_at hl 2 rfl) ?_
                          refine lv_iload C.1 C.2.1 dX6_valueOf_360 (lv_at hl 1 rfl) ?_
                          refine lv_iload C.1 C.2.1 dX6_valueOf_362 (lv_at hl 0 rfl) ?_
                          refine lv_iadd C.1 C.2.1 dX6_valueOf_364 ?_
                          obtain ⟨j42, hj_j42, hf⟩ := ob_ hf
                          refine x_iast C K h hk_b2 hj_j42 dX6_valueOf_365 (fun H locs h => ?_)
                          have hE := hE.up (up_i σ b2 j42 ((si_ σ b2 j5) + (si_ σ b2 j6)))
                          refine lv_goto (tgt := 396) C.1 C.2.1 dX6_valueOf_366 (by decide) ?_
                          exact w_X6_valueOf_396 fu C K hr hlk hR k33 hk33 (ui_ σ b2 j42 ((si_ σ b2 j5) + (si_ σ b2 j6))) v0 v1 (s0 - s1) v5 hE hk_v0 hk_v1 hf _ _ _ h (lv_sub hl [3, 4, 2, 5] rfl)
                        · have hf := if_f hf c41
                          by_cases c43 : v6 = (9 : Int32)
                          · have hf := if_t hf c43
                            refine lv_tableIn (off := 240) (tgt := 369) C.1 C.2.1 dX6_valueOf_129 (by rw [c43]; decide) (by rw [c43]; decide) (by rw [c43]; rfl) (by decide) ?_
                            refine lv_aload_n C.1 C.2.1 dX6_valueOf_369 rfl (lv_at hl 3 rfl) ?_
                            refine x_get (v := .ref (ad b2)) C K h cl_6 hk_v0 1 (by decide) fl_RX6_17 (hv_r (o := sr_ σ v0 1) rfl hq_b2) dX6_valueOf_370 ?_
                            refine lv_iload C.1 C.2.1 dX6_valueOf_373 (lv_at hl 2 rfl) ?_
                            refine lv_iload C.1 C.2.1 dX6_valueOf_375 (lv_at hl 1 rfl) ?_
                            refine lv_iload C.1 C.2.1 dX6_valueOf_377 (lv_at hl 0 rfl) ?_
                            refine lv_isub C.1 C.2.1 dX6_valueOf_379 ?_
                            obtain ⟨j44, hj_j44, hf⟩ := ob_ hf
                            refine x_iast C K h hk_b2 hj_j44 dX6_valueOf_380 (fun H locs h => ?_)
                            have hE := hE.up (up_i σ b2 j44 ((si_ σ b2 j5) - (si_ σ b2 j6)))
                            refine lv_goto (tgt := 396) C.1 C.2.1 dX6_valueOf_381 (by decide) ?_
                            exact w_X6_valueOf_396 fu C K hr hlk hR k33 hk33 (ui_ σ b2 j44 ((si_ σ b2 j5) - (si_ σ b2 j6))) v0 v1 (s0 - s1) v5 hE hk_v0 hk_v1 hf _ _ _ h (lv_sub hl [3, 4, 2, 5] rfl)
                          · have hf := if_f hf c43
                            refine lv_tableOut (tgt := 384) C.1 C.2.1 dX6_valueOf_129 (by have e0 := ne_i c7 (z := 0) (by decide); have e1 := ne_i c9 (z := 1) (by decide); have e2 := ne_i c15 (z := 2) (by decide); have e3 := ne_i c19 (z := 3) (by decide); have e4 := ne_i c21 (z := 4) (by decide); have e5 := ne_i c27 (z := 5) (by decide); have e6 := ne_i c33 (z := 6) (by decide); have e7 := ne_i c37 (z := 7) (by decide); have e8 := ne_i c41 (z := 8) (by decide); have e9 := ne_i c43 (z := 9) (by decide); omega) (by decide) ?_
                            refine lv_aload_n C.1 C.2.1 dX6_valueOf_384 rfl (lv_at hl 3 rfl) ?_
                            refine x_get (v := .ref (ad b2)) C K h cl_6 hk_v0 1 (by decide) fl_RX6_17 (hv_r (o := sr_ σ v0 1) rfl hq_b2) dX6_valueOf_385 ?_
                            refine lv_iload C.1 C.2.1 dX6_valueOf_388 (lv_at hl 2 rfl) ?_
                            refine lv_iload C.1 C.2.1 dX6_valueOf_390 (lv_at hl 1 rfl) ?_
                            refine lv_iload C.1 C.2.1 dX6_valueOf_392 (lv_at hl 0 rfl) ?_
                            refine lv_imul C.1 C.2.1 dX6_valueOf_394 ?_
                            obtain ⟨j45, hj_j45, hf⟩ := ob_ hf
                            refine x_iast C K h hk_b2 hj_j45 dX6_valueOf_395 (fun H locs h => ?_)
                            have hE := hE.up (up_i σ b2 j45 ((si_ σ b2 j5) * (si_ σ b2 j6)))
                            exact w_X6_valueOf_396 fu C K hr hlk hR k33 hk33 (ui_ σ b2 j45 ((si_ σ b2 j5) * (si_ σ b2 j6))) v0 v1 (s0 - s1) v5 hE hk_v0 hk_v1 hf _ _ _ h (lv_sub hl [3, 4, 2, 5] rfl)
      · have hf := if_f hf c4
        refine lv_iconst (v := (0 : Int32)) C.1 C.2.1 dX6_valueOf_105 (by decide) ?_
        exact x_ri C hr hlk h hE (pf_1 (Option.some.inj hf)) (pf_2 (Option.some.inj hf)) dX6_valueOf_106
def f_X6_valueOf_33 (fu : Nat) : Nat → St_ → Nat → Nat → Int32 → Int32 → Option (Int32 × St_)
  | 0 => fun _ _ _ _ _ => none
  | n + 1 => fun σ  v0  v1  v4  v5 => if (nI (ln_ σ v1)) ≤ v5 then (dr_ σ 10 (sr_ σ v0 1)).bind fun b2 => (ix_ (0 : Int32) (ln_ σ b2)).bind fun j3 => some (si_ σ b2 j3, σ) else (ix_ v5 (ln_ σ v1)).bind fun j4 => (ix_ v5 (ln_ σ v1)).bind fun j5 => if ((si_ σ v1 j4) &&& (15 : Int32)) < (4 : Int32) then if ((si_ σ v1 j4) &&& (15 : Int32)) < (2 : Int32) then f_X6_valueOf_80 fu (f_X6_valueOf_33 fu n) σ v0 v1 v5 ((si_ σ v1 j4) &&& (15 : Int32)) ((si_ σ v1 j5) >>> ((4 : Int32) &&& 31)) v4 (0 : Int32) else f_X6_valueOf_80 fu (f_X6_valueOf_33 fu n) σ v0 v1 v5 ((si_ σ v1 j4) &&& (15 : Int32)) ((si_ σ v1 j5) >>> ((4 : Int32) &&& 31)) v4 (1 : Int32) else f_X6_valueOf_80 fu (f_X6_valueOf_33 fu n) σ v0 v1 v5 ((si_ σ v1 j4) &&& (15 : Int32)) ((si_ σ v1 j5) >>> ((4 : Int32) &&& 31)) v4 (2 : Int32)
set_option maxHeartbeats 4000000 in
set_option maxRecDepth 100000 in
theorem w_X6_valueOf_33 {p : Program} {l : Launch} {e : Env} {R : Room} {s : State} {m : MethodId} {args : Array Value} {below : List Frame} {meth : Method} {c : Code} {κ : Ka_} {G : va_G} {cy : Nat → ClassId} {ad : Nat → Nat} {sz : Nat} {σ0 : St_} (fu : Nat) (C : CallFix p m c cX6_valueOf 10 s args wU_ RX6) (K : Kx_ κ G cy (va_A (wl_ cy ad σ0) sz) s) (hr : meth.sig.returnType = some .int) (hlk : meth.locks = false) (hR : 0 ≤ R.frames ∧ 0 ≤ R.locals) {q : Int32 × St_} : ∀ n : Nat, ∀ (σ : St_) (v0 : Nat) (v1 : Nat) (v4 : Int32) (v5 : Int32), Ex_ σ0 σ → kd_ σ v0 = 6 → kd_ σ v1 = 10 → f_X6_valueOf_33 fu n σ v0 v1 v4 v5 = some q → ∀ (H : Heap) (locs : List Loc) (ls : Array Slot), Ht_ G cy (va_A (wl_ cy ad σ0) sz) s ad σ H locs → lv_has ls 10 [(0, .ref (ad v0)), (1, .ref (ad v1)), (4, .int v4), (5, .int v5)] → W p l e R s m args below meth c H locs 0 0 (MQ below (Qi_ G cy ad σ0 q.2 sz q.1) args s 0 0 (va_A (wl_ cy ad σ0) sz)) (F0 m 33 ls []) := by
  intro n
  induction n with
  | zero =>
    intro σ v0 v1 v4 v5 hE hk_v0 hk_v1 hf H locs ls h hl
    cases hf
  | succ n ih =>
    intro σ v0 v1 v4 v5 hE hk_v0 hk_v1 hf H locs ls h hl
    have hf : (if (nI (ln_ σ v1)) ≤ v5 then (dr_ σ 10 (sr_ σ v0 1)).bind fun b2 => (ix_ (0 : Int32) (ln_ σ b2)).bind fun j3 => some (si_ σ b2 j3, σ) else (ix_ v5 (ln_ σ v1)).bind fun j4 => (ix_ v5 (ln_ σ v1)).bind fun j5 => if ((si_ σ v1 j4) &&& (15 : Int32)) < (4 : Int32) then if ((si_ σ v1 j4) &&& (15 : Int32)) < (2 : Int32) then f_X6_valueOf_80 fu (f_X6_valueOf_33 fu n) σ v0 v1 v5 ((si_ σ v1 j4) &&& (15 : Int32)) ((si_ σ v1 j5) >>> ((4 : Int32) &&& 31)) v4 (0 : Int32) else f_X6_valueOf_80 fu (f_X6_valueOf_33 fu n) σ v0 v1 v5 ((si_ σ v1 j4) &&& (15 : Int32)) ((si_ σ v1 j5) >>> ((4 : Int32) &&& 31)) v4 (1 : Int32) else f_X6_valueOf_80 fu (f_X6_valueOf_33 fu n) σ v0 v1 v5 ((si_ σ v1 j4) &&& (15 : Int32)) ((si_ σ v1 j5) >>> ((4 : Int32) &&& 31)) v4 (2 : Int32)) = some q := hf
    refine lv_iload C.1 C.2.1 dX6_valueOf_33 (lv_at hl 3 rfl) ?_
    refine lv_aload_n C.1 C.2.1 dX6_valueOf_35 rfl (lv_at hl 1 rfl) ?_
    refine x_ilen C K h hk_v1 dX6_valueOf_36 ?_
    refine lv_icmp_ge (tgt := 405) C.1 C.2.1 dX6_valueOf_37 (by decide) (fun c1 => ?_) (fun c1 => ?_)
    · have hf := if_t hf c1
      refine lv_aload_n C.1 C.2.1 dX6_valueOf_405 rfl (lv_at hl 0 rfl) ?_
      obtain ⟨b2, hb_b2, hf⟩ := ob_ hf
      obtain ⟨hq_b2, hk_b2⟩ := dr_in hb_b2
      refine x_get (v := .ref (ad b2)) C K h cl_6 hk_v0 1 (by decide) fl_RX6_17 (hv_r (o := sr_ σ v0 1) rfl hq_b2) dX6_valueOf_406 ?_
      refine lv_iconst (v := (0 : Int32)) C.1 C.2.1 dX6_valueOf_409 (by decide) ?_
      obtain ⟨j3, hj_j3, hf⟩ := ob_ hf
      refine x_iald C K h hk_b2 hj_j3 dX6_valueOf_410 ?_
      exact x_ri C hr hlk h hE (pf_1 (Option.some.inj hf)) (pf_2 (Option.some.inj hf)) dX6_valueOf_411
    · have hf := if_f hf c1
      refine lv_aload_n C.1 C.2.1 dX6_valueOf_40 rfl (lv_at hl 1 rfl) ?_
      refine lv_iload C.1 C.2.1 dX6_valueOf_41 (lv_at hl 3 rfl) ?_
      obtain ⟨j4, hj_j4, hf⟩ := ob_ hf
      refine x_iald C K h hk_v1 hj_j4 dX6_valueOf_43 ?_
      refine lv_bipush (v := (15 : Int32)) C.1 C.2.1 dX6_valueOf_44 (by decide) ?_
      refine lv_iand C.1 C.2.1 dX6_valueOf_46 ?_
      refine lv_istore (i := 6) (lv' := [(6, .int ((si_ σ v1 j4) &&& (15 : Int32))), (0, .ref (ad v0)), (1, .ref (ad v1)), (4, .int v4), (5, .int v5)]) C.1 C.2.1 dX6_valueOf_47 hl (by decide) rfl (fun ls hl => ?_)
      refine lv_aload_n C.1 C.2.1 dX6_valueOf_49 rfl (lv_at hl 2 rfl) ?_
      refine lv_iload C.1 C.2.1 dX6_valueOf_50 (lv_at hl 4 rfl) ?_
      obtain ⟨j5, hj_j5, hf⟩ := ob_ hf
      refine x_iald C K h hk_v1 hj_j5 dX6_valueOf_52 ?_
      refine lv_iconst (v := (4 : Int32)) C.1 C.2.1 dX6_valueOf_53 (by decide) ?_
      refine lv_ishr C.1 C.2.1 dX6_valueOf_54 ?_
      refine lv_istore (i := 7) (lv' := [(7, .int ((si_ σ v1 j5) >>> ((4 : Int32) &&& 31))), (6, .int ((si_ σ v1 j4) &&& (15 : Int32))), (0, .ref (ad v0)), (1, .ref (ad v1)), (4, .int v4), (5, .int v5)]) C.1 C.2.1 dX6_valueOf_55 hl (by decide) rfl (fun ls hl => ?_)
      refine lv_iload C.1 C.2.1 dX6_valueOf_57 (lv_at hl 4 rfl) ?_
      refine lv_iload C.1 C.2.1 dX6_valueOf_59 (lv_at hl 1 rfl) ?_
      refine lv_iconst (v := (4 : Int32)) C.1 C.2.1 dX6_valueOf_61 (by decide) ?_
      refine lv_icmp_lt (tgt := 69) C.1 C.2.1 dX6_valueOf_62 (by decide) (fun c6 => ?_) (fun c6 => ?_)
      · have hf := if_t hf c6
        refine lv_iload C.1 C.2.1 dX6_valueOf_69 (lv_at hl 1 rfl) ?_
        refine lv_iconst (v := (2 : Int32)) C.1 C.2.1 dX6_valueOf_71 (by decide) ?_
        refine lv_icmp_lt (tgt := 79) C.1 C.2.1 dX6_valueOf_72 (by decide) (fun c7 => ?_) (fun c7 => ?_)
        · have hf := if_t hf c7
          refine lv_iconst (v := (0 : Int32)) C.1 C.2.1 dX6_valueOf_79 (by decide) ?_
          exact w_X6_valueOf_80 fu C K hr hlk hR (f_X6_valueOf_33 fu n) ih σ v0 v1 v5 ((si_ σ v1 j4) &&& (15 : Int32)) ((si_ σ v1 j5) >>> ((4 : Int32) &&& 31)) v4 (0 : Int32) hE hk_v0 hk_v1 hf _ _ _ h (lv_sub hl [2, 3, 5, 1, 0] rfl)
        · have hf := if_f hf c7
          refine lv_iconst (v := (1 : Int32)) C.1 C.2.1 dX6_valueOf_75 (by decide) ?_
          refine lv_goto (tgt := 80) C.1 C.2.1 dX6_valueOf_76 (by decide) ?_
          exact w_X6_valueOf_80 fu C K hr hlk hR (f_X6_valueOf_33 fu n) ih σ v0 v1 v5 ((si_ σ v1 j4) &&& (15 : Int32)) ((si_ σ v1 j5) >>> ((4 : Int32) &&& 31)) v4 (1 : Int32) hE hk_v0 hk_v1 hf _ _ _ h (lv_sub hl [2, 3, 5, 1, 0] rfl)
      · have hf := if_f hf c6
        refine lv_iconst (v := (2 : Int32)) C.1 C.2.1 dX6_valueOf_65 (by decide) ?_
        refine lv_goto (tgt := 80) C.1 C.2.1 dX6_valueOf_66 (by decide) ?_
        exact w_X6_valueOf_80 fu C K hr hlk hR (f_X6_valueOf_33 fu n) ih σ v0 v1 v5 ((si_ σ v1 j4) &&& (15 : Int32)) ((si_ σ v1 j5) >>> ((4 : Int32) &&& 31)) v4 (2 : Int32) hE hk_v0 hk_v1 hf _ _ _ h (lv_sub hl [2, 3, 5, 1, 0] rfl)
def f_X6_valueOf (fu : Nat) (σ : St_) (a0 : Nat) (x1 : Nat) (x2 : Int32) (x3 : Int32) : Option (Int32 × St_) := (dr_ σ 10 (sr_ σ a0 0)).bind fun b4 => (ix_ (0 : Int32) (ln_ σ b4)).bind fun j5 => (ix_ (2 : Int32) (ln_ (ui_ σ b4 j5 x3) b4)).bind fun j6 => (ix_ (3 : Int32) (ln_ (ui_ (ui_ σ b4 j5 x3) b4 j6 (x2 - x2 / (6 : Int32) * (6 : Int32))) b4)).bind fun j7 => f_X6_valueOf_33 fu fu (ui_ (ui_ (ui_ σ b4 j5 x3) b4 j6 (x2 - x2 / (6 : Int32) * (6 : Int32))) b4 j7 (x2 / (6 : Int32))) a0 x1 (0 : Int32) (0 : Int32)
set_option maxHeartbeats 4000000 in
set_option maxRecDepth 100000 in
theorem w_X6_valueOf {p : Program} {l : Launch} {e : Env} {R : Room} {s : State} {m : MethodId} {args : Array Value} {below : List Frame} {meth : Method} {c : Code} {κ : Ka_} {G : va_G} {cy : Nat → ClassId} {ad : Nat → Nat} {sz : Nat} {σ0 : St_} (fu : Nat) (C : CallFix p m c cX6_valueOf 10 s args wU_ RX6) (K : Kx_ κ G cy (va_A (wl_ cy ad σ0) sz) s) (hr : meth.sig.returnType = some .int) (hlk : meth.locks = false) (hR : 0 ≤ R.frames ∧ 0 ≤ R.locals) {q : Int32 × St_} : ∀ (σ : St_) (a0 : Nat) (x1 : Nat) (x2 : Int32) (x3 : Int32), Ex_ σ0 σ → kd_ σ a0 = 6 → kd_ σ x1 = 10 → f_X6_valueOf fu σ a0 x1 x2 x3 = some q → ∀ (H : Heap) (locs : List Loc) (ls : Array Slot), Ht_ G cy (va_A (wl_ cy ad σ0) sz) s ad σ H locs → lv_has ls 10 [(0, .ref (ad a0)), (1, .ref (ad x1)), (2, .int x2), (3, .int x3)] → W p l e R s m args below meth c H locs 0 0 (MQ below (Qi_ G cy ad σ0 q.2 sz q.1) args s 0 0 (va_A (wl_ cy ad σ0) sz)) (F0 m 0 ls []) := by
  intro σ a0 x1 x2 x3 hE hk_a0 hk_x1 hf H locs ls h hl
  have hf : ((dr_ σ 10 (sr_ σ a0 0)).bind fun b4 => (ix_ (0 : Int32) (ln_ σ b4)).bind fun j5 => (ix_ (2 : Int32) (ln_ (ui_ σ b4 j5 x3) b4)).bind fun j6 => (ix_ (3 : Int32) (ln_ (ui_ (ui_ σ b4 j5 x3) b4 j6 (x2 - x2 / (6 : Int32) * (6 : Int32))) b4)).bind fun j7 => f_X6_valueOf_33 fu fu (ui_ (ui_ (ui_ σ b4 j5 x3) b4 j6 (x2 - x2 / (6 : Int32) * (6 : Int32))) b4 j7 (x2 / (6 : Int32))) a0 x1 (0 : Int32) (0 : Int32)) = some q := hf
  refine lv_aload_n C.1 C.2.1 dX6_valueOf_0 rfl (lv_at hl 0 rfl) ?_
  obtain ⟨b4, hb_b4, hf⟩ := ob_ hf
  obtain ⟨hq_b4, hk_b4⟩ := dr_in hb_b4
  refine x_get (v := .ref (ad b4)) C K h cl_6 hk_a0 0 (by decide) fl_RX6_11 (hv_r (o := sr_ σ a0 0) rfl hq_b4) dX6_valueOf_1 ?_
  refine lv_iconst (v := (0 : Int32)) C.1 C.2.1 dX6_valueOf_4 (by decide) ?_
  refine lv_iload_n C.1 C.2.1 dX6_valueOf_5 rfl (lv_at hl 3 rfl) ?_
  obtain ⟨j5, hj_j5, hf⟩ := ob_ hf
  refine x_iast C K h hk_b4 hj_j5 dX6_valueOf_6 (fun H locs h => ?_)
  have hE := hE.up (up_i σ b4 j5 x3)
  refine lv_aload_n C.1 C.2.1 dX6_valueOf_7 rfl (lv_at hl 0 rfl) ?_
  refine x_get (v := .ref (ad b4)) C K h cl_6 hk_a0 0 (by decide) fl_RX6_11 (hv_r (o := sr_ (ui_ σ b4 j5 x3) a0 0) rfl hq_b4) dX6_valueOf_8 ?_
  refine lv_iconst (v := (2 : Int32)) C.1 C.2.1 dX6_valueOf_11 (by decide) ?_
  refine lv_iload_n C.1 C.2.1 dX6_valueOf_12 rfl (lv_at hl 2 rfl) ?_
  refine lv_bipush (v := (6 : Int32)) C.1 C.2.1 dX6_valueOf_13 (by decide) ?_
  refine lv_irem C.1 C.2.1 dX6_valueOf_15 (by decide) ?_
  obtain ⟨j6, hj_j6, hf⟩ := ob_ hf
  refine x_iast C K h hk_b4 hj_j6 dX6_valueOf_16 (fun H locs h => ?_)
  have hE := hE.up (up_i (ui_ σ b4 j5 x3) b4 j6 (x2 - x2 / (6 : Int32) * (6 : Int32)))
  refine lv_aload_n C.1 C.2.1 dX6_valueOf_17 rfl (lv_at hl 0 rfl) ?_
  refine x_get (v := .ref (ad b4)) C K h cl_6 hk_a0 0 (by decide) fl_RX6_11 (hv_r (o := sr_ (ui_ (ui_ σ b4 j5 x3) b4 j6 (x2 - x2 / (6 : Int32) * (6 : Int32))) a0 0) rfl hq_b4) dX6_valueOf_18 ?_
  refine lv_iconst (v := (3 : Int32)) C.1 C.2.1 dX6_valueOf_21 (by decide) ?_
  refine lv_iload_n C.1 C.2.1 dX6_valueOf_22 rfl (lv_at hl 2 rfl) ?_
  refine lv_bipush (v := (6 : Int32)) C.1 C.2.1 dX6_valueOf_23 (by decide) ?_
  refine lv_idiv C.1 C.2.1 dX6_valueOf_25 (by decide) ?_
  obtain ⟨j7, hj_j7, hf⟩ := ob_ hf
  refine x_iast C K h hk_b4 hj_j7 dX6_valueOf_26 (fun H locs h => ?_)
  have hE := hE.up (up_i (ui_ (ui_ σ b4 j5 x3) b4 j6 (x2 - x2 / (6 : Int32) * (6 : Int32))) b4 j7 (x2 / (6 : Int32)))
  refine lv_iconst (v := (0 : Int32)) C.1 C.2.1 dX6_valueOf_27 (by decide) ?_
  refine lv_istore (i := 4) (lv' := [(4, .int (0 : Int32)), (0, .ref (ad a0)), (1, .ref (ad x1)), (2, .int x2), (3, .int x3)]) C.1 C.2.1 dX6_valueOf_28 hl (by decide) rfl (fun ls hl => ?_)
  refine lv_iconst (v := (0 : Int32)) C.1 C.2.1 dX6_valueOf_30 (by decide) ?_
  refine lv_istore (i := 5) (lv' := [(5, .int (0 : Int32)), (4, .int (0 : Int32)), (0, .ref (ad a0)), (1, .ref (ad x1)), (2, .int x2), (3, .int x3)]) C.1 C.2.1 dX6_valueOf_31 hl (by decide) rfl (fun ls hl => ?_)
  exact w_X6_valueOf_33 fu C K hr hlk hR fu (ui_ (ui_ (ui_ σ b4 j5 x3) b4 j6 (x2 - x2 / (6 : Int32) * (6 : Int32))) b4 j7 (x2 / (6 : Int32))) a0 x1 (0 : Int32) (0 : Int32) hE hk_a0 hk_x1 hf _ _ _ h (lv_sub hl [2, 3, 1, 0] rfl)
theorem c_X6_valueOf (fu : Nat) (l : Launch) (κ : Ka_) (G : va_G) (cy : Nat → ClassId) (ad : Nat → Nat) (sz : Nat) (σ : St_) (a0 : Nat) (x1 : Nat) (x2 : Int32) (x3 : Int32) (hk_a0 : kd_ σ a0 = 6) (hk_x1 : kd_ σ x1 = 10) {q : Int32 × St_} (hf : f_X6_valueOf fu σ a0 x1 x2 x3 = some q) : Met l yX6_valueOf (Cond.code yX6_valueOf cX6_valueOf 10 (some .int) :: wU_) { frames := 0, cells := 0, slots := 0, locals := 0 } (va_Pc [.ref (ad a0), .ref (ad x1), .int x2, .int x3] (Pr_ κ G cy ad σ sz)) (Qi_ G cy ad σ q.2 sz q.1) 0 0 (va_A (wl_ cy ad σ) sz) :=
  x_met (by decide) (fun p e R s m below meth c ls hR C hr hlk hin _ K h hl => w_X6_valueOf fu C K hr hlk ⟨hR.1, hR.2.1⟩ σ a0 x1 x2 x3 Ex_.rf hk_a0 hk_x1 hf s.heap [] ls h hl) (Nat.le_of_ble_eq_true rfl)
-- X6_eastOfKind
theorem mi_X6_eastOfKind : Mi_ yX6_eastOfKind cX6_eastOfKind 4 (some .int) 2 := ⟨co_yX6_eastOfKind, in_RX6, by decide, by decide, by decide +kernel⟩
def f_X6_eastOfKind_11 (σ : St_) (v0 : Nat) (v1 : Int32) (s0 : Int32) : Option Int32 := if (si_ σ v0 2) = (1 : Int32) then some ((2 : Int32) * v1) else if (si_ σ v0 2) = (2 : Int32) then if s0 = 0 then some v1 else some (0 : Int32) else if (si_ σ v0 2) = (3 : Int32) then (dr_ σ 10 (sr_ σ v0 0)).bind fun b5 => (ix_ (1 : Int32) (ln_ σ b5)).bind fun j6 => some (((2 : Int32) * v1) + ((si_ σ b5 j6) - (si_ σ b5 j6) / (3 : Int32) * (3 : Int32))) else if (si_ σ v0 2) = (4 : Int32) then if s0 = 0 then (dr_ σ 10 (sr_ σ v0 0)).bind fun b9 => (ix_ (4 : Int32) (ln_ σ b9)).bind fun j10 => if ((si_ σ b9 j10) - (si_ σ b9 j10) / (2 : Int32) * (2 : Int32)) = 0 then some v1 else some (0 : Int32) else some (0 : Int32) else if (si_ σ v0 2) = (5 : Int32) then some (-v1) else some v1
set_option maxHeartbeats 4000000 in
set_option maxRecDepth 100000 in
theorem w_X6_eastOfKind_11 {p : Program} {l : Launch} {e : Env} {R : Room} {s : State} {m : MethodId} {args : Array Value} {below : List Frame} {meth : Method} {c : Code} {κ : Ka_} {G : va_G} {cy : Nat → ClassId} {ad : Nat → Nat} {sz : Nat} {σ : St_} (C : CallFix p m c cX6_eastOfKind 4 s args wU_ RX6) (K : Kx_ κ G cy (va_A (wl_ cy ad σ) sz) s) (hr : meth.sig.returnType = some .int) (hlk : meth.locks = false) (hR : 0 ≤ R.frames ∧ 0 ≤ R.locals) {q : Int32} : ∀ (v0 : Nat) (v1 : Int32) (s0 : Int32), kd_ σ v0 = 6 → f_X6_eastOfKind_11 σ v0 v1 s0 = some q → ∀ (H : Heap) (locs : List Loc) (ls : Array Slot), Ht_ G cy (va_A (wl_ cy ad σ) sz) s ad σ H locs → lv_has ls 4 [(0, .ref (ad v0)), (1, .int v1)] → W p l e R s m args below meth c H locs 0 0 (MQ below (Qi_ G cy ad σ σ sz q) args s 0 0 (va_A (wl_ cy ad σ) sz)) (F0 m 11 ls [.int s0]) := by
  intro v0 v1 s0 hk_v0 hf H locs ls h hl
  have hf : (if (si_ σ v0 2) = (1 : Int32) then some ((2 : Int32) * v1) else if (si_ σ v0 2) = (2 : Int32) then if s0 = 0 then some v1 else some (0 : Int32) else if (si_ σ v0 2) = (3 : Int32) then (dr_ σ 10 (sr_ σ v0 0)).bind fun b5 => (ix_ (1 : Int32) (ln_ σ b5)).bind fun j6 => some (((2 : Int32) * v1) + ((si_ σ b5 j6) - (si_ σ b5 j6) / (3 : Int32) * (3 : Int32))) else if (si_ σ v0 2) = (4 : Int32) then if s0 = 0 then (dr_ σ 10 (sr_ σ v0 0)).bind fun b9 => (ix_ (4 : Int32) (ln_ σ b9)).bind fun j10 => if ((si_ σ b9 j10) - (si_ σ b9 j10) / (2 : Int32) * (2 : Int32)) = 0 then some v1 else some (0 : Int32) else some (0 : Int32) else if (si_ σ v0 2) = (5 : Int32) then some (-v1) else some v1) = some q := hf
  refine lv_istore_n (i := 3) (lv' := [(3, .int s0), (0, .ref (ad v0)), (1, .int v1)]) C.1 C.2.1 dX6_eastOfKind_11 rfl hl (by decide) rfl (fun ls hl => ?_)
  refine lv_aload_n C.1 C.2.1 dX6_eastOfKind_12 rfl (lv_at hl 1 rfl) ?_
  refine x_get (v := .int (si_ σ v0 2)) C K h cl_6 hk_v0 2 (by decide) fl_RX6_20 rfl dX6_eastOfKind_13 ?_
  by_cases c1 : (si_ σ v0 2) = (1 : Int32)
  · have hf := if_t hf c1
    refine lv_tableIn (off := 36) (tgt := 52) C.1 C.2.1 dX6_eastOfKind_16 (by rw [c1]; decide) (by rw [c1]; decide) (by rw [c1]; rfl) (by decide) ?_
    refine lv_iconst (v := (2 : Int32)) C.1 C.2.1 dX6_eastOfKind_52 (by decide) ?_
    refine lv_iload_n C.1 C.2.1 dX6_eastOfKind_53 rfl (lv_at hl 2 rfl) ?_
    refine lv_imul C.1 C.2.1 dX6_eastOfKind_54 ?_
    exact x_ri C hr hlk h Ex_.rf (Option.some.inj hf) rfl dX6_eastOfKind_55
  · have hf := if_f hf c1
    by_cases c2 : (si_ σ v0 2) = (2 : Int32)
    · have hf := if_t hf c2
      refine lv_tableIn (off := 40) (tgt := 56) C.1 C.2.1 dX6_eastOfKind_16 (by rw [c2]; decide) (by rw [c2]; decide) (by rw [c2]; rfl) (by decide) ?_
      refine lv_iload_n C.1 C.2.1 dX6_eastOfKind_56 rfl (lv_at hl 0 rfl) ?_
      refine lv_if_eq (tgt := 64) C.1 C.2.1 dX6_eastOfKind_57 (by decide) (fun c3 => ?_) (fun c3 => ?_)
      · have hf := if_t hf c3
        refine lv_iload_n C.1 C.2.1 dX6_eastOfKind_64 rfl (lv_at hl 2 rfl) ?_
        exact x_ri C hr hlk h Ex_.rf (Option.some.inj hf) rfl dX6_eastOfKind_65
      · have hf := if_f hf c3
        refine lv_iconst (v := (0 : Int32)) C.1 C.2.1 dX6_eastOfKind_60 (by decide) ?_
        refine lv_goto (tgt := 65) C.1 C.2.1 dX6_eastOfKind_61 (by decide) ?_
        exact x_ri C hr hlk h Ex_.rf (Option.some.inj hf) rfl dX6_eastOfKind_65
    · have hf := if_f hf c2
      by_cases c4 : (si_ σ v0 2) = (3 : Int32)
      · have hf := if_t hf c4
        refine lv_tableIn (off := 50) (tgt := 66) C.1 C.2.1 dX6_eastOfKind_16 (by rw [c4]; decide) (by rw [c4]; decide) (by rw [c4]; rfl) (by decide) ?_
        refine lv_iconst (v := (2 : Int32)) C.1 C.2.1 dX6_eastOfKind_66 (by decide) ?_
        refine lv_iload_n C.1 C.2.1 dX6_eastOfKind_67 rfl (lv_at hl 2 rfl) ?_
        refine lv_imul C.1 C.2.1 dX6_eastOfKind_68 ?_
        refine lv_aload_n C.1 C.2.1 dX6_eastOfKind_69 rfl (lv_at hl 1 rfl) ?_
        obtain ⟨b5, hb_b5, hf⟩ := ob_ hf
        obtain ⟨hq_b5, hk_b5⟩ := dr_in hb_b5
        refine x_get (v := .ref (ad b5)) C K h cl_6 hk_v0 0 (by decide) fl_RX6_11 (hv_r (o := sr_ σ v0 0) rfl hq_b5) dX6_eastOfKind_70 ?_
        refine lv_iconst (v := (1 : Int32)) C.1 C.2.1 dX6_eastOfKind_73 (by decide) ?_
        obtain ⟨j6, hj_j6, hf⟩ := ob_ hf
        refine x_iald C K h hk_b5 hj_j6 dX6_eastOfKind_74 ?_
        refine lv_iconst (v := (3 : Int32)) C.1 C.2.1 dX6_eastOfKind_75 (by decide) ?_
        refine lv_irem C.1 C.2.1 dX6_eastOfKind_76 (by decide) ?_
        refine lv_iadd C.1 C.2.1 dX6_eastOfKind_77 ?_
        exact x_ri C hr hlk h Ex_.rf (Option.some.inj hf) rfl dX6_eastOfKind_78
      · have hf := if_f hf c4
        by_cases c7 : (si_ σ v0 2) = (4 : Int32)
        · have hf := if_t hf c7
          refine lv_tableIn (off := 63) (tgt := 79) C.1 C.2.1 dX6_eastOfKind_16 (by rw [c7]; decide) (by rw [c7]; decide) (by rw [c7]; rfl) (by decide) ?_
          refine lv_iload_n C.1 C.2.1 dX6_eastOfKind_79 rfl (lv_at hl 0 rfl) ?_
          refine lv_if_ne (tgt := 94) C.1 C.2.1 dX6_eastOfKind_80 (by decide) (fun c8 => ?_) (fun c8 => ?_)
          · have hf := if_f hf c8
            refine lv_iconst (v := (0 : Int32)) C.1 C.2.1 dX6_eastOfKind_94 (by decide) ?_
            refine lv_goto (tgt := 99) C.1 C.2.1 dX6_eastOfKind_95 (by decide) ?_
            exact x_ri C hr hlk h Ex_.rf (Option.some.inj hf) rfl dX6_eastOfKind_99
          · have hf := if_t hf c8
            refine lv_aload_n C.1 C.2.1 dX6_eastOfKind_83 rfl (lv_at hl 1 rfl) ?_
            obtain ⟨b9, hb_b9, hf⟩ := ob_ hf
            obtain ⟨hq_b9, hk_b9⟩ := dr_in hb_b9
            refine x_get (v := .ref (ad b9)) C K h cl_6 hk_v0 0 (by decide) fl_RX6_11 (hv_r (o := sr_ σ v0 0) rfl hq_b9) dX6_eastOfKind_84 ?_
            refine lv_iconst (v := (4 : Int32)) C.1 C.2.1 dX6_eastOfKind_87 (by decide) ?_
            obtain ⟨j10, hj_j10, hf⟩ := ob_ hf
            refine x_iald C K h hk_b9 hj_j10 dX6_eastOfKind_88 ?_
            refine lv_iconst (v := (2 : Int32)) C.1 C.2.1 dX6_eastOfKind_89 (by decide) ?_
            refine lv_irem C.1 C.2.1 dX6_eastOfKind_90 (by decide) ?_
            refine lv_if_eq (tgt := 98) C.1 C.2.1 dX6_eastOfKind_91 (by decide) (fun c11 => ?_) (fun c11 => ?_)
            · have hf := if_t hf c11
              refine lv_iload_n C.1 C.2.1 dX6_eastOfKind_98 rfl (lv_at hl 2 rfl) ?_
              exact x_ri C hr hlk h Ex_.rf (Option.some.inj hf) rfl dX6_eastOfKind_99
            · have hf := if_f hf c11
              refine lv_iconst (v := (0 : Int32)) C.1 C.2.1 dX6_eastOfKind_94 (by decide) ?_
              refine lv_goto (tgt := 99) C.1 C.2.1 dX6_eastOfKind_95 (by decide) ?_
              exact x_ri C hr hlk h Ex_.rf (Option.some.inj hf) rfl dX6_eastOfKind_99
        · have hf := if_f hf c7
          by_cases c12 : (si_ σ v0 2) = (5 : Int32)
          · have hf := if_t hf c12
            refine lv_tableIn (off := 84) (tgt := 100) C.1 C.2.1 dX6_eastOfKind_16 (by rw [c12]; decide) (by rw [c12]; decide) (by rw [c12]; rfl) (by decide) ?_
            refine lv_iload_n C.1 C.2.1 dX6_eastOfKind_100 rfl (lv_at hl 2 rfl) ?_
            refine lv_ineg C.1 C.2.1 dX6_eastOfKind_101 ?_
            exact x_ri C hr hlk h Ex_.rf (Option.some.inj hf) rfl dX6_eastOfKind_102
          · have hf := if_f hf c12
            refine lv_tableOut (tgt := 103) C.1 C.2.1 dX6_eastOfKind_16 (by have e0 := ne_i c1 (z := 1) (by decide); have e1 := ne_i c2 (z := 2) (by decide); have e2 := ne_i c4 (z := 3) (by decide); have e3 := ne_i c7 (z := 4) (by decide); have e4 := ne_i c12 (z := 5) (by decide); omega) (by decide) ?_
            refine lv_iload_n C.1 C.2.1 dX6_eastOfKind_103 rfl (lv_at hl 2 rfl) ?_
            exact x_ri C hr hlk h Ex_.rf (Option.some.inj hf) rfl dX6_eastOfKind_104
def f_X6_eastOfKind (σ : St_) (a0 : Nat) (x1 : Int32) (x2 : Int32) : Option Int32 := if (x2 - x2 / (2 : Int32) * (2 : Int32)) = 0 then f_X6_eastOfKind_11 σ a0 x1 (0 : Int32) else f_X6_eastOfKind_11 σ a0 x1 (1 : Int32)
set_option maxHeartbeats 4000000 in
set_option maxRecDepth 100000 in
theorem w_X6_eastOfKind {p : Program} {l : Launch} {e : Env} {R : Room} {s : State} {m : MethodId} {args : Array Value} {below : List Frame} {meth : Method} {c : Code} {κ : Ka_} {G : va_G} {cy : Nat → ClassId} {ad : Nat → Nat} {sz : Nat} {σ : St_} (C : CallFix p m c cX6_eastOfKind 4 s args wU_ RX6) (K : Kx_ κ G cy (va_A (wl_ cy ad σ) sz) s) (hr : meth.sig.returnType = some .int) (hlk : meth.locks = false) (hR : 0 ≤ R.frames ∧ 0 ≤ R.locals) {q : Int32} : ∀ (a0 : Nat) (x1 : Int32) (x2 : Int32), kd_ σ a0 = 6 → f_X6_eastOfKind σ a0 x1 x2 = some q → ∀ (H : Heap) (locs : List Loc) (ls : Array Slot), Ht_ G cy (va_A (wl_ cy ad σ) sz) s ad σ H locs → lv_has ls 4 [(0, .ref (ad a0)), (1, .int x1), (2, .int x2)] → W p l e R s m args below meth c H locs 0 0 (MQ below (Qi_ G cy ad σ σ sz q) args s 0 0 (va_A (wl_ cy ad σ) sz)) (F0 m 0 ls []) := by
  intro a0 x1 x2 hk_a0 hf H locs ls h hl
  have hf : (if (x2 - x2 / (2 : Int32) * (2 : Int32)) = 0 then f_X6_eastOfKind_11 σ a0 x1 (0 : Int32) else f_X6_eastOfKind_11 σ a0 x1 (1 : Int32)) = some q := hf
  refine lv_iload_n C.1 C.2.1 dX6_eastOfKind_0 rfl (lv_at hl 2 rfl) ?_
  refine lv_iconst (v := (2 : Int32)) C.1 C.2.1 dX6_eastOfKind_1 (by decide) ?_
  refine lv_irem C.1 C.2.1 dX6_eastOfKind_2 (by decide) ?_
  refine lv_if_eq (tgt := 10) C.1 C.2.1 dX6_eastOfKind_3 (by decide) (fun c3 => ?_) (fun c3 => ?_)
  · have hf := if_t hf c3
    refine lv_iconst (v := (0 : Int32)) C.1 C.2.1 dX6_eastOfKind_10 (by decide) ?_
    exact w_X6_eastOfKind_11 C K hr hlk hR a0 x1 (0 : Int32) hk_a0 hf _ _ _ h (lv_sub hl [0, 1] rfl)
  · have hf := if_f hf c3
    refine lv_iconst (v := (1 : Int32)) C.1 C.2.1 dX6_eastOfKind_6 (by decide) ?_
    refine lv_goto (tgt := 11) C.1 C.2.1 dX6_eastOfKind_7 (by decide) ?_
    exact w_X6_eastOfKind_11 C K hr hlk hR a0 x1 (1 : Int32) hk_a0 hf _ _ _ h (lv_sub hl [0, 1] rfl)
theorem c_X6_eastOfKind (l : Launch) (κ : Ka_) (G : va_G) (cy : Nat → ClassId) (ad : Nat → Nat) (sz : Nat) (σ : St_) (a0 : Nat) (x1 : Int32) (x2 : Int32) (hk_a0 : kd_ σ a0 = 6) {q : Int32} (hf : f_X6_eastOfKind σ a0 x1 x2 = some q) : Met l yX6_eastOfKind (Cond.code yX6_eastOfKind cX6_eastOfKind 4 (some .int) :: wU_) { frames := 0, cells := 0, slots := 0, locals := 0 } (va_Pc [.ref (ad a0), .int x1, .int x2] (Pr_ κ G cy ad σ sz)) (Qi_ G cy ad σ σ sz q) 0 0 (va_A (wl_ cy ad σ) sz) :=
  x_met (by decide) (fun p e R s m below meth c ls hR C hr hlk hin _ K h hl => w_X6_eastOfKind C K hr hlk ⟨hR.1, hR.2.1⟩ a0 x1 x2 hk_a0 hf s.heap [] ls h hl) (Nat.le_of_ble_eq_true rfl)
-- X6_east
theorem mi_X6_east : Mi_ yX6_east cX6_east 4 (some .int) 2 := ⟨co_yX6_east, in_RX6, by decide, by decide, by decide +kernel⟩
def f_X6_east (fu : Nat) (σ : St_) (a0 : Nat) (x1 : Int32) (x2 : Int32) : Option (Int32 × St_) := oc_ (sr_ σ a0 4) (some ((0 : Int32), σ)) (fun b4 => if kd_ σ b4 = 5 then (dr_ σ 10 (sr_ σ b4 0)).bind fun b5 => (f_X6_valueOf fu σ a0 b5 x1 x2).bind fun q6 => (f_X6_eastOfKind q6.2 a0 (f_X8_bounded q6.1 (-5 : Int32) (5 : Int32)) x2).bind fun q8 => some (f_X8_bounded q8 (-5 : Int32) (5 : Int32), q6.2) else none)
set_option maxHeartbeats 4000000 in
set_option maxRecDepth 100000 in
theorem w_X6_east {p : Program} {l : Launch} {e : Env} {R : Room} {s : State} {m : MethodId} {args : Array Value} {below : List Frame} {meth : Method} {c : Code} {κ : Ka_} {G : va_G} {cy : Nat → ClassId} {ad : Nat → Nat} {sz : Nat} {σ0 : St_} (fu : Nat) (C : CallFix p m c cX6_east 4 s args wU_ RX6) (K : Kx_ κ G cy (va_A (wl_ cy ad σ0) sz) s) (hr : meth.sig.returnType = some .int) (hlk : meth.locks = false) (hR : 1 ≤ R.frames ∧ 29 ≤ R.locals) {q : Int32 × St_} : ∀ (σ : St_) (a0 : Nat) (x1 : Int32) (x2 : Int32), Ex_ σ0 σ → kd_ σ a0 = 6 → f_X6_east fu σ a0 x1 x2 = some q → ∀ (H : Heap) (locs : List Loc) (ls : Array Slot), Ht_ G cy (va_A (wl_ cy ad σ0) sz) s ad σ H locs → lv_has ls 4 [(0, .ref (ad a0)), (1, .int x1), (2, .int x2)] → W p l e R s m args below meth c H locs 0 0 (MQ below (Qi_ G cy ad σ0 q.2 sz q.1) args s 0 0 (va_A (wl_ cy ad σ0) sz)) (F0 m 0 ls []) := by
  intro σ a0 x1 x2 hE hk_a0 hf H locs ls h hl
  have hf : (oc_ (sr_ σ a0 4) (some ((0 : Int32), σ)) (fun b4 => if kd_ σ b4 = 5 then (dr_ σ 10 (sr_ σ b4 0)).bind fun b5 => (f_X6_valueOf fu σ a0 b5 x1 x2).bind fun q6 => (f_X6_eastOfKind q6.2 a0 (f_X8_bounded q6.1 (-5 : Int32) (5 : Int32)) x2).bind fun q8 => some (f_X8_bounded q8 (-5 : Int32) (5 : Int32), q6.2) else none)) = some q := hf
  refine lv_aload_n C.1 C.2.1 dX6_east_0 rfl (lv_at hl 0 rfl) ?_
  obtain ⟨o3, ho3⟩ : ∃ z, z = sr_ σ a0 4 := ⟨_, rfl⟩
  rw [← ho3] at hf
  refine x_get (v := rv_ ad o3) C K h cl_6 hk_a0 4 (by decide) fl_RX6_28 (by rw [ho3]; rfl) dX6_east_1 ?_
  cases o3 with
  | none =>
    have hf := oc_n hf
    refine lv_ifnonnullN C.1 C.2.1 dX6_east_4 ?_
    refine lv_iconst (v := (0 : Int32)) C.1 C.2.1 dX6_east_7 (by decide) ?_
    exact x_ri C hr hlk h hE (pf_1 (Option.some.inj hf)) (pf_2 (Option.some.inj hf)) dX6_east_8
  | some b4 =>
    obtain ⟨hk_b4, hf⟩ := gd_ (oc_s hf)
    refine lv_ifnonnull (tgt := 9) C.1 C.2.1 dX6_east_4 (by decide) ?_
    refine lv_aload_n C.1 C.2.1 dX6_east_9 rfl (lv_at hl 0 rfl) ?_
    refine lv_aload_n C.1 C.2.1 dX6_east_10 rfl (lv_at hl 0 rfl) ?_
    refine x_get (v := .ref (ad b4)) C K h cl_6 hk_a0 4 (by decide) fl_RX6_28 (hv_q (o := sr_ σ a0 4) rfl ho3) dX6_east_11 ?_
    obtain ⟨b5, hb_b5, hf⟩ := ob_ hf
    obtain ⟨hq_b5, hk_b5⟩ := dr_in hb_b5
    refine x_getN (v := .ref (ad b5)) C K h cl_5 hk_b4 0 (by decide) nf_RX6_55 (hv_r (o := sr_ σ b4 0) rfl hq_b5) dX6_east_14 ?_
    refine lv_iload_n C.1 C.2.1 dX6_east_17 rfl (lv_at hl 1 rfl) ?_
    refine lv_iload_n C.1 C.2.1 dX6_east_18 rfl (lv_at hl 2 rfl) ?_
    obtain ⟨q6, hq_q6, hf⟩ := ob_ hf
    refine x_ai K h (x_V C K h [.ref (ad b5), .int x1, .int x2] (c_X6_valueOf fu l κ G cy ad H.size σ a0 b5 x1 x2 hk_a0 hk_b5 hq_q6) mi_X6_valueOf rfl im_yX6_valueOf se_yX6_valueOf ml_RX6_58 cl_6 hk_a0 ⟨rfl, rfl, Nat.le_trans (Nat.le_of_ble_eq_true rfl) hR.1, Nat.le_trans (Nat.le_of_ble_eq_true rfl) hR.2⟩ hl (Nat.le_of_ble_eq_true rfl) dX6_east_19 ⟨Nat.zero_le _, Nat.zero_le _⟩ rfl) (fun H locs h hX => ?_)
    have hE := hE.trans hX
    have hk_a0 := hX.k hk_a0 (by decide)
    refine lv_bipush (v := (-5 : Int32)) C.1 C.2.1 dX6_east_22 (by decide) ?_
    refine lv_iconst (v := (5 : Int32)) C.1 C.2.1 dX6_east_24 (by decide) ?_
    refine x_ai K h (x_SN C K h [.int q6.1, .int (-5 : Int32), .int (5 : Int32)] (c_X8_bounded l κ G cy ad H.size q6.2 q6.1 (-5 : Int32) (5 : Int32) rfl) mi_X8_bounded rfl st_yX8_bounded nm_RX6_62 ⟨rfl, rfl, Nat.le_trans (Nat.le_of_ble_eq_true rfl) hR.1, Nat.le_trans (Nat.le_of_ble_eq_true rfl) hR.2⟩ hl (Nat.le_of_ble_eq_true rfl) dX6_east_25 ⟨Nat.zero_le _, Nat.zero_le _⟩ rfl) (fun H locs h hX => ?_)
    refine lv_istore_n (i := 3) (lv' := [(3, .int (f_X8_bounded q6.1 (-5 : Int32) (5 : Int32))), (0, .ref (ad a0)), (1, .int x1), (2, .int x2)]) C.1 C.2.1 dX6_east_28 rfl hl (by decide) rfl (fun ls hl => ?_)
    refine lv_aload_n C.1 C.2.1 dX6_east_29 rfl (lv_at hl 1 rfl) ?_
    refine lv_iload_n C.1 C.2.1 dX6_east_30 rfl (lv_at hl 0 rfl) ?_
    refine lv_iload_n C.1 C.2.1 dX6_east_31 rfl (lv_at hl 3 rfl) ?_
    obtain ⟨q8, hq_q8, hf⟩ := ob_ hf
    refine x_ai K h (x_V C K h [.int (f_X8_bounded q6.1 (-5 : Int32) (5 : Int32)), .int x2] (c_X6_eastOfKind l κ G cy ad H.size q6.2 a0 (f_X8_bounded q6.1 (-5 : Int32) (5 : Int32)) x2 hk_a0 hq_q8) mi_X6_eastOfKind rfl im_yX6_eastOfKind se_yX6_eastOfKind ml_RX6_66 cl_6 hk_a0 ⟨rfl, rfl, Nat.le_trans (Nat.le_of_ble_eq_true rfl) hR.1, Nat.le_trans (Nat.le_of_ble_eq_true rfl) hR.2⟩ hl (Nat.le_of_ble_eq_true rfl) dX6_east_32 ⟨Nat.zero_le _, Nat.zero_le _⟩ rfl) (fun H locs h hX => ?_)
    refine lv_bipush (v := (-5 : Int32)) C.1 C.2.1 dX6_east_35 (by decide) ?_
    refine lv_iconst (v := (5 : Int32)) C.1 C.2.1 dX6_east_37 (by decide) ?_
    refine x_ai K h (x_SN C K h [.int q8, .int (-5 : Int32), .int (5 : Int32)] (c_X8_bounded l κ G cy ad H.size q6.2 q8 (-5 : Int32) (5 : Int32) rfl) mi_X8_bounded rfl st_yX8_bounded nm_RX6_62 ⟨rfl, rfl, Nat.le_trans (Nat.le_of_ble_eq_true rfl) hR.1, Nat.le_trans (Nat.le_of_ble_eq_true rfl) hR.2⟩ hl (Nat.le_of_ble_eq_true rfl) dX6_east_38 ⟨Nat.zero_le _, Nat.zero_le _⟩ rfl) (fun H locs h hX => ?_)
    exact x_ri C hr hlk h hE (pf_1 (Option.some.inj hf)) (pf_2 (Option.some.inj hf)) dX6_east_41
theorem c_X6_east (fu : Nat) (l : Launch) (κ : Ka_) (G : va_G) (cy : Nat → ClassId) (ad : Nat → Nat) (sz : Nat) (σ : St_) (a0 : Nat) (x1 : Int32) (x2 : Int32) (hk_a0 : kd_ σ a0 = 6) {q : Int32 × St_} (hf : f_X6_east fu σ a0 x1 x2 = some q) : Met l yX6_east (Cond.code yX6_east cX6_east 4 (some .int) :: wU_) { frames := 1, cells := 0, slots := 0, locals := 29 } (va_Pc [.ref (ad a0), .int x1, .int x2] (Pr_ κ G cy ad σ sz)) (Qi_ G cy ad σ q.2 sz q.1) 0 0 (va_A (wl_ cy ad σ) sz) :=
  x_met (by decide) (fun p e R s m below meth c ls hR C hr hlk hin _ K h hl => w_X6_east fu C K hr hlk ⟨hR.1, hR.2.1⟩ σ a0 x1 x2 Ex_.rf hk_a0 hf s.heap [] ls h hl) (Nat.le_of_ble_eq_true rfl)
-- X6_southOfKind
theorem mi_X6_southOfKind : Mi_ yX6_southOfKind cX6_southOfKind 3 (some .int) 2 := ⟨co_yX6_southOfKind, in_RX6, by decide, by decide, by decide +kernel⟩
def f_X6_southOfKind (σ : St_) (a0 : Nat) (x1 : Int32) (x2 : Int32) : Int32 := if (si_ σ a0 2) = (2 : Int32) then x1 + (1 : Int32) else if (si_ σ a0 2) = (3 : Int32) then if x2 ≤ (5 : Int32) then x1 else -x1 else if (si_ σ a0 2) = (4 : Int32) then x1 + (1 : Int32) else if (si_ σ a0 2) = (5 : Int32) then x1 / (2 : Int32) else x1
set_option maxHeartbeats 4000000 in
set_option maxRecDepth 100000 in
theorem w_X6_southOfKind {p : Program} {l : Launch} {e : Env} {R : Room} {s : State} {m : MethodId} {args : Array Value} {below : List Frame} {meth : Method} {c : Code} {κ : Ka_} {G : va_G} {cy : Nat → ClassId} {ad : Nat → Nat} {sz : Nat} {σ : St_} (C : CallFix p m c cX6_southOfKind 3 s args wU_ RX6) (K : Kx_ κ G cy (va_A (wl_ cy ad σ) sz) s) (hr : meth.sig.returnType = some .int) (hlk : meth.locks = false) (hR : 0 ≤ R.frames ∧ 0 ≤ R.locals) {q : Int32} : ∀ (a0 : Nat) (x1 : Int32) (x2 : Int32), kd_ σ a0 = 6 → f_X6_southOfKind σ a0 x1 x2 = q → ∀ (H : Heap) (locs : List Loc) (ls : Array Slot), Ht_ G cy (va_A (wl_ cy ad σ) sz) s ad σ H locs → lv_has ls 3 [(0, .ref (ad a0)), (1, .int x1), (2, .int x2)] → W p l e R s m args below meth c H locs 0 0 (MQ below (Qi_ G cy ad σ σ sz q) args s 0 0 (va_A (wl_ cy ad σ) sz)) (F0 m 0 ls []) := by
  intro a0 x1 x2 hk_a0 hf H locs ls h hl
  have hf : (if (si_ σ a0 2) = (2 : Int32) then x1 + (1 : Int32) else if (si_ σ a0 2) = (3 : Int32) then if x2 ≤ (5 : Int32) then x1 else -x1 else if (si_ σ a0 2) = (4 : Int32) then x1 + (1 : Int32) else if (si_ σ a0 2) = (5 : Int32) then x1 / (2 : Int32) else x1) = q := hf
  refine lv_aload_n C.1 C.2.1 dX6_southOfKind_0 rfl (lv_at hl 0 rfl) ?_
  refine x_get (v := .int (si_ σ a0 2)) C K h cl_6 hk_a0 2 (by decide) fl_RX6_20 rfl dX6_southOfKind_1 ?_
  by_cases c3 : (si_ σ a0 2) = (2 : Int32)
  · have hf := if_t hf c3
    refine lv_tableIn (off := 32) (tgt := 36) C.1 C.2.1 dX6_southOfKind_4 (by rw [c3]; decide) (by rw [c3]; decide) (by rw [c3]; rfl) (by decide) ?_
    refine lv_iload_n C.1 C.2.1 dX6_southOfKind_36 rfl (lv_at hl 1 rfl) ?_
    refine lv_iconst (v := (1 : Int32)) C.1 C.2.1 dX6_southOfKind_37 (by decide) ?_
    refine lv_iadd C.1 C.2.1 dX6_southOfKind_38 ?_
    exact x_ri C hr hlk h Ex_.rf hf rfl dX6_southOfKind_39
  · have hf := if_f hf c3
    by_cases c4 : (si_ σ a0 2) = (3 : Int32)
    · have hf := if_t hf c4
      refine lv_tableIn (off := 36) (tgt := 40) C.1 C.2.1 dX6_southOfKind_4 (by rw [c4]; decide) (by rw [c4]; decide) (by rw [c4]; rfl) (by decide) ?_
      refine lv_iload_n C.1 C.2.1 dX6_southOfKind_40 rfl (lv_at hl 2 rfl) ?_
      refine lv_iconst (v := (5 : Int32)) C.1 C.2.1 dX6_southOfKind_41 (by decide) ?_
      refine lv_icmp_le (tgt := 50) C.1 C.2.1 dX6_southOfKind_42 (by decide) (fun c5 => ?_) (fun c5 => ?_)
      · have hf := if_t hf c5
        refine lv_iload_n C.1 C.2.1 dX6_southOfKind_50 rfl (lv_at hl 1 rfl) ?_
        exact x_ri C hr hlk h Ex_.rf hf rfl dX6_southOfKind_51
      · have hf := if_f hf c5
        refine lv_iload_n C.1 C.2.1 dX6_southOfKind_45 rfl (lv_at hl 1 rfl) ?_
        refine lv_ineg C.1 C.2.1 dX6_southOfKind_46 ?_
        refine lv_goto (tgt := 51) C.1 C.2.1 dX6_southOfKind_47 (by decide) ?_
        exact x_ri C hr hlk h Ex_.rf hf rfl dX6_southOfKind_51
    · have hf := if_f hf c4
      by_cases c6 : (si_ σ a0 2) = (4 : Int32)
      · have hf := if_t hf c6
        refine lv_tableIn (off := 32) (tgt := 36) C.1 C.2.1 dX6_southOfKind_4 (by rw [c6]; decide) (by rw [c6]; decide) (by rw [c6]; rfl) (by decide) ?_
        refine lv_iload_n C.1 C.2.1 dX6_southOfKind_36 rfl (lv_at hl 1 rfl) ?_
        refine lv_iconst (v := (1 : Int32)) C.1 C.2.1 dX6_southOfKind_37 (by decide) ?_
        refine lv_iadd C.1 C.2.1 dX6_southOfKind_38 ?_
        exact x_ri C hr hlk h Ex_.rf hf rfl dX6_southOfKind_39
      · have hf := if_f hf c6
        by_cases c7 : (si_ σ a0 2) = (5 : Int32)
        · have hf := if_t hf c7
          refine lv_tableIn (off := 48) (tgt := 52) C.1 C.2.1 dX6_southOfKind_4 (by rw [c7]; decide) (by rw [c7]; decide) (by rw [c7]; rfl) (by decide) ?_
          refine lv_iload_n C.1 C.2.1 dX6_southOfKind_52 rfl (lv_at hl 1 rfl) ?_
          refine lv_iconst (v := (2 : Int32)) C.1 C.2.1 dX6_southOfKind_53 (by decide) ?_
          refine lv_idiv C.1 C.2.1 dX6_southOfKind_54 (by decide) ?_
          exact x_ri C hr hlk h Ex_.rf hf rfl dX6_southOfKind_55
        · have hf := if_f hf c7
          refine lv_tableOut (tgt := 56) C.1 C.2.1 dX6_southOfKind_4 (by have e0 := ne_i c3 (z := 2) (by decide); have e1 := ne_i c4 (z := 3) (by decide); have e2 := ne_i c6 (z := 4) (by decide); have e3 := ne_i c7 (z := 5) (by decide); omega) (by decide) ?_
          refine lv_iload_n C.1 C.2.1 dX6_southOfKind_56 rfl (lv_at hl 1 rfl) ?_
          exact x_ri C hr hlk h Ex_.rf hf rfl dX6_southOfKind_57
theorem c_X6_southOfKind (l : Launch) (κ : Ka_) (G : va_G) (cy : Nat → ClassId) (ad : Nat → Nat) (sz : Nat) (σ : St_) (a0 : Nat) (x1 : Int32) (x2 : Int32) (hk_a0 : kd_ σ a0 = 6) {q : Int32} (hf : f_X6_southOfKind σ a0 x1 x2 = q) : Met l yX6_southOfKind (Cond.code yX6_southOfKind cX6_southOfKind 3 (some .int) :: wU_) { frames := 0, cells := 0, slots := 0, locals := 0 } (va_Pc [.ref (ad a0), .int x1, .int x2] (Pr_ κ G cy ad σ sz)) (Qi_ G cy ad σ σ sz q) 0 0 (va_A (wl_ cy ad σ) sz) :=
  x_met (by decide) (fun p e R s m below meth c ls hR C hr hlk hin _ K h hl => w_X6_southOfKind C K hr hlk ⟨hR.1, hR.2.1⟩ a0 x1 x2 hk_a0 hf s.heap [] ls h hl) (Nat.le_of_ble_eq_true rfl)
-- X6_south
theorem mi_X6_south : Mi_ yX6_south cX6_south 4 (some .int) 2 := ⟨co_yX6_south, in_RX6, by decide, by decide, by decide +kernel⟩
def f_X6_south (fu : Nat) (σ : St_) (a0 : Nat) (x1 : Int32) (x2 : Int32) : Option (Int32 × St_) := oc_ (sr_ σ a0 4) (some ((0 : Int32), σ)) (fun b4 => if kd_ σ b4 = 5 then (dr_ σ 10 (sr_ σ b4 1)).bind fun b5 => (f_X6_valueOf fu σ a0 b5 x1 x2).bind fun q6 => some (f_X8_bounded (f_X6_southOfKind q6.2 a0 (f_X8_bounded q6.1 (-5 : Int32) (5 : Int32)) x2) (-5 : Int32) (5 : Int32), q6.2) else none)
set_option maxHeartbeats 4000000 in
set_option maxRecDepth 100000 in
theorem w_X6_south {p : Program} {l : Launch} {e : Env} {R : Room} {s : State} {m : MethodId} {args : Array Value} {below : List Frame} {meth : Method} {c : Code} {κ : Ka_} {G : va_G} {cy : Nat → ClassId} {ad : Nat → Nat} {sz : Nat} {σ0 : St_} (fu : Nat) (C : CallFix p m c cX6_south 4 s args wU_ RX6) (K : Kx_ κ G cy (va_A (wl_ cy ad σ0) sz) s) (hr : meth.sig.returnType = some .int) (hlk : meth.locks = false) (hR : 1 ≤ R.frames ∧ 29 ≤ R.locals) {q : Int32 × St_} : ∀ (σ : St_) (a0 : Nat) (x1 : Int32) (x2 : Int32), Ex_ σ0 σ → kd_ σ a0 = 6 → f_X6_south fu σ a0 x1 x2 = some q → ∀ (H : Heap) (locs : List Loc) (ls : Array Slot), Ht_ G cy (va_A (wl_ cy ad σ0) sz) s ad σ H locs → lv_has ls 4 [(0, .ref (ad a0)), (1, .int x1), (2, .int x2)] → W p l e R s m args below meth c H locs 0 0 (MQ below (Qi_ G cy ad σ0 q.2 sz q.1) args s 0 0 (va_A (wl_ cy ad σ0) sz)) (F0 m 0 ls []) := by
  intro σ a0 x1 x2 hE hk_a0 hf H locs ls h hl
  have hf : (oc_ (sr_ σ a0 4) (some ((0 : Int32), σ)) (fun b4 => if kd_ σ b4 = 5 then (dr_ σ 10 (sr_ σ b4 1)).bind fun b5 => (f_X6_valueOf fu σ a0 b5 x1 x2).bind fun q6 => some (f_X8_bounded (f_X6_southOfKind q6.2 a0 (f_X8_bounded q6.1 (-5 : Int32) (5 : Int32)) x2) (-5 : Int32) (5 : Int32), q6.2) else none)) = some q := hf
  refine lv_aload_n C.1 C.2.1 dX6_south_0 rfl (lv_at hl 0 rfl) ?_
  obtain ⟨o3, ho3⟩ : ∃ z, z = sr_ σ a0 4 := ⟨_, rfl⟩
  rw [← ho3] at hf
  refine x_get (v := rv_ ad o3) C K h cl_6 hk_a0 4 (by decide) fl_RX6_28 (by rw [ho3]; rfl) dX6_south_1 ?_
  cases o3 with
  | none =>
    have hf := oc_n hf
    refine lv_ifnonnullN C.1 C.2.1 dX6_south_4 ?_
    refine lv_iconst (v := (0 : Int32)) C.1 C.2.1 dX6_south_7 (by decide) ?_
    exact x_ri C hr hlk h hE (pf_1 (Option.some.inj hf)) (pf_2 (Option.some.inj hf)) dX6_south_8
  | some b4 =>
    obtain ⟨hk_b4, hf⟩ := gd_ (oc_s hf)
    refine lv_ifnonnull (tgt := 9) C.1 C.2.1 dX6_south_4 (by decide) ?_
    refine lv_aload_n C.1 C.2.1 dX6_south_9 rfl (lv_at hl 0 rfl) ?_
    refine lv_aload_n C.1 C.2.1 dX6_south_10 rfl (lv_at hl 0 rfl) ?_
    refine x_get (v := .ref (ad b4)) C K h cl_6 hk_a0 4 (by decide) fl_RX6_28 (hv_q (o := sr_ σ a0 4) rfl ho3) dX6_south_11 ?_
    obtain ⟨b5, hb_b5, hf⟩ := ob_ hf
    obtain ⟨hq_b5, hk_b5⟩ := dr_in hb_b5
    refine x_getN (v := .ref (ad b5)) C K h cl_5 hk_b4 1 (by decide) nf_RX6_69 (hv_r (o := sr_ σ b4 1) rfl hq_b5) dX6_south_14 ?_
    refine lv_iload_n C.1 C.2.1 dX6_south_17 rfl (lv_at hl 1 rfl) ?_
    refine lv_iload_n C.1 C.2.1 dX6_south_18 rfl (lv_at hl 2 rfl) ?_
    obtain ⟨q6, hq_q6, hf⟩ := ob_ hf
    refine x_ai K h (x_V C K h [.ref (ad b5), .int x1, .int x2] (c_X6_valueOf fu l κ G cy ad H.size σ a0 b5 x1 x2 hk_a0 hk_b5 hq_q6) mi_X6_valueOf rfl im_yX6_valueOf se_yX6_valueOf ml_RX6_58 cl_6 hk_a0 ⟨rfl, rfl, Nat.le_trans (Nat.le_of_ble_eq_true rfl) hR.1, Nat.le_trans (Nat.le_of_ble_eq_true rfl) hR.2⟩ hl (Nat.le_of_ble_eq_true rfl) dX6_south_19 ⟨Nat.zero_le _, Nat.zero_le _⟩ rfl) (fun H locs h hX => ?_)
    have hE := hE.trans hX
    have hk_a0 := hX.k hk_a0 (by decide)
    refine lv_bipush (v := (-5 : Int32)) C.1 C.2.1 dX6_south_22 (by decide) ?_
    refine lv_iconst (v := (5 : Int32)) C.1 C.2.1 dX6_south_24 (by decide) ?_
    refine x_ai K h (x_SN C K h [.int q6.1, .int (-5 : Int32), .int (5 : Int32)] (c_X8_bounded l κ G cy ad H.size q6.2 q6.1 (-5 : Int32) (5 : Int32) rfl) mi_X8_bounded rfl st_yX8_bounded nm_RX6_62 ⟨rfl, rfl, Nat.le_trans (Nat.le_of_ble_eq_true rfl) hR.1, Nat.le_trans (Nat.le_of_ble_eq_true rfl) hR.2⟩ hl (Nat.le_of_ble_eq_true rfl) dX6_south_25 ⟨Nat.zero_le _, Nat.zero_le _⟩ rfl) (fun H locs h hX => ?_)
    refine lv_istore_n (i := 3) (lv' := [(3, .int (f_X8_bounded q6.1 (-5 : Int32) (5 : Int32))), (0, .ref (ad a0)), (1, .int x1), (2, .int x2)]) C.1 C.2.1 dX6_south_28 rfl hl (by decide) rfl (fun ls hl => ?_)
    refine lv_aload_n C.1 C.2.1 dX6_south_29 rfl (lv_at hl 1 rfl) ?_
    refine lv_iload_n C.1 C.2.1 dX6_south_30 rfl (lv_at hl 0 rfl) ?_
    refine lv_iload_n C.1 C.2.1 dX6_south_31 rfl (lv_at hl 3 rfl) ?_
    refine x_ai K h (x_V C K h [.int (f_X8_bounded q6.1 (-5 : Int32) (5 : Int32)), .int x2] (c_X6_southOfKind l κ G cy ad H.size q6.2 a0 (f_X8_bounded q6.1 (-5 : Int32) (5 : Int32)) x2 hk_a0 rfl) mi_X6_southOfKind rfl im_yX6_southOfKind se_yX6_southOfKind ml_RX6_72 cl_6 hk_a0 ⟨rfl, rfl, Nat.le_trans (Nat.le_of_ble_eq_true rfl) hR.1, Nat.le_trans (Nat.le_of_ble_eq_true rfl) hR.2⟩ hl (Nat.le_of_ble_eq_true rfl) dX6_south_32 ⟨Nat.zero_le _, Nat.zero_le _⟩ rfl) (fun H locs h hX => ?_)
    refine lv_bipush (v := (-5 : Int32)) C.1 C.2.1 dX6_south_35 (by decide) ?_
    refine lv_iconst (v := (5 : Int32)) C.1 C.2.1 dX6_south_37 (by decide) ?_
    refine x_ai K h (x_SN C K h [.int (f_X6_southOfKind q6.2 a0 (f_X8_bounded q6.1 (-5 : Int32) (5 : Int32)) x2), .int (-5 : Int32), .int (5 : Int32)] (c_X8_bounded l κ G cy ad H.size q6.2 (f_X6_southOfKind q6.2 a0 (f_X8_bounded q6.1 (-5 : Int32) (5 : Int32)) x2) (-5 : Int32) (5 : Int32) rfl) mi_X8_bounded rfl st_yX8_bounded nm_RX6_62 ⟨rfl, rfl, Nat.le_trans (Nat.le_of_ble_eq_true rfl) hR.1, Nat.le_trans (Nat.le_of_ble_eq_true rfl) hR.2⟩ hl (Nat.le_of_ble_eq_true rfl) dX6_south_38 ⟨Nat.zero_le _, Nat.zero_le _⟩ rfl) (fun H locs h hX => ?_)
    exact x_ri C hr hlk h hE (pf_1 (Option.some.inj hf)) (pf_2 (Option.some.inj hf)) dX6_south_41
theorem c_X6_south (fu : Nat) (l : Launch) (κ : Ka_) (G : va_G) (cy : Nat → ClassId) (ad : Nat → Nat) (sz : Nat) (σ : St_) (a0 : Nat) (x1 : Int32) (x2 : Int32) (hk_a0 : kd_ σ a0 = 6) {q : Int32 × St_} (hf : f_X6_south fu σ a0 x1 x2 = some q) : Met l yX6_south (Cond.code yX6_south cX6_south 4 (some .int) :: wU_) { frames := 1, cells := 0, slots := 0, locals := 29 } (va_Pc [.ref (ad a0), .int x1, .int x2] (Pr_ κ G cy ad σ sz)) (Qi_ G cy ad σ q.2 sz q.1) 0 0 (va_A (wl_ cy ad σ) sz) :=
  x_met (by decide) (fun p e R s m below meth c ls hR C hr hlk hin _ K h hl => w_X6_south fu C K hr hlk ⟨hR.1, hR.2.1⟩ σ a0 x1 x2 Ex_.rf hk_a0 hf s.heap [] ls h hl) (Nat.le_of_ble_eq_true rfl)
-- X6_goal
theorem mi_X6_goal : Mi_ yX6_goal cX6_goal 6 (some .int) 2 := ⟨co_yX6_goal, in_RX6, by decide, by decide, by decide +kernel⟩
def f_X6_goal (fu : Nat) (σ : St_) (a0 : Nat) (x1 : Int32) (x2 : Int32) : Option (Int32 × St_) := (f_X6_east fu σ a0 x1 x2).bind fun q3 => if (f_X8_isBelow ((x1 - x1 / (6 : Int32) * (6 : Int32)) + q3.1) (6 : Int32)) = 0 then some (x1, q3.2) else (f_X6_south fu q3.2 a0 x1 x2).bind fun q7 => if (f_X8_isBelow ((x1 / (6 : Int32)) + q7.1) (6 : Int32)) = 0 then some (x1, q7.2) else if (lg_cmp ((((sl_ q7.2 a0 3).toUInt64 >>> (((((x1 / (6 : Int32)) + q7.1) * (6 : Int32)) + ((x1 - x1 / (6 : Int32) * (6 : Int32)) + q3.1)).toInt64.toUInt64 &&& Int64.toUInt64 63)).toInt64) &&& (1 : Int64)) (1 : Int64)) = 0 then some (x1, q7.2) else some ((((x1 / (6 : Int32)) + q7.1) * (6 : Int32)) + ((x1 - x1 / (6 : Int32) * (6 : Int32)) + q3.1), q7.2)
set_option maxHeartbeats 4000000 in
set_option maxRecDepth 100000 in
theorem w_X6_goal {p : Program} {l : Launch} {e : Env} {R : Room} {s : State} {m : MethodId} {args : Array Value} {below : List Frame} {meth : Method} {c : Code} {κ : Ka_} {G : va_G} {cy : Nat → ClassId} {ad : Nat → Nat} {sz : Nat} {σ0 : St_} (fu : Nat) (C : CallFix p m c cX6_goal 6 s args wU_ RX6) (K : Kx_ κ G cy (va_A (wl_ cy ad σ0) sz) s) (hr : meth.sig.returnType = some .int) (hlk : meth.locks = false) (hR : 2 ≤ R.frames ∧ 52 ≤ R.locals) {q : Int32 × St_} : ∀ (σ : St_) (a0 : Nat) (x1 : Int32) (x2 : Int32), Ex_ σ0 σ → kd_ σ a0 = 6 → f_X6_goal fu σ a0 x1 x2 = some q → ∀ (H : Heap) (locs : List Loc) (ls : Array Slot), Ht_ G cy (va_A (wl_ cy ad σ0) sz) s ad σ H locs → lv_has ls 6 [(0, .ref (ad a0)), (1, .int x1), (2, .int x2)] → W p l e R s m args below meth c H locs 0 0 (MQ below (Qi_ G cy ad σ0 q.2 sz q.1) args s 0 0 (va_A (wl_ cy ad σ0) sz)) (F0 m 0 ls []) := by
  intro σ a0 x1 x2 hE hk_a0 hf H locs ls h hl
  have hf : ((f_X6_east fu σ a0 x1 x2).bind fun q3 => if (f_X8_isBelow ((x1 - x1 / (6 : Int32) * (6 : Int32)) + q3.1) (6 : Int32)) = 0 then some (x1, q3.2) else (f_X6_south fu q3.2 a0 x1 x2).bind fun q7 => if (f_X8_isBelow ((x1 / (6 : Int32)) + q7.1) (6 : Int32)) = 0 then some (x1, q7.2) else if (lg_cmp ((((sl_ q7.2 a0 3).toUInt64 >>> (((((x1 / (6 : Int32)) + q7.1) * (6 : Int32)) + ((x1 - x1 / (6 : Int32) * (6 : Int32)) + q3.1)).toInt64.toUInt64 &&& Int64.toUInt64 63)).toInt64) &&& (1 : Int64)) (1 : Int64)) = 0 then some (x1, q7.2) else some ((((x1 / (6 : Int32)) + q7.1) * (6 : Int32)) + ((x1 - x1 / (6 : Int32) * (6 : Int32)) + q3.1), q7.2)) = some q := hf
  refine lv_iload_n C.1 C.2.1 dX6_goal_0 rfl (lv_at hl 1 rfl) ?_
  refine lv_bipush (v := (6 : Int32)) C.1 C.2.1 dX6_goal_1 (by decide) ?_
  refine lv_irem C.1 C.2.1 dX6_goal_3 (by decide) ?_
  refine lv_aload_n C.1 C.2.1 dX6_goal_4 rfl (lv_at hl 0 rfl) ?_
  refine lv_iload_n C.1 C.2.1 dX6_goal_5 rfl (lv_at hl 1 rfl) ?_
  refine lv_iload_n C.1 C.2.1 dX6_goal_6 rfl (lv_at hl 2 rfl) ?_
  obtain ⟨q3, hq_q3, hf⟩ := ob_ hf
  refine x_ai K h (x_V C K h [.int x1, .int x2] (c_X6_east fu l κ G cy ad H.size σ a0 x1 x2 hk_a0 hq_q3) mi_X6_east rfl im_yX6_east se_yX6_east ml_RX6_41 cl_6 hk_a0 ⟨rfl, rfl, Nat.le_trans (Nat.le_of_ble_eq_true rfl) hR.1, Nat.le_trans (Nat.le_of_ble_eq_true rfl) hR.2⟩ hl (Nat.le_of_ble_eq_true rfl) dX6_goal_7 ⟨Nat.zero_le _, Nat.zero_le _⟩ rfl) (fun H locs h hX => ?_)
  have hE := hE.trans hX
  have hk_a0 := hX.k hk_a0 (by decide)
  refine lv_iadd C.1 C.2.1 dX6_goal_10 ?_
  refine lv_istore_n (i := 3) (lv' := [(3, .int ((x1 - x1 / (6 : Int32) * (6 : Int32)) + q3.1)), (0, .ref (ad a0)), (1, .int x1), (2, .int x2)]) C.1 C.2.1 dX6_goal_11 rfl hl (by decide) rfl (fun ls hl => ?_)
  refine lv_iload_n C.1 C.2.1 dX6_goal_12 rfl (lv_at hl 0 rfl) ?_
  refine lv_bipush (v := (6 : Int32)) C.1 C.2.1 dX6_goal_13 (by decide) ?_
  refine x_az K h (x_SN C K h [.int ((x1 - x1 / (6 : Int32) * (6 : Int32)) + q3.1), .int (6 : Int32)] (c_X8_isBelow l κ G cy ad H.size q3.2 ((x1 - x1 / (6 : Int32) * (6 : Int32)) + q3.1) (6 : Int32) rfl) mi_X8_isBelow rfl st_yX8_isBelow nm_RX6_45 ⟨rfl, rfl, Nat.le_trans (Nat.le_of_ble_eq_true rfl) hR.1, Nat.le_trans (Nat.le_of_ble_eq_true rfl) hR.2⟩ hl (Nat.le_of_ble_eq_true rfl) dX6_goal_15 ⟨Nat.zero_le _, Nat.zero_le _⟩ rfl) (fun H locs h hX hz5 => ?_)
  refine lv_if_ne (tgt := 23) C.1 C.2.1 dX6_goal_18 (by decide) (fun c6 => ?_) (fun c6 => ?_)
  · have hf := if_f hf c6
    refine lv_iload_n C.1 C.2.1 dX6_goal_23 rfl (lv_at hl 2 rfl) ?_
    refine lv_bipush (v := (6 : Int32)) C.1 C.2.1 dX6_goal_24 (by decide) ?_
    refine lv_idiv C.1 C.2.1 dX6_goal_26 (by decide) ?_
    refine lv_aload_n C.1 C.2.1 dX6_goal_27 rfl (lv_at hl 1 rfl) ?_
    refine lv_iload_n C.1 C.2.1 dX6_goal_28 rfl (lv_at hl 2 rfl) ?_
    refine lv_iload_n C.1 C.2.1 dX6_goal_29 rfl (lv_at hl 3 rfl) ?_
    obtain ⟨q7, hq_q7, hf⟩ := ob_ hf
    refine x_ai K h (x_V C K h [.int x1, .int x2] (c_X6_south fu l κ G cy ad H.size q3.2 a0 x1 x2 hk_a0 hq_q7) mi_X6_south rfl im_yX6_south se_yX6_south ml_RX6_49 cl_6 hk_a0 ⟨rfl, rfl, Nat.le_trans (Nat.le_of_ble_eq_true rfl) hR.1, Nat.le_trans (Nat.le_of_ble_eq_true rfl) hR.2⟩ hl (Nat.le_of_ble_eq_true rfl) dX6_goal_30 ⟨Nat.zero_le _, Nat.zero_le _⟩ rfl) (fun H locs h hX => ?_)
    have hE := hE.trans hX
    have hk_a0 := hX.k hk_a0 (by decide)
    refine lv_iadd C.1 C.2.1 dX6_goal_33 ?_
    refine lv_istore (i := 4) (lv' := [(4, .int ((x1 / (6 : Int32)) + q7.1)), (3, .int ((x1 - x1 / (6 : Int32) * (6 : Int32)) + q3.1)), (0, .ref (ad a0)), (1, .int x1), (2, .int x2)]) C.1 C.2.1 dX6_goal_34 hl (by decide) rfl (fun ls hl => ?_)
    refine lv_iload C.1 C.2.1 dX6_goal_36 (lv_at hl 0 rfl) ?_
    refine lv_bipush (v := (6 : Int32)) C.1 C.2.1 dX6_goal_38 (by decide) ?_
    refine x_az K h (x_SN C K h [.int ((x1 / (6 : Int32)) + q7.1), .int (6 : Int32)] (c_X8_isBelow l κ G cy ad H.size q7.2 ((x1 / (6 : Int32)) + q7.1) (6 : Int32) rfl) mi_X8_isBelow rfl st_yX8_isBelow nm_RX6_45 ⟨rfl, rfl, Nat.le_trans (Nat.le_of_ble_eq_true rfl) hR.1, Nat.le_trans (Nat.le_of_ble_eq_true rfl) hR.2⟩ hl (Nat.le_of_ble_eq_true rfl) dX6_goal_40 ⟨Nat.zero_le _, Nat.zero_le _⟩ rfl) (fun H locs h hX hz9 => ?_)
    refine lv_if_ne (tgt := 48) C.1 C.2.1 dX6_goal_43 (by decide) (fun c10 => ?_) (fun c10 => ?_)
    · have hf := if_f hf c10
      refine lv_iload C.1 C.2.1 dX6_goal_48 (lv_at hl 0 rfl) ?_
      refine lv_bipush (v := (6 : Int32)) C.1 C.2.1 dX6_goal_50 (by decide) ?_
      refine lv_imul C.1 C.2.1 dX6_goal_52 ?_
      refine lv_iload_n C.1 C.2.1 dX6_goal_53 rfl (lv_at hl 1 rfl) ?_
      refine lv_iadd C.1 C.2.1 dX6_goal_54 ?_
      refine lv_istore (i := 5) (lv' := [(5, .int ((((x1 / (6 : Int32)) + q7.1) * (6 : Int32)) + ((x1 - x1 / (6 : Int32) * (6 : Int32)) + q3.1))), (4, .int ((x1 / (6 : Int32)) + q7.1)), (3, .int ((x1 - x1 / (6 : Int32) * (6 : Int32)) + q3.1)), (0, .ref (ad a0)), (1, .int x1), (2, .int x2)]) C.1 C.2.1 dX6_goal_55 hl (by decide) rfl (fun ls hl => ?_)
      refine lv_aload_n C.1 C.2.1 dX6_goal_57 rfl (lv_at hl 3 rfl) ?_
      refine x_get (v := .long (sl_ q7.2 a0 3)) C K h cl_6 hk_a0 3 (by decide) fl_RX6_24 rfl dX6_goal_58 ?_
      refine lv_iload C.1 C.2.1 dX6_goal_61 (lv_at hl 0 rfl) ?_
      refine lv_lushr C.1 C.2.1 dX6_goal_63 rfl ?_
      refine lv_lconst (v := (1 : Int64)) C.1 C.2.1 dX6_goal_64 (by decide) ?_
      refine lv_land C.1 C.2.1 dX6_goal_65 ?_
      refine lv_lconst (v := (1 : Int64)) C.1 C.2.1 dX6_goal_66 (by decide) ?_
      refine W.lcmp C.1 C.2.1 dX6_goal_67 ?_
      refine lv_if_ne (tgt := 75) C.1 C.2.1 dX6_goal_68 (by decide) (fun c11 => ?_) (fun c11 => ?_)
      · have hf := if_f hf c11
        refine lv_iload C.1 C.2.1 dX6_goal_75 (lv_at hl 0 rfl) ?_
        exact x_ri C hr hlk h hE (pf_1 (Option.some.inj hf)) (pf_2 (Option.some.inj hf)) dX6_goal_77
      · have hf := if_t hf c11
        refine lv_iload_n C.1 C.2.1 dX6_goal_71 rfl (lv_at hl 4 rfl) ?_
        refine lv_goto (tgt := 77) C.1 C.2.1 dX6_goal_72 (by decide) ?_
        exact x_ri C hr hlk h hE (pf_1 (Option.some.inj hf)) (pf_2 (Option.some.inj hf)) dX6_goal_77
    · have hf := if_t hf c10
      refine lv_iload_n C.1 C.2.1 dX6_goal_46 rfl (lv_at hl 3 rfl) ?_
      exact x_ri C hr hlk h hE (pf_1 (Option.some.inj hf)) (pf_2 (Option.some.inj hf)) dX6_goal_47
  · have hf := if_t hf c6
    refine lv_iload_n C.1 C.2.1 dX6_goal_21 rfl (lv_at hl 2 rfl) ?_
    exact x_ri C hr hlk h hE (pf_1 (Option.some.inj hf)) (pf_2 (Option.some.inj hf)) dX6_goal_22
theorem c_X6_goal (fu : Nat) (l : Launch) (κ : Ka_) (G : va_G) (cy : Nat → ClassId) (ad : Nat → Nat) (sz : Nat) (σ : St_) (a0 : Nat) (x1 : Int32) (x2 : Int32) (hk_a0 : kd_ σ a0 = 6) {q : Int32 × St_} (hf : f_X6_goal fu σ a0 x1 x2 = some q) : Met l yX6_goal (Cond.code yX6_goal cX6_goal 6 (some .int) :: wU_) { frames := 2, cells := 0, slots := 0, locals := 52 } (va_Pc [.ref (ad a0), .int x1, .int x2] (Pr_ κ G cy ad σ sz)) (Qi_ G cy ad σ q.2 sz q.1) 0 0 (va_A (wl_ cy ad σ) sz) :=
  x_met (by decide) (fun p e R s m below meth c ls hR C hr hlk hin _ K h hl => w_X6_goal fu C K hr hlk ⟨hR.1, hR.2.1⟩ σ a0 x1 x2 Ex_.rf hk_a0 hf s.heap [] ls h hl) (Nat.le_of_ble_eq_true rfl)
-- X6_firstWord
theorem mi_X6_firstWord : Mi_ yX6_firstWord cX6_firstWord 4 (some .int) 2 := ⟨co_yX6_firstWord, in_RX6, by decide, by decide, by decide +kernel⟩
def f_X6_firstWord_2 (fu : Nat) : Nat → St_ → Nat → Int32 → Int32 → Int32 → Option (Int32 × St_)
  | 0 => fun _ _ _ _ _ => none
  | n + 1 => fun σ  v0  v1  v2  v3 => if (8 : Int32) ≤ v3 then some ((-1 : Int32), σ) else (f_X6_goal fu σ v0 v1 v3).bind fun q2 => if q2.1 = v2 then some (v3, q2.2) else (f_X6_firstWord_2 fu n) q2.2 v0 v1 v2 (v3 + (1 : Int32))
set_option maxHeartbeats 4000000 in
set_option maxRecDepth 100000 in
theorem w_X6_firstWord_2 {p : Program} {l : Launch} {e : Env} {R : Room} {s : State} {m : MethodId} {args : Array Value} {below : List Frame} {meth : Method} {c : Code} {κ : Ka_} {G : va_G} {cy : Nat → ClassId} {ad : Nat → Nat} {sz : Nat} {σ0 : St_} (fu : Nat) (C : CallFix p m c cX6_firstWord 4 s args wU_ RX6) (K : Kx_ κ G cy (va_A (wl_ cy ad σ0) sz) s) (hr : meth.sig.returnType = some .int) (hlk : meth.locks = false) (hR : 3 ≤ R.frames ∧ 77 ≤ R.locals) {q : Int32 × St_} : ∀ n : Nat, ∀ (σ : St_) (v0 : Nat) (v1 : Int32) (v2 : Int32) (v3 : Int32), Ex_ σ0 σ → kd_ σ v0 = 6 → f_X6_firstWord_2 fu n σ v0 v1 v2 v3 = some q → ∀ (H : Heap) (locs : List Loc) (ls : Array Slot), Ht_ G cy (va_A (wl_ cy ad σ0) sz) s ad σ H locs → lv_has ls 4 [(0, .ref (ad v0)), (1, .int v1), (2, .int v2), (3, .int v3)] → W p l e R s m args below meth c H locs 0 0 (MQ below (Qi_ G cy ad σ0 q.2 sz q.1) args s 0 0 (va_A (wl_ cy ad σ0) sz)) (F0 m 2 ls []) := by
  intro n
  induction n with
  | zero =>
    intro σ v0 v1 v2 v3 hE hk_v0 hf H locs ls h hl
    cases hf
  | succ n ih =>
    intro σ v0 v1 v2 v3 hE hk_v0 hf H locs ls h hl
    have hf : (if (8 : Int32) ≤ v3 then some ((-1 : Int32), σ) else (f_X6_goal fu σ v0 v1 v3).bind fun q2 => if q2.1 = v2 then some (v3, q2.2) else (f_X6_firstWord_2 fu n) q2.2 v0 v1 v2 (v3 + (1 : Int32))) = some q := hf
    refine lv_iload_n C.1 C.2.1 dX6_firstWord_2 rfl (lv_at hl 3 rfl) ?_
    refine lv_bipush (v := (8 : Int32)) C.1 C.2.1 dX6_firstWord_3 (by decide) ?_
    refine lv_icmp_ge (tgt := 26) C.1 C.2.1 dX6_firstWord_5 (by decide) (fun c1 => ?_) (fun c1 => ?_)
    · have hf := if_t hf c1
      refine lv_iconst (v := (-1 : Int32)) C.1 C.2.1 dX6_firstWord_26 (by decide) ?_
      exact x_ri C hr hlk h hE (pf_1 (Option.some.inj hf)) (pf_2 (Option.some.inj hf)) dX6_firstWord_27
    · have hf := if_f hf c1
      refine lv_aload_n C.1 C.2.1 dX6_firstWord_8 rfl (lv_at hl 0 rfl) ?_
      refine lv_iload_n C.1 C.2.1 dX6_firstWord_9 rfl (lv_at hl 1 rfl) ?_
      refine lv_iload_n C.1 C.2.1 dX6_firstWord_10 rfl (lv_at hl 3 rfl) ?_
      obtain ⟨q2, hq_q2, hf⟩ := ob_ hf
      refine x_ai K h (x_V C K h [.int v1, .int v3] (c_X6_goal fu l κ G cy ad H.size σ v0 v1 v3 hk_v0 hq_q2) mi_X6_goal rfl im_yX6_goal se_yX6_goal ml_RX6_52 cl_6 hk_v0 ⟨rfl, rfl, Nat.le_trans (Nat.le_of_ble_eq_true rfl) hR.1, Nat.le_trans (Nat.le_of_ble_eq_true rfl) hR.2⟩ hl (Nat.le_of_ble_eq_true rfl) dX6_firstWord_11 ⟨Nat.zero_le _, Nat.zero_le _⟩ rfl) (fun H locs h hX => ?_)
      have hE := hE.trans hX
      have hk_v0 := hX.k hk_v0 (by decide)
      refine lv_iload_n C.1 C.2.1 dX6_firstWord_14 rfl (lv_at hl 2 rfl) ?_
      refine lv_icmp_ne (tgt := 20) C.1 C.2.1 dX6_firstWord_15 (by decide) (fun c3 => ?_) (fun c3 => ?_)
      · have hf := if_f hf c3
        refine lv_iinc (v := v3 + (1 : Int32)) (lv' := [(3, .int (v3 + (1 : Int32))), (0, .ref (ad v0)), (1, .int v1), (2, .int v2)]) C.1 C.2.1 dX6_firstWord_20 hl (k := 3) rfl rfl (by decide) rfl (fun ls hl => ?_)
        refine lv_goto (tgt := 2) C.1 C.2.1 dX6_firstWord_23 (by decide) ?_
        exact ih q2.2 v0 v1 v2 (v3 + (1 : Int32)) hE hk_v0 hf _ _ _ h (lv_sub hl [1, 2, 3, 0] rfl)
      · have hf := if_t hf c3
        refine lv_iload_n C.1 C.2.1 dX6_firstWord_18 rfl (lv_at hl 3 rfl) ?_
        exact x_ri C hr hlk h hE (pf_1 (Option.some.inj hf)) (pf_2 (Option.some.inj hf)) dX6_firstWord_19
def f_X6_firstWord (fu : Nat) (σ : St_) (a0 : Nat) (x1 : Int32) (x2 : Int32) : Option (Int32 × St_) := f_X6_firstWord_2 fu fu σ a0 x1 x2 (0 : Int32)
set_option maxHeartbeats 4000000 in
set_option maxRecDepth 100000 in
theorem w_X6_firstWord {p : Program} {l : Launch} {e : Env} {R : Room} {s : State} {m : MethodId} {args : Array Value} {below : List Frame} {meth : Method} {c : Code} {κ : Ka_} {G : va_G} {cy : Nat → ClassId} {ad : Nat → Nat} {sz : Nat} {σ0 : St_} (fu : Nat) (C : CallFix p m c cX6_firstWord 4 s args wU_ RX6) (K : Kx_ κ G cy (va_A (wl_ cy ad σ0) sz) s) (hr : meth.sig.returnType = some .int) (hlk : meth.locks = false) (hR : 3 ≤ R.frames ∧ 77 ≤ R.locals) {q : Int32 × St_} : ∀ (σ : St_) (a0 : Nat) (x1 : Int32) (x2 : Int32), Ex_ σ0 σ → kd_ σ a0 = 6 → f_X6_firstWord fu σ a0 x1 x2 = some q → ∀ (H : Heap) (locs : List Loc) (ls : Array Slot), Ht_ G cy (va_A (wl_ cy ad σ0) sz) s ad σ H locs → lv_has ls 4 [(0, .ref (ad a0)), (1, .int x1), (2, .int x2)] → W p l e R s m args below meth c H locs 0 0 (MQ below (Qi_ G cy ad σ0 q.2 sz q.1) args s 0 0 (va_A (wl_ cy ad σ0) sz)) (F0 m 0 ls []) := by
  intro σ a0 x1 x2 hE hk_a0 hf H locs ls h hl
  have hf : (f_X6_firstWord_2 fu fu σ a0 x1 x2 (0 : Int32)) = some q := hf
  refine lv_iconst (v := (0 : Int32)) C.1 C.2.1 dX6_firstWord_0 (by decide) ?_
  refine lv_istore_n (i := 3) (lv' := [(3, .int (0 : Int32)), (0, .ref (ad a0)), (1, .int x1), (2, .int x2)]) C.1 C.2.1 dX6_firstWord_1 rfl hl (by decide) rfl (fun ls hl => ?_)
  exact w_X6_firstWord_2 fu C K hr hlk hR fu σ a0 x1 x2 (0 : Int32) hE hk_a0 hf _ _ _ h (lv_sub hl [1, 2, 3, 0] rfl)
theorem c_X6_firstWord (fu : Nat) (l : Launch) (κ : Ka_) (G : va_G) (cy : Nat → ClassId) (ad : Nat → Nat) (sz : Nat) (σ : St_) (a0 : Nat) (x1 : Int32) (x2 : Int32) (hk_a0 : kd_ σ a0 = 6) {q : Int32 × St_} (hf : f_X6_firstWord fu σ a0 x1 x2 = some q) : Met l yX6_firstWord (Cond.code yX6_firstWord cX6_firstWord 4 (some .int) :: wU_) { frames := 3, cells := 0, slots := 0, locals := 77 } (va_Pc [.ref (ad a0), .int x1, .int x2] (Pr_ κ G cy ad σ sz)) (Qi_ G cy ad σ q.2 sz q.1) 0 0 (va_A (wl_ cy ad σ) sz) :=
  x_met (by decide) (fun p e R s m below meth c ls hR C hr hlk hin _ K h hl => w_X6_firstWord fu C K hr hlk ⟨hR.1, hR.2.1⟩ σ a0 x1 x2 Ex_.rf hk_a0 hf s.heap [] ls h hl) (Nat.le_of_ble_eq_true rfl)
-- X6_wordCount
theorem mi_X6_wordCount : Mi_ yX6_wordCount cX6_wordCount 5 (some .int) 2 := ⟨co_yX6_wordCount, in_RX6, by decide, by decide, by decide +kernel⟩
def f_X6_wordCount_5 (fu : Nat) : Nat → St_ → Nat → Int32 → Int32 → Int32 → Int32 → Option (Int32 × St_)
  | 0 => fun _ _ _ _ _ _ => none
  | n + 1 => fun σ  v0  v1  v2  v3  v4 => if (8 : Int32) ≤ v4 then some (v3, σ) else (f_X6_goal fu σ v0 v1 v4).bind fun q2 => if q2.1 = v2 then (f_X6_wordCount_5 fu n) q2.2 v0 v1 v2 (v3 + (1 : Int32)) (v4 + (1 : Int32)) else (f_X6_wordCount_5 fu n) q2.2 v0 v1 v2 (v3 + (0 : Int32)) (v4 + (1 : Int32))
set_option maxHeartbeats 4000000 in
set_option maxRecDepth 100000 in
theorem w_X6_wordCount_5 {p : Program} {l : Launch} {e : Env} {R : Room} {s : State} {m : MethodId} {args : Array Value} {below : List Frame} {meth : Method} {c : Code} {κ : Ka_} {G : va_G} {cy : Nat → ClassId} {ad : Nat → Nat} {sz : Nat} {σ0 : St_} (fu : Nat) (C : CallFix p m c cX6_wordCount 5 s args wU_ RX6) (K : Kx_ κ G cy (va_A (wl_ cy ad σ0) sz) s) (hr : meth.sig.returnType = some .int) (hlk : meth.locks = false) (hR : 3 ≤ R.frames ∧ 77 ≤ R.locals) {q : Int32 × St_} : ∀ n : Nat, ∀ (σ : St_) (v0 : Nat) (v1 : Int32) (v2 : Int32) (v3 : Int32) (v4 : Int32), Ex_ σ0 σ → kd_ σ v0 = 6 → f_X6_wordCount_5 fu n σ v0 v1 v2 v3 v4 = some q → ∀ (H : Heap) (locs : List Loc) (ls : Array Slot), Ht_ G cy (va_A (wl_ cy ad σ0) sz) s ad σ H locs → lv_has ls 5 [(0, .ref (ad v0)), (1, .int v1), (2, .int v2), (3, .int v3), (4, .int v4)] → W p l e R s m args below meth c H locs 0 0 (MQ below (Qi_ G cy ad σ0 q.2 sz q.1) args s 0 0 (va_A (wl_ cy ad σ0) sz)) (F0 m 5 ls []) := by
  intro n
  induction n with
  | zero =>
    intro σ v0 v1 v2 v3 v4 hE hk_v0 hf H locs ls h hl
    cases hf
  | succ n ih =>
    intro σ v0 v1 v2 v3 v4 hE hk_v0 hf H locs ls h hl
    have hf : (if (8 : Int32) ≤ v4 then some (v3, σ) else (f_X6_goal fu σ v0 v1 v4).bind fun q2 => if q2.1 = v2 then (f_X6_wordCount_5 fu n) q2.2 v0 v1 v2 (v3 + (1 : Int32)) (v4 + (1 : Int32)) else (f_X6_wordCount_5 fu n) q2.2 v0 v1 v2 (v3 + (0 : Int32)) (v4 + (1 : Int32))) = some q := hf
    refine lv_iload C.1 C.2.1 dX6_wordCount_5 (lv_at hl 4 rfl) ?_
    refine lv_bipush (v := (8 : Int32)) C.1 C.2.1 dX6_wordCount_7 (by decide) ?_
    refine lv_icmp_ge (tgt := 37) C.1 C.2.1 dX6_wordCount_9 (by decide) (fun c1 => ?_) (fun c1 => ?_)
    · have hf := if_t hf c1
      refine lv_iload_n C.1 C.2.1 dX6_wordCount_37 rfl (lv_at hl 3 rfl) ?_
      exact x_ri C hr hlk h hE (pf_1 (Option.some.inj hf)) (pf_2 (Option.some.inj hf)) dX6_wordCount_38
    · have hf := if_f hf c1
      refine lv_iload_n C.1 C.2.1 dX6_wordCount_12 rfl (lv_at hl 3 rfl) ?_
      refine lv_aload_n C.1 C.2.1 dX6_wordCount_13 rfl (lv_at hl 0 rfl) ?_
      refine lv_iload_n C.1 C.2.1 dX6_wordCount_14 rfl (lv_at hl 1 rfl) ?_
      refine lv_iload C.1 C.2.1 dX6_wordCount_15 (lv_at hl 4 rfl) ?_
      obtain ⟨q2, hq_q2, hf⟩ := ob_ hf
      refine x_ai K h (x_V C K h [.int v1, .int v4] (c_X6_goal fu l κ G cy ad H.size σ v0 v1 v4 hk_v0 hq_q2) mi_X6_goal rfl im_yX6_goal se_yX6_goal ml_RX6_52 cl_6 hk_v0 ⟨rfl, rfl, Nat.le_trans (Nat.le_of_ble_eq_true rfl) hR.1, Nat.le_trans (Nat.le_of_ble_eq_true rfl) hR.2⟩ hl (Nat.le_of_ble_eq_true rfl) dX6_wordCount_17 ⟨Nat.zero_le _, Nat.zero_le _⟩ rfl) (fun H locs h hX => ?_)
      have hE := hE.trans hX
      have hk_v0 := hX.k hk_v0 (by decide)
      refine lv_iload_n C.1 C.2.1 dX6_wordCount_20 rfl (lv_at hl 2 rfl) ?_
      refine lv_icmp_ne (tgt := 28) C.1 C.2.1 dX6_wordCount_21 (by decide) (fun c3 => ?_) (fun c3 => ?_)
      · have hf := if_f hf c3
        refine lv_iconst (v := (0 : Int32)) C.1 C.2.1 dX6_wordCount_28 (by decide) ?_
        refine lv_iadd C.1 C.2.1 dX6_wordCount_29 ?_
        refine lv_istore_n (i := 3) (lv' := [(3, .int (v3 + (0 : Int32))), (0, .ref (ad v0)), (1, .int v1), (2, .int v2), (4, .int v4)]) C.1 C.2.1 dX6_wordCount_30 rfl hl (by decide) rfl (fun ls hl => ?_)
        refine lv_iinc (v := v4 + (1 : Int32)) (lv' := [(4, .int (v4 + (1 : Int32))), (3, .int (v3 + (0 : Int32))), (0, .ref (ad v0)), (1, .int v1), (2, .int v2)]) C.1 C.2.1 dX6_wordCount_31 hl (k := 4) rfl rfl (by decide) rfl (fun ls hl => ?_)
        refine lv_goto (tgt := 5) C.1 C.2.1 dX6_wordCount_34 (by decide) ?_
        exact ih q2.2 v0 v1 v2 (v3 + (0 : Int32)) (v4 + (1 : Int32)) hE hk_v0 hf _ _ _ h (lv_sub hl [2, 3, 4, 1, 0] rfl)
      · have hf := if_t hf c3
        refine lv_iconst (v := (1 : Int32)) C.1 C.2.1 dX6_wordCount_24 (by decide) ?_
        refine lv_goto (tgt := 29) C.1 C.2.1 dX6_wordCount_25 (by decide) ?_
        refine lv_iadd C.1 C.2.1 dX6_wordCount_29 ?_
        refine lv_istore_n (i := 3) (lv' := [(3, .int (v3 + (1 : Int32))), (0, .ref (ad v0)), (1, .int v1), (2, .int v2), (4, .int v4)]) C.1 C.2.1 dX6_wordCount_30 rfl hl (by decide) rfl (fun ls hl => ?_)
        refine lv_iinc (v := v4 + (1 : Int32)) (lv' := [(4, .int (v4 + (1 : Int32))), (3, .int (v3 + (1 : Int32))), (0, .ref (ad v0)), (1, .int v1), (2, .int v2)]) C.1 C.2.1 dX6_wordCount_31 hl (k := 4) rfl rfl (by decide) rfl (fun ls hl => ?_)
        refine lv_goto (tgt := 5) C.1 C.2.1 dX6_wordCount_34 (by decide) ?_
        exact ih q2.2 v0 v1 v2 (v3 + (1 : Int32)) (v4 + (1 : Int32)) hE hk_v0 hf _ _ _ h (lv_sub hl [2, 3, 4, 1, 0] rfl)
def f_X6_wordCount (fu : Nat) (σ : St_) (a0 : Nat) (x1 : Int32) (x2 : Int32) : Option (Int32 × St_) := f_X6_wordCount_5 fu fu σ a0 x1 x2 (0 : Int32) (0 : Int32)
set_option maxHeartbeats 4000000 in
set_option maxRecDepth 100000 in
theorem w_X6_wordCount {p : Program} {l : Launch} {e : Env} {R : Room} {s : State} {m : MethodId} {args : Array Value} {below : List Frame} {meth : Method} {c : Code} {κ : Ka_} {G : va_G} {cy : Nat → ClassId} {ad : Nat → Nat} {sz : Nat} {σ0 : St_} (fu : Nat) (C : CallFix p m c cX6_wordCount 5 s args wU_ RX6) (K : Kx_ κ G cy (va_A (wl_ cy ad σ0) sz) s) (hr : meth.sig.returnType = some .int) (hlk : meth.locks = false) (hR : 3 ≤ R.frames ∧ 77 ≤ R.locals) {q : Int32 × St_} : ∀ (σ : St_) (a0 : Nat) (x1 : Int32) (x2 : Int32), Ex_ σ0 σ → kd_ σ a0 = 6 → f_X6_wordCount fu σ a0 x1 x2 = some q → ∀ (H : Heap) (locs : List Loc) (ls : Array Slot), Ht_ G cy (va_A (wl_ cy ad σ0) sz) s ad σ H locs → lv_has ls 5 [(0, .ref (ad a0)), (1, .int x1), (2, .int x2)] → W p l e R s m args below meth c H locs 0 0 (MQ below (Qi_ G cy ad σ0 q.2 sz q.1) args s 0 0 (va_A (wl_ cy ad σ0) sz)) (F0 m 0 ls []) := by
  intro σ a0 x1 x2 hE hk_a0 hf H locs ls h hl
  have hf : (f_X6_wordCount_5 fu fu σ a0 x1 x2 (0 : Int32) (0 : Int32)) = some q := hf
  refine lv_iconst (v := (0 : Int32)) C.1 C.2.1 dX6_wordCount_0 (by decide) ?_
  refine lv_istore_n (i := 3) (lv' := [(3, .int (0 : Int32)), (0, .ref (ad a0)), (1, .int x1), (2, .int x2)]) C.1 C.2.1 dX6_wordCount_1 rfl hl (by decide) rfl (fun ls hl => ?_)
  refine lv_iconst (v := (0 : Int32)) C.1 C.2.1 dX6_wordCount_2 (by decide) ?_
  refine lv_istore (i := 4) (lv' := [(4, .int (0 : Int32)), (3, .int (0 : Int32)), (0, .ref (ad a0)), (1, .int x1), (2, .int x2)]) C.1 C.2.1 dX6_wordCount_3 hl (by decide) rfl (fun ls hl => ?_)
  exact w_X6_wordCount_5 fu C K hr hlk hR fu σ a0 x1 x2 (0 : Int32) (0 : Int32) hE hk_a0 hf _ _ _ h (lv_sub hl [2, 3, 4, 1, 0] rfl)
theorem c_X6_wordCount (fu : Nat) (l : Launch) (κ : Ka_) (G : va_G) (cy : Nat → ClassId) (ad : Nat → Nat) (sz : Nat) (σ : St_) (a0 : Nat) (x1 : Int32) (x2 : Int32) (hk_a0 : kd_ σ a0 = 6) {q : Int32 × St_} (hf : f_X6_wordCount fu σ a0 x1 x2 = some q) : Met l yX6_wordCount (Cond.code yX6_wordCount cX6_wordCount 5 (some .int) :: wU_) { frames := 3, cells := 0, slots := 0, locals := 77 } (va_Pc [.ref (ad a0), .int x1, .int x2] (Pr_ κ G cy ad σ sz)) (Qi_ G cy ad σ q.2 sz q.1) 0 0 (va_A (wl_ cy ad σ) sz) :=
  x_met (by decide) (fun p e R s m below meth c ls hR C hr hlk hin _ K h hl => w_X6_wordCount fu C K hr hlk ⟨hR.1, hR.2.1⟩ σ a0 x1 x2 Ex_.rf hk_a0 hf s.heap [] ls h hl) (Nat.le_of_ble_eq_true rfl)
-- X6_heightOfKind
theorem mi_X6_heightOfKind : Mi_ yX6_heightOfKind cX6_heightOfKind 3 (some .int) 2 := ⟨co_yX6_heightOfKind, in_RX6, by decide, by decide, by decide +kernel⟩
def f_X6_heightOfKind (σ : St_) (a0 : Nat) (x1 : Int32) (x2 : Int32) : Int32 := if (si_ σ a0 2) = (1 : Int32) then (x1 + x2) + (2 : Int32) else if (si_ σ a0 2) = (2 : Int32) then x1 else if (si_ σ a0 2) = (3 : Int32) then (2 : Int32) * ((x1 + x2) + (2 : Int32)) else if (si_ σ a0 2) = (4 : Int32) then (0 : Int32) else x1 + x2
set_option maxHeartbeats 4000000 in
set_option maxRecDepth 100000 in
theorem w_X6_heightOfKind {p : Program} {l : Launch} {e : Env} {R : Room} {s : State} {m : MethodId} {args : Array Value} {below : List Frame} {meth : Method} {c : Code} {κ : Ka_} {G : va_G} {cy : Nat → ClassId} {ad : Nat → Nat} {sz : Nat} {σ : St_} (C : CallFix p m c cX6_heightOfKind 3 s args wU_ RX6) (K : Kx_ κ G cy (va_A (wl_ cy ad σ) sz) s) (hr : meth.sig.returnType = some .int) (hlk : meth.locks = false) (hR : 0 ≤ R.frames ∧ 0 ≤ R.locals) {q : Int32} : ∀ (a0 : Nat) (x1 : Int32) (x2 : Int32), kd_ σ a0 = 6 → f_X6_heightOfKind σ a0 x1 x2 = q → ∀ (H : Heap) (locs : List Loc) (ls : Array Slot), Ht_ G cy (va_A (wl_ cy ad σ) sz) s ad σ H locs → lv_has ls 3 [(0, .ref (ad a0)), (1, .int x1), (2, .int x2)] → W p l e R s m args below meth c H locs 0 0 (MQ below (Qi_ G cy ad σ σ sz q) args s 0 0 (va_A (wl_ cy ad σ) sz)) (F0 m 0 ls []) := by
  intro a0 x1 x2 hk_a0 hf H locs ls h hl
  have hf : (if (si_ σ a0 2) = (1 : Int32) then (x1 + x2) + (2 : Int32) else if (si_ σ a0 2) = (2 : Int32) then x1 else if (si_ σ a0 2) = (3 : Int32) then (2 : Int32) * ((x1 + x2) + (2 : Int32)) else if (si_ σ a0 2) = (4 : Int32) then (0 : Int32) else x1 + x2) = q := hf
  refine lv_aload_n C.1 C.2.1 dX6_heightOfKind_0 rfl (lv_at hl 0 rfl) ?_
  refine x_get (v := .int (si_ σ a0 2)) C K h cl_6 hk_a0 2 (by decide) fl_RX6_20 rfl dX6_heightOfKind_1 ?_
  by_cases c3 : (si_ σ a0 2) = (1 : Int32)
  · have hf := if_t hf c3
    refine lv_tableIn (off := 32) (tgt := 36) C.1 C.2.1 dX6_heightOfKind_4 (by rw [c3]; decide) (by rw [c3]; decide) (by rw [c3]; rfl) (by decide) ?_
    refine lv_iload_n C.1 C.2.1 dX6_heightOfKind_36 rfl (lv_at hl 1 rfl) ?_
    refine lv_iload_n C.1 C.2.1 dX6_heightOfKind_37 rfl (lv_at hl 2 rfl) ?_
    refine lv_iadd C.1 C.2.1 dX6_heightOfKind_38 ?_
    refine lv_iconst (v := (2 : Int32)) C.1 C.2.1 dX6_heightOfKind_39 (by decide) ?_
    refine lv_iadd C.1 C.2.1 dX6_heightOfKind_40 ?_
    exact x_ri C hr hlk h Ex_.rf hf rfl dX6_heightOfKind_41
  · have hf := if_f hf c3
    by_cases c4 : (si_ σ a0 2) = (2 : Int32)
    · have hf := if_t hf c4
      refine lv_tableIn (off := 38) (tgt := 42) C.1 C.2.1 dX6_heightOfKind_4 (by rw [c4]; decide) (by rw [c4]; decide) (by rw [c4]; rfl) (by decide) ?_
      refine lv_iload_n C.1 C.2.1 dX6_heightOfKind_42 rfl (lv_at hl 1 rfl) ?_
      exact x_ri C hr hlk h Ex_.rf hf rfl dX6_heightOfKind_43
    · have hf := if_f hf c4
      by_cases c5 : (si_ σ a0 2) = (3 : Int32)
      · have hf := if_t hf c5
        refine lv_tableIn (off := 40) (tgt := 44) C.1 C.2.1 dX6_heightOfKind_4 (by rw [c5]; decide) (by rw [c5]; decide) (by rw [c5]; rfl) (by decide) ?_
        refine lv_iconst (v := (2 : Int32)) C.1 C.2.1 dX6_heightOfKind_44 (by decide) ?_
        refine lv_iload_n C.1 C.2.1 dX6_heightOfKind_45 rfl (lv_at hl 1 rfl) ?_
        refine lv_iload_n C.1 C.2.1 dX6_heightOfKind_46 rfl (lv_at hl 2 rfl) ?_
        refine lv_iadd C.1 C.2.1 dX6_heightOfKind_47 ?_
        refine lv_iconst (v := (2 : Int32)) C.1 C.2.1 dX6_heightOfKind_48 (by decide) ?_
        refine lv_iadd C.1 C.2.1 dX6_heightOfKind_49 ?_
        refine lv_imul C.1 C.2.1 dX6_heightOfKind_50 ?_
        exact x_ri C hr hlk h Ex_.rf hf rfl dX6_heightOfKind_51
      · have hf := if_f hf c5
        by_cases c6 : (si_ σ a0 2) = (4 : Int32)
        · have hf := if_t hf c6
          refine lv_tableIn (off := 48) (tgt := 52) C.1 C.2.1 dX6_heightOfKind_4 (by rw [c6]; decide) (by rw [c6]; decide) (by rw [c6]; rfl) (by decide) ?_
          refine lv_iconst (v := (0 : Int32)) C.1 C.2.1 dX6_heightOfKind_52 (by decide) ?_
          exact x_ri C hr hlk h Ex_.rf hf rfl dX6_heightOfKind_53
        · have hf := if_f hf c6
          refine lv_tableOut (tgt := 54) C.1 C.2.1 dX6_heightOfKind_4 (by have e0 := ne_i c3 (z := 1) (by decide); have e1 := ne_i c4 (z := 2) (by decide); have e2 := ne_i c5 (z := 3) (by decide); have e3 := ne_i c6 (z := 4) (by decide); omega) (by decide) ?_
          refine lv_iload_n C.1 C.2.1 dX6_heightOfKind_54 rfl (lv_at hl 1 rfl) ?_
          refine lv_iload_n C.1 C.2.1 dX6_heightOfKind_55 rfl (lv_at hl 2 rfl) ?_
          refine lv_iadd C.1 C.2.1 dX6_heightOfKind_56 ?_
          exact x_ri C hr hlk h Ex_.rf hf rfl dX6_heightOfKind_57
theorem c_X6_heightOfKind (l : Launch) (κ : Ka_) (G : va_G) (cy : Nat → ClassId) (ad : Nat → Nat) (sz : Nat) (σ : St_) (a0 : Nat) (x1 : Int32) (x2 : Int32) (hk_a0 : kd_ σ a0 = 6) {q : Int32} (hf : f_X6_heightOfKind σ a0 x1 x2 = q) : Met l yX6_heightOfKind (Cond.code yX6_heightOfKind cX6_heightOfKind 3 (some .int) :: wU_) { frames := 0, cells := 0, slots := 0, locals := 0 } (va_Pc [.ref (ad a0), .int x1, .int x2] (Pr_ κ G cy ad σ sz)) (Qi_ G cy ad σ σ sz q) 0 0 (va_A (wl_ cy ad σ) sz) :=
  x_met (by decide) (fun p e R s m below meth c ls hR C hr hlk hin _ K h hl => w_X6_heightOfKind C K hr hlk ⟨hR.1, hR.2.1⟩ a0 x1 x2 hk_a0 hf s.heap [] ls h hl) (Nat.le_of_ble_eq_true rfl)
-- X6_height
theorem mi_X6_height : Mi_ yX6_height cX6_height 4 (some .int) 2 := ⟨co_yX6_height, in_RX6, by decide, by decide, by decide +kernel⟩
def f_X6_height (fu : Nat) (σ : St_) (a0 : Nat) (x1 : Int32) (x2 : Int32) : Option (Int32 × St_) := oc_ (sr_ σ a0 4) (some ((0 : Int32), σ)) (fun b4 => if kd_ σ b4 = 5 then (dr_ σ 10 (sr_ σ b4 2)).bind fun b5 => (f_X6_valueOf fu σ a0 b5 x1 (0 : Int32)).bind fun q6 => some (f_X8_bounded (f_X6_heightOfKind q6.2 a0 (f_X8_bounded q6.1 (0 : Int32) (99 : Int32)) x2) (0 : Int32) (99 : Int32), q6.2) else none)
set_option maxHeartbeats 4000000 in
set_option maxRecDepth 100000 in
theorem w_X6_height {p : Program} {l : Launch} {e : Env} {R : Room} {s : State} {m : MethodId} {args : Array Value} {below : List Frame} {meth : Method} {c : Code} {κ : Ka_} {G : va_G} {cy : Nat → ClassId} {ad : Nat → Nat} {sz : Nat} {σ0 : St_} (fu : Nat) (C : CallFix p m c cX6_height 4 s args wU_ RX6) (K : Kx_ κ G cy (va_A (wl_ cy ad σ0) sz) s) (hr : meth.sig.returnType = some .int) (hlk : meth.locks = false) (hR : 1 ≤ R.frames ∧ 29 ≤ R.locals) {q : Int32 × St_} : ∀ (σ : St_) (a0 : Nat) (x1 : Int32) (x2 : Int32), Ex_ σ0 σ → kd_ σ a0 = 6 → f_X6_height fu σ a0 x1 x2 = some q → ∀ (H : Heap) (locs : List Loc) (ls : Array Slot), Ht_ G cy (va_A (wl_ cy ad σ0) sz) s ad σ H locs → lv_has ls 4 [(0, .ref (ad a0)), (1, .int x1), (2, .int x2)] → W p l e R s m args below meth c H locs 0 0 (MQ below (Qi_ G cy ad σ0 q.2 sz q.1) args s 0 0 (va_A (wl_ cy ad σ0) sz)) (F0 m 0 ls []) := by
  intro σ a0 x1 x2 hE hk_a0 hf H locs ls h hl
  have hf : (oc_ (sr_ σ a0 4) (some ((0 : Int32), σ)) (fun b4 => if kd_ σ b4 = 5 then (dr_ σ 10 (sr_ σ b4 2)).bind fun b5 => (f_X6_valueOf fu σ a0 b5 x1 (0 : Int32)).bind fun q6 => some (f_X8_bounded (f_X6_heightOfKind q6.2 a0 (f_X8_bounded q6.1 (0 : Int32) (99 : Int32)) x2) (0 : Int32) (99 : Int32), q6.2) else none)) = some q := hf
  refine lv_aload_n C.1 C.2.1 dX6_height_0 rfl (lv_at hl 0 rfl) ?_
  obtain ⟨o3, ho3⟩ : ∃ z, z = sr_ σ a0 4 := ⟨_, rfl⟩
  rw [← ho3] at hf
  refine x_get (v := rv_ ad o3) C K h cl_6 hk_a0 4 (by decide) fl_RX6_28 (by rw [ho3]; rfl) dX6_height_1 ?_
  cases o3 with
  | none =>
    have hf := oc_n hf
    refine lv_ifnonnullN C.1 C.2.1 dX6_height_4 ?_
    refine lv_iconst (v := (0 : Int32)) C.1 C.2.1 dX6_height_7 (by decide) ?_
    exact x_ri C hr hlk h hE (pf_1 (Option.some.inj hf)) (pf_2 (Option.some.inj hf)) dX6_height_8
  | some b4 =>
    obtain ⟨hk_b4, hf⟩ := gd_ (oc_s hf)
    refine lv_ifnonnull (tgt := 9) C.1 C.2.1 dX6_height_4 (by decide) ?_
    refine lv_aload_n C.1 C.2.1 dX6_height_9 rfl (lv_at hl 0 rfl) ?_
    refine lv_aload_n C.1 C.2.1 dX6_height_10 rfl (lv_at hl 0 rfl) ?_
    refine x_get (v := .ref (ad b4)) C K h cl_6 hk_a0 4 (by decide) fl_RX6_28 (hv_q (o := sr_ σ a0 4) rfl ho3) dX6_height_11 ?_
    obtain ⟨b5, hb_b5, hf⟩ := ob_ hf
    obtain ⟨hq_b5, hk_b5⟩ := dr_in hb_b5
    refine x_getN (v := .ref (ad b5)) C K h cl_5 hk_b4 2 (by decide) nf_RX6_75 (hv_r (o := sr_ σ b4 2) rfl hq_b5) dX6_height_14 ?_
    refine lv_iload_n C.1 C.2.1 dX6_height_17 rfl (lv_at hl 1 rfl) ?_
    refine lv_iconst (v := (0 : Int32)) C.1 C.2.1 dX6_height_18 (by decide) ?_
    obtain ⟨q6, hq_q6, hf⟩ := ob_ hf
    refine x_ai K h (x_V C K h [.ref (ad b5), .int x1, .int (0 : Int32)] (c_X6_valueOf fu l κ G cy ad H.size σ a0 b5 x1 (0 : Int32) hk_a0 hk_b5 hq_q6) mi_X6_valueOf rfl im_yX6_valueOf se_yX6_valueOf ml_RX6_58 cl_6 hk_a0 ⟨rfl, rfl, Nat.le_trans (Nat.le_of_ble_eq_true rfl) hR.1, Nat.le_trans (Nat.le_of_ble_eq_true rfl) hR.2⟩ hl (Nat.le_of_ble_eq_true rfl) dX6_height_19 ⟨Nat.zero_le _, Nat.zero_le _⟩ rfl) (fun H locs h hX => ?_)
    have hE := hE.trans hX
    have hk_a0 := hX.k hk_a0 (by decide)
    refine lv_iconst (v := (0 : Int32)) C.1 C.2.1 dX6_height_22 (by decide) ?_
    refine lv_bipush (v := (99 : Int32)) C.1 C.2.1 dX6_height_23 (by decide) ?_
    refine x_ai K h (x_SN C K h [.int q6.1, .int (0 : Int32), .int (99 : Int32)] (c_X8_bounded l κ G cy ad H.size q6.2 q6.1 (0 : Int32) (99 : Int32) rfl) mi_X8_bounded rfl st_yX8_bounded nm_RX6_62 ⟨rfl, rfl, Nat.le_trans (Nat.le_of_ble_eq_true rfl) hR.1, Nat.le_trans (Nat.le_of_ble_eq_true rfl) hR.2⟩ hl (Nat.le_of_ble_eq_true rfl) dX6_height_25 ⟨Nat.zero_le _, Nat.zero_le _⟩ rfl) (fun H locs h hX => ?_)
    refine lv_istore_n (i := 3) (lv' := [(3, .int (f_X8_bounded q6.1 (0 : Int32) (99 : Int32))), (0, .ref (ad a0)), (1, .int x1), (2, .int x2)]) C.1 C.2.1 dX6_height_28 rfl hl (by decide) rfl (fun ls hl => ?_)
    refine lv_aload_n C.1 C.2.1 dX6_height_29 rfl (lv_at hl 1 rfl) ?_
    refine lv_iload_n C.1 C.2.1 dX6_height_30 rfl (lv_at hl 0 rfl) ?_
    refine lv_iload_n C.1 C.2.1 dX6_height_31 rfl (lv_at hl 3 rfl) ?_
    refine x_ai K h (x_V C K h [.int (f_X8_bounded q6.1 (0 : Int32) (99 : Int32)), .int x2] (c_X6_heightOfKind l κ G cy ad H.size q6.2 a0 (f_X8_bounded q6.1 (0 : Int32) (99 : Int32)) x2 hk_a0 rfl) mi_X6_heightOfKind rfl im_yX6_heightOfKind se_yX6_heightOfKind ml_RX6_78 cl_6 hk_a0 ⟨rfl, rfl, Nat.le_trans (Nat.le_of_ble_eq_true rfl) hR.1, Nat.le_trans (Nat.le_of_ble_eq_true rfl) hR.2⟩ hl (Nat.le_of_ble_eq_true rfl) dX6_height_32 ⟨Nat.zero_le _, Nat.zero_le _⟩ rfl) (fun H locs h hX => ?_)
    refine lv_iconst (v := (0 : Int32)) C.1 C.2.1 dX6_height_35 (by decide) ?_
    refine lv_bipush (v := (99 : Int32)) C.1 C.2.1 dX6_height_36 (by decide) ?_
    refine x_ai K h (x_SN C K h [.int (f_X6_heightOfKind q6.2 a0 (f_X8_bounded q6.1 (0 : Int32) (99 : Int32)) x2), .int (0 : Int32), .int (99 : Int32)] (c_X8_bounded l κ G cy ad H.size q6.2 (f_X6_heightOfKind q6.2 a0 (f_X8_bounded q6.1 (0 : Int32) (99 : Int32)) x2) (0 : Int32) (99 : Int32) rfl) mi_X8_bounded rfl st_yX8_bounded nm_RX6_62 ⟨rfl, rfl, Nat.le_trans (Nat.le_of_ble_eq_true rfl) hR.1, Nat.le_trans (Nat.le_of_ble_eq_true rfl) hR.2⟩ hl (Nat.le_of_ble_eq_true rfl) dX6_height_38 ⟨Nat.zero_le _, Nat.zero_le _⟩ rfl) (fun H locs h hX => ?_)
    exact x_ri C hr hlk h hE (pf_1 (Option.some.inj hf)) (pf_2 (Option.some.inj hf)) dX6_height_41
theorem c_X6_height (fu : Nat) (l : Launch) (κ : Ka_) (G : va_G) (cy : Nat → ClassId) (ad : Nat → Nat) (sz : Nat) (σ : St_) (a0 : Nat) (x1 : Int32) (x2 : Int32) (hk_a0 : kd_ σ a0 = 6) {q : Int32 × St_} (hf : f_X6_height fu σ a0 x1 x2 = some q) : Met l yX6_height (Cond.code yX6_height cX6_height 4 (some .int) :: wU_) { frames := 1, cells := 0, slots := 0, locals := 29 } (va_Pc [.ref (ad a0), .int x1, .int x2] (Pr_ κ G cy ad σ sz)) (Qi_ G cy ad σ q.2 sz q.1) 0 0 (va_A (wl_ cy ad σ) sz) :=
  x_met (by decide) (fun p e R s m below meth c ls hR C hr hlk hin _ K h hl => w_X6_height fu C K hr hlk ⟨hR.1, hR.2.1⟩ σ a0 x1 x2 Ex_.rf hk_a0 hf s.heap [] ls h hl) (Nat.le_of_ble_eq_true rfl)
