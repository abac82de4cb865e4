-- X4_isMissing
theorem mi_X4_isMissing : Mi_ yX4_isMissing cX4_isMissing 1 (some .boolean) 0 := ⟨co_yX4_isMissing, in_RX4, by decide, by decide, by decide +kernel⟩
def f_X4_isMissing (σ : St_) (a0 : Nat) : Int32 := if (si_ σ a0 1) = (-1 : Int32) then (1 : Int32) else (0 : Int32)
set_option maxHeartbeats 4000000 in
set_option maxRecDepth 100000 in
theorem w_X4_isMissing {p : Program} {l : Launch} {e : Env} {R : Room} {s : State} {m : MethodId} {args : Array Value} {below : List Frame} {meth : Method} {c : Code} {κ : Ka_} {G : va_G} {cy : Nat → ClassId} {ad : Nat → Nat} {sz : Nat} {σ : St_} (C : CallFix p m c cX4_isMissing 1 s args wU_ RX4) (K : Kx_ κ G cy (va_A (wl_ cy ad σ) sz) s) (hr : meth.sig.returnType = some .boolean) (hlk : meth.locks = false) (hR : 0 ≤ R.frames ∧ 0 ≤ R.locals) {q : Int32} : ∀ (a0 : Nat), kd_ σ a0 = 4 → f_X4_isMissing σ a0 = q → ∀ (H : Heap) (locs : List Loc) (ls : Array Slot), Ht_ G cy (va_A (wl_ cy ad σ) sz) s ad σ H locs → lv_has ls 1 [(0, .ref (ad a0))] → W p l e R s m args below meth c H locs 0 0 (MQ below (Qz_ G cy ad σ σ sz q) args s 0 0 (va_A (wl_ cy ad σ) sz)) (F0 m 0 ls []) := by
  intro a0 hk_a0 hf H locs ls h hl
  have hf : (if (si_ σ a0 1) = (-1 : Int32) then (1 : Int32) else (0 : Int32)) = q := hf
  refine lv_aload_n C.1 C.2.1 dX4_isMissing_0 rfl (lv_at hl 0 rfl) ?_
  refine x_get (v := .int (si_ σ a0 1)) C K h cl_4 hk_a0 1 (by decide) fl_RX4_15 rfl dX4_isMissing_1 ?_
  refine lv_iconst (v := (-1 : Int32)) C.1 C.2.1 dX4_isMissing_4 (by decide) ?_
  refine lv_icmp_ne (tgt := 12) C.1 C.2.1 dX4_isMissing_5 (by decide) (fun c1 => ?_) (fun c1 => ?_)
  · have hf := if_f hf c1
    refine lv_iconst (v := (0 : Int32)) C.1 C.2.1 dX4_isMissing_12 (by decide) ?_
    exact x_rzz C hr hlk h Ex_.rf (by decide) hf rfl dX4_isMissing_13
  · have hf := if_t hf c1
    refine lv_iconst (v := (1 : Int32)) C.1 C.2.1 dX4_isMissing_8 (by decide) ?_
    refine lv_goto (tgt := 13) C.1 C.2.1 dX4_isMissing_9 (by decide) ?_
    exact x_rzz C hr hlk h Ex_.rf (by decide) hf rfl dX4_isMissing_13
theorem c_X4_isMissing (l : Launch) (κ : Ka_) (G : va_G) (cy : Nat → ClassId) (ad : Nat → Nat) (sz : Nat) (σ : St_) (a0 : Nat) (hk_a0 : kd_ σ a0 = 4) {q : Int32} (hf : f_X4_isMissing σ a0 = q) : Met l yX4_isMissing (Cond.code yX4_isMissing cX4_isMissing 1 (some .boolean) :: wU_) { frames := 0, cells := 0, slots := 0, locals := 0 } (va_Pc [.ref (ad a0)] (Pr_ κ G cy ad σ sz)) (Qz_ G cy ad σ σ sz q) 0 0 (va_A (wl_ cy ad σ) sz) :=
  x_met (by decide) (fun p e R s m below meth c ls hR C hr hlk hin _ K h hl => w_X4_isMissing C K hr hlk ⟨hR.1, hR.2.1⟩ a0 hk_a0 hf s.heap [] ls h hl) (Nat.le_of_ble_eq_true rfl)
-- X4_makeMissing
theorem mi_X4_makeMissing : Mi_ yX4_makeMissing cX4_makeMissing 1 none 0 := ⟨co_yX4_makeMissing, in_RX4, by decide, by decide, by decide +kernel⟩
def f_X4_makeMissing (σ : St_) (a0 : Nat) : St_ := ui_ (ui_ σ a0 1 (-1 : Int32)) a0 2 (0 : Int32)
set_option maxHeartbeats 4000000 in
set_option maxRecDepth 100000 in
theorem w_X4_makeMissing {p : Program} {l : Launch} {e : Env} {R : Room} {s : State} {m : MethodId} {args : Array Value} {below : List Frame} {meth : Method} {c : Code} {κ : Ka_} {G : va_G} {cy : Nat → ClassId} {ad : Nat → Nat} {sz : Nat} {σ0 : St_} (C : CallFix p m c cX4_makeMissing 1 s args wU_ RX4) (K : Kx_ κ G cy (va_A (wl_ cy ad σ0) sz) s) (hr : meth.sig.returnType = none) (hlk : meth.locks = false) (hR : 0 ≤ R.frames ∧ 0 ≤ R.locals) {q : St_} : ∀ (σ : St_) (a0 : Nat), Ex_ σ0 σ → kd_ σ a0 = 4 → f_X4_makeMissing σ a0 = q → ∀ (H : Heap) (locs : List Loc) (ls : Array Slot), Ht_ G cy (va_A (wl_ cy ad σ0) sz) s ad σ H locs → lv_has ls 1 [(0, .ref (ad a0))] → W p l e R s m args below meth c H locs 0 0 (MQ below (Qv_ G cy ad σ0 q sz) args s 0 0 (va_A (wl_ cy ad σ0) sz)) (F0 m 0 ls []) := by
  intro σ a0 hE hk_a0 hf H locs ls h hl
  have hf : (ui_ (ui_ σ a0 1 (-1 : Int32)) a0 2 (0 : Int32)) = q := hf
  refine lv_aload_n C.1 C.2.1 dX4_makeMissing_0 rfl (lv_at hl 0 rfl) ?_
  refine lv_iconst (v := (-1 : Int32)) C.1 C.2.1 dX4_makeMissing_1 (by decide) ?_
  refine x_putI C K h cl_4 hk_a0 1 (by decide) fl_RX4_15 rfl rfl rfl (Nat.le_of_ble_eq_true rfl) (fun _ _ _ => rfl) dX4_makeMissing_2 (fun H locs h => ?_)
  have hE := hE.up (up_i σ a0 1 (-1 : Int32))
  refine lv_aload_n C.1 C.2.1 dX4_makeMissing_5 rfl (lv_at hl 0 rfl) ?_
  refine lv_iconst (v := (0 : Int32)) C.1 C.2.1 dX4_makeMissing_6 (by decide) ?_
  refine x_putI C K h cl_4 hk_a0 2 (by decide) fl_RX4_19 rfl rfl rfl (Nat.le_of_ble_eq_true rfl) (fun _ _ _ => rfl) dX4_makeMissing_7 (fun H locs h => ?_)
  have hE := hE.up (up_i (ui_ σ a0 1 (-1 : Int32)) a0 2 (0 : Int32))
  exact x_rv C hr hlk h hE hf dX4_makeMissing_10
theorem c_X4_makeMissing (l : Launch) (κ : Ka_) (G : va_G) (cy : Nat → ClassId) (ad : Nat → Nat) (sz : Nat) (σ : St_) (a0 : Nat) (hk_a0 : kd_ σ a0 = 4) {q : St_} (hf : f_X4_makeMissing σ a0 = q) : Met l yX4_makeMissing (Cond.code yX4_makeMissing cX4_makeMissing 1 none :: wU_) { frames := 0, cells := 0, slots := 0, locals := 0 } (va_Pc [.ref (ad a0)] (Pr_ κ G cy ad σ sz)) (Qv_ G cy ad σ q sz) 0 0 (va_A (wl_ cy ad σ) sz) :=
  x_met (by decide) (fun p e R s m below meth c ls hR C hr hlk hin _ K h hl => w_X4_makeMissing C K hr hlk ⟨hR.1, hR.2.1⟩ σ a0 Ex_.rf hk_a0 hf s.heap [] ls h hl) (Nat.le_of_ble_eq_true rfl)
-- J7_fill_53178
theorem mi_J7_fill_53178 : Mi_ yJ7_fill_53178 cJ7_fill_53178 4 none 2 := ⟨co_yJ7_fill_53178, in_RJ7, by decide, by decide, by decide +kernel⟩
def f_J7_fill_53178_5 (fu : Nat) : Nat → St_ → Nat → Int32 → Int32 → Int32 → Option St_
  | 0 => fun _ _ _ _ _ => none
  | n + 1 => fun σ  v0  v1  v2  v3 => if v3 ≤ v2 then some σ else (ix_ v2 (ln_ σ v0)).bind fun j2 => (f_J7_fill_53178_5 fu n) (ui_ σ v0 j2 v1) v0 v1 (v2 + (1 : Int32)) v3
set_option maxHeartbeats 4000000 in
set_option maxRecDepth 100000 in
theorem w_J7_fill_53178_5 {p : Program} {l : Launch} {e : Env} {R : Room} {s : State} {m : MethodId} {args : Array Value} {below : List Frame} {meth : Method} {c : Code} {κ : Ka_} {G : va_G} {cy : Nat → ClassId} {ad : Nat → Nat} {sz : Nat} {σ0 : St_} (fu : Nat) (C : CallFix p m c cJ7_fill_53178 4 s args wU_ RJ7) (K : Kx_ κ G cy (va_A (wl_ cy ad σ0) sz) s) (hr : meth.sig.returnType = none) (hlk : meth.locks = false) (hR : 0 ≤ R.frames ∧ 0 ≤ R.locals) {q : St_} : ∀ n : Nat, ∀ (σ : St_) (v0 : Nat) (v1 : Int32) (v2 : Int32) (v3 : Int32), Ex_ σ0 σ → kd_ σ v0 = 10 → f_J7_fill_53178_5 fu n σ v0 v1 v2 v3 = some q → ∀ (H : Heap) (locs : List Loc) (ls : Array Slot), Ht_ G cy (va_A (wl_ cy ad σ0) sz) s ad σ H locs → lv_has ls 4 [(0, .ref (ad v0)), (1, .int v1), (2, .int v2), (3, .int v3)] → W p l e R s m args below meth c H locs 0 0 (MQ below (Qv_ G cy ad σ0 q sz) args s 0 0 (va_A (wl_ cy ad σ0) sz)) (F0 m 5 ls []) := by
  intro n
  induction n with
  | zero =>
    intro σ v0 v1 v2 v3 hE hk_v0 hf H locs ls h hl
    cases hf
  | succ n ih =>
    intro σ v0 v1 v2 v3 hE hk_v0 hf H locs ls h hl
    have hf : (if v3 ≤ v2 then some σ else (ix_ v2 (ln_ σ v0)).bind fun j2 => (f_J7_fill_53178_5 fu n) (ui_ σ v0 j2 v1) v0 v1 (v2 + (1 : Int32)) v3) = some q := hf
    refine lv_iload_n C.1 C.2.1 dJ7_fill_53178_5 rfl (lv_at hl 2 rfl) ?_
    refine lv_iload_n C.1 C.2.1 dJ7_fill_53178_6 rfl (lv_at hl 3 rfl) ?_
    refine lv_icmp_ge (tgt := 20) C.1 C.2.1 dJ7_fill_53178_7 (by decide) (fun c1 => ?_) (fun c1 => ?_)
    · have hf := if_t hf c1
      exact x_rv C hr hlk h hE (Option.some.inj hf) dJ7_fill_53178_20
    · have hf := if_f hf c1
      refine lv_aload_n C.1 C.2.1 dJ7_fill_53178_10 rfl (lv_at hl 0 rfl) ?_
      refine lv_iload_n C.1 C.2.1 dJ7_fill_53178_11 rfl (lv_at hl 2 rfl) ?_
      refine lv_iload_n C.1 C.2.1 dJ7_fill_53178_12 rfl (lv_at hl 1 rfl) ?_
      obtain ⟨j2, hj_j2, hf⟩ := ob_ hf
      refine x_iast C K h hk_v0 hj_j2 dJ7_fill_53178_13 (fun H locs h => ?_)
      have hE := hE.up (up_i σ v0 j2 v1)
      refine lv_iinc (v := v2 + (1 : Int32)) (lv' := [(2, .int (v2 + (1 : Int32))), (0, .ref (ad v0)), (1, .int v1), (3, .int v3)]) C.1 C.2.1 dJ7_fill_53178_14 hl (k := 2) rfl rfl (by decide) rfl (fun ls hl => ?_)
      refine lv_goto (tgt := 5) C.1 C.2.1 dJ7_fill_53178_17 (by decide) ?_
      exact ih (ui_ σ v0 j2 v1) v0 v1 (v2 + (1 : Int32)) v3 hE hk_v0 hf _ _ _ h (lv_sub hl [1, 2, 0, 3] rfl)
def f_J7_fill_53178 (fu : Nat) (σ : St_) (x1 : Nat) (x2 : Int32) : Option St_ := f_J7_fill_53178_5 fu fu σ x1 x2 (0 : Int32) (nI (ln_ σ x1))
set_option maxHeartbeats 4000000 in
set_option maxRecDepth 100000 in
theorem w_J7_fill_53178 {p : Program} {l : Launch} {e : Env} {R : Room} {s : State} {m : MethodId} {args : Array Value} {below : List Frame} {meth : Method} {c : Code} {κ : Ka_} {G : va_G} {cy : Nat → ClassId} {ad : Nat → Nat} {sz : Nat} {σ0 : St_} (fu : Nat) (C : CallFix p m c cJ7_fill_53178 4 s args wU_ RJ7) (K : Kx_ κ G cy (va_A (wl_ cy ad σ0) sz) s) (hr : meth.sig.returnType = none) (hlk : meth.locks = false) (hR : 0 ≤ R.frames ∧ 0 ≤ R.locals) {q : St_} : ∀ (σ : St_) (x1 : Nat) (x2 : Int32), Ex_ σ0 σ → kd_ σ x1 = 10 → f_J7_fill_53178 fu σ x1 x2 = some q → ∀ (H : Heap) (locs : List Loc) (ls : Array Slot), Ht_ G cy (va_A (wl_ cy ad σ0) sz) s ad σ H locs → lv_has ls 4 [(0, .ref (ad x1)), (1, .int x2)] → W p l e R s m args below meth c H locs 0 0 (MQ below (Qv_ G cy ad σ0 q sz) args s 0 0 (va_A (wl_ cy ad σ0) sz)) (F0 m 0 ls []) := by
  intro σ x1 x2 hE hk_x1 hf H locs ls h hl
  have hf : (f_J7_fill_53178_5 fu fu σ x1 x2 (0 : Int32) (nI (ln_ σ x1))) = some q := hf
  refine lv_iconst (v := (0 : Int32)) C.1 C.2.1 dJ7_fill_53178_0 (by decide) ?_
  refine lv_istore_n (i := 2) (lv' := [(2, .int (0 : Int32)), (0, .ref (ad x1)), (1, .int x2)]) C.1 C.2.1 dJ7_fill_53178_1 rfl hl (by decide) rfl (fun ls hl => ?_)
  refine lv_aload_n C.1 C.2.1 dJ7_fill_53178_2 rfl (lv_at hl 1 rfl) ?_
  refine x_ilen C K h hk_x1 dJ7_fill_53178_3 ?_
  refine lv_istore_n (i := 3) (lv' := [(3, .int (nI (ln_ σ x1))), (2, .int (0 : Int32)), (0, .ref (ad x1)), (1, .int x2)]) C.1 C.2.1 dJ7_fill_53178_4 rfl hl (by decide) rfl (fun ls hl => ?_)
  exact w_J7_fill_53178_5 fu C K hr hlk hR fu σ x1 x2 (0 : Int32) (nI (ln_ σ x1)) hE hk_x1 hf _ _ _ h (lv_sub hl [2, 3, 1, 0] rfl)
theorem c_J7_fill_53178 (fu : Nat) (l : Launch) (κ : Ka_) (G : va_G) (cy : Nat → ClassId) (ad : Nat → Nat) (sz : Nat) (σ : St_) (x1 : Nat) (x2 : Int32) (hk_x1 : kd_ σ x1 = 10) {q : St_} (hf : f_J7_fill_53178 fu σ x1 x2 = some q) : Met l yJ7_fill_53178 (Cond.code yJ7_fill_53178 cJ7_fill_53178 4 none :: wU_) { frames := 0, cells := 0, slots := 0, locals := 0 } (va_Pc [.ref (ad x1), .int x2] (Pr_ κ G cy ad σ sz)) (Qv_ G cy ad σ q sz) 0 0 (va_A (wl_ cy ad σ) sz) :=
  x_met (by decide) (fun p e R s m below meth c ls hR C hr hlk hin _ K h hl => w_J7_fill_53178 fu C K hr hlk ⟨hR.1, hR.2.1⟩ σ x1 x2 Ex_.rf hk_x1 hf s.heap [] ls h hl) (Nat.le_of_ble_eq_true rfl)
-- X4_makeRow
theorem mi_X4_makeRow : Mi_ yX4_makeRow cX4_makeRow 3 none 2 := ⟨co_yX4_makeRow, in_RX4, by decide, by decide, by decide +kernel⟩
def f_X4_makeRow (fu : Nat) (σ : St_) (a0 : Nat) (x1 : Int32) (x2 : Int32) : Option St_ := (dr_ (ui_ (ui_ σ a0 1 x1) a0 2 x2) 10 (sr_ (ui_ (ui_ σ a0 1 x1) a0 2 x2) a0 0)).bind fun b3 => (f_J7_fill_53178 fu (ui_ (ui_ σ a0 1 x1) a0 2 x2) b3 (0 : Int32)).bind fun q4 => some q4
set_option maxHeartbeats 4000000 in
set_option maxRecDepth 100000 in
theorem w_X4_makeRow {p : Program} {l : Launch} {e : Env} {R : Room} {s : State} {m : MethodId} {args : Array Value} {below : List Frame} {meth : Method} {c : Code} {κ : Ka_} {G : va_G} {cy : Nat → ClassId} {ad : Nat → Nat} {sz : Nat} {σ0 : St_} (fu : Nat) (C : CallFix p m c cX4_makeRow 3 s args wU_ RX4) (K : Kx_ κ G cy (va_A (wl_ cy ad σ0) sz) s) (hr : meth.sig.returnType = none) (hlk : meth.locks = false) (hR : 1 ≤ R.frames ∧ 23 ≤ R.locals) {q : St_} : ∀ (σ : St_) (a0 : Nat) (x1 : Int32) (x2 : Int32), Ex_ σ0 σ → kd_ σ a0 = 4 → f_X4_makeRow fu σ a0 x1 x2 = some q → ∀ (H : Heap) (locs : List Loc) (ls : Array Slot), Ht_ G cy (va_A (wl_ cy ad σ0) sz) s ad σ H locs → lv_has ls 3 [(0, .ref (ad a0)), (1, .int x1), (2, .int x2)] → W p l e R s m args below meth c H locs 0 0 (MQ below (Qv_ G cy ad σ0 q sz) args s 0 0 (va_A (wl_ cy ad σ0) sz)) (F0 m 0 ls []) := by
  intro σ a0 x1 x2 hE hk_a0 hf H locs ls h hl
  have hf : ((dr_ (ui_ (ui_ σ a0 1 x1) a0 2 x2) 10 (sr_ (ui_ (ui_ σ a0 1 x1) a0 2 x2) a0 0)).bind fun b3 => (f_J7_fill_53178 fu (ui_ (ui_ σ a0 1 x1) a0 2 x2) b3 (0 : Int32)).bind fun q4 => some q4) = some q := hf
  refine lv_aload_n C.1 C.2.1 dX4_makeRow_0 rfl (lv_at hl 0 rfl) ?_
  refine lv_iload_n C.1 C.2.1 dX4_makeRow_1 rfl (lv_at hl 1 rfl) ?_
  refine x_putI C K h cl_4 hk_a0 1 (by decide) fl_RX4_15 rfl rfl rfl (Nat.le_of_ble_eq_true rfl) (fun _ _ _ => rfl) dX4_makeRow_2 (fun H locs h => ?_)
  have hE := hE.up (up_i σ a0 1 x1)
  refine lv_aload_n C.1 C.2.1 dX4_makeRow_5 rfl (lv_at hl 0 rfl) ?_
  refine lv_iload_n C.1 C.2.1 dX4_makeRow_6 rfl (lv_at hl 2 rfl) ?_
  refine x_putI C K h cl_4 hk_a0 2 (by decide) fl_RX4_19 rfl rfl rfl (Nat.le_of_ble_eq_true rfl) (fun _ _ _ => rfl) dX4_makeRow_7 (fun H locs h => ?_)
  have hE := hE.up (up_i (ui_ σ a0 1 x1) a0 2 x2)
  refine lv_aload_n C.1 C.2.1 dX4_makeRow_10 rfl (lv_at hl 0 rfl) ?_
  obtain ⟨b3, hb_b3, hf⟩ := ob_ hf
  obtain ⟨hq_b3, hk_b3⟩ := dr_in hb_b3
  refine x_get (v := .ref (ad b3)) C K h cl_4 hk_a0 0 (by decide) fl_RX4_9 (hv_r (o := sr_ (ui_ (ui_ σ a0 1 x1) a0 2 x2) a0 0) rfl hq_b3) dX4_makeRow_11 ?_
  refine lv_iconst (v := (0 : Int32)) C.1 C.2.1 dX4_makeRow_14 (by decide) ?_
  obtain ⟨q4, hq_q4, hf⟩ := ob_ hf
  refine x_av K h (x_S C K h [.ref (ad b3), .int (0 : Int32)] (c_J7_fill_53178 fu l κ G cy ad H.size (ui_ (ui_ σ a0 1 x1) a0 2 x2) b3 (0 : Int32) hk_b3 hq_q4) mi_J7_fill_53178 rfl st_yJ7_fill_53178 ml_RX4_22 ⟨rfl, rfl, Nat.le_trans (Nat.le_of_ble_eq_true rfl) hR.1, Nat.le_trans (Nat.le_of_ble_eq_true rfl) hR.2⟩ hl (Nat.le_of_ble_eq_true rfl) dX4_makeRow_15 ⟨Nat.zero_le _, Nat.zero_le _⟩ rfl) (fun H locs h hX => ?_)
  have hE := hE.trans hX
  have hk_a0 := hX.k hk_a0 (by decide)
  exact x_rv C hr hlk h hE (Option.some.inj hf) dX4_makeRow_18
theorem c_X4_makeRow (fu : Nat) (l : Launch) (κ : Ka_) (G : va_G) (cy : Nat → ClassId) (ad : Nat → Nat) (sz : Nat) (σ : St_) (a0 : Nat) (x1 : Int32) (x2 : Int32) (hk_a0 : kd_ σ a0 = 4) {q : St_} (hf : f_X4_makeRow fu σ a0 x1 x2 = some q) : Met l yX4_makeRow (Cond.code yX4_makeRow cX4_makeRow 3 none :: wU_) { frames := 1, cells := 0, slots := 0, locals := 23 } (va_Pc [.ref (ad a0), .int x1, .int x2] (Pr_ κ G cy ad σ sz)) (Qv_ G cy ad σ q sz) 0 0 (va_A (wl_ cy ad σ) sz) :=
  x_met (by decide) (fun p e R s m below meth c ls hR C hr hlk hin _ K h hl => w_X4_makeRow fu C K hr hlk ⟨hR.1, hR.2.1⟩ σ a0 x1 x2 Ex_.rf hk_a0 hf s.heap [] ls h hl) (Nat.le_of_ble_eq_true rfl)
-- X4_item
theorem mi_X4_item : Mi_ yX4_item cX4_item 2 (some .int) 1 := ⟨co_yX4_item, in_RX4, by decide, by decide, by decide +kernel⟩
def f_X4_item (σ : St_) (a0 : Nat) (x1 : Int32) : Option Int32 := if (f_X8_isBelow x1 (si_ σ a0 2)) = 0 then some (0 : Int32) else (dr_ σ 10 (sr_ σ a0 0)).bind fun b5 => if (nI (ln_ σ b5)) ≤ x1 then some (0 : Int32) else (ix_ x1 (ln_ σ b5)).bind fun j7 => some (si_ σ b5 j7)
set_option maxHeartbeats 4000000 in
set_option maxRecDepth 100000 in
theorem w_X4_item {p : Program} {l : Launch} {e : Env} {R : Room} {s : State} {m : MethodId} {args : Array Value} {below : List Frame} {meth : Method} {c : Code} {κ : Ka_} {G : va_G} {cy : Nat → ClassId} {ad : Nat → Nat} {sz : Nat} {σ : St_} (C : CallFix p m c cX4_item 2 s args wU_ RX4) (K : Kx_ κ G cy (va_A (wl_ cy ad σ) sz) s) (hr : meth.sig.returnType = some .int) (hlk : meth.locks = false) (hR : 1 ≤ R.frames ∧ 21 ≤ R.locals) {q : Int32} : ∀ (a0 : Nat) (x1 : Int32), kd_ σ a0 = 4 → f_X4_item σ a0 x1 = some q → ∀ (H : Heap) (locs : List Loc) (ls : Array Slot), Ht_ G cy (va_A (wl_ cy ad σ) sz) s ad σ H locs → lv_has ls 2 [(0, .ref (ad a0)), (1, .int x1)] → W p l e R s m args below meth c H locs 0 0 (MQ below (Qi_ G cy ad σ σ sz q) args s 0 0 (va_A (wl_ cy ad σ) sz)) (F0 m 0 ls []) := by
  intro a0 x1 hk_a0 hf H locs ls h hl
  have hf : (if (f_X8_isBelow x1 (si_ σ a0 2)) = 0 then some (0 : Int32) else (dr_ σ 10 (sr_ σ a0 0)).bind fun b5 => if (nI (ln_ σ b5)) ≤ x1 then some (0 : Int32) else (ix_ x1 (ln_ σ b5)).bind fun j7 => some (si_ σ b5 j7)) = some q := hf
  refine lv_iload_n C.1 C.2.1 dX4_item_0 rfl (lv_at hl 1 rfl) ?_
  refine lv_aload_n C.1 C.2.1 dX4_item_1 rfl (lv_at hl 0 rfl) ?_
  refine x_get (v := .int (si_ σ a0 2)) C K h cl_4 hk_a0 2 (by decide) fl_RX4_19 rfl dX4_item_2 ?_
  refine x_az K h (x_SN C K h [.int x1, .int (si_ σ a0 2)] (c_X8_isBelow l κ G cy ad H.size σ x1 (si_ σ a0 2) rfl) mi_X8_isBelow rfl st_yX8_isBelow nm_RX4_28 ⟨rfl, rfl, Nat.le_trans (Nat.le_of_ble_eq_true rfl) hR.1, Nat.le_trans (Nat.le_of_ble_eq_true rfl) hR.2⟩ hl (Nat.le_of_ble_eq_true rfl) dX4_item_5 ⟨Nat.zero_le _, Nat.zero_le _⟩ rfl) (fun H locs h hX hz3 => ?_)
  refine lv_if_eq (tgt := 29) C.1 C.2.1 dX4_item_8 (by decide) (fun c4 => ?_) (fun c4 => ?_)
  · have hf := if_t hf c4
    refine lv_iconst (v := (0 : Int32)) C.1 C.2.1 dX4_item_29 (by decide) ?_
    exact x_ri C hr hlk h Ex_.rf (Option.some.inj hf) rfl dX4_item_30
  · have hf := if_f hf c4
    refine lv_iload_n C.1 C.2.1 dX4_item_11 rfl (lv_at hl 1 rfl) ?_
    refine lv_aload_n C.1 C.2.1 dX4_item_12 rfl (lv_at hl 0 rfl) ?_
    obtain ⟨b5, hb_b5, hf⟩ := ob_ hf
    obtain ⟨hq_b5, hk_b5⟩ := dr_in hb_b5
    refine x_get (v := .ref (ad b5)) C K h cl_4 hk_a0 0 (by decide) fl_RX4_9 (hv_r (o := sr_ σ a0 0) rfl hq_b5) dX4_item_13 ?_
    refine x_ilen C K h hk_b5 dX4_item_16 ?_
    refine lv_icmp_ge (tgt := 29) C.1 C.2.1 dX4_item_17 (by decide) (fun c6 => ?_) (fun c6 => ?_)
    · have hf := if_t hf c6
      refine lv_iconst (v := (0 : Int32)) C.1 C.2.1 dX4_item_29 (by decide) ?_
      exact x_ri C hr hlk h Ex_.rf (Option.some.inj hf) rfl dX4_item_30
    · have hf := if_f hf c6
      refine lv_aload_n C.1 C.2.1 dX4_item_20 rfl (lv_at hl 0 rfl) ?_
      refine x_get (v := .ref (ad b5)) C K h cl_4 hk_a0 0 (by decide) fl_RX4_9 (hv_r (o := sr_ σ a0 0) rfl hq_b5) dX4_item_21 ?_
      refine lv_iload_n C.1 C.2.1 dX4_item_24 rfl (lv_at hl 1 rfl) ?_
      obtain ⟨j7, hj_j7, hf⟩ := ob_ hf
      refine x_iald C K h hk_b5 hj_j7 dX4_item_25 ?_
      refine lv_goto (tgt := 30) C.1 C.2.1 dX4_item_26 (by decide) ?_
      exact x_ri C hr hlk h Ex_.rf (Option.some.inj hf) rfl dX4_item_30
theorem c_X4_item (l : Launch) (κ : Ka_) (G : va_G) (cy : Nat → ClassId) (ad : Nat → Nat) (sz : Nat) (σ : St_) (a0 : Nat) (x1 : Int32) (hk_a0 : kd_ σ a0 = 4) {q : Int32} (hf : f_X4_item σ a0 x1 = some q) : Met l yX4_item (Cond.code yX4_item cX4_item 2 (some .int) :: wU_) { frames := 1, cells := 0, slots := 0, locals := 21 } (va_Pc [.ref (ad a0), .int x1] (Pr_ κ G cy ad σ sz)) (Qi_ G cy ad σ σ sz q) 0 0 (va_A (wl_ cy ad σ) sz) :=
  x_met (by decide) (fun p e R s m below meth c ls hR C hr hlk hin _ K h hl => w_X4_item C K hr hlk ⟨hR.1, hR.2.1⟩ a0 x1 hk_a0 hf s.heap [] ls h hl) (Nat.le_of_ble_eq_true rfl)
-- X4_put
theorem mi_X4_put : Mi_ yX4_put cX4_put 3 none 2 := ⟨co_yX4_put, in_RX4, by decide, by decide, by decide +kernel⟩
def f_X4_put (σ : St_) (a0 : Nat) (x1 : Int32) (x2 : Int32) : Option St_ := if (f_X8_isBelow x1 (si_ σ a0 2)) = 0 then some σ else (dr_ σ 10 (sr_ σ a0 0)).bind fun b6 => if (nI (ln_ σ b6)) ≤ x1 then some σ else if (si_ σ a0 1) = 0 then (ix_ x1 (ln_ σ b6)).bind fun j12 => some (ui_ σ b6 j12 x2.toInt8.toInt32) else if (si_ σ a0 1) = (1 : Int32) then (ix_ x1 (ln_ σ b6)).bind fun j11 => some (ui_ σ b6 j11 x2.toInt16.toInt32) else (ix_ x1 (ln_ σ b6)).bind fun j10 => some (ui_ σ b6 j10 x2)
set_option maxHeartbeats 4000000 in
set_option maxRecDepth 100000 in
theorem w_X4_put {p : Program} {l : Launch} {e : Env} {R : Room} {s : State} {m : MethodId} {args : Array Value} {below : List Frame} {meth : Method} {c : Code} {κ : Ka_} {G : va_G} {cy : Nat → ClassId} {ad : Nat → Nat} {sz : Nat} {σ0 : St_} (C : CallFix p m c cX4_put 3 s args wU_ RX4) (K : Kx_ κ G cy (va_A (wl_ cy ad σ0) sz) s) (hr : meth.sig.returnType = none) (hlk : meth.locks = false) (hR : 1 ≤ R.frames ∧ 21 ≤ R.locals) {q : St_} : ∀ (σ : St_) (a0 : Nat) (x1 : Int32) (x2 : Int32), Ex_ σ0 σ → kd_ σ a0 = 4 → f_X4_put σ a0 x1 x2 = some q → ∀ (H : Heap) (locs : List Loc) (ls : Array Slot), Ht_ G cy (va_A (wl_ cy ad σ0) sz) s ad σ H locs → lv_has ls 3 [(0, .ref (ad a0)), (1, .int x1), (2, .int x2)] → W p l e R s m args below meth c H locs 0 0 (MQ below (Qv_ G cy ad σ0 q sz) args s 0 0 (va_A (wl_ cy ad σ0) sz)) (F0 m 0 ls []) := by
  intro σ a0 x1 x2 hE hk_a0 hf H locs ls h hl
  have hf : (if (f_X8_isBelow x1 (si_ σ a0 2)) = 0 then some σ else (dr_ σ 10 (sr_ σ a0 0)).bind fun b6 => if (nI (ln_ σ b6)) ≤ x1 then some σ else if (si_ σ a0 1) = 0 then (ix_ x1 (ln_ σ b6)).bind fun j12 => some (ui_ σ b6 j12 x2.toInt8.toInt32) else if (si_ σ a0 1) = (1 : Int32) then (ix_ x1 (ln_ σ b6)).bind fun j11 => some (ui_ σ b6 j11 x2.toInt16.toInt32) else (ix_ x1 (ln_ σ b6)).bind fun j10 => some (ui_ σ b6 j10 x2)) = some q := hf
  refine lv_iload_n C.1 C.2.1 dX4_put_0 rfl (lv_at hl 1 rfl) ?_
  refine lv_aload_n C.1 C.2.1 dX4_put_1 rfl (lv_at hl 0 rfl) ?_
  refine x_get (v := .int (si_ σ a0 2)) C K h cl_4 hk_a0 2 (by decide) fl_RX4_19 rfl dX4_put_2 ?_
  refine x_az K h (x_SN C K h [.int x1, .int (si_ σ a0 2)] (c_X8_isBelow l κ G cy ad H.size σ x1 (si_ σ a0 2) rfl) mi_X8_isBelow rfl st_yX8_isBelow nm_RX4_28 ⟨rfl, rfl, Nat.le_trans (Nat.le_of_ble_eq_true rfl) hR.1, Nat.le_trans (Nat.le_of_ble_eq_true rfl) hR.2⟩ hl (Nat.le_of_ble_eq_true rfl) dX4_put_5 ⟨Nat.zero_le _, Nat.zero_le _⟩ rfl) (fun H locs h hX hz4 => ?_)
  refine lv_if_eq (tgt := 52) C.1 C.2.1 dX4_put_8 (by decide) (fun c5 => ?_) (fun c5 => ?_)
  · have hf := if_t hf c5
    exact x_rv C hr hlk h hE (Option.some.inj hf) dX4_put_52
  · have hf := if_f hf c5
    refine lv_iload_n C.1 C.2.1 dX4_put_11 rfl (lv_at hl 1 rfl) ?_
    refine lv_aload_n C.1 C.2.1 dX4_put_12 rfl (lv_at hl 0 rfl) ?_
    obtain ⟨b6, hb_b6, hf⟩ := ob_ hf
    obtain ⟨hq_b6, hk_b6⟩ := dr_in hb_b6
    refine x_get (v := .ref (ad b6)) C K h cl_4 hk_a0 0 (by decide) fl_RX4_9 (hv_r (o := sr_ σ a0 0) rfl hq_b6) dX4_put_13 ?_
    refine x_ilen C K h hk_b6 dX4_put_16 ?_
    refine lv_icmp_ge (tgt := 52) C.1 C.2.1 dX4_put_17 (by decide) (fun c7 => ?_) (fun c7 => ?_)
    · have hf := if_t hf c7
      exact x_rv C hr hlk h hE (Option.some.inj hf) dX4_put_52
    · have hf := if_f hf c7
      refine lv_aload_n C.1 C.2.1 dX4_put_20 rfl (lv_at hl 0 rfl) ?_
      refine x_get (v := .ref (ad b6)) C K h cl_4 hk_a0 0 (by decide) fl_RX4_9 (hv_r (o := sr_ σ a0 0) rfl hq_b6) dX4_put_21 ?_
      refine lv_iload_n C.1 C.2.1 dX4_put_24 rfl (lv_at hl 1 rfl) ?_
      refine lv_aload_n C.1 C.2.1 dX4_put_25 rfl (lv_at hl 0 rfl) ?_
      refine x_get (v := .int (si_ σ a0 1)) C K h cl_4 hk_a0 1 (by decide) fl_RX4_15 rfl dX4_put_26 ?_
      refine lv_if_ne (tgt := 37) C.1 C.2.1 dX4_put_29 (by decide) (fun c8 => ?_) (fun c8 => ?_)
      · have hf := if_f hf c8
        refine lv_aload_n C.1 C.2.1 dX4_put_37 rfl (lv_at hl 0 rfl) ?_
        refine x_get (v := .int (si_ σ a0 1)) C K h cl_4 hk_a0 1 (by decide) fl_RX4_15 rfl dX4_put_38 ?_
        refine lv_iconst (v := (1 : Int32)) C.1 C.2.1 dX4_put_41 (by decide) ?_
        refine lv_icmp_ne (tgt := 50) C.1 C.2.1 dX4_put_42 (by decide) (fun c9 => ?_) (fun c9 => ?_)
        · have hf := if_f hf c9
          refine lv_iload_n C.1 C.2.1 dX4_put_50 rfl (lv_at hl 2 rfl) ?_
          obtain ⟨j10, hj_j10, hf⟩ := ob_ hf
          refine x_iast C K h hk_b6 hj_j10 dX4_put_51 (fun H locs h => ?_)
          have hE := hE.up (up_i σ b6 j10 x2)
          exact x_rv C hr hlk h hE (Option.some.inj hf) dX4_put_52
        · have hf := if_t hf c9
          refine lv_iload_n C.1 C.2.1 dX4_put_45 rfl (lv_at hl 2 rfl) ?_
          refine lv_i2s C.1 C.2.1 dX4_put_46 rfl ?_
          refine lv_goto (tgt := 51) C.1 C.2.1 dX4_put_47 (by decide) ?_
          obtain ⟨j11, hj_j11, hf⟩ := ob_ hf
          refine x_iast C K h hk_b6 hj_j11 dX4_put_51 (fun H locs h => ?_)
          have hE := hE.up (up_i σ b6 j11 x2.toInt16.toInt32)
          exact x_rv C hr hlk h hE (Option.some.inj hf) dX4_put_52
      · have hf := if_t hf c8
        refine lv_iload_n C.1 C.2.1 dX4_put_32 rfl (lv_at hl 2 rfl) ?_
        refine lv_i2b C.1 C.2.1 dX4_put_33 rfl ?_
        refine lv_goto (tgt := 51) C.1 C.2.1 dX4_put_34 (by decide) ?_
        obtain ⟨j12, hj_j12, hf⟩ := ob_ hf
        refine x_iast C K h hk_b6 hj_j12 dX4_put_51 (fun H locs h => ?_)
        have hE := hE.up (up_i σ b6 j12 x2.toInt8.toInt32)
        exact x_rv C hr hlk h hE (Option.some.inj hf) dX4_put_52
theorem c_X4_put (l : Launch) (κ : Ka_) (G : va_G) (cy : Nat → ClassId) (ad : Nat → Nat) (sz : Nat) (σ : St_) (a0 : Nat) (x1 : Int32) (x2 : Int32) (hk_a0 : kd_ σ a0 = 4) {q : St_} (hf : f_X4_put σ a0 x1 x2 = some q) : Met l yX4_put (Cond.code yX4_put cX4_put 3 none :: wU_) { frames := 1, cells := 0, slots := 0, locals := 21 } (va_Pc [.ref (ad a0), .int x1, .int x2] (Pr_ κ G cy ad σ sz)) (Qv_ G cy ad σ q sz) 0 0 (va_A (wl_ cy ad σ) sz) :=
  x_met (by decide) (fun p e R s m below meth c ls hR C hr hlk hin _ K h hl => w_X4_put C K hr hlk ⟨hR.1, hR.2.1⟩ σ a0 x1 x2 Ex_.rf hk_a0 hf s.heap [] ls h hl) (Nat.le_of_ble_eq_true rfl)
-- X4_holds
theorem mi_X4_holds : Mi_ yX4_holds cX4_holds 3 (some .boolean) 2 := ⟨co_yX4_holds, in_RX4, by decide, by decide, by decide +kernel⟩
def f_X4_holds (σ : St_) (a0 : Nat) (x1 : Int32) (x2 : Int32) : Int32 := if x1 < 0 then (0 : Int32) else if x2 < 0 then (0 : Int32) else if (si_ σ a0 2) < x1 then (0 : Int32) else if ((si_ σ a0 2) - x1) < x2 then (0 : Int32) else (1 : Int32)
set_option maxHeartbeats 4000000 in
set_option maxRecDepth 100000 in
theorem w_X4_holds {p : Program} {l : Launch} {e : Env} {R : Room} {s : State} {m : MethodId} {args : Array Value} {below : List Frame} {meth : Method} {c : Code} {κ : Ka_} {G : va_G} {cy : Nat → ClassId} {ad : Nat → Nat} {sz : Nat} {σ : St_} (C : CallFix p m c cX4_holds 3 s args wU_ RX4) (K : Kx_ κ G cy (va_A (wl_ cy ad σ) sz) s) (hr : meth.sig.returnType = some .boolean) (hlk : meth.locks = false) (hR : 0 ≤ R.frames ∧ 0 ≤ R.locals) {q : Int32} : ∀ (a0 : Nat) (x1 : Int32) (x2 : Int32), kd_ σ a0 = 4 → f_X4_holds σ a0 x1 x2 = q → ∀ (H : Heap) (locs : List Loc) (ls : Array Slot), Ht_ G cy (va_A (wl_ cy ad σ) sz) s ad σ H locs → lv_has ls 3 [(0, .ref (ad a0)), (1, .int x1), (2, .int x2)] → W p l e R s m args below meth c H locs 0 0 (MQ below (Qz_ G cy ad σ σ sz q) args s 0 0 (va_A (wl_ cy ad σ) sz)) (F0 m 0 ls []) := by
  intro a0 x1 x2 hk_a0 hf H locs ls h hl
  have hf : (if x1 < 0 then (0 : Int32) else if x2 < 0 then (0 : Int32) else if (si_ σ a0 2) < x1 then (0 : Int32) else if ((si_ σ a0 2) - x1) < x2 then (0 : Int32) else (1 : Int32)) = q := hf
  refine lv_iload_n C.1 C.2.1 dX4_holds_0 rfl (lv_at hl 1 rfl) ?_
  refine lv_if_lt (tgt := 30) C.1 C.2.1 dX4_holds_1 (by decide) (fun c3 => ?_) (fun c3 => ?_)
  · have hf := if_t hf c3
    refine lv_iconst (v := (0 : Int32)) C.1 C.2.1 dX4_holds_30 (by decide) ?_
    exact x_rzz C hr hlk h Ex_.rf (by decide) hf rfl dX4_holds_31
  · have hf := if_f hf c3
    refine lv_iload_n C.1 C.2.1 dX4_holds_4 rfl (lv_at hl 2 rfl) ?_
    refine lv_if_lt (tgt := 30) C.1 C.2.1 dX4_holds_5 (by decide) (fun c4 => ?_) (fun c4 => ?_)
    · have hf := if_t hf c4
      refine lv_iconst (v := (0 : Int32)) C.1 C.2.1 dX4_holds_30 (by decide) ?_
      exact x_rzz C hr hlk h Ex_.rf (by decide) hf rfl dX4_holds_31
    · have hf := if_f hf c4
      refine lv_iload_n C.1 C.2.1 dX4_holds_8 rfl (lv_at hl 1 rfl) ?_
      refine lv_aload_n C.1 C.2.1 dX4_holds_9 rfl (lv_at hl 0 rfl) ?_
      refine x_get (v := .int (si_ σ a0 2)) C K h cl_4 hk_a0 2 (by decide) fl_RX4_19 rfl dX4_holds_10 ?_
      refine lv_icmp_gt (tgt := 30) C.1 C.2.1 dX4_holds_13 (by decide) (fun c5 => ?_) (fun c5 => ?_)
      · have hf := if_t hf c5
        refine lv_iconst (v := (0 : Int32)) C.1 C.2.1 dX4_holds_30 (by decide) ?_
        exact x_rzz C hr hlk h Ex_.rf (by decide) hf rfl dX4_holds_31
      · have hf := if_f hf c5
        refine lv_iload_n C.1 C.2.1 dX4_holds_16 rfl (lv_at hl 2 rfl) ?_
        refine lv_aload_n C.1 C.2.1 dX4_holds_17 rfl (lv_at hl 0 rfl) ?_
        refine x_get (v := .int (si_ σ a0 2)) C K h cl_4 hk_a0 2 (by decide) fl_RX4_19 rfl dX4_holds_18 ?_
        refine lv_iload_n C.1 C.2.1 dX4_holds_21 rfl (lv_at hl 1 rfl) ?_
        refine lv_isub C.1 C.2.1 dX4_holds_22 ?_
        refine lv_icmp_gt (tgt := 30) C.1 C.2.1 dX4_holds_23 (by decide) (fun c6 => ?_) (fun c6 => ?_)
        · have hf := if_t hf c6
          refine lv_iconst (v := (0 : Int32)) C.1 C.2.1 dX4_holds_30 (by decide) ?_
          exact x_rzz C hr hlk h Ex_.rf (by decide) hf rfl dX4_holds_31
        · have hf := if_f hf c6
          refine lv_iconst (v := (1 : Int32)) C.1 C.2.1 dX4_holds_26 (by decide) ?_
          refine lv_goto (tgt := 31) C.1 C.2.1 dX4_holds_27 (by decide) ?_
          exact x_rzz C hr hlk h Ex_.rf (by decide) hf rfl dX4_holds_31
theorem c_X4_holds (l : Launch) (κ : Ka_) (G : va_G) (cy : Nat → ClassId) (ad : Nat → Nat) (sz : Nat) (σ : St_) (a0 : Nat) (x1 : Int32) (x2 : Int32) (hk_a0 : kd_ σ a0 = 4) {q : Int32} (hf : f_X4_holds σ a0 x1 x2 = q) : Met l yX4_holds (Cond.code yX4_holds cX4_holds 3 (some .boolean) :: wU_) { frames := 0, cells := 0, slots := 0, locals := 0 } (va_Pc [.ref (ad a0), .int x1, .int x2] (Pr_ κ G cy ad σ sz)) (Qz_ G cy ad σ σ sz q) 0 0 (va_A (wl_ cy ad σ) sz) :=
  x_met (by decide) (fun p e R s m below meth c ls hR C hr hlk hin _ K h hl => w_X4_holds C K hr hlk ⟨hR.1, hR.2.1⟩ a0 x1 x2 hk_a0 hf s.heap [] ls h hl) (Nat.le_of_ble_eq_true rfl)
-- X4_isAllBelow
theorem mi_X4_isAllBelow : Mi_ yX4_isAllBelow cX4_isAllBelow 3 (some .boolean) 1 := ⟨co_yX4_isAllBelow, in_RX4, by decide, by decide, by decide +kernel⟩
def f_X4_isAllBelow_2 (fu : Nat) (σ : St_) : Nat → Nat → Int32 → Int32 → Option Int32
  | 0 => fun _ _ _ => none
  | n + 1 => fun v0  v1  v2 => if (si_ σ v0 2) ≤ v2 then some (1 : Int32) else (f_X4_item σ v0 v2).bind fun q2 => if (f_X8_isBelow q2 v1) = 0 then some (0 : Int32) else (f_X4_isAllBelow_2 fu σ n) v0 v1 (v2 + (1 : Int32))
set_option maxHeartbeats 4000000 in
set_option maxRecDepth 100000 in
theorem w_X4_isAllBelow_2 {p : Program} {l : Launch} {e : Env} {R : Room} {s : State} {m : MethodId} {args : Array Value} {below : List Frame} {meth : Method} {c : Code} {κ : Ka_} {G : va_G} {cy : Nat → ClassId} {ad : Nat → Nat} {sz : Nat} {σ : St_} (fu : Nat) (C : CallFix p m c cX4_isAllBelow 3 s args wU_ RX4) (K : Kx_ κ G cy (va_A (wl_ cy ad σ) sz) s) (hr : meth.sig.returnType = some .boolean) (hlk : meth.locks = false) (hR : 2 ≤ R.frames ∧ 42 ≤ R.locals) {q : Int32} : ∀ n : Nat, ∀ (v0 : Nat) (v1 : Int32) (v2 : Int32), kd_ σ v0 = 4 → f_X4_isAllBelow_2 fu σ n v0 v1 v2 = some q → ∀ (H : Heap) (locs : List Loc) (ls : Array Slot), Ht_ G cy (va_A (wl_ cy ad σ) sz) s ad σ H locs → lv_has ls 3 [(0, .ref (ad v0)), (1, .int v1), (2, .int v2)] → W p l e R s m args below meth c H locs 0 0 (MQ below (Qz_ G cy ad σ σ sz q) args s 0 0 (va_A (wl_ cy ad σ) sz)) (F0 m 2 ls []) := by
  intro n
  induction n with
  | zero =>
    intro v0 v1 v2 hk_v0 hf H locs ls h hl
    cases hf
  | succ n ih =>
    intro v0 v1 v2 hk_v0 hf H locs ls h hl
    have hf : (if (si_ σ v0 2) ≤ v2 then some (1 : Int32) else (f_X4_item σ v0 v2).bind fun q2 => if (f_X8_isBelow q2 v1) = 0 then some (0 : Int32) else (f_X4_isAllBelow_2 fu σ n) v0 v1 (v2 + (1 : Int32))) = some q := hf
    refine lv_iload_n C.1 C.2.1 dX4_isAllBelow_2 rfl (lv_at hl 2 rfl) ?_
    refine lv_aload_n C.1 C.2.1 dX4_isAllBelow_3 rfl (lv_at hl 0 rfl) ?_
    refine x_get (v := .int (si_ σ v0 2)) C K h cl_4 hk_v0 2 (by decide) fl_RX4_19 rfl dX4_isAllBelow_4 ?_
    refine lv_icmp_ge (tgt := 30) C.1 C.2.1 dX4_isAllBelow_7 (by decide) (fun c1 => ?_) (fun c1 => ?_)
    · have hf := if_t hf c1
      refine lv_iconst (v := (1 : Int32)) C.1 C.2.1 dX4_isAllBelow_30 (by decide) ?_
      exact x_rzz C hr hlk h Ex_.rf (by decide) (Option.some.inj hf) rfl dX4_isAllBelow_31
    · have hf := if_f hf c1
      refine lv_aload_n C.1 C.2.1 dX4_isAllBelow_10 rfl (lv_at hl 0 rfl) ?_
      refine lv_iload_n C.1 C.2.1 dX4_isAllBelow_11 rfl (lv_at hl 2 rfl) ?_
      obtain ⟨q2, hq_q2, hf⟩ := ob_ hf
      refine x_ai K h (x_V C K h [.int v2] (c_X4_item l κ G cy ad H.size σ v0 v2 hk_v0 hq_q2) mi_X4_item rfl im_yX4_item se_yX4_item ml_RX4_32 cl_4 hk_v0 ⟨rfl, rfl, Nat.le_trans (Nat.le_of_ble_eq_true rfl) hR.1, Nat.le_trans (Nat.le_of_ble_eq_true rfl) hR.2⟩ hl (Nat.le_of_ble_eq_true rfl) dX4_isAllBelow_12 ⟨Nat.zero_le _, Nat.zero_le _⟩ rfl) (fun H locs h hX => ?_)
      refine lv_iload_n C.1 C.2.1 dX4_isAllBelow_15 rfl (lv_at hl 1 rfl) ?_
      refine x_az K h (x_SN C K h [.int q2, .int v1] (c_X8_isBelow l κ G cy ad H.size σ q2 v1 rfl) mi_X8_isBelow rfl st_yX8_isBelow nm_RX4_28 ⟨rfl, rfl, Nat.le_trans (Nat.le_of_ble_eq_true rfl) hR.1, Nat.le_trans (Nat.le_of_ble_eq_true rfl) hR.2⟩ hl (Nat.le_of_ble_eq_true rfl) dX4_isAllBelow_16 ⟨Nat.zero_le _, Nat.zero_le _⟩ rfl) (fun H locs h hX hz4 => ?_)
      refine lv_if_ne (tgt := 24) C.1 C.2.1 dX4_isAllBelow_19 (by decide) (fun c5 => ?_) (fun c5 => ?_)
      · have hf := if_f hf c5
        refine lv_iinc (v := v2 + (1 : Int32)) (lv' := [(2, .int (v2 + (1 : Int32))), (0, .ref (ad v0)), (1, .int v1)]) C.1 C.2.1 dX4_isAllBelow_24 hl (k := 2) rfl rfl (by decide) rfl (fun ls hl => ?_)
        refine lv_goto (tgt := 2) C.1 C.2.1 dX4_isAllBelow_27 (by decide) ?_
        exact ih v0 v1 (v2 + (1 : Int32)) hk_v0 hf _ _ _ h (lv_sub hl [1, 2, 0] rfl)
      · have hf := if_t hf c5
        refine lv_iconst (v := (0 : Int32)) C.1 C.2.1 dX4_isAllBelow_22 (by decide) ?_
        exact x_rzz C hr hlk h Ex_.rf (by decide) (Option.some.inj hf) rfl dX4_isAllBelow_23
def f_X4_isAllBelow (fu : Nat) (σ : St_) (a0 : Nat) (x1 : Int32) : Option Int32 := f_X4_isAllBelow_2 fu σ fu a0 x1 (0 : Int32)
set_option maxHeartbeats 4000000 in
set_option maxRecDepth 100000 in
theorem w_X4_isAllBelow {p : Program} {l : Launch} {e : Env} {R : Room} {s : State} {m : MethodId} {args : Array Value} {below : List Frame} {meth : Method} {c : Code} {κ : Ka_} {G : va_G} {cy : Nat → ClassId} {ad : Nat → Nat} {sz : Nat} {σ : St_} (fu : Nat) (C : CallFix p m c cX4_isAllBelow 3 s args wU_ RX4) (K : Kx_ κ G cy (va_A (wl_ cy ad σ) sz) s) (hr : meth.sig.returnType = some .boolean) (hlk : meth.locks = false) (hR : 2 ≤ R.frames ∧ 42 ≤ R.locals) {q : Int32} : ∀ (a0 : Nat) (x1 : Int32), kd_ σ a0 = 4 → f_X4_isAllBelow fu σ a0 x1 = some q → ∀ (H : Heap) (locs : List Loc) (ls : Array Slot), Ht_ G cy (va_A (wl_ cy ad σ) sz) s ad σ H locs → lv_has ls 3 [(0, .ref (ad a0)), (1, .int x1)] → W p l e R s m args below meth c H locs 0 0 (MQ below (Qz_ G cy ad σ σ sz q) args s 0 0 (va_A (wl_ cy ad σ) sz)) (F0 m 0 ls []) := by
  intro a0 x1 hk_a0 hf H locs ls h hl
  have hf : (f_X4_isAllBelow_2 fu σ fu a0 x1 (0 : Int32)) = some q := hf
  refine lv_iconst (v := (0 : Int32)) C.1 C.2.1 dX4_isAllBelow_0 (by decide) ?_
  refine lv_istore_n (i := 2) (lv' := [(2, .int (0 : Int32)), (0, .ref (ad a0)), (1, .int x1)]) C.1 C.2.1 dX4_isAllBelow_1 rfl hl (by decide) rfl (fun ls hl => ?_)
  exact w_X4_isAllBelow_2 fu C K hr hlk hR fu a0 x1 (0 : Int32) hk_a0 hf _ _ _ h (lv_sub hl [1, 2, 0] rfl)
theorem c_X4_isAllBelow (fu : Nat) (l : Launch) (κ : Ka_) (G : va_G) (cy : Nat → ClassId) (ad : Nat → Nat) (sz : Nat) (σ : St_) (a0 : Nat) (x1 : Int32) (hk_a0 : kd_ σ a0 = 4) {q : Int32} (hf : f_X4_isAllBelow fu σ a0 x1 = some q) : Met l yX4_isAllBelow (Cond.code yX4_isAllBelow cX4_isAllBelow 3 (some .boolean) :: wU_) { frames := 2, cells := 0, slots := 0, locals := 42 } (va_Pc [.ref (ad a0), .int x1] (Pr_ κ G cy ad σ sz)) (Qz_ G cy ad σ σ sz q) 0 0 (va_A (wl_ cy ad σ) sz) :=
  x_met (by decide) (fun p e R s m below meth c ls hR C hr hlk hin _ K h hl => w_X4_isAllBelow fu C K hr hlk ⟨hR.1, hR.2.1⟩ a0 x1 hk_a0 hf s.heap [] ls h hl) (Nat.le_of_ble_eq_true rfl)
