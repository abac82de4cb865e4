-- X9_part
theorem mi_X9_part : Mi_ yX9_part cX9_part 3 (some .int) 1 := ⟨co_yX9_part, in_RX9, by decide, by decide, by decide +kernel⟩
def f_X9_part_34 (fu : Nat) (σ : St_) (v0 : Nat) (s0 : Int32) : Option (Int32 × St_) := if (f_X9_isSign σ v0 (59 : Int32)) = 0 then if (si_ (f_X9_fail σ v0) v0 25) = 0 then (f_X9_next fu (f_X9_fail σ v0) v0).bind fun q8 => some (s0, q8) else some (s0, f_X9_fail σ v0) else if (si_ σ v0 25) = 0 then (f_X9_next fu σ v0).bind fun q5 => some (s0, q5) else some (s0, σ)
set_option maxHeartbeats 4000000 in
set_option maxRecDepth 100000 in
theorem w_X9_part_34 {p : Program} {l : Launch} {e : Env} {R : Room} {s : State} {m : MethodId} {args : Array Value} {below : List Frame} {meth : Method} {c : Code} {κ : Ka_} {G : va_G} {cy : Nat → ClassId} {ad : Nat → Nat} {sz : Nat} {σ0 : St_} (fu : Nat) (C : CallFix p m c cX9_part 3 s args wU_ RX9) (K : Kx_ κ G cy (va_A (wl_ cy ad σ0) sz) s) (hr : meth.sig.returnType = some .int) (hlk : meth.locks = false) (hR : 40 ≤ R.frames ∧ 883 ≤ R.locals) {q : Int32 × St_} : ∀ (σ : St_) (v0 : Nat) (s0 : Int32), Ex_ σ0 σ → kd_ σ v0 = 9 → f_X9_part_34 fu σ v0 s0 = some q → ∀ (H : Heap) (locs : List Loc) (ls : Array Slot), Ht_ G cy (va_A (wl_ cy ad σ0) sz) s ad σ H locs → lv_has ls 3 [(0, .ref (ad v0))] → W p l e R s m args below meth c H locs 0 0 (MQ below (Qi_ G cy ad σ0 q.2 sz q.1) args s 0 0 (va_A (wl_ cy ad σ0) sz)) (F0 m 34 ls [.int s0]) := by
  intro σ v0 s0 hE hk_v0 hf H locs ls h hl
  have hf : (if (f_X9_isSign σ v0 (59 : Int32)) = 0 then if (si_ (f_X9_fail σ v0) v0 25) = 0 then (f_X9_next fu (f_X9_fail σ v0) v0).bind fun q8 => some (s0, q8) else some (s0, f_X9_fail σ v0) else if (si_ σ v0 25) = 0 then (f_X9_next fu σ v0).bind fun q5 => some (s0, q5) else some (s0, σ)) = some q := hf
  refine lv_istore_n (i := 2) (lv' := [(2, .int s0), (0, .ref (ad v0))]) C.1 C.2.1 dX9_part_34 rfl hl (by decide) rfl (fun ls hl => ?_)
  refine lv_aload_n C.1 C.2.1 dX9_part_35 rfl (lv_at hl 1 rfl) ?_
  refine lv_bipush (v := (59 : Int32)) C.1 C.2.1 dX9_part_36 (by decide) ?_
  refine x_az K h (x_V C K h [.int (59 : Int32)] (c_X9_isSign l κ G cy ad H.size σ v0 (59 : Int32) hk_v0 rfl) mi_X9_isSign rfl im_yX9_isSign se_yX9_isSign ml_RX9_215 cl_9 hk_v0 ⟨rfl, rfl, Nat.le_trans (Nat.le_of_ble_eq_true rfl) hR.1, Nat.le_trans (Nat.le_of_ble_eq_true rfl) hR.2⟩ hl (Nat.le_of_ble_eq_true rfl) dX9_part_38 ⟨Nat.zero_le _, Nat.zero_le _⟩ rfl) (fun H locs h hX hz2 => ?_)
  refine lv_if_ne (tgt := 48) C.1 C.2.1 dX9_part_41 (by decide) (fun c3 => ?_) (fun c3 => ?_)
  · have hf := if_f hf c3
    refine lv_aload_n C.1 C.2.1 dX9_part_48 rfl (lv_at hl 1 rfl) ?_
    refine x_get (v := .int (si_ σ v0 25)) C K h cl_9 hk_v0 25 (by decide) fl_RX9_174 rfl dX9_part_49 ?_
    refine lv_if_ne (tgt := 59) C.1 C.2.1 dX9_part_52 (by decide) (fun c4 => ?_) (fun c4 => ?_)
    · have hf := if_f hf c4
      refine lv_iload_n C.1 C.2.1 dX9_part_59 rfl (lv_at hl 0 rfl) ?_
      exact x_ri C hr hlk h hE (pf_1 (Option.some.inj hf)) (pf_2 (Option.some.inj hf)) dX9_part_60
    · have hf := if_t hf c4
      refine lv_aload_n C.1 C.2.1 dX9_part_55 rfl (lv_at hl 1 rfl) ?_
      obtain ⟨q5, hq_q5, hf⟩ := ob_ hf
      refine x_av K h (x_V C K h [] (c_X9_next fu l κ G cy ad H.size σ v0 hk_v0 hq_q5) mi_X9_next rfl im_yX9_next se_yX9_next ml_RX9_190 cl_9 hk_v0 ⟨rfl, rfl, Nat.le_trans (Nat.le_of_ble_eq_true rfl) hR.1, Nat.le_trans (Nat.le_of_ble_eq_true rfl) hR.2⟩ hl (Nat.le_of_ble_eq_true rfl) dX9_part_56 ⟨Nat.zero_le _, Nat.zero_le _⟩ rfl) (fun H locs h hX => ?_)
      have hE := hE.trans hX
      have hk_v0 := hX.k hk_v0 (by decide)
      refine lv_iload_n C.1 C.2.1 dX9_part_59 rfl (lv_at hl 0 rfl) ?_
      exact x_ri C hr hlk h hE (pf_1 (Option.some.inj hf)) (pf_2 (Option.some.inj hf)) dX9_part_60
  · have hf := if_t hf c3
    refine lv_aload_n C.1 C.2.1 dX9_part_44 rfl (lv_at hl 1 rfl) ?_
    refine x_av K h (x_V C K h [] (c_X9_fail l κ G cy ad H.size σ v0 hk_v0 rfl) mi_X9_fail rfl im_yX9_fail se_yX9_fail ml_RX9_187 cl_9 hk_v0 ⟨rfl, rfl, Nat.le_trans (Nat.le_of_ble_eq_true rfl) hR.1, Nat.le_trans (Nat.le_of_ble_eq_true rfl) hR.2⟩ hl (Nat.le_of_ble_eq_true rfl) dX9_part_45 ⟨Nat.zero_le _, Nat.zero_le _⟩ rfl) (fun H locs h hX => ?_)
    have hE := hE.trans hX
    have hk_v0 := hX.k hk_v0 (by decide)
    refine lv_aload_n C.1 C.2.1 dX9_part_48 rfl (lv_at hl 1 rfl) ?_
    refine x_get (v := .int (si_ (f_X9_fail σ v0) v0 25)) C K h cl_9 hk_v0 25 (by decide) fl_RX9_174 rfl dX9_part_49 ?_
    refine lv_if_ne (tgt := 59) C.1 C.2.1 dX9_part_52 (by decide) (fun c7 => ?_) (fun c7 => ?_)
    · have hf := if_f hf c7
      refine lv_iload_n C.1 C.2.1 dX9_part_59 rfl (lv_at hl 0 rfl) ?_
      exact x_ri C hr hlk h hE (pf_1 (Option.some.inj hf)) (pf_2 (Option.some.inj hf)) dX9_part_60
    · have hf := if_t hf c7
      refine lv_aload_n C.1 C.2.1 dX9_part_55 rfl (lv_at hl 1 rfl) ?_
      obtain ⟨q8, hq_q8, hf⟩ := ob_ hf
      refine x_av K h (x_V C K h [] (c_X9_next fu l κ G cy ad H.size (f_X9_fail σ v0) v0 hk_v0 hq_q8) mi_X9_next rfl im_yX9_next se_yX9_next ml_RX9_190 cl_9 hk_v0 ⟨rfl, rfl, Nat.le_trans (Nat.le_of_ble_eq_true rfl) hR.1, Nat.le_trans (Nat.le_of_ble_eq_true rfl) hR.2⟩ hl (Nat.le_of_ble_eq_true rfl) dX9_part_56 ⟨Nat.zero_le _, Nat.zero_le _⟩ rfl) (fun H locs h hX => ?_)
      have hE := hE.trans hX
      have hk_v0 := hX.k hk_v0 (by decide)
      refine lv_iload_n C.1 C.2.1 dX9_part_59 rfl (lv_at hl 0 rfl) ?_
      exact x_ri C hr hlk h hE (pf_1 (Option.some.inj hf)) (pf_2 (Option.some.inj hf)) dX9_part_60
def f_X9_part_8 (fu : Nat) (σ : St_) (v0 : Nat) : Option (Int32 × St_) := if (si_ σ v0 25) = 0 then (f_X9_next fu σ v0).bind fun q4 => if (si_ q4 v0 25) = 0 then (f_X9_either0 fu q4 v0).bind fun q6 => f_X9_part_34 fu q6.2 v0 q6.1 else f_X9_part_34 fu q4 v0 (0 : Int32) else if (si_ σ v0 25) = 0 then (f_X9_either0 fu σ v0).bind fun q3 => f_X9_part_34 fu q3.2 v0 q3.1 else f_X9_part_34 fu σ v0 (0 : Int32)
set_option maxHeartbeats 4000000 in
set_option maxRecDepth 100000 in
theorem w_X9_part_8 {p : Program} {l : Launch} {e : Env} {R : Room} {s : State} {m : MethodId} {args : Array Value} {below : List Frame} {meth : Method} {c : Code} {κ : Ka_} {G : va_G} {cy : Nat → ClassId} {ad : Nat → Nat} {sz : Nat} {σ0 : St_} (fu : Nat) (C : CallFix p m c cX9_part 3 s args wU_ RX9) (K : Kx_ κ G cy (va_A (wl_ cy ad σ0) sz) s) (hr : meth.sig.returnType = some .int) (hlk : meth.locks = false) (hR : 40 ≤ R.frames ∧ 883 ≤ R.locals) {q : Int32 × St_} : ∀ (σ : St_) (v0 : Nat), Ex_ σ0 σ → kd_ σ v0 = 9 → f_X9_part_8 fu σ v0 = some q → ∀ (H : Heap) (locs : List Loc) (ls : Array Slot), Ht_ G cy (va_A (wl_ cy ad σ0) sz) s ad σ H locs → lv_has ls 3 [(0, .ref (ad v0))] → W p l e R s m args below meth c H locs 0 0 (MQ below (Qi_ G cy ad σ0 q.2 sz q.1) args s 0 0 (va_A (wl_ cy ad σ0) sz)) (F0 m 8 ls []) := by
  intro σ v0 hE hk_v0 hf H locs ls h hl
  have hf : (if (si_ σ v0 25) = 0 then (f_X9_next fu σ v0).bind fun q4 => if (si_ q4 v0 25) = 0 then (f_X9_either0 fu q4 v0).bind fun q6 => f_X9_part_34 fu q6.2 v0 q6.1 else f_X9_part_34 fu q4 v0 (0 : Int32) else if (si_ σ v0 25) = 0 then (f_X9_either0 fu σ v0).bind fun q3 => f_X9_part_34 fu q3.2 v0 q3.1 else f_X9_part_34 fu σ v0 (0 : Int32)) = some q := hf
  refine lv_aload_n C.1 C.2.1 dX9_part_8 rfl (lv_at hl 0 rfl) ?_
  refine x_get (v := .int (si_ σ v0 25)) C K h cl_9 hk_v0 25 (by decide) fl_RX9_174 rfl dX9_part_9 ?_
  refine lv_if_ne (tgt := 19) C.1 C.2.1 dX9_part_12 (by decide) (fun c1 => ?_) (fun c1 => ?_)
  · have hf := if_f hf c1
    refine lv_aload_n C.1 C.2.1 dX9_part_19 rfl (lv_at hl 0 rfl) ?_
    refine x_get (v := .int (si_ σ v0 25)) C K h cl_9 hk_v0 25 (by decide) fl_RX9_174 rfl dX9_part_20 ?_
    refine lv_if_eq (tgt := 30) C.1 C.2.1 dX9_part_23 (by decide) (fun c2 => ?_) (fun c2 => ?_)
    · have hf := if_t hf c2
      refine lv_aload_n C.1 C.2.1 dX9_part_30 rfl (lv_at hl 0 rfl) ?_
      obtain ⟨q3, hq_q3, hf⟩ := ob_ hf
      refine x_ai K h (x_V C K h [] (c_X9_either0 fu l κ G cy ad H.size σ v0 hk_v0 hq_q3) mi_X9_either0 rfl im_yX9_either0 se_yX9_either0 ml_RX9_335 cl_9 hk_v0 ⟨rfl, rfl, Nat.le_trans (Nat.le_of_ble_eq_true rfl) hR.1, Nat.le_trans (Nat.le_of_ble_eq_true rfl) hR.2⟩ hl (Nat.le_of_ble_eq_true rfl) dX9_part_31 ⟨Nat.zero_le _, Nat.zero_le _⟩ rfl) (fun H locs h hX => ?_)
      have hE := hE.trans hX
      have hk_v0 := hX.k hk_v0 (by decide)
      exact w_X9_part_34 fu C K hr hlk hR q3.2 v0 q3.1 hE hk_v0 hf _ _ _ h (lv_sub hl [0] rfl)
    · have hf := if_f hf c2
      refine lv_iconst (v := (0 : Int32)) C.1 C.2.1 dX9_part_26 (by decide) ?_
      refine lv_goto (tgt := 34) C.1 C.2.1 dX9_part_27 (by decide) ?_
      exact w_X9_part_34 fu C K hr hlk hR σ v0 (0 : Int32) hE hk_v0 hf _ _ _ h (lv_sub hl [0] rfl)
  · have hf := if_t hf c1
    refine lv_aload_n C.1 C.2.1 dX9_part_15 rfl (lv_at hl 0 rfl) ?_
    obtain ⟨q4, hq_q4, hf⟩ := ob_ hf
    refine x_av K h (x_V C K h [] (c_X9_next fu l κ G cy ad H.size σ v0 hk_v0 hq_q4) mi_X9_next rfl im_yX9_next se_yX9_next ml_RX9_190 cl_9 hk_v0 ⟨rfl, rfl, Nat.le_trans (Nat.le_of_ble_eq_true rfl) hR.1, Nat.le_trans (Nat.le_of_ble_eq_true rfl) hR.2⟩ hl (Nat.le_of_ble_eq_true rfl) dX9_part_16 ⟨Nat.zero_le _, Nat.zero_le _⟩ rfl) (fun H locs h hX => ?_)
    have hE := hE.trans hX
    have hk_v0 := hX.k hk_v0 (by decide)
    refine lv_aload_n C.1 C.2.1 dX9_part_19 rfl (lv_at hl 0 rfl) ?_
    refine x_get (v := .int (si_ q4 v0 25)) C K h cl_9 hk_v0 25 (by decide) fl_RX9_174 rfl dX9_part_20 ?_
    refine lv_if_eq (tgt := 30) C.1 C.2.1 dX9_part_23 (by decide) (fun c5 => ?_) (fun c5 => ?_)
    · have hf := if_t hf c5
      refine lv_aload_n C.1 C.2.1 dX9_part_30 rfl (lv_at hl 0 rfl) ?_
      obtain ⟨q6, hq_q6, hf⟩ := ob_ hf
      refine x_ai K h (x_V C K h [] (c_X9_either0 fu l κ G cy ad H.size q4 v0 hk_v0 hq_q6) mi_X9_either0 rfl im_yX9_either0 se_yX9_either0 ml_RX9_335 cl_9 hk_v0 ⟨rfl, rfl, Nat.le_trans (Nat.le_of_ble_eq_true rfl) hR.1, Nat.le_trans (Nat.le_of_ble_eq_true rfl) hR.2⟩ hl (Nat.le_of_ble_eq_true rfl) dX9_part_31 ⟨Nat.zero_le _, Nat.zero_le _⟩ rfl) (fun H locs h hX => ?_)
      have hE := hE.trans hX
      have hk_v0 := hX.k hk_v0 (by decide)
      exact w_X9_part_34 fu C K hr hlk hR q6.2 v0 q6.1 hE hk_v0 hf _ _ _ h (lv_sub hl [0] rfl)
    · have hf := if_f hf c5
      refine lv_iconst (v := (0 : Int32)) C.1 C.2.1 dX9_part_26 (by decide) ?_
      refine lv_goto (tgt := 34) C.1 C.2.1 dX9_part_27 (by decide) ?_
      exact w_X9_part_34 fu C K hr hlk hR q4 v0 (0 : Int32) hE hk_v0 hf _ _ _ h (lv_sub hl [0] rfl)
def f_X9_part (fu : Nat) (σ : St_) (a0 : Nat) (x1 : Int32) : Option (Int32 × St_) := if x1 = 0 then f_X9_part_8 fu (f_X9_fail σ a0) a0 else f_X9_part_8 fu σ a0
set_option maxHeartbeats 4000000 in
set_option maxRecDepth 100000 in
theorem w_X9_part {p : Program} {l : Launch} {e : Env} {R : Room} {s : State} {m : MethodId} {args : Array Value} {below : List Frame} {meth : Method} {c : Code} {κ : Ka_} {G : va_G} {cy : Nat → ClassId} {ad : Nat → Nat} {sz : Nat} {σ0 : St_} (fu : Nat) (C : CallFix p m c cX9_part 3 s args wU_ RX9) (K : Kx_ κ G cy (va_A (wl_ cy ad σ0) sz) s) (hr : meth.sig.returnType = some .int) (hlk : meth.locks = false) (hR : 40 ≤ R.frames ∧ 883 ≤ R.locals) {q : Int32 × St_} : ∀ (σ : St_) (a0 : Nat) (x1 : Int32), Ex_ σ0 σ → kd_ σ a0 = 9 → f_X9_part fu σ a0 x1 = some q → ∀ (H : Heap) (locs : List Loc) (ls : Array Slot), Ht_ G cy (va_A (wl_ cy ad σ0) sz) s ad σ H locs → lv_has ls 3 [(0, .ref (ad a0)), (1, .int x1)] → W p l e R s m args below meth c H locs 0 0 (MQ below (Qi_ G cy ad σ0 q.2 sz q.1) args s 0 0 (va_A (wl_ cy ad σ0) sz)) (F0 m 0 ls []) := by
  intro σ a0 x1 hE hk_a0 hf H locs ls h hl
  have hf : (if x1 = 0 then f_X9_part_8 fu (f_X9_fail σ a0) a0 else f_X9_part_8 fu σ a0) = some q := hf
  refine lv_iload_n C.1 C.2.1 dX9_part_0 rfl (lv_at hl 1 rfl) ?_
  refine lv_if_ne (tgt := 8) C.1 C.2.1 dX9_part_1 (by decide) (fun c2 => ?_) (fun c2 => ?_)
  · have hf := if_f hf c2
    exact w_X9_part_8 fu C K hr hlk hR σ a0 hE hk_a0 hf _ _ _ h (lv_sub hl [0] rfl)
  · have hf := if_t hf c2
    refine lv_aload_n C.1 C.2.1 dX9_part_4 rfl (lv_at hl 0 rfl) ?_
    refine x_av K h (x_V C K h [] (c_X9_fail l κ G cy ad H.size σ a0 hk_a0 rfl) mi_X9_fail rfl im_yX9_fail se_yX9_fail ml_RX9_187 cl_9 hk_a0 ⟨rfl, rfl, Nat.le_trans (Nat.le_of_ble_eq_true rfl) hR.1, Nat.le_trans (Nat.le_of_ble_eq_true rfl) hR.2⟩ hl (Nat.le_of_ble_eq_true rfl) dX9_part_5 ⟨Nat.zero_le _, Nat.zero_le _⟩ rfl) (fun H locs h hX => ?_)
    have hE := hE.trans hX
    have hk_a0 := hX.k hk_a0 (by decide)
    exact w_X9_part_8 fu C K hr hlk hR (f_X9_fail σ a0) a0 hE hk_a0 hf _ _ _ h (lv_sub hl [0] rfl)
theorem c_X9_part (fu : Nat) (l : Launch) (κ : Ka_) (G : va_G) (cy : Nat → ClassId) (ad : Nat → Nat) (sz : Nat) (σ : St_) (a0 : Nat) (x1 : Int32) (hk_a0 : kd_ σ a0 = 9) {q : Int32 × St_} (hf : f_X9_part fu σ a0 x1 = some q) : Met l yX9_part (Cond.code yX9_part cX9_part 3 (some .int) :: wU_) { frames := 40, cells := 0, slots := 0, locals := 883 } (va_Pc [.ref (ad a0), .int x1] (Pr_ κ G cy ad σ sz)) (Qi_ G cy ad σ q.2 sz q.1) 0 0 (va_A (wl_ cy ad σ) sz) :=
  x_met (by decide) (fun p e R s m below meth c ls hR C hr hlk hin _ K h hl => w_X9_part fu C K hr hlk ⟨hR.1, hR.2.1⟩ σ a0 x1 Ex_.rf hk_a0 hf s.heap [] ls h hl) (Nat.le_of_ble_eq_true rfl)
-- X9_read
theorem mi_X9_read : Mi_ yX9_read cX9_read 6 (some .int) 2 := ⟨co_yX9_read, in_RX9, by decide, by decide, by decide +kernel⟩
def f_X9_read_147 (fu : Nat) (σ : St_) (v2 : Int32) (v3 : Int32) (v4 : Int32) (v5 : Int32) : Option (Int32 × St_) := if v2 = 0 then some (v3, σ) else if v2 = (1 : Int32) then some (v4, σ) else some (v5, σ)
set_option maxHeartbeats 4000000 in
set_option maxRecDepth 100000 in
theorem w_X9_read_147 {p : Program} {l : Launch} {e : Env} {R : Room} {s : State} {m : MethodId} {args : Array Value} {below : List Frame} {meth : Method} {c : Code} {κ : Ka_} {G : va_G} {cy : Nat → ClassId} {ad : Nat → Nat} {sz : Nat} {σ0 : St_} (fu : Nat) (C : CallFix p m c cX9_read 6 s args wU_ RX9) (K : Kx_ κ G cy (va_A (wl_ cy ad σ0) sz) s) (hr : meth.sig.returnType = some .int) (hlk : meth.locks = false) (hR : 41 ≤ R.frames ∧ 905 ≤ R.locals) {q : Int32 × St_} : ∀ (σ : St_) (v2 : Int32) (v3 : Int32) (v4 : Int32) (v5 : Int32), Ex_ σ0 σ → f_X9_read_147 fu σ v2 v3 v4 v5 = some q → ∀ (H : Heap) (locs : List Loc) (ls : Array Slot), Ht_ G cy (va_A (wl_ cy ad σ0) sz) s ad σ H locs → lv_has ls 6 [(2, .int v2), (3, .int v3), (4, .int v4), (5, .int v5)] → W p l e R s m args below meth c H locs 0 0 (MQ below (Qi_ G cy ad σ0 q.2 sz q.1) args s 0 0 (va_A (wl_ cy ad σ0) sz)) (F0 m 147 ls []) := by
  intro σ v2 v3 v4 v5 hE hf H locs ls h hl
  have hf : (if v2 = 0 then some (v3, σ) else if v2 = (1 : Int32) then some (v4, σ) else some (v5, σ)) = some q := hf
  refine lv_iload_n C.1 C.2.1 dX9_read_147 rfl (lv_at hl 0 rfl) ?_
  refine lv_if_ne (tgt := 155) C.1 C.2.1 dX9_read_148 (by decide) (fun c1 => ?_) (fun c1 => ?_)
  · have hf := if_f hf c1
    refine lv_iload_n C.1 C.2.1 dX9_read_155 rfl (lv_at hl 0 rfl) ?_
    refine lv_iconst (v := (1 : Int32)) C.1 C.2.1 dX9_read_156 (by decide) ?_
    refine lv_icmp_ne (tgt := 165) C.1 C.2.1 dX9_read_157 (by decide) (fun c2 => ?_) (fun c2 => ?_)
    · have hf := if_f hf c2
      refine lv_iload C.1 C.2.1 dX9_read_165 (lv_at hl 3 rfl) ?_
      exact x_ri C hr hlk h hE (pf_1 (Option.some.inj hf)) (pf_2 (Option.some.inj hf)) dX9_read_167
    · have hf := if_t hf c2
      refine lv_iload C.1 C.2.1 dX9_read_160 (lv_at hl 2 rfl) ?_
      refine lv_goto (tgt := 167) C.1 C.2.1 dX9_read_162 (by decide) ?_
      exact x_ri C hr hlk h hE (pf_1 (Option.some.inj hf)) (pf_2 (Option.some.inj hf)) dX9_read_167
  · have hf := if_t hf c1
    refine lv_iload_n C.1 C.2.1 dX9_read_151 rfl (lv_at hl 1 rfl) ?_
    refine lv_goto (tgt := 167) C.1 C.2.1 dX9_read_152 (by decide) ?_
    exact x_ri C hr hlk h hE (pf_1 (Option.some.inj hf)) (pf_2 (Option.some.inj hf)) dX9_read_167
def f_X9_read_127 (fu : Nat) (σ : St_) (v0 : Nat) (v2 : Int32) (v3 : Int32) (v4 : Int32) (s0 : Int32) : Option (Int32 × St_) := if (si_ σ v0 25) = 0 then if (si_ σ v0 21) = 0 then f_X9_read_147 fu σ v2 v3 v4 s0 else f_X9_read_147 fu (f_X9_fail σ v0) v2 v3 v4 s0 else f_X9_read_147 fu σ v2 v3 v4 s0
set_option maxHeartbeats 4000000 in
set_option maxRecDepth 100000 in
theorem w_X9_read_127 {p : Program} {l : Launch} {e : Env} {R : Room} {s : State} {m : MethodId} {args : Array Value} {below : List Frame} {meth : Method} {c : Code} {κ : Ka_} {G : va_G} {cy : Nat → ClassId} {ad : Nat → Nat} {sz : Nat} {σ0 : St_} (fu : Nat) (C : CallFix p m c cX9_read 6 s args wU_ RX9) (K : Kx_ κ G cy (va_A (wl_ cy ad σ0) sz) s) (hr : meth.sig.returnType = some .int) (hlk : meth.locks = false) (hR : 41 ≤ R.frames ∧ 905 ≤ R.locals) {q : Int32 × St_} : ∀ (σ : St_) (v0 : Nat) (v2 : Int32) (v3 : Int32) (v4 : Int32) (s0 : Int32), Ex_ σ0 σ → kd_ σ v0 = 9 → f_X9_read_127 fu σ v0 v2 v3 v4 s0 = some q → ∀ (H : Heap) (locs : List Loc) (ls : Array Slot), Ht_ G cy (va_A (wl_ cy ad σ0) sz) s ad σ H locs → lv_has ls 6 [(0, .ref (ad v0)), (2, .int v2), (3, .int v3), (4, .int v4)] → W p l e R s m args below meth c H locs 0 0 (MQ below (Qi_ G cy ad σ0 q.2 sz q.1) args s 0 0 (va_A (wl_ cy ad σ0) sz)) (F0 m 127 ls [.int s0]) := by
  intro σ v0 v2 v3 v4 s0 hE hk_v0 hf H locs ls h hl
  have hf : (if (si_ σ v0 25) = 0 then if (si_ σ v0 21) = 0 then f_X9_read_147 fu σ v2 v3 v4 s0 else f_X9_read_147 fu (f_X9_fail σ v0) v2 v3 v4 s0 else f_X9_read_147 fu σ v2 v3 v4 s0) = some q := hf
  refine lv_istore (i := 5) (lv' := [(5, .int s0), (0, .ref (ad v0)), (2, .int v2), (3, .int v3), (4, .int v4)]) C.1 C.2.1 dX9_read_127 hl (by decide) rfl (fun ls hl => ?_)
  refine lv_aload_n C.1 C.2.1 dX9_read_129 rfl (lv_at hl 1 rfl) ?_
  refine x_get (v := .int (si_ σ v0 25)) C K h cl_9 hk_v0 25 (by decide) fl_RX9_174 rfl dX9_read_130 ?_
  refine lv_if_ne (tgt := 147) C.1 C.2.1 dX9_read_133 (by decide) (fun c1 => ?_) (fun c1 => ?_)
  · have hf := if_f hf c1
    exact w_X9_read_147 fu C K hr hlk hR σ v2 v3 v4 s0 hE hf _ _ _ h (lv_sub hl [2, 3, 4, 0] rfl)
  · have hf := if_t hf c1
    refine lv_aload_n C.1 C.2.1 dX9_read_136 rfl (lv_at hl 1 rfl) ?_
    refine x_get (v := .int (si_ σ v0 21)) C K h cl_9 hk_v0 21 (by decide) fl_RX9_159 rfl dX9_read_137 ?_
    refine lv_if_eq (tgt := 147) C.1 C.2.1 dX9_read_140 (by decide) (fun c2 => ?_) (fun c2 => ?_)
    · have hf := if_t hf c2
      exact w_X9_read_147 fu C K hr hlk hR σ v2 v3 v4 s0 hE hf _ _ _ h (lv_sub hl [2, 3, 4, 0] rfl)
    · have hf := if_f hf c2
      refine lv_aload_n C.1 C.2.1 dX9_read_143 rfl (lv_at hl 1 rfl) ?_
      refine x_av K h (x_V C K h [] (c_X9_fail l κ G cy ad H.size σ v0 hk_v0 rfl) mi_X9_fail rfl im_yX9_fail se_yX9_fail ml_RX9_187 cl_9 hk_v0 ⟨rfl, rfl, Nat.le_trans (Nat.le_of_ble_eq_true rfl) hR.1, Nat.le_trans (Nat.le_of_ble_eq_true rfl) hR.2⟩ hl (Nat.le_of_ble_eq_true rfl) dX9_read_144 ⟨Nat.zero_le _, Nat.zero_le _⟩ rfl) (fun H locs h hX => ?_)
      have hE := hE.trans hX
      have hk_v0 := hX.k hk_v0 (by decide)
      exact w_X9_read_147 fu C K hr hlk hR (f_X9_fail σ v0) v2 v3 v4 s0 hE hf _ _ _ h (lv_sub hl [2, 3, 4, 0] rfl)
def f_X9_read_93 (fu : Nat) (σ : St_) (v0 : Nat) (v2 : Int32) (v3 : Int32) (s0 : Int32) : Option (Int32 × St_) := if (si_ σ v0 25) = 0 then (f_X9_isWord_ σ v0 (114 : Int32) (105 : Int32) (115 : Int32) (101 : Int32) (115 : Int32) (0 : Int32) (0 : Int32) (0 : Int32)).bind fun q2 => (f_X9_part fu σ v0 q2).bind fun q4 => f_X9_read_127 fu q4.2 v0 v2 v3 s0 q4.1 else f_X9_read_127 fu σ v0 v2 v3 s0 (0 : Int32)
set_option maxHeartbeats 4000000 in
set_option maxRecDepth 100000 in
theorem w_X9_read_93 {p : Program} {l : Launch} {e : Env} {R : Room} {s : State} {m : MethodId} {args : Array Value} {below : List Frame} {meth : Method} {c : Code} {κ : Ka_} {G : va_G} {cy : Nat → ClassId} {ad : Nat → Nat} {sz : Nat} {σ0 : St_} (fu : Nat) (C : CallFix p m c cX9_read 6 s args wU_ RX9) (K : Kx_ κ G cy (va_A (wl_ cy ad σ0) sz) s) (hr : meth.sig.returnType = some .int) (hlk : meth.locks = false) (hR : 41 ≤ R.frames ∧ 905 ≤ R.locals) {q : Int32 × St_} : ∀ (σ : St_) (v0 : Nat) (v2 : Int32) (v3 : Int32) (s0 : Int32), Ex_ σ0 σ → kd_ σ v0 = 9 → f_X9_read_93 fu σ v0 v2 v3 s0 = some q → ∀ (H : Heap) (locs : List Loc) (ls : Array Slot), Ht_ G cy (va_A (wl_ cy ad σ0) sz) s ad σ H locs → lv_has ls 6 [(0, .ref (ad v0)), (2, .int v2), (3, .int v3)] → W p l e R s m args below meth c H locs 0 0 (MQ below (Qi_ G cy ad σ0 q.2 sz q.1) args s 0 0 (va_A (wl_ cy ad σ0) sz)) (F0 m 93 ls [.int s0]) := by
  intro σ v0 v2 v3 s0 hE hk_v0 hf H locs ls h hl
  have hf : (if (si_ σ v0 25) = 0 then (f_X9_isWord_ σ v0 (114 : Int32) (105 : Int32) (115 : Int32) (101 : Int32) (115 : Int32) (0 : Int32) (0 : Int32) (0 : Int32)).bind fun q2 => (f_X9_part fu σ v0 q2).bind fun q4 => f_X9_read_127 fu q4.2 v0 v2 v3 s0 q4.1 else f_X9_read_127 fu σ v0 v2 v3 s0 (0 : Int32)) = some q := hf
  refine lv_istore (i := 4) (lv' := [(4, .int s0), (0, .ref (ad v0)), (2, .int v2), (3, .int v3)]) C.1 C.2.1 dX9_read_93 hl (by decide) rfl (fun ls hl => ?_)
  refine lv_aload_n C.1 C.2.1 dX9_read_95 rfl (lv_at hl 1 rfl) ?_
  refine x_get (v := .int (si_ σ v0 25)) C K h cl_9 hk_v0 25 (by decide) fl_RX9_174 rfl dX9_read_96 ?_
  refine lv_if_eq (tgt := 106) C.1 C.2.1 dX9_read_99 (by decide) (fun c1 => ?_) (fun c1 => ?_)
  · have hf := if_t hf c1
    refine lv_aload_n C.1 C.2.1 dX9_read_106 rfl (lv_at hl 1 rfl) ?_
    refine lv_aload_n C.1 C.2.1 dX9_read_107 rfl (lv_at hl 1 rfl) ?_
    refine lv_bipush (v := (114 : Int32)) C.1 C.2.1 dX9_read_108 (by decide) ?_
    refine lv_bipush (v := (105 : Int32)) C.1 C.2.1 dX9_read_110 (by decide) ?_
    refine lv_bipush (v := (115 : Int32)) C.1 C.2.1 dX9_read_112 (by decide) ?_
    refine lv_bipush (v := (101 : Int32)) C.1 C.2.1 dX9_read_114 (by decide) ?_
    refine lv_bipush (v := (115 : Int32)) C.1 C.2.1 dX9_read_116 (by decide) ?_
    refine lv_iconst (v := (0 : Int32)) C.1 C.2.1 dX9_read_118 (by decide) ?_
    refine lv_iconst (v := (0 : Int32)) C.1 C.2.1 dX9_read_119 (by decide) ?_
    refine lv_iconst (v := (0 : Int32)) C.1 C.2.1 dX9_read_120 (by decide) ?_
    obtain ⟨q2, hq_q2, hf⟩ := ob_ hf
    refine x_az K h (x_V C K h [.int (114 : Int32), .int (105 : Int32), .int (115 : Int32), .int (101 : Int32), .int (115 : Int32), .int (0 : Int32), .int (0 : Int32), .int (0 : Int32)] (c_X9_isWord_ l κ G cy ad H.size σ v0 (114 : Int32) (105 : Int32) (115 : Int32) (101 : Int32) (115 : Int32) (0 : Int32) (0 : Int32) (0 : Int32) hk_v0 hq_q2) mi_X9_isWord_ rfl im_yX9_isWord_ se_yX9_isWord_ ml_RX9_193 cl_9 hk_v0 ⟨rfl, rfl, Nat.le_trans (Nat.le_of_ble_eq_true rfl) hR.1, Nat.le_trans (Nat.le_of_ble_eq_true rfl) hR.2⟩ hl (Nat.le_of_ble_eq_true rfl) dX9_read_121 ⟨Nat.zero_le _, Nat.zero_le _⟩ rfl) (fun H locs h hX hz3 => ?_)
    obtain ⟨q4, hq_q4, hf⟩ := ob_ hf
    refine x_ai K h (x_V C K h [.int q2] (c_X9_part fu l κ G cy ad H.size σ v0 q2 hk_v0 hq_q4) mi_X9_part rfl im_yX9_part se_yX9_part ml_RX9_338 cl_9 hk_v0 ⟨rfl, rfl, Nat.le_trans (Nat.le_of_ble_eq_true rfl) hR.1, Nat.le_trans (Nat.le_of_ble_eq_true rfl) hR.2⟩ hl (Nat.le_of_ble_eq_true rfl) dX9_read_124 ⟨Nat.zero_le _, Nat.zero_le _⟩ rfl) (fun H locs h hX => ?_)
    have hE := hE.trans hX
    have hk_v0 := hX.k hk_v0 (by decide)
    exact w_X9_read_127 fu C K hr hlk hR q4.2 v0 v2 v3 s0 q4.1 hE hk_v0 hf _ _ _ h (lv_sub hl [1, 2, 3, 0] rfl)
  · have hf := if_f hf c1
    refine lv_iconst (v := (0 : Int32)) C.1 C.2.1 dX9_read_102 (by decide) ?_
    refine lv_goto (tgt := 127) C.1 C.2.1 dX9_read_103 (by decide) ?_
    exact w_X9_read_127 fu C K hr hlk hR σ v0 v2 v3 s0 (0 : Int32) hE hk_v0 hf _ _ _ h (lv_sub hl [1, 2, 3, 0] rfl)
def f_X9_read (fu : Nat) (σ : St_) (a0 : Nat) (x1 : Int32) (x2 : Int32) : Option (Int32 × St_) := (dr_ (ui_ σ a0 18 ((160 : Int32) * x1)) 10 (sr_ (ui_ σ a0 18 ((160 : Int32) * x1)) a0 2)).bind fun b3 => (ix_ x1 (ln_ (ui_ σ a0 18 ((160 : Int32) * x1)) b3)).bind fun j4 => (f_X9_next fu (ui_ (ui_ (ui_ (ui_ (ui_ σ a0 18 ((160 : Int32) * x1)) a0 19 (si_ (ui_ σ a0 18 ((160 : Int32) * x1)) b3 j4)) a0 20 (0 : Int32)) a0 24 (0 : Int32)) a0 25 (0 : Int32)) a0).bind fun q5 => (f_X9_isWord_ q5 a0 (101 : Int32) (97 : Int32) (115 : Int32) (116 : Int32) (115 : Int32) (0 : Int32) (0 : Int32) (0 : Int32)).bind fun q6 => (f_X9_part fu q5 a0 q6).bind fun q8 => if (si_ q8.2 a0 25) = 0 then (f_X9_isWord_ q8.2 a0 (115 : Int32) (111 : Int32) (117 : Int32) (116 : Int32) (104 : Int32) (115 : Int32) (0 : Int32) (0 : Int32)).bind fun q10 => (f_X9_part fu q8.2 a0 q10).bind fun q12 => f_X9_read_93 fu q12.2 a0 x2 q8.1 q12.1 else f_X9_read_93 fu q8.2 a0 x2 q8.1 (0 : Int32)
set_option maxHeartbeats 4000000 in
set_option maxRecDepth 100000 in
theorem w_X9_read {p : Program} {l : Launch} {e : Env} {R : Room} {s : State} {m : MethodId} {args : Array Value} {below : List Frame} {meth : Method} {c : Code} {κ : Ka_} {G : va_G} {cy : Nat → ClassId} {ad : Nat → Nat} {sz : Nat} {σ0 : St_} (fu : Nat) (C : CallFix p m c cX9_read 6 s args wU_ RX9) (K : Kx_ κ G cy (va_A (wl_ cy ad σ0) sz) s) (hr : meth.sig.returnType = some .int) (hlk : meth.locks = false) (hR : 41 ≤ R.frames ∧ 905 ≤ R.locals) {q : Int32 × St_} : ∀ (σ : St_) (a0 : Nat) (x1 : Int32) (x2 : Int32), Ex_ σ0 σ → kd_ σ a0 = 9 → f_X9_read fu σ a0 x1 x2 = some q → ∀ (H : Heap) (locs : List Loc) (ls : Array Slot), Ht_ G cy (va_A (wl_ cy ad σ0) sz) s ad σ H locs → lv_has ls 6 [(0, .ref (ad a0)), (1, .int x1), (2, .int x2)] → W p l e R s m args below meth c H locs 0 0 (MQ below (Qi_ G cy ad σ0 q.2 sz q.1) args s 0 0 (va_A (wl_ cy ad σ0) sz)) (F0 m 0 ls []) := by
  intro σ a0 x1 x2 hE hk_a0 hf H locs ls h hl
  have hf : ((dr_ (ui_ σ a0 18 ((160 : Int32) * x1)) 10 (sr_ (ui_ σ a0 18 ((160 : Int32) * x1)) a0 2)).bind fun b3 => (ix_ x1 (ln_ (ui_ σ a0 18 ((160 : Int32) * x1)) b3)).bind fun j4 => (f_X9_next fu (ui_ (ui_ (ui_ (ui_ (ui_ σ a0 18 ((160 : Int32) * x1)) a0 19 (si_ (ui_ σ a0 18 ((160 : Int32) * x1)) b3 j4)) a0 20 (0 : Int32)) a0 24 (0 : Int32)) a0 25 (0 : Int32)) a0).bind fun q5 => (f_X9_isWord_ q5 a0 (101 : Int32) (97 : Int32) (115 : Int32) (116 : Int32) (115 : Int32) (0 : Int32) (0 : Int32) (0 : Int32)).bind fun q6 => (f_X9_part fu q5 a0 q6).bind fun q8 => if (si_ q8.2 a0 25) = 0 then (f_X9_isWord_ q8.2 a0 (115 : Int32) (111 : Int32) (117 : Int32) (116 : Int32) (104 : Int32) (115 : Int32) (0 : Int32) (0 : Int32)).bind fun q10 => (f_X9_part fu q8.2 a0 q10).bind fun q12 => f_X9_read_93 fu q12.2 a0 x2 q8.1 q12.1 else f_X9_read_93 fu q8.2 a0 x2 q8.1 (0 : Int32)) = some q := hf
  refine lv_aload_n C.1 C.2.1 dX9_read_0 rfl (lv_at hl 0 rfl) ?_
  refine lv_sipush (v := (160 : Int32)) C.1 C.2.1 dX9_read_1 (by decide) ?_
  refine lv_iload_n C.1 C.2.1 dX9_read_4 rfl (lv_at hl 1 rfl) ?_
  refine lv_imul C.1 C.2.1 dX9_read_5 ?_
  refine x_putI C K h cl_9 hk_a0 18 (by decide) fl_RX9_147 rfl rfl rfl (Nat.le_of_ble_eq_true rfl) (fun _ _ _ => rfl) dX9_read_6 (fun H locs h => ?_)
  have hE := hE.up (up_i σ a0 18 ((160 : Int32) * x1))
  refine lv_aload_n C.1 C.2.1 dX9_read_9 rfl (lv_at hl 0 rfl) ?_
  refine lv_aload_n C.1 C.2.1 dX9_read_10 rfl (lv_at hl 0 rfl) ?_
  obtain ⟨b3, hb_b3, hf⟩ := ob_ hf
  obtain ⟨hq_b3, hk_b3⟩ := dr_in hb_b3
  refine x_get (v := .ref (ad b3)) C K h cl_9 hk_a0 2 (by decide) fl_RX9_17 (hv_r (o := sr_ (ui_ σ a0 18 ((160 : Int32) * x1)) a0 2) rfl hq_b3) dX9_read_11 ?_
  refine lv_iload_n C.1 C.2.1 dX9_read_14 rfl (lv_at hl 1 rfl) ?_
  obtain ⟨j4, hj_j4, hf⟩ := ob_ hf
  refine x_iald C K h hk_b3 hj_j4 dX9_read_15 ?_
  refine x_putI C K h cl_9 hk_a0 19 (by decide) fl_RX9_144 rfl rfl rfl (Nat.le_of_ble_eq_true rfl) (fun _ _ _ => rfl) dX9_read_16 (fun H locs h => ?_)
  have hE := hE.up (up_i (ui_ σ a0 18 ((160 : Int32) * x1)) a0 19 (si_ (ui_ σ a0 18 ((160 : Int32) * x1)) b3 j4))
  refine lv_aload_n C.1 C.2.1 dX9_read_19 rfl (lv_at hl 0 rfl) ?_
  refine lv_iconst (v := (0 : Int32)) C.1 C.2.1 dX9_read_20 (by decide) ?_
  refine x_putI C K h cl_9 hk_a0 20 (by decide) fl_RX9_150 rfl rfl rfl (Nat.le_of_ble_eq_true rfl) (fun _ _ _ => rfl) dX9_read_21 (fun H locs h => ?_)
  have hE := hE.up (up_i (ui_ (ui_ σ a0 18 ((160 : Int32) * x1)) a0 19 (si_ (ui_ σ a0 18 ((160 : Int32) * x1)) b3 j4)) a0 20 (0 : Int32))
  refine lv_aload_n C.1 C.2.1 dX9_read_24 rfl (lv_at hl 0 rfl) ?_
  refine lv_iconst (v := (0 : Int32)) C.1 C.2.1 dX9_read_25 (by decide) ?_
  refine x_putI C K h cl_9 hk_a0 24 (by decide) fl_RX9_184 rfl rfl rfl (Nat.le_of_ble_eq_true rfl) (fun _ _ _ => rfl) dX9_read_26 (fun H locs h => ?_)
  have hE := hE.up (up_i (ui_ (ui_ (ui_ σ a0 18 ((160 : Int32) * x1)) a0 19 (si_ (ui_ σ a0 18 ((160 : Int32) * x1)) b3 j4)) a0 20 (0 : Int32)) a0 24 (0 : Int32))
  refine lv_aload_n C.1 C.2.1 dX9_read_29 rfl (lv_at hl 0 rfl) ?_
  refine lv_iconst (v := (0 : Int32)) C.1 C.2.1 dX9_read_30 (by decide) ?_
  refine x_putI C K h cl_9 hk_a0 25 (by decide) fl_RX9_174 rfl (by decide) (by decide) (Nat.le_of_ble_eq_true rfl) (fun _ _ _ => rfl) dX9_read_31 (fun H locs h => ?_)
  have hE := hE.up (up_i (ui_ (ui_ (ui_ (ui_ σ a0 18 ((160 : Int32) * x1)) a0 19 (si_ (ui_ σ a0 18 ((160 : Int32) * x1)) b3 j4)) a0 20 (0 : Int32)) a0 24 (0 : Int32)) a0 25 (0 : Int32))
  refine lv_aload_n C.1 C.2.1 dX9_read_34 rfl (lv_at hl 0 rfl) ?_
  obtain ⟨q5, hq_q5, hf⟩ := ob_ hf
  refine x_av K h (x_V C K h [] (c_X9_next fu l κ G cy ad H.size (ui_ (ui_ (ui_ (ui_ (ui_ σ a0 18 ((160 : Int32) * x1)) a0 19 (si_ (ui_ σ a0 18 ((160 : Int32) * x1)) b3 j4)) a0 20 (0 : Int32)) a0 24 (0 : Int32)) a0 25 (0 : Int32)) a0 hk_a0 hq_q5) mi_X9_next rfl im_yX9_next se_yX9_next ml_RX9_190 cl_9 hk_a0 ⟨rfl, rfl, Nat.le_trans (Nat.le_of_ble_eq_true rfl) hR.1, Nat.le_trans (Nat.le_of_ble_eq_true rfl) hR.2⟩ hl (Nat.le_of_ble_eq_true rfl) dX9_read_35 ⟨Nat.zero_le _, Nat.zero_le _⟩ rfl) (fun H locs h hX => ?_)
  have hE := hE.trans hX
  have hk_a0 := hX.k hk_a0 (by decide)
  refine lv_aload_n C.1 C.2.1 dX9_read_38 rfl (lv_at hl 0 rfl) ?_
  refine lv_aload_n C.1 C.2.1 dX9_read_39 rfl (lv_at hl 0 rfl) ?_
  refine lv_bipush (v := (101 : Int32)) C.1 C.2.1 dX9_read_40 (by decide) ?_
  refine lv_bipush (v := (97 : Int32)) C.1 C.2.1 dX9_read_42 (by decide) ?_
  refine lv_bipush (v := (115 : Int32)) C.1 C.2.1 dX9_read_44 (by decide) ?_
  refine lv_bipush (v := (116 : Int32)) C.1 C.2.1 dX9_read_46 (by decide) ?_
  refine lv_bipush (v := (115 : Int32)) C.1 C.2.1 dX9_read_48 (by decide) ?_
  refine lv_iconst (v := (0 : Int32)) C.1 C.2.1 dX9_read_50 (by decide) ?_
  refine lv_iconst (v := (0 : Int32)) C.1 C.2.1 dX9_read_51 (by decide) ?_
  refine lv_iconst (v := (0 : Int32)) C.1 C.2.1 dX9_read_52 (by decide) ?_
  obtain ⟨q6, hq_q6, hf⟩ := ob_ hf
  refine x_az K h (x_V C K h [.int (101 : Int32), .int (97 : Int32), .int (115 : Int32), .int (116 : Int32), .int (115 : Int32), .int (0 : Int32), .int (0 : Int32), .int (0 : Int32)] (c_X9_isWord_ l κ G cy ad H.size q5 a0 (101 : Int32) (97 : Int32) (115 : Int32) (116 : Int32) (115 : Int32) (0 : Int32) (0 : Int32) (0 : Int32) hk_a0 hq_q6) mi_X9_isWord_ rfl im_yX9_isWord_ se_yX9_isWord_ ml_RX9_193 cl_9 hk_a0 ⟨rfl, rfl, Nat.le_trans (Nat.le_of_ble_eq_true rfl) hR.1, Nat.le_trans (Nat.le_of_ble_eq_true rfl) hR.2⟩ hl (Nat.le_of_ble_eq_true rfl) dX9_read_53 ⟨Nat.zero_le _, Nat.zero_le _⟩ rfl) (fun H locs h hX hz7 => ?_)
  obtain ⟨q8, hq_q8, hf⟩ := ob_ hf
  refine x_ai K h (x_V C K h [.int q6] (c_X9_part fu l κ G cy ad H.size q5 a0 q6 hk_a0 hq_q8) mi_X9_part rfl im_yX9_part se_yX9_part ml_RX9_338 cl_9 hk_a0 ⟨rfl, rfl, Nat.le_trans (Nat.le_of_ble_eq_true rfl) hR.1, Nat.le_trans (Nat.le_of_ble_eq_true rfl) hR.2⟩ hl (Nat.le_of_ble_eq_true rfl) dX9_read_56 ⟨Nat.zero_le _, Nat.zero_le _⟩ rfl) (fun H locs h hX => ?_)
  have hE := hE.trans hX
  have hk_a0 := hX.k hk_a0 (by decide)
  refine lv_istore_n (i := 3) (lv' := [(3, .int q8.1), (0, .ref (ad a0)), (1, .int x1), (2, .int x2)]) C.1 C.2.1 dX9_read_59 rfl hl (by decide) rfl (fun ls hl => ?_)
  refine lv_aload_n C.1 C.2.1 dX9_read_60 rfl (lv_at hl 1 rfl) ?_
  refine x_get (v := .int (si_ q8.2 a0 25)) C K h cl_9 hk_a0 25 (by decide) fl_RX9_174 rfl dX9_read_61 ?_
  refine lv_if_eq (tgt := 71) C.1 C.2.1 dX9_read_64 (by decide) (fun c9 => ?_) (fun c9 => ?_)
  · have hf := if_t hf c9
    refine lv_aload_n C.1 C.2.1 dX9_read_71 rfl (lv_at hl 1 rfl) ?_
    refine lv_aload_n C.1 C.2.1 dX9_read_72 rfl (lv_at hl 1 rfl) ?_
    refine lv_bipush (v := (115 : Int32)) C.1 C.2.1 dX9_read_73 (by decide) ?_
    refine lv_bipush (v := (111 : Int32)) C.1 C.2.1 dX9_read_75 (by decide) ?_
    refine lv_bipush (v := (117 : Int32)) C.1 C.2.1 dX9_read_77 (by decide) ?_
    refine lv_bipush (v := (116 : Int32)) C.1 C.2.1 dX9_read_79 (by decide) ?_
    refine lv_bipush (v := (104 : Int32)) C.1 C.2.1 dX9_read_81 (by decide) ?_
    refine lv_bipush (v := (115 : Int32)) C.1 C.2.1 dX9_read_83 (by decide) ?_
    refine lv_iconst (v := (0 : Int32)) C.1 C.2.1 dX9_read_85 (by decide) ?_
    refine lv_iconst (v := (0 : Int32)) C.1 C.2.1 dX9_read_86 (by decide) ?_
    obtain ⟨q10, hq_q10, hf⟩ := ob_ hf
    refine x_az K h (x_V C K h [.int (115 : Int32), .int (111 : Int32), .int (117 : Int32), .int (116 : Int32), .int (104 : Int32), .int (115 : Int32), .int (0 : Int32), .int (0 : Int32)] (c_X9_isWord_ l κ G cy ad H.size q8.2 a0 (115 : Int32) (111 : Int32) (117 : Int32) (116 : Int32) (104 : Int32) (115 : Int32) (0 : Int32) (0 : Int32) hk_a0 hq_q10) mi_X9_isWord_ rfl im_yX9_isWord_ se_yX9_isWord_ ml_RX9_193 cl_9 hk_a0 ⟨rfl, rfl, Nat.le_trans (Nat.le_of_ble_eq_true rfl) hR.1, Nat.le_trans (Nat.le_of_ble_eq_true rfl) hR.2⟩ hl (Nat.le_of_ble_eq_true rfl) dX9_read_87 ⟨Nat.zero_le _, Nat.zero_le _⟩ rfl) (fun H locs h hX hz11 => ?_)
    obtain ⟨q12, hq_q12, hf⟩ := ob_ hf
    refine x_ai K h (x_V C K h [.int q10] (c_X9_part fu l κ G cy ad H.size q8.2 a0 q10 hk_a0 hq_q12) mi_X9_part rfl im_yX9_part se_yX9_part ml_RX9_338 cl_9 hk_a0 ⟨rfl, rfl, Nat.le_trans (Nat.le_of_ble_eq_true rfl) hR.1, Nat.le_trans (Nat.le_of_ble_eq_true rfl) hR.2⟩ hl (Nat.le_of_ble_eq_true rfl) dX9_read_90 ⟨Nat.zero_le _, Nat.zero_le _⟩ rfl) (fun H locs h hX => ?_)
    have hE := hE.trans hX
    have hk_a0 := hX.k hk_a0 (by decide)
    exact w_X9_read_93 fu C K hr hlk hR q12.2 a0 x2 q8.1 q12.1 hE hk_a0 hf _ _ _ h (lv_sub hl [1, 3, 0] rfl)
  · have hf := if_f hf c9
    refine lv_iconst (v := (0 : Int32)) C.1 C.2.1 dX9_read_67 (by decide) ?_
    refine lv_goto (tgt := 93) C.1 C.2.1 dX9_read_68 (by decide) ?_
    exact w_X9_read_93 fu C K hr hlk hR q8.2 a0 x2 q8.1 (0 : Int32) hE hk_a0 hf _ _ _ h (lv_sub hl [1, 3, 0] rfl)
theorem c_X9_read (fu : Nat) (l : Launch) (κ : Ka_) (G : va_G) (cy : Nat → ClassId) (ad : Nat → Nat) (sz : Nat) (σ : St_) (a0 : Nat) (x1 : Int32) (x2 : Int32) (hk_a0 : kd_ σ a0 = 9) {q : Int32 × St_} (hf : f_X9_read fu σ a0 x1 x2 = some q) : Met l yX9_read (Cond.code yX9_read cX9_read 6 (some .int) :: wU_) { frames := 41, cells := 0, slots := 0, locals := 905 } (va_Pc [.ref (ad a0), .int x1, .int x2] (Pr_ κ G cy ad σ sz)) (Qi_ G cy ad σ q.2 sz q.1) 0 0 (va_A (wl_ cy ad σ) sz) :=
  x_met (by decide) (fun p e R s m below meth c ls hR C hr hlk hin _ K h hl => w_X9_read fu C K hr hlk ⟨hR.1, hR.2.1⟩ σ a0 x1 x2 Ex_.rf hk_a0 hf s.heap [] ls h hl) (Nat.le_of_ble_eq_true rfl)
-- X9_says
theorem mi_X9_says : Mi_ yX9_says cX9_says 6 (some .int) 4 := ⟨co_yX9_says, in_RX9, by decide, by decide, by decide +kernel⟩
def f_X9_says (fu : Nat) (σ : St_) (a0 : Nat) (x1 : Int32) (x2 : Int32) (x3 : Int32) (x4 : Int32) : Option (Int32 × St_) := (dr_ (ui_ σ a0 12 x4) 10 (sr_ (ui_ σ a0 12 x4) a0 10)).bind fun b5 => (ix_ ((3 : Int32) * x2) (ln_ (ui_ σ a0 12 x4) b5)).bind fun j6 => (ix_ (((3 : Int32) * x2) + (2 : Int32)) (ln_ (ui_ (ui_ (ui_ (ui_ (ui_ σ a0 12 x4) a0 13 (si_ (ui_ σ a0 12 x4) b5 j6)) a0 14 (x3 - x3 / (6 : Int32) * (6 : Int32))) a0 15 (x3 / (6 : Int32))) a0 16 (si_ (ui_ (ui_ (ui_ (ui_ σ a0 12 x4) a0 13 (si_ (ui_ σ a0 12 x4) b5 j6)) a0 14 (x3 - x3 / (6 : Int32) * (6 : Int32))) a0 15 (x3 / (6 : Int32))) a0 7)) b5)).bind fun j7 => (f_X9_read fu (ui_ (ui_ (ui_ (ui_ (ui_ (ui_ σ a0 12 x4) a0 13 (si_ (ui_ σ a0 12 x4) b5 j6)) a0 14 (x3 - x3 / (6 : Int32) * (6 : Int32))) a0 15 (x3 / (6 : Int32))) a0 16 (si_ (ui_ (ui_ (ui_ (ui_ σ a0 12 x4) a0 13 (si_ (ui_ σ a0 12 x4) b5 j6)) a0 14 (x3 - x3 / (6 : Int32) * (6 : Int32))) a0 15 (x3 / (6 : Int32))) a0 7)) a0 17 (si_ (ui_ (ui_ (ui_ (ui_ (ui_ σ a0 12 x4) a0 13 (si_ (ui_ σ a0 12 x4) b5 j6)) a0 14 (x3 - x3 / (6 : Int32) * (6 : Int32))) a0 15 (x3 / (6 : Int32))) a0 16 (si_ (ui_ (ui_ (ui_ (ui_ σ a0 12 x4) a0 13 (si_ (ui_ σ a0 12 x4) b5 j6)) a0 14 (x3 - x3 / (6 : Int32) * (6 : Int32))) a0 15 (x3 / (6 : Int32))) a0 7)) b5 j7)) a0 (si_ (ui_ (ui_ (ui_ (ui_ (ui_ (ui_ σ a0 12 x4) a0 13 (si_ (ui_ σ a0 12 x4) b5 j6)) a0 14 (x3 - x3 / (6 : Int32) * (6 : Int32))) a0 15 (x3 / (6 : Int32))) a0 16 (si_ (ui_ (ui_ (ui_ (ui_ σ a0 12 x4) a0 13 (si_ (ui_ σ a0 12 x4) b5 j6)) a0 14 (x3 - x3 / (6 : Int32) * (6 : Int32))) a0 15 (x3 / (6 : Int32))) a0 7)) a0 17 (si_ (ui_ (ui_ (ui_ (ui_ (ui_ σ a0 12 x4) a0 13 (si_ (ui_ σ a0 12 x4) b5 j6)) a0 14 (x3 - x3 / (6 : Int32) * (6 : Int32))) a0 15 (x3 / (6 : Int32))) a0 16 (si_ (ui_ (ui_ (ui_ (ui_ σ a0 12 x4) a0 13 (si_ (ui_ σ a0 12 x4) b5 j6)) a0 14 (x3 - x3 / (6 : Int32) * (6 : Int32))) a0 15 (x3 / (6 : Int32))) a0 7)) b5 j7)) a0 4) x1).bind fun q8 => if x1 = (2 : Int32) then some (f_X9_within q8.1 (0 : Int32) (99 : Int32), q8.2) else some (f_X9_within q8.1 (-5 : Int32) (5 : Int32), q8.2)
set_option maxHeartbeats 4000000 in
set_option maxRecDepth 100000 in
theorem w_X9_says {p : Program} {l : Launch} {e : Env} {R : Room} {s : State} {m : MethodId} {args : Array Value} {below : List Frame} {meth : Method} {c : Code} {κ : Ka_} {G : va_G} {cy : Nat → ClassId} {ad : Nat → Nat} {sz : Nat} {σ0 : St_} (fu : Nat) (C : CallFix p m c cX9_says 6 s args wU_ RX9) (K : Kx_ κ G cy (va_A (wl_ cy ad σ0) sz) s) (hr : meth.sig.returnType = some .int) (hlk : meth.locks = false) (hR : 42 ≤ R.frames ∧ 930 ≤ R.locals) {q : Int32 × St_} : ∀ (σ : St_) (a0 : Nat) (x1 : Int32) (x2 : Int32) (x3 : Int32) (x4 : Int32), Ex_ σ0 σ → kd_ σ a0 = 9 → f_X9_says fu σ a0 x1 x2 x3 x4 = some q → ∀ (H : Heap) (locs : List Loc) (ls : Array Slot), Ht_ G cy (va_A (wl_ cy ad σ0) sz) s ad σ H locs → lv_has ls 6 [(0, .ref (ad a0)), (1, .int x1), (2, .int x2), (3, .int x3), (4, .int x4)] → W p l e R s m args below meth c H locs 0 0 (MQ below (Qi_ G cy ad σ0 q.2 sz q.1) args s 0 0 (va_A (wl_ cy ad σ0) sz)) (F0 m 0 ls []) := by
  intro σ a0 x1 x2 x3 x4 hE hk_a0 hf H locs ls h hl
  have hf : ((dr_ (ui_ σ a0 12 x4) 10 (sr_ (ui_ σ a0 12 x4) a0 10)).bind fun b5 => (ix_ ((3 : Int32) * x2) (ln_ (ui_ σ a0 12 x4) b5)).bind fun j6 => (ix_ (((3 : Int32) * x2) + (2 : Int32)) (ln_ (ui_ (ui_ (ui_ (ui_ (ui_ σ a0 12 x4) a0 13 (si_ (ui_ σ a0 12 x4) b5 j6)) a0 14 (x3 - x3 / (6 : Int32) * (6 : Int32))) a0 15 (x3 / (6 : Int32))) a0 16 (si_ (ui_ (ui_ (ui_ (ui_ σ a0 12 x4) a0 13 (si_ (ui_ σ a0 12 x4) b5 j6)) a0 14 (x3 - x3 / (6 : Int32) * (6 : Int32))) a0 15 (x3 / (6 : Int32))) a0 7)) b5)).bind fun j7 => (f_X9_read fu (ui_ (ui_ (ui_ (ui_ (ui_ (ui_ σ a0 12 x4) a0 13 (si_ (ui_ σ a0 12 x4) b5 j6)) a0 14 (x3 - x3 / (6 : Int32) * (6 : Int32))) a0 15 (x3 / (6 : Int32))) a0 16 (si_ (ui_ (ui_ (ui_ (ui_ σ a0 12 x4) a0 13 (si_ (ui_ σ a0 12 x4) b5 j6)) a0 14 (x3 - x3 / (6 : Int32) * (6 : Int32))) a0 15 (x3 / (6 : Int32))) a0 7)) a0 17 (si_ (ui_ (ui_ (ui_ (ui_ (ui_ σ a0 12 x4) a0 13 (si_ (ui_ σ a0 12 x4) b5 j6)) a0 14 (x3 - x3 / (6 : Int32) * (6 : Int32))) a0 15 (x3 / (6 : Int32))) a0 16 (si_ (ui_ (ui_ (ui_ (ui_ σ a0 12 x4) a0 13 (si_ (ui_ σ a0 12 x4) b5 j6)) a0 14 (x3 - x3 / (6 : Int32) * (6 : Int32))) a0 15 (x3 / (6 : Int32))) a0 7)) b5 j7)) a0 (si_ (ui_ (ui_ (ui_ (ui_ (ui_ (ui_ σ a0 12 x4) a0 13 (si_ (ui_ σ a0 12 x4) b5 j6)) a0 14 (x3 - x3 / (6 : Int32) * (6 : Int32))) a0 15 (x3 / (6 : Int32))) a0 16 (si_ (ui_ (ui_ (ui_ (ui_ σ a0 12 x4) a0 13 (si_ (ui_ σ a0 12 x4) b5 j6)) a0 14 (x3 - x3 / (6 : Int32) * (6 : Int32))) a0 15 (x3 / (6 : Int32))) a0 7)) a0 17 (si_ (ui_ (ui_ (ui_ (ui_ (ui_ σ a0 12 x4) a0 13 (si_ (ui_ σ a0 12 x4) b5 j6)) a0 14 (x3 - x3 / (6 : Int32) * (6 : Int32))) a0 15 (x3 / (6 : Int32))) a0 16 (si_ (ui_ (ui_ (ui_ (ui_ σ a0 12 x4) a0 13 (si_ (ui_ σ a0 12 x4) b5 j6)) a0 14 (x3 - x3 / (6 : Int32) * (6 : Int32))) a0 15 (x3 / (6 : Int32))) a0 7)) b5 j7)) a0 4) x1).bind fun q8 => if x1 = (2 : Int32) then some (f_X9_within q8.1 (0 : Int32) (99 : Int32), q8.2) else some (f_X9_within q8.1 (-5 : Int32) (5 : Int32), q8.2)) = some q := hf
  refine lv_aload_n C.1 C.2.1 dX9_says_0 rfl (lv_at hl 0 rfl) ?_
  refine lv_iload C.1 C.2.1 dX9_says_1 (lv_at hl 4 rfl) ?_
  refine x_putI C K h cl_9 hk_a0 12 (by decide) fl_RX9_197 rfl rfl rfl (Nat.le_of_ble_eq_true rfl) (fun _ _ _ => rfl) dX9_says_3 (fun H locs h => ?_)
  have hE := hE.up (up_i σ a0 12 x4)
  refine lv_aload_n C.1 C.2.1 dX9_says_6 rfl (lv_at hl 0 rfl) ?_
  refine lv_aload_n C.1 C.2.1 dX9_says_7 rfl (lv_at hl 0 rfl) ?_
  obtain ⟨b5, hb_b5, hf⟩ := ob_ hf
  obtain ⟨hq_b5, hk_b5⟩ := dr_in hb_b5
  refine x_get (v := .ref (ad b5)) C K h cl_9 hk_a0 10 (by decide) fl_RX9_29 (hv_r (o := sr_ (ui_ σ a0 12 x4) a0 10) rfl hq_b5) dX9_says_8 ?_
  refine lv_iconst (v := (3 : Int32)) C.1 C.2.1 dX9_says_11 (by decide) ?_
  refine lv_iload_n C.1 C.2.1 dX9_says_12 rfl (lv_at hl 2 rfl) ?_
  refine lv_imul C.1 C.2.1 dX9_says_13 ?_
  obtain ⟨j6, hj_j6, hf⟩ := ob_ hf
  refine x_iald C K h hk_b5 hj_j6 dX9_says_14 ?_
  refine x_putI C K h cl_9 hk_a0 13 (by decide) fl_RX9_200 rfl rfl rfl (Nat.le_of_ble_eq_true rfl) (fun _ _ _ => rfl) dX9_says_15 (fun H locs h => ?_)
  have hE := hE.up (up_i (ui_ σ a0 12 x4) a0 13 (si_ (ui_ σ a0 12 x4) b5 j6))
  refine lv_aload_n C.1 C.2.1 dX9_says_18 rfl (lv_at hl 0 rfl) ?_
  refine lv_iload_n C.1 C.2.1 dX9_says_19 rfl (lv_at hl 3 rfl) ?_
  refine lv_bipush (v := (6 : Int32)) C.1 C.2.1 dX9_says_20 (by decide) ?_
  refine lv_irem C.1 C.2.1 dX9_says_22 (by decide) ?_
  refine x_putI C K h cl_9 hk_a0 14 (by decide) fl_RX9_203 rfl rfl rfl (Nat.le_of_ble_eq_true rfl) (fun _ _ _ => rfl) dX9_says_23 (fun H locs h => ?_)
  have hE := hE.up (up_i (ui_ (ui_ σ a0 12 x4) a0 13 (si_ (ui_ σ a0 12 x4) b5 j6)) a0 14 (x3 - x3 / (6 : Int32) * (6 : Int32)))
  refine lv_aload_n C.1 C.2.1 dX9_says_26 rfl (lv_at hl 0 rfl) ?_
  refine lv_iload_n C.1 C.2.1 dX9_says_27 rfl (lv_at hl 3 rfl) ?_
  refine lv_bipush (v := (6 : Int32)) C.1 C.2.1 dX9_says_28 (by decide) ?_
  refine lv_idiv C.1 C.2.1 dX9_says_30 (by decide) ?_
  refine x_putI C K h cl_9 hk_a0 15 (by decide) fl_RX9_206 rfl rfl rfl (Nat.le_of_ble_eq_true rfl) (fun _ _ _ => rfl) dX9_says_31 (fun H locs h => ?_)
  have hE := hE.up (up_i (ui_ (ui_ (ui_ σ a0 12 x4) a0 13 (si_ (ui_ σ a0 12 x4) b5 j6)) a0 14 (x3 - x3 / (6 : Int32) * (6 : Int32))) a0 15 (x3 / (6 : Int32)))
  refine lv_aload_n C.1 C.2.1 dX9_says_34 rfl (lv_at hl 0 rfl) ?_
  refine lv_aload_n C.1 C.2.1 dX9_says_35 rfl (lv_at hl 0 rfl) ?_
  refine x_get (v := .int (si_ (ui_ (ui_ (ui_ (ui_ σ a0 12 x4) a0 13 (si_ (ui_ σ a0 12 x4) b5 j6)) a0 14 (x3 - x3 / (6 : Int32) * (6 : Int32))) a0 15 (x3 / (6 : Int32))) a0 7)) C K h cl_9 hk_a0 7 (by decide) fl_RX9_116 rfl dX9_says_36 ?_
  refine x_putI C K h cl_9 hk_a0 16 (by decide) fl_RX9_209 rfl rfl rfl (Nat.le_of_ble_eq_true rfl) (fun _ _ _ => rfl) dX9_says_39 (fun H locs h => ?_)
  have hE := hE.up (up_i (ui_ (ui_ (ui_ (ui_ σ a0 12 x4) a0 13 (si_ (ui_ σ a0 12 x4) b5 j6)) a0 14 (x3 - x3 / (6 : Int32) * (6 : Int32))) a0 15 (x3 / (6 : Int32))) a0 16 (si_ (ui_ (ui_ (ui_ (ui_ σ a0 12 x4) a0 13 (si_ (ui_ σ a0 12 x4) b5 j6)) a0 14 (x3 - x3 / (6 : Int32) * (6 : Int32))) a0 15 (x3 / (6 : Int32))) a0 7))
  refine lv_aload_n C.1 C.2.1 dX9_says_42 rfl (lv_at hl 0 rfl) ?_
  refine lv_aload_n C.1 C.2.1 dX9_says_43 rfl (lv_at hl 0 rfl) ?_
  refine x_get (v := .ref (ad b5)) C K h cl_9 hk_a0 10 (by decide) fl_RX9_29 (hv_r (o := sr_ (ui_ (ui_ (ui_ (ui_ (ui_ σ a0 12 x4) a0 13 (si_ (ui_ σ a0 12 x4) b5 j6)) a0 14 (x3 - x3 / (6 : Int32) * (6 : Int32))) a0 15 (x3 / (6 : Int32))) a0 16 (si_ (ui_ (ui_ (ui_ (ui_ σ a0 12 x4) a0 13 (si_ (ui_ σ a0 12 x4) b5 j6)) a0 14 (x3 - x3 / (6 : Int32) * (6 : Int32))) a0 15 (x3 / (6 : Int32))) a0 7)) a0 10) rfl hq_b5) dX9_says_44 ?_
  refine lv_iconst (v := (3 : Int32)) C.1 C.2.1 dX9_says_47 (by decide) ?_
  refine lv_iload_n C.1 C.2.1 dX9_says_48 rfl (lv_at hl 2 rfl) ?_
  refine lv_imul C.1 C.2.1 dX9_says_49 ?_
  refine lv_iconst (v := (2 : Int32)) C.1 C.2.1 dX9_says_50 (by decide) ?_
  refine lv_iadd C.1 C.2.1 dX9_says_51 ?_
  obtain ⟨j7, hj_j7, hf⟩ := ob_ hf
  refine x_iald C K h hk_b5 hj_j7 dX9_says_52 ?_
  refine x_putI C K h cl_9 hk_a0 17 (by decide) fl_RX9_212 rfl rfl rfl (Nat.le_of_ble_eq_true rfl) (fun _ _ _ => rfl) dX9_says_53 (fun H locs h => ?_)
  have hE := hE.up (up_i (ui_ (ui_ (ui_ (ui_ (ui_ σ a0 12 x4) a0 13 (si_ (ui_ σ a0 12 x4) b5 j6)) a0 14 (x3 - x3 / (6 : Int32) * (6 : Int32))) a0 15 (x3 / (6 : Int32))) a0 16 (si_ (ui_ (ui_ (ui_ (ui_ σ a0 12 x4) a0 13 (si_ (ui_ σ a0 12 x4) b5 j6)) a0 14 (x3 - x3 / (6 : Int32) * (6 : Int32))) a0 15 (x3 / (6 : Int32))) a0 7)) a0 17 (si_ (ui_ (ui_ (ui_ (ui_ (ui_ σ a0 12 x4) a0 13 (si_ (ui_ σ a0 12 x4) b5 j6)) a0 14 (x3 - x3 / (6 : Int32) * (6 : Int32))) a0 15 (x3 / (6 : Int32))) a0 16 (si_ (ui_ (ui_ (ui_ (ui_ σ a0 12 x4) a0 13 (si_ (ui_ σ a0 12 x4) b5 j6)) a0 14 (x3 - x3 / (6 : Int32) * (6 : Int32))) a0 15 (x3 / (6 : Int32))) a0 7)) b5 j7))
  refine lv_aload_n C.1 C.2.1 dX9_says_56 rfl (lv_at hl 0 rfl) ?_
  refine lv_aload_n C.1 C.2.1 dX9_says_57 rfl (lv_at hl 0 rfl) ?_
  refine x_get (v := .int (si_ (ui_ (ui_ (ui_ (ui_ (ui_ (ui_ σ a0 12 x4) a0 13 (si_ (ui_ σ a0 12 x4) b5 j6)) a0 14 (x3 - x3 / (6 : Int32) * (6 : Int32))) a0 15 (x3 / (6 : Int32))) a0 16 (si_ (ui_ (ui_ (ui_ (ui_ σ a0 12 x4) a0 13 (si_ (ui_ σ a0 12 x4) b5 j6)) a0 14 (x3 - x3 / (6 : Int32) * (6 : Int32))) a0 15 (x3 / (6 : Int32))) a0 7)) a0 17 (si_ (ui_ (ui_ (ui_ (ui_ (ui_ σ a0 12 x4) a0 13 (si_ (ui_ σ a0 12 x4) b5 j6)) a0 14 (x3 - x3 / (6 : Int32) * (6 : Int32))) a0 15 (x3 / (6 : Int32))) a0 16 (si_ (ui_ (ui_ (ui_ (ui_ σ a0 12 x4) a0 13 (si_ (ui_ σ a0 12 x4) b5 j6)) a0 14 (x3 - x3 / (6 : Int32) * (6 : Int32))) a0 15 (x3 / (6 : Int32))) a0 7)) b5 j7)) a0 4)) C K h cl_9 hk_a0 4 (by decide) fl_RX9_119 rfl dX9_says_58 ?_
  refine lv_iload_n C.1 C.2.1 dX9_says_61 rfl (lv_at hl 1 rfl) ?_
  obtain ⟨q8, hq_q8, hf⟩ := ob_ hf
  refine x_ai K h (x_V C K h [.int (si_ (ui_ (ui_ (ui_ (ui_ (ui_ (ui_ σ a0 12 x4) a0 13 (si_ (ui_ σ a0 12 x4) b5 j6)) a0 14 (x3 - x3 / (6 : Int32) * (6 : Int32))) a0 15 (x3 / (6 : Int32))) a0 16 (si_ (ui_ (ui_ (ui_ (ui_ σ a0 12 x4) a0 13 (si_ (ui_ σ a0 12 x4) b5 j6)) a0 14 (x3 - x3 / (6 : Int32) * (6 : Int32))) a0 15 (x3 / (6 : Int32))) a0 7)) a0 17 (si_ (ui_ (ui_ (ui_ (ui_ (ui_ σ a0 12 x4) a0 13 (si_ (ui_ σ a0 12 x4) b5 j6)) a0 14 (x3 - x3 / (6 : Int32) * (6 : Int32))) a0 15 (x3 / (6 : Int32))) a0 16 (si_ (ui_ (ui_ (ui_ (ui_ σ a0 12 x4) a0 13 (si_ (ui_ σ a0 12 x4) b5 j6)) a0 14 (x3 - x3 / (6 : Int32) * (6 : Int32))) a0 15 (x3 / (6 : Int32))) a0 7)) b5 j7)) a0 4), .int x1] (c_X9_read fu l κ G cy ad H.size (ui_ (ui_ (ui_ (ui_ (ui_ (ui_ σ a0 12 x4) a0 13 (si_ (ui_ σ a0 12 x4) b5 j6)) a0 14 (x3 - x3 / (6 : Int32) * (6 : Int32))) a0 15 (x3 / (6 : Int32))) a0 16 (si_ (ui_ (ui_ (ui_ (ui_ σ a0 12 x4) a0 13 (si_ (ui_ σ a0 12 x4) b5 j6)) a0 14 (x3 - x3 / (6 : Int32) * (6 : Int32))) a0 15 (x3 / (6 : Int32))) a0 7)) a0 17 (si_ (ui_ (ui_ (ui_ (ui_ (ui_ σ a0 12 x4) a0 13 (si_ (ui_ σ a0 12 x4) b5 j6)) a0 14 (x3 - x3 / (6 : Int32) * (6 : Int32))) a0 15 (x3 / (6 : Int32))) a0 16 (si_ (ui_ (ui_ (ui_ (ui_ σ a0 12 x4) a0 13 (si_ (ui_ σ a0 12 x4) b5 j6)) a0 14 (x3 - x3 / (6 : Int32) * (6 : Int32))) a0 15 (x3 / (6 : Int32))) a0 7)) b5 j7)) a0 (si_ (ui_ (ui_ (ui_ (ui_ (ui_ (ui_ σ a0 12 x4) a0 13 (si_ (ui_ σ a0 12 x4) b5 j6)) a0 14 (x3 - x3 / (6 : Int32) * (6 : Int32))) a0 15 (x3 / (6 : Int32))) a0 16 (si_ (ui_ (ui_ (ui_ (ui_ σ a0 12 x4) a0 13 (si_ (ui_ σ a0 12 x4) b5 j6)) a0 14 (x3 - x3 / (6 : Int32) * (6 : Int32))) a0 15 (x3 / (6 : Int32))) a0 7)) a0 17 (si_ (ui_ (ui_ (ui_ (ui_ (ui_ σ a0 12 x4) a0 13 (si_ (ui_ σ a0 12 x4) b5 j6)) a0 14 (x3 - x3 / (6 : Int32) * (6 : Int32))) a0 15 (x3 / (6 : Int32))) a0 16 (si_ (ui_ (ui_ (ui_ (ui_ σ a0 12 x4) a0 13 (si_ (ui_ σ a0 12 x4) b5 j6)) a0 14 (x3 - x3 / (6 : Int32) * (6 : Int32))) a0 15 (x3 / (6 : Int32))) a0 7)) b5 j7)) a0 4) x1 hk_a0 hq_q8) mi_X9_read rfl im_yX9_read se_yX9_read ml_RX9_342 cl_9 hk_a0 ⟨rfl, rfl, Nat.le_trans (Nat.le_of_ble_eq_true rfl) hR.1, Nat.le_trans (Nat.le_of_ble_eq_true rfl) hR.2⟩ hl (Nat.le_of_ble_eq_true rfl) dX9_says_62 ⟨Nat.zero_le _, Nat.zero_le _⟩ rfl) (fun H locs h hX => ?_)
  have hE := hE.trans hX
  have hk_a0 := hX.k hk_a0 (by decide)
  refine lv_istore (i := 5) (lv' := [(5, .int q8.1), (0, .ref (ad a0)), (1, .int x1), (2, .int x2), (3, .int x3), (4, .int x4)]) C.1 C.2.1 dX9_says_65 hl (by decide) rfl (fun ls hl => ?_)
  refine lv_iload_n C.1 C.2.1 dX9_says_67 rfl (lv_at hl 2 rfl) ?_
  refine lv_iconst (v := (2 : Int32)) C.1 C.2.1 dX9_says_68 (by decide) ?_
  refine lv_icmp_ne (tgt := 83) C.1 C.2.1 dX9_says_69 (by decide) (fun c9 => ?_) (fun c9 => ?_)
  · have hf := if_f hf c9
    refine lv_iload C.1 C.2.1 dX9_says_83 (lv_at hl 0 rfl) ?_
    refine lv_bipush (v := (-5 : Int32)) C.1 C.2.1 dX9_says_85 (by decide) ?_
    refine lv_iconst (v := (5 : Int32)) C.1 C.2.1 dX9_says_87 (by decide) ?_
    refine x_ai K h (x_S C K h [.int q8.1, .int (-5 : Int32), .int (5 : Int32)] (c_X9_within l κ G cy ad H.size q8.2 q8.1 (-5 : Int32) (5 : Int32) rfl) mi_X9_within rfl st_yX9_within ml_RX9_345 ⟨rfl, rfl, Nat.le_trans (Nat.le_of_ble_eq_true rfl) hR.1, Nat.le_trans (Nat.le_of_ble_eq_true rfl) hR.2⟩ hl (Nat.le_of_ble_eq_true rfl) dX9_says_88 ⟨Nat.zero_le _, Nat.zero_le _⟩ rfl) (fun H locs h hX => ?_)
    exact x_ri C hr hlk h hE (pf_1 (Option.some.inj hf)) (pf_2 (Option.some.inj hf)) dX9_says_91
  · have hf := if_t hf c9
    refine lv_iload C.1 C.2.1 dX9_says_72 (lv_at hl 0 rfl) ?_
    refine lv_iconst (v := (0 : Int32)) C.1 C.2.1 dX9_says_74 (by decide) ?_
    refine lv_bipush (v := (99 : Int32)) C.1 C.2.1 dX9_says_75 (by decide) ?_
    refine x_ai K h (x_S C K h [.int q8.1, .int (0 : Int32), .int (99 : Int32)] (c_X9_within l κ G cy ad H.size q8.2 q8.1 (0 : Int32) (99 : Int32) rfl) mi_X9_within rfl st_yX9_within ml_RX9_345 ⟨rfl, rfl, Nat.le_trans (Nat.le_of_ble_eq_true rfl) hR.1, Nat.le_trans (Nat.le_of_ble_eq_true rfl) hR.2⟩ hl (Nat.le_of_ble_eq_true rfl) dX9_says_77 ⟨Nat.zero_le _, Nat.zero_le _⟩ rfl) (fun H locs h hX => ?_)
    refine lv_goto (tgt := 91) C.1 C.2.1 dX9_says_80 (by decide) ?_
    exact x_ri C hr hlk h hE (pf_1 (Option.some.inj hf)) (pf_2 (Option.some.inj hf)) dX9_says_91
theorem c_X9_says (fu : Nat) (l : Launch) (κ : Ka_) (G : va_G) (cy : Nat → ClassId) (ad : Nat → Nat) (sz : Nat) (σ : St_) (a0 : Nat) (x1 : Int32) (x2 : Int32) (x3 : Int32) (x4 : Int32) (hk_a0 : kd_ σ a0 = 9) {q : Int32 × St_} (hf : f_X9_says fu σ a0 x1 x2 x3 x4 = some q) : Met l yX9_says (Cond.code yX9_says cX9_says 6 (some .int) :: wU_) { frames := 42, cells := 0, slots := 0, locals := 930 } (va_Pc [.ref (ad a0), .int x1, .int x2, .int x3, .int x4] (Pr_ κ G cy ad σ sz)) (Qi_ G cy ad σ q.2 sz q.1) 0 0 (va_A (wl_ cy ad σ) sz) :=
  x_met (by decide) (fun p e R s m below meth c ls hR C hr hlk hin _ K h hl => w_X9_says fu C K hr hlk ⟨hR.1, hR.2.1⟩ σ a0 x1 x2 x3 x4 Ex_.rf hk_a0 hf s.heap [] ls h hl) (Nat.le_of_ble_eq_true rfl)
-- X9_eastOf
theorem mi_X9_eastOf : Mi_ yX9_eastOf cX9_eastOf 6 (some .int) 3 := ⟨co_yX9_eastOf, in_RX9, by decide, by decide, by decide +kernel⟩
def f_X9_eastOf_106 (fu : Nat) (σ : St_) (s0 : Int32) : Option (Int32 × St_) := some (f_X9_within s0 (-5 : Int32) (5 : Int32), σ)
set_option maxHeartbeats 4000000 in
set_option maxRecDepth 100000 in
theorem w_X9_eastOf_106 {p : Program} {l : Launch} {e : Env} {R : Room} {s : State} {m : MethodId} {args : Array Value} {below : List Frame} {meth : Method} {c : Code} {κ : Ka_} {G : va_G} {cy : Nat → ClassId} {ad : Nat → Nat} {sz : Nat} {σ0 : St_} (fu : Nat) (C : CallFix p m c cX9_eastOf 6 s args wU_ RX9) (K : Kx_ κ G cy (va_A (wl_ cy ad σ0) sz) s) (hr : meth.sig.returnType = some .int) (hlk : meth.locks = false) (hR : 43 ≤ R.frames ∧ 955 ≤ R.locals) {q : Int32 × St_} : ∀ (σ : St_) (s0 : Int32), Ex_ σ0 σ → f_X9_eastOf_106 fu σ s0 = some q → ∀ (H : Heap) (locs : List Loc) (ls : Array Slot), Ht_ G cy (va_A (wl_ cy ad σ0) sz) s ad σ H locs → lv_has ls 6 [] → W p l e R s m args below meth c H locs 0 0 (MQ below (Qi_ G cy ad σ0 q.2 sz q.1) args s 0 0 (va_A (wl_ cy ad σ0) sz)) (F0 m 106 ls [.int s0]) := by
  intro σ s0 hE hf H locs ls h hl
  have hf : (some (f_X9_within s0 (-5 : Int32) (5 : Int32), σ)) = some q := hf
  refine lv_bipush (v := (-5 : Int32)) C.1 C.2.1 dX9_eastOf_106 (by decide) ?_
  refine lv_iconst (v := (5 : Int32)) C.1 C.2.1 dX9_eastOf_108 (by decide) ?_
  refine x_ai K h (x_S C K h [.int s0, .int (-5 : Int32), .int (5 : Int32)] (c_X9_within l κ G cy ad H.size σ s0 (-5 : Int32) (5 : Int32) rfl) mi_X9_within rfl st_yX9_within ml_RX9_345 ⟨rfl, rfl, Nat.le_trans (Nat.le_of_ble_eq_true rfl) hR.1, Nat.le_trans (Nat.le_of_ble_eq_true rfl) hR.2⟩ hl (Nat.le_of_ble_eq_true rfl) dX9_eastOf_109 ⟨Nat.zero_le _, Nat.zero_le _⟩ rfl) (fun H locs h hX => ?_)
  exact x_ri C hr hlk h hE (pf_1 (Option.some.inj hf)) (pf_2 (Option.some.inj hf)) dX9_eastOf_112
def f_X9_eastOf_45 (fu : Nat) (σ : St_) (v0 : Nat) (v1 : Int32) (v2 : Int32) (v3 : Int32) (v4 : Int32) : Option (Int32 × St_) := (f_X9_says fu σ v0 (0 : Int32) v1 v2 v3).bind fun q1 => if v4 = (1 : Int32) then f_X9_eastOf_106 fu q1.2 ((2 : Int32) * q1.1) else if v4 = (3 : Int32) then (dr_ q1.2 10 (sr_ q1.2 v0 10)).bind fun b5 => (ix_ ((3 : Int32) * v1) (ln_ q1.2 b5)).bind fun j6 => f_X9_eastOf_106 fu q1.2 (((2 : Int32) * q1.1) + ((si_ q1.2 b5 j6) - (si_ q1.2 b5 j6) / (3 : Int32) * (3 : Int32))) else if v4 = (5 : Int32) then f_X9_eastOf_106 fu q1.2 (-q1.1) else f_X9_eastOf_106 fu q1.2 q1.1
set_option maxHeartbeats 4000000 in
set_option maxRecDepth 100000 in
theorem w_X9_eastOf_45 {p : Program} {l : Launch} {e : Env} {R : Room} {s : State} {m : MethodId} {args : Array Value} {below : List Frame} {meth : Method} {c : Code} {κ : Ka_} {G : va_G} {cy : Nat → ClassId} {ad : Nat → Nat} {sz : Nat} {σ0 : St_} (fu : Nat) (C : CallFix p m c cX9_eastOf 6 s args wU_ RX9) (K : Kx_ κ G cy (va_A (wl_ cy ad σ0) sz) s) (hr : meth.sig.returnType = some .int) (hlk : meth.locks = false) (hR : 43 ≤ R.frames ∧ 955 ≤ R.locals) {q : Int32 × St_} : ∀ (σ : St_) (v0 : Nat) (v1 : Int32) (v2 : Int32) (v3 : Int32) (v4 : Int32), Ex_ σ0 σ → kd_ σ v0 = 9 → f_X9_eastOf_45 fu σ v0 v1 v2 v3 v4 = some q → ∀ (H : Heap) (locs : List Loc) (ls : Array Slot), Ht_ G cy (va_A (wl_ cy ad σ0) sz) s ad σ H locs → lv_has ls 6 [(0, .ref (ad v0)), (1, .int v1), (2, .int v2), (3, .int v3), (4, .int v4)] → W p l e R s m args below meth c H locs 0 0 (MQ below (Qi_ G cy ad σ0 q.2 sz q.1) args s 0 0 (va_A (wl_ cy ad σ0) sz)) (F0 m 45 ls []) := by
  intro σ v0 v1 v2 v3 v4 hE hk_v0 hf H locs ls h hl
  have hf : ((f_X9_says fu σ v0 (0 : Int32) v1 v2 v3).bind fun q1 => if v4 = (1 : Int32) then f_X9_eastOf_106 fu q1.2 ((2 : Int32) * q1.1) else if v4 = (3 : Int32) then (dr_ q1.2 10 (sr_ q1.2 v0 10)).bind fun b5 => (ix_ ((3 : Int32) * v1) (ln_ q1.2 b5)).bind fun j6 => f_X9_eastOf_106 fu q1.2 (((2 : Int32) * q1.1) + ((si_ q1.2 b5 j6) - (si_ q1.2 b5 j6) / (3 : Int32) * (3 : Int32))) else if v4 = (5 : Int32) then f_X9_eastOf_106 fu q1.2 (-q1.1) else f_X9_eastOf_106 fu q1.2 q1.1) = some q := hf
  refine lv_aload_n C.1 C.2.1 dX9_eastOf_45 rfl (lv_at hl 0 rfl) ?_
  refine lv_iconst (v := (0 : Int32)) C.1 C.2.1 dX9_eastOf_46 (by decide) ?_
  refine lv_iload_n C.1 C.2.1 dX9_eastOf_47 rfl (lv_at hl 1 rfl) ?_
  refine lv_iload_n C.1 C.2.1 dX9_eastOf_48 rfl (lv_at hl 2 rfl) ?_
  refine lv_iload_n C.1 C.2.1 dX9_eastOf_49 rfl (lv_at hl 3 rfl) ?_
  obtain ⟨q1, hq_q1, hf⟩ := ob_ hf
  refine x_ai K h (x_V C K h [.int (0 : Int32), .int v1, .int v2, .int v3] (c_X9_says fu l κ G cy ad H.size σ v0 (0 : Int32) v1 v2 v3 hk_v0 hq_q1) mi_X9_says rfl im_yX9_says se_yX9_says ml_RX9_348 cl_9 hk_v0 ⟨rfl, rfl, Nat.le_trans (Nat.le_of_ble_eq_true rfl) hR.1, Nat.le_trans (Nat.le_of_ble_eq_true rfl) hR.2⟩ hl (Nat.le_of_ble_eq_true rfl) dX9_eastOf_50 ⟨Nat.zero_le _, Nat.zero_le _⟩ rfl) (fun H locs h hX => ?_)
  have hE := hE.trans hX
  have hk_v0 := hX.k hk_v0 (by decide)
  refine lv_istore (i := 5) (lv' := [(5, .int q1.1), (0, .ref (ad v0)), (1, .int v1), (2, .int v2), (3, .int v3), (4, .int v4)]) C.1 C.2.1 dX9_eastOf_53 hl (by decide) rfl (fun ls hl => ?_)
  refine lv_iload C.1 C.2.1 dX9_eastOf_55 (lv_at hl 5 rfl) ?_
  refine lv_iconst (v := (1 : Int32)) C.1 C.2.1 dX9_eastOf_57 (by decide) ?_
  refine lv_icmp_ne (tgt := 68) C.1 C.2.1 dX9_eastOf_58 (by decide) (fun c2 => ?_) (fun c2 => ?_)
  · have hf := if_f hf c2
    refine lv_iload C.1 C.2.1 dX9_eastOf_68 (lv_at hl 5 rfl) ?_
    refine lv_iconst (v := (3 : Int32)) C.1 C.2.1 dX9_eastOf_70 (by decide) ?_
    refine lv_icmp_ne (tgt := 92) C.1 C.2.1 dX9_eastOf_71 (by decide) (fun c3 => ?_) (fun c3 => ?_)
    · have hf := if_f hf c3
      refine lv_iload C.1 C.2.1 dX9_eastOf_92 (lv_at hl 5 rfl) ?_
      refine lv_iconst (v := (5 : Int32)) C.1 C.2.1 dX9_eastOf_94 (by decide) ?_
      refine lv_icmp_ne (tgt := 104) C.1 C.2.1 dX9_eastOf_95 (by decide) (fun c4 => ?_) (fun c4 => ?_)
      · have hf := if_f hf c4
        refine lv_iload C.1 C.2.1 dX9_eastOf_104 (lv_at hl 0 rfl) ?_
        exact w_X9_eastOf_106 fu C K hr hlk hR q1.2 q1.1 hE hf _ _ _ h (lv_sub hl [] rfl)
      · have hf := if_t hf c4
        refine lv_iload C.1 C.2.1 dX9_eastOf_98 (lv_at hl 0 rfl) ?_
        refine lv_ineg C.1 C.2.1 dX9_eastOf_100 ?_
        refine lv_goto (tgt := 106) C.1 C.2.1 dX9_eastOf_101 (by decide) ?_
        exact w_X9_eastOf_106 fu C K hr hlk hR q1.2 (-q1.1) hE hf _ _ _ h (lv_sub hl [] rfl)
    · have hf := if_t hf c3
      refine lv_iconst (v := (2 : Int32)) C.1 C.2.1 dX9_eastOf_74 (by decide) ?_
      refine lv_iload C.1 C.2.1 dX9_eastOf_75 (lv_at hl 0 rfl) ?_
      refine lv_imul C.1 C.2.1 dX9_eastOf_77 ?_
      refine lv_aload_n C.1 C.2.1 dX9_eastOf_78 rfl (lv_at hl 1 rfl) ?_
      obtain ⟨b5, hb_b5, hf⟩ := ob_ hf
      obtain ⟨hq_b5, hk_b5⟩ := dr_in hb_b5
      refine x_get (v := .ref (ad b5)) C K h cl_9 hk_v0 10 (by decide) fl_RX9_29 (hv_r (o := sr_ q1.2 v0 10) rfl hq_b5) dX9_eastOf_79 ?_
      refine lv_iconst (v := (3 : Int32)) C.1 C.2.1 dX9_eastOf_82 (by decide) ?_
      refine lv_iload_n C.1 C.2.1 dX9_eastOf_83 rfl (lv_at hl 2 rfl) ?_
      refine lv_imul C.1 C.2.1 dX9_eastOf_84 ?_
      obtain ⟨j6, hj_j6, hf⟩ := ob_ hf
      refine x_iald C K h hk_b5 hj_j6 dX9_eastOf_85 ?_
      refine lv_iconst (v := (3 : Int32)) C.1 C.2.1 dX9_eastOf_86 (by decide) ?_
      refine lv_irem C.1 C.2.1 dX9_eastOf_87 (by decide) ?_
      refine lv_iadd C.1 C.2.1 dX9_eastOf_88 ?_
      refine lv_goto (tgt := 106) C.1 C.2.1 dX9_eastOf_89 (by decide) ?_
      exact w_X9_eastOf_106 fu C K hr hlk hR q1.2 (((2 : Int32) * q1.1) + ((si_ q1.2 b5 j6) - (si_ q1.2 b5 j6) / (3 : Int32) * (3 : Int32))) hE hf _ _ _ h (lv_sub hl [] rfl)
  · have hf := if_t hf c2
    refine lv_iconst (v := (2 : Int32)) C.1 C.2.1 dX9_eastOf_61 (by decide) ?_
    refine lv_iload C.1 C.2.1 dX9_eastOf_62 (lv_at hl 0 rfl) ?_
    refine lv_imul C.1 C.2.1 dX9_eastOf_64 ?_
    refine lv_goto (tgt := 106) C.1 C.2.1 dX9_eastOf_65 (by decide) ?_
    exact w_X9_eastOf_106 fu C K hr hlk hR q1.2 ((2 : Int32) * q1.1) hE hf _ _ _ h (lv_sub hl [] rfl)
def f_X9_eastOf_20 (fu : Nat) (σ : St_) (v0 : Nat) (v1 : Int32) (v2 : Int32) (v3 : Int32) (v4 : Int32) : Option (Int32 × St_) := if (v3 - v3 / (2 : Int32) * (2 : Int32)) = (1 : Int32) then some ((0 : Int32), σ) else if v4 = (4 : Int32) then if ((si_ σ v0 7) - (si_ σ v0 7) / (2 : Int32) * (2 : Int32)) = (1 : Int32) then some ((0 : Int32), σ) else f_X9_eastOf_45 fu σ v0 v1 v2 v3 v4 else f_X9_eastOf_45 fu σ v0 v1 v2 v3 v4
set_option maxHeartbeats 4000000 in
set_option maxRecDepth 100000 in
theorem w_X9_eastOf_20 {p : Program} {l : Launch} {e : Env} {R : Room} {s : State} {m : MethodId} {args : Array Value} {below : List Frame} {meth : Method} {c : Code} {κ : Ka_} {G : va_G} {cy : Nat → ClassId} {ad : Nat → Nat} {sz : Nat} {σ0 : St_} (fu : Nat) (C : CallFix p m c cX9_eastOf 6 s args wU_ RX9) (K : Kx_ κ G cy (va_A (wl_ cy ad σ0) sz) s) (hr : meth.sig.returnType = some .int) (hlk : meth.locks = false) (hR : 43 ≤ R.frames ∧ 955 ≤ R.locals) {q : Int32 × St_} : ∀ (σ : St_) (v0 : Nat) (v1 : Int32) (v2 : Int32) (v3 : Int32) (v4 : Int32), Ex_ σ0 σ → kd_ σ v0 = 9 → f_X9_eastOf_20 fu σ v0 v1 v2 v3 v4 = some q → ∀ (H : Heap) (locs : List Loc) (ls : Array Slot), Ht_ G cy (va_A (wl_ cy ad σ0) sz) s ad σ H locs → lv_has ls 6 [(0, .ref (ad v0)), (1, .int v1), (2, .int v2), (3, .int v3), (4, .int v4)] → W p l e R s m args below meth c H locs 0 0 (MQ below (Qi_ G cy ad σ0 q.2 sz q.1) args s 0 0 (va_A (wl_ cy ad σ0) sz)) (F0 m 20 ls []) := by
  intro σ v0 v1 v2 v3 v4 hE hk_v0 hf H locs ls h hl
  have hf : (if (v3 - v3 / (2 : Int32) * (2 : Int32)) = (1 : Int32) then some ((0 : Int32), σ) else if v4 = (4 : Int32) then if ((si_ σ v0 7) - (si_ σ v0 7) / (2 : Int32) * (2 : Int32)) = (1 : Int32) then some ((0 : Int32), σ) else f_X9_eastOf_45 fu σ v0 v1 v2 v3 v4 else f_X9_eastOf_45 fu σ v0 v1 v2 v3 v4) = some q := hf
  refine lv_iload_n C.1 C.2.1 dX9_eastOf_20 rfl (lv_at hl 3 rfl) ?_
  refine lv_iconst (v := (2 : Int32)) C.1 C.2.1 dX9_eastOf_21 (by decide) ?_
  refine lv_irem C.1 C.2.1 dX9_eastOf_22 (by decide) ?_
  refine lv_iconst (v := (1 : Int32)) C.1 C.2.1 dX9_eastOf_23 (by decide) ?_
  refine lv_icmp_eq (tgt := 43) C.1 C.2.1 dX9_eastOf_24 (by decide) (fun c1 => ?_) (fun c1 => ?_)
  · have hf := if_t hf c1
    refine lv_iconst (v := (0 : Int32)) C.1 C.2.1 dX9_eastOf_43 (by decide) ?_
    exact x_ri C hr hlk h hE (pf_1 (Option.some.inj hf)) (pf_2 (Option.some.inj hf)) dX9_eastOf_44
  · have hf := if_f hf c1
    refine lv_iload C.1 C.2.1 dX9_eastOf_27 (lv_at hl 4 rfl) ?_
    refine lv_iconst (v := (4 : Int32)) C.1 C.2.1 dX9_eastOf_29 (by decide) ?_
    refine lv_icmp_ne (tgt := 45) C.1 C.2.1 dX9_eastOf_30 (by decide) (fun c2 => ?_) (fun c2 => ?_)
    · have hf := if_f hf c2
      exact w_X9_eastOf_45 fu C K hr hlk hR σ v0 v1 v2 v3 v4 hE hk_v0 hf _ _ _ h (lv_sub hl [0, 1, 2, 3, 4] rfl)
    · have hf := if_t hf c2
      refine lv_aload_n C.1 C.2.1 dX9_eastOf_33 rfl (lv_at hl 0 rfl) ?_
      refine x_get (v := .int (si_ σ v0 7)) C K h cl_9 hk_v0 7 (by decide) fl_RX9_116 rfl dX9_eastOf_34 ?_
      refine lv_iconst (v := (2 : Int32)) C.1 C.2.1 dX9_eastOf_37 (by decide) ?_
      refine lv_irem C.1 C.2.1 dX9_eastOf_38 (by decide) ?_
      refine lv_iconst (v := (1 : Int32)) C.1 C.2.1 dX9_eastOf_39 (by decide) ?_
      refine lv_icmp_ne (tgt := 45) C.1 C.2.1 dX9_eastOf_40 (by decide) (fun c3 => ?_) (fun c3 => ?_)
      · have hf := if_f hf c3
        exact w_X9_eastOf_45 fu C K hr hlk hR σ v0 v1 v2 v3 v4 hE hk_v0 hf _ _ _ h (lv_sub hl [0, 1, 2, 3, 4] rfl)
      · have hf := if_t hf c3
        refine lv_iconst (v := (0 : Int32)) C.1 C.2.1 dX9_eastOf_43 (by decide) ?_
        exact x_ri C hr hlk h hE (pf_1 (Option.some.inj hf)) (pf_2 (Option.some.inj hf)) dX9_eastOf_44
def f_X9_eastOf (fu : Nat) (σ : St_) (a0 : Nat) (x1 : Int32) (x2 : Int32) (x3 : Int32) : Option (Int32 × St_) := (dr_ σ 10 (sr_ σ a0 9)).bind fun b4 => (ix_ x1 (ln_ σ b4)).bind fun j5 => if (si_ σ b4 j5) = (2 : Int32) then f_X9_eastOf_20 fu σ a0 x1 x2 x3 (si_ σ b4 j5) else if (si_ σ b4 j5) = (4 : Int32) then f_X9_eastOf_20 fu σ a0 x1 x2 x3 (si_ σ b4 j5) else if (si_ σ b4 j5) = (4 : Int32) then if ((si_ σ a0 7) - (si_ σ a0 7) / (2 : Int32) * (2 : Int32)) = (1 : Int32) then some ((0 : Int32), σ) else f_X9_eastOf_45 fu σ a0 x1 x2 x3 (si_ σ b4 j5) else f_X9_eastOf_45 fu σ a0 x1 x2 x3 (si_ σ b4 j5)
set_option maxHeartbeats 4000000 in
set_option maxRecDepth 100000 in
theorem w_X9_eastOf {p : Program} {l : Launch} {e : Env} {R : Room} {s : State} {m : MethodId} {args : Array Value} {below : List Frame} {meth : Method} {c : Code} {κ : Ka_} {G : va_G} {cy : Nat → ClassId} {ad : Nat → Nat} {sz : Nat} {σ0 : St_} (fu : Nat) (C : CallFix p m c cX9_eastOf 6 s args wU_ RX9) (K : Kx_ κ G cy (va_A (wl_ cy ad σ0) sz) s) (hr : meth.sig.returnType = some .int) (hlk : meth.locks = false) (hR : 43 ≤ R.frames ∧ 955 ≤ R.locals) {q : Int32 × St_} : ∀ (σ : St_) (a0 : Nat) (x1 : Int32) (x2 : Int32) (x3 : Int32), Ex_ σ0 σ → kd_ σ a0 = 9 → f_X9_eastOf fu σ a0 x1 x2 x3 = some q → ∀ (H : Heap) (locs : List Loc) (ls : Array Slot), Ht_ G cy (va_A (wl_ cy ad σ0) sz) s ad σ H locs → lv_has ls 6 [(0, .ref (ad a0)), (1, .int x1), (2, .int x2), (3, .int x3)] → W p l e R s m args below meth c H locs 0 0 (MQ below (Qi_ G cy ad σ0 q.2 sz q.1) args s 0 0 (va_A (wl_ cy ad σ0) sz)) (F0 m 0 ls []) := by
  intro σ a0 x1 x2 x3 hE hk_a0 hf H locs ls h hl
  have hf : ((dr_ σ 10 (sr_ σ a0 9)).bind fun b4 => (ix_ x1 (ln_ σ b4)).bind fun j5 => if (si_ σ b4 j5) = (2 : Int32) then f_X9_eastOf_20 fu σ a0 x1 x2 x3 (si_ σ b4 j5) else if (si_ σ b4 j5) = (4 : Int32) then f_X9_eastOf_20 fu σ a0 x1 x2 x3 (si_ σ b4 j5) else if (si_ σ b4 j5) = (4 : Int32) then if ((si_ σ a0 7) - (si_ σ a0 7) / (2 : Int32) * (2 : Int32)) = (1 : Int32) then some ((0 : Int32), σ) else f_X9_eastOf_45 fu σ a0 x1 x2 x3 (si_ σ b4 j5) else f_X9_eastOf_45 fu σ a0 x1 x2 x3 (si_ σ b4 j5)) = some q := hf
  refine lv_aload_n C.1 C.2.1 dX9_eastOf_0 rfl (lv_at hl 0 rfl) ?_
  obtain ⟨b4, hb_b4, hf⟩ := ob_ hf
  obtain ⟨hq_b4, hk_b4⟩ := dr_in hb_b4
  refine x_get (v := .ref (ad b4)) C K h cl_9 hk_a0 9 (by decide) fl_RX9_26 (hv_r (o := sr_ σ a0 9) rfl hq_b4) dX9_eastOf_1 ?_
  refine lv_iload_n C.1 C.2.1 dX9_eastOf_4 rfl (lv_at hl 1 rfl) ?_
  obtain ⟨j5, hj_j5, hf⟩ := ob_ hf
  refine x_iald C K h hk_b4 hj_j5 dX9_eastOf_5 ?_
  refine lv_istore (i := 4) (lv' := [(4, .int (si_ σ b4 j5)), (0, .ref (ad a0)), (1, .int x1), (2, .int x2), (3, .int x3)]) C.1 C.2.1 dX9_eastOf_6 hl (by decide) rfl (fun ls hl => ?_)
  refine lv_iload C.1 C.2.1 dX9_eastOf_8 (lv_at hl 0 rfl) ?_
  refine lv_iconst (v := (2 : Int32)) C.1 C.2.1 dX9_eastOf_10 (by decide) ?_
  refine lv_icmp_eq (tgt := 20) C.1 C.2.1 dX9_eastOf_11 (by decide) (fun c6 => ?_) (fun c6 => ?_)
  · have hf := if_t hf c6
    exact w_X9_eastOf_20 fu C K hr hlk hR σ a0 x1 x2 x3 (si_ σ b4 j5) hE hk_a0 hf _ _ _ h (lv_sub hl [1, 2, 3, 4, 0] rfl)
  · have hf := if_f hf c6
    refine lv_iload C.1 C.2.1 dX9_eastOf_14 (lv_at hl 0 rfl) ?_
    refine lv_iconst (v := (4 : Int32)) C.1 C.2.1 dX9_eastOf_16 (by decide) ?_
    refine lv_icmp_ne (tgt := 27) C.1 C.2.1 dX9_eastOf_17 (by decide) (fun c7 => ?_) (fun c7 => ?_)
    · have hf := if_f hf c7
      refine lv_iload C.1 C.2.1 dX9_eastOf_27 (lv_at hl 0 rfl) ?_
      refine lv_iconst (v := (4 : Int32)) C.1 C.2.1 dX9_eastOf_29 (by decide) ?_
      refine lv_icmp_ne (tgt := 45) C.1 C.2.1 dX9_eastOf_30 (by decide) (fun c8 => ?_) (fun c8 => ?_)
      · have hf := if_f hf c8
        exact w_X9_eastOf_45 fu C K hr hlk hR σ a0 x1 x2 x3 (si_ σ b4 j5) hE hk_a0 hf _ _ _ h (lv_sub hl [1, 2, 3, 4, 0] rfl)
      · have hf := if_t hf c8
        refine lv_aload_n C.1 C.2.1 dX9_eastOf_33 rfl (lv_at hl 1 rfl) ?_
        refine x_get (v := .int (si_ σ a0 7)) C K h cl_9 hk_a0 7 (by decide) fl_RX9_116 rfl dX9_eastOf_34 ?_
        refine lv_iconst (v := (2 : Int32)) C.1 C.2.1 dX9_eastOf_37 (by decide) ?_
        refine lv_irem C.1 C.2.1 dX9_eastOf_38 (by decide) ?_
        refine lv_iconst (v := (1 : Int32)) C.1 C.2.1 dX9_eastOf_39 (by decide) ?_
        refine lv_icmp_ne (tgt := 45) C.1 C.2.1 dX9_eastOf_40 (by decide) (fun c9 => ?_) (fun c9 => ?_)
        · have hf := if_f hf c9
          exact w_X9_eastOf_45 fu C K hr hlk hR σ a0 x1 x2 x3 (si_ σ b4 j5) hE hk_a0 hf _ _ _ h (lv_sub hl [1, 2, 3, 4, 0] rfl)
        · have hf := if_t hf c9
          refine lv_iconst (v := (0 : Int32)) C.1 C.2.1 dX9_eastOf_43 (by decide) ?_
          exact x_ri C hr hlk h hE (pf_1 (Option.some.inj hf)) (pf_2 (Option.some.inj hf)) dX9_eastOf_44
    · have hf := if_t hf c7
      exact w_X9_eastOf_20 fu C K hr hlk hR σ a0 x1 x2 x3 (si_ σ b4 j5) hE hk_a0 hf _ _ _ h (lv_sub hl [1, 2, 3, 4, 0] rfl)
theorem c_X9_eastOf (fu : Nat) (l : Launch) (κ : Ka_) (G : va_G) (cy : Nat → ClassId) (ad : Nat → Nat) (sz : Nat) (σ : St_) (a0 : Nat) (x1 : Int32) (x2 : Int32) (x3 : Int32) (hk_a0 : kd_ σ a0 = 9) {q : Int32 × St_} (hf : f_X9_eastOf fu σ a0 x1 x2 x3 = some q) : Met l yX9_eastOf (Cond.code yX9_eastOf cX9_eastOf 6 (some .int) :: wU_) { frames := 43, cells := 0, slots := 0, locals := 955 } (va_Pc [.ref (ad a0), .int x1, .int x2, .int x3] (Pr_ κ G cy ad σ sz)) (Qi_ G cy ad σ q.2 sz q.1) 0 0 (va_A (wl_ cy ad σ) sz) :=
  x_met (by decide) (fun p e R s m below meth c ls hR C hr hlk hin _ K h hl => w_X9_eastOf fu C K hr hlk ⟨hR.1, hR.2.1⟩ σ a0 x1 x2 x3 Ex_.rf hk_a0 hf s.heap [] ls h hl) (Nat.le_of_ble_eq_true rfl)
-- X9_southOf
theorem mi_X9_southOf : Mi_ yX9_southOf cX9_southOf 6 (some .int) 3 := ⟨co_yX9_southOf, in_RX9, by decide, by decide, by decide +kernel⟩
def f_X9_southOf_69 (fu : Nat) (σ : St_) (s0 : Int32) : Option (Int32 × St_) := some (f_X9_within s0 (-5 : Int32) (5 : Int32), σ)
set_option maxHeartbeats 4000000 in
set_option maxRecDepth 100000 in
theorem w_X9_southOf_69 {p : Program} {l : Launch} {e : Env} {R : Room} {s : State} {m : MethodId} {args : Array Value} {below : List Frame} {meth : Method} {c : Code} {κ : Ka_} {G : va_G} {cy : Nat → ClassId} {ad : Nat → Nat} {sz : Nat} {σ0 : St_} (fu : Nat) (C : CallFix p m c cX9_southOf 6 s args wU_ RX9) (K : Kx_ κ G cy (va_A (wl_ cy ad σ0) sz) s) (hr : meth.sig.returnType = some .int) (hlk : meth.locks = false) (hR : 43 ≤ R.frames ∧ 955 ≤ R.locals) {q : Int32 × St_} : ∀ (σ : St_) (s0 : Int32), Ex_ σ0 σ → f_X9_southOf_69 fu σ s0 = some q → ∀ (H : Heap) (locs : List Loc) (ls : Array Slot), Ht_ G cy (va_A (wl_ cy ad σ0) sz) s ad σ H locs → lv_has ls 6 [] → W p l e R s m args below meth c H locs 0 0 (MQ below (Qi_ G cy ad σ0 q.2 sz q.1) args s 0 0 (va_A (wl_ cy ad σ0) sz)) (F0 m 69 ls [.int s0]) := by
  intro σ s0 hE hf H locs ls h hl
  have hf : (some (f_X9_within s0 (-5 : Int32) (5 : Int32), σ)) = some q := hf
  refine lv_bipush (v := (-5 : Int32)) C.1 C.2.1 dX9_southOf_69 (by decide) ?_
  refine lv_iconst (v := (5 : Int32)) C.1 C.2.1 dX9_southOf_71 (by decide) ?_
  refine x_ai K h (x_S C K h [.int s0, .int (-5 : Int32), .int (5 : Int32)] (c_X9_within l κ G cy ad H.size σ s0 (-5 : Int32) (5 : Int32) rfl) mi_X9_within rfl st_yX9_within ml_RX9_345 ⟨rfl, rfl, Nat.le_trans (Nat.le_of_ble_eq_true rfl) hR.1, Nat.le_trans (Nat.le_of_ble_eq_true rfl) hR.2⟩ hl (Nat.le_of_ble_eq_true rfl) dX9_southOf_72 ⟨Nat.zero_le _, Nat.zero_le _⟩ rfl) (fun H locs h hX => ?_)
  exact x_ri C hr hlk h hE (pf_1 (Option.some.inj hf)) (pf_2 (Option.some.inj hf)) dX9_southOf_75
def f_X9_southOf (fu : Nat) (σ : St_) (a0 : Nat) (x1 : Int32) (x2 : Int32) (x3 : Int32) : Option (Int32 × St_) := (dr_ σ 10 (sr_ σ a0 9)).bind fun b4 => (ix_ x1 (ln_ σ b4)).bind fun j5 => (f_X9_says fu σ a0 (1 : Int32) x1 x2 x3).bind fun q6 => if (si_ σ b4 j5) = (2 : Int32) then f_X9_southOf_69 fu q6.2 (q6.1 + (1 : Int32)) else if (si_ σ b4 j5) = (4 : Int32) then f_X9_southOf_69 fu q6.2 (q6.1 + (1 : Int32)) else if (si_ σ b4 j5) = (3 : Int32) then if x3 ≤ (5 : Int32) then if (si_ σ b4 j5) = (5 : Int32) then f_X9_southOf_69 fu q6.2 (q6.1 / (2 : Int32)) else f_X9_southOf_69 fu q6.2 q6.1 else f_X9_southOf_69 fu q6.2 (-q6.1) else if (si_ σ b4 j5) = (5 : Int32) then f_X9_southOf_69 fu q6.2 (q6.1 / (2 : Int32)) else f_X9_southOf_69 fu q6.2 q6.1
set_option maxHeartbeats 4000000 in
set_option maxRecDepth 100000 in
theorem w_X9_southOf {p : Program} {l : Launch} {e : Env} {R : Room} {s : State} {m : MethodId} {args : Array Value} {below : List Frame} {meth : Method} {c : Code} {κ : Ka_} {G : va_G} {cy : Nat → ClassId} {ad : Nat → Nat} {sz : Nat} {σ0 : St_} (fu : Nat) (C : CallFix p m c cX9_southOf 6 s args wU_ RX9) (K : Kx_ κ G cy (va_A (wl_ cy ad σ0) sz) s) (hr : meth.sig.returnType = some .int) (hlk : meth.locks = false) (hR : 43 ≤ R.frames ∧ 955 ≤ R.locals) {q : Int32 × St_} : ∀ (σ : St_) (a0 : Nat) (x1 : Int32) (x2 : Int32) (x3 : Int32), Ex_ σ0 σ → kd_ σ a0 = 9 → f_X9_southOf fu σ a0 x1 x2 x3 = some q → ∀ (H : Heap) (locs : List Loc) (ls : Array Slot), Ht_ G cy (va_A (wl_ cy ad σ0) sz) s ad σ H locs → lv_has ls 6 [(0, .ref (ad a0)), (1, .int x1), (2, .int x2), (3, .int x3)] → W p l e R s m args below meth c H locs 0 0 (MQ below (Qi_ G cy ad σ0 q.2 sz q.1) args s 0 0 (va_A (wl_ cy ad σ0) sz)) (F0 m 0 ls []) := by
  intro σ a0 x1 x2 x3 hE hk_a0 hf H locs ls h hl
  have hf : ((dr_ σ 10 (sr_ σ a0 9)).bind fun b4 => (ix_ x1 (ln_ σ b4)).bind fun j5 => (f_X9_says fu σ a0 (1 : Int32) x1 x2 x3).bind fun q6 => if (si_ σ b4 j5) = (2 : Int32) then f_X9_southOf_69 fu q6.2 (q6.1 + (1 : Int32)) else if (si_ σ b4 j5) = (4 : Int32) then f_X9_southOf_69 fu q6.2 (q6.1 + (1 : Int32)) else if (si_ σ b4 j5) = (3 : Int32) then if x3 ≤ (5 : Int32) then if (si_ σ b4 j5) = (5 : Int32) then f_X9_southOf_69 fu q6.2 (q6.1 / (2 : Int32)) else f_X9_southOf_69 fu q6.2 q6.1 else f_X9_southOf_69 fu q6.2 (-q6.1) else if (si_ σ b4 j5) = (5 : Int32) then f_X9_southOf_69 fu q6.2 (q6.1 / (2 : Int32)) else f_X9_southOf_69 fu q6.2 q6.1) = some q := hf
  refine lv_aload_n C.1 C.2.1 dX9_southOf_0 rfl (lv_at hl 0 rfl) ?_
  obtain ⟨b4, hb_b4, hf⟩ := ob_ hf
  obtain ⟨hq_b4, hk_b4⟩ := dr_in hb_b4
  refine x_get (v := .ref (ad b4)) C K h cl_9 hk_a0 9 (by decide) fl_RX9_26 (hv_r (o := sr_ σ a0 9) rfl hq_b4) dX9_southOf_1 ?_
  refine lv_iload_n C.1 C.2.1 dX9_southOf_4 rfl (lv_at hl 1 rfl) ?_
  obtain ⟨j5, hj_j5, hf⟩ := ob_ hf
  refine x_iald C K h hk_b4 hj_j5 dX9_southOf_5 ?_
  refine lv_istore (i := 4) (lv' := [(4, .int (si_ σ b4 j5)), (0, .ref (ad a0)), (1, .int x1), (2, .int x2), (3, .int x3)]) C.1 C.2.1 dX9_southOf_6 hl (by decide) rfl (fun ls hl => ?_)
  refine lv_aload_n C.1 C.2.1 dX9_southOf_8 rfl (lv_at hl 1 rfl) ?_
  refine lv_iconst (v := (1 : Int32)) C.1 C.2.1 dX9_southOf_9 (by decide) ?_
  refine lv_iload_n C.1 C.2.1 dX9_southOf_10 rfl (lv_at hl 2 rfl) ?_
  refine lv_iload_n C.1 C.2.1 dX9_southOf_11 rfl (lv_at hl 3 rfl) ?_
  refine lv_iload_n C.1 C.2.1 dX9_southOf_12 rfl (lv_at hl 4 rfl) ?_
  obtain ⟨q6, hq_q6, hf⟩ := ob_ hf
  refine x_ai K h (x_V C K h [.int (1 : Int32), .int x1, .int x2, .int x3] (c_X9_says fu l κ G cy ad H.size σ a0 (1 : Int32) x1 x2 x3 hk_a0 hq_q6) mi_X9_says rfl im_yX9_says se_yX9_says ml_RX9_348 cl_9 hk_a0 ⟨rfl, rfl, Nat.le_trans (Nat.le_of_ble_eq_true rfl) hR.1, Nat.le_trans (Nat.le_of_ble_eq_true rfl) hR.2⟩ hl (Nat.le_of_ble_eq_true rfl) dX9_southOf_13 ⟨Nat.zero_le _, Nat.zero_le _⟩ rfl) (fun H locs h hX => ?_)
  have hE := hE.trans hX
  have hk_a0 := hX.k hk_a0 (by decide)
  refine lv_istore (i := 5) (lv' := [(5, .int q6.1), (4, .int (si_ σ b4 j5)), (0, .ref (ad a0)), (1, .int x1), (2, .int x2), (3, .int x3)]) C.1 C.2.1 dX9_southOf_16 hl (by decide) rfl (fun ls hl => ?_)
  refine lv_iload C.1 C.2.1 dX9_southOf_18 (lv_at hl 1 rfl) ?_
  refine lv_iconst (v := (2 : Int32)) C.1 C.2.1 dX9_southOf_20 (by decide) ?_
  refine lv_icmp_eq (tgt := 30) C.1 C.2.1 dX9_southOf_21 (by decide) (fun c7 => ?_) (fun c7 => ?_)
  · have hf := if_t hf c7
    refine lv_iload C.1 C.2.1 dX9_southOf_30 (lv_at hl 0 rfl) ?_
    refine lv_iconst (v := (1 : Int32)) C.1 C.2.1 dX9_southOf_32 (by decide) ?_
    refine lv_iadd C.1 C.2.1 dX9_southOf_33 ?_
    refine lv_goto (tgt := 69) C.1 C.2.1 dX9_southOf_34 (by decide) ?_
    exact w_X9_southOf_69 fu C K hr hlk hR q6.2 (q6.1 + (1 : Int32)) hE hf _ _ _ h (lv_sub hl [] rfl)
  · have hf := if_f hf c7
    refine lv_iload C.1 C.2.1 dX9_southOf_24 (lv_at hl 1 rfl) ?_
    refine lv_iconst (v := (4 : Int32)) C.1 C.2.1 dX9_southOf_26 (by decide) ?_
    refine lv_icmp_ne (tgt := 37) C.1 C.2.1 dX9_southOf_27 (by decide) (fun c8 => ?_) (fun c8 => ?_)
    · have hf := if_f hf c8
      refine lv_iload C.1 C.2.1 dX9_southOf_37 (lv_at hl 1 rfl) ?_
      refine lv_iconst (v := (3 : Int32)) C.1 C.2.1 dX9_southOf_39 (by decide) ?_
      refine lv_icmp_ne (tgt := 54) C.1 C.2.1 dX9_southOf_40 (by decide) (fun c9 => ?_) (fun c9 => ?_)
      · have hf := if_f hf c9
        refine lv_iload C.1 C.2.1 dX9_southOf_54 (lv_at hl 1 rfl) ?_
        refine lv_iconst (v := (5 : Int32)) C.1 C.2.1 dX9_southOf_56 (by decide) ?_
        refine lv_icmp_ne (tgt := 67) C.1 C.2.1 dX9_southOf_57 (by decide) (fun c10 => ?_) (fun c10 => ?_)
        · have hf := if_f hf c10
          refine lv_iload C.1 C.2.1 dX9_southOf_67 (lv_at hl 0 rfl) ?_
          exact w_X9_southOf_69 fu C K hr hlk hR q6.2 q6.1 hE hf _ _ _ h (lv_sub hl [] rfl)
        · have hf := if_t hf c10
          refine lv_iload C.1 C.2.1 dX9_southOf_60 (lv_at hl 0 rfl) ?_
          refine lv_iconst (v := (2 : Int32)) C.1 C.2.1 dX9_southOf_62 (by decide) ?_
          refine lv_idiv C.1 C.2.1 dX9_southOf_63 (by decide) ?_
          refine lv_goto (tgt := 69) C.1 C.2.1 dX9_southOf_64 (by decide) ?_
          exact w_X9_southOf_69 fu C K hr hlk hR q6.2 (q6.1 / (2 : Int32)) hE hf _ _ _ h (lv_sub hl [] rfl)
      · have hf := if_t hf c9
        refine lv_iload_n C.1 C.2.1 dX9_southOf_43 rfl (lv_at hl 5 rfl) ?_
        refine lv_iconst (v := (5 : Int32)) C.1 C.2.1 dX9_southOf_44 (by decide) ?_
        refine lv_icmp_le (tgt := 54) C.1 C.2.1 dX9_southOf_45 (by decide) (fun c11 => ?_) (fun c11 => ?_)
        · have hf := if_t hf c11
          refine lv_iload C.1 C.2.1 dX9_southOf_54 (lv_at hl 1 rfl) ?_
          refine lv_iconst (v := (5 : Int32)) C.1 C.2.1 dX9_southOf_56 (by decide) ?_
          refine lv_icmp_ne (tgt := 67) C.1 C.2.1 dX9_southOf_57 (by decide) (fun c12 => ?_) (fun c12 => ?_)
          · have hf := if_f hf c12
            refine lv_iload C.1 C.2.1 dX9_southOf_67 (lv_at hl 0 rfl) ?_
            exact w_X9_southOf_69 fu C K hr hlk hR q6.2 q6.1 hE hf _ _ _ h (lv_sub hl [] rfl)
          · have hf := if_t hf c12
            refine lv_iload C.1 C.2.1 dX9_southOf_60 (lv_at hl 0 rfl) ?_
            refine lv_iconst (v := (2 : Int32)) C.1 C.2.1 dX9_southOf_62 (by decide) ?_
            refine lv_idiv C.1 C.2.1 dX9_southOf_63 (by decide) ?_
            refine lv_goto (tgt := 69) C.1 C.2.1 dX9_southOf_64 (by decide) ?_
            exact w_X9_southOf_69 fu C K hr hlk hR q6.2 (q6.1 / (2 : Int32)) hE hf _ _ _ h (lv_sub hl [] rfl)
        · have hf := if_f hf c11
          refine lv_iload C.1 C.2.1 dX9_southOf_48 (lv_at hl 0 rfl) ?_
          refine lv_ineg C.1 C.2.1 dX9_southOf_50 ?_
          refine lv_goto (tgt := 69) C.1 C.2.1 dX9_southOf_51 (by decide) ?_
          exact w_X9_southOf_69 fu C K hr hlk hR q6.2 (-q6.1) hE hf _ _ _ h (lv_sub hl [] rfl)
    · have hf := if_t hf c8
      refine lv_iload C.1 C.2.1 dX9_southOf_30 (lv_at hl 0 rfl) ?_
      refine lv_iconst (v := (1 : Int32)) C.1 C.2.1 dX9_southOf_32 (by decide) ?_
      refine lv_iadd C.1 C.2.1 dX9_southOf_33 ?_
      refine lv_goto (tgt := 69) C.1 C.2.1 dX9_southOf_34 (by decide) ?_
      exact w_X9_southOf_69 fu C K hr hlk hR q6.2 (q6.1 + (1 : Int32)) hE hf _ _ _ h (lv_sub hl [] rfl)
theorem c_X9_southOf (fu : Nat) (l : Launch) (κ : Ka_) (G : va_G) (cy : Nat → ClassId) (ad : Nat → Nat) (sz : Nat) (σ : St_) (a0 : Nat) (x1 : Int32) (x2 : Int32) (x3 : Int32) (hk_a0 : kd_ σ a0 = 9) {q : Int32 × St_} (hf : f_X9_southOf fu σ a0 x1 x2 x3 = some q) : Met l yX9_southOf (Cond.code yX9_southOf cX9_southOf 6 (some .int) :: wU_) { frames := 43, cells := 0, slots := 0, locals := 955 } (va_Pc [.ref (ad a0), .int x1, .int x2, .int x3] (Pr_ κ G cy ad σ sz)) (Qi_ G cy ad σ q.2 sz q.1) 0 0 (va_A (wl_ cy ad σ) sz) :=
  x_met (by decide) (fun p e R s m below meth c ls hR C hr hlk hin _ K h hl => w_X9_southOf fu C K hr hlk ⟨hR.1, hR.2.1⟩ σ a0 x1 x2 x3 Ex_.rf hk_a0 hf s.heap [] ls h hl) (Nat.le_of_ble_eq_true rfl)
-- X9_goesTo
theorem mi_X9_goesTo : Mi_ yX9_goesTo cX9_goesTo 7 (some .int) 3 := ⟨co_yX9_goesTo, in_RX9, by decide, by decide, by decide +kernel⟩
def f_X9_goesTo (fu : Nat) (σ : St_) (a0 : Nat) (x1 : Int32) (x2 : Int32) (x3 : Int32) : Option (Int32 × St_) := (f_X9_eastOf fu σ a0 x1 x2 x3).bind fun q4 => (f_X9_southOf fu q4.2 a0 x1 x2 x3).bind fun q5 => if (f_X9_in (((x2 - x2 / (6 : Int32) * (6 : Int32)) + q4.1).toInt64) (0 : Int64) (5 : Int64)) = 0 then some (x2, q5.2) else if (f_X9_in (((x2 / (6 : Int32)) + q5.1).toInt64) (0 : Int64) (5 : Int64)) = 0 then some (x2, q5.2) else (dr_ q5.2 10 (sr_ q5.2 a0 8)).bind fun b12 => (ix_ (((6 : Int32) * ((x2 / (6 : Int32)) + q5.1)) + ((x2 - x2 / (6 : Int32) * (6 : Int32)) + q4.1)) (ln_ q5.2 b12)).bind fun j13 => if (si_ q5.2 b12 j13) = (1 : Int32) then some (x2, q5.2) else some (((6 : Int32) * ((x2 / (6 : Int32)) + q5.1)) + ((x2 - x2 / (6 : Int32) * (6 : Int32)) + q4.1), q5.2)
set_option maxHeartbeats 4000000 in
set_option maxRecDepth 100000 in
theorem w_X9_goesTo {p : Program} {l : Launch} {e : Env} {R : Room} {s : State} {m : MethodId} {args : Array Value} {below : List Frame} {meth : Method} {c : Code} {κ : Ka_} {G : va_G} {cy : Nat → ClassId} {ad : Nat → Nat} {sz : Nat} {σ0 : St_} (fu : Nat) (C : CallFix p m c cX9_goesTo 7 s args wU_ RX9) (K : Kx_ κ G cy (va_A (wl_ cy ad σ0) sz) s) (hr : meth.sig.returnType = some .int) (hlk : meth.locks = false) (hR : 44 ≤ R.frames ∧ 980 ≤ R.locals) {q : Int32 × St_} : ∀ (σ : St_) (a0 : Nat) (x1 : Int32) (x2 : Int32) (x3 : Int32), Ex_ σ0 σ → kd_ σ a0 = 9 → f_X9_goesTo fu σ a0 x1 x2 x3 = some q → ∀ (H : Heap) (locs : List Loc) (ls : Array Slot), Ht_ G cy (va_A (wl_ cy ad σ0) sz) s ad σ H locs → lv_has ls 7 [(0, .ref (ad a0)), (1, .int x1), (2, .int x2), (3, .int x3)] → W p l e R s m args below meth c H locs 0 0 (MQ below (Qi_ G cy ad σ0 q.2 sz q.1) args s 0 0 (va_A (wl_ cy ad σ0) sz)) (F0 m 0 ls []) := by
  intro σ a0 x1 x2 x3 hE hk_a0 hf H locs ls h hl
  have hf : ((f_X9_eastOf fu σ a0 x1 x2 x3).bind fun q4 => (f_X9_southOf fu q4.2 a0 x1 x2 x3).bind fun q5 => if (f_X9_in (((x2 - x2 / (6 : Int32) * (6 : Int32)) + q4.1).toInt64) (0 : Int64) (5 : Int64)) = 0 then some (x2, q5.2) else if (f_X9_in (((x2 / (6 : Int32)) + q5.1).toInt64) (0 : Int64) (5 : Int64)) = 0 then some (x2, q5.2) else (dr_ q5.2 10 (sr_ q5.2 a0 8)).bind fun b12 => (ix_ (((6 : Int32) * ((x2 / (6 : Int32)) + q5.1)) + ((x2 - x2 / (6 : Int32) * (6 : Int32)) + q4.1)) (ln_ q5.2 b12)).bind fun j13 => if (si_ q5.2 b12 j13) = (1 : Int32) then some (x2, q5.2) else some (((6 : Int32) * ((x2 / (6 : Int32)) + q5.1)) + ((x2 - x2 / (6 : Int32) * (6 : Int32)) + q4.1), q5.2)) = some q := hf
  refine lv_iload_n C.1 C.2.1 dX9_goesTo_0 rfl (lv_at hl 2 rfl) ?_
  refine lv_bipush (v := (6 : Int32)) C.1 C.2.1 dX9_goesTo_1 (by decide) ?_
  refine lv_irem C.1 C.2.1 dX9_goesTo_3 (by decide) ?_
  refine lv_aload_n C.1 C.2.1 dX9_goesTo_4 rfl (lv_at hl 0 rfl) ?_
  refine lv_iload_n C.1 C.2.1 dX9_goesTo_5 rfl (lv_at hl 1 rfl) ?_
  refine lv_iload_n C.1 C.2.1 dX9_goesTo_6 rfl (lv_at hl 2 rfl) ?_
  refine lv_iload_n C.1 C.2.1 dX9_goesTo_7 rfl (lv_at hl 3 rfl) ?_
  obtain ⟨q4, hq_q4, hf⟩ := ob_ hf
  refine x_ai K h (x_V C K h [.int x1, .int x2, .int x3] (c_X9_eastOf fu l κ G cy ad H.size σ a0 x1 x2 x3 hk_a0 hq_q4) mi_X9_eastOf rfl im_yX9_eastOf se_yX9_eastOf ml_RX9_352 cl_9 hk_a0 ⟨rfl, rfl, Nat.le_trans (Nat.le_of_ble_eq_true rfl) hR.1, Nat.le_trans (Nat.le_of_ble_eq_true rfl) hR.2⟩ hl (Nat.le_of_ble_eq_true rfl) dX9_goesTo_8 ⟨Nat.zero_le _, Nat.zero_le _⟩ rfl) (fun H locs h hX => ?_)
  have hE := hE.trans hX
  have hk_a0 := hX.k hk_a0 (by decide)
  refine lv_iadd C.1 C.2.1 dX9_goesTo_11 ?_
  refine lv_istore (i := 4) (lv' := [(4, .int ((x2 - x2 / (6 : Int32) * (6 : Int32)) + q4.1)), (0, .ref (ad a0)), (1, .int x1), (2, .int x2), (3, .int x3)]) C.1 C.2.1 dX9_goesTo_12 hl (by decide) rfl (fun ls hl => ?_)
  refine lv_iload_n C.1 C.2.1 dX9_goesTo_14 rfl (lv_at hl 3 rfl) ?_
  refine lv_bipush (v := (6 : Int32)) C.1 C.2.1 dX9_goesTo_15 (by decide) ?_
  refine lv_idiv C.1 C.2.1 dX9_goesTo_17 (by decide) ?_
  refine lv_aload_n C.1 C.2.1 dX9_goesTo_18 rfl (lv_at hl 1 rfl) ?_
  refine lv_iload_n C.1 C.2.1 dX9_goesTo_19 rfl (lv_at hl 2 rfl) ?_
  refine lv_iload_n C.1 C.2.1 dX9_goesTo_20 rfl (lv_at hl 3 rfl) ?_
  refine lv_iload_n C.1 C.2.1 dX9_goesTo_21 rfl (lv_at hl 4 rfl) ?_
  obtain ⟨q5, hq_q5, hf⟩ := ob_ hf
  refine x_ai K h (x_V C K h [.int x1, .int x2, .int x3] (c_X9_southOf fu l κ G cy ad H.size q4.2 a0 x1 x2 x3 hk_a0 hq_q5) mi_X9_southOf rfl im_yX9_southOf se_yX9_southOf ml_RX9_355 cl_9 hk_a0 ⟨rfl, rfl, Nat.le_trans (Nat.le_of_ble_eq_true rfl) hR.1, Nat.le_trans (Nat.le_of_ble_eq_true rfl) hR.2⟩ hl (Nat.le_of_ble_eq_true rfl) dX9_goesTo_22 ⟨Nat.zero_le _, Nat.zero_le _⟩ rfl) (fun H locs h hX => ?_)
  have hE := hE.trans hX
  have hk_a0 := hX.k hk_a0 (by decide)
  refine lv_iadd C.1 C.2.1 dX9_goesTo_25 ?_
  refine lv_istore (i := 5) (lv' := [(5, .int ((x2 / (6 : Int32)) + q5.1)), (4, .int ((x2 - x2 / (6 : Int32) * (6 : Int32)) + q4.1)), (0, .ref (ad a0)), (1, .int x1), (2, .int x2), (3, .int x3)]) C.1 C.2.1 dX9_goesTo_26 hl (by decide) rfl (fun ls hl => ?_)
  refine lv_iload C.1 C.2.1 dX9_goesTo_28 (lv_at hl 1 rfl) ?_
  refine lv_i2l C.1 C.2.1 dX9_goesTo_30 rfl ?_
  refine lv_lconst (v := (0 : Int64)) C.1 C.2.1 dX9_goesTo_31 (by decide) ?_
  refine lv_ldc2 (v := (5 : Int64)) C.1 C.2.1 C.2.2.2.1 (C.2.2.2.2 _ cl_RX9_122) dX9_goesTo_32 ?_
  refine x_az K h (x_S C K h [.long (((x2 - x2 / (6 : Int32) * (6 : Int32)) + q4.1).toInt64), .long (0 : Int64), .long (5 : Int64)] (c_X9_in l κ G cy ad H.size q5.2 (((x2 - x2 / (6 : Int32) * (6 : Int32)) + q4.1).toInt64) (0 : Int64) (5 : Int64) rfl) mi_X9_in rfl st_yX9_in ml_RX9_83 ⟨rfl, rfl, Nat.le_trans (Nat.le_of_ble_eq_true rfl) hR.1, Nat.le_trans (Nat.le_of_ble_eq_true rfl) hR.2⟩ hl (Nat.le_of_ble_eq_true rfl) dX9_goesTo_35 ⟨Nat.zero_le _, Nat.zero_le _⟩ rfl) (fun H locs h hX hz7 => ?_)
  refine lv_if_eq (tgt := 54) C.1 C.2.1 dX9_goesTo_38 (by decide) (fun c8 => ?_) (fun c8 => ?_)
  · have hf := if_t hf c8
    refine lv_iload_n C.1 C.2.1 dX9_goesTo_54 rfl (lv_at hl 4 rfl) ?_
    exact x_ri C hr hlk h hE (pf_1 (Option.some.inj hf)) (pf_2 (Option.some.inj hf)) dX9_goesTo_55
  · have hf := if_f hf c8
    refine lv_iload C.1 C.2.1 dX9_goesTo_41 (lv_at hl 0 rfl) ?_
    refine lv_i2l C.1 C.2.1 dX9_goesTo_43 rfl ?_
    refine lv_lconst (v := (0 : Int64)) C.1 C.2.1 dX9_goesTo_44 (by decide) ?_
    refine lv_ldc2 (v := (5 : Int64)) C.1 C.2.1 C.2.2.2.1 (C.2.2.2.2 _ cl_RX9_122) dX9_goesTo_45 ?_
    refine x_az K h (x_S C K h [.long (((x2 / (6 : Int32)) + q5.1).toInt64), .long (0 : Int64), .long (5 : Int64)] (c_X9_in l κ G cy ad H.size q5.2 (((x2 / (6 : Int32)) + q5.1).toInt64) (0 : Int64) (5 : Int64) rfl) mi_X9_in rfl st_yX9_in ml_RX9_83 ⟨rfl, rfl, Nat.le_trans (Nat.le_of_ble_eq_true rfl) hR.1, Nat.le_trans (Nat.le_of_ble_eq_true rfl) hR.2⟩ hl (Nat.le_of_ble_eq_true rfl) dX9_goesTo_48 ⟨Nat.zero_le _, Nat.zero_le _⟩ rfl) (fun H locs h hX hz10 => ?_)
    refine lv_if_ne (tgt := 56) C.1 C.2.1 dX9_goesTo_51 (by decide) (fun c11 => ?_) (fun c11 => ?_)
    · have hf := if_f hf c11
      refine lv_bipush (v := (6 : Int32)) C.1 C.2.1 dX9_goesTo_56 (by decide) ?_
      refine lv_iload C.1 C.2.1 dX9_goesTo_58 (lv_at hl 0 rfl) ?_
      refine lv_imul C.1 C.2.1 dX9_goesTo_60 ?_
      refine lv_iload C.1 C.2.1 dX9_goesTo_61 (lv_at hl 1 rfl) ?_
      refine lv_iadd C.1 C.2.1 dX9_goesTo_63 ?_
      refine lv_istore (i := 6) (lv' := [(6, .int (((6 : Int32) * ((x2 / (6 : Int32)) + q5.1)) + ((x2 - x2 / (6 : Int32) * (6 : Int32)) + q4.1))), (5, .int ((x2 / (6 : Int32)) + q5.1)), (4, .int ((x2 - x2 / (6 : Int32) * (6 : Int32)) + q4.1)), (0, .ref (ad a0)), (1, .int x1), (2, .int x2), (3, .int x3)]) C.1 C.2.1 dX9_goesTo_64 hl (by decide) rfl (fun ls hl => ?_)
      refine lv_aload_n C.1 C.2.1 dX9_goesTo_66 rfl (lv_at hl 3 rfl) ?_
      obtain ⟨b12, hb_b12, hf⟩ := ob_ hf
      obtain ⟨hq_b12, hk_b12⟩ := dr_in hb_b12
      refine x_get (v := .ref (ad b12)) C K h cl_9 hk_a0 8 (by decide) fl_RX9_23 (hv_r (o := sr_ q5.2 a0 8) rfl hq_b12) dX9_goesTo_67 ?_
      refine lv_iload C.1 C.2.1 dX9_goesTo_70 (lv_at hl 0 rfl) ?_
      obtain ⟨j13, hj_j13, hf⟩ := ob_ hf
      refine x_iald C K h hk_b12 hj_j13 dX9_goesTo_72 ?_
      refine lv_iconst (v := (1 : Int32)) C.1 C.2.1 dX9_goesTo_73 (by decide) ?_
      refine lv_icmp_ne (tgt := 81) C.1 C.2.1 dX9_goesTo_74 (by decide) (fun c14 => ?_) (fun c14 => ?_)
      · have hf := if_f hf c14
        refine lv_iload C.1 C.2.1 dX9_goesTo_81 (lv_at hl 0 rfl) ?_
        exact x_ri C hr hlk h hE (pf_1 (Option.some.inj hf)) (pf_2 (Option.some.inj hf)) dX9_goesTo_83
      · have hf := if_t hf c14
        refine lv_iload_n C.1 C.2.1 dX9_goesTo_77 rfl (lv_at hl 5 rfl) ?_
        refine lv_goto (tgt := 83) C.1 C.2.1 dX9_goesTo_78 (by decide) ?_
        exact x_ri C hr hlk h hE (pf_1 (Option.some.inj hf)) (pf_2 (Option.some.inj hf)) dX9_goesTo_83
    · have hf := if_t hf c11
      refine lv_iload_n C.1 C.2.1 dX9_goesTo_54 rfl (lv_at hl 4 rfl) ?_
      exact x_ri C hr hlk h hE (pf_1 (Option.some.inj hf)) (pf_2 (Option.some.inj hf)) dX9_goesTo_55
theorem c_X9_goesTo (fu : Nat) (l : Launch) (κ : Ka_) (G : va_G) (cy : Nat → ClassId) (ad : Nat → Nat) (sz : Nat) (σ : St_) (a0 : Nat) (x1 : Int32) (x2 : Int32) (x3 : Int32) (hk_a0 : kd_ σ a0 = 9) {q : Int32 × St_} (hf : f_X9_goesTo fu σ a0 x1 x2 x3 = some q) : Met l yX9_goesTo (Cond.code yX9_goesTo cX9_goesTo 7 (some .int) :: wU_) { frames := 44, cells := 0, slots := 0, locals := 980 } (va_Pc [.ref (ad a0), .int x1, .int x2, .int x3] (Pr_ κ G cy ad σ sz)) (Qi_ G cy ad σ q.2 sz q.1) 0 0 (va_A (wl_ cy ad σ) sz) :=
  x_met (by decide) (fun p e R s m below meth c ls hR C hr hlk hin _ K h hl => w_X9_goesTo fu C K hr hlk ⟨hR.1, hR.2.1⟩ σ a0 x1 x2 x3 Ex_.rf hk_a0 hf s.heap [] ls h hl) (Nat.le_of_ble_eq_true rfl)
-- X9_steps
theorem mi_X9_steps : Mi_ yX9_steps cX9_steps 4 (some .int) 2 := ⟨co_yX9_steps, in_RX9, by decide, by decide, by decide +kernel⟩
def f_X9_steps (x1 : Int32) (x2 : Int32) : Int32 := if 0 ≤ ((x1 - x1 / (6 : Int32) * (6 : Int32)) - (x2 - x2 / (6 : Int32) * (6 : Int32))) then if 0 ≤ ((x1 / (6 : Int32)) - (x2 / (6 : Int32))) then ((x1 - x1 / (6 : Int32) * (6 : Int32)) - (x2 - x2 / (6 : Int32) * (6 : Int32))) + ((x1 / (6 : Int32)) - (x2 / (6 : Int32))) else ((x1 - x1 / (6 : Int32) * (6 : Int32)) - (x2 - x2 / (6 : Int32) * (6 : Int32))) + (-((x1 / (6 : Int32)) - (x2 / (6 : Int32)))) else if 0 ≤ ((x1 / (6 : Int32)) - (x2 / (6 : Int32))) then (-((x1 - x1 / (6 : Int32) * (6 : Int32)) - (x2 - x2 / (6 : Int32) * (6 : Int32)))) + ((x1 / (6 : Int32)) - (x2 / (6 : Int32))) else (-((x1 - x1 / (6 : Int32) * (6 : Int32)) - (x2 - x2 / (6 : Int32) * (6 : Int32)))) + (-((x1 / (6 : Int32)) - (x2 / (6 : Int32))))
set_option maxHeartbeats 4000000 in
set_option maxRecDepth 100000 in
theorem w_X9_steps {p : Program} {l : Launch} {e : Env} {R : Room} {s : State} {m : MethodId} {args : Array Value} {below : List Frame} {meth : Method} {c : Code} {κ : Ka_} {G : va_G} {cy : Nat → ClassId} {ad : Nat → Nat} {sz : Nat} {σ : St_} (C : CallFix p m c cX9_steps 4 s args wU_ RX9) (K : Kx_ κ G cy (va_A (wl_ cy ad σ) sz) s) (hr : meth.sig.returnType = some .int) (hlk : meth.locks = false) (hR : 0 ≤ R.frames ∧ 0 ≤ R.locals) {q : Int32} : ∀ (x1 : Int32) (x2 : Int32), f_X9_steps x1 x2 = q → ∀ (H : Heap) (locs : List Loc) (ls : Array Slot), Ht_ G cy (va_A (wl_ cy ad σ) sz) s ad σ H locs → lv_has ls 4 [(0, .int x1), (1, .int x2)] → W p l e R s m args below meth c H locs 0 0 (MQ below (Qi_ G cy ad σ σ sz q) args s 0 0 (va_A (wl_ cy ad σ) sz)) (F0 m 0 ls []) := by
  intro x1 x2 hf H locs ls h hl
  have hf : (if 0 ≤ ((x1 - x1 / (6 : Int32) * (6 : Int32)) - (x2 - x2 / (6 : Int32) * (6 : Int32))) then if 0 ≤ ((x1 / (6 : Int32)) - (x2 / (6 : Int32))) then ((x1 - x1 / (6 : Int32) * (6 : Int32)) - (x2 - x2 / (6 : Int32) * (6 : Int32))) + ((x1 / (6 : Int32)) - (x2 / (6 : Int32))) else ((x1 - x1 / (6 : Int32) * (6 : Int32)) - (x2 - x2 / (6 : Int32) * (6 : Int32))) + (-((x1 / (6 : Int32)) - (x2 / (6 : Int32)))) else if 0 ≤ ((x1 / (6 : Int32)) - (x2 / (6 : Int32))) then (-((x1 - x1 / (6 : Int32) * (6 : Int32)) - (x2 - x2 / (6 : Int32) * (6 : Int32)))) + ((x1 / (6 : Int32)) - (x2 / (6 : Int32))) else (-((x1 - x1 / (6 : Int32) * (6 : Int32)) - (x2 - x2 / (6 : Int32) * (6 : Int32)))) + (-((x1 / (6 : Int32)) - (x2 / (6 : Int32))))) = q := hf
  refine lv_iload_n C.1 C.2.1 dX9_steps_0 rfl (lv_at hl 0 rfl) ?_
  refine lv_bipush (v := (6 : Int32)) C.1 C.2.1 dX9_steps_1 (by decide) ?_
  refine lv_irem C.1 C.2.1 dX9_steps_3 (by decide) ?_
  refine lv_iload_n C.1 C.2.1 dX9_steps_4 rfl (lv_at hl 1 rfl) ?_
  refine lv_bipush (v := (6 : Int32)) C.1 C.2.1 dX9_steps_5 (by decide) ?_
  refine lv_irem C.1 C.2.1 dX9_steps_7 (by decide) ?_
  refine lv_isub C.1 C.2.1 dX9_steps_8 ?_
  refine lv_istore_n (i := 2) (lv' := [(2, .int ((x1 - x1 / (6 : Int32) * (6 : Int32)) - (x2 - x2 / (6 : Int32) * (6 : Int32)))), (0, .int x1), (1, .int x2)]) C.1 C.2.1 dX9_steps_9 rfl hl (by decide) rfl (fun ls hl => ?_)
  refine lv_iload_n C.1 C.2.1 dX9_steps_10 rfl (lv_at hl 1 rfl) ?_
  refine lv_bipush (v := (6 : Int32)) C.1 C.2.1 dX9_steps_11 (by decide) ?_
  refine lv_idiv C.1 C.2.1 dX9_steps_13 (by decide) ?_
  refine lv_iload_n C.1 C.2.1 dX9_steps_14 rfl (lv_at hl 2 rfl) ?_
  refine lv_bipush (v := (6 : Int32)) C.1 C.2.1 dX9_steps_15 (by decide) ?_
  refine lv_idiv C.1 C.2.1 dX9_steps_17 (by decide) ?_
  refine lv_isub C.1 C.2.1 dX9_steps_18 ?_
  refine lv_istore_n (i := 3) (lv' := [(3, .int ((x1 / (6 : Int32)) - (x2 / (6 : Int32)))), (2, .int ((x1 - x1 / (6 : Int32) * (6 : Int32)) - (x2 - x2 / (6 : Int32) * (6 : Int32)))), (0, .int x1), (1, .int x2)]) C.1 C.2.1 dX9_steps_19 rfl hl (by decide) rfl (fun ls hl => ?_)
  refine lv_iload_n C.1 C.2.1 dX9_steps_20 rfl (lv_at hl 1 rfl) ?_
  refine lv_if_ge (tgt := 29) C.1 C.2.1 dX9_steps_21 (by decide) (fun c3 => ?_) (fun c3 => ?_)
  · have hf := if_t hf c3
    refine lv_iload_n C.1 C.2.1 dX9_steps_29 rfl (lv_at hl 1 rfl) ?_
    refine lv_iload_n C.1 C.2.1 dX9_steps_30 rfl (lv_at hl 0 rfl) ?_
    refine lv_if_ge (tgt := 39) C.1 C.2.1 dX9_steps_31 (by decide) (fun c4 => ?_) (fun c4 => ?_)
    · have hf := if_t hf c4
      refine lv_iload_n C.1 C.2.1 dX9_steps_39 rfl (lv_at hl 0 rfl) ?_
      refine lv_iadd C.1 C.2.1 dX9_steps_40 ?_
      exact x_ri C hr hlk h Ex_.rf hf rfl dX9_steps_41
    · have hf := if_f hf c4
      refine lv_iload_n C.1 C.2.1 dX9_steps_34 rfl (lv_at hl 0 rfl) ?_
      refine lv_ineg C.1 C.2.1 dX9_steps_35 ?_
      refine lv_goto (tgt := 40) C.1 C.2.1 dX9_steps_36 (by decide) ?_
      refine lv_iadd C.1 C.2.1 dX9_steps_40 ?_
      exact x_ri C hr hlk h Ex_.rf hf rfl dX9_steps_41
  · have hf := if_f hf c3
    refine lv_iload_n C.1 C.2.1 dX9_steps_24 rfl (lv_at hl 1 rfl) ?_
    refine lv_ineg C.1 C.2.1 dX9_steps_25 ?_
    refine lv_goto (tgt := 30) C.1 C.2.1 dX9_steps_26 (by decide) ?_
    refine lv_iload_n C.1 C.2.1 dX9_steps_30 rfl (lv_at hl 0 rfl) ?_
    refine lv_if_ge (tgt := 39) C.1 C.2.1 dX9_steps_31 (by decide) (fun c5 => ?_) (fun c5 => ?_)
    · have hf := if_t hf c5
      refine lv_iload_n C.1 C.2.1 dX9_steps_39 rfl (lv_at hl 0 rfl) ?_
      refine lv_iadd C.1 C.2.1 dX9_steps_40 ?_
      exact x_ri C hr hlk h Ex_.rf hf rfl dX9_steps_41
    · have hf := if_f hf c5
      refine lv_iload_n C.1 C.2.1 dX9_steps_34 rfl (lv_at hl 0 rfl) ?_
      refine lv_ineg C.1 C.2.1 dX9_steps_35 ?_
      refine lv_goto (tgt := 40) C.1 C.2.1 dX9_steps_36 (by decide) ?_
      refine lv_iadd C.1 C.2.1 dX9_steps_40 ?_
      exact x_ri C hr hlk h Ex_.rf hf rfl dX9_steps_41
theorem c_X9_steps (l : Launch) (κ : Ka_) (G : va_G) (cy : Nat → ClassId) (ad : Nat → Nat) (sz : Nat) (σ : St_) (x1 : Int32) (x2 : Int32) {q : Int32} (hf : f_X9_steps x1 x2 = q) : Met l yX9_steps (Cond.code yX9_steps cX9_steps 4 (some .int) :: wU_) { frames := 0, cells := 0, slots := 0, locals := 0 } (va_Pc [.int x1, .int x2] (Pr_ κ G cy ad σ sz)) (Qi_ G cy ad σ σ sz q) 0 0 (va_A (wl_ cy ad σ) sz) :=
  x_met (by decide) (fun p e R s m below meth c ls hR C hr hlk hin _ K h hl => w_X9_steps C K hr hlk ⟨hR.1, hR.2.1⟩ x1 x2 hf s.heap [] ls h hl) (Nat.le_of_ble_eq_true rfl)
-- X9_highOf
theorem mi_X9_highOf : Mi_ yX9_highOf cX9_highOf 6 (some .int) 1 := ⟨co_yX9_highOf, in_RX9, by decide, by decide, by decide +kernel⟩
def f_X9_highOf_139 (fu : Nat) (σ : St_) (s0 : Int32) : Option (Int32 × St_) := some (f_X9_within s0 (0 : Int32) (99 : Int32), σ)
set_option maxHeartbeats 4000000 in
set_option maxRecDepth 100000 in
theorem w_X9_highOf_139 {p : Program} {l : Launch} {e : Env} {R : Room} {s : State} {m : MethodId} {args : Array Value} {below : List Frame} {meth : Method} {c : Code} {κ : Ka_} {G : va_G} {cy : Nat → ClassId} {ad : Nat → Nat} {sz : Nat} {σ0 : St_} (fu : Nat) (C : CallFix p m c cX9_highOf 6 s args wU_ RX9) (K : Kx_ κ G cy (va_A (wl_ cy ad σ0) sz) s) (hr : meth.sig.returnType = some .int) (hlk : meth.locks = false) (hR : 43 ≤ R.frames ∧ 955 ≤ R.locals) {q : Int32 × St_} : ∀ (σ : St_) (s0 : Int32), Ex_ σ0 σ → f_X9_highOf_139 fu σ s0 = some q → ∀ (H : Heap) (locs : List Loc) (ls : Array Slot), Ht_ G cy (va_A (wl_ cy ad σ0) sz) s ad σ H locs → lv_has ls 6 [] → W p l e R s m args below meth c H locs 0 0 (MQ below (Qi_ G cy ad σ0 q.2 sz q.1) args s 0 0 (va_A (wl_ cy ad σ0) sz)) (F0 m 139 ls [.int s0]) := by
  intro σ s0 hE hf H locs ls h hl
  have hf : (some (f_X9_within s0 (0 : Int32) (99 : Int32), σ)) = some q := hf
  refine lv_iconst (v := (0 : Int32)) C.1 C.2.1 dX9_highOf_139 (by decide) ?_
  refine lv_bipush (v := (99 : Int32)) C.1 C.2.1 dX9_highOf_140 (by decide) ?_
  refine x_ai K h (x_S C K h [.int s0, .int (0 : Int32), .int (99 : Int32)] (c_X9_within l κ G cy ad H.size σ s0 (0 : Int32) (99 : Int32) rfl) mi_X9_within rfl st_yX9_within ml_RX9_345 ⟨rfl, rfl, Nat.le_trans (Nat.le_of_ble_eq_true rfl) hR.1, Nat.le_trans (Nat.le_of_ble_eq_true rfl) hR.2⟩ hl (Nat.le_of_ble_eq_true rfl) dX9_highOf_142 ⟨Nat.zero_le _, Nat.zero_le _⟩ rfl) (fun H locs h hX => ?_)
  exact x_ri C hr hlk h hE (pf_1 (Option.some.inj hf)) (pf_2 (Option.some.inj hf)) dX9_highOf_145
def f_X9_highOf_19 (fu : Nat) : Nat → St_ → Nat → Int32 → Int32 → Int32 → Int32 → Option (Int32 × St_)
  | 0 => fun _ _ _ _ _ _ => none
  | n + 1 => fun σ  v0  v1  v2  v3  v4 => if (si_ σ v0 11) ≤ v4 then (dr_ σ 10 (sr_ σ v0 10)).bind fun b2 => (ix_ (((3 : Int32) * v1) + (1 : Int32)) (ln_ σ b2)).bind fun j3 => (f_X9_says fu σ v0 (2 : Int32) v1 (si_ σ b2 j3) (0 : Int32)).bind fun q4 => if v2 = (2 : Int32) then f_X9_highOf_139 fu q4.2 q4.1 else if v2 = (1 : Int32) then f_X9_highOf_139 fu q4.2 ((q4.1 + v3) + (2 : Int32)) else if v2 = (3 : Int32) then f_X9_highOf_139 fu q4.2 ((2 : Int32) * ((q4.1 + v3) + (2 : Int32))) else f_X9_highOf_139 fu q4.2 (q4.1 + v3) else if v4 = v1 then (f_X9_highOf_19 fu n) σ v0 v1 v2 (v3 + (0 : Int32)) (v4 + (1 : Int32)) else (dr_ σ 10 (sr_ σ v0 10)).bind fun b9 => (ix_ (((3 : Int32) * v4) + (1 : Int32)) (ln_ σ b9)).bind fun j10 => (ix_ (((3 : Int32) * v1) + (1 : Int32)) (ln_ σ b9)).bind fun j11 => if (2 : Int32) ≤ (f_X9_steps (si_ σ b9 j10) (si_ σ b9 j11)) then (f_X9_highOf_19 fu n) σ v0 v1 v2 (v3 + (0 : Int32)) (v4 + (1 : Int32)) else (f_X9_highOf_19 fu n) σ v0 v1 v2 (v3 + (1 : Int32)) (v4 + (1 : Int32))
set_option maxHeartbeats 4000000 in
set_option maxRecDepth 100000 in
theorem w_X9_highOf_19 {p : Program} {l : Launch} {e : Env} {R : Room} {s : State} {m : MethodId} {args : Array Value} {below : List Frame} {meth : Method} {c : Code} {κ : Ka_} {G : va_G} {cy : Nat → ClassId} {ad : Nat → Nat} {sz : Nat} {σ0 : St_} (fu : Nat) (C : CallFix p m c cX9_highOf 6 s args wU_ RX9) (K : Kx_ κ G cy (va_A (wl_ cy ad σ0) sz) s) (hr : meth.sig.returnType = some .int) (hlk : meth.locks = false) (hR : 43 ≤ R.frames ∧ 955 ≤ R.locals) {q : Int32 × St_} : ∀ n : Nat, ∀ (σ : St_) (v0 : Nat) (v1 : Int32) (v2 : Int32) (v3 : Int32) (v4 : Int32), Ex_ σ0 σ → kd_ σ v0 = 9 → f_X9_highOf_19 fu n σ v0 v1 v2 v3 v4 = some q → ∀ (H : Heap) (locs : List Loc) (ls : Array Slot), Ht_ G cy (va_A (wl_ cy ad σ0) sz) s ad σ H locs → lv_has ls 6 [(0, .ref (ad v0)), (1, .int v1), (2, .int v2), (3, .int v3), (4, .int v4)] → W p l e R s m args below meth c H locs 0 0 (MQ below (Qi_ G cy ad σ0 q.2 sz q.1) args s 0 0 (va_A (wl_ cy ad σ0) sz)) (F0 m 19 ls []) := by
  intro n
  induction n with
  | zero =>
    intro σ v0 v1 v2 v3 v4 hE hk_v0 hf H locs ls h hl
    cases hf
  | succ n ih =>
    intro σ v0 v1 v2 v3 v4 hE hk_v0 hf H locs ls h hl
    have hf : (if (si_ σ v0 11) ≤ v4 then (dr_ σ 10 (sr_ σ v0 10)).bind fun b2 => (ix_ (((3 : Int32) * v1) + (1 : Int32)) (ln_ σ b2)).bind fun j3 => (f_X9_says fu σ v0 (2 : Int32) v1 (si_ σ b2 j3) (0 : Int32)).bind fun q4 => if v2 = (2 : Int32) then f_X9_highOf_139 fu q4.2 q4.1 else if v2 = (1 : Int32) then f_X9_highOf_139 fu q4.2 ((q4.1 + v3) + (2 : Int32)) else if v2 = (3 : Int32) then f_X9_highOf_139 fu q4.2 ((2 : Int32) * ((q4.1 + v3) + (2 : Int32))) else f_X9_highOf_139 fu q4.2 (q4.1 + v3) else if v4 = v1 then (f_X9_highOf_19 fu n) σ v0 v1 v2 (v3 + (0 : Int32)) (v4 + (1 : Int32)) else (dr_ σ 10 (sr_ σ v0 10)).bind fun b9 => (ix_ (((3 : Int32) * v4) + (1 : Int32)) (ln_ σ b9)).bind fun j10 => (ix_ (((3 : Int32) * v1) + (1 : Int32)) (ln_ σ b9)).bind fun j11 => if (2 : Int32) ≤ (f_X9_steps (si_ σ b9 j10) (si_ σ b9 j11)) then (f_X9_highOf_19 fu n) σ v0 v1 v2 (v3 + (0 : Int32)) (v4 + (1 : Int32)) else (f_X9_highOf_19 fu n) σ v0 v1 v2 (v3 + (1 : Int32)) (v4 + (1 : Int32))) = some q := hf
    refine lv_iload C.1 C.2.1 dX9_highOf_19 (lv_at hl 4 rfl) ?_
    refine lv_aload_n C.1 C.2.1 dX9_highOf_21 rfl (lv_at hl 0 rfl) ?_
    refine x_get (v := .int (si_ σ v0 11)) C K h cl_9 hk_v0 11 (by decide) fl_RX9_80 rfl dX9_highOf_22 ?_
    refine lv_icmp_ge (tgt := 76) C.1 C.2.1 dX9_highOf_25 (by decide) (fun c1 => ?_) (fun c1 => ?_)
    · have hf := if_t hf c1
      refine lv_aload_n C.1 C.2.1 dX9_highOf_76 rfl (lv_at hl 0 rfl) ?_
      refine lv_iconst (v := (2 : Int32)) C.1 C.2.1 dX9_highOf_77 (by decide) ?_
      refine lv_iload_n C.1 C.2.1 dX9_highOf_78 rfl (lv_at hl 1 rfl) ?_
      refine lv_aload_n C.1 C.2.1 dX9_highOf_79 rfl (lv_at hl 0 rfl) ?_
      obtain ⟨b2, hb_b2, hf⟩ := ob_ hf
      obtain ⟨hq_b2, hk_b2⟩ := dr_in hb_b2
      refine x_get (v := .ref (ad b2)) C K h cl_9 hk_v0 10 (by decide) fl_RX9_29 (hv_r (o := sr_ σ v0 10) rfl hq_b2) dX9_highOf_80 ?_
      refine lv_iconst (v := (3 : Int32)) C.1 C.2.1 dX9_highOf_83 (by decide) ?_
      refine lv_iload_n C.1 C.2.1 dX9_highOf_84 rfl (lv_at hl 1 rfl) ?_
      refine lv_imul C.1 C.2.1 dX9_highOf_85 ?_
      refine lv_iconst (v := (1 : Int32)) C.1 C.2.1 dX9_highOf_86 (by decide) ?_
      refine lv_iadd C.1 C.2.1 dX9_highOf_87 ?_
      obtain ⟨j3, hj_j3, hf⟩ := ob_ hf
      refine x_iald C K h hk_b2 hj_j3 dX9_highOf_88 ?_
      refine lv_iconst (v := (0 : Int32)) C.1 C.2.1 dX9_highOf_89 (by decide) ?_
      obtain ⟨q4, hq_q4, hf⟩ := ob_ hf
      refine x_ai K h (x_V C K h [.int (2 : Int32), .int v1, .int (si_ σ b2 j3), .int (0 : Int32)] (c_X9_says fu l κ G cy ad H.size σ v0 (2 : Int32) v1 (si_ σ b2 j3) (0 : Int32) hk_v0 hq_q4) mi_X9_says rfl im_yX9_says se_yX9_says ml_RX9_348 cl_9 hk_v0 ⟨rfl, rfl, Nat.le_trans (Nat.le_of_ble_eq_true rfl) hR.1, Nat.le_trans (Nat.le_of_ble_eq_true rfl) hR.2⟩ hl (Nat.le_of_ble_eq_true rfl) dX9_highOf_90 ⟨Nat.zero_le _, Nat.zero_le _⟩ rfl) (fun H locs h hX => ?_)
      have hE := hE.trans hX
      have hk_v0 := hX.k hk_v0 (by decide)
      refine lv_istore (i := 4) (lv' := [(4, .int q4.1), (0, .ref (ad v0)), (1, .int v1), (2, .int v2), (3, .int v3)]) C.1 C.2.1 dX9_highOf_93 hl (by decide) rfl (fun ls hl => ?_)
      refine lv_iload C.1 C.2.1 dX9_highOf_95 (lv_at hl 0 rfl) ?_
      refine lv_iload_n C.1 C.2.1 dX9_highOf_97 rfl (lv_at hl 4 rfl) ?_
      refine lv_iadd C.1 C.2.1 dX9_highOf_98 ?_
      refine lv_istore (i := 5) (lv' := [(5, .int (q4.1 + v3)), (4, .int q4.1), (0, .ref (ad v0)), (1, .int v1), (2, .int v2), (3, .int v3)]) C.1 C.2.1 dX9_highOf_99 hl (by decide) rfl (fun ls hl => ?_)
      refine lv_iload_n C.1 C.2.1 dX9_highOf_101 rfl (lv_at hl 4 rfl) ?_
      refine lv_iconst (v := (2 : Int32)) C.1 C.2.1 dX9_highOf_102 (by decide) ?_
      refine lv_icmp_ne (tgt := 111) C.1 C.2.1 dX9_highOf_103 (by decide) (fun c5 => ?_) (fun c5 => ?_)
      · have hf := if_f hf c5
        refine lv_iload_n C.1 C.2.1 dX9_highOf_111 rfl (lv_at hl 4 rfl) ?_
        refine lv_iconst (v := (1 : Int32)) C.1 C.2.1 dX9_highOf_112 (by decide) ?_
        refine lv_icmp_ne (tgt := 123) C.1 C.2.1 dX9_highOf_113 (by decide) (fun c6 => ?_) (fun c6 => ?_)
        · have hf := if_f hf c6
          refine lv_iload_n C.1 C.2.1 dX9_highOf_123 rfl (lv_at hl 4 rfl) ?_
          refine lv_iconst (v := (3 : Int32)) C.1 C.2.1 dX9_highOf_124 (by decide) ?_
          refine lv_icmp_ne (tgt := 137) C.1 C.2.1 dX9_highOf_125 (by decide) (fun c7 => ?_) (fun c7 => ?_)
          · have hf := if_f hf c7
            refine lv_iload C.1 C.2.1 dX9_highOf_137 (lv_at hl 0 rfl) ?_
            exact w_X9_highOf_139 fu C K hr hlk hR q4.2 (q4.1 + v3) hE hf _ _ _ h (lv_sub hl [] rfl)
          · have hf := if_t hf c7
            refine lv_iconst (v := (2 : Int32)) C.1 C.2.1 dX9_highOf_128 (by decide) ?_
            refine lv_iload C.1 C.2.1 dX9_highOf_129 (lv_at hl 0 rfl) ?_
            refine lv_iconst (v := (2 : Int32)) C.1 C.2.1 dX9_highOf_131 (by decide) ?_
            refine lv_iadd C.1 C.2.1 dX9_highOf_132 ?_
            refine lv_imul C.1 C.2.1 dX9_highOf_133 ?_
            refine lv_goto (tgt := 139) C.1 C.2.1 dX9_highOf_134 (by decide) ?_
            exact w_X9_highOf_139 fu C K hr hlk hR q4.2 ((2 : Int32) * ((q4.1 + v3) + (2 : Int32))) hE hf _ _ _ h (lv_sub hl [] rfl)
        · have hf := if_t hf c6
          refine lv_iload C.1 C.2.1 dX9_highOf_116 (lv_at hl 0 rfl) ?_
          refine lv_iconst (v := (2 : Int32)) C.1 C.2.1 dX9_highOf_118 (by decide) ?_
          refine lv_iadd C.1 C.2.1 dX9_highOf_119 ?_
          refine lv_goto (tgt := 139) C.1 C.2.1 dX9_highOf_120 (by decide) ?_
          exact w_X9_highOf_139 fu C K hr hlk hR q4.2 ((q4.1 + v3) + (2 : Int32)) hE hf _ _ _ h (lv_sub hl [] rfl)
      · have hf := if_t hf c5
        refine lv_iload C.1 C.2.1 dX9_highOf_106 (lv_at hl 1 rfl) ?_
        refine lv_goto (tgt := 139) C.1 C.2.1 dX9_highOf_108 (by decide) ?_
        exact w_X9_highOf_139 fu C K hr hlk hR q4.2 q4.1 hE hf _ _ _ h (lv_sub hl [] rfl)
    · have hf := if_f hf c1
      refine lv_iload_n C.1 C.2.1 dX9_highOf_28 rfl (lv_at hl 3 rfl) ?_
      refine lv_iload C.1 C.2.1 dX9_highOf_29 (lv_at hl 4 rfl) ?_
      refine lv_iload_n C.1 C.2.1 dX9_highOf_31 rfl (lv_at hl 1 rfl) ?_
      refine lv_icmp_eq (tgt := 67) C.1 C.2.1 dX9_highOf_32 (by decide) (fun c8 => ?_) (fun c8 => ?_)
      · have hf := if_t hf c8
        refine lv_iconst (v := (0 : Int32)) C.1 C.2.1 dX9_highOf_67 (by decide) ?_
        refine lv_iadd C.1 C.2.1 dX9_highOf_68 ?_
        refine lv_istore_n (i := 3) (lv' := [(3, .int (v3 + (0 : Int32))), (0, .ref (ad v0)), (1, .int v1), (2, .int v2), (4, .int v4)]) C.1 C.2.1 dX9_highOf_69 rfl hl (by decide) rfl (fun ls hl => ?_)
        refine lv_iinc (v := v4 + (1 : Int32)) (lv' := [(4, .int (v4 + (1 : Int32))), (3, .int (v3 + (0 : Int32))), (0, .ref (ad v0)), (1, .int v1), (2, .int v2)]) C.1 C.2.1 dX9_highOf_70 hl (k := 4) rfl rfl (by decide) rfl (fun ls hl => ?_)
        refine lv_goto (tgt := 19) C.1 C.2.1 dX9_highOf_73 (by decide) ?_
        exact ih σ v0 v1 v2 (v3 + (0 : Int32)) (v4 + (1 : Int32)) hE hk_v0 hf _ _ _ h (lv_sub hl [2, 3, 4, 1, 0] rfl)
      · have hf := if_f hf c8
        refine lv_aload_n C.1 C.2.1 dX9_highOf_35 rfl (lv_at hl 0 rfl) ?_
        obtain ⟨b9, hb_b9, hf⟩ := ob_ hf
        obtain ⟨hq_b9, hk_b9⟩ := dr_in hb_b9
        refine x_get (v := .ref (ad b9)) C K h cl_9 hk_v0 10 (by decide) fl_RX9_29 (hv_r (o := sr_ σ v0 10) rfl hq_b9) dX9_highOf_36 ?_
        refine lv_iconst (v := (3 : Int32)) C.1 C.2.1 dX9_highOf_39 (by decide) ?_
        refine lv_iload C.1 C.2.1 dX9_highOf_40 (lv_at hl 4 rfl) ?_
        refine lv_imul C.1 C.2.1 dX9_highOf_42 ?_
        refine lv_iconst (v := (1 : Int32)) C.1 C.2.1 dX9_highOf_43 (by decide) ?_
        refine lv_iadd C.1 C.2.1 dX9_highOf_44 ?_
        obtain ⟨j10, hj_j10, hf⟩ := ob_ hf
        refine x_iald C K h hk_b9 hj_j10 dX9_highOf_45 ?_
        refine lv_aload_n C.1 C.2.1 dX9_highOf_46 rfl (lv_at hl 0 rfl) ?_
        refine x_get (v := .ref (ad b9)) C K h cl_9 hk_v0 10 (by decide) fl_RX9_29 (hv_r (o := sr_ σ v0 10) rfl hq_b9) dX9_highOf_47 ?_
        refine lv_iconst (v := (3 : Int32)) C.1 C.2.1 dX9_highOf_50 (by decide) ?_
        refine lv_iload_n C.1 C.2.1 dX9_highOf_51 rfl (lv_at hl 1 rfl) ?_
        refine lv_imul C.1 C.2.1 dX9_highOf_52 ?_
        refine lv_iconst (v := (1 : Int32)) C.1 C.2.1 dX9_highOf_53 (by decide) ?_
        refine lv_iadd C.1 C.2.1 dX9_highOf_54 ?_
        obtain ⟨j11, hj_j11, hf⟩ := ob_ hf
        refine x_iald C K h hk_b9 hj_j11 dX9_highOf_55 ?_
        refine x_ai K h (x_S C K h [.int (si_ σ b9 j10), .int (si_ σ b9 j11)] (c_X9_steps l κ G cy ad H.size σ (si_ σ b9 j10) (si_ σ b9 j11) rfl) mi_X9_steps rfl st_yX9_steps ml_RX9_358 ⟨rfl, rfl, Nat.le_trans (Nat.le_of_ble_eq_true rfl) hR.1, Nat.le_trans (Nat.le_of_ble_eq_true rfl) hR.2⟩ hl (Nat.le_of_ble_eq_true rfl) dX9_highOf_56 ⟨Nat.zero_le _, Nat.zero_le _⟩ rfl) (fun H locs h hX => ?_)
        refine lv_iconst (v := (2 : Int32)) C.1 C.2.1 dX9_highOf_59 (by decide) ?_
        refine lv_icmp_ge (tgt := 67) C.1 C.2.1 dX9_highOf_60 (by decide) (fun c13 => ?_) (fun c13 => ?_)
        · have hf := if_t hf c13
          refine lv_iconst (v := (0 : Int32)) C.1 C.2.1 dX9_highOf_67 (by decide) ?_
          refine lv_iadd C.1 C.2.1 dX9_highOf_68 ?_
          refine lv_istore_n (i := 3) (lv' := [(3, .int (v3 + (0 : Int32))), (0, .ref (ad v0)), (1, .int v1), (2, .int v2), (4, .int v4)]) C.1 C.2.1 dX9_highOf_69 rfl hl (by decide) rfl (fun ls hl => ?_)
          refine lv_iinc (v := v4 + (1 : Int32)) (lv' := [(4, .int (v4 + (1 : Int32))), (3, .int (v3 + (0 : Int32))), (0, .ref (ad v0)), (1, .int v1), (2, .int v2)]) C.1 C.2.1 dX9_highOf_70 hl (k := 4) rfl rfl (by decide) rfl (fun ls hl => ?_)
          refine lv_goto (tgt := 19) C.1 C.2.1 dX9_highOf_73 (by decide) ?_
          exact ih σ v0 v1 v2 (v3 + (0 : Int32)) (v4 + (1 : Int32)) hE hk_v0 hf _ _ _ h (lv_sub hl [2, 3, 4, 1, 0] rfl)
        · have hf := if_f hf c13
          refine lv_iconst (v := (1 : Int32)) C.1 C.2.1 dX9_highOf_63 (by decide) ?_
          refine lv_goto (tgt := 68) C.1 C.2.1 dX9_highOf_64 (by decide) ?_
          refine lv_iadd C.1 C.2.1 dX9_highOf_68 ?_
          refine lv_istore_n (i := 3) (lv' := [(3, .int (v3 + (1 : Int32))), (0, .ref (ad v0)), (1, .int v1), (2, .int v2), (4, .int v4)]) C.1 C.2.1 dX9_highOf_69 rfl hl (by decide) rfl (fun ls hl => ?_)
          refine lv_iinc (v := v4 + (1 : Int32)) (lv' := [(4, .int (v4 + (1 : Int32))), (3, .int (v3 + (1 : Int32))), (0, .ref (ad v0)), (1, .int v1), (2, .int v2)]) C.1 C.2.1 dX9_highOf_70 hl (k := 4) rfl rfl (by decide) rfl (fun ls hl => ?_)
          refine lv_goto (tgt := 19) C.1 C.2.1 dX9_highOf_73 (by decide) ?_
          exact ih σ v0 v1 v2 (v3 + (1 : Int32)) (v4 + (1 : Int32)) hE hk_v0 hf _ _ _ h (lv_sub hl [2, 3, 4, 1, 0] rfl)
def f_X9_highOf (fu : Nat) (σ : St_) (a0 : Nat) (x1 : Int32) : Option (Int32 × St_) := (dr_ σ 10 (sr_ σ a0 9)).bind fun b2 => (ix_ x1 (ln_ σ b2)).bind fun j3 => if (si_ σ b2 j3) = (4 : Int32) then some ((0 : Int32), σ) else f_X9_highOf_19 fu fu σ a0 x1 (si_ σ b2 j3) (0 : Int32) (0 : Int32)
set_option maxHeartbeats 4000000 in
set_option maxRecDepth 100000 in
theorem w_X9_highOf {p : Program} {l : Launch} {e : Env} {R : Room} {s : State} {m : MethodId} {args : Array Value} {below : List Frame} {meth : Method} {c : Code} {κ : Ka_} {G : va_G} {cy : Nat → ClassId} {ad : Nat → Nat} {sz : Nat} {σ0 : St_} (fu : Nat) (C : CallFix p m c cX9_highOf 6 s args wU_ RX9) (K : Kx_ κ G cy (va_A (wl_ cy ad σ0) sz) s) (hr : meth.sig.returnType = some .int) (hlk : meth.locks = false) (hR : 43 ≤ R.frames ∧ 955 ≤ R.locals) {q : Int32 × St_} : ∀ (σ : St_) (a0 : Nat) (x1 : Int32), Ex_ σ0 σ → kd_ σ a0 = 9 → f_X9_highOf fu σ a0 x1 = some q → ∀ (H : Heap) (locs : List Loc) (ls : Array Slot), Ht_ G cy (va_A (wl_ cy ad σ0) sz) s ad σ H locs → lv_has ls 6 [(0, .ref (ad a0)), (1, .int x1)] → W p l e R s m args below meth c H locs 0 0 (MQ below (Qi_ G cy ad σ0 q.2 sz q.1) args s 0 0 (va_A (wl_ cy ad σ0) sz)) (F0 m 0 ls []) := by
  intro σ a0 x1 hE hk_a0 hf H locs ls h hl
  have hf : ((dr_ σ 10 (sr_ σ a0 9)).bind fun b2 => (ix_ x1 (ln_ σ b2)).bind fun j3 => if (si_ σ b2 j3) = (4 : Int32) then some ((0 : Int32), σ) else f_X9_highOf_19 fu fu σ a0 x1 (si_ σ b2 j3) (0 : Int32) (0 : Int32)) = some q := hf
  refine lv_aload_n C.1 C.2.1 dX9_highOf_0 rfl (lv_at hl 0 rfl) ?_
  obtain ⟨b2, hb_b2, hf⟩ := ob_ hf
  obtain ⟨hq_b2, hk_b2⟩ := dr_in hb_b2
  refine x_get (v := .ref (ad b2)) C K h cl_9 hk_a0 9 (by decide) fl_RX9_26 (hv_r (o := sr_ σ a0 9) rfl hq_b2) dX9_highOf_1 ?_
  refine lv_iload_n C.1 C.2.1 dX9_highOf_4 rfl (lv_at hl 1 rfl) ?_
  obtain ⟨j3, hj_j3, hf⟩ := ob_ hf
  refine x_iald C K h hk_b2 hj_j3 dX9_highOf_5 ?_
  refine lv_istore_n (i := 2) (lv' := [(2, .int (si_ σ b2 j3)), (0, .ref (ad a0)), (1, .int x1)]) C.1 C.2.1 dX9_highOf_6 rfl hl (by decide) rfl (fun ls hl => ?_)
  refine lv_iload_n C.1 C.2.1 dX9_highOf_7 rfl (lv_at hl 0 rfl) ?_
  refine lv_iconst (v := (4 : Int32)) C.1 C.2.1 dX9_highOf_8 (by decide) ?_
  refine lv_icmp_ne (tgt := 14) C.1 C.2.1 dX9_highOf_9 (by decide) (fun c4 => ?_) (fun c4 => ?_)
  · have hf := if_f hf c4
    refine lv_iconst (v := (0 : Int32)) C.1 C.2.1 dX9_highOf_14 (by decide) ?_
    refine lv_istore_n (i := 3) (lv' := [(3, .int (0 : Int32)), (2, .int (si_ σ b2 j3)), (0, .ref (ad a0)), (1, .int x1)]) C.1 C.2.1 dX9_highOf_15 rfl hl (by decide) rfl (fun ls hl => ?_)
    refine lv_iconst (v := (0 : Int32)) C.1 C.2.1 dX9_highOf_16 (by decide) ?_
    refine lv_istore (i := 4) (lv' := [(4, .int (0 : Int32)), (3, .int (0 : Int32)), (2, .int (si_ σ b2 j3)), (0, .ref (ad a0)), (1, .int x1)]) C.1 C.2.1 dX9_highOf_17 hl (by decide) rfl (fun ls hl => ?_)
    exact w_X9_highOf_19 fu C K hr hlk hR fu σ a0 x1 (si_ σ b2 j3) (0 : Int32) (0 : Int32) hE hk_a0 hf _ _ _ h (lv_sub hl [3, 4, 2, 1, 0] rfl)
  · have hf := if_t hf c4
    refine lv_iconst (v := (0 : Int32)) C.1 C.2.1 dX9_highOf_12 (by decide) ?_
    exact x_ri C hr hlk h hE (pf_1 (Option.some.inj hf)) (pf_2 (Option.some.inj hf)) dX9_highOf_13
theorem c_X9_highOf (fu : Nat) (l : Launch) (κ : Ka_) (G : va_G) (cy : Nat → ClassId) (ad : Nat → Nat) (sz : Nat) (σ : St_) (a0 : Nat) (x1 : Int32) (hk_a0 : kd_ σ a0 = 9) {q : Int32 × St_} (hf : f_X9_highOf fu σ a0 x1 = some q) : Met l yX9_highOf (Cond.code yX9_highOf cX9_highOf 6 (some .int) :: wU_) { frames := 43, cells := 0, slots := 0, locals := 955 } (va_Pc [.ref (ad a0), .int x1] (Pr_ κ G cy ad σ sz)) (Qi_ G cy ad σ q.2 sz q.1) 0 0 (va_A (wl_ cy ad σ) sz) :=
  x_met (by decide) (fun p e R s m below meth c ls hR C hr hlk hin _ K h hl => w_X9_highOf fu C K hr hlk ⟨hR.1, hR.2.1⟩ σ a0 x1 Ex_.rf hk_a0 hf s.heap [] ls h hl) (Nat.le_of_ble_eq_true rfl)
-- X9_told
theorem mi_X9_told : Mi_ yX9_told cX9_told 3 (some .int) 2 := ⟨co_yX9_told, in_RX9, by decide, by decide, by decide +kernel⟩
def f_X9_told_26 (fu : Nat) (σ : St_) (v0 : Nat) (v1 : Int32) (v2 : Int32) : Option (Int32 × St_) := if (f_X9_isOf σ v0 v2 v1) = 0 then some ((-2 : Int32), σ) else if (2 : Int32) ≤ v2 then if v2 ≤ (9 : Int32) then if (5 : Int32) ≤ v2 then if v2 = (5 : Int32) then (dr_ σ 10 (sr_ σ v0 9)).bind fun b9 => (ix_ v1 (ln_ σ b9)).bind fun j10 => some (si_ σ b9 j10, σ) else (f_X9_highOf fu σ v0 v1).bind fun q8 => some (q8.1, q8.2) else (dr_ σ 10 (sr_ σ v0 10)).bind fun b11 => (ix_ ((((3 : Int32) * v1) + v2) - (2 : Int32)) (ln_ σ b11)).bind fun j12 => some (si_ σ b11 j12, σ) else (dr_ σ 10 (sr_ σ v0 10)).bind fun b13 => (ix_ (((3 : Int32) * v1) + (1 : Int32)) (ln_ σ b13)).bind fun j14 => (f_X9_goesTo fu σ v0 v1 (si_ σ b13 j14) (v2 - (10 : Int32))).bind fun q15 => some (q15.1, q15.2) else if v2 = 0 then some (si_ σ v0 7, σ) else (dr_ σ 10 (sr_ σ v0 8)).bind fun b17 => (ix_ v1 (ln_ σ b17)).bind fun j18 => some (si_ σ b17 j18, σ)
set_option maxHeartbeats 4000000 in
set_option maxRecDepth 100000 in
theorem w_X9_told_26 {p : Program} {l : Launch} {e : Env} {R : Room} {s : State} {m : MethodId} {args : Array Value} {below : List Frame} {meth : Method} {c : Code} {κ : Ka_} {G : va_G} {cy : Nat → ClassId} {ad : Nat → Nat} {sz : Nat} {σ0 : St_} (fu : Nat) (C : CallFix p m c cX9_told 3 s args wU_ RX9) (K : Kx_ κ G cy (va_A (wl_ cy ad σ0) sz) s) (hr : meth.sig.returnType = some .int) (hlk : meth.locks = false) (hR : 45 ≤ R.frames ∧ 1006 ≤ R.locals) {q : Int32 × St_} : ∀ (σ : St_) (v0 : Nat) (v1 : Int32) (v2 : Int32), Ex_ σ0 σ → kd_ σ v0 = 9 → f_X9_told_26 fu σ v0 v1 v2 = some q → ∀ (H : Heap) (locs : List Loc) (ls : Array Slot), Ht_ G cy (va_A (wl_ cy ad σ0) sz) s ad σ H locs → lv_has ls 3 [(0, .ref (ad v0)), (1, .int v1), (2, .int v2)] → W p l e R s m args below meth c H locs 0 0 (MQ below (Qi_ G cy ad σ0 q.2 sz q.1) args s 0 0 (va_A (wl_ cy ad σ0) sz)) (F0 m 26 ls []) := by
  intro σ v0 v1 v2 hE hk_v0 hf H locs ls h hl
  have hf : (if (f_X9_isOf σ v0 v2 v1) = 0 then some ((-2 : Int32), σ) else if (2 : Int32) ≤ v2 then if v2 ≤ (9 : Int32) then if (5 : Int32) ≤ v2 then if v2 = (5 : Int32) then (dr_ σ 10 (sr_ σ v0 9)).bind fun b9 => (ix_ v1 (ln_ σ b9)).bind fun j10 => some (si_ σ b9 j10, σ) else (f_X9_highOf fu σ v0 v1).bind fun q8 => some (q8.1, q8.2) else (dr_ σ 10 (sr_ σ v0 10)).bind fun b11 => (ix_ ((((3 : Int32) * v1) + v2) - (2 : Int32)) (ln_ σ b11)).bind fun j12 => some (si_ σ b11 j12, σ) else (dr_ σ 10 (sr_ σ v0 10)).bind fun b13 => (ix_ (((3 : Int32) * v1) + (1 : Int32)) (ln_ σ b13)).bind fun j14 => (f_X9_goesTo fu σ v0 v1 (si_ σ b13 j14) (v2 - (10 : Int32))).bind fun q15 => some (q15.1, q15.2) else if v2 = 0 then some (si_ σ v0 7, σ) else (dr_ σ 10 (sr_ σ v0 8)).bind fun b17 => (ix_ v1 (ln_ σ b17)).bind fun j18 => some (si_ σ b17 j18, σ)) = some q := hf
  refine lv_aload_n C.1 C.2.1 dX9_told_26 rfl (lv_at hl 0 rfl) ?_
  refine lv_iload_n C.1 C.2.1 dX9_told_27 rfl (lv_at hl 2 rfl) ?_
  refine lv_iload_n C.1 C.2.1 dX9_told_28 rfl (lv_at hl 1 rfl) ?_
  refine x_az K h (x_V C K h [.int v2, .int v1] (c_X9_isOf l κ G cy ad H.size σ v0 v2 v1 hk_v0 rfl) mi_X9_isOf rfl im_yX9_isOf se_yX9_isOf ml_RX9_100 cl_9 hk_v0 ⟨rfl, rfl, Nat.le_trans (Nat.le_of_ble_eq_true rfl) hR.1, Nat.le_trans (Nat.le_of_ble_eq_true rfl) hR.2⟩ hl (Nat.le_of_ble_eq_true rfl) dX9_told_29 ⟨Nat.zero_le _, Nat.zero_le _⟩ rfl) (fun H locs h hX hz2 => ?_)
  refine lv_if_ne (tgt := 38) C.1 C.2.1 dX9_told_32 (by decide) (fun c3 => ?_) (fun c3 => ?_)
  · have hf := if_f hf c3
    refine lv_iload_n C.1 C.2.1 dX9_told_38 rfl (lv_at hl 2 rfl) ?_
    refine lv_iconst (v := (2 : Int32)) C.1 C.2.1 dX9_told_39 (by decide) ?_
    refine lv_icmp_ge (tgt := 61) C.1 C.2.1 dX9_told_40 (by decide) (fun c4 => ?_) (fun c4 => ?_)
    · have hf := if_t hf c4
      refine lv_iload_n C.1 C.2.1 dX9_told_61 rfl (lv_at hl 2 rfl) ?_
      refine lv_bipush (v := (9 : Int32)) C.1 C.2.1 dX9_told_62 (by decide) ?_
      refine lv_icmp_le (tgt := 87) C.1 C.2.1 dX9_told_64 (by decide) (fun c5 => ?_) (fun c5 => ?_)
      · have hf := if_t hf c5
        refine lv_iload_n C.1 C.2.1 dX9_told_87 rfl (lv_at hl 2 rfl) ?_
        refine lv_iconst (v := (5 : Int32)) C.1 C.2.1 dX9_told_88 (by decide) ?_
        refine lv_icmp_ge (tgt := 107) C.1 C.2.1 dX9_told_89 (by decide) (fun c6 => ?_) (fun c6 => ?_)
        · have hf := if_t hf c6
          refine lv_iload_n C.1 C.2.1 dX9_told_107 rfl (lv_at hl 2 rfl) ?_
          refine lv_iconst (v := (5 : Int32)) C.1 C.2.1 dX9_told_108 (by decide) ?_
          refine lv_icmp_ne (tgt := 121) C.1 C.2.1 dX9_told_109 (by decide) (fun c7 => ?_) (fun c7 => ?_)
          · have hf := if_f hf c7
            refine lv_aload_n C.1 C.2.1 dX9_told_121 rfl (lv_at hl 0 rfl) ?_
            refine lv_iload_n C.1 C.2.1 dX9_told_122 rfl (lv_at hl 1 rfl) ?_
            obtain ⟨q8, hq_q8, hf⟩ := ob_ hf
            refine x_ai K h (x_V C K h [.int v1] (c_X9_highOf fu l κ G cy ad H.size σ v0 v1 hk_v0 hq_q8) mi_X9_highOf rfl im_yX9_highOf se_yX9_highOf ml_RX9_136 cl_9 hk_v0 ⟨rfl, rfl, Nat.le_trans (Nat.le_of_ble_eq_true rfl) hR.1, Nat.le_trans (Nat.le_of_ble_eq_true rfl) hR.2⟩ hl (Nat.le_of_ble_eq_true rfl) dX9_told_123 ⟨Nat.zero_le _, Nat.zero_le _⟩ rfl) (fun H locs h hX => ?_)
            have hE := hE.trans hX
            have hk_v0 := hX.k hk_v0 (by decide)
            exact x_ri C hr hlk h hE (pf_1 (Option.some.inj hf)) (pf_2 (Option.some.inj hf)) dX9_told_126
          · have hf := if_t hf c7
            refine lv_aload_n C.1 C.2.1 dX9_told_112 rfl (lv_at hl 0 rfl) ?_
            obtain ⟨b9, hb_b9, hf⟩ := ob_ hf
            obtain ⟨hq_b9, hk_b9⟩ := dr_in hb_b9
            refine x_get (v := .ref (ad b9)) C K h cl_9 hk_v0 9 (by decide) fl_RX9_26 (hv_r (o := sr_ σ v0 9) rfl hq_b9) dX9_told_113 ?_
            refine lv_iload_n C.1 C.2.1 dX9_told_116 rfl (lv_at hl 1 rfl) ?_
            obtain ⟨j10, hj_j10, hf⟩ := ob_ hf
            refine x_iald C K h hk_b9 hj_j10 dX9_told_117 ?_
            refine lv_goto (tgt := 126) C.1 C.2.1 dX9_told_118 (by decide) ?_
            exact x_ri C hr hlk h hE (pf_1 (Option.some.inj hf)) (pf_2 (Option.some.inj hf)) dX9_told_126
        · have hf := if_f hf c6
          refine lv_aload_n C.1 C.2.1 dX9_told_92 rfl (lv_at hl 0 rfl) ?_
          obtain ⟨b11, hb_b11, hf⟩ := ob_ hf
          obtain ⟨hq_b11, hk_b11⟩ := dr_in hb_b11
          refine x_get (v := .ref (ad b11)) C K h cl_9 hk_v0 10 (by decide) fl_RX9_29 (hv_r (o := sr_ σ v0 10) rfl hq_b11) dX9_told_93 ?_
          refine lv_iconst (v := (3 : Int32)) C.1 C.2.1 dX9_told_96 (by decide) ?_
          refine lv_iload_n C.1 C.2.1 dX9_told_97 rfl (lv_at hl 1 rfl) ?_
          refine lv_imul C.1 C.2.1 dX9_told_98 ?_
          refine lv_iload_n C.1 C.2.1 dX9_told_99 rfl (lv_at hl 2 rfl) ?_
          refine lv_iadd C.1 C.2.1 dX9_told_100 ?_
          refine lv_iconst (v := (2 : Int32)) C.1 C.2.1 dX9_told_101 (by decide) ?_
          refine lv_isub C.1 C.2.1 dX9_told_102 ?_
          obtain ⟨j12, hj_j12, hf⟩ := ob_ hf
          refine x_iald C K h hk_b11 hj_j12 dX9_told_103 ?_
          refine lv_goto (tgt := 126) C.1 C.2.1 dX9_told_104 (by decide) ?_
          exact x_ri C hr hlk h hE (pf_1 (Option.some.inj hf)) (pf_2 (Option.some.inj hf)) dX9_told_126
      · have hf := if_f hf c5
        refine lv_aload_n C.1 C.2.1 dX9_told_67 rfl (lv_at hl 0 rfl) ?_
        refine lv_iload_n C.1 C.2.1 dX9_told_68 rfl (lv_at hl 1 rfl) ?_
        refine lv_aload_n C.1 C.2.1 dX9_told_69 rfl (lv_at hl 0 rfl) ?_
        obtain ⟨b13, hb_b13, hf⟩ := ob_ hf
        obtain ⟨hq_b13, hk_b13⟩ := dr_in hb_b13
        refine x_get (v := .ref (ad b13)) C K h cl_9 hk_v0 10 (by decide) fl_RX9_29 (hv_r (o := sr_ σ v0 10) rfl hq_b13) dX9_told_70 ?_
        refine lv_iconst (v := (3 : Int32)) C.1 C.2.1 dX9_told_73 (by decide) ?_
        refine lv_iload_n C.1 C.2.1 dX9_told_74 rfl (lv_at hl 1 rfl) ?_
        refine lv_imul C.1 C.2.1 dX9_told_75 ?_
        refine lv_iconst (v := (1 : Int32)) C.1 C.2.1 dX9_told_76 (by decide) ?_
        refine lv_iadd C.1 C.2.1 dX9_told_77 ?_
        obtain ⟨j14, hj_j14, hf⟩ := ob_ hf
        refine x_iald C K h hk_b13 hj_j14 dX9_told_78 ?_
        refine lv_iload_n C.1 C.2.1 dX9_told_79 rfl (lv_at hl 2 rfl) ?_
        refine lv_bipush (v := (10 : Int32)) C.1 C.2.1 dX9_told_80 (by decide) ?_
        refine lv_isub C.1 C.2.1 dX9_told_82 ?_
        obtain ⟨q15, hq_q15, hf⟩ := ob_ hf
        refine x_ai K h (x_V C K h [.int v1, .int (si_ σ b13 j14), .int (v2 - (10 : Int32))] (c_X9_goesTo fu l κ G cy ad H.size σ v0 v1 (si_ σ b13 j14) (v2 - (10 : Int32)) hk_v0 hq_q15) mi_X9_goesTo rfl im_yX9_goesTo se_yX9_goesTo ml_RX9_132 cl_9 hk_v0 ⟨rfl, rfl, Nat.le_trans (Nat.le_of_ble_eq_true rfl) hR.1, Nat.le_trans (Nat.le_of_ble_eq_true rfl) hR.2⟩ hl (Nat.le_of_ble_eq_true rfl) dX9_told_83 ⟨Nat.zero_le _, Nat.zero_le _⟩ rfl) (fun H locs h hX => ?_)
        have hE := hE.trans hX
        have hk_v0 := hX.k hk_v0 (by decide)
        exact x_ri C hr hlk h hE (pf_1 (Option.some.inj hf)) (pf_2 (Option.some.inj hf)) dX9_told_86
    · have hf := if_f hf c4
      refine lv_iload_n C.1 C.2.1 dX9_told_43 rfl (lv_at hl 2 rfl) ?_
      refine lv_if_ne (tgt := 54) C.1 C.2.1 dX9_told_44 (by decide) (fun c16 => ?_) (fun c16 => ?_)
      · have hf := if_f hf c16
        refine lv_aload_n C.1 C.2.1 dX9_told_54 rfl (lv_at hl 0 rfl) ?_
        obtain ⟨b17, hb_b17, hf⟩ := ob_ hf
        obtain ⟨hq_b17, hk_b17⟩ := dr_in hb_b17
        refine x_get (v := .ref (ad b17)) C K h cl_9 hk_v0 8 (by decide) fl_RX9_23 (hv_r (o := sr_ σ v0 8) rfl hq_b17) dX9_told_55 ?_
        refine lv_iload_n C.1 C.2.1 dX9_told_58 rfl (lv_at hl 1 rfl) ?_
        obtain ⟨j18, hj_j18, hf⟩ := ob_ hf
        refine x_iald C K h hk_b17 hj_j18 dX9_told_59 ?_
        exact x_ri C hr hlk h hE (pf_1 (Option.some.inj hf)) (pf_2 (Option.some.inj hf)) dX9_told_60
      · have hf := if_t hf c16
        refine lv_aload_n C.1 C.2.1 dX9_told_47 rfl (lv_at hl 0 rfl) ?_
        refine x_get (v := .int (si_ σ v0 7)) C K h cl_9 hk_v0 7 (by decide) fl_RX9_116 rfl dX9_told_48 ?_
        refine lv_goto (tgt := 60) C.1 C.2.1 dX9_told_51 (by decide) ?_
        exact x_ri C hr hlk h hE (pf_1 (Option.some.inj hf)) (pf_2 (Option.some.inj hf)) dX9_told_60
  · have hf := if_t hf c3
    refine lv_bipush (v := (-2 : Int32)) C.1 C.2.1 dX9_told_35 (by decide) ?_
    exact x_ri C hr hlk h hE (pf_1 (Option.some.inj hf)) (pf_2 (Option.some.inj hf)) dX9_told_37
def f_X9_told (fu : Nat) (σ : St_) (a0 : Nat) (x1 : Int32) (x2 : Int32) : Option (Int32 × St_) := if (f_X9_in x2.toInt64 (0 : Int64) (6 : Int64)) = 0 then if (f_X9_in x2.toInt64 (10 : Int64) (17 : Int64)) = 0 then some ((-2 : Int32), σ) else f_X9_told_26 fu σ a0 x1 x2 else f_X9_told_26 fu σ a0 x1 x2
set_option maxHeartbeats 4000000 in
set_option maxRecDepth 100000 in
theorem w_X9_told {p : Program} {l : Launch} {e : Env} {R : Room} {s : State} {m : MethodId} {args : Array Value} {below : List Frame} {meth : Method} {c : Code} {κ : Ka_} {G : va_G} {cy : Nat → ClassId} {ad : Nat → Nat} {sz : Nat} {σ0 : St_} (fu : Nat) (C : CallFix p m c cX9_told 3 s args wU_ RX9) (K : Kx_ κ G cy (va_A (wl_ cy ad σ0) sz) s) (hr : meth.sig.returnType = some .int) (hlk : meth.locks = false) (hR : 45 ≤ R.frames ∧ 1006 ≤ R.locals) {q : Int32 × St_} : ∀ (σ : St_) (a0 : Nat) (x1 : Int32) (x2 : Int32), Ex_ σ0 σ → kd_ σ a0 = 9 → f_X9_told fu σ a0 x1 x2 = some q → ∀ (H : Heap) (locs : List Loc) (ls : Array Slot), Ht_ G cy (va_A (wl_ cy ad σ0) sz) s ad σ H locs → lv_has ls 3 [(0, .ref (ad a0)), (1, .int x1), (2, .int x2)] → W p l e R s m args below meth c H locs 0 0 (MQ below (Qi_ G cy ad σ0 q.2 sz q.1) args s 0 0 (va_A (wl_ cy ad σ0) sz)) (F0 m 0 ls []) := by
  intro σ a0 x1 x2 hE hk_a0 hf H locs ls h hl
  have hf : (if (f_X9_in x2.toInt64 (0 : Int64) (6 : Int64)) = 0 then if (f_X9_in x2.toInt64 (10 : Int64) (17 : Int64)) = 0 then some ((-2 : Int32), σ) else f_X9_told_26 fu σ a0 x1 x2 else f_X9_told_26 fu σ a0 x1 x2) = some q := hf
  refine lv_iload_n C.1 C.2.1 dX9_told_0 rfl (lv_at hl 2 rfl) ?_
  refine lv_i2l C.1 C.2.1 dX9_told_1 rfl ?_
  refine lv_lconst (v := (0 : Int64)) C.1 C.2.1 dX9_told_2 (by decide) ?_
  refine lv_ldc2 (v := (6 : Int64)) C.1 C.2.1 C.2.2.2.1 (C.2.2.2.2 _ cl_RX9_126) dX9_told_3 ?_
  refine x_az K h (x_S C K h [.long x2.toInt64, .long (0 : Int64), .long (6 : Int64)] (c_X9_in l κ G cy ad H.size σ x2.toInt64 (0 : Int64) (6 : Int64) rfl) mi_X9_in rfl st_yX9_in ml_RX9_83 ⟨rfl, rfl, Nat.le_trans (Nat.le_of_ble_eq_true rfl) hR.1, Nat.le_trans (Nat.le_of_ble_eq_true rfl) hR.2⟩ hl (Nat.le_of_ble_eq_true rfl) dX9_told_6 ⟨Nat.zero_le _, Nat.zero_le _⟩ rfl) (fun H locs h hX hz4 => ?_)
  refine lv_if_ne (tgt := 26) C.1 C.2.1 dX9_told_9 (by decide) (fun c5 => ?_) (fun c5 => ?_)
  · have hf := if_f hf c5
    exact w_X9_told_26 fu C K hr hlk hR σ a0 x1 x2 hE hk_a0 hf _ _ _ h (lv_sub hl [0, 1, 2] rfl)
  · have hf := if_t hf c5
    refine lv_iload_n C.1 C.2.1 dX9_told_12 rfl (lv_at hl 2 rfl) ?_
    refine lv_i2l C.1 C.2.1 dX9_told_13 rfl ?_
    refine lv_ldc2 (v := (10 : Int64)) C.1 C.2.1 C.2.2.2.1 (C.2.2.2.2 _ cl_RX9_128) dX9_told_14 ?_
    refine lv_ldc2 (v := (17 : Int64)) C.1 C.2.1 C.2.2.2.1 (C.2.2.2.2 _ cl_RX9_130) dX9_told_17 ?_
    refine x_az K h (x_S C K h [.long x2.toInt64, .long (10 : Int64), .long (17 : Int64)] (c_X9_in l κ G cy ad H.size σ x2.toInt64 (10 : Int64) (17 : Int64) rfl) mi_X9_in rfl st_yX9_in ml_RX9_83 ⟨rfl, rfl, Nat.le_trans (Nat.le_of_ble_eq_true rfl) hR.1, Nat.le_trans (Nat.le_of_ble_eq_true rfl) hR.2⟩ hl (Nat.le_of_ble_eq_true rfl) dX9_told_20 ⟨Nat.zero_le _, Nat.zero_le _⟩ rfl) (fun H locs h hX hz7 => ?_)
    refine lv_if_eq (tgt := 35) C.1 C.2.1 dX9_told_23 (by decide) (fun c8 => ?_) (fun c8 => ?_)
    · have hf := if_t hf c8
      refine lv_bipush (v := (-2 : Int32)) C.1 C.2.1 dX9_told_35 (by decide) ?_
      exact x_ri C hr hlk h hE (pf_1 (Option.some.inj hf)) (pf_2 (Option.some.inj hf)) dX9_told_37
    · have hf := if_f hf c8
      exact w_X9_told_26 fu C K hr hlk hR σ a0 x1 x2 hE hk_a0 hf _ _ _ h (lv_sub hl [0, 1, 2] rfl)
theorem c_X9_told (fu : Nat) (l : Launch) (κ : Ka_) (G : va_G) (cy : Nat → ClassId) (ad : Nat → Nat) (sz : Nat) (σ : St_) (a0 : Nat) (x1 : Int32) (x2 : Int32) (hk_a0 : kd_ σ a0 = 9) {q : Int32 × St_} (hf : f_X9_told fu σ a0 x1 x2 = some q) : Met l yX9_told (Cond.code yX9_told cX9_told 3 (some .int) :: wU_) { frames := 45, cells := 0, slots := 0, locals := 1006 } (va_Pc [.ref (ad a0), .int x1, .int x2] (Pr_ κ G cy ad σ sz)) (Qi_ G cy ad σ q.2 sz q.1) 0 0 (va_A (wl_ cy ad σ) sz) :=
  x_met (by decide) (fun p e R s m below meth c ls hR C hr hlk hin _ K h hl => w_X9_told fu C K hr hlk ⟨hR.1, hR.2.1⟩ σ a0 x1 x2 Ex_.rf hk_a0 hf s.heap [] ls h hl) (Nat.le_of_ble_eq_true rfl)
-- X9_lays
theorem mi_X9_lays : Mi_ yX9_lays cX9_lays 4 none 3 := ⟨co_yX9_lays, in_RX9, by decide, by decide, by decide +kernel⟩
def f_X9_lays (σ : St_) (a0 : Nat) (x1 : Int32) (x2 : Int32) (x3 : Int32) : Option St_ := if x1 = 0 then some (ui_ σ a0 7 x3) else if x1 = (1 : Int32) then (dr_ σ 10 (sr_ σ a0 8)).bind fun b12 => (ix_ x2 (ln_ σ b12)).bind fun j13 => some (ui_ σ b12 j13 x3) else if (5 : Int32) ≤ x1 then if x1 = (5 : Int32) then (dr_ σ 10 (sr_ σ a0 9)).bind fun b8 => (ix_ x2 (ln_ σ b8)).bind fun j9 => some (ui_ σ b8 j9 x3) else some (ui_ σ a0 4 x3) else (dr_ σ 10 (sr_ σ a0 10)).bind fun b10 => (ix_ ((((3 : Int32) * x2) + x1) - (2 : Int32)) (ln_ σ b10)).bind fun j11 => some (ui_ σ b10 j11 x3)
set_option maxHeartbeats 4000000 in
set_option maxRecDepth 100000 in
theorem w_X9_lays {p : Program} {l : Launch} {e : Env} {R : Room} {s : State} {m : MethodId} {args : Array Value} {below : List Frame} {meth : Method} {c : Code} {κ : Ka_} {G : va_G} {cy : Nat → ClassId} {ad : Nat → Nat} {sz : Nat} {σ0 : St_} (C : CallFix p m c cX9_lays 4 s args wU_ RX9) (K : Kx_ κ G cy (va_A (wl_ cy ad σ0) sz) s) (hr : meth.sig.returnType = none) (hlk : meth.locks = false) (hR : 0 ≤ R.frames ∧ 0 ≤ R.locals) {q : St_} : ∀ (σ : St_) (a0 : Nat) (x1 : Int32) (x2 : Int32) (x3 : Int32), Ex_ σ0 σ → kd_ σ a0 = 9 → f_X9_lays σ a0 x1 x2 x3 = some q → ∀ (H : Heap) (locs : List Loc) (ls : Array Slot), Ht_ G cy (va_A (wl_ cy ad σ0) sz) s ad σ H locs → lv_has ls 4 [(0, .ref (ad a0)), (1, .int x1), (2, .int x2), (3, .int x3)] → W p l e R s m args below meth c H locs 0 0 (MQ below (Qv_ G cy ad σ0 q sz) args s 0 0 (va_A (wl_ cy ad σ0) sz)) (F0 m 0 ls []) := by
  intro σ a0 x1 x2 x3 hE hk_a0 hf H locs ls h hl
  have hf : (if x1 = 0 then some (ui_ σ a0 7 x3) else if x1 = (1 : Int32) then (dr_ σ 10 (sr_ σ a0 8)).bind fun b12 => (ix_ x2 (ln_ σ b12)).bind fun j13 => some (ui_ σ b12 j13 x3) else if (5 : Int32) ≤ x1 then if x1 = (5 : Int32) then (dr_ σ 10 (sr_ σ a0 9)).bind fun b8 => (ix_ x2 (ln_ σ b8)).bind fun j9 => some (ui_ σ b8 j9 x3) else some (ui_ σ a0 4 x3) else (dr_ σ 10 (sr_ σ a0 10)).bind fun b10 => (ix_ ((((3 : Int32) * x2) + x1) - (2 : Int32)) (ln_ σ b10)).bind fun j11 => some (ui_ σ b10 j11 x3)) = some q := hf
  refine lv_iload_n C.1 C.2.1 dX9_lays_0 rfl (lv_at hl 1 rfl) ?_
  refine lv_if_ne (tgt := 12) C.1 C.2.1 dX9_lays_1 (by decide) (fun c4 => ?_) (fun c4 => ?_)
  · have hf := if_f hf c4
    refine lv_iload_n C.1 C.2.1 dX9_lays_12 rfl (lv_at hl 1 rfl) ?_
    refine lv_iconst (v := (1 : Int32)) C.1 C.2.1 dX9_lays_13 (by decide) ?_
    refine lv_icmp_ne (tgt := 27) C.1 C.2.1 dX9_lays_14 (by decide) (fun c5 => ?_) (fun c5 => ?_)
    · have hf := if_f hf c5
      refine lv_iload_n C.1 C.2.1 dX9_lays_27 rfl (lv_at hl 1 rfl) ?_
      refine lv_iconst (v := (5 : Int32)) C.1 C.2.1 dX9_lays_28 (by decide) ?_
      refine lv_icmp_ge (tgt := 48) C.1 C.2.1 dX9_lays_29 (by decide) (fun c6 => ?_) (fun c6 => ?_)
      · have hf := if_t hf c6
        refine lv_iload_n C.1 C.2.1 dX9_lays_48 rfl (lv_at hl 1 rfl) ?_
        refine lv_iconst (v := (5 : Int32)) C.1 C.2.1 dX9_lays_49 (by decide) ?_
        refine lv_icmp_ne (tgt := 63) C.1 C.2.1 dX9_lays_50 (by decide) (fun c7 => ?_) (fun c7 => ?_)
        · have hf := if_f hf c7
          refine lv_aload_n C.1 C.2.1 dX9_lays_63 rfl (lv_at hl 0 rfl) ?_
          refine lv_iload_n C.1 C.2.1 dX9_lays_64 rfl (lv_at hl 3 rfl) ?_
          refine x_putI C K h cl_9 hk_a0 4 (by decide) fl_RX9_119 rfl rfl rfl (Nat.le_of_ble_eq_true rfl) (fun _ _ _ => rfl) dX9_lays_65 (fun H locs h => ?_)
          have hE := hE.up (up_i σ a0 4 x3)
          exact x_rv C hr hlk h hE (Option.some.inj hf) dX9_lays_68
        · have hf := if_t hf c7
          refine lv_aload_n C.1 C.2.1 dX9_lays_53 rfl (lv_at hl 0 rfl) ?_
          obtain ⟨b8, hb_b8, hf⟩ := ob_ hf
          obtain ⟨hq_b8, hk_b8⟩ := dr_in hb_b8
          refine x_get (v := .ref (ad b8)) C K h cl_9 hk_a0 9 (by decide) fl_RX9_26 (hv_r (o := sr_ σ a0 9) rfl hq_b8) dX9_lays_54 ?_
          refine lv_iload_n C.1 C.2.1 dX9_lays_57 rfl (lv_at hl 2 rfl) ?_
          refine lv_iload_n C.1 C.2.1 dX9_lays_58 rfl (lv_at hl 3 rfl) ?_
          obtain ⟨j9, hj_j9, hf⟩ := ob_ hf
          refine x_iast C K h hk_b8 hj_j9 dX9_lays_59 (fun H locs h => ?_)
          have hE := hE.up (up_i σ b8 j9 x3)
          refine lv_goto (tgt := 68) C.1 C.2.1 dX9_lays_60 (by decide) ?_
          exact x_rv C hr hlk h hE (Option.some.inj hf) dX9_lays_68
      · have hf := if_f hf c6
        refine lv_aload_n C.1 C.2.1 dX9_lays_32 rfl (lv_at hl 0 rfl) ?_
        obtain ⟨b10, hb_b10, hf⟩ := ob_ hf
        obtain ⟨hq_b10, hk_b10⟩ := dr_in hb_b10
        refine x_get (v := .ref (ad b10)) C K h cl_9 hk_a0 10 (by decide) fl_RX9_29 (hv_r (o := sr_ σ a0 10) rfl hq_b10) dX9_lays_33 ?_
        refine lv_iconst (v := (3 : Int32)) C.1 C.2.1 dX9_lays_36 (by decide) ?_
        refine lv_iload_n C.1 C.2.1 dX9_lays_37 rfl (lv_at hl 2 rfl) ?_
        refine lv_imul C.1 C.2.1 dX9_lays_38 ?_
        refine lv_iload_n C.1 C.2.1 dX9_lays_39 rfl (lv_at hl 1 rfl) ?_
        refine lv_iadd C.1 C.2.1 dX9_lays_40 ?_
        refine lv_iconst (v := (2 : Int32)) C.1 C.2.1 dX9_lays_41 (by decide) ?_
        refine lv_isub C.1 C.2.1 dX9_lays_42 ?_
        refine lv_iload_n C.1 C.2.1 dX9_lays_43 rfl (lv_at hl 3 rfl) ?_
        obtain ⟨j11, hj_j11, hf⟩ := ob_ hf
        refine x_iast C K h hk_b10 hj_j11 dX9_lays_44 (fun H locs h => ?_)
        have hE := hE.up (up_i σ b10 j11 x3)
        refine lv_goto (tgt := 68) C.1 C.2.1 dX9_lays_45 (by decide) ?_
        exact x_rv C hr hlk h hE (Option.some.inj hf) dX9_lays_68
    · have hf := if_t hf c5
      refine lv_aload_n C.1 C.2.1 dX9_lays_17 rfl (lv_at hl 0 rfl) ?_
      obtain ⟨b12, hb_b12, hf⟩ := ob_ hf
      obtain ⟨hq_b12, hk_b12⟩ := dr_in hb_b12
      refine x_get (v := .ref (ad b12)) C K h cl_9 hk_a0 8 (by decide) fl_RX9_23 (hv_r (o := sr_ σ a0 8) rfl hq_b12) dX9_lays_18 ?_
      refine lv_iload_n C.1 C.2.1 dX9_lays_21 rfl (lv_at hl 2 rfl) ?_
      refine lv_iload_n C.1 C.2.1 dX9_lays_22 rfl (lv_at hl 3 rfl) ?_
      obtain ⟨j13, hj_j13, hf⟩ := ob_ hf
      refine x_iast C K h hk_b12 hj_j13 dX9_lays_23 (fun H locs h => ?_)
      have hE := hE.up (up_i σ b12 j13 x3)
      refine lv_goto (tgt := 68) C.1 C.2.1 dX9_lays_24 (by decide) ?_
      exact x_rv C hr hlk h hE (Option.some.inj hf) dX9_lays_68
  · have hf := if_t hf c4
    refine lv_aload_n C.1 C.2.1 dX9_lays_4 rfl (lv_at hl 0 rfl) ?_
    refine lv_iload_n C.1 C.2.1 dX9_lays_5 rfl (lv_at hl 3 rfl) ?_
    refine x_putI C K h cl_9 hk_a0 7 (by decide) fl_RX9_116 rfl rfl rfl (Nat.le_of_ble_eq_true rfl) (fun _ _ _ => rfl) dX9_lays_6 (fun H locs h => ?_)
    have hE := hE.up (up_i σ a0 7 x3)
    refine lv_goto (tgt := 68) C.1 C.2.1 dX9_lays_9 (by decide) ?_
    exact x_rv C hr hlk h hE (Option.some.inj hf) dX9_lays_68
theorem c_X9_lays (l : Launch) (κ : Ka_) (G : va_G) (cy : Nat → ClassId) (ad : Nat → Nat) (sz : Nat) (σ : St_) (a0 : Nat) (x1 : Int32) (x2 : Int32) (x3 : Int32) (hk_a0 : kd_ σ a0 = 9) {q : St_} (hf : f_X9_lays σ a0 x1 x2 x3 = some q) : Met l yX9_lays (Cond.code yX9_lays cX9_lays 4 none :: wU_) { frames := 0, cells := 0, slots := 0, locals := 0 } (va_Pc [.ref (ad a0), .int x1, .int x2, .int x3] (Pr_ κ G cy ad σ sz)) (Qv_ G cy ad σ q sz) 0 0 (va_A (wl_ cy ad σ) sz) :=
  x_met (by decide) (fun p e R s m below meth c ls hR C hr hlk hin _ K h hl => w_X9_lays C K hr hlk ⟨hR.1, hR.2.1⟩ σ a0 x1 x2 x3 Ex_.rf hk_a0 hf s.heap [] ls h hl) (Nat.le_of_ble_eq_true rfl)
-- X9_set
theorem mi_X9_set : Mi_ yX9_set cX9_set 5 (some .int) 3 := ⟨co_yX9_set, in_RX9, by decide, by decide, by decide +kernel⟩
def f_X9_set (fu : Nat) (σ : St_) (a0 : Nat) (x1 : Int32) (x2 : Int32) (x3 : Int32) : Option (Int32 × St_) := if (f_X9_in x1.toInt64 (0 : Int64) (4 : Int64)) = 0 then some ((-2 : Int32), σ) else if (f_X9_isOf σ a0 x1 x2) = 0 then some ((-2 : Int32), σ) else if (f_X9_in x3.toInt64 (0 : Int64) ((f_X9_mostOf x1).toInt64)) = 0 then some ((-2 : Int32), σ) else (f_X9_told fu σ a0 x2 x1).bind fun q14 => (f_X9_lays q14.2 a0 x1 x2 x3).bind fun q15 => some (q14.1, q15)
set_option maxHeartbeats 4000000 in
set_option maxRecDepth 100000 in
theorem w_X9_set {p : Program} {l : Launch} {e : Env} {R : Room} {s : State} {m : MethodId} {args : Array Value} {below : List Frame} {meth : Method} {c : Code} {κ : Ka_} {G : va_G} {cy : Nat → ClassId} {ad : Nat → Nat} {sz : Nat} {σ0 : St_} (fu : Nat) (C : CallFix p m c cX9_set 5 s args wU_ RX9) (K : Kx_ κ G cy (va_A (wl_ cy ad σ0) sz) s) (hr : meth.sig.returnType = some .int) (hlk : meth.locks = false) (hR : 46 ≤ R.frames ∧ 1028 ≤ R.locals) {q : Int32 × St_} : ∀ (σ : St_) (a0 : Nat) (x1 : Int32) (x2 : Int32) (x3 : Int32), Ex_ σ0 σ → kd_ σ a0 = 9 → f_X9_set fu σ a0 x1 x2 x3 = some q → ∀ (H : Heap) (locs : List Loc) (ls : Array Slot), Ht_ G cy (va_A (wl_ cy ad σ0) sz) s ad σ H locs → lv_has ls 5 [(0, .ref (ad a0)), (1, .int x1), (2, .int x2), (3, .int x3)] → W p l e R s m args below meth c H locs 0 0 (MQ below (Qi_ G cy ad σ0 q.2 sz q.1) args s 0 0 (va_A (wl_ cy ad σ0) sz)) (F0 m 0 ls []) := by
  intro σ a0 x1 x2 x3 hE hk_a0 hf H locs ls h hl
  have hf : (if (f_X9_in x1.toInt64 (0 : Int64) (4 : Int64)) = 0 then some ((-2 : Int32), σ) else if (f_X9_isOf σ a0 x1 x2) = 0 then some ((-2 : Int32), σ) else if (f_X9_in x3.toInt64 (0 : Int64) ((f_X9_mostOf x1).toInt64)) = 0 then some ((-2 : Int32), σ) else (f_X9_told fu σ a0 x2 x1).bind fun q14 => (f_X9_lays q14.2 a0 x1 x2 x3).bind fun q15 => some (q14.1, q15)) = some q := hf
  refine lv_iload_n C.1 C.2.1 dX9_set_0 rfl (lv_at hl 1 rfl) ?_
  refine lv_i2l C.1 C.2.1 dX9_set_1 rfl ?_
  refine lv_lconst (v := (0 : Int64)) C.1 C.2.1 dX9_set_2 (by decide) ?_
  refine lv_ldc2 (v := (4 : Int64)) C.1 C.2.1 C.2.2.2.1 (C.2.2.2.2 _ cl_RX9_98) dX9_set_3 ?_
  refine x_az K h (x_S C K h [.long x1.toInt64, .long (0 : Int64), .long (4 : Int64)] (c_X9_in l κ G cy ad H.size σ x1.toInt64 (0 : Int64) (4 : Int64) rfl) mi_X9_in rfl st_yX9_in ml_RX9_83 ⟨rfl, rfl, Nat.le_trans (Nat.le_of_ble_eq_true rfl) hR.1, Nat.le_trans (Nat.le_of_ble_eq_true rfl) hR.2⟩ hl (Nat.le_of_ble_eq_true rfl) dX9_set_6 ⟨Nat.zero_le _, Nat.zero_le _⟩ rfl) (fun H locs h hX hz5 => ?_)
  refine lv_if_eq (tgt := 35) C.1 C.2.1 dX9_set_9 (by decide) (fun c6 => ?_) (fun c6 => ?_)
  · have hf := if_t hf c6
    refine lv_bipush (v := (-2 : Int32)) C.1 C.2.1 dX9_set_35 (by decide) ?_
    exact x_ri C hr hlk h hE (pf_1 (Option.some.inj hf)) (pf_2 (Option.some.inj hf)) dX9_set_37
  · have hf := if_f hf c6
    refine lv_aload_n C.1 C.2.1 dX9_set_12 rfl (lv_at hl 0 rfl) ?_
    refine lv_iload_n C.1 C.2.1 dX9_set_13 rfl (lv_at hl 1 rfl) ?_
    refine lv_iload_n C.1 C.2.1 dX9_set_14 rfl (lv_at hl 2 rfl) ?_
    refine x_az K h (x_V C K h [.int x1, .int x2] (c_X9_isOf l κ G cy ad H.size σ a0 x1 x2 hk_a0 rfl) mi_X9_isOf rfl im_yX9_isOf se_yX9_isOf ml_RX9_100 cl_9 hk_a0 ⟨rfl, rfl, Nat.le_trans (Nat.le_of_ble_eq_true rfl) hR.1, Nat.le_trans (Nat.le_of_ble_eq_true rfl) hR.2⟩ hl (Nat.le_of_ble_eq_true rfl) dX9_set_15 ⟨Nat.zero_le _, Nat.zero_le _⟩ rfl) (fun H locs h hX hz8 => ?_)
    refine lv_if_eq (tgt := 35) C.1 C.2.1 dX9_set_18 (by decide) (fun c9 => ?_) (fun c9 => ?_)
    · have hf := if_t hf c9
      refine lv_bipush (v := (-2 : Int32)) C.1 C.2.1 dX9_set_35 (by decide) ?_
      exact x_ri C hr hlk h hE (pf_1 (Option.some.inj hf)) (pf_2 (Option.some.inj hf)) dX9_set_37
    · have hf := if_f hf c9
      refine lv_iload_n C.1 C.2.1 dX9_set_21 rfl (lv_at hl 3 rfl) ?_
      refine lv_i2l C.1 C.2.1 dX9_set_22 rfl ?_
      refine lv_lconst (v := (0 : Int64)) C.1 C.2.1 dX9_set_23 (by decide) ?_
      refine lv_iload_n C.1 C.2.1 dX9_set_24 rfl (lv_at hl 1 rfl) ?_
      refine x_ai K h (x_S C K h [.int x1] (c_X9_mostOf l κ G cy ad H.size σ x1 rfl) mi_X9_mostOf rfl st_yX9_mostOf ml_RX9_104 ⟨rfl, rfl, Nat.le_trans (Nat.le_of_ble_eq_true rfl) hR.1, Nat.le_trans (Nat.le_of_ble_eq_true rfl) hR.2⟩ hl (Nat.le_of_ble_eq_true rfl) dX9_set_25 ⟨Nat.zero_le _, Nat.zero_le _⟩ rfl) (fun H locs h hX => ?_)
      refine lv_i2l C.1 C.2.1 dX9_set_28 rfl ?_
      refine x_az K h (x_S C K h [.long x3.toInt64, .long (0 : Int64), .long ((f_X9_mostOf x1).toInt64)] (c_X9_in l κ G cy ad H.size σ x3.toInt64 (0 : Int64) ((f_X9_mostOf x1).toInt64) rfl) mi_X9_in rfl st_yX9_in ml_RX9_83 ⟨rfl, rfl, Nat.le_trans (Nat.le_of_ble_eq_true rfl) hR.1, Nat.le_trans (Nat.le_of_ble_eq_true rfl) hR.2⟩ hl (Nat.le_of_ble_eq_true rfl) dX9_set_29 ⟨Nat.zero_le _, Nat.zero_le _⟩ rfl) (fun H locs h hX hz12 => ?_)
      refine lv_if_ne (tgt := 38) C.1 C.2.1 dX9_set_32 (by decide) (fun c13 => ?_) (fun c13 => ?_)
      · have hf := if_f hf c13
        refine lv_aload_n C.1 C.2.1 dX9_set_38 rfl (lv_at hl 0 rfl) ?_
        refine lv_iload_n C.1 C.2.1 dX9_set_39 rfl (lv_at hl 2 rfl) ?_
        refine lv_iload_n C.1 C.2.1 dX9_set_40 rfl (lv_at hl 1 rfl) ?_
        obtain ⟨q14, hq_q14, hf⟩ := ob_ hf
        refine x_ai K h (x_V C K h [.int x2, .int x1] (c_X9_told fu l κ G cy ad H.size σ a0 x2 x1 hk_a0 hq_q14) mi_X9_told rfl im_yX9_told se_yX9_told ml_RX9_108 cl_9 hk_a0 ⟨rfl, rfl, Nat.le_trans (Nat.le_of_ble_eq_true rfl) hR.1, Nat.le_trans (Nat.le_of_ble_eq_true rfl) hR.2⟩ hl (Nat.le_of_ble_eq_true rfl) dX9_set_41 ⟨Nat.zero_le _, Nat.zero_le _⟩ rfl) (fun H locs h hX => ?_)
        have hE := hE.trans hX
        have hk_a0 := hX.k hk_a0 (by decide)
        refine lv_istore (i := 4) (lv' := [(4, .int q14.1), (0, .ref (ad a0)), (1, .int x1), (2, .int x2), (3, .int x3)]) C.1 C.2.1 dX9_set_44 hl (by decide) rfl (fun ls hl => ?_)
        refine lv_aload_n C.1 C.2.1 dX9_set_46 rfl (lv_at hl 1 rfl) ?_
        refine lv_iload_n C.1 C.2.1 dX9_set_47 rfl (lv_at hl 2 rfl) ?_
        refine lv_iload_n C.1 C.2.1 dX9_set_48 rfl (lv_at hl 3 rfl) ?_
        refine lv_iload_n C.1 C.2.1 dX9_set_49 rfl (lv_at hl 4 rfl) ?_
        obtain ⟨q15, hq_q15, hf⟩ := ob_ hf
        refine x_av K h (x_V C K h [.int x1, .int x2, .int x3] (c_X9_lays l κ G cy ad H.size q14.2 a0 x1 x2 x3 hk_a0 hq_q15) mi_X9_lays rfl im_yX9_lays se_yX9_lays ml_RX9_112 cl_9 hk_a0 ⟨rfl, rfl, Nat.le_trans (Nat.le_of_ble_eq_true rfl) hR.1, Nat.le_trans (Nat.le_of_ble_eq_true rfl) hR.2⟩ hl (Nat.le_of_ble_eq_true rfl) dX9_set_50 ⟨Nat.zero_le _, Nat.zero_le _⟩ rfl) (fun H locs h hX => ?_)
        have hE := hE.trans hX
        have hk_a0 := hX.k hk_a0 (by decide)
        refine lv_iload C.1 C.2.1 dX9_set_53 (lv_at hl 0 rfl) ?_
        exact x_ri C hr hlk h hE (pf_1 (Option.some.inj hf)) (pf_2 (Option.some.inj hf)) dX9_set_55
      · have hf := if_t hf c13
        refine lv_bipush (v := (-2 : Int32)) C.1 C.2.1 dX9_set_35 (by decide) ?_
        exact x_ri C hr hlk h hE (pf_1 (Option.some.inj hf)) (pf_2 (Option.some.inj hf)) dX9_set_37
theorem c_X9_set (fu : Nat) (l : Launch) (κ : Ka_) (G : va_G) (cy : Nat → ClassId) (ad : Nat → Nat) (sz : Nat) (σ : St_) (a0 : Nat) (x1 : Int32) (x2 : Int32) (x3 : Int32) (hk_a0 : kd_ σ a0 = 9) {q : Int32 × St_} (hf : f_X9_set fu σ a0 x1 x2 x3 = some q) : Met l yX9_set (Cond.code yX9_set cX9_set 5 (some .int) :: wU_) { frames := 46, cells := 0, slots := 0, locals := 1028 } (va_Pc [.ref (ad a0), .int x1, .int x2, .int x3] (Pr_ κ G cy ad σ sz)) (Qi_ G cy ad σ q.2 sz q.1) 0 0 (va_A (wl_ cy ad σ) sz) :=
  x_met (by decide) (fun p e R s m below meth c ls hR C hr hlk hin _ K h hl => w_X9_set fu C K hr hlk ⟨hR.1, hR.2.1⟩ σ a0 x1 x2 x3 Ex_.rf hk_a0 hf s.heap [] ls h hl) (Nat.le_of_ble_eq_true rfl)
-- X9_carpet
theorem mi_X9_carpet : Mi_ yX9_carpet cX9_carpet 4 (some .int) 3 := ⟨co_yX9_carpet, in_RX9, by decide, by decide, by decide +kernel⟩
def f_X9_carpet (σ : St_) (a0 : Nat) (x1 : Int32) (x2 : Int32) (x3 : Int32) : Option (Int32 × St_) := if (f_X9_in x1.toInt64 (0 : Int64) (5 : Int64)) = 0 then some ((-2 : Int32), σ) else if (f_X9_in x2.toInt64 (0 : Int64) (9 : Int64)) = 0 then some ((-2 : Int32), σ) else if (f_X9_isCell x3) = 0 then some ((-2 : Int32), σ) else if (si_ σ a0 11) = (4 : Int32) then some ((-4 : Int32), σ) else (dr_ σ 10 (sr_ σ a0 9)).bind fun b14 => (ix_ (si_ σ a0 11) (ln_ σ b14)).bind fun j15 => (dr_ (ui_ σ b14 j15 x1) 10 (sr_ (ui_ σ b14 j15 x1) a0 10)).bind fun b16 => (ix_ ((3 : Int32) * (si_ (ui_ σ b14 j15 x1) a0 11)) (ln_ (ui_ σ b14 j15 x1) b16)).bind fun j17 => (ix_ (((3 : Int32) * (si_ (ui_ (ui_ σ b14 j15 x1) b16 j17 x2) a0 11)) + (1 : Int32)) (ln_ (ui_ (ui_ σ b14 j15 x1) b16 j17 x2) b16)).bind fun j18 => (ix_ (((3 : Int32) * (si_ (ui_ (ui_ (ui_ σ b14 j15 x1) b16 j17 x2) b16 j18 x3) a0 11)) + (2 : Int32)) (ln_ (ui_ (ui_ (ui_ σ b14 j15 x1) b16 j17 x2) b16 j18 x3) b16)).bind fun j19 => some ((si_ (ui_ (ui_ (ui_ (ui_ (ui_ σ b14 j15 x1) b16 j17 x2) b16 j18 x3) b16 j19 (0 : Int32)) a0 11 ((si_ (ui_ (ui_ (ui_ (ui_ σ b14 j15 x1) b16 j17 x2) b16 j18 x3) b16 j19 (0 : Int32)) a0 11) + (1 : Int32))) a0 11) - (1 : Int32), ui_ (ui_ (ui_ (ui_ (ui_ σ b14 j15 x1) b16 j17 x2) b16 j18 x3) b16 j19 (0 : Int32)) a0 11 ((si_ (ui_ (ui_ (ui_ (ui_ σ b14 j15 x1) b16 j17 x2) b16 j18 x3) b16 j19 (0 : Int32)) a0 11) + (1 : Int32)))
set_option maxHeartbeats 4000000 in
set_option maxRecDepth 100000 in
theorem w_X9_carpet {p : Program} {l : Launch} {e : Env} {R : Room} {s : State} {m : MethodId} {args : Array Value} {below : List Frame} {meth : Method} {c : Code} {κ : Ka_} {G : va_G} {cy : Nat → ClassId} {ad : Nat → Nat} {sz : Nat} {σ0 : St_} (C : CallFix p m c cX9_carpet 4 s args wU_ RX9) (K : Kx_ κ G cy (va_A (wl_ cy ad σ0) sz) s) (hr : meth.sig.returnType = some .int) (hlk : meth.locks = false) (hR : 2 ≤ R.frames ∧ 45 ≤ R.locals) {q : Int32 × St_} : ∀ (σ : St_) (a0 : Nat) (x1 : Int32) (x2 : Int32) (x3 : Int32), Ex_ σ0 σ → kd_ σ a0 = 9 → f_X9_carpet σ a0 x1 x2 x3 = some q → ∀ (H : Heap) (locs : List Loc) (ls : Array Slot), Ht_ G cy (va_A (wl_ cy ad σ0) sz) s ad σ H locs → lv_has ls 4 [(0, .ref (ad a0)), (1, .int x1), (2, .int x2), (3, .int x3)] → W p l e R s m args below meth c H locs 0 0 (MQ below (Qi_ G cy ad σ0 q.2 sz q.1) args s 0 0 (va_A (wl_ cy ad σ0) sz)) (F0 m 0 ls []) := by
  intro σ a0 x1 x2 x3 hE hk_a0 hf H locs ls h hl
  have hf : (if (f_X9_in x1.toInt64 (0 : Int64) (5 : Int64)) = 0 then some ((-2 : Int32), σ) else if (f_X9_in x2.toInt64 (0 : Int64) (9 : Int64)) = 0 then some ((-2 : Int32), σ) else if (f_X9_isCell x3) = 0 then some ((-2 : Int32), σ) else if (si_ σ a0 11) = (4 : Int32) then some ((-4 : Int32), σ) else (dr_ σ 10 (sr_ σ a0 9)).bind fun b14 => (ix_ (si_ σ a0 11) (ln_ σ b14)).bind fun j15 => (dr_ (ui_ σ b14 j15 x1) 10 (sr_ (ui_ σ b14 j15 x1) a0 10)).bind fun b16 => (ix_ ((3 : Int32) * (si_ (ui_ σ b14 j15 x1) a0 11)) (ln_ (ui_ σ b14 j15 x1) b16)).bind fun j17 => (ix_ (((3 : Int32) * (si_ (ui_ (ui_ σ b14 j15 x1) b16 j17 x2) a0 11)) + (1 : Int32)) (ln_ (ui_ (ui_ σ b14 j15 x1) b16 j17 x2) b16)).bind fun j18 => (ix_ (((3 : Int32) * (si_ (ui_ (ui_ (ui_ σ b14 j15 x1) b16 j17 x2) b16 j18 x3) a0 11)) + (2 : Int32)) (ln_ (ui_ (ui_ (ui_ σ b14 j15 x1) b16 j17 x2) b16 j18 x3) b16)).bind fun j19 => some ((si_ (ui_ (ui_ (ui_ (ui_ (ui_ σ b14 j15 x1) b16 j17 x2) b16 j18 x3) b16 j19 (0 : Int32)) a0 11 ((si_ (ui_ (ui_ (ui_ (ui_ σ b14 j15 x1) b16 j17 x2) b16 j18 x3) b16 j19 (0 : Int32)) a0 11) + (1 : Int32))) a0 11) - (1 : Int32), ui_ (ui_ (ui_ (ui_ (ui_ σ b14 j15 x1) b16 j17 x2) b16 j18 x3) b16 j19 (0 : Int32)) a0 11 ((si_ (ui_ (ui_ (ui_ (ui_ σ b14 j15 x1) b16 j17 x2) b16 j18 x3) b16 j19 (0 : Int32)) a0 11) + (1 : Int32)))) = some q := hf
  refine lv_iload_n C.1 C.2.1 dX9_carpet_0 rfl (lv_at hl 1 rfl) ?_
  refine lv_i2l C.1 C.2.1 dX9_carpet_1 rfl ?_
  refine lv_lconst (v := (0 : Int64)) C.1 C.2.1 dX9_carpet_2 (by decide) ?_
  refine lv_ldc2 (v := (5 : Int64)) C.1 C.2.1 C.2.2.2.1 (C.2.2.2.2 _ cl_RX9_122) dX9_carpet_3 ?_
  refine x_az K h (x_S C K h [.long x1.toInt64, .long (0 : Int64), .long (5 : Int64)] (c_X9_in l κ G cy ad H.size σ x1.toInt64 (0 : Int64) (5 : Int64) rfl) mi_X9_in rfl st_yX9_in ml_RX9_83 ⟨rfl, rfl, Nat.le_trans (Nat.le_of_ble_eq_true rfl) hR.1, Nat.le_trans (Nat.le_of_ble_eq_true rfl) hR.2⟩ hl (Nat.le_of_ble_eq_true rfl) dX9_carpet_6 ⟨Nat.zero_le _, Nat.zero_le _⟩ rfl) (fun H locs h hX hz5 => ?_)
  refine lv_if_eq (tgt := 31) C.1 C.2.1 dX9_carpet_9 (by decide) (fun c6 => ?_) (fun c6 => ?_)
  · have hf := if_t hf c6
    refine lv_bipush (v := (-2 : Int32)) C.1 C.2.1 dX9_carpet_31 (by decide) ?_
    exact x_ri C hr hlk h hE (pf_1 (Option.some.inj hf)) (pf_2 (Option.some.inj hf)) dX9_carpet_33
  · have hf := if_f hf c6
    refine lv_iload_n C.1 C.2.1 dX9_carpet_12 rfl (lv_at hl 2 rfl) ?_
    refine lv_i2l C.1 C.2.1 dX9_carpet_13 rfl ?_
    refine lv_lconst (v := (0 : Int64)) C.1 C.2.1 dX9_carpet_14 (by decide) ?_
    refine lv_ldc2 (v := (9 : Int64)) C.1 C.2.1 C.2.2.2.1 (C.2.2.2.2 _ cl_RX9_124) dX9_carpet_15 ?_
    refine x_az K h (x_S C K h [.long x2.toInt64, .long (0 : Int64), .long (9 : Int64)] (c_X9_in l κ G cy ad H.size σ x2.toInt64 (0 : Int64) (9 : Int64) rfl) mi_X9_in rfl st_yX9_in ml_RX9_83 ⟨rfl, rfl, Nat.le_trans (Nat.le_of_ble_eq_true rfl) hR.1, Nat.le_trans (Nat.le_of_ble_eq_true rfl) hR.2⟩ hl (Nat.le_of_ble_eq_true rfl) dX9_carpet_18 ⟨Nat.zero_le _, Nat.zero_le _⟩ rfl) (fun H locs h hX hz8 => ?_)
    refine lv_if_eq (tgt := 31) C.1 C.2.1 dX9_carpet_21 (by decide) (fun c9 => ?_) (fun c9 => ?_)
    · have hf := if_t hf c9
      refine lv_bipush (v := (-2 : Int32)) C.1 C.2.1 dX9_carpet_31 (by decide) ?_
      exact x_ri C hr hlk h hE (pf_1 (Option.some.inj hf)) (pf_2 (Option.some.inj hf)) dX9_carpet_33
    · have hf := if_f hf c9
      refine lv_iload_n C.1 C.2.1 dX9_carpet_24 rfl (lv_at hl 3 rfl) ?_
      refine x_az K h (x_S C K h [.int x3] (c_X9_isCell l κ G cy ad H.size σ x3 rfl) mi_X9_isCell rfl st_yX9_isCell ml_RX9_91 ⟨rfl, rfl, Nat.le_trans (Nat.le_of_ble_eq_true rfl) hR.1, Nat.le_trans (Nat.le_of_ble_eq_true rfl) hR.2⟩ hl (Nat.le_of_ble_eq_true rfl) dX9_carpet_25 ⟨Nat.zero_le _, Nat.zero_le _⟩ rfl) (fun H locs h hX hz11 => ?_)
      refine lv_if_ne (tgt := 34) C.1 C.2.1 dX9_carpet_28 (by decide) (fun c12 => ?_) (fun c12 => ?_)
      · have hf := if_f hf c12
        refine lv_aload_n C.1 C.2.1 dX9_carpet_34 rfl (lv_at hl 0 rfl) ?_
        refine x_get (v := .int (si_ σ a0 11)) C K h cl_9 hk_a0 11 (by decide) fl_RX9_80 rfl dX9_carpet_35 ?_
        refine lv_iconst (v := (4 : Int32)) C.1 C.2.1 dX9_carpet_38 (by decide) ?_
        refine lv_icmp_ne (tgt := 45) C.1 C.2.1 dX9_carpet_39 (by decide) (fun c13 => ?_) (fun c13 => ?_)
        · have hf := if_f hf c13
          refine lv_aload_n C.1 C.2.1 dX9_carpet_45 rfl (lv_at hl 0 rfl) ?_
          obtain ⟨b14, hb_b14, hf⟩ := ob_ hf
          obtain ⟨hq_b14, hk_b14⟩ := dr_in hb_b14
          refine x_get (v := .ref (ad b14)) C K h cl_9 hk_a0 9 (by decide) fl_RX9_26 (hv_r (o := sr_ σ a0 9) rfl hq_b14) dX9_carpet_46 ?_
          refine lv_aload_n C.1 C.2.1 dX9_carpet_49 rfl (lv_at hl 0 rfl) ?_
          refine x_get (v := .int (si_ σ a0 11)) C K h cl_9 hk_a0 11 (by decide) fl_RX9_80 rfl dX9_carpet_50 ?_
          refine lv_iload_n C.1 C.2.1 dX9_carpet_53 rfl (lv_at hl 1 rfl) ?_
          obtain ⟨j15, hj_j15, hf⟩ := ob_ hf
          refine x_iast C K h hk_b14 hj_j15 dX9_carpet_54 (fun H locs h => ?_)
          have hE := hE.up (up_i σ b14 j15 x1)
          refine lv_aload_n C.1 C.2.1 dX9_carpet_55 rfl (lv_at hl 0 rfl) ?_
          obtain ⟨b16, hb_b16, hf⟩ := ob_ hf
          obtain ⟨hq_b16, hk_b16⟩ := dr_in hb_b16
          refine x_get (v := .ref (ad b16)) C K h cl_9 hk_a0 10 (by decide) fl_RX9_29 (hv_r (o := sr_ (ui_ σ b14 j15 x1) a0 10) rfl hq_b16) dX9_carpet_56 ?_
          refine lv_iconst (v := (3 : Int32)) C.1 C.2.1 dX9_carpet_59 (by decide) ?_
          refine lv_aload_n C.1 C.2.1 dX9_carpet_60 rfl (lv_at hl 0 rfl) ?_
          refine x_get (v := .int (si_ (ui_ σ b14 j15 x1) a0 11)) C K h cl_9 hk_a0 11 (by decide) fl_RX9_80 rfl dX9_carpet_61 ?_
          refine lv_imul C.1 C.2.1 dX9_carpet_64 ?_
          refine lv_iload_n C.1 C.2.1 dX9_carpet_65 rfl (lv_at hl 2 rfl) ?_
          obtain ⟨j17, hj_j17, hf⟩ := ob_ hf
          refine x_iast C K h hk_b16 hj_j17 dX9_carpet_66 (fun H locs h => ?_)
          have hE := hE.up (up_i (ui_ σ b14 j15 x1) b16 j17 x2)
          refine lv_aload_n C.1 C.2.1 dX9_carpet_67 rfl (lv_at hl 0 rfl) ?_
          refine x_get (v := .ref (ad b16)) C K h cl_9 hk_a0 10 (by decide) fl_RX9_29 (hv_r (o := sr_ (ui_ (ui_ σ b14 j15 x1) b16 j17 x2) a0 10) rfl hq_b16) dX9_carpet_68 ?_
          refine lv_iconst (v := (3 : Int32)) C.1 C.2.1 dX9_carpet_71 (by decide) ?_
          refine lv_aload_n C.1 C.2.1 dX9_carpet_72 rfl (lv_at hl 0 rfl) ?_
          refine x_get (v := .int (si_ (ui_ (ui_ σ b14 j15 x1) b16 j17 x2) a0 11)) C K h cl_9 hk_a0 11 (by decide) fl_RX9_80 rfl dX9_carpet_73 ?_
          refine lv_imul C.1 C.2.1 dX9_carpet_76 ?_
          refine lv_iconst (v := (1 : Int32)) C.1 C.2.1 dX9_carpet_77 (by decide) ?_
          refine lv_iadd C.1 C.2.1 dX9_carpet_78 ?_
          refine lv_iload_n C.1 C.2.1 dX9_carpet_79 rfl (lv_at hl 3 rfl) ?_
          obtain ⟨j18, hj_j18, hf⟩ := ob_ hf
          refine x_iast C K h hk_b16 hj_j18 dX9_carpet_80 (fun H locs h => ?_)
          have hE := hE.up (up_i (ui_ (ui_ σ b14 j15 x1) b16 j17 x2) b16 j18 x3)
          refine lv_aload_n C.1 C.2.1 dX9_carpet_81 rfl (lv_at hl 0 rfl) ?_
          refine x_get (v := .ref (ad b16)) C K h cl_9 hk_a0 10 (by decide) fl_RX9_29 (hv_r (o := sr_ (ui_ (ui_ (ui_ σ b14 j15 x1) b16 j17 x2) b16 j18 x3) a0 10) rfl hq_b16) dX9_carpet_82 ?_
          refine lv_iconst (v := (3 : Int32)) C.1 C.2.1 dX9_carpet_85 (by decide) ?_
          refine lv_aload_n C.1 C.2.1 dX9_carpet_86 rfl (lv_at hl 0 rfl) ?_
          refine x_get (v := .int (si_ (ui_ (ui_ (ui_ σ b14 j15 x1) b16 j17 x2) b16 j18 x3) a0 11)) C K h cl_9 hk_a0 11 (by decide) fl_RX9_80 rfl dX9_carpet_87 ?_
          refine lv_imul C.1 C.2.1 dX9_carpet_90 ?_
          refine lv_iconst (v := (2 : Int32)) C.1 C.2.1 dX9_carpet_91 (by decide) ?_
          refine lv_iadd C.1 C.2.1 dX9_carpet_92 ?_
          refine lv_iconst (v := (0 : Int32)) C.1 C.2.1 dX9_carpet_93 (by decide) ?_
          obtain ⟨j19, hj_j19, hf⟩ := ob_ hf
          refine x_iast C K h hk_b16 hj_j19 dX9_carpet_94 (fun H locs h => ?_)
          have hE := hE.up (up_i (ui_ (ui_ (ui_ σ b14 j15 x1) b16 j17 x2) b16 j18 x3) b16 j19 (0 : Int32))
          refine lv_aload_n C.1 C.2.1 dX9_carpet_95 rfl (lv_at hl 0 rfl) ?_
          refine lv_dup C.1 C.2.1 dX9_carpet_96 rfl ?_
          refine x_get (v := .int (si_ (ui_ (ui_ (ui_ (ui_ σ b14 j15 x1) b16 j17 x2) b16 j18 x3) b16 j19 (0 : Int32)) a0 11)) C K h cl_9 hk_a0 11 (by decide) fl_RX9_80 rfl dX9_carpet_97 ?_
          refine lv_iconst (v := (1 : Int32)) C.1 C.2.1 dX9_carpet_100 (by decide) ?_
          refine lv_iadd C.1 C.2.1 dX9_carpet_101 ?_
          refine x_putI C K h cl_9 hk_a0 11 (by decide) fl_RX9_80 rfl rfl rfl (Nat.le_of_ble_eq_true rfl) (fun _ _ _ => rfl) dX9_carpet_102 (fun H locs h => ?_)
          have hE := hE.up (up_i (ui_ (ui_ (ui_ (ui_ σ b14 j15 x1) b16 j17 x2) b16 j18 x3) b16 j19 (0 : Int32)) a0 11 ((si_ (ui_ (ui_ (ui_ (ui_ σ b14 j15 x1) b16 j17 x2) b16 j18 x3) b16 j19 (0 : Int32)) a0 11) + (1 : Int32)))
          refine lv_aload_n C.1 C.2.1 dX9_carpet_105 rfl (lv_at hl 0 rfl) ?_
          refine x_get (v := .int (si_ (ui_ (ui_ (ui_ (ui_ (ui_ σ b14 j15 x1) b16 j17 x2) b16 j18 x3) b16 j19 (0 : Int32)) a0 11 ((si_ (ui_ (ui_ (ui_ (ui_ σ b14 j15 x1) b16 j17 x2) b16 j18 x3) b16 j19 (0 : Int32)) a0 11) + (1 : Int32))) a0 11)) C K h cl_9 hk_a0 11 (by decide) fl_RX9_80 rfl dX9_carpet_106 ?_
          refine lv_iconst (v := (1 : Int32)) C.1 C.2.1 dX9_carpet_109 (by decide) ?_
          refine lv_isub C.1 C.2.1 dX9_carpet_110 ?_
          exact x_ri C hr hlk h hE (pf_1 (Option.some.inj hf)) (pf_2 (Option.some.inj hf)) dX9_carpet_111
        · have hf := if_t hf c13
          refine lv_bipush (v := (-4 : Int32)) C.1 C.2.1 dX9_carpet_42 (by decide) ?_
          exact x_ri C hr hlk h hE (pf_1 (Option.some.inj hf)) (pf_2 (Option.some.inj hf)) dX9_carpet_44
      · have hf := if_t hf c12
        refine lv_bipush (v := (-2 : Int32)) C.1 C.2.1 dX9_carpet_31 (by decide) ?_
        exact x_ri C hr hlk h hE (pf_1 (Option.some.inj hf)) (pf_2 (Option.some.inj hf)) dX9_carpet_33
theorem c_X9_carpet (l : Launch) (κ : Ka_) (G : va_G) (cy : Nat → ClassId) (ad : Nat → Nat) (sz : Nat) (σ : St_) (a0 : Nat) (x1 : Int32) (x2 : Int32) (x3 : Int32) (hk_a0 : kd_ σ a0 = 9) {q : Int32 × St_} (hf : f_X9_carpet σ a0 x1 x2 x3 = some q) : Met l yX9_carpet (Cond.code yX9_carpet cX9_carpet 4 (some .int) :: wU_) { frames := 2, cells := 0, slots := 0, locals := 45 } (va_Pc [.ref (ad a0), .int x1, .int x2, .int x3] (Pr_ κ G cy ad σ sz)) (Qi_ G cy ad σ q.2 sz q.1) 0 0 (va_A (wl_ cy ad σ) sz) :=
  x_met (by decide) (fun p e R s m below meth c ls hR C hr hlk hin _ K h hl => w_X9_carpet C K hr hlk ⟨hR.1, hR.2.1⟩ σ a0 x1 x2 x3 Ex_.rf hk_a0 hf s.heap [] ls h hl) (Nat.le_of_ble_eq_true rfl)
-- X9_feed
theorem mi_X9_feed : Mi_ yX9_feed cX9_feed 2 (some .int) 1 := ⟨co_yX9_feed, in_RX9, by decide, by decide, by decide +kernel⟩
def f_X9_feed (σ : St_) (a0 : Nat) (x1 : Int32) : Option (Int32 × St_) := if (f_X9_in x1.toInt64 (0 : Int64) (255 : Int64)) = 0 then some ((-2 : Int32), σ) else if (si_ σ a0 6) = (160 : Int32) then some ((-4 : Int32), σ) else (dr_ σ 10 (sr_ σ a0 5)).bind fun b6 => (ix_ (si_ σ a0 6) (ln_ σ b6)).bind fun j7 => some (si_ (ui_ (ui_ σ b6 j7 x1) a0 6 ((si_ (ui_ σ b6 j7 x1) a0 6) + (1 : Int32))) a0 6, ui_ (ui_ σ b6 j7 x1) a0 6 ((si_ (ui_ σ b6 j7 x1) a0 6) + (1 : Int32)))
set_option maxHeartbeats 4000000 in
set_option maxRecDepth 100000 in
theorem w_X9_feed {p : Program} {l : Launch} {e : Env} {R : Room} {s : State} {m : MethodId} {args : Array Value} {below : List Frame} {meth : Method} {c : Code} {κ : Ka_} {G : va_G} {cy : Nat → ClassId} {ad : Nat → Nat} {sz : Nat} {σ0 : St_} (C : CallFix p m c cX9_feed 2 s args wU_ RX9) (K : Kx_ κ G cy (va_A (wl_ cy ad σ0) sz) s) (hr : meth.sig.returnType = some .int) (hlk : meth.locks = false) (hR : 1 ≤ R.frames ∧ 25 ≤ R.locals) {q : Int32 × St_} : ∀ (σ : St_) (a0 : Nat) (x1 : Int32), Ex_ σ0 σ → kd_ σ a0 = 9 → f_X9_feed σ a0 x1 = some q → ∀ (H : Heap) (locs : List Loc) (ls : Array Slot), Ht_ G cy (va_A (wl_ cy ad σ0) sz) s ad σ H locs → lv_has ls 2 [(0, .ref (ad a0)), (1, .int x1)] → W p l e R s m args below meth c H locs 0 0 (MQ below (Qi_ G cy ad σ0 q.2 sz q.1) args s 0 0 (va_A (wl_ cy ad σ0) sz)) (F0 m 0 ls []) := by
  intro σ a0 x1 hE hk_a0 hf H locs ls h hl
  have hf : (if (f_X9_in x1.toInt64 (0 : Int64) (255 : Int64)) = 0 then some ((-2 : Int32), σ) else if (si_ σ a0 6) = (160 : Int32) then some ((-4 : Int32), σ) else (dr_ σ 10 (sr_ σ a0 5)).bind fun b6 => (ix_ (si_ σ a0 6) (ln_ σ b6)).bind fun j7 => some (si_ (ui_ (ui_ σ b6 j7 x1) a0 6 ((si_ (ui_ σ b6 j7 x1) a0 6) + (1 : Int32))) a0 6, ui_ (ui_ σ b6 j7 x1) a0 6 ((si_ (ui_ σ b6 j7 x1) a0 6) + (1 : Int32)))) = some q := hf
  refine lv_iload_n C.1 C.2.1 dX9_feed_0 rfl (lv_at hl 1 rfl) ?_
  refine lv_i2l C.1 C.2.1 dX9_feed_1 rfl ?_
  refine lv_lconst (v := (0 : Int64)) C.1 C.2.1 dX9_feed_2 (by decide) ?_
  refine lv_ldc2 (v := (255 : Int64)) C.1 C.2.1 C.2.2.2.1 (C.2.2.2.2 _ cl_RX9_139) dX9_feed_3 ?_
  refine x_az K h (x_S C K h [.long x1.toInt64, .long (0 : Int64), .long (255 : Int64)] (c_X9_in l κ G cy ad H.size σ x1.toInt64 (0 : Int64) (255 : Int64) rfl) mi_X9_in rfl st_yX9_in ml_RX9_83 ⟨rfl, rfl, Nat.le_trans (Nat.le_of_ble_eq_true rfl) hR.1, Nat.le_trans (Nat.le_of_ble_eq_true rfl) hR.2⟩ hl (Nat.le_of_ble_eq_true rfl) dX9_feed_6 ⟨Nat.zero_le _, Nat.zero_le _⟩ rfl) (fun H locs h hX hz3 => ?_)
  refine lv_if_ne (tgt := 15) C.1 C.2.1 dX9_feed_9 (by decide) (fun c4 => ?_) (fun c4 => ?_)
  · have hf := if_f hf c4
    refine lv_aload_n C.1 C.2.1 dX9_feed_15 rfl (lv_at hl 0 rfl) ?_
    refine x_get (v := .int (si_ σ a0 6)) C K h cl_9 hk_a0 6 (by decide) fl_RX9_141 rfl dX9_feed_16 ?_
    refine lv_sipush (v := (160 : Int32)) C.1 C.2.1 dX9_feed_19 (by decide) ?_
    refine lv_icmp_ne (tgt := 28) C.1 C.2.1 dX9_feed_22 (by decide) (fun c5 => ?_) (fun c5 => ?_)
    · have hf := if_f hf c5
      refine lv_aload_n C.1 C.2.1 dX9_feed_28 rfl (lv_at hl 0 rfl) ?_
      obtain ⟨b6, hb_b6, hf⟩ := ob_ hf
      obtain ⟨hq_b6, hk_b6⟩ := dr_in hb_b6
      refine x_get (v := .ref (ad b6)) C K h cl_9 hk_a0 5 (by decide) fl_RX9_20 (hv_r (o := sr_ σ a0 5) rfl hq_b6) dX9_feed_29 ?_
      refine lv_aload_n C.1 C.2.1 dX9_feed_32 rfl (lv_at hl 0 rfl) ?_
      refine x_get (v := .int (si_ σ a0 6)) C K h cl_9 hk_a0 6 (by decide) fl_RX9_141 rfl dX9_feed_33 ?_
      refine lv_iload_n C.1 C.2.1 dX9_feed_36 rfl (lv_at hl 1 rfl) ?_
      obtain ⟨j7, hj_j7, hf⟩ := ob_ hf
      refine x_iast C K h hk_b6 hj_j7 dX9_feed_37 (fun H locs h => ?_)
      have hE := hE.up (up_i σ b6 j7 x1)
      refine lv_aload_n C.1 C.2.1 dX9_feed_38 rfl (lv_at hl 0 rfl) ?_
      refine lv_dup C.1 C.2.1 dX9_feed_39 rfl ?_
      refine x_get (v := .int (si_ (ui_ σ b6 j7 x1) a0 6)) C K h cl_9 hk_a0 6 (by decide) fl_RX9_141 rfl dX9_feed_40 ?_
      refine lv_iconst (v := (1 : Int32)) C.1 C.2.1 dX9_feed_43 (by decide) ?_
      refine lv_iadd C.1 C.2.1 dX9_feed_44 ?_
      refine x_putI C K h cl_9 hk_a0 6 (by decide) fl_RX9_141 rfl rfl rfl (Nat.le_of_ble_eq_true rfl) (fun _ _ _ => rfl) dX9_feed_45 (fun H locs h => ?_)
      have hE := hE.up (up_i (ui_ σ b6 j7 x1) a0 6 ((si_ (ui_ σ b6 j7 x1) a0 6) + (1 : Int32)))
      refine lv_aload_n C.1 C.2.1 dX9_feed_48 rfl (lv_at hl 0 rfl) ?_
      refine x_get (v := .int (si_ (ui_ (ui_ σ b6 j7 x1) a0 6 ((si_ (ui_ σ b6 j7 x1) a0 6) + (1 : Int32))) a0 6)) C K h cl_9 hk_a0 6 (by decide) fl_RX9_141 rfl dX9_feed_49 ?_
      exact x_ri C hr hlk h hE (pf_1 (Option.some.inj hf)) (pf_2 (Option.some.inj hf)) dX9_feed_52
    · have hf := if_t hf c5
      refine lv_bipush (v := (-4 : Int32)) C.1 C.2.1 dX9_feed_25 (by decide) ?_
      exact x_ri C hr hlk h hE (pf_1 (Option.some.inj hf)) (pf_2 (Option.some.inj hf)) dX9_feed_27
  · have hf := if_t hf c4
    refine lv_bipush (v := (-2 : Int32)) C.1 C.2.1 dX9_feed_12 (by decide) ?_
    exact x_ri C hr hlk h hE (pf_1 (Option.some.inj hf)) (pf_2 (Option.some.inj hf)) dX9_feed_14
theorem c_X9_feed (l : Launch) (κ : Ka_) (G : va_G) (cy : Nat → ClassId) (ad : Nat → Nat) (sz : Nat) (σ : St_) (a0 : Nat) (x1 : Int32) (hk_a0 : kd_ σ a0 = 9) {q : Int32 × St_} (hf : f_X9_feed σ a0 x1 = some q) : Met l yX9_feed (Cond.code yX9_feed cX9_feed 2 (some .int) :: wU_) { frames := 1, cells := 0, slots := 0, locals := 25 } (va_Pc [.ref (ad a0), .int x1] (Pr_ κ G cy ad σ sz)) (Qi_ G cy ad σ q.2 sz q.1) 0 0 (va_A (wl_ cy ad σ) sz) :=
  x_met (by decide) (fun p e R s m below meth c ls hR C hr hlk hin _ K h hl => w_X9_feed C K hr hlk ⟨hR.1, hR.2.1⟩ σ a0 x1 Ex_.rf hk_a0 hf s.heap [] ls h hl) (Nat.le_of_ble_eq_true rfl)
-- X9_text
theorem mi_X9_text : Mi_ yX9_text cX9_text 2 (some .int) 0 := ⟨co_yX9_text, in_RX9, by decide, by decide, by decide +kernel⟩
def f_X9_text_14 (fu : Nat) : Nat → St_ → Nat → Int32 → Option (Int32 × St_)
  | 0 => fun _ _ _ => none
  | n + 1 => fun σ  v0  v1 => if (si_ σ v0 6) ≤ v1 then (dr_ σ 10 (sr_ σ v0 2)).bind fun b2 => (ix_ (si_ σ v0 3) (ln_ σ b2)).bind fun j3 => (f_X9_read fu (ui_ (ui_ σ b2 j3 (si_ σ v0 6)) v0 6 (0 : Int32)) v0 (si_ (ui_ (ui_ σ b2 j3 (si_ σ v0 6)) v0 6 (0 : Int32)) v0 3) (0 : Int32)).bind fun q4 => if (si_ q4.2 v0 25) = 0 then some ((si_ (ui_ q4.2 v0 3 ((si_ q4.2 v0 3) + (1 : Int32))) v0 3) - (1 : Int32), ui_ q4.2 v0 3 ((si_ q4.2 v0 3) + (1 : Int32))) else some ((-100 : Int32) - (si_ q4.2 v0 26), q4.2) else (dr_ σ 10 (sr_ σ v0 1)).bind fun b6 => (dr_ σ 10 (sr_ σ v0 5)).bind fun b7 => (ix_ v1 (ln_ σ b7)).bind fun j8 => (ix_ (((160 : Int32) * (si_ σ v0 3)) + v1) (ln_ σ b6)).bind fun j9 => (f_X9_text_14 fu n) (ui_ σ b6 j9 (si_ σ b7 j8)) v0 (v1 + (1 : Int32))
set_option maxHeartbeats 4000000 in
set_option maxRecDepth 100000 in
theorem w_X9_text_14 {p : Program} {l : Launch} {e : Env} {R : Room} {s : State} {m : MethodId} {args : Array Value} {below : List Frame} {meth : Method} {c : Code} {κ : Ka_} {G : va_G} {cy : Nat → ClassId} {ad : Nat → Nat} {sz : Nat} {σ0 : St_} (fu : Nat) (C : CallFix p m c cX9_text 2 s args wU_ RX9) (K : Kx_ κ G cy (va_A (wl_ cy ad σ0) sz) s) (hr : meth.sig.returnType = some .int) (hlk : meth.locks = false) (hR : 42 ≤ R.frames ∧ 930 ≤ R.locals) {q : Int32 × St_} : ∀ n : Nat, ∀ (σ : St_) (v0 : Nat) (v1 : Int32), Ex_ σ0 σ → kd_ σ v0 = 9 → f_X9_text_14 fu n σ v0 v1 = some q → ∀ (H : Heap) (locs : List Loc) (ls : Array Slot), Ht_ G cy (va_A (wl_ cy ad σ0) sz) s ad σ H locs → lv_has ls 2 [(0, .ref (ad v0)), (1, .int v1)] → W p l e R s m args below meth c H locs 0 0 (MQ below (Qi_ G cy ad σ0 q.2 sz q.1) args s 0 0 (va_A (wl_ cy ad σ0) sz)) (F0 m 14 ls []) := by
  intro n
  induction n with
  | zero =>
    intro σ v0 v1 hE hk_v0 hf H locs ls h hl
    cases hf
  | succ n ih =>
    intro σ v0 v1 hE hk_v0 hf H locs ls h hl
    have hf : (if (si_ σ v0 6) ≤ v1 then (dr_ σ 10 (sr_ σ v0 2)).bind fun b2 => (ix_ (si_ σ v0 3) (ln_ σ b2)).bind fun j3 => (f_X9_read fu (ui_ (ui_ σ b2 j3 (si_ σ v0 6)) v0 6 (0 : Int32)) v0 (si_ (ui_ (ui_ σ b2 j3 (si_ σ v0 6)) v0 6 (0 : Int32)) v0 3) (0 : Int32)).bind fun q4 => if (si_ q4.2 v0 25) = 0 then some ((si_ (ui_ q4.2 v0 3 ((si_ q4.2 v0 3) + (1 : Int32))) v0 3) - (1 : Int32), ui_ q4.2 v0 3 ((si_ q4.2 v0 3) + (1 : Int32))) else some ((-100 : Int32) - (si_ q4.2 v0 26), q4.2) else (dr_ σ 10 (sr_ σ v0 1)).bind fun b6 => (dr_ σ 10 (sr_ σ v0 5)).bind fun b7 => (ix_ v1 (ln_ σ b7)).bind fun j8 => (ix_ (((160 : Int32) * (si_ σ v0 3)) + v1) (ln_ σ b6)).bind fun j9 => (f_X9_text_14 fu n) (ui_ σ b6 j9 (si_ σ b7 j8)) v0 (v1 + (1 : Int32))) = some q := hf
    refine lv_iload_n C.1 C.2.1 dX9_text_14 rfl (lv_at hl 1 rfl) ?_
    refine lv_aload_n C.1 C.2.1 dX9_text_15 rfl (lv_at hl 0 rfl) ?_
    refine x_get (v := .int (si_ σ v0 6)) C K h cl_9 hk_v0 6 (by decide) fl_RX9_141 rfl dX9_text_16 ?_
    refine lv_icmp_ge (tgt := 49) C.1 C.2.1 dX9_text_19 (by decide) (fun c1 => ?_) (fun c1 => ?_)
    · have hf := if_t hf c1
      refine lv_aload_n C.1 C.2.1 dX9_text_49 rfl (lv_at hl 0 rfl) ?_
      obtain ⟨b2, hb_b2, hf⟩ := ob_ hf
      obtain ⟨hq_b2, hk_b2⟩ := dr_in hb_b2
      refine x_get (v := .ref (ad b2)) C K h cl_9 hk_v0 2 (by decide) fl_RX9_17 (hv_r (o := sr_ σ v0 2) rfl hq_b2) dX9_text_50 ?_
      refine lv_aload_n C.1 C.2.1 dX9_text_53 rfl (lv_at hl 0 rfl) ?_
      refine x_get (v := .int (si_ σ v0 3)) C K h cl_9 hk_v0 3 (by decide) fl_RX9_77 rfl dX9_text_54 ?_
      refine lv_aload_n C.1 C.2.1 dX9_text_57 rfl (lv_at hl 0 rfl) ?_
      refine x_get (v := .int (si_ σ v0 6)) C K h cl_9 hk_v0 6 (by decide) fl_RX9_141 rfl dX9_text_58 ?_
      obtain ⟨j3, hj_j3, hf⟩ := ob_ hf
      refine x_iast C K h hk_b2 hj_j3 dX9_text_61 (fun H locs h => ?_)
      have hE := hE.up (up_i σ b2 j3 (si_ σ v0 6))
      refine lv_aload_n C.1 C.2.1 dX9_text_62 rfl (lv_at hl 0 rfl) ?_
      refine lv_iconst (v := (0 : Int32)) C.1 C.2.1 dX9_text_63 (by decide) ?_
      refine x_putI C K h cl_9 hk_v0 6 (by decide) fl_RX9_141 rfl rfl rfl (Nat.le_of_ble_eq_true rfl) (fun _ _ _ => rfl) dX9_text_64 (fun H locs h => ?_)
      have hE := hE.up (up_i (ui_ σ b2 j3 (si_ σ v0 6)) v0 6 (0 : Int32))
      refine lv_aload_n C.1 C.2.1 dX9_text_67 rfl (lv_at hl 0 rfl) ?_
      refine lv_aload_n C.1 C.2.1 dX9_text_68 rfl (lv_at hl 0 rfl) ?_
      refine x_get (v := .int (si_ (ui_ (ui_ σ b2 j3 (si_ σ v0 6)) v0 6 (0 : Int32)) v0 3)) C K h cl_9 hk_v0 3 (by decide) fl_RX9_77 rfl dX9_text_69 ?_
      refine lv_iconst (v := (0 : Int32)) C.1 C.2.1 dX9_text_72 (by decide) ?_
      obtain ⟨q4, hq_q4, hf⟩ := ob_ hf
      refine x_ai K h (x_V C K h [.int (si_ (ui_ (ui_ σ b2 j3 (si_ σ v0 6)) v0 6 (0 : Int32)) v0 3), .int (0 : Int32)] (c_X9_read fu l κ G cy ad H.size (ui_ (ui_ σ b2 j3 (si_ σ v0 6)) v0 6 (0 : Int32)) v0 (si_ (ui_ (ui_ σ b2 j3 (si_ σ v0 6)) v0 6 (0 : Int32)) v0 3) (0 : Int32) hk_v0 hq_q4) mi_X9_read rfl im_yX9_read se_yX9_read ml_RX9_342 cl_9 hk_v0 ⟨rfl, rfl, Nat.le_trans (Nat.le_of_ble_eq_true rfl) hR.1, Nat.le_trans (Nat.le_of_ble_eq_true rfl) hR.2⟩ hl (Nat.le_of_ble_eq_true rfl) dX9_text_73 ⟨Nat.zero_le _, Nat.zero_le _⟩ rfl) (fun H locs h hX => ?_)
      have hE := hE.trans hX
      have hk_v0 := hX.k hk_v0 (by decide)
      refine lv_istore_n (i := 1) (lv' := [(1, .int q4.1), (0, .ref (ad v0))]) C.1 C.2.1 dX9_text_76 rfl hl (by decide) rfl (fun ls hl => ?_)
      refine lv_aload_n C.1 C.2.1 dX9_text_77 rfl (lv_at hl 1 rfl) ?_
      refine x_get (v := .int (si_ q4.2 v0 25)) C K h cl_9 hk_v0 25 (by decide) fl_RX9_174 rfl dX9_text_78 ?_
      refine lv_if_eq (tgt := 92) C.1 C.2.1 dX9_text_81 (by decide) (fun c5 => ?_) (fun c5 => ?_)
      · have hf := if_t hf c5
        refine lv_aload_n C.1 C.2.1 dX9_text_92 rfl (lv_at hl 1 rfl) ?_
        refine lv_dup C.1 C.2.1 dX9_text_93 rfl ?_
        refine x_get (v := .int (si_ q4.2 v0 3)) C K h cl_9 hk_v0 3 (by decide) fl_RX9_77 rfl dX9_text_94 ?_
        refine lv_iconst (v := (1 : Int32)) C.1 C.2.1 dX9_text_97 (by decide) ?_
        refine lv_iadd C.1 C.2.1 dX9_text_98 ?_
        refine x_putI C K h cl_9 hk_v0 3 (by decide) fl_RX9_77 rfl rfl rfl (Nat.le_of_ble_eq_true rfl) (fun _ _ _ => rfl) dX9_text_99 (fun H locs h => ?_)
        have hE := hE.up (up_i q4.2 v0 3 ((si_ q4.2 v0 3) + (1 : Int32)))
        refine lv_aload_n C.1 C.2.1 dX9_text_102 rfl (lv_at hl 1 rfl) ?_
        refine x_get (v := .int (si_ (ui_ q4.2 v0 3 ((si_ q4.2 v0 3) + (1 : Int32))) v0 3)) C K h cl_9 hk_v0 3 (by decide) fl_RX9_77 rfl dX9_text_103 ?_
        refine lv_iconst (v := (1 : Int32)) C.1 C.2.1 dX9_text_106 (by decide) ?_
        refine lv_isub C.1 C.2.1 dX9_text_107 ?_
        exact x_ri C hr hlk h hE (pf_1 (Option.some.inj hf)) (pf_2 (Option.some.inj hf)) dX9_text_108
      · have hf := if_f hf c5
        refine lv_bipush (v := (-100 : Int32)) C.1 C.2.1 dX9_text_84 (by decide) ?_
        refine lv_aload_n C.1 C.2.1 dX9_text_86 rfl (lv_at hl 1 rfl) ?_
        refine x_get (v := .int (si_ q4.2 v0 26)) C K h cl_9 hk_v0 26 (by decide) fl_RX9_178 rfl dX9_text_87 ?_
        refine lv_isub C.1 C.2.1 dX9_text_90 ?_
        exact x_ri C hr hlk h hE (pf_1 (Option.some.inj hf)) (pf_2 (Option.some.inj hf)) dX9_text_91
    · have hf := if_f hf c1
      refine lv_aload_n C.1 C.2.1 dX9_text_22 rfl (lv_at hl 0 rfl) ?_
      obtain ⟨b6, hb_b6, hf⟩ := ob_ hf
      obtain ⟨hq_b6, hk_b6⟩ := dr_in hb_b6
      refine x_get (v := .ref (ad b6)) C K h cl_9 hk_v0 1 (by decide) fl_RX9_13 (hv_r (o := sr_ σ v0 1) rfl hq_b6) dX9_text_23 ?_
      refine lv_sipush (v := (160 : Int32)) C.1 C.2.1 dX9_text_26 (by decide) ?_
      refine lv_aload_n C.1 C.2.1 dX9_text_29 rfl (lv_at hl 0 rfl) ?_
      refine x_get (v := .int (si_ σ v0 3)) C K h cl_9 hk_v0 3 (by decide) fl_RX9_77 rfl dX9_text_30 ?_
      refine lv_imul C.1 C.2.1 dX9_text_33 ?_
      refine lv_iload_n C.1 C.2.1 dX9_text_34 rfl (lv_at hl 1 rfl) ?_
      refine lv_iadd C.1 C.2.1 dX9_text_35 ?_
      refine lv_aload_n C.1 C.2.1 dX9_text_36 rfl (lv_at hl 0 rfl) ?_
      obtain ⟨b7, hb_b7, hf⟩ := ob_ hf
      obtain ⟨hq_b7, hk_b7⟩ := dr_in hb_b7
      refine x_get (v := .ref (ad b7)) C K h cl_9 hk_v0 5 (by decide) fl_RX9_20 (hv_r (o := sr_ σ v0 5) rfl hq_b7) dX9_text_37 ?_
      refine lv_iload_n C.1 C.2.1 dX9_text_40 rfl (lv_at hl 1 rfl) ?_
      obtain ⟨j8, hj_j8, hf⟩ := ob_ hf
      refine x_iald C K h hk_b7 hj_j8 dX9_text_41 ?_
      obtain ⟨j9, hj_j9, hf⟩ := ob_ hf
      refine x_iast C K h hk_b6 hj_j9 dX9_text_42 (fun H locs h => ?_)
      have hE := hE.up (up_i σ b6 j9 (si_ σ b7 j8))
      refine lv_iinc (v := v1 + (1 : Int32)) (lv' := [(1, .int (v1 + (1 : Int32))), (0, .ref (ad v0))]) C.1 C.2.1 dX9_text_43 hl (k := 1) rfl rfl (by decide) rfl (fun ls hl => ?_)
      refine lv_goto (tgt := 14) C.1 C.2.1 dX9_text_46 (by decide) ?_
      exact ih (ui_ σ b6 j9 (si_ σ b7 j8)) v0 (v1 + (1 : Int32)) hE hk_v0 hf _ _ _ h (lv_sub hl [1, 0] rfl)
def f_X9_text (fu : Nat) (σ : St_) (a0 : Nat) : Option (Int32 × St_) := if (si_ σ a0 3) = (6 : Int32) then some ((-4 : Int32), σ) else f_X9_text_14 fu fu σ a0 (0 : Int32)
set_option maxHeartbeats 4000000 in
set_option maxRecDepth 100000 in
theorem w_X9_text {p : Program} {l : Launch} {e : Env} {R : Room} {s : State} {m : MethodId} {args : Array Value} {below : List Frame} {meth : Method} {c : Code} {κ : Ka_} {G : va_G} {cy : Nat → ClassId} {ad : Nat → Nat} {sz : Nat} {σ0 : St_} (fu : Nat) (C : CallFix p m c cX9_text 2 s args wU_ RX9) (K : Kx_ κ G cy (va_A (wl_ cy ad σ0) sz) s) (hr : meth.sig.returnType = some .int) (hlk : meth.locks = false) (hR : 42 ≤ R.frames ∧ 930 ≤ R.locals) {q : Int32 × St_} : ∀ (σ : St_) (a0 : Nat), Ex_ σ0 σ → kd_ σ a0 = 9 → f_X9_text fu σ a0 = some q → ∀ (H : Heap) (locs : List Loc) (ls : Array Slot), Ht_ G cy (va_A (wl_ cy ad σ0) sz) s ad σ H locs → lv_has ls 2 [(0, .ref (ad a0))] → W p l e R s m args below meth c H locs 0 0 (MQ below (Qi_ G cy ad σ0 q.2 sz q.1) args s 0 0 (va_A (wl_ cy ad σ0) sz)) (F0 m 0 ls []) := by
  intro σ a0 hE hk_a0 hf H locs ls h hl
  have hf : (if (si_ σ a0 3) = (6 : Int32) then some ((-4 : Int32), σ) else f_X9_text_14 fu fu σ a0 (0 : Int32)) = some q := hf
  refine lv_aload_n C.1 C.2.1 dX9_text_0 rfl (lv_at hl 0 rfl) ?_
  refine x_get (v := .int (si_ σ a0 3)) C K h cl_9 hk_a0 3 (by decide) fl_RX9_77 rfl dX9_text_1 ?_
  refine lv_bipush (v := (6 : Int32)) C.1 C.2.1 dX9_text_4 (by decide) ?_
  refine lv_icmp_ne (tgt := 12) C.1 C.2.1 dX9_text_6 (by decide) (fun c1 => ?_) (fun c1 => ?_)
  · have hf := if_f hf c1
    refine lv_iconst (v := (0 : Int32)) C.1 C.2.1 dX9_text_12 (by decide) ?_
    refine lv_istore_n (i := 1) (lv' := [(1, .int (0 : Int32)), (0, .ref (ad a0))]) C.1 C.2.1 dX9_text_13 rfl hl (by decide) rfl (fun ls hl => ?_)
    exact w_X9_text_14 fu C K hr hlk hR fu σ a0 (0 : Int32) hE hk_a0 hf _ _ _ h (lv_sub hl [1, 0] rfl)
  · have hf := if_t hf c1
    refine lv_bipush (v := (-4 : Int32)) C.1 C.2.1 dX9_text_9 (by decide) ?_
    exact x_ri C hr hlk h hE (pf_1 (Option.some.inj hf)) (pf_2 (Option.some.inj hf)) dX9_text_11
theorem c_X9_text (fu : Nat) (l : Launch) (κ : Ka_) (G : va_G) (cy : Nat → ClassId) (ad : Nat → Nat) (sz : Nat) (σ : St_) (a0 : Nat) (hk_a0 : kd_ σ a0 = 9) {q : Int32 × St_} (hf : f_X9_text fu σ a0 = some q) : Met l yX9_text (Cond.code yX9_text cX9_text 2 (some .int) :: wU_) { frames := 42, cells := 0, slots := 0, locals := 930 } (va_Pc [.ref (ad a0)] (Pr_ κ G cy ad σ sz)) (Qi_ G cy ad σ q.2 sz q.1) 0 0 (va_A (wl_ cy ad σ) sz) :=
  x_met (by decide) (fun p e R s m below meth c ls hR C hr hlk hin _ K h hl => w_X9_text fu C K hr hlk ⟨hR.1, hR.2.1⟩ σ a0 Ex_.rf hk_a0 hf s.heap [] ls h hl) (Nat.le_of_ble_eq_true rfl)
-- X9_force
theorem mi_X9_force : Mi_ yX9_force cX9_force 3 (some .int) 1 := ⟨co_yX9_force, in_RX9, by decide, by decide, by decide +kernel⟩
def f_X9_force (σ : St_) (a0 : Nat) (x1 : Int32) : Int32 × St_ := if (f_X9_in x1.toInt64 (0 : Int64) (((si_ σ a0 3) - (1 : Int32)).toInt64)) = 0 then ((-2 : Int32), σ) else (si_ σ a0 4, ui_ σ a0 4 x1)
set_option maxHeartbeats 4000000 in
set_option maxRecDepth 100000 in
theorem w_X9_force {p : Program} {l : Launch} {e : Env} {R : Room} {s : State} {m : MethodId} {args : Array Value} {below : List Frame} {meth : Method} {c : Code} {κ : Ka_} {G : va_G} {cy : Nat → ClassId} {ad : Nat → Nat} {sz : Nat} {σ0 : St_} (C : CallFix p m c cX9_force 3 s args wU_ RX9) (K : Kx_ κ G cy (va_A (wl_ cy ad σ0) sz) s) (hr : meth.sig.returnType = some .int) (hlk : meth.locks = false) (hR : 1 ≤ R.frames ∧ 25 ≤ R.locals) {q : Int32 × St_} : ∀ (σ : St_) (a0 : Nat) (x1 : Int32), Ex_ σ0 σ → kd_ σ a0 = 9 → f_X9_force σ a0 x1 = q → ∀ (H : Heap) (locs : List Loc) (ls : Array Slot), Ht_ G cy (va_A (wl_ cy ad σ0) sz) s ad σ H locs → lv_has ls 3 [(0, .ref (ad a0)), (1, .int x1)] → W p l e R s m args below meth c H locs 0 0 (MQ below (Qi_ G cy ad σ0 q.2 sz q.1) args s 0 0 (va_A (wl_ cy ad σ0) sz)) (F0 m 0 ls []) := by
  intro σ a0 x1 hE hk_a0 hf H locs ls h hl
  have hf : (if (f_X9_in x1.toInt64 (0 : Int64) (((si_ σ a0 3) - (1 : Int32)).toInt64)) = 0 then ((-2 : Int32), σ) else (si_ σ a0 4, ui_ σ a0 4 x1)) = q := hf
  refine lv_iload_n C.1 C.2.1 dX9_force_0 rfl (lv_at hl 1 rfl) ?_
  refine lv_i2l C.1 C.2.1 dX9_force_1 rfl ?_
  refine lv_lconst (v := (0 : Int64)) C.1 C.2.1 dX9_force_2 (by decide) ?_
  refine lv_aload_n C.1 C.2.1 dX9_force_3 rfl (lv_at hl 0 rfl) ?_
  refine x_get (v := .int (si_ σ a0 3)) C K h cl_9 hk_a0 3 (by decide) fl_RX9_77 rfl dX9_force_4 ?_
  refine lv_iconst (v := (1 : Int32)) C.1 C.2.1 dX9_force_7 (by decide) ?_
  refine lv_isub C.1 C.2.1 dX9_force_8 ?_
  refine lv_i2l C.1 C.2.1 dX9_force_9 rfl ?_
  refine x_az K h (x_S C K h [.long x1.toInt64, .long (0 : Int64), .long (((si_ σ a0 3) - (1 : Int32)).toInt64)] (c_X9_in l κ G cy ad H.size σ x1.toInt64 (0 : Int64) (((si_ σ a0 3) - (1 : Int32)).toInt64) rfl) mi_X9_in rfl st_yX9_in ml_RX9_83 ⟨rfl, rfl, Nat.le_trans (Nat.le_of_ble_eq_true rfl) hR.1, Nat.le_trans (Nat.le_of_ble_eq_true rfl) hR.2⟩ hl (Nat.le_of_ble_eq_true rfl) dX9_force_10 ⟨Nat.zero_le _, Nat.zero_le _⟩ rfl) (fun H locs h hX hz3 => ?_)
  refine lv_if_ne (tgt := 19) C.1 C.2.1 dX9_force_13 (by decide) (fun c4 => ?_) (fun c4 => ?_)
  · have hf := if_f hf c4
    refine lv_aload_n C.1 C.2.1 dX9_force_19 rfl (lv_at hl 0 rfl) ?_
    refine x_get (v := .int (si_ σ a0 4)) C K h cl_9 hk_a0 4 (by decide) fl_RX9_119 rfl dX9_force_20 ?_
    refine lv_istore_n (i := 2) (lv' := [(2, .int (si_ σ a0 4)), (0, .ref (ad a0)), (1, .int x1)]) C.1 C.2.1 dX9_force_23 rfl hl (by decide) rfl (fun ls hl => ?_)
    refine lv_aload_n C.1 C.2.1 dX9_force_24 rfl (lv_at hl 1 rfl) ?_
    refine lv_iload_n C.1 C.2.1 dX9_force_25 rfl (lv_at hl 2 rfl) ?_
    refine x_putI C K h cl_9 hk_a0 4 (by decide) fl_RX9_119 rfl rfl rfl (Nat.le_of_ble_eq_true rfl) (fun _ _ _ => rfl) dX9_force_26 (fun H locs h => ?_)
    have hE := hE.up (up_i σ a0 4 x1)
    refine lv_iload_n C.1 C.2.1 dX9_force_29 rfl (lv_at hl 0 rfl) ?_
    exact x_ri C hr hlk h hE (pf_1 hf) (pf_2 hf) dX9_force_30
  · have hf := if_t hf c4
    refine lv_bipush (v := (-2 : Int32)) C.1 C.2.1 dX9_force_16 (by decide) ?_
    exact x_ri C hr hlk h hE (pf_1 hf) (pf_2 hf) dX9_force_18
theorem c_X9_force (l : Launch) (κ : Ka_) (G : va_G) (cy : Nat → ClassId) (ad : Nat → Nat) (sz : Nat) (σ : St_) (a0 : Nat) (x1 : Int32) (hk_a0 : kd_ σ a0 = 9) {q : Int32 × St_} (hf : f_X9_force σ a0 x1 = q) : Met l yX9_force (Cond.code yX9_force cX9_force 3 (some .int) :: wU_) { frames := 1, cells := 0, slots := 0, locals := 25 } (va_Pc [.ref (ad a0), .int x1] (Pr_ κ G cy ad σ sz)) (Qi_ G cy ad σ q.2 sz q.1) 0 0 (va_A (wl_ cy ad σ) sz) :=
  x_met (by decide) (fun p e R s m below meth c ls hR C hr hlk hin _ K h hl => w_X9_force C K hr hlk ⟨hR.1, hR.2.1⟩ σ a0 x1 Ex_.rf hk_a0 hf s.heap [] ls h hl) (Nat.le_of_ble_eq_true rfl)
-- X9_asks
theorem mi_X9_asks : Mi_ yX9_asks cX9_asks 5 (some .int) 4 := ⟨co_yX9_asks, in_RX9, by decide, by decide, by decide +kernel⟩
def f_X9_asks (fu : Nat) (σ : St_) (a0 : Nat) (x1 : Int32) (x2 : Int32) (x3 : Int32) (x4 : Int32) : Option (Int32 × St_) := if (f_X9_isOne σ a0 x1) = 0 then some ((-1000 : Int32), σ) else if (f_X9_isCell x2) = 0 then some ((-1000 : Int32), σ) else if (f_X9_isWord x3) = 0 then some ((-1000 : Int32), σ) else if (f_X9_in x4.toInt64 (0 : Int64) (1 : Int64)) = 0 then some ((-1000 : Int32), σ) else if x4 = 0 then (f_X9_eastOf fu σ a0 x1 x2 x3).bind fun q19 => some (q19.1, q19.2) else (f_X9_southOf fu σ a0 x1 x2 x3).bind fun q18 => some (q18.1, q18.2)
set_option maxHeartbeats 4000000 in
set_option maxRecDepth 100000 in
theorem w_X9_asks {p : Program} {l : Launch} {e : Env} {R : Room} {s : State} {m : MethodId} {args : Array Value} {below : List Frame} {meth : Method} {c : Code} {κ : Ka_} {G : va_G} {cy : Nat → ClassId} {ad : Nat → Nat} {sz : Nat} {σ0 : St_} (fu : Nat) (C : CallFix p m c cX9_asks 5 s args wU_ RX9) (K : Kx_ κ G cy (va_A (wl_ cy ad σ0) sz) s) (hr : meth.sig.returnType = some .int) (hlk : meth.locks = false) (hR : 44 ≤ R.frames ∧ 980 ≤ R.locals) {q : Int32 × St_} : ∀ (σ : St_) (a0 : Nat) (x1 : Int32) (x2 : Int32) (x3 : Int32) (x4 : Int32), Ex_ σ0 σ → kd_ σ a0 = 9 → f_X9_asks fu σ a0 x1 x2 x3 x4 = some q → ∀ (H : Heap) (locs : List Loc) (ls : Array Slot), Ht_ G cy (va_A (wl_ cy ad σ0) sz) s ad σ H locs → lv_has ls 5 [(0, .ref (ad a0)), (1, .int x1), (2, .int x2), (3, .int x3), (4, .int x4)] → W p l e R s m args below meth c H locs 0 0 (MQ below (Qi_ G cy ad σ0 q.2 sz q.1) args s 0 0 (va_A (wl_ cy ad σ0) sz)) (F0 m 0 ls []) := by
  intro σ a0 x1 x2 x3 x4 hE hk_a0 hf H locs ls h hl
  have hf : (if (f_X9_isOne σ a0 x1) = 0 then some ((-1000 : Int32), σ) else if (f_X9_isCell x2) = 0 then some ((-1000 : Int32), σ) else if (f_X9_isWord x3) = 0 then some ((-1000 : Int32), σ) else if (f_X9_in x4.toInt64 (0 : Int64) (1 : Int64)) = 0 then some ((-1000 : Int32), σ) else if x4 = 0 then (f_X9_eastOf fu σ a0 x1 x2 x3).bind fun q19 => some (q19.1, q19.2) else (f_X9_southOf fu σ a0 x1 x2 x3).bind fun q18 => some (q18.1, q18.2)) = some q := hf
  refine lv_aload_n C.1 C.2.1 dX9_asks_0 rfl (lv_at hl 0 rfl) ?_
  refine lv_iload_n C.1 C.2.1 dX9_asks_1 rfl (lv_at hl 1 rfl) ?_
  refine x_az K h (x_V C K h [.int x1] (c_X9_isOne l κ G cy ad H.size σ a0 x1 hk_a0 rfl) mi_X9_isOne rfl im_yX9_isOne se_yX9_isOne ml_RX9_95 cl_9 hk_a0 ⟨rfl, rfl, Nat.le_trans (Nat.le_of_ble_eq_true rfl) hR.1, Nat.le_trans (Nat.le_of_ble_eq_true rfl) hR.2⟩ hl (Nat.le_of_ble_eq_true rfl) dX9_asks_2 ⟨Nat.zero_le _, Nat.zero_le _⟩ rfl) (fun H locs h hX hz6 => ?_)
  refine lv_if_eq (tgt := 33) C.1 C.2.1 dX9_asks_5 (by decide) (fun c7 => ?_) (fun c7 => ?_)
  · have hf := if_t hf c7
    refine lv_sipush (v := (-1000 : Int32)) C.1 C.2.1 dX9_asks_33 (by decide) ?_
    exact x_ri C hr hlk h hE (pf_1 (Option.some.inj hf)) (pf_2 (Option.some.inj hf)) dX9_asks_36
  · have hf := if_f hf c7
    refine lv_iload_n C.1 C.2.1 dX9_asks_8 rfl (lv_at hl 2 rfl) ?_
    refine x_az K h (x_S C K h [.int x2] (c_X9_isCell l κ G cy ad H.size σ x2 rfl) mi_X9_isCell rfl st_yX9_isCell ml_RX9_91 ⟨rfl, rfl, Nat.le_trans (Nat.le_of_ble_eq_true rfl) hR.1, Nat.le_trans (Nat.le_of_ble_eq_true rfl) hR.2⟩ hl (Nat.le_of_ble_eq_true rfl) dX9_asks_9 ⟨Nat.zero_le _, Nat.zero_le _⟩ rfl) (fun H locs h hX hz9 => ?_)
    refine lv_if_eq (tgt := 33) C.1 C.2.1 dX9_asks_12 (by decide) (fun c10 => ?_) (fun c10 => ?_)
    · have hf := if_t hf c10
      refine lv_sipush (v := (-1000 : Int32)) C.1 C.2.1 dX9_asks_33 (by decide) ?_
      exact x_ri C hr hlk h hE (pf_1 (Option.some.inj hf)) (pf_2 (Option.some.inj hf)) dX9_asks_36
    · have hf := if_f hf c10
      refine lv_iload_n C.1 C.2.1 dX9_asks_15 rfl (lv_at hl 3 rfl) ?_
      refine x_az K h (x_S C K h [.int x3] (c_X9_isWord l κ G cy ad H.size σ x3 rfl) mi_X9_isWord rfl st_yX9_isWord ml_RX9_361 ⟨rfl, rfl, Nat.le_trans (Nat.le_of_ble_eq_true rfl) hR.1, Nat.le_trans (Nat.le_of_ble_eq_true rfl) hR.2⟩ hl (Nat.le_of_ble_eq_true rfl) dX9_asks_16 ⟨Nat.zero_le _, Nat.zero_le _⟩ rfl) (fun H locs h hX hz12 => ?_)
      refine lv_if_eq (tgt := 33) C.1 C.2.1 dX9_asks_19 (by decide) (fun c13 => ?_) (fun c13 => ?_)
      · have hf := if_t hf c13
        refine lv_sipush (v := (-1000 : Int32)) C.1 C.2.1 dX9_asks_33 (by decide) ?_
        exact x_ri C hr hlk h hE (pf_1 (Option.some.inj hf)) (pf_2 (Option.some.inj hf)) dX9_asks_36
      · have hf := if_f hf c13
        refine lv_iload C.1 C.2.1 dX9_asks_22 (lv_at hl 4 rfl) ?_
        refine lv_i2l C.1 C.2.1 dX9_asks_24 rfl ?_
        refine lv_lconst (v := (0 : Int64)) C.1 C.2.1 dX9_asks_25 (by decide) ?_
        refine lv_lconst (v := (1 : Int64)) C.1 C.2.1 dX9_asks_26 (by decide) ?_
        refine x_az K h (x_S C K h [.long x4.toInt64, .long (0 : Int64), .long (1 : Int64)] (c_X9_in l κ G cy ad H.size σ x4.toInt64 (0 : Int64) (1 : Int64) rfl) mi_X9_in rfl st_yX9_in ml_RX9_83 ⟨rfl, rfl, Nat.le_trans (Nat.le_of_ble_eq_true rfl) hR.1, Nat.le_trans (Nat.le_of_ble_eq_true rfl) hR.2⟩ hl (Nat.le_of_ble_eq_true rfl) dX9_asks_27 ⟨Nat.zero_le _, Nat.zero_le _⟩ rfl) (fun H locs h hX hz15 => ?_)
        refine lv_if_ne (tgt := 37) C.1 C.2.1 dX9_asks_30 (by decide) (fun c16 => ?_) (fun c16 => ?_)
        · have hf := if_f hf c16
          refine lv_iload C.1 C.2.1 dX9_asks_37 (lv_at hl 4 rfl) ?_
          refine lv_if_ne (tgt := 52) C.1 C.2.1 dX9_asks_39 (by decide) (fun c17 => ?_) (fun c17 => ?_)
          · have hf := if_f hf c17
            refine lv_aload_n C.1 C.2.1 dX9_asks_52 rfl (lv_at hl 0 rfl) ?_
            refine lv_iload_n C.1 C.2.1 dX9_asks_53 rfl (lv_at hl 1 rfl) ?_
            refine lv_iload_n C.1 C.2.1 dX9_asks_54 rfl (lv_at hl 2 rfl) ?_
            refine lv_iload_n C.1 C.2.1 dX9_asks_55 rfl (lv_at hl 3 rfl) ?_
            obtain ⟨q18, hq_q18, hf⟩ := ob_ hf
            refine x_ai K h (x_V C K h [.int x1, .int x2, .int x3] (c_X9_southOf fu l κ G cy ad H.size σ a0 x1 x2 x3 hk_a0 hq_q18) mi_X9_southOf rfl im_yX9_southOf se_yX9_southOf ml_RX9_355 cl_9 hk_a0 ⟨rfl, rfl, Nat.le_trans (Nat.le_of_ble_eq_true rfl) hR.1, Nat.le_trans (Nat.le_of_ble_eq_true rfl) hR.2⟩ hl (Nat.le_of_ble_eq_true rfl) dX9_asks_56 ⟨Nat.zero_le _, Nat.zero_le _⟩ rfl) (fun H locs h hX => ?_)
            have hE := hE.trans hX
            have hk_a0 := hX.k hk_a0 (by decide)
            exact x_ri C hr hlk h hE (pf_1 (Option.some.inj hf)) (pf_2 (Option.some.inj hf)) dX9_asks_59
          · have hf := if_t hf c17
            refine lv_aload_n C.1 C.2.1 dX9_asks_42 rfl (lv_at hl 0 rfl) ?_
            refine lv_iload_n C.1 C.2.1 dX9_asks_43 rfl (lv_at hl 1 rfl) ?_
            refine lv_iload_n C.1 C.2.1 dX9_asks_44 rfl (lv_at hl 2 rfl) ?_
            refine lv_iload_n C.1 C.2.1 dX9_asks_45 rfl (lv_at hl 3 rfl) ?_
            obtain ⟨q19, hq_q19, hf⟩ := ob_ hf
            refine x_ai K h (x_V C K h [.int x1, .int x2, .int x3] (c_X9_eastOf fu l κ G cy ad H.size σ a0 x1 x2 x3 hk_a0 hq_q19) mi_X9_eastOf rfl im_yX9_eastOf se_yX9_eastOf ml_RX9_352 cl_9 hk_a0 ⟨rfl, rfl, Nat.le_trans (Nat.le_of_ble_eq_true rfl) hR.1, Nat.le_trans (Nat.le_of_ble_eq_true rfl) hR.2⟩ hl (Nat.le_of_ble_eq_true rfl) dX9_asks_46 ⟨Nat.zero_le _, Nat.zero_le _⟩ rfl) (fun H locs h hX => ?_)
            have hE := hE.trans hX
            have hk_a0 := hX.k hk_a0 (by decide)
            refine lv_goto (tgt := 59) C.1 C.2.1 dX9_asks_49 (by decide) ?_
            exact x_ri C hr hlk h hE (pf_1 (Option.some.inj hf)) (pf_2 (Option.some.inj hf)) dX9_asks_59
        · have hf := if_t hf c16
          refine lv_sipush (v := (-1000 : Int32)) C.1 C.2.1 dX9_asks_33 (by decide) ?_
          exact x_ri C hr hlk h hE (pf_1 (Option.some.inj hf)) (pf_2 (Option.some.inj hf)) dX9_asks_36
theorem c_X9_asks (fu : Nat) (l : Launch) (κ : Ka_) (G : va_G) (cy : Nat → ClassId) (ad : Nat → Nat) (sz : Nat) (σ : St_) (a0 : Nat) (x1 : Int32) (x2 : Int32) (x3 : Int32) (x4 : Int32) (hk_a0 : kd_ σ a0 = 9) {q : Int32 × St_} (hf : f_X9_asks fu σ a0 x1 x2 x3 x4 = some q) : Met l yX9_asks (Cond.code yX9_asks cX9_asks 5 (some .int) :: wU_) { frames := 44, cells := 0, slots := 0, locals := 980 } (va_Pc [.ref (ad a0), .int x1, .int x2, .int x3, .int x4] (Pr_ κ G cy ad σ sz)) (Qi_ G cy ad σ q.2 sz q.1) 0 0 (va_A (wl_ cy ad σ) sz) :=
  x_met (by decide) (fun p e R s m below meth c ls hR C hr hlk hin _ K h hl => w_X9_asks fu C K hr hlk ⟨hR.1, hR.2.1⟩ σ a0 x1 x2 x3 x4 Ex_.rf hk_a0 hf s.heap [] ls h hl) (Nat.le_of_ble_eq_true rfl)
-- X9_flies1
theorem mi_X9_flies1 : Mi_ yX9_flies1 cX9_flies1 4 (some .int) 2 := ⟨co_yX9_flies1, in_RX9, by decide, by decide, by decide +kernel⟩
def f_X9_flies1 (fu : Nat) (σ : St_) (a0 : Nat) (x1 : Int32) (x2 : Int32) : Option (Int32 × St_) := (dr_ σ 10 (sr_ σ a0 10)).bind fun b3 => (ix_ (((3 : Int32) * x1) + (1 : Int32)) (ln_ σ b3)).bind fun j4 => (f_X9_goesTo fu σ a0 x1 (si_ σ b3 j4) x2).bind fun q5 => (dr_ q5.2 10 (sr_ q5.2 a0 10)).bind fun b6 => (ix_ (((3 : Int32) * x1) + (1 : Int32)) (ln_ q5.2 b6)).bind fun j7 => if q5.1 = (si_ q5.2 b6 j7) then some ((0 : Int32), q5.2) else (ix_ (((3 : Int32) * x1) + (1 : Int32)) (ln_ q5.2 b6)).bind fun j9 => (ix_ (((3 : Int32) * x1) + (2 : Int32)) (ln_ (ui_ q5.2 b6 j9 q5.1) b6)).bind fun j10 => some ((1 : Int32), ui_ (ui_ q5.2 b6 j9 q5.1) b6 j10 (1 : Int32))
set_option maxHeartbeats 4000000 in
set_option maxRecDepth 100000 in
theorem w_X9_flies1 {p : Program} {l : Launch} {e : Env} {R : Room} {s : State} {m : MethodId} {args : Array Value} {below : List Frame} {meth : Method} {c : Code} {κ : Ka_} {G : va_G} {cy : Nat → ClassId} {ad : Nat → Nat} {sz : Nat} {σ0 : St_} (fu : Nat) (C : CallFix p m c cX9_flies1 4 s args wU_ RX9) (K : Kx_ κ G cy (va_A (wl_ cy ad σ0) sz) s) (hr : meth.sig.returnType = some .int) (hlk : meth.locks = false) (hR : 45 ≤ R.frames ∧ 1006 ≤ R.locals) {q : Int32 × St_} : ∀ (σ : St_) (a0 : Nat) (x1 : Int32) (x2 : Int32), Ex_ σ0 σ → kd_ σ a0 = 9 → f_X9_flies1 fu σ a0 x1 x2 = some q → ∀ (H : Heap) (locs : List Loc) (ls : Array Slot), Ht_ G cy (va_A (wl_ cy ad σ0) sz) s ad σ H locs → lv_has ls 4 [(0, .ref (ad a0)), (1, .int x1), (2, .int x2)] → W p l e R s m args below meth c H locs 0 0 (MQ below (Qi_ G cy ad σ0 q.2 sz q.1) args s 0 0 (va_A (wl_ cy ad σ0) sz)) (F0 m 0 ls []) := by
  intro σ a0 x1 x2 hE hk_a0 hf H locs ls h hl
  have hf : ((dr_ σ 10 (sr_ σ a0 10)).bind fun b3 => (ix_ (((3 : Int32) * x1) + (1 : Int32)) (ln_ σ b3)).bind fun j4 => (f_X9_goesTo fu σ a0 x1 (si_ σ b3 j4) x2).bind fun q5 => (dr_ q5.2 10 (sr_ q5.2 a0 10)).bind fun b6 => (ix_ (((3 : Int32) * x1) + (1 : Int32)) (ln_ q5.2 b6)).bind fun j7 => if q5.1 = (si_ q5.2 b6 j7) then some ((0 : Int32), q5.2) else (ix_ (((3 : Int32) * x1) + (1 : Int32)) (ln_ q5.2 b6)).bind fun j9 => (ix_ (((3 : Int32) * x1) + (2 : Int32)) (ln_ (ui_ q5.2 b6 j9 q5.1) b6)).bind fun j10 => some ((1 : Int32), ui_ (ui_ q5.2 b6 j9 q5.1) b6 j10 (1 : Int32))) = some q := hf
  refine lv_aload_n C.1 C.2.1 dX9_flies1_0 rfl (lv_at hl 0 rfl) ?_
  refine lv_iload_n C.1 C.2.1 dX9_flies1_1 rfl (lv_at hl 1 rfl) ?_
  refine lv_aload_n C.1 C.2.1 dX9_flies1_2 rfl (lv_at hl 0 rfl) ?_
  obtain ⟨b3, hb_b3, hf⟩ := ob_ hf
  obtain ⟨hq_b3, hk_b3⟩ := dr_in hb_b3
  refine x_get (v := .ref (ad b3)) C K h cl_9 hk_a0 10 (by decide) fl_RX9_29 (hv_r (o := sr_ σ a0 10) rfl hq_b3) dX9_flies1_3 ?_
  refine lv_iconst (v := (3 : Int32)) C.1 C.2.1 dX9_flies1_6 (by decide) ?_
  refine lv_iload_n C.1 C.2.1 dX9_flies1_7 rfl (lv_at hl 1 rfl) ?_
  refine lv_imul C.1 C.2.1 dX9_flies1_8 ?_
  refine lv_iconst (v := (1 : Int32)) C.1 C.2.1 dX9_flies1_9 (by decide) ?_
  refine lv_iadd C.1 C.2.1 dX9_flies1_10 ?_
  obtain ⟨j4, hj_j4, hf⟩ := ob_ hf
  refine x_iald C K h hk_b3 hj_j4 dX9_flies1_11 ?_
  refine lv_iload_n C.1 C.2.1 dX9_flies1_12 rfl (lv_at hl 2 rfl) ?_
  obtain ⟨q5, hq_q5, hf⟩ := ob_ hf
  refine x_ai K h (x_V C K h [.int x1, .int (si_ σ b3 j4), .int x2] (c_X9_goesTo fu l κ G cy ad H.size σ a0 x1 (si_ σ b3 j4) x2 hk_a0 hq_q5) mi_X9_goesTo rfl im_yX9_goesTo se_yX9_goesTo ml_RX9_132 cl_9 hk_a0 ⟨rfl, rfl, Nat.le_trans (Nat.le_of_ble_eq_true rfl) hR.1, Nat.le_trans (Nat.le_of_ble_eq_true rfl) hR.2⟩ hl (Nat.le_of_ble_eq_true rfl) dX9_flies1_13 ⟨Nat.zero_le _, Nat.zero_le _⟩ rfl) (fun H locs h hX => ?_)
  have hE := hE.trans hX
  have hk_a0 := hX.k hk_a0 (by decide)
  refine lv_istore_n (i := 3) (lv' := [(3, .int q5.1), (0, .ref (ad a0)), (1, .int x1), (2, .int x2)]) C.1 C.2.1 dX9_flies1_16 rfl hl (by decide) rfl (fun ls hl => ?_)
  refine lv_iload_n C.1 C.2.1 dX9_flies1_17 rfl (lv_at hl 0 rfl) ?_
  refine lv_aload_n C.1 C.2.1 dX9_flies1_18 rfl (lv_at hl 1 rfl) ?_
  obtain ⟨b6, hb_b6, hf⟩ := ob_ hf
  obtain ⟨hq_b6, hk_b6⟩ := dr_in hb_b6
  refine x_get (v := .ref (ad b6)) C K h cl_9 hk_a0 10 (by decide) fl_RX9_29 (hv_r (o := sr_ q5.2 a0 10) rfl hq_b6) dX9_flies1_19 ?_
  refine lv_iconst (v := (3 : Int32)) C.1 C.2.1 dX9_flies1_22 (by decide) ?_
  refine lv_iload_n C.1 C.2.1 dX9_flies1_23 rfl (lv_at hl 2 rfl) ?_
  refine lv_imul C.1 C.2.1 dX9_flies1_24 ?_
  refine lv_iconst (v := (1 : Int32)) C.1 C.2.1 dX9_flies1_25 (by decide) ?_
  refine lv_iadd C.1 C.2.1 dX9_flies1_26 ?_
  obtain ⟨j7, hj_j7, hf⟩ := ob_ hf
  refine x_iald C K h hk_b6 hj_j7 dX9_flies1_27 ?_
  refine lv_icmp_ne (tgt := 33) C.1 C.2.1 dX9_flies1_28 (by decide) (fun c8 => ?_) (fun c8 => ?_)
  · have hf := if_f hf c8
    refine lv_aload_n C.1 C.2.1 dX9_flies1_33 rfl (lv_at hl 1 rfl) ?_
    refine x_get (v := .ref (ad b6)) C K h cl_9 hk_a0 10 (by decide) fl_RX9_29 (hv_r (o := sr_ q5.2 a0 10) rfl hq_b6) dX9_flies1_34 ?_
    refine lv_iconst (v := (3 : Int32)) C.1 C.2.1 dX9_flies1_37 (by decide) ?_
    refine lv_iload_n C.1 C.2.1 dX9_flies1_38 rfl (lv_at hl 2 rfl) ?_
    refine lv_imul C.1 C.2.1 dX9_flies1_39 ?_
    refine lv_iconst (v := (1 : Int32)) C.1 C.2.1 dX9_flies1_40 (by decide) ?_
    refine lv_iadd C.1 C.2.1 dX9_flies1_41 ?_
    refine lv_iload_n C.1 C.2.1 dX9_flies1_42 rfl (lv_at hl 0 rfl) ?_
    obtain ⟨j9, hj_j9, hf⟩ := ob_ hf
    refine x_iast C K h hk_b6 hj_j9 dX9_flies1_43 (fun H locs h => ?_)
    have hE := hE.up (up_i q5.2 b6 j9 q5.1)
    refine lv_aload_n C.1 C.2.1 dX9_flies1_44 rfl (lv_at hl 1 rfl) ?_
    refine x_get (v := .ref (ad b6)) C K h cl_9 hk_a0 10 (by decide) fl_RX9_29 (hv_r (o := sr_ (ui_ q5.2 b6 j9 q5.1) a0 10) rfl hq_b6) dX9_flies1_45 ?_
    refine lv_iconst (v := (3 : Int32)) C.1 C.2.1 dX9_flies1_48 (by decide) ?_
    refine lv_iload_n C.1 C.2.1 dX9_flies1_49 rfl (lv_at hl 2 rfl) ?_
    refine lv_imul C.1 C.2.1 dX9_flies1_50 ?_
    refine lv_iconst (v := (2 : Int32)) C.1 C.2.1 dX9_flies1_51 (by decide) ?_
    refine lv_iadd C.1 C.2.1 dX9_flies1_52 ?_
    refine lv_iconst (v := (1 : Int32)) C.1 C.2.1 dX9_flies1_53 (by decide) ?_
    obtain ⟨j10, hj_j10, hf⟩ := ob_ hf
    refine x_iast C K h hk_b6 hj_j10 dX9_flies1_54 (fun H locs h => ?_)
    have hE := hE.up (up_i (ui_ q5.2 b6 j9 q5.1) b6 j10 (1 : Int32))
    refine lv_iconst (v := (1 : Int32)) C.1 C.2.1 dX9_flies1_55 (by decide) ?_
    exact x_ri C hr hlk h hE (pf_1 (Option.some.inj hf)) (pf_2 (Option.some.inj hf)) dX9_flies1_56
  · have hf := if_t hf c8
    refine lv_iconst (v := (0 : Int32)) C.1 C.2.1 dX9_flies1_31 (by decide) ?_
    exact x_ri C hr hlk h hE (pf_1 (Option.some.inj hf)) (pf_2 (Option.some.inj hf)) dX9_flies1_32
theorem c_X9_flies1 (fu : Nat) (l : Launch) (κ : Ka_) (G : va_G) (cy : Nat → ClassId) (ad : Nat → Nat) (sz : Nat) (σ : St_) (a0 : Nat) (x1 : Int32) (x2 : Int32) (hk_a0 : kd_ σ a0 = 9) {q : Int32 × St_} (hf : f_X9_flies1 fu σ a0 x1 x2 = some q) : Met l yX9_flies1 (Cond.code yX9_flies1 cX9_flies1 4 (some .int) :: wU_) { frames := 45, cells := 0, slots := 0, locals := 1006 } (va_Pc [.ref (ad a0), .int x1, .int x2] (Pr_ κ G cy ad σ sz)) (Qi_ G cy ad σ q.2 sz q.1) 0 0 (va_A (wl_ cy ad σ) sz) :=
  x_met (by decide) (fun p e R s m below meth c ls hR C hr hlk hin _ K h hl => w_X9_flies1 fu C K hr hlk ⟨hR.1, hR.2.1⟩ σ a0 x1 x2 Ex_.rf hk_a0 hf s.heap [] ls h hl) (Nat.le_of_ble_eq_true rfl)
-- X9_say
theorem mi_X9_say : Mi_ yX9_say cX9_say 5 (some .int) 2 := ⟨co_yX9_say, in_RX9, by decide, by decide, by decide +kernel⟩
def f_X9_say_28 (fu : Nat) : Nat → St_ → Nat → Int32 → Int32 → Int32 → Int32 → Option (Int32 × St_)
  | 0 => fun _ _ _ _ _ _ => none
  | n + 1 => fun σ  v0  v1  v2  v3  v4 => if (si_ σ v0 11) ≤ v4 then some (v3, σ) else if v1 = (-1 : Int32) then (f_X9_flies1 fu σ v0 v4 v2).bind fun q3 => (f_X9_say_28 fu n) q3.2 v0 v1 v2 (v3 + q3.1) (v4 + (1 : Int32)) else if v1 = v4 then (f_X9_flies1 fu σ v0 v4 v2).bind fun q5 => (f_X9_say_28 fu n) q5.2 v0 v1 v2 (v3 + q5.1) (v4 + (1 : Int32)) else (f_X9_say_28 fu n) σ v0 v1 v2 (v3 + (0 : Int32)) (v4 + (1 : Int32))
set_option maxHeartbeats 4000000 in
set_option maxRecDepth 100000 in
theorem w_X9_say_28 {p : Program} {l : Launch} {e : Env} {R : Room} {s : State} {m : MethodId} {args : Array Value} {below : List Frame} {meth : Method} {c : Code} {κ : Ka_} {G : va_G} {cy : Nat → ClassId} {ad : Nat → Nat} {sz : Nat} {σ0 : St_} (fu : Nat) (C : CallFix p m c cX9_say 5 s args wU_ RX9) (K : Kx_ κ G cy (va_A (wl_ cy ad σ0) sz) s) (hr : meth.sig.returnType = some .int) (hlk : meth.locks = false) (hR : 46 ≤ R.frames ∧ 1029 ≤ R.locals) {q : Int32 × St_} : ∀ n : Nat, ∀ (σ : St_) (v0 : Nat) (v1 : Int32) (v2 : Int32) (v3 : Int32) (v4 : Int32), Ex_ σ0 σ → kd_ σ v0 = 9 → f_X9_say_28 fu n σ v0 v1 v2 v3 v4 = some q → ∀ (H : Heap) (locs : List Loc) (ls : Array Slot), Ht_ G cy (va_A (wl_ cy ad σ0) sz) s ad σ H locs → lv_has ls 5 [(0, .ref (ad v0)), (1, .int v1), (2, .int v2), (3, .int v3), (4, .int v4)] → W p l e R s m args below meth c H locs 0 0 (MQ below (Qi_ G cy ad σ0 q.2 sz q.1) args s 0 0 (va_A (wl_ cy ad σ0) sz)) (F0 m 28 ls []) := by
  intro n
  induction n with
  | zero =>
    intro σ v0 v1 v2 v3 v4 hE hk_v0 hf H locs ls h hl
    cases hf
  | succ n ih =>
    intro σ v0 v1 v2 v3 v4 hE hk_v0 hf H locs ls h hl
    have hf : (if (si_ σ v0 11) ≤ v4 then some (v3, σ) else if v1 = (-1 : Int32) then (f_X9_flies1 fu σ v0 v4 v2).bind fun q3 => (f_X9_say_28 fu n) q3.2 v0 v1 v2 (v3 + q3.1) (v4 + (1 : Int32)) else if v1 = v4 then (f_X9_flies1 fu σ v0 v4 v2).bind fun q5 => (f_X9_say_28 fu n) q5.2 v0 v1 v2 (v3 + q5.1) (v4 + (1 : Int32)) else (f_X9_say_28 fu n) σ v0 v1 v2 (v3 + (0 : Int32)) (v4 + (1 : Int32))) = some q := hf
    refine lv_iload C.1 C.2.1 dX9_say_28 (lv_at hl 4 rfl) ?_
    refine lv_aload_n C.1 C.2.1 dX9_say_30 rfl (lv_at hl 0 rfl) ?_
    refine x_get (v := .int (si_ σ v0 11)) C K h cl_9 hk_v0 11 (by decide) fl_RX9_80 rfl dX9_say_31 ?_
    refine lv_icmp_ge (tgt := 68) C.1 C.2.1 dX9_say_34 (by decide) (fun c1 => ?_) (fun c1 => ?_)
    · have hf := if_t hf c1
      refine lv_iload_n C.1 C.2.1 dX9_say_68 rfl (lv_at hl 3 rfl) ?_
      exact x_ri C hr hlk h hE (pf_1 (Option.some.inj hf)) (pf_2 (Option.some.inj hf)) dX9_say_69
    · have hf := if_f hf c1
      refine lv_iload_n C.1 C.2.1 dX9_say_37 rfl (lv_at hl 3 rfl) ?_
      refine lv_iload_n C.1 C.2.1 dX9_say_38 rfl (lv_at hl 1 rfl) ?_
      refine lv_iconst (v := (-1 : Int32)) C.1 C.2.1 dX9_say_39 (by decide) ?_
      refine lv_icmp_eq (tgt := 49) C.1 C.2.1 dX9_say_40 (by decide) (fun c2 => ?_) (fun c2 => ?_)
      · have hf := if_t hf c2
        refine lv_aload_n C.1 C.2.1 dX9_say_49 rfl (lv_at hl 0 rfl) ?_
        refine lv_iload C.1 C.2.1 dX9_say_50 (lv_at hl 4 rfl) ?_
        refine lv_iload_n C.1 C.2.1 dX9_say_52 rfl (lv_at hl 2 rfl) ?_
        obtain ⟨q3, hq_q3, hf⟩ := ob_ hf
        refine x_ai K h (x_V C K h [.int v4, .int v2] (c_X9_flies1 fu l κ G cy ad H.size σ v0 v4 v2 hk_v0 hq_q3) mi_X9_flies1 rfl im_yX9_flies1 se_yX9_flies1 ml_RX9_363 cl_9 hk_v0 ⟨rfl, rfl, Nat.le_trans (Nat.le_of_ble_eq_true rfl) hR.1, Nat.le_trans (Nat.le_of_ble_eq_true rfl) hR.2⟩ hl (Nat.le_of_ble_eq_true rfl) dX9_say_53 ⟨Nat.zero_le _, Nat.zero_le _⟩ rfl) (fun H locs h hX => ?_)
        have hE := hE.trans hX
        have hk_v0 := hX.k hk_v0 (by decide)
        refine lv_goto (tgt := 60) C.1 C.2.1 dX9_say_56 (by decide) ?_
        refine lv_iadd C.1 C.2.1 dX9_say_60 ?_
        refine lv_istore_n (i := 3) (lv' := [(3, .int (v3 + q3.1)), (0, .ref (ad v0)), (1, .int v1), (2, .int v2), (4, .int v4)]) C.1 C.2.1 dX9_say_61 rfl hl (by decide) rfl (fun ls hl => ?_)
        refine lv_iinc (v := v4 + (1 : Int32)) (lv' := [(4, .int (v4 + (1 : Int32))), (3, .int (v3 + q3.1)), (0, .ref (ad v0)), (1, .int v1), (2, .int v2)]) C.1 C.2.1 dX9_say_62 hl (k := 4) rfl rfl (by decide) rfl (fun ls hl => ?_)
        refine lv_goto (tgt := 28) C.1 C.2.1 dX9_say_65 (by decide) ?_
        exact ih q3.2 v0 v1 v2 (v3 + q3.1) (v4 + (1 : Int32)) hE hk_v0 hf _ _ _ h (lv_sub hl [2, 3, 4, 1, 0] rfl)
      · have hf := if_f hf c2
        refine lv_iload_n C.1 C.2.1 dX9_say_43 rfl (lv_at hl 1 rfl) ?_
        refine lv_iload C.1 C.2.1 dX9_say_44 (lv_at hl 4 rfl) ?_
        refine lv_icmp_ne (tgt := 59) C.1 C.2.1 dX9_say_46 (by decide) (fun c4 => ?_) (fun c4 => ?_)
        · have hf := if_f hf c4
          refine lv_iconst (v := (0 : Int32)) C.1 C.2.1 dX9_say_59 (by decide) ?_
          refine lv_iadd C.1 C.2.1 dX9_say_60 ?_
          refine lv_istore_n (i := 3) (lv' := [(3, .int (v3 + (0 : Int32))), (0, .ref (ad v0)), (1, .int v1), (2, .int v2), (4, .int v4)]) C.1 C.2.1 dX9_say_61 rfl hl (by decide) rfl (fun ls hl => ?_)
          refine lv_iinc (v := v4 + (1 : Int32)) (lv' := [(4, .int (v4 + (1 : Int32))), (3, .int (v3 + (0 : Int32))), (0, .ref (ad v0)), (1, .int v1), (2, .int v2)]) C.1 C.2.1 dX9_say_62 hl (k := 4) rfl rfl (by decide) rfl (fun ls hl => ?_)
          refine lv_goto (tgt := 28) C.1 C.2.1 dX9_say_65 (by decide) ?_
          exact ih σ v0 v1 v2 (v3 + (0 : Int32)) (v4 + (1 : Int32)) hE hk_v0 hf _ _ _ h (lv_sub hl [2, 3, 4, 1, 0] rfl)
        · have hf := if_t hf c4
          refine lv_aload_n C.1 C.2.1 dX9_say_49 rfl (lv_at hl 0 rfl) ?_
          refine lv_iload C.1 C.2.1 dX9_say_50 (lv_at hl 4 rfl) ?_
          refine lv_iload_n C.1 C.2.1 dX9_say_52 rfl (lv_at hl 2 rfl) ?_
          obtain ⟨q5, hq_q5, hf⟩ := ob_ hf
          refine x_ai K h (x_V C K h [.int v4, .int v2] (c_X9_flies1 fu l κ G cy ad H.size σ v0 v4 v2 hk_v0 hq_q5) mi_X9_flies1 rfl im_yX9_flies1 se_yX9_flies1 ml_RX9_363 cl_9 hk_v0 ⟨rfl, rfl, Nat.le_trans (Nat.le_of_ble_eq_true rfl) hR.1, Nat.le_trans (Nat.le_of_ble_eq_true rfl) hR.2⟩ hl (Nat.le_of_ble_eq_true rfl) dX9_say_53 ⟨Nat.zero_le _, Nat.zero_le _⟩ rfl) (fun H locs h hX => ?_)
          have hE := hE.trans hX
          have hk_v0 := hX.k hk_v0 (by decide)
          refine lv_goto (tgt := 60) C.1 C.2.1 dX9_say_56 (by decide) ?_
          refine lv_iadd C.1 C.2.1 dX9_say_60 ?_
          refine lv_istore_n (i := 3) (lv' := [(3, .int (v3 + q5.1)), (0, .ref (ad v0)), (1, .int v1), (2, .int v2), (4, .int v4)]) C.1 C.2.1 dX9_say_61 rfl hl (by decide) rfl (fun ls hl => ?_)
          refine lv_iinc (v := v4 + (1 : Int32)) (lv' := [(4, .int (v4 + (1 : Int32))), (3, .int (v3 + q5.1)), (0, .ref (ad v0)), (1, .int v1), (2, .int v2)]) C.1 C.2.1 dX9_say_62 hl (k := 4) rfl rfl (by decide) rfl (fun ls hl => ?_)
          refine lv_goto (tgt := 28) C.1 C.2.1 dX9_say_65 (by decide) ?_
          exact ih q5.2 v0 v1 v2 (v3 + q5.1) (v4 + (1 : Int32)) hE hk_v0 hf _ _ _ h (lv_sub hl [2, 3, 4, 1, 0] rfl)
def f_X9_say_13 (fu : Nat) (σ : St_) (v0 : Nat) (v1 : Int32) (v2 : Int32) : Option (Int32 × St_) := if (f_X9_isWord v2) = 0 then some ((-2 : Int32), σ) else f_X9_say_28 fu fu σ v0 v1 v2 (0 : Int32) (0 : Int32)
set_option maxHeartbeats 4000000 in
set_option maxRecDepth 100000 in
theorem w_X9_say_13 {p : Program} {l : Launch} {e : Env} {R : Room} {s : State} {m : MethodId} {args : Array Value} {below : List Frame} {meth : Method} {c : Code} {κ : Ka_} {G : va_G} {cy : Nat → ClassId} {ad : Nat → Nat} {sz : Nat} {σ0 : St_} (fu : Nat) (C : CallFix p m c cX9_say 5 s args wU_ RX9) (K : Kx_ κ G cy (va_A (wl_ cy ad σ0) sz) s) (hr : meth.sig.returnType = some .int) (hlk : meth.locks = false) (hR : 46 ≤ R.frames ∧ 1029 ≤ R.locals) {q : Int32 × St_} : ∀ (σ : St_) (v0 : Nat) (v1 : Int32) (v2 : Int32), Ex_ σ0 σ → kd_ σ v0 = 9 → f_X9_say_13 fu σ v0 v1 v2 = some q → ∀ (H : Heap) (locs : List Loc) (ls : Array Slot), Ht_ G cy (va_A (wl_ cy ad σ0) sz) s ad σ H locs → lv_has ls 5 [(0, .ref (ad v0)), (1, .int v1), (2, .int v2)] → W p l e R s m args below meth c H locs 0 0 (MQ below (Qi_ G cy ad σ0 q.2 sz q.1) args s 0 0 (va_A (wl_ cy ad σ0) sz)) (F0 m 13 ls []) := by
  intro σ v0 v1 v2 hE hk_v0 hf H locs ls h hl
  have hf : (if (f_X9_isWord v2) = 0 then some ((-2 : Int32), σ) else f_X9_say_28 fu fu σ v0 v1 v2 (0 : Int32) (0 : Int32)) = some q := hf
  refine lv_iload_n C.1 C.2.1 dX9_say_13 rfl (lv_at hl 2 rfl) ?_
  refine x_az K h (x_S C K h [.int v2] (c_X9_isWord l κ G cy ad H.size σ v2 rfl) mi_X9_isWord rfl st_yX9_isWord ml_RX9_361 ⟨rfl, rfl, Nat.le_trans (Nat.le_of_ble_eq_true rfl) hR.1, Nat.le_trans (Nat.le_of_ble_eq_true rfl) hR.2⟩ hl (Nat.le_of_ble_eq_true rfl) dX9_say_14 ⟨Nat.zero_le _, Nat.zero_le _⟩ rfl) (fun H locs h hX hz2 => ?_)
  refine lv_if_ne (tgt := 23) C.1 C.2.1 dX9_say_17 (by decide) (fun c3 => ?_) (fun c3 => ?_)
  · have hf := if_f hf c3
    refine lv_iconst (v := (0 : Int32)) C.1 C.2.1 dX9_say_23 (by decide) ?_
    refine lv_istore_n (i := 3) (lv' := [(3, .int (0 : Int32)), (0, .ref (ad v0)), (1, .int v1), (2, .int v2)]) C.1 C.2.1 dX9_say_24 rfl hl (by decide) rfl (fun ls hl => ?_)
    refine lv_iconst (v := (0 : Int32)) C.1 C.2.1 dX9_say_25 (by decide) ?_
    refine lv_istore (i := 4) (lv' := [(4, .int (0 : Int32)), (3, .int (0 : Int32)), (0, .ref (ad v0)), (1, .int v1), (2, .int v2)]) C.1 C.2.1 dX9_say_26 hl (by decide) rfl (fun ls hl => ?_)
    exact w_X9_say_28 fu C K hr hlk hR fu σ v0 v1 v2 (0 : Int32) (0 : Int32) hE hk_v0 hf _ _ _ h (lv_sub hl [2, 3, 4, 1, 0] rfl)
  · have hf := if_t hf c3
    refine lv_bipush (v := (-2 : Int32)) C.1 C.2.1 dX9_say_20 (by decide) ?_
    exact x_ri C hr hlk h hE (pf_1 (Option.some.inj hf)) (pf_2 (Option.some.inj hf)) dX9_say_22
def f_X9_say (fu : Nat) (σ : St_) (a0 : Nat) (x1 : Int32) (x2 : Int32) : Option (Int32 × St_) := if x1 = (-1 : Int32) then f_X9_say_13 fu σ a0 x1 x2 else if (f_X9_isOne σ a0 x1) = 0 then some ((-2 : Int32), σ) else f_X9_say_13 fu σ a0 x1 x2
set_option maxHeartbeats 4000000 in
set_option maxRecDepth 100000 in
theorem w_X9_say {p : Program} {l : Launch} {e : Env} {R : Room} {s : State} {m : MethodId} {args : Array Value} {below : List Frame} {meth : Method} {c : Code} {κ : Ka_} {G : va_G} {cy : Nat → ClassId} {ad : Nat → Nat} {sz : Nat} {σ0 : St_} (fu : Nat) (C : CallFix p m c cX9_say 5 s args wU_ RX9) (K : Kx_ κ G cy (va_A (wl_ cy ad σ0) sz) s) (hr : meth.sig.returnType = some .int) (hlk : meth.locks = false) (hR : 46 ≤ R.frames ∧ 1029 ≤ R.locals) {q : Int32 × St_} : ∀ (σ : St_) (a0 : Nat) (x1 : Int32) (x2 : Int32), Ex_ σ0 σ → kd_ σ a0 = 9 → f_X9_say fu σ a0 x1 x2 = some q → ∀ (H : Heap) (locs : List Loc) (ls : Array Slot), Ht_ G cy (va_A (wl_ cy ad σ0) sz) s ad σ H locs → lv_has ls 5 [(0, .ref (ad a0)), (1, .int x1), (2, .int x2)] → W p l e R s m args below meth c H locs 0 0 (MQ below (Qi_ G cy ad σ0 q.2 sz q.1) args s 0 0 (va_A (wl_ cy ad σ0) sz)) (F0 m 0 ls []) := by
  intro σ a0 x1 x2 hE hk_a0 hf H locs ls h hl
  have hf : (if x1 = (-1 : Int32) then f_X9_say_13 fu σ a0 x1 x2 else if (f_X9_isOne σ a0 x1) = 0 then some ((-2 : Int32), σ) else f_X9_say_13 fu σ a0 x1 x2) = some q := hf
  refine lv_iload_n C.1 C.2.1 dX9_say_0 rfl (lv_at hl 1 rfl) ?_
  refine lv_iconst (v := (-1 : Int32)) C.1 C.2.1 dX9_say_1 (by decide) ?_
  refine lv_icmp_eq (tgt := 13) C.1 C.2.1 dX9_say_2 (by decide) (fun c3 => ?_) (fun c3 => ?_)
  · have hf := if_t hf c3
    exact w_X9_say_13 fu C K hr hlk hR σ a0 x1 x2 hE hk_a0 hf _ _ _ h (lv_sub hl [0, 1, 2] rfl)
  · have hf := if_f hf c3
    refine lv_aload_n C.1 C.2.1 dX9_say_5 rfl (lv_at hl 0 rfl) ?_
    refine lv_iload_n C.1 C.2.1 dX9_say_6 rfl (lv_at hl 1 rfl) ?_
    refine x_az K h (x_V C K h [.int x1] (c_X9_isOne l κ G cy ad H.size σ a0 x1 hk_a0 rfl) mi_X9_isOne rfl im_yX9_isOne se_yX9_isOne ml_RX9_95 cl_9 hk_a0 ⟨rfl, rfl, Nat.le_trans (Nat.le_of_ble_eq_true rfl) hR.1, Nat.le_trans (Nat.le_of_ble_eq_true rfl) hR.2⟩ hl (Nat.le_of_ble_eq_true rfl) dX9_say_7 ⟨Nat.zero_le _, Nat.zero_le _⟩ rfl) (fun H locs h hX hz5 => ?_)
    refine lv_if_eq (tgt := 20) C.1 C.2.1 dX9_say_10 (by decide) (fun c6 => ?_) (fun c6 => ?_)
    · have hf := if_t hf c6
      refine lv_bipush (v := (-2 : Int32)) C.1 C.2.1 dX9_say_20 (by decide) ?_
      exact x_ri C hr hlk h hE (pf_1 (Option.some.inj hf)) (pf_2 (Option.some.inj hf)) dX9_say_22
    · have hf := if_f hf c6
      exact w_X9_say_13 fu C K hr hlk hR σ a0 x1 x2 hE hk_a0 hf _ _ _ h (lv_sub hl [0, 1, 2] rfl)
theorem c_X9_say (fu : Nat) (l : Launch) (κ : Ka_) (G : va_G) (cy : Nat → ClassId) (ad : Nat → Nat) (sz : Nat) (σ : St_) (a0 : Nat) (x1 : Int32) (x2 : Int32) (hk_a0 : kd_ σ a0 = 9) {q : Int32 × St_} (hf : f_X9_say fu σ a0 x1 x2 = some q) : Met l yX9_say (Cond.code yX9_say cX9_say 5 (some .int) :: wU_) { frames := 46, cells := 0, slots := 0, locals := 1029 } (va_Pc [.ref (ad a0), .int x1, .int x2] (Pr_ κ G cy ad σ sz)) (Qi_ G cy ad σ q.2 sz q.1) 0 0 (va_A (wl_ cy ad σ) sz) :=
  x_met (by decide) (fun p e R s m below meth c ls hR C hr hlk hin _ K h hl => w_X9_say fu C K hr hlk ⟨hR.1, hR.2.1⟩ σ a0 x1 x2 Ex_.rf hk_a0 hf s.heap [] ls h hl) (Nat.le_of_ble_eq_true rfl)
-- X9_isSheet
theorem mi_X9_isSheet : Mi_ yX9_isSheet cX9_isSheet 1 (some .boolean) 1 := ⟨co_yX9_isSheet, in_RX9, by decide, by decide, by decide +kernel⟩
def f_X9_isSheet (x1 : Int32) : Int32 := f_X9_in x1.toInt64 (0 : Int64) (3 : Int64)
set_option maxHeartbeats 4000000 in
set_option maxRecDepth 100000 in
theorem w_X9_isSheet {p : Program} {l : Launch} {e : Env} {R : Room} {s : State} {m : MethodId} {args : Array Value} {below : List Frame} {meth : Method} {c : Code} {κ : Ka_} {G : va_G} {cy : Nat → ClassId} {ad : Nat → Nat} {sz : Nat} {σ : St_} (C : CallFix p m c cX9_isSheet 1 s args wU_ RX9) (K : Kx_ κ G cy (va_A (wl_ cy ad σ) sz) s) (hr : meth.sig.returnType = some .boolean) (hlk : meth.locks = false) (hR : 1 ≤ R.frames ∧ 25 ≤ R.locals) {q : Int32} : ∀ (x1 : Int32), f_X9_isSheet x1 = q → ∀ (H : Heap) (locs : List Loc) (ls : Array Slot), Ht_ G cy (va_A (wl_ cy ad σ) sz) s ad σ H locs → lv_has ls 1 [(0, .int x1)] → W p l e R s m args below meth c H locs 0 0 (MQ below (Qz_ G cy ad σ σ sz q) args s 0 0 (va_A (wl_ cy ad σ) sz)) (F0 m 0 ls []) := by
  intro x1 hf H locs ls h hl
  have hf : (f_X9_in x1.toInt64 (0 : Int64) (3 : Int64)) = q := hf
  refine lv_iload_n C.1 C.2.1 dX9_isSheet_0 rfl (lv_at hl 0 rfl) ?_
  refine lv_i2l C.1 C.2.1 dX9_isSheet_1 rfl ?_
  refine lv_lconst (v := (0 : Int64)) C.1 C.2.1 dX9_isSheet_2 (by decide) ?_
  refine lv_ldc2 (v := (3 : Int64)) C.1 C.2.1 C.2.2.2.1 (C.2.2.2.2 _ cl_RX9_426) dX9_isSheet_3 ?_
  refine x_az K h (x_S C K h [.long x1.toInt64, .long (0 : Int64), .long (3 : Int64)] (c_X9_in l κ G cy ad H.size σ x1.toInt64 (0 : Int64) (3 : Int64) rfl) mi_X9_in rfl st_yX9_in ml_RX9_83 ⟨rfl, rfl, Nat.le_trans (Nat.le_of_ble_eq_true rfl) hR.1, Nat.le_trans (Nat.le_of_ble_eq_true rfl) hR.2⟩ hl (Nat.le_of_ble_eq_true rfl) dX9_isSheet_6 ⟨Nat.zero_le _, Nat.zero_le _⟩ rfl) (fun H locs h hX hz3 => ?_)
  exact x_rzz C hr hlk h Ex_.rf hz3 hf rfl dX9_isSheet_9
theorem c_X9_isSheet (l : Launch) (κ : Ka_) (G : va_G) (cy : Nat → ClassId) (ad : Nat → Nat) (sz : Nat) (σ : St_) (x1 : Int32) {q : Int32} (hf : f_X9_isSheet x1 = q) : Met l yX9_isSheet (Cond.code yX9_isSheet cX9_isSheet 1 (some .boolean) :: wU_) { frames := 1, cells := 0, slots := 0, locals := 25 } (va_Pc [.int x1] (Pr_ κ G cy ad σ sz)) (Qz_ G cy ad σ σ sz q) 0 0 (va_A (wl_ cy ad σ) sz) :=
  x_met (by decide) (fun p e R s m below meth c ls hR C hr hlk hin _ K h hl => w_X9_isSheet C K hr hlk ⟨hR.1, hR.2.1⟩ x1 hf s.heap [] ls h hl) (Nat.le_of_ble_eq_true rfl)
-- X9_flies
theorem mi_X9_flies : Mi_ yX9_flies cX9_flies 8 (some .int) 3 := ⟨co_yX9_flies, in_RX9, by decide, by decide, by decide +kernel⟩
def f_X9_flies_99 (fu : Nat) : Nat → St_ → Nat → Int32 → Int32 → Int32 → Int32 → Int32 → Int32 → Option (Int32 × St_)
  | 0 => fun _ _ _ _ _ _ _ _ => none
  | n + 1 => fun σ  v0  v1  v2  v3  v4  v5  v6 => (dr_ σ 10 (sr_ σ v0 40)).bind fun b1 => (ix_ v1 (ln_ σ b1)).bind fun j2 => if (si_ σ b1 j2) ≤ v6 then if v3 = 0 then some (v4, σ) else some (v5, σ) else (dr_ σ 10 (sr_ σ v0 41)).bind fun b5 => (ix_ (((40 : Int32) * v1) + v6) (ln_ σ b5)).bind fun j6 => (f_X9_goesTo fu σ v0 v2 v4 (si_ σ b5 j6)).bind fun q7 => if q7.1 = v4 then (f_X9_flies_99 fu n) q7.2 v0 v1 v2 v3 q7.1 (v5 + (0 : Int32)) (v6 + (1 : Int32)) else (f_X9_flies_99 fu n) q7.2 v0 v1 v2 v3 q7.1 (v5 + (1 : Int32)) (v6 + (1 : Int32))
set_option maxHeartbeats 4000000 in
set_option maxRecDepth 100000 in
theorem w_X9_flies_99 {p : Program} {l : Launch} {e : Env} {R : Room} {s : State} {m : MethodId} {args : Array Value} {below : List Frame} {meth : Method} {c : Code} {κ : Ka_} {G : va_G} {cy : Nat → ClassId} {ad : Nat → Nat} {sz : Nat} {σ0 : St_} (fu : Nat) (C : CallFix p m c cX9_flies 8 s args wU_ RX9) (K : Kx_ κ G cy (va_A (wl_ cy ad σ0) sz) s) (hr : meth.sig.returnType = some .int) (hlk : meth.locks = false) (hR : 45 ≤ R.frames ∧ 1006 ≤ R.locals) {q : Int32 × St_} : ∀ n : Nat, ∀ (σ : St_) (v0 : Nat) (v1 : Int32) (v2 : Int32) (v3 : Int32) (v4 : Int32) (v5 : Int32) (v6 : Int32), Ex_ σ0 σ → kd_ σ v0 = 9 → f_X9_flies_99 fu n σ v0 v1 v2 v3 v4 v5 v6 = some q → ∀ (H : Heap) (locs : List Loc) (ls : Array Slot), Ht_ G cy (va_A (wl_ cy ad σ0) sz) s ad σ H locs → lv_has ls 8 [(0, .ref (ad v0)), (1, .int v1), (2, .int v2), (3, .int v3), (4, .int v4), (5, .int v5), (6, .int v6)] → W p l e R s m args below meth c H locs 0 0 (MQ below (Qi_ G cy ad σ0 q.2 sz q.1) args s 0 0 (va_A (wl_ cy ad σ0) sz)) (F0 m 99 ls []) := by
  intro n
  induction n with
  | zero =>
    intro σ v0 v1 v2 v3 v4 v5 v6 hE hk_v0 hf H locs ls h hl
    cases hf
  | succ n ih =>
    intro σ v0 v1 v2 v3 v4 v5 v6 hE hk_v0 hf H locs ls h hl
    have hf : ((dr_ σ 10 (sr_ σ v0 40)).bind fun b1 => (ix_ v1 (ln_ σ b1)).bind fun j2 => if (si_ σ b1 j2) ≤ v6 then if v3 = 0 then some (v4, σ) else some (v5, σ) else (dr_ σ 10 (sr_ σ v0 41)).bind fun b5 => (ix_ (((40 : Int32) * v1) + v6) (ln_ σ b5)).bind fun j6 => (f_X9_goesTo fu σ v0 v2 v4 (si_ σ b5 j6)).bind fun q7 => if q7.1 = v4 then (f_X9_flies_99 fu n) q7.2 v0 v1 v2 v3 q7.1 (v5 + (0 : Int32)) (v6 + (1 : Int32)) else (f_X9_flies_99 fu n) q7.2 v0 v1 v2 v3 q7.1 (v5 + (1 : Int32)) (v6 + (1 : Int32))) = some q := hf
    refine lv_iload C.1 C.2.1 dX9_flies_99 (lv_at hl 6 rfl) ?_
    refine lv_aload_n C.1 C.2.1 dX9_flies_101 rfl (lv_at hl 0 rfl) ?_
    obtain ⟨b1, hb_b1, hf⟩ := ob_ hf
    obtain ⟨hq_b1, hk_b1⟩ := dr_in hb_b1
    refine x_get (v := .ref (ad b1)) C K h cl_9 hk_v0 40 (by decide) fl_RX9_67 (hv_r (o := sr_ σ v0 40) rfl hq_b1) dX9_flies_102 ?_
    refine lv_iload_n C.1 C.2.1 dX9_flies_105 rfl (lv_at hl 1 rfl) ?_
    obtain ⟨j2, hj_j2, hf⟩ := ob_ hf
    refine x_iald C K h hk_b1 hj_j2 dX9_flies_106 ?_
    refine lv_icmp_ge (tgt := 158) C.1 C.2.1 dX9_flies_107 (by decide) (fun c3 => ?_) (fun c3 => ?_)
    · have hf := if_t hf c3
      refine lv_iload_n C.1 C.2.1 dX9_flies_158 rfl (lv_at hl 3 rfl) ?_
      refine lv_if_ne (tgt := 167) C.1 C.2.1 dX9_flies_159 (by decide) (fun c4 => ?_) (fun c4 => ?_)
      · have hf := if_f hf c4
        refine lv_iload C.1 C.2.1 dX9_flies_167 (lv_at hl 5 rfl) ?_
        exact x_ri C hr hlk h hE (pf_1 (Option.some.inj hf)) (pf_2 (Option.some.inj hf)) dX9_flies_169
      · have hf := if_t hf c4
        refine lv_iload C.1 C.2.1 dX9_flies_162 (lv_at hl 4 rfl) ?_
        refine lv_goto (tgt := 169) C.1 C.2.1 dX9_flies_164 (by decide) ?_
        exact x_ri C hr hlk h hE (pf_1 (Option.some.inj hf)) (pf_2 (Option.some.inj hf)) dX9_flies_169
    · have hf := if_f hf c3
      refine lv_aload_n C.1 C.2.1 dX9_flies_110 rfl (lv_at hl 0 rfl) ?_
      refine lv_iload_n C.1 C.2.1 dX9_flies_111 rfl (lv_at hl 2 rfl) ?_
      refine lv_iload C.1 C.2.1 dX9_flies_112 (lv_at hl 4 rfl) ?_
      refine lv_aload_n C.1 C.2.1 dX9_flies_114 rfl (lv_at hl 0 rfl) ?_
      obtain ⟨b5, hb_b5, hf⟩ := ob_ hf
      obtain ⟨hq_b5, hk_b5⟩ := dr_in hb_b5
      refine x_get (v := .ref (ad b5)) C K h cl_9 hk_v0 41 (by decide) fl_RX9_70 (hv_r (o := sr_ σ v0 41) rfl hq_b5) dX9_flies_115 ?_
      refine lv_bipush (v := (40 : Int32)) C.1 C.2.1 dX9_flies_118 (by decide) ?_
      refine lv_iload_n C.1 C.2.1 dX9_flies_120 rfl (lv_at hl 1 rfl) ?_
      refine lv_imul C.1 C.2.1 dX9_flies_121 ?_
      refine lv_iload C.1 C.2.1 dX9_flies_122 (lv_at hl 6 rfl) ?_
      refine lv_iadd C.1 C.2.1 dX9_flies_124 ?_
      obtain ⟨j6, hj_j6, hf⟩ := ob_ hf
      refine x_iald C K h hk_b5 hj_j6 dX9_flies_125 ?_
      obtain ⟨q7, hq_q7, hf⟩ := ob_ hf
      refine x_ai K h (x_V C K h [.int v2, .int v4, .int (si_ σ b5 j6)] (c_X9_goesTo fu l κ G cy ad H.size σ v0 v2 v4 (si_ σ b5 j6) hk_v0 hq_q7) mi_X9_goesTo rfl im_yX9_goesTo se_yX9_goesTo ml_RX9_132 cl_9 hk_v0 ⟨rfl, rfl, Nat.le_trans (Nat.le_of_ble_eq_true rfl) hR.1, Nat.le_trans (Nat.le_of_ble_eq_true rfl) hR.2⟩ hl (Nat.le_of_ble_eq_true rfl) dX9_flies_126 ⟨Nat.zero_le _, Nat.zero_le _⟩ rfl) (fun H locs h hX => ?_)
      have hE := hE.trans hX
      have hk_v0 := hX.k hk_v0 (by decide)
      refine lv_istore (i := 7) (lv' := [(7, .int q7.1), (0, .ref (ad v0)), (1, .int v1), (2, .int v2), (3, .int v3), (4, .int v4), (5, .int v5), (6, .int v6)]) C.1 C.2.1 dX9_flies_129 hl (by decide) rfl (fun ls hl => ?_)
      refine lv_iload C.1 C.2.1 dX9_flies_131 (lv_at hl 6 rfl) ?_
      refine lv_iload C.1 C.2.1 dX9_flies_133 (lv_at hl 0 rfl) ?_
      refine lv_iload C.1 C.2.1 dX9_flies_135 (lv_at hl 5 rfl) ?_
      refine lv_icmp_ne (tgt := 144) C.1 C.2.1 dX9_flies_137 (by decide) (fun c8 => ?_) (fun c8 => ?_)
      · have hf := if_f hf c8
        refine lv_iconst (v := (1 : Int32)) C.1 C.2.1 dX9_flies_144 (by decide) ?_
        refine lv_iadd C.1 C.2.1 dX9_flies_145 ?_
        refine lv_istore (i := 5) (lv' := [(5, .int (v5 + (1 : Int32))), (7, .int q7.1), (0, .ref (ad v0)), (1, .int v1), (2, .int v2), (3, .int v3), (4, .int v4), (6, .int v6)]) C.1 C.2.1 dX9_flies_146 hl (by decide) rfl (fun ls hl => ?_)
        refine lv_iload C.1 C.2.1 dX9_flies_148 (lv_at hl 1 rfl) ?_
        refine lv_istore (i := 4) (lv' := [(4, .int q7.1), (5, .int (v5 + (1 : Int32))), (7, .int q7.1), (0, .ref (ad v0)), (1, .int v1), (2, .int v2), (3, .int v3), (6, .int v6)]) C.1 C.2.1 dX9_flies_150 hl (by decide) rfl (fun ls hl => ?_)
        refine lv_iinc (v := v6 + (1 : Int32)) (lv' := [(6, .int (v6 + (1 : Int32))), (4, .int q7.1), (5, .int (v5 + (1 : Int32))), (7, .int q7.1), (0, .ref (ad v0)), (1, .int v1), (2, .int v2), (3, .int v3)]) C.1 C.2.1 dX9_flies_152 hl (k := 7) rfl rfl (by decide) rfl (fun ls hl => ?_)
        refine lv_goto (tgt := 99) C.1 C.2.1 dX9_flies_155 (by decide) ?_
        exact ih q7.2 v0 v1 v2 v3 q7.1 (v5 + (1 : Int32)) (v6 + (1 : Int32)) hE hk_v0 hf _ _ _ h (lv_sub hl [4, 5, 6, 7, 1, 2, 0] rfl)
      · have hf := if_t hf c8
        refine lv_iconst (v := (0 : Int32)) C.1 C.2.1 dX9_flies_140 (by decide) ?_
        refine lv_goto (tgt := 145) C.1 C.2.1 dX9_flies_141 (by decide) ?_
        refine lv_iadd C.1 C.2.1 dX9_flies_145 ?_
        refine lv_istore (i := 5) (lv' := [(5, .int (v5 + (0 : Int32))), (7, .int q7.1), (0, .ref (ad v0)), (1, .int v1), (2, .int v2), (3, .int v3), (4, .int v4), (6, .int v6)]) C.1 C.2.1 dX9_flies_146 hl (by decide) rfl (fun ls hl => ?_)
        refine lv_iload C.1 C.2.1 dX9_flies_148 (lv_at hl 1 rfl) ?_
        refine lv_istore (i := 4) (lv' := [(4, .int q7.1), (5, .int (v5 + (0 : Int32))), (7, .int q7.1), (0, .ref (ad v0)), (1, .int v1), (2, .int v2), (3, .int v3), (6, .int v6)]) C.1 C.2.1 dX9_flies_150 hl (by decide) rfl (fun ls hl => ?_)
        refine lv_iinc (v := v6 + (1 : Int32)) (lv' := [(6, .int (v6 + (1 : Int32))), (4, .int q7.1), (5, .int (v5 + (0 : Int32))), (7, .int q7.1), (0, .ref (ad v0)), (1, .int v1), (2, .int v2), (3, .int v3)]) C.1 C.2.1 dX9_flies_152 hl (k := 7) rfl rfl (by decide) rfl (fun ls hl => ?_)
        refine lv_goto (tgt := 99) C.1 C.2.1 dX9_flies_155 (by decide) ?_
        exact ih q7.2 v0 v1 v2 v3 q7.1 (v5 + (0 : Int32)) (v6 + (1 : Int32)) hE hk_v0 hf _ _ _ h (lv_sub hl [4, 5, 6, 7, 1, 2, 0] rfl)
def f_X9_flies_43 (fu : Nat) : Nat → St_ → Nat → Int32 → Int32 → Int32 → Int32 → Option (Int32 × St_)
  | 0 => fun _ _ _ _ _ _ => none
  | n + 1 => fun σ  v0  v1  v2  v3  v4 => (dr_ σ 10 (sr_ σ v0 40)).bind fun b1 => (ix_ v1 (ln_ σ b1)).bind fun j2 => if (si_ σ b1 j2) ≤ v4 then (dr_ σ 10 (sr_ σ v0 10)).bind fun b4 => (ix_ (((3 : Int32) * v2) + (1 : Int32)) (ln_ σ b4)).bind fun j5 => f_X9_flies_99 fu fu σ v0 v1 v2 v3 (si_ σ b4 j5) (0 : Int32) (0 : Int32) else (dr_ σ 10 (sr_ σ v0 41)).bind fun b6 => (ix_ (((40 : Int32) * v1) + v4) (ln_ σ b6)).bind fun j7 => if (f_X9_isWord (si_ σ b6 j7)) = 0 then some ((-2 : Int32), σ) else (f_X9_flies_43 fu n) σ v0 v1 v2 v3 (v4 + (1 : Int32))
set_option maxHeartbeats 4000000 in
set_option maxRecDepth 100000 in
theorem w_X9_flies_43 {p : Program} {l : Launch} {e : Env} {R : Room} {s : State} {m : MethodId} {args : Array Value} {below : List Frame} {meth : Method} {c : Code} {κ : Ka_} {G : va_G} {cy : Nat → ClassId} {ad : Nat → Nat} {sz : Nat} {σ0 : St_} (fu : Nat) (C : CallFix p m c cX9_flies 8 s args wU_ RX9) (K : Kx_ κ G cy (va_A (wl_ cy ad σ0) sz) s) (hr : meth.sig.returnType = some .int) (hlk : meth.locks = false) (hR : 45 ≤ R.frames ∧ 1006 ≤ R.locals) {q : Int32 × St_} : ∀ n : Nat, ∀ (σ : St_) (v0 : Nat) (v1 : Int32) (v2 : Int32) (v3 : Int32) (v4 : Int32), Ex_ σ0 σ → kd_ σ v0 = 9 → f_X9_flies_43 fu n σ v0 v1 v2 v3 v4 = some q → ∀ (H : Heap) (locs : List Loc) (ls : Array Slot), Ht_ G cy (va_A (wl_ cy ad σ0) sz) s ad σ H locs → lv_has ls 8 [(0, .ref (ad v0)), (1, .int v1), (2, .int v2), (3, .int v3), (4, .int v4)] → W p l e R s m args below meth c H locs 0 0 (MQ below (Qi_ G cy ad σ0 q.2 sz q.1) args s 0 0 (va_A (wl_ cy ad σ0) sz)) (F0 m 43 ls []) := by
  intro n
  induction n with
  | zero =>
    intro σ v0 v1 v2 v3 v4 hE hk_v0 hf H locs ls h hl
    cases hf
  | succ n ih =>
    intro σ v0 v1 v2 v3 v4 hE hk_v0 hf H locs ls h hl
    have hf : ((dr_ σ 10 (sr_ σ v0 40)).bind fun b1 => (ix_ v1 (ln_ σ b1)).bind fun j2 => if (si_ σ b1 j2) ≤ v4 then (dr_ σ 10 (sr_ σ v0 10)).bind fun b4 => (ix_ (((3 : Int32) * v2) + (1 : Int32)) (ln_ σ b4)).bind fun j5 => f_X9_flies_99 fu fu σ v0 v1 v2 v3 (si_ σ b4 j5) (0 : Int32) (0 : Int32) else (dr_ σ 10 (sr_ σ v0 41)).bind fun b6 => (ix_ (((40 : Int32) * v1) + v4) (ln_ σ b6)).bind fun j7 => if (f_X9_isWord (si_ σ b6 j7)) = 0 then some ((-2 : Int32), σ) else (f_X9_flies_43 fu n) σ v0 v1 v2 v3 (v4 + (1 : Int32))) = some q := hf
    refine lv_iload C.1 C.2.1 dX9_flies_43 (lv_at hl 4 rfl) ?_
    refine lv_aload_n C.1 C.2.1 dX9_flies_45 rfl (lv_at hl 0 rfl) ?_
    obtain ⟨b1, hb_b1, hf⟩ := ob_ hf
    obtain ⟨hq_b1, hk_b1⟩ := dr_in hb_b1
    refine x_get (v := .ref (ad b1)) C K h cl_9 hk_v0 40 (by decide) fl_RX9_67 (hv_r (o := sr_ σ v0 40) rfl hq_b1) dX9_flies_46 ?_
    refine lv_iload_n C.1 C.2.1 dX9_flies_49 rfl (lv_at hl 1 rfl) ?_
    obtain ⟨j2, hj_j2, hf⟩ := ob_ hf
    refine x_iald C K h hk_b1 hj_j2 dX9_flies_50 ?_
    refine lv_icmp_ge (tgt := 81) C.1 C.2.1 dX9_flies_51 (by decide) (fun c3 => ?_) (fun c3 => ?_)
    · have hf := if_t hf c3
      refine lv_aload_n C.1 C.2.1 dX9_flies_81 rfl (lv_at hl 0 rfl) ?_
      obtain ⟨b4, hb_b4, hf⟩ := ob_ hf
      obtain ⟨hq_b4, hk_b4⟩ := dr_in hb_b4
      refine x_get (v := .ref (ad b4)) C K h cl_9 hk_v0 10 (by decide) fl_RX9_29 (hv_r (o := sr_ σ v0 10) rfl hq_b4) dX9_flies_82 ?_
      refine lv_iconst (v := (3 : Int32)) C.1 C.2.1 dX9_flies_85 (by decide) ?_
      refine lv_iload_n C.1 C.2.1 dX9_flies_86 rfl (lv_at hl 2 rfl) ?_
      refine lv_imul C.1 C.2.1 dX9_flies_87 ?_
      refine lv_iconst (v := (1 : Int32)) C.1 C.2.1 dX9_flies_88 (by decide) ?_
      refine lv_iadd C.1 C.2.1 dX9_flies_89 ?_
      obtain ⟨j5, hj_j5, hf⟩ := ob_ hf
      refine x_iald C K h hk_b4 hj_j5 dX9_flies_90 ?_
      refine lv_istore (i := 4) (lv' := [(4, .int (si_ σ b4 j5)), (0, .ref (ad v0)), (1, .int v1), (2, .int v2), (3, .int v3)]) C.1 C.2.1 dX9_flies_91 hl (by decide) rfl (fun ls hl => ?_)
      refine lv_iconst (v := (0 : Int32)) C.1 C.2.1 dX9_flies_93 (by decide) ?_
      refine lv_istore (i := 5) (lv' := [(5, .int (0 : Int32)), (4, .int (si_ σ b4 j5)), (0, .ref (ad v0)), (1, .int v1), (2, .int v2), (3, .int v3)]) C.1 C.2.1 dX9_flies_94 hl (by decide) rfl (fun ls hl => ?_)
      refine lv_iconst (v := (0 : Int32)) C.1 C.2.1 dX9_flies_96 (by decide) ?_
      refine lv_istore (i := 6) (lv' := [(6, .int (0 : Int32)), (5, .int (0 : Int32)), (4, .int (si_ σ b4 j5)), (0, .ref (ad v0)), (1, .int v1), (2, .int v2), (3, .int v3)]) C.1 C.2.1 dX9_flies_97 hl (by decide) rfl (fun ls hl => ?_)
      exact w_X9_flies_99 fu C K hr hlk hR fu σ v0 v1 v2 v3 (si_ σ b4 j5) (0 : Int32) (0 : Int32) hE hk_v0 hf _ _ _ h (lv_sub hl [3, 4, 5, 6, 2, 1, 0] rfl)
    · have hf := if_f hf c3
      refine lv_aload_n C.1 C.2.1 dX9_flies_54 rfl (lv_at hl 0 rfl) ?_
      obtain ⟨b6, hb_b6, hf⟩ := ob_ hf
      obtain ⟨hq_b6, hk_b6⟩ := dr_in hb_b6
      refine x_get (v := .ref (ad b6)) C K h cl_9 hk_v0 41 (by decide) fl_RX9_70 (hv_r (o := sr_ σ v0 41) rfl hq_b6) dX9_flies_55 ?_
      refine lv_bipush (v := (40 : Int32)) C.1 C.2.1 dX9_flies_58 (by decide) ?_
      refine lv_iload_n C.1 C.2.1 dX9_flies_60 rfl (lv_at hl 1 rfl) ?_
      refine lv_imul C.1 C.2.1 dX9_flies_61 ?_
      refine lv_iload C.1 C.2.1 dX9_flies_62 (lv_at hl 4 rfl) ?_
      refine lv_iadd C.1 C.2.1 dX9_flies_64 ?_
      obtain ⟨j7, hj_j7, hf⟩ := ob_ hf
      refine x_iald C K h hk_b6 hj_j7 dX9_flies_65 ?_
      refine x_az K h (x_S C K h [.int (si_ σ b6 j7)] (c_X9_isWord l κ G cy ad H.size σ (si_ σ b6 j7) rfl) mi_X9_isWord rfl st_yX9_isWord ml_RX9_361 ⟨rfl, rfl, Nat.le_trans (Nat.le_of_ble_eq_true rfl) hR.1, Nat.le_trans (Nat.le_of_ble_eq_true rfl) hR.2⟩ hl (Nat.le_of_ble_eq_true rfl) dX9_flies_66 ⟨Nat.zero_le _, Nat.zero_le _⟩ rfl) (fun H locs h hX hz9 => ?_)
      refine lv_if_ne (tgt := 75) C.1 C.2.1 dX9_flies_69 (by decide) (fun c10 => ?_) (fun c10 => ?_)
      · have hf := if_f hf c10
        refine lv_iinc (v := v4 + (1 : Int32)) (lv' := [(4, .int (v4 + (1 : Int32))), (0, .ref (ad v0)), (1, .int v1), (2, .int v2), (3, .int v3)]) C.1 C.2.1 dX9_flies_75 hl (k := 4) rfl rfl (by decide) rfl (fun ls hl => ?_)
        refine lv_goto (tgt := 43) C.1 C.2.1 dX9_flies_78 (by decide) ?_
        exact ih σ v0 v1 v2 v3 (v4 + (1 : Int32)) hE hk_v0 hf _ _ _ h (lv_sub hl [1, 2, 3, 4, 0] rfl)
      · have hf := if_t hf c10
        refine lv_bipush (v := (-2 : Int32)) C.1 C.2.1 dX9_flies_72 (by decide) ?_
        exact x_ri C hr hlk h hE (pf_1 (Option.some.inj hf)) (pf_2 (Option.some.inj hf)) dX9_flies_74
def f_X9_flies (fu : Nat) (σ : St_) (a0 : Nat) (x1 : Int32) (x2 : Int32) (x3 : Int32) : Option (Int32 × St_) := if (f_X9_isSheet x1) = 0 then some ((-2 : Int32), σ) else if (f_X9_isOne σ a0 x2) = 0 then some ((-2 : Int32), σ) else if (f_X9_in x3.toInt64 (0 : Int64) (1 : Int64)) = 0 then some ((-2 : Int32), σ) else (dr_ σ 12 (sr_ σ a0 38)).bind fun b13 => (ix_ x1 (ln_ σ b13)).bind fun j14 => if (si_ σ b13 j14) = 0 then some ((-11 : Int32), σ) else f_X9_flies_43 fu fu σ a0 x1 x2 x3 (0 : Int32)
set_option maxHeartbeats 4000000 in
set_option maxRecDepth 100000 in
theorem w_X9_flies {p : Program} {l : Launch} {e : Env} {R : Room} {s : State} {m : MethodId} {args : Array Value} {below : List Frame} {meth : Method} {c : Code} {κ : Ka_} {G : va_G} {cy : Nat → ClassId} {ad : Nat → Nat} {sz : Nat} {σ0 : St_} (fu : Nat) (C : CallFix p m c cX9_flies 8 s args wU_ RX9) (K : Kx_ κ G cy (va_A (wl_ cy ad σ0) sz) s) (hr : meth.sig.returnType = some .int) (hlk : meth.locks = false) (hR : 45 ≤ R.frames ∧ 1006 ≤ R.locals) {q : Int32 × St_} : ∀ (σ : St_) (a0 : Nat) (x1 : Int32) (x2 : Int32) (x3 : Int32), Ex_ σ0 σ → kd_ σ a0 = 9 → f_X9_flies fu σ a0 x1 x2 x3 = some q → ∀ (H : Heap) (locs : List Loc) (ls : Array Slot), Ht_ G cy (va_A (wl_ cy ad σ0) sz) s ad σ H locs → lv_has ls 8 [(0, .ref (ad a0)), (1, .int x1), (2, .int x2), (3, .int x3)] → W p l e R s m args below meth c H locs 0 0 (MQ below (Qi_ G cy ad σ0 q.2 sz q.1) args s 0 0 (va_A (wl_ cy ad σ0) sz)) (F0 m 0 ls []) := by
  intro σ a0 x1 x2 x3 hE hk_a0 hf H locs ls h hl
  have hf : (if (f_X9_isSheet x1) = 0 then some ((-2 : Int32), σ) else if (f_X9_isOne σ a0 x2) = 0 then some ((-2 : Int32), σ) else if (f_X9_in x3.toInt64 (0 : Int64) (1 : Int64)) = 0 then some ((-2 : Int32), σ) else (dr_ σ 12 (sr_ σ a0 38)).bind fun b13 => (ix_ x1 (ln_ σ b13)).bind fun j14 => if (si_ σ b13 j14) = 0 then some ((-11 : Int32), σ) else f_X9_flies_43 fu fu σ a0 x1 x2 x3 (0 : Int32)) = some q := hf
  refine lv_iload_n C.1 C.2.1 dX9_flies_0 rfl (lv_at hl 1 rfl) ?_
  refine x_az K h (x_S C K h [.int x1] (c_X9_isSheet l κ G cy ad H.size σ x1 rfl) mi_X9_isSheet rfl st_yX9_isSheet ml_RX9_366 ⟨rfl, rfl, Nat.le_trans (Nat.le_of_ble_eq_true rfl) hR.1, Nat.le_trans (Nat.le_of_ble_eq_true rfl) hR.2⟩ hl (Nat.le_of_ble_eq_true rfl) dX9_flies_1 ⟨Nat.zero_le _, Nat.zero_le _⟩ rfl) (fun H locs h hX hz5 => ?_)
  refine lv_if_eq (tgt := 25) C.1 C.2.1 dX9_flies_4 (by decide) (fun c6 => ?_) (fun c6 => ?_)
  · have hf := if_t hf c6
    refine lv_bipush (v := (-2 : Int32)) C.1 C.2.1 dX9_flies_25 (by decide) ?_
    exact x_ri C hr hlk h hE (pf_1 (Option.some.inj hf)) (pf_2 (Option.some.inj hf)) dX9_flies_27
  · have hf := if_f hf c6
    refine lv_aload_n C.1 C.2.1 dX9_flies_7 rfl (lv_at hl 0 rfl) ?_
    refine lv_iload_n C.1 C.2.1 dX9_flies_8 rfl (lv_at hl 2 rfl) ?_
    refine x_az K h (x_V C K h [.int x2] (c_X9_isOne l κ G cy ad H.size σ a0 x2 hk_a0 rfl) mi_X9_isOne rfl im_yX9_isOne se_yX9_isOne ml_RX9_95 cl_9 hk_a0 ⟨rfl, rfl, Nat.le_trans (Nat.le_of_ble_eq_true rfl) hR.1, Nat.le_trans (Nat.le_of_ble_eq_true rfl) hR.2⟩ hl (Nat.le_of_ble_eq_true rfl) dX9_flies_9 ⟨Nat.zero_le _, Nat.zero_le _⟩ rfl) (fun H locs h hX hz8 => ?_)
    refine lv_if_eq (tgt := 25) C.1 C.2.1 dX9_flies_12 (by decide) (fun c9 => ?_) (fun c9 => ?_)
    · have hf := if_t hf c9
      refine lv_bipush (v := (-2 : Int32)) C.1 C.2.1 dX9_flies_25 (by decide) ?_
      exact x_ri C hr hlk h hE (pf_1 (Option.some.inj hf)) (pf_2 (Option.some.inj hf)) dX9_flies_27
    · have hf := if_f hf c9
      refine lv_iload_n C.1 C.2.1 dX9_flies_15 rfl (lv_at hl 3 rfl) ?_
      refine lv_i2l C.1 C.2.1 dX9_flies_16 rfl ?_
      refine lv_lconst (v := (0 : Int64)) C.1 C.2.1 dX9_flies_17 (by decide) ?_
      refine lv_lconst (v := (1 : Int64)) C.1 C.2.1 dX9_flies_18 (by decide) ?_
      refine x_az K h (x_S C K h [.long x3.toInt64, .long (0 : Int64), .long (1 : Int64)] (c_X9_in l κ G cy ad H.size σ x3.toInt64 (0 : Int64) (1 : Int64) rfl) mi_X9_in rfl st_yX9_in ml_RX9_83 ⟨rfl, rfl, Nat.le_trans (Nat.le_of_ble_eq_true rfl) hR.1, Nat.le_trans (Nat.le_of_ble_eq_true rfl) hR.2⟩ hl (Nat.le_of_ble_eq_true rfl) dX9_flies_19 ⟨Nat.zero_le _, Nat.zero_le _⟩ rfl) (fun H locs h hX hz11 => ?_)
      refine lv_if_ne (tgt := 28) C.1 C.2.1 dX9_flies_22 (by decide) (fun c12 => ?_) (fun c12 => ?_)
      · have hf := if_f hf c12
        refine lv_aload_n C.1 C.2.1 dX9_flies_28 rfl (lv_at hl 0 rfl) ?_
        obtain ⟨b13, hb_b13, hf⟩ := ob_ hf
        obtain ⟨hq_b13, hk_b13⟩ := dr_in hb_b13
        refine x_get (v := .ref (ad b13)) C K h cl_9 hk_a0 38 (by decide) fl_RX9_60 (hv_r (o := sr_ σ a0 38) rfl hq_b13) dX9_flies_29 ?_
        refine lv_iload_n C.1 C.2.1 dX9_flies_32 rfl (lv_at hl 1 rfl) ?_
        obtain ⟨j14, hj_j14, hf⟩ := ob_ hf
        refine x_zald C K h hk_b13 hj_j14 dX9_flies_33 ?_
        refine lv_if_ne (tgt := 40) C.1 C.2.1 dX9_flies_34 (by decide) (fun c15 => ?_) (fun c15 => ?_)
        · have hf := if_f hf c15
          refine lv_iconst (v := (0 : Int32)) C.1 C.2.1 dX9_flies_40 (by decide) ?_
          refine lv_istore (i := 4) (lv' := [(4, .int (0 : Int32)), (0, .ref (ad a0)), (1, .int x1), (2, .int x2), (3, .int x3)]) C.1 C.2.1 dX9_flies_41 hl (by decide) rfl (fun ls hl => ?_)
          exact w_X9_flies_43 fu C K hr hlk hR fu σ a0 x1 x2 x3 (0 : Int32) hE hk_a0 hf _ _ _ h (lv_sub hl [1, 2, 3, 4, 0] rfl)
        · have hf := if_t hf c15
          refine lv_bipush (v := (-11 : Int32)) C.1 C.2.1 dX9_flies_37 (by decide) ?_
          exact x_ri C hr hlk h hE (pf_1 (Option.some.inj hf)) (pf_2 (Option.some.inj hf)) dX9_flies_39
      · have hf := if_t hf c12
        refine lv_bipush (v := (-2 : Int32)) C.1 C.2.1 dX9_flies_25 (by decide) ?_
        exact x_ri C hr hlk h hE (pf_1 (Option.some.inj hf)) (pf_2 (Option.some.inj hf)) dX9_flies_27
theorem c_X9_flies (fu : Nat) (l : Launch) (κ : Ka_) (G : va_G) (cy : Nat → ClassId) (ad : Nat → Nat) (sz : Nat) (σ : St_) (a0 : Nat) (x1 : Int32) (x2 : Int32) (x3 : Int32) (hk_a0 : kd_ σ a0 = 9) {q : Int32 × St_} (hf : f_X9_flies fu σ a0 x1 x2 x3 = some q) : Met l yX9_flies (Cond.code yX9_flies cX9_flies 8 (some .int) :: wU_) { frames := 45, cells := 0, slots := 0, locals := 1006 } (va_Pc [.ref (ad a0), .int x1, .int x2, .int x3] (Pr_ κ G cy ad σ sz)) (Qi_ G cy ad σ q.2 sz q.1) 0 0 (va_A (wl_ cy ad σ) sz) :=
  x_met (by decide) (fun p e R s m below meth c ls hR C hr hlk hin _ K h hl => w_X9_flies fu C K hr hlk ⟨hR.1, hR.2.1⟩ σ a0 x1 x2 x3 Ex_.rf hk_a0 hf s.heap [] ls h hl) (Nat.le_of_ble_eq_true rfl)
-- X9_tables
theorem mi_X9_tables : Mi_ yX9_tables cX9_tables 5 none 2 := ⟨co_yX9_tables, in_RX9, by decide, by decide, by decide +kernel⟩
def f_X9_tables_11 (fu : Nat) (k2 : St_ → Nat → Int32 → Nat → Int32 → Option St_) : Nat → St_ → Nat → Int32 → Nat → Int32 → Int32 → Option St_
  | 0 => fun _ _ _ _ _ _ => none
  | n + 1 => fun σ  v0  v1  v2  v3  v4 => if (8 : Int32) ≤ v4 then k2 σ v0 v1 v2 (v3 + (1 : Int32)) else (f_X9_goesTo fu σ v0 v1 v3 v4).bind fun q2 => (ix_ (((8 : Int32) * v3) + v4) (ln_ q2.2 v2)).bind fun j3 => (f_X9_tables_11 fu k2 n) (ui_ q2.2 v2 j3 q2.1) v0 v1 v2 v3 (v4 + (1 : Int32))
set_option maxHeartbeats 4000000 in
set_option maxRecDepth 100000 in
theorem w_X9_tables_11 {p : Program} {l : Launch} {e : Env} {R : Room} {s : State} {m : MethodId} {args : Array Value} {below : List Frame} {meth : Method} {c : Code} {κ : Ka_} {G : va_G} {cy : Nat → ClassId} {ad : Nat → Nat} {sz : Nat} {σ0 : St_} (fu : Nat) (C : CallFix p m c cX9_tables 5 s args wU_ RX9) (K : Kx_ κ G cy (va_A (wl_ cy ad σ0) sz) s) (hr : meth.sig.returnType = none) (hlk : meth.locks = false) (hR : 45 ≤ R.frames ∧ 1006 ≤ R.locals) {q : St_} (k2 : St_ → Nat → Int32 → Nat → Int32 → Option St_) (hk2 : ∀ (σ : St_) (v0 : Nat) (v1 : Int32) (v2 : Nat) (v3 : Int32), Ex_ σ0 σ → kd_ σ v0 = 9 → kd_ σ v2 = 10 → k2 σ v0 v1 v2 v3 = some q → ∀ (H : Heap) (locs : List Loc) (ls : Array Slot), Ht_ G cy (va_A (wl_ cy ad σ0) sz) s ad σ H locs → lv_has ls 5 [(0, .ref (ad v0)), (1, .int v1), (2, .ref (ad v2)), (3, .int v3)] → W p l e R s m args below meth c H locs 0 0 (MQ below (Qv_ G cy ad σ0 q sz) args s 0 0 (va_A (wl_ cy ad σ0) sz)) (F0 m 2 ls [])) : ∀ n : Nat, ∀ (σ : St_) (v0 : Nat) (v1 : Int32) (v2 : Nat) (v3 : Int32) (v4 : Int32), Ex_ σ0 σ → kd_ σ v0 = 9 → kd_ σ v2 = 10 → f_X9_tables_11 fu k2 n σ v0 v1 v2 v3 v4 = some q → ∀ (H : Heap) (locs : List Loc) (ls : Array Slot), Ht_ G cy (va_A (wl_ cy ad σ0) sz) s ad σ H locs → lv_has ls 5 [(0, .ref (ad v0)), (1, .int v1), (2, .ref (ad v2)), (3, .int v3), (4, .int v4)] → W p l e R s m args below meth c H locs 0 0 (MQ below (Qv_ G cy ad σ0 q sz) args s 0 0 (va_A (wl_ cy ad σ0) sz)) (F0 m 11 ls []) := by
  intro n
  induction n with
  | zero =>
    intro σ v0 v1 v2 v3 v4 hE hk_v0 hk_v2 hf H locs ls h hl
    cases hf
  | succ n ih =>
    intro σ v0 v1 v2 v3 v4 hE hk_v0 hk_v2 hf H locs ls h hl
    have hf : (if (8 : Int32) ≤ v4 then k2 σ v0 v1 v2 (v3 + (1 : Int32)) else (f_X9_goesTo fu σ v0 v1 v3 v4).bind fun q2 => (ix_ (((8 : Int32) * v3) + v4) (ln_ q2.2 v2)).bind fun j3 => (f_X9_tables_11 fu k2 n) (ui_ q2.2 v2 j3 q2.1) v0 v1 v2 v3 (v4 + (1 : Int32))) = some q := hf
    refine lv_iload C.1 C.2.1 dX9_tables_11 (lv_at hl 4 rfl) ?_
    refine lv_bipush (v := (8 : Int32)) C.1 C.2.1 dX9_tables_13 (by decide) ?_
    refine lv_icmp_ge (tgt := 41) C.1 C.2.1 dX9_tables_15 (by decide) (fun c1 => ?_) (fun c1 => ?_)
    · have hf := if_t hf c1
      refine lv_iinc (v := v3 + (1 : Int32)) (lv' := [(3, .int (v3 + (1 : Int32))), (0, .ref (ad v0)), (1, .int v1), (2, .ref (ad v2)), (4, .int v4)]) C.1 C.2.1 dX9_tables_41 hl (k := 3) rfl rfl (by decide) rfl (fun ls hl => ?_)
      refine lv_goto (tgt := 2) C.1 C.2.1 dX9_tables_44 (by decide) ?_
      exact hk2 σ v0 v1 v2 (v3 + (1 : Int32)) hE hk_v0 hk_v2 hf _ _ _ h (lv_sub hl [1, 2, 3, 0] rfl)
    · have hf := if_f hf c1
      refine lv_aload_n C.1 C.2.1 dX9_tables_18 rfl (lv_at hl 2 rfl) ?_
      refine lv_bipush (v := (8 : Int32)) C.1 C.2.1 dX9_tables_19 (by decide) ?_
      refine lv_iload_n C.1 C.2.1 dX9_tables_21 rfl (lv_at hl 3 rfl) ?_
      refine lv_imul C.1 C.2.1 dX9_tables_22 ?_
      refine lv_iload C.1 C.2.1 dX9_tables_23 (lv_at hl 4 rfl) ?_
      refine lv_iadd C.1 C.2.1 dX9_tables_25 ?_
      refine lv_aload_n C.1 C.2.1 dX9_tables_26 rfl (lv_at hl 0 rfl) ?_
      refine lv_iload_n C.1 C.2.1 dX9_tables_27 rfl (lv_at hl 1 rfl) ?_
      refine lv_iload_n C.1 C.2.1 dX9_tables_28 rfl (lv_at hl 3 rfl) ?_
      refine lv_iload C.1 C.2.1 dX9_tables_29 (lv_at hl 4 rfl) ?_
      obtain ⟨q2, hq_q2, hf⟩ := ob_ hf
      refine x_ai K h (x_V C K h [.int v1, .int v3, .int v4] (c_X9_goesTo fu l κ G cy ad H.size σ v0 v1 v3 v4 hk_v0 hq_q2) mi_X9_goesTo rfl im_yX9_goesTo se_yX9_goesTo ml_RX9_132 cl_9 hk_v0 ⟨rfl, rfl, Nat.le_trans (Nat.le_of_ble_eq_true rfl) hR.1, Nat.le_trans (Nat.le_of_ble_eq_true rfl) hR.2⟩ hl (Nat.le_of_ble_eq_true rfl) dX9_tables_31 ⟨Nat.zero_le _, Nat.zero_le _⟩ rfl) (fun H locs h hX => ?_)
      have hE := hE.trans hX
      have hk_v0 := hX.k hk_v0 (by decide)
      have hk_v2 := hX.k hk_v2 (by decide)
      obtain ⟨j3, hj_j3, hf⟩ := ob_ hf
      refine x_iast C K h hk_v2 hj_j3 dX9_tables_34 (fun H locs h => ?_)
      have hE := hE.up (up_i q2.2 v2 j3 q2.1)
      refine lv_iinc (v := v4 + (1 : Int32)) (lv' := [(4, .int (v4 + (1 : Int32))), (0, .ref (ad v0)), (1, .int v1), (2, .ref (ad v2)), (3, .int v3)]) C.1 C.2.1 dX9_tables_35 hl (k := 4) rfl rfl (by decide) rfl (fun ls hl => ?_)
      refine lv_goto (tgt := 11) C.1 C.2.1 dX9_tables_38 (by decide) ?_
      exact ih (ui_ q2.2 v2 j3 q2.1) v0 v1 v2 v3 (v4 + (1 : Int32)) hE hk_v0 hk_v2 hf _ _ _ h (lv_sub hl [1, 2, 3, 4, 0] rfl)
def f_X9_tables_2 (fu : Nat) : Nat → St_ → Nat → Int32 → Nat → Int32 → Option St_
  | 0 => fun _ _ _ _ _ => none
  | n + 1 => fun σ  v0  v1  v2  v3 => if (36 : Int32) ≤ v3 then some σ else f_X9_tables_11 fu (f_X9_tables_2 fu n) fu σ v0 v1 v2 v3 (0 : Int32)
set_option maxHeartbeats 4000000 in
set_option maxRecDepth 100000 in
theorem w_X9_tables_2 {p : Program} {l : Launch} {e : Env} {R : Room} {s : State} {m : MethodId} {args : Array Value} {below : List Frame} {meth : Method} {c : Code} {κ : Ka_} {G : va_G} {cy : Nat → ClassId} {ad : Nat → Nat} {sz : Nat} {σ0 : St_} (fu : Nat) (C : CallFix p m c cX9_tables 5 s args wU_ RX9) (K : Kx_ κ G cy (va_A (wl_ cy ad σ0) sz) s) (hr : meth.sig.returnType = none) (hlk : meth.locks = false) (hR : 45 ≤ R.frames ∧ 1006 ≤ R.locals) {q : St_} : ∀ n : Nat, ∀ (σ : St_) (v0 : Nat) (v1 : Int32) (v2 : Nat) (v3 : Int32), Ex_ σ0 σ → kd_ σ v0 = 9 → kd_ σ v2 = 10 → f_X9_tables_2 fu n σ v0 v1 v2 v3 = some q → ∀ (H : Heap) (locs : List Loc) (ls : Array Slot), Ht_ G cy (va_A (wl_ cy ad σ0) sz) s ad σ H locs → lv_has ls 5 [(0, .ref (ad v0)), (1, .int v1), (2, .ref (ad v2)), (3, .int v3)] → W p l e R s m args below meth c H locs 0 0 (MQ below (Qv_ G cy ad σ0 q sz) args s 0 0 (va_A (wl_ cy ad σ0) sz)) (F0 m 2 ls []) := by
  intro n
  induction n with
  | zero =>
    intro σ v0 v1 v2 v3 hE hk_v0 hk_v2 hf H locs ls h hl
    cases hf
  | succ n ih =>
    intro σ v0 v1 v2 v3 hE hk_v0 hk_v2 hf H locs ls h hl
    have hf : (if (36 : Int32) ≤ v3 then some σ else f_X9_tables_11 fu (f_X9_tables_2 fu n) fu σ v0 v1 v2 v3 (0 : Int32)) = some q := hf
    refine lv_iload_n C.1 C.2.1 dX9_tables_2 rfl (lv_at hl 3 rfl) ?_
    refine lv_bipush (v := (36 : Int32)) C.1 C.2.1 dX9_tables_3 (by decide) ?_
    refine lv_icmp_ge (tgt := 47) C.1 C.2.1 dX9_tables_5 (by decide) (fun c1 => ?_) (fun c1 => ?_)
    · have hf := if_t hf c1
      exact x_rv C hr hlk h hE (Option.some.inj hf) dX9_tables_47
    · have hf := if_f hf c1
      refine lv_iconst (v := (0 : Int32)) C.1 C.2.1 dX9_tables_8 (by decide) ?_
      refine lv_istore (i := 4) (lv' := [(4, .int (0 : Int32)), (0, .ref (ad v0)), (1, .int v1), (2, .ref (ad v2)), (3, .int v3)]) C.1 C.2.1 dX9_tables_9 hl (by decide) rfl (fun ls hl => ?_)
      exact w_X9_tables_11 fu C K hr hlk hR (f_X9_tables_2 fu n) ih fu σ v0 v1 v2 v3 (0 : Int32) hE hk_v0 hk_v2 hf _ _ _ h (lv_sub hl [1, 2, 3, 4, 0] rfl)
def f_X9_tables (fu : Nat) (σ : St_) (a0 : Nat) (x1 : Int32) (x2 : Nat) : Option St_ := f_X9_tables_2 fu fu σ a0 x1 x2 (0 : Int32)
set_option maxHeartbeats 4000000 in
set_option maxRecDepth 100000 in
theorem w_X9_tables {p : Program} {l : Launch} {e : Env} {R : Room} {s : State} {m : MethodId} {args : Array Value} {below : List Frame} {meth : Method} {c : Code} {κ : Ka_} {G : va_G} {cy : Nat → ClassId} {ad : Nat → Nat} {sz : Nat} {σ0 : St_} (fu : Nat) (C : CallFix p m c cX9_tables 5 s args wU_ RX9) (K : Kx_ κ G cy (va_A (wl_ cy ad σ0) sz) s) (hr : meth.sig.returnType = none) (hlk : meth.locks = false) (hR : 45 ≤ R.frames ∧ 1006 ≤ R.locals) {q : St_} : ∀ (σ : St_) (a0 : Nat) (x1 : Int32) (x2 : Nat), Ex_ σ0 σ → kd_ σ a0 = 9 → kd_ σ x2 = 10 → f_X9_tables fu σ a0 x1 x2 = some q → ∀ (H : Heap) (locs : List Loc) (ls : Array Slot), Ht_ G cy (va_A (wl_ cy ad σ0) sz) s ad σ H locs → lv_has ls 5 [(0, .ref (ad a0)), (1, .int x1), (2, .ref (ad x2))] → W p l e R s m args below meth c H locs 0 0 (MQ below (Qv_ G cy ad σ0 q sz) args s 0 0 (va_A (wl_ cy ad σ0) sz)) (F0 m 0 ls []) := by
  intro σ a0 x1 x2 hE hk_a0 hk_x2 hf H locs ls h hl
  have hf : (f_X9_tables_2 fu fu σ a0 x1 x2 (0 : Int32)) = some q := hf
  refine lv_iconst (v := (0 : Int32)) C.1 C.2.1 dX9_tables_0 (by decide) ?_
  refine lv_istore_n (i := 3) (lv' := [(3, .int (0 : Int32)), (0, .ref (ad a0)), (1, .int x1), (2, .ref (ad x2))]) C.1 C.2.1 dX9_tables_1 rfl hl (by decide) rfl (fun ls hl => ?_)
  exact w_X9_tables_2 fu C K hr hlk hR fu σ a0 x1 x2 (0 : Int32) hE hk_a0 hk_x2 hf _ _ _ h (lv_sub hl [1, 2, 3, 0] rfl)
theorem c_X9_tables (fu : Nat) (l : Launch) (κ : Ka_) (G : va_G) (cy : Nat → ClassId) (ad : Nat → Nat) (sz : Nat) (σ : St_) (a0 : Nat) (x1 : Int32) (x2 : Nat) (hk_a0 : kd_ σ a0 = 9) (hk_x2 : kd_ σ x2 = 10) {q : St_} (hf : f_X9_tables fu σ a0 x1 x2 = some q) : Met l yX9_tables (Cond.code yX9_tables cX9_tables 5 none :: wU_) { frames := 45, cells := 0, slots := 0, locals := 1006 } (va_Pc [.ref (ad a0), .int x1, .ref (ad x2)] (Pr_ κ G cy ad σ sz)) (Qv_ G cy ad σ q sz) 0 0 (va_A (wl_ cy ad σ) sz) :=
  x_met (by decide) (fun p e R s m below meth c ls hR C hr hlk hin _ K h hl => w_X9_tables fu C K hr hlk ⟨hR.1, hR.2.1⟩ σ a0 x1 x2 Ex_.rf hk_a0 hk_x2 hf s.heap [] ls h hl) (Nat.le_of_ble_eq_true rfl)
-- X9_spreads
theorem mi_X9_spreads : Mi_ yX9_spreads cX9_spreads 5 none 1 := ⟨co_yX9_spreads, in_RX9, by decide, by decide, by decide +kernel⟩
def f_X9_spreads_42 (fu : Nat) (k34 : St_ → Nat → Int32 → Option St_) : Nat → St_ → Nat → Int32 → Int32 → Option St_
  | 0 => fun _ _ _ _ => none
  | n + 1 => fun σ  v0  v2  v3 => if (288 : Int32) ≤ v3 then k34 σ v0 v2 else (dr_ σ 10 (sr_ σ v0 29)).bind fun b2 => (ix_ (v3 / (8 : Int32)) (ln_ σ b2)).bind fun j3 => (dr_ σ 10 (sr_ σ v0 27)).bind fun b4 => (ix_ v3 (ln_ σ b4)).bind fun j5 => (ix_ (si_ σ b4 j5) (ln_ σ b2)).bind fun j6 => if (si_ σ b2 j6) ≤ ((si_ σ b2 j3) + (1 : Int32)) then (f_X9_spreads_42 fu k34 n) σ v0 v2 (v3 + (1 : Int32)) else if (1000000 : Int32) ≤ ((si_ σ b2 j3) + (1 : Int32)) then (f_X9_spreads_42 fu k34 n) σ v0 v2 (v3 + (1 : Int32)) else (ix_ v3 (ln_ σ b4)).bind fun j9 => (ix_ (si_ σ b4 j9) (ln_ σ b2)).bind fun j10 => (f_X9_spreads_42 fu k34 n) (ui_ σ b2 j10 ((si_ σ b2 j3) + (1 : Int32))) v0 (1 : Int32) (v3 + (1 : Int32))
set_option maxHeartbeats 4000000 in
set_option maxRecDepth 100000 in
theorem w_X9_spreads_42 {p : Program} {l : Launch} {e : Env} {R : Room} {s : State} {m : MethodId} {args : Array Value} {below : List Frame} {meth : Method} {c : Code} {κ : Ka_} {G : va_G} {cy : Nat → ClassId} {ad : Nat → Nat} {sz : Nat} {σ0 : St_} (fu : Nat) (C : CallFix p m c cX9_spreads 5 s args wU_ RX9) (K : Kx_ κ G cy (va_A (wl_ cy ad σ0) sz) s) (hr : meth.sig.returnType = none) (hlk : meth.locks = false) (hR : 0 ≤ R.frames ∧ 0 ≤ R.locals) {q : St_} (k34 : St_ → Nat → Int32 → Option St_) (hk34 : ∀ (σ : St_) (v0 : Nat) (v2 : Int32), Ex_ σ0 σ → kd_ σ v0 = 9 → k34 σ v0 v2 = some q → ∀ (H : Heap) (locs : List Loc) (ls : Array Slot), Ht_ G cy (va_A (wl_ cy ad σ0) sz) s ad σ H locs → lv_has ls 5 [(0, .ref (ad v0)), (2, .int v2)] → W p l e R s m args below meth c H locs 0 0 (MQ below (Qv_ G cy ad σ0 q sz) args s 0 0 (va_A (wl_ cy ad σ0) sz)) (F0 m 34 ls [])) : ∀ n : Nat, ∀ (σ : St_) (v0 : Nat) (v2 : Int32) (v3 : Int32), Ex_ σ0 σ → kd_ σ v0 = 9 → f_X9_spreads_42 fu k34 n σ v0 v2 v3 = some q → ∀ (H : Heap) (locs : List Loc) (ls : Array Slot), Ht_ G cy (va_A (wl_ cy ad σ0) sz) s ad σ H locs → lv_has ls 5 [(0, .ref (ad v0)), (2, .int v2), (3, .int v3)] → W p l e R s m args below meth c H locs 0 0 (MQ below (Qv_ G cy ad σ0 q sz) args s 0 0 (va_A (wl_ cy ad σ0) sz)) (F0 m 42 ls []) := by
  intro n
  induction n with
  | zero =>
    intro σ v0 v2 v3 hE hk_v0 hf H locs ls h hl
    cases hf
  | succ n ih =>
    intro σ v0 v2 v3 hE hk_v0 hf H locs ls h hl
    have hf : (if (288 : Int32) ≤ v3 then k34 σ v0 v2 else (dr_ σ 10 (sr_ σ v0 29)).bind fun b2 => (ix_ (v3 / (8 : Int32)) (ln_ σ b2)).bind fun j3 => (dr_ σ 10 (sr_ σ v0 27)).bind fun b4 => (ix_ v3 (ln_ σ b4)).bind fun j5 => (ix_ (si_ σ b4 j5) (ln_ σ b2)).bind fun j6 => if (si_ σ b2 j6) ≤ ((si_ σ b2 j3) + (1 : Int32)) then (f_X9_spreads_42 fu k34 n) σ v0 v2 (v3 + (1 : Int32)) else if (1000000 : Int32) ≤ ((si_ σ b2 j3) + (1 : Int32)) then (f_X9_spreads_42 fu k34 n) σ v0 v2 (v3 + (1 : Int32)) else (ix_ v3 (ln_ σ b4)).bind fun j9 => (ix_ (si_ σ b4 j9) (ln_ σ b2)).bind fun j10 => (f_X9_spreads_42 fu k34 n) (ui_ σ b2 j10 ((si_ σ b2 j3) + (1 : Int32))) v0 (1 : Int32) (v3 + (1 : Int32))) = some q := hf
    refine lv_iload_n C.1 C.2.1 dX9_spreads_42 rfl (lv_at hl 2 rfl) ?_
    refine lv_sipush (v := (288 : Int32)) C.1 C.2.1 dX9_spreads_43 (by decide) ?_
    refine lv_icmp_ge (tgt := 107) C.1 C.2.1 dX9_spreads_46 (by decide) (fun c1 => ?_) (fun c1 => ?_)
    · have hf := if_t hf c1
      refine lv_goto (tgt := 34) C.1 C.2.1 dX9_spreads_107 (by decide) ?_
      exact hk34 σ v0 v2 hE hk_v0 hf _ _ _ h (lv_sub hl [0, 1] rfl)
    · have hf := if_f hf c1
      refine lv_aload_n C.1 C.2.1 dX9_spreads_49 rfl (lv_at hl 0 rfl) ?_
      obtain ⟨b2, hb_b2, hf⟩ := ob_ hf
      obtain ⟨hq_b2, hk_b2⟩ := dr_in hb_b2
      refine x_get (v := .ref (ad b2)) C K h cl_9 hk_v0 29 (by decide) fl_RX9_38 (hv_r (o := sr_ σ v0 29) rfl hq_b2) dX9_spreads_50 ?_
      refine lv_iload_n C.1 C.2.1 dX9_spreads_53 rfl (lv_at hl 2 rfl) ?_
      refine lv_bipush (v := (8 : Int32)) C.1 C.2.1 dX9_spreads_54 (by decide) ?_
      refine lv_idiv C.1 C.2.1 dX9_spreads_56 (by decide) ?_
      obtain ⟨j3, hj_j3, hf⟩ := ob_ hf
      refine x_iald C K h hk_b2 hj_j3 dX9_spreads_57 ?_
      refine lv_iconst (v := (1 : Int32)) C.1 C.2.1 dX9_spreads_58 (by decide) ?_
      refine lv_iadd C.1 C.2.1 dX9_spreads_59 ?_
      refine lv_istore (i := 4) (lv' := [(4, .int ((si_ σ b2 j3) + (1 : Int32))), (0, .ref (ad v0)), (2, .int v2), (3, .int v3)]) C.1 C.2.1 dX9_spreads_60 hl (by decide) rfl (fun ls hl => ?_)
      refine lv_iload C.1 C.2.1 dX9_spreads_62 (lv_at hl 0 rfl) ?_
      refine lv_aload_n C.1 C.2.1 dX9_spreads_64 rfl (lv_at hl 1 rfl) ?_
      refine x_get (v := .ref (ad b2)) C K h cl_9 hk_v0 29 (by decide) fl_RX9_38 (hv_r (o := sr_ σ v0 29) rfl hq_b2) dX9_spreads_65 ?_
      refine lv_aload_n C.1 C.2.1 dX9_spreads_68 rfl (lv_at hl 1 rfl) ?_
      obtain ⟨b4, hb_b4, hf⟩ := ob_ hf
      obtain ⟨hq_b4, hk_b4⟩ := dr_in hb_b4
      refine x_get (v := .ref (ad b4)) C K h cl_9 hk_v0 27 (by decide) fl_RX9_32 (hv_r (o := sr_ σ v0 27) rfl hq_b4) dX9_spreads_69 ?_
      refine lv_iload_n C.1 C.2.1 dX9_spreads_72 rfl (lv_at hl 3 rfl) ?_
      obtain ⟨j5, hj_j5, hf⟩ := ob_ hf
      refine x_iald C K h hk_b4 hj_j5 dX9_spreads_73 ?_
      obtain ⟨j6, hj_j6, hf⟩ := ob_ hf
      refine x_iald C K h hk_b2 hj_j6 dX9_spreads_74 ?_
      refine lv_icmp_ge (tgt := 101) C.1 C.2.1 dX9_spreads_75 (by decide) (fun c7 => ?_) (fun c7 => ?_)
      · have hf := if_t hf c7
        refine lv_iinc (v := v3 + (1 : Int32)) (lv' := [(3, .int (v3 + (1 : Int32))), (4, .int ((si_ σ b2 j3) + (1 : Int32))), (0, .ref (ad v0)), (2, .int v2)]) C.1 C.2.1 dX9_spreads_101 hl (k := 3) rfl rfl (by decide) rfl (fun ls hl => ?_)
        refine lv_goto (tgt := 42) C.1 C.2.1 dX9_spreads_104 (by decide) ?_
        exact ih σ v0 v2 (v3 + (1 : Int32)) hE hk_v0 hf _ _ _ h (lv_sub hl [2, 3, 0] rfl)
      · have hf := if_f hf c7
        refine lv_iload C.1 C.2.1 dX9_spreads_78 (lv_at hl 0 rfl) ?_
        refine lv_ldcw (v := (1000000 : Int32)) C.1 C.2.1 C.2.2.2.1 (C.2.2.2.2 _ ck_RX9_369) dX9_spreads_80 ?_
        refine lv_icmp_ge (tgt := 101) C.1 C.2.1 dX9_spreads_83 (by decide) (fun c8 => ?_) (fun c8 => ?_)
        · have hf := if_t hf c8
          refine lv_iinc (v := v3 + (1 : Int32)) (lv' := [(3, .int (v3 + (1 : Int32))), (4, .int ((si_ σ b2 j3) + (1 : Int32))), (0, .ref (ad v0)), (2, .int v2)]) C.1 C.2.1 dX9_spreads_101 hl (k := 3) rfl rfl (by decide) rfl (fun ls hl => ?_)
          refine lv_goto (tgt := 42) C.1 C.2.1 dX9_spreads_104 (by decide) ?_
          exact ih σ v0 v2 (v3 + (1 : Int32)) hE hk_v0 hf _ _ _ h (lv_sub hl [2, 3, 0] rfl)
        · have hf := if_f hf c8
          refine lv_aload_n C.1 C.2.1 dX9_spreads_86 rfl (lv_at hl 1 rfl) ?_
          refine x_get (v := .ref (ad b2)) C K h cl_9 hk_v0 29 (by decide) fl_RX9_38 (hv_r (o := sr_ σ v0 29) rfl hq_b2) dX9_spreads_87 ?_
          refine lv_aload_n C.1 C.2.1 dX9_spreads_90 rfl (lv_at hl 1 rfl) ?_
          refine x_get (v := .ref (ad b4)) C K h cl_9 hk_v0 27 (by decide) fl_RX9_32 (hv_r (o := sr_ σ v0 27) rfl hq_b4) dX9_spreads_91 ?_
          refine lv_iload_n C.1 C.2.1 dX9_spreads_94 rfl (lv_at hl 3 rfl) ?_
          obtain ⟨j9, hj_j9, hf⟩ := ob_ hf
          refine x_iald C K h hk_b4 hj_j9 dX9_spreads_95 ?_
          refine lv_iload C.1 C.2.1 dX9_spreads_96 (lv_at hl 0 rfl) ?_
          obtain ⟨j10, hj_j10, hf⟩ := ob_ hf
          refine x_iast C K h hk_b2 hj_j10 dX9_spreads_98 (fun H locs h => ?_)
          have hE := hE.up (up_i σ b2 j10 ((si_ σ b2 j3) + (1 : Int32)))
          refine lv_iconst (v := (1 : Int32)) C.1 C.2.1 dX9_spreads_99 (by decide) ?_
          refine lv_istore_n (i := 2) (lv' := [(2, .int (1 : Int32)), (4, .int ((si_ σ b2 j3) + (1 : Int32))), (0, .ref (ad v0)), (3, .int v3)]) C.1 C.2.1 dX9_spreads_100 rfl hl (by decide) rfl (fun ls hl => ?_)
          refine lv_iinc (v := v3 + (1 : Int32)) (lv' := [(3, .int (v3 + (1 : Int32))), (2, .int (1 : Int32)), (4, .int ((si_ σ b2 j3) + (1 : Int32))), (0, .ref (ad v0))]) C.1 C.2.1 dX9_spreads_101 hl (k := 3) rfl rfl (by decide) rfl (fun ls hl => ?_)
          refine lv_goto (tgt := 42) C.1 C.2.1 dX9_spreads_104 (by decide) ?_
          exact ih (ui_ σ b2 j10 ((si_ σ b2 j3) + (1 : Int32))) v0 (1 : Int32) (v3 + (1 : Int32)) hE hk_v0 hf _ _ _ h (lv_sub hl [3, 1, 0] rfl)
def f_X9_spreads_34 (fu : Nat) : Nat → St_ → Nat → Int32 → Option St_
  | 0 => fun _ _ _ => none
  | n + 1 => fun σ  v0  v2 => if v2 = 0 then some σ else f_X9_spreads_42 fu (f_X9_spreads_34 fu n) fu σ v0 (0 : Int32) (0 : Int32)
set_option maxHeartbeats 4000000 in
set_option maxRecDepth 100000 in
theorem w_X9_spreads_34 {p : Program} {l : Launch} {e : Env} {R : Room} {s : State} {m : MethodId} {args : Array Value} {below : List Frame} {meth : Method} {c : Code} {κ : Ka_} {G : va_G} {cy : Nat → ClassId} {ad : Nat → Nat} {sz : Nat} {σ0 : St_} (fu : Nat) (C : CallFix p m c cX9_spreads 5 s args wU_ RX9) (K : Kx_ κ G cy (va_A (wl_ cy ad σ0) sz) s) (hr : meth.sig.returnType = none) (hlk : meth.locks = false) (hR : 0 ≤ R.frames ∧ 0 ≤ R.locals) {q : St_} : ∀ n : Nat, ∀ (σ : St_) (v0 : Nat) (v2 : Int32), Ex_ σ0 σ → kd_ σ v0 = 9 → f_X9_spreads_34 fu n σ v0 v2 = some q → ∀ (H : Heap) (locs : List Loc) (ls : Array Slot), Ht_ G cy (va_A (wl_ cy ad σ0) sz) s ad σ H locs → lv_has ls 5 [(0, .ref (ad v0)), (2, .int v2)] → W p l e R s m args below meth c H locs 0 0 (MQ below (Qv_ G cy ad σ0 q sz) args s 0 0 (va_A (wl_ cy ad σ0) sz)) (F0 m 34 ls []) := by
  intro n
  induction n with
  | zero =>
    intro σ v0 v2 hE hk_v0 hf H locs ls h hl
    cases hf
  | succ n ih =>
    intro σ v0 v2 hE hk_v0 hf H locs ls h hl
    have hf : (if v2 = 0 then some σ else f_X9_spreads_42 fu (f_X9_spreads_34 fu n) fu σ v0 (0 : Int32) (0 : Int32)) = some q := hf
    refine lv_iload_n C.1 C.2.1 dX9_spreads_34 rfl (lv_at hl 1 rfl) ?_
    refine lv_if_eq (tgt := 110) C.1 C.2.1 dX9_spreads_35 (by decide) (fun c1 => ?_) (fun c1 => ?_)
    · have hf := if_t hf c1
      exact x_rv C hr hlk h hE (Option.some.inj hf) dX9_spreads_110
    · have hf := if_f hf c1
      refine lv_iconst (v := (0 : Int32)) C.1 C.2.1 dX9_spreads_38 (by decide) ?_
      refine lv_istore_n (i := 2) (lv' := [(2, .int (0 : Int32)), (0, .ref (ad v0))]) C.1 C.2.1 dX9_spreads_39 rfl hl (by decide) rfl (fun ls hl => ?_)
      refine lv_iconst (v := (0 : Int32)) C.1 C.2.1 dX9_spreads_40 (by decide) ?_
      refine lv_istore_n (i := 3) (lv' := [(3, .int (0 : Int32)), (2, .int (0 : Int32)), (0, .ref (ad v0))]) C.1 C.2.1 dX9_spreads_41 rfl hl (by decide) rfl (fun ls hl => ?_)
      exact w_X9_spreads_42 fu C K hr hlk hR (f_X9_spreads_34 fu n) ih fu σ v0 (0 : Int32) (0 : Int32) hE hk_v0 hf _ _ _ h (lv_sub hl [2, 1, 0] rfl)
def f_X9_spreads_2 (fu : Nat) : Nat → St_ → Nat → Int32 → Int32 → Option St_
  | 0 => fun _ _ _ _ => none
  | n + 1 => fun σ  v0  v1  v2 => if (36 : Int32) ≤ v2 then f_X9_spreads_34 fu fu σ v0 (1 : Int32) else (dr_ σ 10 (sr_ σ v0 29)).bind fun b2 => if v2 = v1 then (ix_ v2 (ln_ σ b2)).bind fun j5 => (f_X9_spreads_2 fu n) (ui_ σ b2 j5 (0 : Int32)) v0 v1 (v2 + (1 : Int32)) else (ix_ v2 (ln_ σ b2)).bind fun j4 => (f_X9_spreads_2 fu n) (ui_ σ b2 j4 (1000000 : Int32)) v0 v1 (v2 + (1 : Int32))
set_option maxHeartbeats 4000000 in
set_option maxRecDepth 100000 in
theorem w_X9_spreads_2 {p : Program} {l : Launch} {e : Env} {R : Room} {s : State} {m : MethodId} {args : Array Value} {below : List Frame} {meth : Method} {c : Code} {κ : Ka_} {G : va_G} {cy : Nat → ClassId} {ad : Nat → Nat} {sz : Nat} {σ0 : St_} (fu : Nat) (C : CallFix p m c cX9_spreads 5 s args wU_ RX9) (K : Kx_ κ G cy (va_A (wl_ cy ad σ0) sz) s) (hr : meth.sig.returnType = none) (hlk : meth.locks = false) (hR : 0 ≤ R.frames ∧ 0 ≤ R.locals) {q : St_} : ∀ n : Nat, ∀ (σ : St_) (v0 : Nat) (v1 : Int32) (v2 : Int32), Ex_ σ0 σ → kd_ σ v0 = 9 → f_X9_spreads_2 fu n σ v0 v1 v2 = some q → ∀ (H : Heap) (locs : List Loc) (ls : Array Slot), Ht_ G cy (va_A (wl_ cy ad σ0) sz) s ad σ H locs → lv_has ls 5 [(0, .ref (ad v0)), (1, .int v1), (2, .int v2)] → W p l e R s m args below meth c H locs 0 0 (MQ below (Qv_ G cy ad σ0 q sz) args s 0 0 (va_A (wl_ cy ad σ0) sz)) (F0 m 2 ls []) := by
  intro n
  induction n with
  | zero =>
    intro σ v0 v1 v2 hE hk_v0 hf H locs ls h hl
    cases hf
  | succ n ih =>
    intro σ v0 v1 v2 hE hk_v0 hf H locs ls h hl
    have hf : (if (36 : Int32) ≤ v2 then f_X9_spreads_34 fu fu σ v0 (1 : Int32) else (dr_ σ 10 (sr_ σ v0 29)).bind fun b2 => if v2 = v1 then (ix_ v2 (ln_ σ b2)).bind fun j5 => (f_X9_spreads_2 fu n) (ui_ σ b2 j5 (0 : Int32)) v0 v1 (v2 + (1 : Int32)) else (ix_ v2 (ln_ σ b2)).bind fun j4 => (f_X9_spreads_2 fu n) (ui_ σ b2 j4 (1000000 : Int32)) v0 v1 (v2 + (1 : Int32))) = some q := hf
    refine lv_iload_n C.1 C.2.1 dX9_spreads_2 rfl (lv_at hl 2 rfl) ?_
    refine lv_bipush (v := (36 : Int32)) C.1 C.2.1 dX9_spreads_3 (by decide) ?_
    refine lv_icmp_ge (tgt := 32) C.1 C.2.1 dX9_spreads_5 (by decide) (fun c1 => ?_) (fun c1 => ?_)
    · have hf := if_t hf c1
      refine lv_iconst (v := (1 : Int32)) C.1 C.2.1 dX9_spreads_32 (by decide) ?_
      refine lv_istore_n (i := 2) (lv' := [(2, .int (1 : Int32)), (0, .ref (ad v0)), (1, .int v1)]) C.1 C.2.1 dX9_spreads_33 rfl hl (by decide) rfl (fun ls hl => ?_)
      exact w_X9_spreads_34 fu C K hr hlk hR fu σ v0 (1 : Int32) hE hk_v0 hf _ _ _ h (lv_sub hl [1, 0] rfl)
    · have hf := if_f hf c1
      refine lv_aload_n C.1 C.2.1 dX9_spreads_8 rfl (lv_at hl 0 rfl) ?_
      obtain ⟨b2, hb_b2, hf⟩ := ob_ hf
      obtain ⟨hq_b2, hk_b2⟩ := dr_in hb_b2
      refine x_get (v := .ref (ad b2)) C K h cl_9 hk_v0 29 (by decide) fl_RX9_38 (hv_r (o := sr_ σ v0 29) rfl hq_b2) dX9_spreads_9 ?_
      refine lv_iload_n C.1 C.2.1 dX9_spreads_12 rfl (lv_at hl 2 rfl) ?_
      refine lv_iload_n C.1 C.2.1 dX9_spreads_13 rfl (lv_at hl 2 rfl) ?_
      refine lv_iload_n C.1 C.2.1 dX9_spreads_14 rfl (lv_at hl 1 rfl) ?_
      refine lv_icmp_ne (tgt := 22) C.1 C.2.1 dX9_spreads_15 (by decide) (fun c3 => ?_) (fun c3 => ?_)
      · have hf := if_f hf c3
        refine lv_ldcw (v := (1000000 : Int32)) C.1 C.2.1 C.2.2.2.1 (C.2.2.2.2 _ ck_RX9_369) dX9_spreads_22 ?_
        obtain ⟨j4, hj_j4, hf⟩ := ob_ hf
        refine x_iast C K h hk_b2 hj_j4 dX9_spreads_25 (fun H locs h => ?_)
        have hE := hE.up (up_i σ b2 j4 (1000000 : Int32))
        refine lv_iinc (v := v2 + (1 : Int32)) (lv' := [(2, .int (v2 + (1 : Int32))), (0, .ref (ad v0)), (1, .int v1)]) C.1 C.2.1 dX9_spreads_26 hl (k := 2) rfl rfl (by decide) rfl (fun ls hl => ?_)
        refine lv_goto (tgt := 2) C.1 C.2.1 dX9_spreads_29 (by decide) ?_
        exact ih (ui_ σ b2 j4 (1000000 : Int32)) v0 v1 (v2 + (1 : Int32)) hE hk_v0 hf _ _ _ h (lv_sub hl [1, 2, 0] rfl)
      · have hf := if_t hf c3
        refine lv_iconst (v := (0 : Int32)) C.1 C.2.1 dX9_spreads_18 (by decide) ?_
        refine lv_goto (tgt := 25) C.1 C.2.1 dX9_spreads_19 (by decide) ?_
        obtain ⟨j5, hj_j5, hf⟩ := ob_ hf
        refine x_iast C K h hk_b2 hj_j5 dX9_spreads_25 (fun H locs h => ?_)
        have hE := hE.up (up_i σ b2 j5 (0 : Int32))
        refine lv_iinc (v := v2 + (1 : Int32)) (lv' := [(2, .int (v2 + (1 : Int32))), (0, .ref (ad v0)), (1, .int v1)]) C.1 C.2.1 dX9_spreads_26 hl (k := 2) rfl rfl (by decide) rfl (fun ls hl => ?_)
        refine lv_goto (tgt := 2) C.1 C.2.1 dX9_spreads_29 (by decide) ?_
        exact ih (ui_ σ b2 j5 (0 : Int32)) v0 v1 (v2 + (1 : Int32)) hE hk_v0 hf _ _ _ h (lv_sub hl [1, 2, 0] rfl)
def f_X9_spreads (fu : Nat) (σ : St_) (a0 : Nat) (x1 : Int32) : Option St_ := f_X9_spreads_2 fu fu σ a0 x1 (0 : Int32)
set_option maxHeartbeats 4000000 in
set_option maxRecDepth 100000 in
theorem w_X9_spreads {p : Program} {l : Launch} {e : Env} {R : Room} {s : State} {m : MethodId} {args : Array Value} {below : List Frame} {meth : Method} {c : Code} {κ : Ka_} {G : va_G} {cy : Nat → ClassId} {ad : Nat → Nat} {sz : Nat} {σ0 : St_} (fu : Nat) (C : CallFix p m c cX9_spreads 5 s args wU_ RX9) (K : Kx_ κ G cy (va_A (wl_ cy ad σ0) sz) s) (hr : meth.sig.returnType = none) (hlk : meth.locks = false) (hR : 0 ≤ R.frames ∧ 0 ≤ R.locals) {q : St_} : ∀ (σ : St_) (a0 : Nat) (x1 : Int32), Ex_ σ0 σ → kd_ σ a0 = 9 → f_X9_spreads fu σ a0 x1 = some q → ∀ (H : Heap) (locs : List Loc) (ls : Array Slot), Ht_ G cy (va_A (wl_ cy ad σ0) sz) s ad σ H locs → lv_has ls 5 [(0, .ref (ad a0)), (1, .int x1)] → W p l e R s m args below meth c H locs 0 0 (MQ below (Qv_ G cy ad σ0 q sz) args s 0 0 (va_A (wl_ cy ad σ0) sz)) (F0 m 0 ls []) := by
  intro σ a0 x1 hE hk_a0 hf H locs ls h hl
  have hf : (f_X9_spreads_2 fu fu σ a0 x1 (0 : Int32)) = some q := hf
  refine lv_iconst (v := (0 : Int32)) C.1 C.2.1 dX9_spreads_0 (by decide) ?_
  refine lv_istore_n (i := 2) (lv' := [(2, .int (0 : Int32)), (0, .ref (ad a0)), (1, .int x1)]) C.1 C.2.1 dX9_spreads_1 rfl hl (by decide) rfl (fun ls hl => ?_)
  exact w_X9_spreads_2 fu C K hr hlk hR fu σ a0 x1 (0 : Int32) hE hk_a0 hf _ _ _ h (lv_sub hl [1, 2, 0] rfl)
theorem c_X9_spreads (fu : Nat) (l : Launch) (κ : Ka_) (G : va_G) (cy : Nat → ClassId) (ad : Nat → Nat) (sz : Nat) (σ : St_) (a0 : Nat) (x1 : Int32) (hk_a0 : kd_ σ a0 = 9) {q : St_} (hf : f_X9_spreads fu σ a0 x1 = some q) : Met l yX9_spreads (Cond.code yX9_spreads cX9_spreads 5 none :: wU_) { frames := 0, cells := 0, slots := 0, locals := 0 } (va_Pc [.ref (ad a0), .int x1] (Pr_ κ G cy ad σ sz)) (Qv_ G cy ad σ q sz) 0 0 (va_A (wl_ cy ad σ) sz) :=
  x_met (by decide) (fun p e R s m below meth c ls hR C hr hlk hin _ K h hl => w_X9_spreads fu C K hr hlk ⟨hR.1, hR.2.1⟩ σ a0 x1 Ex_.rf hk_a0 hf s.heap [] ls h hl) (Nat.le_of_ble_eq_true rfl)
-- X9_gathers
theorem mi_X9_gathers : Mi_ yX9_gathers cX9_gathers 5 none 1 := ⟨co_yX9_gathers, in_RX9, by decide, by decide, by decide +kernel⟩
def f_X9_gathers_42 (fu : Nat) (k34 : St_ → Nat → Int32 → Option St_) : Nat → St_ → Nat → Int32 → Int32 → Option St_
  | 0 => fun _ _ _ _ => none
  | n + 1 => fun σ  v0  v2  v3 => if (288 : Int32) ≤ v3 then k34 σ v0 v2 else (dr_ σ 10 (sr_ σ v0 29)).bind fun b2 => (dr_ σ 10 (sr_ σ v0 27)).bind fun b3 => (ix_ v3 (ln_ σ b3)).bind fun j4 => (ix_ (si_ σ b3 j4) (ln_ σ b2)).bind fun j5 => (ix_ (v3 / (8 : Int32)) (ln_ σ b2)).bind fun j6 => if (si_ σ b2 j6) ≤ ((si_ σ b2 j5) + (1 : Int32)) then (f_X9_gathers_42 fu k34 n) σ v0 v2 (v3 + (1 : Int32)) else if (1000000 : Int32) ≤ ((si_ σ b2 j5) + (1 : Int32)) then (f_X9_gathers_42 fu k34 n) σ v0 v2 (v3 + (1 : Int32)) else (ix_ (v3 / (8 : Int32)) (ln_ σ b2)).bind fun j9 => (f_X9_gathers_42 fu k34 n) (ui_ σ b2 j9 ((si_ σ b2 j5) + (1 : Int32))) v0 (1 : Int32) (v3 + (1 : Int32))
set_option maxHeartbeats 4000000 in
set_option maxRecDepth 100000 in
theorem w_X9_gathers_42 {p : Program} {l : Launch} {e : Env} {R : Room} {s : State} {m : MethodId} {args : Array Value} {below : List Frame} {meth : Method} {c : Code} {κ : Ka_} {G : va_G} {cy : Nat → ClassId} {ad : Nat → Nat} {sz : Nat} {σ0 : St_} (fu : Nat) (C : CallFix p m c cX9_gathers 5 s args wU_ RX9) (K : Kx_ κ G cy (va_A (wl_ cy ad σ0) sz) s) (hr : meth.sig.returnType = none) (hlk : meth.locks = false) (hR : 0 ≤ R.frames ∧ 0 ≤ R.locals) {q : St_} (k34 : St_ → Nat → Int32 → Option St_) (hk34 : ∀ (σ : St_) (v0 : Nat) (v2 : Int32), Ex_ σ0 σ → kd_ σ v0 = 9 → k34 σ v0 v2 = some q → ∀ (H : Heap) (locs : List Loc) (ls : Array Slot), Ht_ G cy (va_A (wl_ cy ad σ0) sz) s ad σ H locs → lv_has ls 5 [(0, .ref (ad v0)), (2, .int v2)] → W p l e R s m args below meth c H locs 0 0 (MQ below (Qv_ G cy ad σ0 q sz) args s 0 0 (va_A (wl_ cy ad σ0) sz)) (F0 m 34 ls [])) : ∀ n : Nat, ∀ (σ : St_) (v0 : Nat) (v2 : Int32) (v3 : Int32), Ex_ σ0 σ → kd_ σ v0 = 9 → f_X9_gathers_42 fu k34 n σ v0 v2 v3 = some q → ∀ (H : Heap) (locs : List Loc) (ls : Array Slot), Ht_ G cy (va_A (wl_ cy ad σ0) sz) s ad σ H locs → lv_has ls 5 [(0, .ref (ad v0)), (2, .int v2), (3, .int v3)] → W p l e R s m args below meth c H locs 0 0 (MQ below (Qv_ G cy ad σ0 q sz) args s 0 0 (va_A (wl_ cy ad σ0) sz)) (F0 m 42 ls []) := by
  intro n
  induction n with
  | zero =>
    intro σ v0 v2 v3 hE hk_v0 hf H locs ls h hl
    cases hf
  | succ n ih =>
    intro σ v0 v2 v3 hE hk_v0 hf H locs ls h hl
    have hf : (if (288 : Int32) ≤ v3 then k34 σ v0 v2 else (dr_ σ 10 (sr_ σ v0 29)).bind fun b2 => (dr_ σ 10 (sr_ σ v0 27)).bind fun b3 => (ix_ v3 (ln_ σ b3)).bind fun j4 => (ix_ (si_ σ b3 j4) (ln_ σ b2)).bind fun j5 => (ix_ (v3 / (8 : Int32)) (ln_ σ b2)).bind fun j6 => if (si_ σ b2 j6) ≤ ((si_ σ b2 j5) + (1 : Int32)) then (f_X9_gathers_42 fu k34 n) σ v0 v2 (v3 + (1 : Int32)) else if (1000000 : Int32) ≤ ((si_ σ b2 j5) + (1 : Int32)) then (f_X9_gathers_42 fu k34 n) σ v0 v2 (v3 + (1 : Int32)) else (ix_ (v3 / (8 : Int32)) (ln_ σ b2)).bind fun j9 => (f_X9_gathers_42 fu k34 n) (ui_ σ b2 j9 ((si_ σ b2 j5) + (1 : Int32))) v0 (1 : Int32) (v3 + (1 : Int32))) = some q := hf
    refine lv_iload_n C.1 C.2.1 dX9_gathers_42 rfl (lv_at hl 2 rfl) ?_
    refine lv_sipush (v := (288 : Int32)) C.1 C.2.1 dX9_gathers_43 (by decide) ?_
    refine lv_icmp_ge (tgt := 105) C.1 C.2.1 dX9_gathers_46 (by decide) (fun c1 => ?_) (fun c1 => ?_)
    · have hf := if_t hf c1
      refine lv_goto (tgt := 34) C.1 C.2.1 dX9_gathers_105 (by decide) ?_
      exact hk34 σ v0 v2 hE hk_v0 hf _ _ _ h (lv_sub hl [0, 1] rfl)
    · have hf := if_f hf c1
      refine lv_aload_n C.1 C.2.1 dX9_gathers_49 rfl (lv_at hl 0 rfl) ?_
      obtain ⟨b2, hb_b2, hf⟩ := ob_ hf
      obtain ⟨hq_b2, hk_b2⟩ := dr_in hb_b2
      refine x_get (v := .ref (ad b2)) C K h cl_9 hk_v0 29 (by decide) fl_RX9_38 (hv_r (o := sr_ σ v0 29) rfl hq_b2) dX9_gathers_50 ?_
      refine lv_aload_n C.1 C.2.1 dX9_gathers_53 rfl (lv_at hl 0 rfl) ?_
      obtain ⟨b3, hb_b3, hf⟩ := ob_ hf
      obtain ⟨hq_b3, hk_b3⟩ := dr_in hb_b3
      refine x_get (v := .ref (ad b3)) C K h cl_9 hk_v0 27 (by decide) fl_RX9_32 (hv_r (o := sr_ σ v0 27) rfl hq_b3) dX9_gathers_54 ?_
      refine lv_iload_n C.1 C.2.1 dX9_gathers_57 rfl (lv_at hl 2 rfl) ?_
      obtain ⟨j4, hj_j4, hf⟩ := ob_ hf
      refine x_iald C K h hk_b3 hj_j4 dX9_gathers_58 ?_
      obtain ⟨j5, hj_j5, hf⟩ := ob_ hf
      refine x_iald C K h hk_b2 hj_j5 dX9_gathers_59 ?_
      refine lv_iconst (v := (1 : Int32)) C.1 C.2.1 dX9_gathers_60 (by decide) ?_
      refine lv_iadd C.1 C.2.1 dX9_gathers_61 ?_
      refine lv_istore (i := 4) (lv' := [(4, .int ((si_ σ b2 j5) + (1 : Int32))), (0, .ref (ad v0)), (2, .int v2), (3, .int v3)]) C.1 C.2.1 dX9_gathers_62 hl (by decide) rfl (fun ls hl => ?_)
      refine lv_iload C.1 C.2.1 dX9_gathers_64 (lv_at hl 0 rfl) ?_
      refine lv_aload_n C.1 C.2.1 dX9_gathers_66 rfl (lv_at hl 1 rfl) ?_
      refine x_get (v := .ref (ad b2)) C K h cl_9 hk_v0 29 (by decide) fl_RX9_38 (hv_r (o := sr_ σ v0 29) rfl hq_b2) dX9_gathers_67 ?_
      refine lv_iload_n C.1 C.2.1 dX9_gathers_70 rfl (lv_at hl 3 rfl) ?_
      refine lv_bipush (v := (8 : Int32)) C.1 C.2.1 dX9_gathers_71 (by decide) ?_
      refine lv_idiv C.1 C.2.1 dX9_gathers_73 (by decide) ?_
      obtain ⟨j6, hj_j6, hf⟩ := ob_ hf
      refine x_iald C K h hk_b2 hj_j6 dX9_gathers_74 ?_
      refine lv_icmp_ge (tgt := 99) C.1 C.2.1 dX9_gathers_75 (by decide) (fun c7 => ?_) (fun c7 => ?_)
      · have hf := if_t hf c7
        refine lv_iinc (v := v3 + (1 : Int32)) (lv' := [(3, .int (v3 + (1 : Int32))), (4, .int ((si_ σ b2 j5) + (1 : Int32))), (0, .ref (ad v0)), (2, .int v2)]) C.1 C.2.1 dX9_gathers_99 hl (k := 3) rfl rfl (by decide) rfl (fun ls hl => ?_)
        refine lv_goto (tgt := 42) C.1 C.2.1 dX9_gathers_102 (by decide) ?_
        exact ih σ v0 v2 (v3 + (1 : Int32)) hE hk_v0 hf _ _ _ h (lv_sub hl [2, 3, 0] rfl)
      · have hf := if_f hf c7
        refine lv_iload C.1 C.2.1 dX9_gathers_78 (lv_at hl 0 rfl) ?_
        refine lv_ldcw (v := (1000000 : Int32)) C.1 C.2.1 C.2.2.2.1 (C.2.2.2.2 _ ck_RX9_369) dX9_gathers_80 ?_
        refine lv_icmp_ge (tgt := 99) C.1 C.2.1 dX9_gathers_83 (by decide) (fun c8 => ?_) (fun c8 => ?_)
        · have hf := if_t hf c8
          refine lv_iinc (v := v3 + (1 : Int32)) (lv' := [(3, .int (v3 + (1 : Int32))), (4, .int ((si_ σ b2 j5) + (1 : Int32))), (0, .ref (ad v0)), (2, .int v2)]) C.1 C.2.1 dX9_gathers_99 hl (k := 3) rfl rfl (by decide) rfl (fun ls hl => ?_)
          refine lv_goto (tgt := 42) C.1 C.2.1 dX9_gathers_102 (by decide) ?_
          exact ih σ v0 v2 (v3 + (1 : Int32)) hE hk_v0 hf _ _ _ h (lv_sub hl [2, 3, 0] rfl)
        · have hf := if_f hf c8
          refine lv_aload_n C.1 C.2.1 dX9_gathers_86 rfl (lv_at hl 1 rfl) ?_
          refine x_get (v := .ref (ad b2)) C K h cl_9 hk_v0 29 (by decide) fl_RX9_38 (hv_r (o := sr_ σ v0 29) rfl hq_b2) dX9_gathers_87 ?_
          refine lv_iload_n C.1 C.2.1 dX9_gathers_90 rfl (lv_at hl 3 rfl) ?_
          refine lv_bipush (v := (8 : Int32)) C.1 C.2.1 dX9_gathers_91 (by decide) ?_
          refine lv_idiv C.1 C.2.1 dX9_gathers_93 (by decide) ?_
          refine lv_iload C.1 C.2.1 dX9_gathers_94 (lv_at hl 0 rfl) ?_
          obtain ⟨j9, hj_j9, hf⟩ := ob_ hf
          refine x_iast C K h hk_b2 hj_j9 dX9_gathers_96 (fun H locs h => ?_)
          have hE := hE.up (up_i σ b2 j9 ((si_ σ b2 j5) + (1 : Int32)))
          refine lv_iconst (v := (1 : Int32)) C.1 C.2.1 dX9_gathers_97 (by decide) ?_
          refine lv_istore_n (i := 2) (lv' := [(2, .int (1 : Int32)), (4, .int ((si_ σ b2 j5) + (1 : Int32))), (0, .ref (ad v0)), (3, .int v3)]) C.1 C.2.1 dX9_gathers_98 rfl hl (by decide) rfl (fun ls hl => ?_)
          refine lv_iinc (v := v3 + (1 : Int32)) (lv' := [(3, .int (v3 + (1 : Int32))), (2, .int (1 : Int32)), (4, .int ((si_ σ b2 j5) + (1 : Int32))), (0, .ref (ad v0))]) C.1 C.2.1 dX9_gathers_99 hl (k := 3) rfl rfl (by decide) rfl (fun ls hl => ?_)
          refine lv_goto (tgt := 42) C.1 C.2.1 dX9_gathers_102 (by decide) ?_
          exact ih (ui_ σ b2 j9 ((si_ σ b2 j5) + (1 : Int32))) v0 (1 : Int32) (v3 + (1 : Int32)) hE hk_v0 hf _ _ _ h (lv_sub hl [3, 1, 0] rfl)
def f_X9_gathers_34 (fu : Nat) : Nat → St_ → Nat → Int32 → Option St_
  | 0 => fun _ _ _ => none
  | n + 1 => fun σ  v0  v2 => if v2 = 0 then some σ else f_X9_gathers_42 fu (f_X9_gathers_34 fu n) fu σ v0 (0 : Int32) (0 : Int32)
set_option maxHeartbeats 4000000 in
set_option maxRecDepth 100000 in
theorem w_X9_gathers_34 {p : Program} {l : Launch} {e : Env} {R : Room} {s : State} {m : MethodId} {args : Array Value} {below : List Frame} {meth : Method} {c : Code} {κ : Ka_} {G : va_G} {cy : Nat → ClassId} {ad : Nat → Nat} {sz : Nat} {σ0 : St_} (fu : Nat) (C : CallFix p m c cX9_gathers 5 s args wU_ RX9) (K : Kx_ κ G cy (va_A (wl_ cy ad σ0) sz) s) (hr : meth.sig.returnType = none) (hlk : meth.locks = false) (hR : 0 ≤ R.frames ∧ 0 ≤ R.locals) {q : St_} : ∀ n : Nat, ∀ (σ : St_) (v0 : Nat) (v2 : Int32), Ex_ σ0 σ → kd_ σ v0 = 9 → f_X9_gathers_34 fu n σ v0 v2 = some q → ∀ (H : Heap) (locs : List Loc) (ls : Array Slot), Ht_ G cy (va_A (wl_ cy ad σ0) sz) s ad σ H locs → lv_has ls 5 [(0, .ref (ad v0)), (2, .int v2)] → W p l e R s m args below meth c H locs 0 0 (MQ below (Qv_ G cy ad σ0 q sz) args s 0 0 (va_A (wl_ cy ad σ0) sz)) (F0 m 34 ls []) := by
  intro n
  induction n with
  | zero =>
    intro σ v0 v2 hE hk_v0 hf H locs ls h hl
    cases hf
  | succ n ih =>
    intro σ v0 v2 hE hk_v0 hf H locs ls h hl
    have hf : (if v2 = 0 then some σ else f_X9_gathers_42 fu (f_X9_gathers_34 fu n) fu σ v0 (0 : Int32) (0 : Int32)) = some q := hf
    refine lv_iload_n C.1 C.2.1 dX9_gathers_34 rfl (lv_at hl 1 rfl) ?_
    refine lv_if_eq (tgt := 108) C.1 C.2.1 dX9_gathers_35 (by decide) (fun c1 => ?_) (fun c1 => ?_)
    · have hf := if_t hf c1
      exact x_rv C hr hlk h hE (Option.some.inj hf) dX9_gathers_108
    · have hf := if_f hf c1
      refine lv_iconst (v := (0 : Int32)) C.1 C.2.1 dX9_gathers_38 (by decide) ?_
      refine lv_istore_n (i := 2) (lv' := [(2, .int (0 : Int32)), (0, .ref (ad v0))]) C.1 C.2.1 dX9_gathers_39 rfl hl (by decide) rfl (fun ls hl => ?_)
      refine lv_iconst (v := (0 : Int32)) C.1 C.2.1 dX9_gathers_40 (by decide) ?_
      refine lv_istore_n (i := 3) (lv' := [(3, .int (0 : Int32)), (2, .int (0 : Int32)), (0, .ref (ad v0))]) C.1 C.2.1 dX9_gathers_41 rfl hl (by decide) rfl (fun ls hl => ?_)
      exact w_X9_gathers_42 fu C K hr hlk hR (f_X9_gathers_34 fu n) ih fu σ v0 (0 : Int32) (0 : Int32) hE hk_v0 hf _ _ _ h (lv_sub hl [2, 1, 0] rfl)
def f_X9_gathers_2 (fu : Nat) : Nat → St_ → Nat → Int32 → Int32 → Option St_
  | 0 => fun _ _ _ _ => none
  | n + 1 => fun σ  v0  v1  v2 => if (36 : Int32) ≤ v2 then f_X9_gathers_34 fu fu σ v0 (1 : Int32) else (dr_ σ 10 (sr_ σ v0 29)).bind fun b2 => if v2 = v1 then (ix_ v2 (ln_ σ b2)).bind fun j5 => (f_X9_gathers_2 fu n) (ui_ σ b2 j5 (0 : Int32)) v0 v1 (v2 + (1 : Int32)) else (ix_ v2 (ln_ σ b2)).bind fun j4 => (f_X9_gathers_2 fu n) (ui_ σ b2 j4 (1000000 : Int32)) v0 v1 (v2 + (1 : Int32))
set_option maxHeartbeats 4000000 in
set_option maxRecDepth 100000 in
theorem w_X9_gathers_2 {p : Program} {l : Launch} {e : Env} {R : Room} {s : State} {m : MethodId} {args : Array Value} {below : List Frame} {meth : Method} {c : Code} {κ : Ka_} {G : va_G} {cy : Nat → ClassId} {ad : Nat → Nat} {sz : Nat} {σ0 : St_} (fu : Nat) (C : CallFix p m c cX9_gathers 5 s args wU_ RX9) (K : Kx_ κ G cy (va_A (wl_ cy ad σ0) sz) s) (hr : meth.sig.returnType = none) (hlk : meth.locks = false) (hR : 0 ≤ R.frames ∧ 0 ≤ R.locals) {q : St_} : ∀ n : Nat, ∀ (σ : St_) (v0 : Nat) (v1 : Int32) (v2 : Int32), Ex_ σ0 σ → kd_ σ v0 = 9 → f_X9_gathers_2 fu n σ v0 v1 v2 = some q → ∀ (H : Heap) (locs : List Loc) (ls : Array Slot), Ht_ G cy (va_A (wl_ cy ad σ0) sz) s ad σ H locs → lv_has ls 5 [(0, .ref (ad v0)), (1, .int v1), (2, .int v2)] → W p l e R s m args below meth c H locs 0 0 (MQ below (Qv_ G cy ad σ0 q sz) args s 0 0 (va_A (wl_ cy ad σ0) sz)) (F0 m 2 ls []) := by
  intro n
  induction n with
  | zero =>
    intro σ v0 v1 v2 hE hk_v0 hf H locs ls h hl
    cases hf
  | succ n ih =>
    intro σ v0 v1 v2 hE hk_v0 hf H locs ls h hl
    have hf : (if (36 : Int32) ≤ v2 then f_X9_gathers_34 fu fu σ v0 (1 : Int32) else (dr_ σ 10 (sr_ σ v0 29)).bind fun b2 => if v2 = v1 then (ix_ v2 (ln_ σ b2)).bind fun j5 => (f_X9_gathers_2 fu n) (ui_ σ b2 j5 (0 : Int32)) v0 v1 (v2 + (1 : Int32)) else (ix_ v2 (ln_ σ b2)).bind fun j4 => (f_X9_gathers_2 fu n) (ui_ σ b2 j4 (1000000 : Int32)) v0 v1 (v2 + (1 : Int32))) = some q := hf
    refine lv_iload_n C.1 C.2.1 dX9_gathers_2 rfl (lv_at hl 2 rfl) ?_
    refine lv_bipush (v := (36 : Int32)) C.1 C.2.1 dX9_gathers_3 (by decide) ?_
    refine lv_icmp_ge (tgt := 32) C.1 C.2.1 dX9_gathers_5 (by decide) (fun c1 => ?_) (fun c1 => ?_)
    · have hf := if_t hf c1
      refine lv_iconst (v := (1 : Int32)) C.1 C.2.1 dX9_gathers_32 (by decide) ?_
      refine lv_istore_n (i := 2) (lv' := [(2, .int (1 : Int32)), (0, .ref (ad v0)), (1, .int v1)]) C.1 C.2.1 dX9_gathers_33 rfl hl (by decide) rfl (fun ls hl => ?_)
      exact w_X9_gathers_34 fu C K hr hlk hR fu σ v0 (1 : Int32) hE hk_v0 hf _ _ _ h (lv_sub hl [1, 0] rfl)
    · have hf := if_f hf c1
      refine lv_aload_n C.1 C.2.1 dX9_gathers_8 rfl (lv_at hl 0 rfl) ?_
      obtain ⟨b2, hb_b2, hf⟩ := ob_ hf
      obtain ⟨hq_b2, hk_b2⟩ := dr_in hb_b2
      refine x_get (v := .ref (ad b2)) C K h cl_9 hk_v0 29 (by decide) fl_RX9_38 (hv_r (o := sr_ σ v0 29) rfl hq_b2) dX9_gathers_9 ?_
      refine lv_iload_n C.1 C.2.1 dX9_gathers_12 rfl (lv_at hl 2 rfl) ?_
      refine lv_iload_n C.1 C.2.1 dX9_gathers_13 rfl (lv_at hl 2 rfl) ?_
      refine lv_iload_n C.1 C.2.1 dX9_gathers_14 rfl (lv_at hl 1 rfl) ?_
      refine lv_icmp_ne (tgt := 22) C.1 C.2.1 dX9_gathers_15 (by decide) (fun c3 => ?_) (fun c3 => ?_)
      · have hf := if_f hf c3
        refine lv_ldcw (v := (1000000 : Int32)) C.1 C.2.1 C.2.2.2.1 (C.2.2.2.2 _ ck_RX9_369) dX9_gathers_22 ?_
        obtain ⟨j4, hj_j4, hf⟩ := ob_ hf
        refine x_iast C K h hk_b2 hj_j4 dX9_gathers_25 (fun H locs h => ?_)
        have hE := hE.up (up_i σ b2 j4 (1000000 : Int32))
        refine lv_iinc (v := v2 + (1 : Int32)) (lv' := [(2, .int (v2 + (1 : Int32))), (0, .ref (ad v0)), (1, .int v1)]) C.1 C.2.1 dX9_gathers_26 hl (k := 2) rfl rfl (by decide) rfl (fun ls hl => ?_)
        refine lv_goto (tgt := 2) C.1 C.2.1 dX9_gathers_29 (by decide) ?_
        exact ih (ui_ σ b2 j4 (1000000 : Int32)) v0 v1 (v2 + (1 : Int32)) hE hk_v0 hf _ _ _ h (lv_sub hl [1, 2, 0] rfl)
      · have hf := if_t hf c3
        refine lv_iconst (v := (0 : Int32)) C.1 C.2.1 dX9_gathers_18 (by decide) ?_
        refine lv_goto (tgt := 25) C.1 C.2.1 dX9_gathers_19 (by decide) ?_
        obtain ⟨j5, hj_j5, hf⟩ := ob_ hf
        refine x_iast C K h hk_b2 hj_j5 dX9_gathers_25 (fun H locs h => ?_)
        have hE := hE.up (up_i σ b2 j5 (0 : Int32))
        refine lv_iinc (v := v2 + (1 : Int32)) (lv' := [(2, .int (v2 + (1 : Int32))), (0, .ref (ad v0)), (1, .int v1)]) C.1 C.2.1 dX9_gathers_26 hl (k := 2) rfl rfl (by decide) rfl (fun ls hl => ?_)
        refine lv_goto (tgt := 2) C.1 C.2.1 dX9_gathers_29 (by decide) ?_
        exact ih (ui_ σ b2 j5 (0 : Int32)) v0 v1 (v2 + (1 : Int32)) hE hk_v0 hf _ _ _ h (lv_sub hl [1, 2, 0] rfl)
def f_X9_gathers (fu : Nat) (σ : St_) (a0 : Nat) (x1 : Int32) : Option St_ := f_X9_gathers_2 fu fu σ a0 x1 (0 : Int32)
set_option maxHeartbeats 4000000 in
set_option maxRecDepth 100000 in
theorem w_X9_gathers {p : Program} {l : Launch} {e : Env} {R : Room} {s : State} {m : MethodId} {args : Array Value} {below : List Frame} {meth : Method} {c : Code} {κ : Ka_} {G : va_G} {cy : Nat → ClassId} {ad : Nat → Nat} {sz : Nat} {σ0 : St_} (fu : Nat) (C : CallFix p m c cX9_gathers 5 s args wU_ RX9) (K : Kx_ κ G cy (va_A (wl_ cy ad σ0) sz) s) (hr : meth.sig.returnType = none) (hlk : meth.locks = false) (hR : 0 ≤ R.frames ∧ 0 ≤ R.locals) {q : St_} : ∀ (σ : St_) (a0 : Nat) (x1 : Int32), Ex_ σ0 σ → kd_ σ a0 = 9 → f_X9_gathers fu σ a0 x1 = some q → ∀ (H : Heap) (locs : List Loc) (ls : Array Slot), Ht_ G cy (va_A (wl_ cy ad σ0) sz) s ad σ H locs → lv_has ls 5 [(0, .ref (ad a0)), (1, .int x1)] → W p l e R s m args below meth c H locs 0 0 (MQ below (Qv_ G cy ad σ0 q sz) args s 0 0 (va_A (wl_ cy ad σ0) sz)) (F0 m 0 ls []) := by
  intro σ a0 x1 hE hk_a0 hf H locs ls h hl
  have hf : (f_X9_gathers_2 fu fu σ a0 x1 (0 : Int32)) = some q := hf
  refine lv_iconst (v := (0 : Int32)) C.1 C.2.1 dX9_gathers_0 (by decide) ?_
  refine lv_istore_n (i := 2) (lv' := [(2, .int (0 : Int32)), (0, .ref (ad a0)), (1, .int x1)]) C.1 C.2.1 dX9_gathers_1 rfl hl (by decide) rfl (fun ls hl => ?_)
  exact w_X9_gathers_2 fu C K hr hlk hR fu σ a0 x1 (0 : Int32) hE hk_a0 hf _ _ _ h (lv_sub hl [1, 2, 0] rfl)
theorem c_X9_gathers (fu : Nat) (l : Launch) (κ : Ka_) (G : va_G) (cy : Nat → ClassId) (ad : Nat → Nat) (sz : Nat) (σ : St_) (a0 : Nat) (x1 : Int32) (hk_a0 : kd_ σ a0 = 9) {q : St_} (hf : f_X9_gathers fu σ a0 x1 = some q) : Met l yX9_gathers (Cond.code yX9_gathers cX9_gathers 5 none :: wU_) { frames := 0, cells := 0, slots := 0, locals := 0 } (va_Pc [.ref (ad a0), .int x1] (Pr_ κ G cy ad σ sz)) (Qv_ G cy ad σ q sz) 0 0 (va_A (wl_ cy ad σ) sz) :=
  x_met (by decide) (fun p e R s m below meth c ls hR C hr hlk hin _ K h hl => w_X9_gathers fu C K hr hlk ⟨hR.1, hR.2.1⟩ σ a0 x1 Ex_.rf hk_a0 hf s.heap [] ls h hl) (Nat.le_of_ble_eq_true rfl)
-- X9_shortest
theorem mi_X9_shortest : Mi_ yX9_shortest cX9_shortest 8 (some .int) 3 := ⟨co_yX9_shortest, in_RX9, by decide, by decide, by decide +kernel⟩
def f_X9_shortest_104 (fu : Nat) (k95 : St_ → Nat → Int32 → Int32 → Int32 → Option (Int32 × St_)) : Nat → St_ → Nat → Int32 → Int32 → Int32 → Int32 → Option (Int32 × St_)
  | 0 => fun _ _ _ _ _ _ => none
  | n + 1 => fun σ  v0  v2  v4  v6  v7 => (dr_ σ 10 (sr_ σ v0 29)).bind fun b1 => (dr_ σ 10 (sr_ σ v0 27)).bind fun b2 => (ix_ (((8 : Int32) * v4) + v7) (ln_ σ b2)).bind fun j3 => (ix_ (si_ σ b2 j3) (ln_ σ b1)).bind fun j4 => (ix_ v4 (ln_ σ b1)).bind fun j5 => if (si_ σ b1 j4) = ((si_ σ b1 j5) - (1 : Int32)) then (ix_ (((8 : Int32) * v4) + v7) (ln_ σ b2)).bind fun j7 => k95 σ v0 v2 (si_ σ b2 j7) ((((10 : Int32) * v6) + v7) + (1 : Int32)) else (f_X9_shortest_104 fu k95 n) σ v0 v2 v4 v6 (v7 + (1 : Int32))
set_option maxHeartbeats 4000000 in
set_option maxRecDepth 100000 in
theorem w_X9_shortest_104 {p : Program} {l : Launch} {e : Env} {R : Room} {s : State} {m : MethodId} {args : Array Value} {below : List Frame} {meth : Method} {c : Code} {κ : Ka_} {G : va_G} {cy : Nat → ClassId} {ad : Nat → Nat} {sz : Nat} {σ0 : St_} (fu : Nat) (C : CallFix p m c cX9_shortest 8 s args wU_ RX9) (K : Kx_ κ G cy (va_A (wl_ cy ad σ0) sz) s) (hr : meth.sig.returnType = some .int) (hlk : meth.locks = false) (hR : 46 ≤ R.frames ∧ 1030 ≤ R.locals) {q : Int32 × St_} (k95 : St_ → Nat → Int32 → Int32 → Int32 → Option (Int32 × St_)) (hk95 : ∀ (σ : St_) (v0 : Nat) (v2 : Int32) (v4 : Int32) (v6 : Int32), Ex_ σ0 σ → kd_ σ v0 = 9 → k95 σ v0 v2 v4 v6 = some q → ∀ (H : Heap) (locs : List Loc) (ls : Array Slot), Ht_ G cy (va_A (wl_ cy ad σ0) sz) s ad σ H locs → lv_has ls 8 [(0, .ref (ad v0)), (2, .int v2), (4, .int v4), (6, .int v6)] → W p l e R s m args below meth c H locs 0 0 (MQ below (Qi_ G cy ad σ0 q.2 sz q.1) args s 0 0 (va_A (wl_ cy ad σ0) sz)) (F0 m 95 ls [])) : ∀ n : Nat, ∀ (σ : St_) (v0 : Nat) (v2 : Int32) (v4 : Int32) (v6 : Int32) (v7 : Int32), Ex_ σ0 σ → kd_ σ v0 = 9 → f_X9_shortest_104 fu k95 n σ v0 v2 v4 v6 v7 = some q → ∀ (H : Heap) (locs : List Loc) (ls : Array Slot), Ht_ G cy (va_A (wl_ cy ad σ0) sz) s ad σ H locs → lv_has ls 8 [(0, .ref (ad v0)), (2, .int v2), (4, .int v4), (6, .int v6), (7, .int v7)] → W p l e R s m args below meth c H locs 0 0 (MQ below (Qi_ G cy ad σ0 q.2 sz q.1) args s 0 0 (va_A (wl_ cy ad σ0) sz)) (F0 m 104 ls []) := by
  intro n
  induction n with
  | zero =>
    intro σ v0 v2 v4 v6 v7 hE hk_v0 hf H locs ls h hl
    cases hf
  | succ n ih =>
    intro σ v0 v2 v4 v6 v7 hE hk_v0 hf H locs ls h hl
    have hf : ((dr_ σ 10 (sr_ σ v0 29)).bind fun b1 => (dr_ σ 10 (sr_ σ v0 27)).bind fun b2 => (ix_ (((8 : Int32) * v4) + v7) (ln_ σ b2)).bind fun j3 => (ix_ (si_ σ b2 j3) (ln_ σ b1)).bind fun j4 => (ix_ v4 (ln_ σ b1)).bind fun j5 => if (si_ σ b1 j4) = ((si_ σ b1 j5) - (1 : Int32)) then (ix_ (((8 : Int32) * v4) + v7) (ln_ σ b2)).bind fun j7 => k95 σ v0 v2 (si_ σ b2 j7) ((((10 : Int32) * v6) + v7) + (1 : Int32)) else (f_X9_shortest_104 fu k95 n) σ v0 v2 v4 v6 (v7 + (1 : Int32))) = some q := hf
    refine lv_aload_n C.1 C.2.1 dX9_shortest_104 rfl (lv_at hl 0 rfl) ?_
    obtain ⟨b1, hb_b1, hf⟩ := ob_ hf
    obtain ⟨hq_b1, hk_b1⟩ := dr_in hb_b1
    refine x_get (v := .ref (ad b1)) C K h cl_9 hk_v0 29 (by decide) fl_RX9_38 (hv_r (o := sr_ σ v0 29) rfl hq_b1) dX9_shortest_105 ?_
    refine lv_aload_n C.1 C.2.1 dX9_shortest_108 rfl (lv_at hl 0 rfl) ?_
    obtain ⟨b2, hb_b2, hf⟩ := ob_ hf
    obtain ⟨hq_b2, hk_b2⟩ := dr_in hb_b2
    refine x_get (v := .ref (ad b2)) C K h cl_9 hk_v0 27 (by decide) fl_RX9_32 (hv_r (o := sr_ σ v0 27) rfl hq_b2) dX9_shortest_109 ?_
    refine lv_bipush (v := (8 : Int32)) C.1 C.2.1 dX9_shortest_112 (by decide) ?_
    refine lv_iload C.1 C.2.1 dX9_shortest_114 (lv_at hl 2 rfl) ?_
    refine lv_imul C.1 C.2.1 dX9_shortest_116 ?_
    refine lv_iload C.1 C.2.1 dX9_shortest_117 (lv_at hl 4 rfl) ?_
    refine lv_iadd C.1 C.2.1 dX9_shortest_119 ?_
    obtain ⟨j3, hj_j3, hf⟩ := ob_ hf
    refine x_iald C K h hk_b2 hj_j3 dX9_shortest_120 ?_
    obtain ⟨j4, hj_j4, hf⟩ := ob_ hf
    refine x_iald C K h hk_b1 hj_j4 dX9_shortest_121 ?_
    refine lv_aload_n C.1 C.2.1 dX9_shortest_122 rfl (lv_at hl 0 rfl) ?_
    refine x_get (v := .ref (ad b1)) C K h cl_9 hk_v0 29 (by decide) fl_RX9_38 (hv_r (o := sr_ σ v0 29) rfl hq_b1) dX9_shortest_123 ?_
    refine lv_iload C.1 C.2.1 dX9_shortest_126 (lv_at hl 2 rfl) ?_
    obtain ⟨j5, hj_j5, hf⟩ := ob_ hf
    refine x_iald C K h hk_b1 hj_j5 dX9_shortest_128 ?_
    refine lv_iconst (v := (1 : Int32)) C.1 C.2.1 dX9_shortest_129 (by decide) ?_
    refine lv_isub C.1 C.2.1 dX9_shortest_130 ?_
    refine lv_icmp_eq (tgt := 140) C.1 C.2.1 dX9_shortest_131 (by decide) (fun c6 => ?_) (fun c6 => ?_)
    · have hf := if_t hf c6
      refine lv_bipush (v := (10 : Int32)) C.1 C.2.1 dX9_shortest_140 (by decide) ?_
      refine lv_iload C.1 C.2.1 dX9_shortest_142 (lv_at hl 3 rfl) ?_
      refine lv_imul C.1 C.2.1 dX9_shortest_144 ?_
      refine lv_iload C.1 C.2.1 dX9_shortest_145 (lv_at hl 4 rfl) ?_
      refine lv_iadd C.1 C.2.1 dX9_shortest_147 ?_
      refine lv_iconst (v := (1 : Int32)) C.1 C.2.1 dX9_shortest_148 (by decide) ?_
      refine lv_iadd C.1 C.2.1 dX9_shortest_149 ?_
      refine lv_istore (i := 6) (lv' := [(6, .int ((((10 : Int32) * v6) + v7) + (1 : Int32))), (0, .ref (ad v0)), (2, .int v2), (4, .int v4), (7, .int v7)]) C.1 C.2.1 dX9_shortest_150 hl (by decide) rfl (fun ls hl => ?_)
      refine lv_aload_n C.1 C.2.1 dX9_shortest_152 rfl (lv_at hl 1 rfl) ?_
      refine x_get (v := .ref (ad b2)) C K h cl_9 hk_v0 27 (by decide) fl_RX9_32 (hv_r (o := sr_ σ v0 27) rfl hq_b2) dX9_shortest_153 ?_
      refine lv_bipush (v := (8 : Int32)) C.1 C.2.1 dX9_shortest_156 (by decide) ?_
      refine lv_iload C.1 C.2.1 dX9_shortest_158 (lv_at hl 3 rfl) ?_
      refine lv_imul C.1 C.2.1 dX9_shortest_160 ?_
      refine lv_iload C.1 C.2.1 dX9_shortest_161 (lv_at hl 4 rfl) ?_
      refine lv_iadd C.1 C.2.1 dX9_shortest_163 ?_
      obtain ⟨j7, hj_j7, hf⟩ := ob_ hf
      refine x_iald C K h hk_b2 hj_j7 dX9_shortest_164 ?_
      refine lv_istore (i := 4) (lv' := [(4, .int (si_ σ b2 j7)), (6, .int ((((10 : Int32) * v6) + v7) + (1 : Int32))), (0, .ref (ad v0)), (2, .int v2), (7, .int v7)]) C.1 C.2.1 dX9_shortest_165 hl (by decide) rfl (fun ls hl => ?_)
      refine lv_goto (tgt := 95) C.1 C.2.1 dX9_shortest_167 (by decide) ?_
      exact hk95 σ v0 v2 (si_ σ b2 j7) ((((10 : Int32) * v6) + v7) + (1 : Int32)) hE hk_v0 hf _ _ _ h (lv_sub hl [2, 3, 0, 1] rfl)
    · have hf := if_f hf c6
      refine lv_iinc (v := v7 + (1 : Int32)) (lv' := [(7, .int (v7 + (1 : Int32))), (0, .ref (ad v0)), (2, .int v2), (4, .int v4), (6, .int v6)]) C.1 C.2.1 dX9_shortest_134 hl (k := 4) rfl rfl (by decide) rfl (fun ls hl => ?_)
      refine lv_goto (tgt := 104) C.1 C.2.1 dX9_shortest_137 (by decide) ?_
      exact ih σ v0 v2 v4 v6 (v7 + (1 : Int32)) hE hk_v0 hf _ _ _ h (lv_sub hl [1, 2, 3, 4, 0] rfl)
def f_X9_shortest_95 (fu : Nat) : Nat → St_ → Nat → Int32 → Int32 → Int32 → Option (Int32 × St_)
  | 0 => fun _ _ _ _ _ => none
  | n + 1 => fun σ  v0  v2  v4  v6 => if v4 = v2 then some (v6, σ) else f_X9_shortest_104 fu (f_X9_shortest_95 fu n) fu σ v0 v2 v4 v6 (0 : Int32)
set_option maxHeartbeats 4000000 in
set_option maxRecDepth 100000 in
theorem w_X9_shortest_95 {p : Program} {l : Launch} {e : Env} {R : Room} {s : State} {m : MethodId} {args : Array Value} {below : List Frame} {meth : Method} {c : Code} {κ : Ka_} {G : va_G} {cy : Nat → ClassId} {ad : Nat → Nat} {sz : Nat} {σ0 : St_} (fu : Nat) (C : CallFix p m c cX9_shortest 8 s args wU_ RX9) (K : Kx_ κ G cy (va_A (wl_ cy ad σ0) sz) s) (hr : meth.sig.returnType = some .int) (hlk : meth.locks = false) (hR : 46 ≤ R.frames ∧ 1030 ≤ R.locals) {q : Int32 × St_} : ∀ n : Nat, ∀ (σ : St_) (v0 : Nat) (v2 : Int32) (v4 : Int32) (v6 : Int32), Ex_ σ0 σ → kd_ σ v0 = 9 → f_X9_shortest_95 fu n σ v0 v2 v4 v6 = some q → ∀ (H : Heap) (locs : List Loc) (ls : Array Slot), Ht_ G cy (va_A (wl_ cy ad σ0) sz) s ad σ H locs → lv_has ls 8 [(0, .ref (ad v0)), (2, .int v2), (4, .int v4), (6, .int v6)] → W p l e R s m args below meth c H locs 0 0 (MQ below (Qi_ G cy ad σ0 q.2 sz q.1) args s 0 0 (va_A (wl_ cy ad σ0) sz)) (F0 m 95 ls []) := by
  intro n
  induction n with
  | zero =>
    intro σ v0 v2 v4 v6 hE hk_v0 hf H locs ls h hl
    cases hf
  | succ n ih =>
    intro σ v0 v2 v4 v6 hE hk_v0 hf H locs ls h hl
    have hf : (if v4 = v2 then some (v6, σ) else f_X9_shortest_104 fu (f_X9_shortest_95 fu n) fu σ v0 v2 v4 v6 (0 : Int32)) = some q := hf
    refine lv_iload C.1 C.2.1 dX9_shortest_95 (lv_at hl 2 rfl) ?_
    refine lv_iload_n C.1 C.2.1 dX9_shortest_97 rfl (lv_at hl 1 rfl) ?_
    refine lv_icmp_eq (tgt := 170) C.1 C.2.1 dX9_shortest_98 (by decide) (fun c1 => ?_) (fun c1 => ?_)
    · have hf := if_t hf c1
      refine lv_iload C.1 C.2.1 dX9_shortest_170 (lv_at hl 3 rfl) ?_
      exact x_ri C hr hlk h hE (pf_1 (Option.some.inj hf)) (pf_2 (Option.some.inj hf)) dX9_shortest_172
    · have hf := if_f hf c1
      refine lv_iconst (v := (0 : Int32)) C.1 C.2.1 dX9_shortest_101 (by decide) ?_
      refine lv_istore (i := 7) (lv' := [(7, .int (0 : Int32)), (0, .ref (ad v0)), (2, .int v2), (4, .int v4), (6, .int v6)]) C.1 C.2.1 dX9_shortest_102 hl (by decide) rfl (fun ls hl => ?_)
      exact w_X9_shortest_104 fu C K hr hlk hR (f_X9_shortest_95 fu n) ih fu σ v0 v2 v4 v6 (0 : Int32) hE hk_v0 hf _ _ _ h (lv_sub hl [1, 2, 3, 4, 0] rfl)
def f_X9_shortest (fu : Nat) (σ : St_) (a0 : Nat) (x1 : Int32) (x2 : Int32) (x3 : Int32) : Option (Int32 × St_) := if (f_X9_isOne σ a0 x1) = 0 then some ((-2 : Int32), σ) else if (f_X9_isCell x2) = 0 then some ((-2 : Int32), σ) else if (f_X9_in x3.toInt64 (0 : Int64) (1 : Int64)) = 0 then some ((-2 : Int32), σ) else (dr_ σ 10 (sr_ σ a0 27)).bind fun b13 => (f_X9_tables fu σ a0 x1 b13).bind fun q14 => (f_X9_gathers fu q14 a0 x2).bind fun q15 => (dr_ q15 10 (sr_ q15 a0 10)).bind fun b16 => (ix_ (((3 : Int32) * x1) + (1 : Int32)) (ln_ q15 b16)).bind fun j17 => (dr_ q15 10 (sr_ q15 a0 29)).bind fun b18 => (ix_ (si_ q15 b16 j17) (ln_ q15 b18)).bind fun j19 => if (si_ q15 b18 j19) = (1000000 : Int32) then some ((-1 : Int32), q15) else if x3 = (1 : Int32) then if (si_ q15 b18 j19) ≤ (9 : Int32) then if x3 = 0 then some (si_ q15 b18 j19, q15) else f_X9_shortest_95 fu fu q15 a0 x2 (si_ q15 b16 j17) (0 : Int32) else some ((-1 : Int32), q15) else if x3 = 0 then some (si_ q15 b18 j19, q15) else f_X9_shortest_95 fu fu q15 a0 x2 (si_ q15 b16 j17) (0 : Int32)
set_option maxHeartbeats 4000000 in
set_option maxRecDepth 100000 in
theorem w_X9_shortest {p : Program} {l : Launch} {e : Env} {R : Room} {s : State} {m : MethodId} {args : Array Value} {below : List Frame} {meth : Method} {c : Code} {κ : Ka_} {G : va_G} {cy : Nat → ClassId} {ad : Nat → Nat} {sz : Nat} {σ0 : St_} (fu : Nat) (C : CallFix p m c cX9_shortest 8 s args wU_ RX9) (K : Kx_ κ G cy (va_A (wl_ cy ad σ0) sz) s) (hr : meth.sig.returnType = some .int) (hlk : meth.locks = false) (hR : 46 ≤ R.frames ∧ 1030 ≤ R.locals) {q : Int32 × St_} : ∀ (σ : St_) (a0 : Nat) (x1 : Int32) (x2 : Int32) (x3 : Int32), Ex_ σ0 σ → kd_ σ a0 = 9 → f_X9_shortest fu σ a0 x1 x2 x3 = some q → ∀ (H : Heap) (locs : List Loc) (ls : Array Slot), Ht_ G cy (va_A (wl_ cy ad σ0) sz) s ad σ H locs → lv_has ls 8 [(0, .ref (ad a0)), (1, .int x1), (2, .int x2), (3, .int x3)] → W p l e R s m args below meth c H locs 0 0 (MQ below (Qi_ G cy ad σ0 q.2 sz q.1) args s 0 0 (va_A (wl_ cy ad σ0) sz)) (F0 m 0 ls []) := by
  intro σ a0 x1 x2 x3 hE hk_a0 hf H locs ls h hl
  have hf : (if (f_X9_isOne σ a0 x1) = 0 then some ((-2 : Int32), σ) else if (f_X9_isCell x2) = 0 then some ((-2 : Int32), σ) else if (f_X9_in x3.toInt64 (0 : Int64) (1 : Int64)) = 0 then some ((-2 : Int32), σ) else (dr_ σ 10 (sr_ σ a0 27)).bind fun b13 => (f_X9_tables fu σ a0 x1 b13).bind fun q14 => (f_X9_gathers fu q14 a0 x2).bind fun q15 => (dr_ q15 10 (sr_ q15 a0 10)).bind fun b16 => (ix_ (((3 : Int32) * x1) + (1 : Int32)) (ln_ q15 b16)).bind fun j17 => (dr_ q15 10 (sr_ q15 a0 29)).bind fun b18 => (ix_ (si_ q15 b16 j17) (ln_ q15 b18)).bind fun j19 => if (si_ q15 b18 j19) = (1000000 : Int32) then some ((-1 : Int32), q15) else if x3 = (1 : Int32) then if (si_ q15 b18 j19) ≤ (9 : Int32) then if x3 = 0 then some (si_ q15 b18 j19, q15) else f_X9_shortest_95 fu fu q15 a0 x2 (si_ q15 b16 j17) (0 : Int32) else some ((-1 : Int32), q15) else if x3 = 0 then some (si_ q15 b18 j19, q15) else f_X9_shortest_95 fu fu q15 a0 x2 (si_ q15 b16 j17) (0 : Int32)) = some q := hf
  refine lv_aload_n C.1 C.2.1 dX9_shortest_0 rfl (lv_at hl 0 rfl) ?_
  refine lv_iload_n C.1 C.2.1 dX9_shortest_1 rfl (lv_at hl 1 rfl) ?_
  refine x_az K h (x_V C K h [.int x1] (c_X9_isOne l κ G cy ad H.size σ a0 x1 hk_a0 rfl) mi_X9_isOne rfl im_yX9_isOne se_yX9_isOne ml_RX9_95 cl_9 hk_a0 ⟨rfl, rfl, Nat.le_trans (Nat.le_of_ble_eq_true rfl) hR.1, Nat.le_trans (Nat.le_of_ble_eq_true rfl) hR.2⟩ hl (Nat.le_of_ble_eq_true rfl) dX9_shortest_2 ⟨Nat.zero_le _, Nat.zero_le _⟩ rfl) (fun H locs h hX hz5 => ?_)
  refine lv_if_eq (tgt := 25) C.1 C.2.1 dX9_shortest_5 (by decide) (fun c6 => ?_) (fun c6 => ?_)
  · have hf := if_t hf c6
    refine lv_bipush (v := (-2 : Int32)) C.1 C.2.1 dX9_shortest_25 (by decide) ?_
    exact x_ri C hr hlk h hE (pf_1 (Option.some.inj hf)) (pf_2 (Option.some.inj hf)) dX9_shortest_27
  · have hf := if_f hf c6
    refine lv_iload_n C.1 C.2.1 dX9_shortest_8 rfl (lv_at hl 2 rfl) ?_
    refine x_az K h (x_S C K h [.int x2] (c_X9_isCell l κ G cy ad H.size σ x2 rfl) mi_X9_isCell rfl st_yX9_isCell ml_RX9_91 ⟨rfl, rfl, Nat.le_trans (Nat.le_of_ble_eq_true rfl) hR.1, Nat.le_trans (Nat.le_of_ble_eq_true rfl) hR.2⟩ hl (Nat.le_of_ble_eq_true rfl) dX9_shortest_9 ⟨Nat.zero_le _, Nat.zero_le _⟩ rfl) (fun H locs h hX hz8 => ?_)
    refine lv_if_eq (tgt := 25) C.1 C.2.1 dX9_shortest_12 (by decide) (fun c9 => ?_) (fun c9 => ?_)
    · have hf := if_t hf c9
      refine lv_bipush (v := (-2 : Int32)) C.1 C.2.1 dX9_shortest_25 (by decide) ?_
      exact x_ri C hr hlk h hE (pf_1 (Option.some.inj hf)) (pf_2 (Option.some.inj hf)) dX9_shortest_27
    · have hf := if_f hf c9
      refine lv_iload_n C.1 C.2.1 dX9_shortest_15 rfl (lv_at hl 3 rfl) ?_
      refine lv_i2l C.1 C.2.1 dX9_shortest_16 rfl ?_
      refine lv_lconst (v := (0 : Int64)) C.1 C.2.1 dX9_shortest_17 (by decide) ?_
      refine lv_lconst (v := (1 : Int64)) C.1 C.2.1 dX9_shortest_18 (by decide) ?_
      refine x_az K h (x_S C K h [.long x3.toInt64, .long (0 : Int64), .long (1 : Int64)] (c_X9_in l κ G cy ad H.size σ x3.toInt64 (0 : Int64) (1 : Int64) rfl) mi_X9_in rfl st_yX9_in ml_RX9_83 ⟨rfl, rfl, Nat.le_trans (Nat.le_of_ble_eq_true rfl) hR.1, Nat.le_trans (Nat.le_of_ble_eq_true rfl) hR.2⟩ hl (Nat.le_of_ble_eq_true rfl) dX9_shortest_19 ⟨Nat.zero_le _, Nat.zero_le _⟩ rfl) (fun H locs h hX hz11 => ?_)
      refine lv_if_ne (tgt := 28) C.1 C.2.1 dX9_shortest_22 (by decide) (fun c12 => ?_) (fun c12 => ?_)
      · have hf := if_f hf c12
        refine lv_aload_n C.1 C.2.1 dX9_shortest_28 rfl (lv_at hl 0 rfl) ?_
        refine lv_iload_n C.1 C.2.1 dX9_shortest_29 rfl (lv_at hl 1 rfl) ?_
        refine lv_aload_n C.1 C.2.1 dX9_shortest_30 rfl (lv_at hl 0 rfl) ?_
        obtain ⟨b13, hb_b13, hf⟩ := ob_ hf
        obtain ⟨hq_b13, hk_b13⟩ := dr_in hb_b13
        refine x_get (v := .ref (ad b13)) C K h cl_9 hk_a0 27 (by decide) fl_RX9_32 (hv_r (o := sr_ σ a0 27) rfl hq_b13) dX9_shortest_31 ?_
        obtain ⟨q14, hq_q14, hf⟩ := ob_ hf
        refine x_av K h (x_V C K h [.int x1, .ref (ad b13)] (c_X9_tables fu l κ G cy ad H.size σ a0 x1 b13 hk_a0 hk_b13 hq_q14) mi_X9_tables rfl im_yX9_tables se_yX9_tables ml_RX9_370 cl_9 hk_a0 ⟨rfl, rfl, Nat.le_trans (Nat.le_of_ble_eq_true rfl) hR.1, Nat.le_trans (Nat.le_of_ble_eq_true rfl) hR.2⟩ hl (Nat.le_of_ble_eq_true rfl) dX9_shortest_34 ⟨Nat.zero_le _, Nat.zero_le _⟩ rfl) (fun H locs h hX => ?_)
        have hE := hE.trans hX
        have hk_a0 := hX.k hk_a0 (by decide)
        refine lv_aload_n C.1 C.2.1 dX9_shortest_37 rfl (lv_at hl 0 rfl) ?_
        refine lv_iload_n C.1 C.2.1 dX9_shortest_38 rfl (lv_at hl 2 rfl) ?_
        obtain ⟨q15, hq_q15, hf⟩ := ob_ hf
        refine x_av K h (x_V C K h [.int x2] (c_X9_gathers fu l κ G cy ad H.size q14 a0 x2 hk_a0 hq_q15) mi_X9_gathers rfl im_yX9_gathers se_yX9_gathers ml_RX9_374 cl_9 hk_a0 ⟨rfl, rfl, Nat.le_trans (Nat.le_of_ble_eq_true rfl) hR.1, Nat.le_trans (Nat.le_of_ble_eq_true rfl) hR.2⟩ hl (Nat.le_of_ble_eq_true rfl) dX9_shortest_39 ⟨Nat.zero_le _, Nat.zero_le _⟩ rfl) (fun H locs h hX => ?_)
        have hE := hE.trans hX
        have hk_a0 := hX.k hk_a0 (by decide)
        refine lv_aload_n C.1 C.2.1 dX9_shortest_42 rfl (lv_at hl 0 rfl) ?_
        obtain ⟨b16, hb_b16, hf⟩ := ob_ hf
        obtain ⟨hq_b16, hk_b16⟩ := dr_in hb_b16
        refine x_get (v := .ref (ad b16)) C K h cl_9 hk_a0 10 (by decide) fl_RX9_29 (hv_r (o := sr_ q15 a0 10) rfl hq_b16) dX9_shortest_43 ?_
        refine lv_iconst (v := (3 : Int32)) C.1 C.2.1 dX9_shortest_46 (by decide) ?_
        refine lv_iload_n C.1 C.2.1 dX9_shortest_47 rfl (lv_at hl 1 rfl) ?_
        refine lv_imul C.1 C.2.1 dX9_shortest_48 ?_
        refine lv_iconst (v := (1 : Int32)) C.1 C.2.1 dX9_shortest_49 (by decide) ?_
        refine lv_iadd C.1 C.2.1 dX9_shortest_50 ?_
        obtain ⟨j17, hj_j17, hf⟩ := ob_ hf
        refine x_iald C K h hk_b16 hj_j17 dX9_shortest_51 ?_
        refine lv_istore (i := 4) (lv' := [(4, .int (si_ q15 b16 j17)), (0, .ref (ad a0)), (1, .int x1), (2, .int x2), (3, .int x3)]) C.1 C.2.1 dX9_shortest_52 hl (by decide) rfl (fun ls hl => ?_)
        refine lv_aload_n C.1 C.2.1 dX9_shortest_54 rfl (lv_at hl 1 rfl) ?_
        obtain ⟨b18, hb_b18, hf⟩ := ob_ hf
        obtain ⟨hq_b18, hk_b18⟩ := dr_in hb_b18
        refine x_get (v := .ref (ad b18)) C K h cl_9 hk_a0 29 (by decide) fl_RX9_38 (hv_r (o := sr_ q15 a0 29) rfl hq_b18) dX9_shortest_55 ?_
        refine lv_iload C.1 C.2.1 dX9_shortest_58 (lv_at hl 0 rfl) ?_
        obtain ⟨j19, hj_j19, hf⟩ := ob_ hf
        refine x_iald C K h hk_b18 hj_j19 dX9_shortest_60 ?_
        refine lv_istore (i := 5) (lv' := [(5, .int (si_ q15 b18 j19)), (4, .int (si_ q15 b16 j17)), (0, .ref (ad a0)), (1, .int x1), (2, .int x2), (3, .int x3)]) C.1 C.2.1 dX9_shortest_61 hl (by decide) rfl (fun ls hl => ?_)
        refine lv_iload C.1 C.2.1 dX9_shortest_63 (lv_at hl 0 rfl) ?_
        refine lv_ldcw (v := (1000000 : Int32)) C.1 C.2.1 C.2.2.2.1 (C.2.2.2.2 _ ck_RX9_369) dX9_shortest_65 ?_
        refine lv_icmp_eq (tgt := 83) C.1 C.2.1 dX9_shortest_68 (by decide) (fun c20 => ?_) (fun c20 => ?_)
        · have hf := if_t hf c20
          refine lv_iconst (v := (-1 : Int32)) C.1 C.2.1 dX9_shortest_83 (by decide) ?_
          exact x_ri C hr hlk h hE (pf_1 (Option.some.inj hf)) (pf_2 (Option.some.inj hf)) dX9_shortest_84
        · have hf := if_f hf c20
          refine lv_iload_n C.1 C.2.1 dX9_shortest_71 rfl (lv_at hl 5 rfl) ?_
          refine lv_iconst (v := (1 : Int32)) C.1 C.2.1 dX9_shortest_72 (by decide) ?_
          refine lv_icmp_ne (tgt := 85) C.1 C.2.1 dX9_shortest_73 (by decide) (fun c21 => ?_) (fun c21 => ?_)
          · have hf := if_f hf c21
            refine lv_iload_n C.1 C.2.1 dX9_shortest_85 rfl (lv_at hl 5 rfl) ?_
            refine lv_if_ne (tgt := 92) C.1 C.2.1 dX9_shortest_86 (by decide) (fun c22 => ?_) (fun c22 => ?_)
            · have hf := if_f hf c22
              refine lv_iconst (v := (0 : Int32)) C.1 C.2.1 dX9_shortest_92 (by decide) ?_
              refine lv_istore (i := 6) (lv' := [(6, .int (0 : Int32)), (5, .int (si_ q15 b18 j19)), (4, .int (si_ q15 b16 j17)), (0, .ref (ad a0)), (1, .int x1), (2, .int x2), (3, .int x3)]) C.1 C.2.1 dX9_shortest_93 hl (by decide) rfl (fun ls hl => ?_)
              exact w_X9_shortest_95 fu C K hr hlk hR fu q15 a0 x2 (si_ q15 b16 j17) (0 : Int32) hE hk_a0 hf _ _ _ h (lv_sub hl [3, 5, 2, 0] rfl)
            · have hf := if_t hf c22
              refine lv_iload C.1 C.2.1 dX9_shortest_89 (lv_at hl 0 rfl) ?_
              exact x_ri C hr hlk h hE (pf_1 (Option.some.inj hf)) (pf_2 (Option.some.inj hf)) dX9_shortest_91
          · have hf := if_t hf c21
            refine lv_iload C.1 C.2.1 dX9_shortest_76 (lv_at hl 0 rfl) ?_
            refine lv_bipush (v := (9 : Int32)) C.1 C.2.1 dX9_shortest_78 (by decide) ?_
            refine lv_icmp_le (tgt := 85) C.1 C.2.1 dX9_shortest_80 (by decide) (fun c23 => ?_) (fun c23 => ?_)
            · have hf := if_t hf c23
              refine lv_iload_n C.1 C.2.1 dX9_shortest_85 rfl (lv_at hl 5 rfl) ?_
              refine lv_if_ne (tgt := 92) C.1 C.2.1 dX9_shortest_86 (by decide) (fun c24 => ?_) (fun c24 => ?_)
              · have hf := if_f hf c24
                refine lv_iconst (v := (0 : Int32)) C.1 C.2.1 dX9_shortest_92 (by decide) ?_
                refine lv_istore (i := 6) (lv' := [(6, .int (0 : Int32)), (5, .int (si_ q15 b18 j19)), (4, .int (si_ q15 b16 j17)), (0, .ref (ad a0)), (1, .int x1), (2, .int x2), (3, .int x3)]) C.1 C.2.1 dX9_shortest_93 hl (by decide) rfl (fun ls hl => ?_)
                exact w_X9_shortest_95 fu C K hr hlk hR fu q15 a0 x2 (si_ q15 b16 j17) (0 : Int32) hE hk_a0 hf _ _ _ h (lv_sub hl [3, 5, 2, 0] rfl)
              · have hf := if_t hf c24
                refine lv_iload C.1 C.2.1 dX9_shortest_89 (lv_at hl 0 rfl) ?_
                exact x_ri C hr hlk h hE (pf_1 (Option.some.inj hf)) (pf_2 (Option.some.inj hf)) dX9_shortest_91
            · have hf := if_f hf c23
              refine lv_iconst (v := (-1 : Int32)) C.1 C.2.1 dX9_shortest_83 (by decide) ?_
              exact x_ri C hr hlk h hE (pf_1 (Option.some.inj hf)) (pf_2 (Option.some.inj hf)) dX9_shortest_84
      · have hf := if_t hf c12
        refine lv_bipush (v := (-2 : Int32)) C.1 C.2.1 dX9_shortest_25 (by decide) ?_
        exact x_ri C hr hlk h hE (pf_1 (Option.some.inj hf)) (pf_2 (Option.some.inj hf)) dX9_shortest_27
theorem c_X9_shortest (fu : Nat) (l : Launch) (κ : Ka_) (G : va_G) (cy : Nat → ClassId) (ad : Nat → Nat) (sz : Nat) (σ : St_) (a0 : Nat) (x1 : Int32) (x2 : Int32) (x3 : Int32) (hk_a0 : kd_ σ a0 = 9) {q : Int32 × St_} (hf : f_X9_shortest fu σ a0 x1 x2 x3 = some q) : Met l yX9_shortest (Cond.code yX9_shortest cX9_shortest 8 (some .int) :: wU_) { frames := 46, cells := 0, slots := 0, locals := 1030 } (va_Pc [.ref (ad a0), .int x1, .int x2, .int x3] (Pr_ κ G cy ad σ sz)) (Qi_ G cy ad σ q.2 sz q.1) 0 0 (va_A (wl_ cy ad σ) sz) :=
  x_met (by decide) (fun p e R s m below meth c ls hR C hr hlk hin _ K h hl => w_X9_shortest fu C K hr hlk ⟨hR.1, hR.2.1⟩ σ a0 x1 x2 x3 Ex_.rf hk_a0 hf s.heap [] ls h hl) (Nat.le_of_ble_eq_true rfl)
-- X9_isSink
theorem mi_X9_isSink : Mi_ yX9_isSink cX9_isSink 3 (some .boolean) 1 := ⟨co_yX9_isSink, in_RX9, by decide, by decide, by decide +kernel⟩
def f_X9_isSink_2 (fu : Nat) (σ : St_) : Nat → Nat → Int32 → Int32 → Option Int32
  | 0 => fun _ _ _ => none
  | n + 1 => fun v0  v1  v2 => if (8 : Int32) ≤ v2 then some (1 : Int32) else (dr_ σ 10 (sr_ σ v0 27)).bind fun b2 => (ix_ (((8 : Int32) * v1) + v2) (ln_ σ b2)).bind fun j3 => if (si_ σ b2 j3) = v1 then (f_X9_isSink_2 fu σ n) v0 v1 (v2 + (1 : Int32)) else some (0 : Int32)
set_option maxHeartbeats 4000000 in
set_option maxRecDepth 100000 in
theorem w_X9_isSink_2 {p : Program} {l : Launch} {e : Env} {R : Room} {s : State} {m : MethodId} {args : Array Value} {below : List Frame} {meth : Method} {c : Code} {κ : Ka_} {G : va_G} {cy : Nat → ClassId} {ad : Nat → Nat} {sz : Nat} {σ : St_} (fu : Nat) (C : CallFix p m c cX9_isSink 3 s args wU_ RX9) (K : Kx_ κ G cy (va_A (wl_ cy ad σ) sz) s) (hr : meth.sig.returnType = some .boolean) (hlk : meth.locks = false) (hR : 0 ≤ R.frames ∧ 0 ≤ R.locals) {q : Int32} : ∀ n : Nat, ∀ (v0 : Nat) (v1 : Int32) (v2 : Int32), kd_ σ v0 = 9 → f_X9_isSink_2 fu σ n v0 v1 v2 = some q → ∀ (H : Heap) (locs : List Loc) (ls : Array Slot), Ht_ G cy (va_A (wl_ cy ad σ) sz) s ad σ H locs → lv_has ls 3 [(0, .ref (ad v0)), (1, .int v1), (2, .int v2)] → W p l e R s m args below meth c H locs 0 0 (MQ below (Qz_ G cy ad σ σ sz q) args s 0 0 (va_A (wl_ cy ad σ) sz)) (F0 m 2 ls []) := by
  intro n
  induction n with
  | zero =>
    intro v0 v1 v2 hk_v0 hf H locs ls h hl
    cases hf
  | succ n ih =>
    intro v0 v1 v2 hk_v0 hf H locs ls h hl
    have hf : (if (8 : Int32) ≤ v2 then some (1 : Int32) else (dr_ σ 10 (sr_ σ v0 27)).bind fun b2 => (ix_ (((8 : Int32) * v1) + v2) (ln_ σ b2)).bind fun j3 => if (si_ σ b2 j3) = v1 then (f_X9_isSink_2 fu σ n) v0 v1 (v2 + (1 : Int32)) else some (0 : Int32)) = some q := hf
    refine lv_iload_n C.1 C.2.1 dX9_isSink_2 rfl (lv_at hl 2 rfl) ?_
    refine lv_bipush (v := (8 : Int32)) C.1 C.2.1 dX9_isSink_3 (by decide) ?_
    refine lv_icmp_ge (tgt := 31) C.1 C.2.1 dX9_isSink_5 (by decide) (fun c1 => ?_) (fun c1 => ?_)
    · have hf := if_t hf c1
      refine lv_iconst (v := (1 : Int32)) C.1 C.2.1 dX9_isSink_31 (by decide) ?_
      exact x_rzz C hr hlk h Ex_.rf (by decide) (Option.some.inj hf) rfl dX9_isSink_32
    · have hf := if_f hf c1
      refine lv_aload_n C.1 C.2.1 dX9_isSink_8 rfl (lv_at hl 0 rfl) ?_
      obtain ⟨b2, hb_b2, hf⟩ := ob_ hf
      obtain ⟨hq_b2, hk_b2⟩ := dr_in hb_b2
      refine x_get (v := .ref (ad b2)) C K h cl_9 hk_v0 27 (by decide) fl_RX9_32 (hv_r (o := sr_ σ v0 27) rfl hq_b2) dX9_isSink_9 ?_
      refine lv_bipush (v := (8 : Int32)) C.1 C.2.1 dX9_isSink_12 (by decide) ?_
      refine lv_iload_n C.1 C.2.1 dX9_isSink_14 rfl (lv_at hl 1 rfl) ?_
      refine lv_imul C.1 C.2.1 dX9_isSink_15 ?_
      refine lv_iload_n C.1 C.2.1 dX9_isSink_16 rfl (lv_at hl 2 rfl) ?_
      refine lv_iadd C.1 C.2.1 dX9_isSink_17 ?_
      obtain ⟨j3, hj_j3, hf⟩ := ob_ hf
      refine x_iald C K h hk_b2 hj_j3 dX9_isSink_18 ?_
      refine lv_iload_n C.1 C.2.1 dX9_isSink_19 rfl (lv_at hl 1 rfl) ?_
      refine lv_icmp_eq (tgt := 25) C.1 C.2.1 dX9_isSink_20 (by decide) (fun c4 => ?_) (fun c4 => ?_)
      · have hf := if_t hf c4
        refine lv_iinc (v := v2 + (1 : Int32)) (lv' := [(2, .int (v2 + (1 : Int32))), (0, .ref (ad v0)), (1, .int v1)]) C.1 C.2.1 dX9_isSink_25 hl (k := 2) rfl rfl (by decide) rfl (fun ls hl => ?_)
        refine lv_goto (tgt := 2) C.1 C.2.1 dX9_isSink_28 (by decide) ?_
        exact ih v0 v1 (v2 + (1 : Int32)) hk_v0 hf _ _ _ h (lv_sub hl [1, 2, 0] rfl)
      · have hf := if_f hf c4
        refine lv_iconst (v := (0 : Int32)) C.1 C.2.1 dX9_isSink_23 (by decide) ?_
        exact x_rzz C hr hlk h Ex_.rf (by decide) (Option.some.inj hf) rfl dX9_isSink_24
def f_X9_isSink (fu : Nat) (σ : St_) (a0 : Nat) (x1 : Int32) : Option Int32 := f_X9_isSink_2 fu σ fu a0 x1 (0 : Int32)
set_option maxHeartbeats 4000000 in
set_option maxRecDepth 100000 in
theorem w_X9_isSink {p : Program} {l : Launch} {e : Env} {R : Room} {s : State} {m : MethodId} {args : Array Value} {below : List Frame} {meth : Method} {c : Code} {κ : Ka_} {G : va_G} {cy : Nat → ClassId} {ad : Nat → Nat} {sz : Nat} {σ : St_} (fu : Nat) (C : CallFix p m c cX9_isSink 3 s args wU_ RX9) (K : Kx_ κ G cy (va_A (wl_ cy ad σ) sz) s) (hr : meth.sig.returnType = some .boolean) (hlk : meth.locks = false) (hR : 0 ≤ R.frames ∧ 0 ≤ R.locals) {q : Int32} : ∀ (a0 : Nat) (x1 : Int32), kd_ σ a0 = 9 → f_X9_isSink fu σ a0 x1 = some q → ∀ (H : Heap) (locs : List Loc) (ls : Array Slot), Ht_ G cy (va_A (wl_ cy ad σ) sz) s ad σ H locs → lv_has ls 3 [(0, .ref (ad a0)), (1, .int x1)] → W p l e R s m args below meth c H locs 0 0 (MQ below (Qz_ G cy ad σ σ sz q) args s 0 0 (va_A (wl_ cy ad σ) sz)) (F0 m 0 ls []) := by
  intro a0 x1 hk_a0 hf H locs ls h hl
  have hf : (f_X9_isSink_2 fu σ fu a0 x1 (0 : Int32)) = some q := hf
  refine lv_iconst (v := (0 : Int32)) C.1 C.2.1 dX9_isSink_0 (by decide) ?_
  refine lv_istore_n (i := 2) (lv' := [(2, .int (0 : Int32)), (0, .ref (ad a0)), (1, .int x1)]) C.1 C.2.1 dX9_isSink_1 rfl hl (by decide) rfl (fun ls hl => ?_)
  exact w_X9_isSink_2 fu C K hr hlk hR fu a0 x1 (0 : Int32) hk_a0 hf _ _ _ h (lv_sub hl [1, 2, 0] rfl)
theorem c_X9_isSink (fu : Nat) (l : Launch) (κ : Ka_) (G : va_G) (cy : Nat → ClassId) (ad : Nat → Nat) (sz : Nat) (σ : St_) (a0 : Nat) (x1 : Int32) (hk_a0 : kd_ σ a0 = 9) {q : Int32} (hf : f_X9_isSink fu σ a0 x1 = some q) : Met l yX9_isSink (Cond.code yX9_isSink cX9_isSink 3 (some .boolean) :: wU_) { frames := 0, cells := 0, slots := 0, locals := 0 } (va_Pc [.ref (ad a0), .int x1] (Pr_ κ G cy ad σ sz)) (Qz_ G cy ad σ σ sz q) 0 0 (va_A (wl_ cy ad σ) sz) :=
  x_met (by decide) (fun p e R s m below meth c ls hR C hr hlk hin _ K h hl => w_X9_isSink fu C K hr hlk ⟨hR.1, hR.2.1⟩ a0 x1 hk_a0 hf s.heap [] ls h hl) (Nat.le_of_ble_eq_true rfl)
-- X9_there
theorem mi_X9_there : Mi_ yX9_there cX9_there 6 (some .long) 2 := ⟨co_yX9_there, in_RX9, by decide, by decide, by decide +kernel⟩
def f_X9_there_50 (fu : Nat) : Nat → St_ → Nat → Int32 → Int64 → Int32 → Option (Int64 × St_)
  | 0 => fun _ _ _ _ _ => none
  | n + 1 => fun σ  v0  v2  v3  v5 => if (36 : Int32) ≤ v5 then some (v3, σ) else (dr_ σ 10 (sr_ σ v0 29)).bind fun b2 => (ix_ v5 (ln_ σ b2)).bind fun j3 => if (1000000 : Int32) ≤ (si_ σ b2 j3) then (f_X9_there_50 fu n) σ v0 v2 (v3 ||| (0 : Int64)) (v5 + (1 : Int32)) else if v2 = 0 then (f_X9_there_50 fu n) σ v0 v2 (v3 ||| ((1 : Int64) <<< (v5.toInt64 &&& 63))) (v5 + (1 : Int32)) else (f_X9_isSink fu σ v0 v5).bind fun q6 => if q6 = 0 then (f_X9_there_50 fu n) σ v0 v2 (v3 ||| (0 : Int64)) (v5 + (1 : Int32)) else (f_X9_there_50 fu n) σ v0 v2 (v3 ||| ((1 : Int64) <<< (v5.toInt64 &&& 63))) (v5 + (1 : Int32))
set_option maxHeartbeats 4000000 in
set_option maxRecDepth 100000 in
theorem w_X9_there_50 {p : Program} {l : Launch} {e : Env} {R : Room} {s : State} {m : MethodId} {args : Array Value} {below : List Frame} {meth : Method} {c : Code} {κ : Ka_} {G : va_G} {cy : Nat → ClassId} {ad : Nat → Nat} {sz : Nat} {σ0 : St_} (fu : Nat) (C : CallFix p m c cX9_there 6 s args wU_ RX9) (K : Kx_ κ G cy (va_A (wl_ cy ad σ0) sz) s) (hr : meth.sig.returnType = some .long) (hlk : meth.locks = false) (hR : 46 ≤ R.frames ∧ 1030 ≤ R.locals) {q : Int64 × St_} : ∀ n : Nat, ∀ (σ : St_) (v0 : Nat) (v2 : Int32) (v3 : Int64) (v5 : Int32), Ex_ σ0 σ → kd_ σ v0 = 9 → f_X9_there_50 fu n σ v0 v2 v3 v5 = some q → ∀ (H : Heap) (locs : List Loc) (ls : Array Slot), Ht_ G cy (va_A (wl_ cy ad σ0) sz) s ad σ H locs → lv_has ls 6 [(0, .ref (ad v0)), (2, .int v2), (3, .long v3), (5, .int v5)] → W p l e R s m args below meth c H locs 0 0 (MQ below (Ql_ G cy ad σ0 q.2 sz q.1) args s 0 0 (va_A (wl_ cy ad σ0) sz)) (F0 m 50 ls []) := by
  intro n
  induction n with
  | zero =>
    intro σ v0 v2 v3 v5 hE hk_v0 hf H locs ls h hl
    cases hf
  | succ n ih =>
    intro σ v0 v2 v3 v5 hE hk_v0 hf H locs ls h hl
    have hf : (if (36 : Int32) ≤ v5 then some (v3, σ) else (dr_ σ 10 (sr_ σ v0 29)).bind fun b2 => (ix_ v5 (ln_ σ b2)).bind fun j3 => if (1000000 : Int32) ≤ (si_ σ b2 j3) then (f_X9_there_50 fu n) σ v0 v2 (v3 ||| (0 : Int64)) (v5 + (1 : Int32)) else if v2 = 0 then (f_X9_there_50 fu n) σ v0 v2 (v3 ||| ((1 : Int64) <<< (v5.toInt64 &&& 63))) (v5 + (1 : Int32)) else (f_X9_isSink fu σ v0 v5).bind fun q6 => if q6 = 0 then (f_X9_there_50 fu n) σ v0 v2 (v3 ||| (0 : Int64)) (v5 + (1 : Int32)) else (f_X9_there_50 fu n) σ v0 v2 (v3 ||| ((1 : Int64) <<< (v5.toInt64 &&& 63))) (v5 + (1 : Int32))) = some q := hf
    refine lv_iload C.1 C.2.1 dX9_there_50 (lv_at hl 3 rfl) ?_
    refine lv_bipush (v := (36 : Int32)) C.1 C.2.1 dX9_there_52 (by decide) ?_
    refine lv_icmp_ge (tgt := 100) C.1 C.2.1 dX9_there_54 (by decide) (fun c1 => ?_) (fun c1 => ?_)
    · have hf := if_t hf c1
      refine lv_lload_n C.1 C.2.1 dX9_there_100 rfl (lv_at hl 2 rfl) ?_
      exact x_rl C hr hlk h hE (pf_1 (Option.some.inj hf)) (pf_2 (Option.some.inj hf)) dX9_there_101
    · have hf := if_f hf c1
      refine lv_lload_n C.1 C.2.1 dX9_there_57 rfl (lv_at hl 2 rfl) ?_
      refine lv_aload_n C.1 C.2.1 dX9_there_58 rfl (lv_at hl 0 rfl) ?_
      obtain ⟨b2, hb_b2, hf⟩ := ob_ hf
      obtain ⟨hq_b2, hk_b2⟩ := dr_in hb_b2
      refine x_get (v := .ref (ad b2)) C K h cl_9 hk_v0 29 (by decide) fl_RX9_38 (hv_r (o := sr_ σ v0 29) rfl hq_b2) dX9_there_59 ?_
      refine lv_iload C.1 C.2.1 dX9_there_62 (lv_at hl 3 rfl) ?_
      obtain ⟨j3, hj_j3, hf⟩ := ob_ hf
      refine x_iald C K h hk_b2 hj_j3 dX9_there_64 ?_
      refine lv_ldcw (v := (1000000 : Int32)) C.1 C.2.1 C.2.2.2.1 (C.2.2.2.2 _ ck_RX9_369) dX9_there_65 ?_
      refine lv_icmp_ge (tgt := 91) C.1 C.2.1 dX9_there_68 (by decide) (fun c4 => ?_) (fun c4 => ?_)
      · have hf := if_t hf c4
        refine lv_lconst (v := (0 : Int64)) C.1 C.2.1 dX9_there_91 (by decide) ?_
        refine lv_lor C.1 C.2.1 dX9_there_92 ?_
        refine lv_lstore_n (i := 3) (lv' := [(3, .long (v3 ||| (0 : Int64))), (0, .ref (ad v0)), (2, .int v2), (5, .int v5)]) C.1 C.2.1 dX9_there_93 rfl hl (by decide) rfl (fun ls hl => ?_)
        refine lv_iinc (v := v5 + (1 : Int32)) (lv' := [(5, .int (v5 + (1 : Int32))), (3, .long (v3 ||| (0 : Int64))), (0, .ref (ad v0)), (2, .int v2)]) C.1 C.2.1 dX9_there_94 hl (k := 3) rfl rfl (by decide) rfl (fun ls hl => ?_)
        refine lv_goto (tgt := 50) C.1 C.2.1 dX9_there_97 (by decide) ?_
        exact ih σ v0 v2 (v3 ||| (0 : Int64)) (v5 + (1 : Int32)) hE hk_v0 hf _ _ _ h (lv_sub hl [2, 3, 1, 0] rfl)
      · have hf := if_f hf c4
        refine lv_iload_n C.1 C.2.1 dX9_there_71 rfl (lv_at hl 1 rfl) ?_
        refine lv_if_eq (tgt := 84) C.1 C.2.1 dX9_there_72 (by decide) (fun c5 => ?_) (fun c5 => ?_)
        · have hf := if_t hf c5
          refine lv_lconst (v := (1 : Int64)) C.1 C.2.1 dX9_there_84 (by decide) ?_
          refine lv_iload C.1 C.2.1 dX9_there_85 (lv_at hl 3 rfl) ?_
          refine lv_lshl C.1 C.2.1 dX9_there_87 rfl ?_
          refine lv_goto (tgt := 92) C.1 C.2.1 dX9_there_88 (by decide) ?_
          refine lv_lor C.1 C.2.1 dX9_there_92 ?_
          refine lv_lstore_n (i := 3) (lv' := [(3, .long (v3 ||| ((1 : Int64) <<< (v5.toInt64 &&& 63)))), (0, .ref (ad v0)), (2, .int v2), (5, .int v5)]) C.1 C.2.1 dX9_there_93 rfl hl (by decide) rfl (fun ls hl => ?_)
          refine lv_iinc (v := v5 + (1 : Int32)) (lv' := [(5, .int (v5 + (1 : Int32))), (3, .long (v3 ||| ((1 : Int64) <<< (v5.toInt64 &&& 63)))), (0, .ref (ad v0)), (2, .int v2)]) C.1 C.2.1 dX9_there_94 hl (k := 3) rfl rfl (by decide) rfl (fun ls hl => ?_)
          refine lv_goto (tgt := 50) C.1 C.2.1 dX9_there_97 (by decide) ?_
          exact ih σ v0 v2 (v3 ||| ((1 : Int64) <<< (v5.toInt64 &&& 63))) (v5 + (1 : Int32)) hE hk_v0 hf _ _ _ h (lv_sub hl [2, 3, 1, 0] rfl)
        · have hf := if_f hf c5
          refine lv_aload_n C.1 C.2.1 dX9_there_75 rfl (lv_at hl 0 rfl) ?_
          refine lv_iload C.1 C.2.1 dX9_there_76 (lv_at hl 3 rfl) ?_
          obtain ⟨q6, hq_q6, hf⟩ := ob_ hf
          refine x_az K h (x_V C K h [.int v5] (c_X9_isSink fu l κ G cy ad H.size σ v0 v5 hk_v0 hq_q6) mi_X9_isSink rfl im_yX9_isSink se_yX9_isSink ml_RX9_383 cl_9 hk_v0 ⟨rfl, rfl, Nat.le_trans (Nat.le_of_ble_eq_true rfl) hR.1, Nat.le_trans (Nat.le_of_ble_eq_true rfl) hR.2⟩ hl (Nat.le_of_ble_eq_true rfl) dX9_there_78 ⟨Nat.zero_le _, Nat.zero_le _⟩ rfl) (fun H locs h hX hz7 => ?_)
          refine lv_if_eq (tgt := 91) C.1 C.2.1 dX9_there_81 (by decide) (fun c8 => ?_) (fun c8 => ?_)
          · have hf := if_t hf c8
            refine lv_lconst (v := (0 : Int64)) C.1 C.2.1 dX9_there_91 (by decide) ?_
            refine lv_lor C.1 C.2.1 dX9_there_92 ?_
            refine lv_lstore_n (i := 3) (lv' := [(3, .long (v3 ||| (0 : Int64))), (0, .ref (ad v0)), (2, .int v2), (5, .int v5)]) C.1 C.2.1 dX9_there_93 rfl hl (by decide) rfl (fun ls hl => ?_)
            refine lv_iinc (v := v5 + (1 : Int32)) (lv' := [(5, .int (v5 + (1 : Int32))), (3, .long (v3 ||| (0 : Int64))), (0, .ref (ad v0)), (2, .int v2)]) C.1 C.2.1 dX9_there_94 hl (k := 3) rfl rfl (by decide) rfl (fun ls hl => ?_)
            refine lv_goto (tgt := 50) C.1 C.2.1 dX9_there_97 (by decide) ?_
            exact ih σ v0 v2 (v3 ||| (0 : Int64)) (v5 + (1 : Int32)) hE hk_v0 hf _ _ _ h (lv_sub hl [2, 3, 1, 0] rfl)
          · have hf := if_f hf c8
            refine lv_lconst (v := (1 : Int64)) C.1 C.2.1 dX9_there_84 (by decide) ?_
            refine lv_iload C.1 C.2.1 dX9_there_85 (lv_at hl 3 rfl) ?_
            refine lv_lshl C.1 C.2.1 dX9_there_87 rfl ?_
            refine lv_goto (tgt := 92) C.1 C.2.1 dX9_there_88 (by decide) ?_
            refine lv_lor C.1 C.2.1 dX9_there_92 ?_
            refine lv_lstore_n (i := 3) (lv' := [(3, .long (v3 ||| ((1 : Int64) <<< (v5.toInt64 &&& 63)))), (0, .ref (ad v0)), (2, .int v2), (5, .int v5)]) C.1 C.2.1 dX9_there_93 rfl hl (by decide) rfl (fun ls hl => ?_)
            refine lv_iinc (v := v5 + (1 : Int32)) (lv' := [(5, .int (v5 + (1 : Int32))), (3, .long (v3 ||| ((1 : Int64) <<< (v5.toInt64 &&& 63)))), (0, .ref (ad v0)), (2, .int v2)]) C.1 C.2.1 dX9_there_94 hl (k := 3) rfl rfl (by decide) rfl (fun ls hl => ?_)
            refine lv_goto (tgt := 50) C.1 C.2.1 dX9_there_97 (by decide) ?_
            exact ih σ v0 v2 (v3 ||| ((1 : Int64) <<< (v5.toInt64 &&& 63))) (v5 + (1 : Int32)) hE hk_v0 hf _ _ _ h (lv_sub hl [2, 3, 1, 0] rfl)
def f_X9_there (fu : Nat) (σ : St_) (a0 : Nat) (x1 : Int32) (x2 : Int32) : Option (Int64 × St_) := if (f_X9_isOne σ a0 x1) = 0 then some ((-4611686018427387904 : Int64), σ) else if (f_X9_in x2.toInt64 (0 : Int64) (1 : Int64)) = 0 then some ((-4611686018427387904 : Int64), σ) else (dr_ σ 10 (sr_ σ a0 27)).bind fun b9 => (f_X9_tables fu σ a0 x1 b9).bind fun q10 => (dr_ q10 10 (sr_ q10 a0 10)).bind fun b11 => (ix_ (((3 : Int32) * x1) + (1 : Int32)) (ln_ q10 b11)).bind fun j12 => (f_X9_spreads fu q10 a0 (si_ q10 b11 j12)).bind fun q13 => f_X9_there_50 fu fu q13 a0 x2 (0 : Int64) (0 : Int32)
set_option maxHeartbeats 4000000 in
set_option maxRecDepth 100000 in
theorem w_X9_there {p : Program} {l : Launch} {e : Env} {R : Room} {s : State} {m : MethodId} {args : Array Value} {below : List Frame} {meth : Method} {c : Code} {κ : Ka_} {G : va_G} {cy : Nat → ClassId} {ad : Nat → Nat} {sz : Nat} {σ0 : St_} (fu : Nat) (C : CallFix p m c cX9_there 6 s args wU_ RX9) (K : Kx_ κ G cy (va_A (wl_ cy ad σ0) sz) s) (hr : meth.sig.returnType = some .long) (hlk : meth.locks = false) (hR : 46 ≤ R.frames ∧ 1030 ≤ R.locals) {q : Int64 × St_} : ∀ (σ : St_) (a0 : Nat) (x1 : Int32) (x2 : Int32), Ex_ σ0 σ → kd_ σ a0 = 9 → f_X9_there fu σ a0 x1 x2 = some q → ∀ (H : Heap) (locs : List Loc) (ls : Array Slot), Ht_ G cy (va_A (wl_ cy ad σ0) sz) s ad σ H locs → lv_has ls 6 [(0, .ref (ad a0)), (1, .int x1), (2, .int x2)] → W p l e R s m args below meth c H locs 0 0 (MQ below (Ql_ G cy ad σ0 q.2 sz q.1) args s 0 0 (va_A (wl_ cy ad σ0) sz)) (F0 m 0 ls []) := by
  intro σ a0 x1 x2 hE hk_a0 hf H locs ls h hl
  have hf : (if (f_X9_isOne σ a0 x1) = 0 then some ((-4611686018427387904 : Int64), σ) else if (f_X9_in x2.toInt64 (0 : Int64) (1 : Int64)) = 0 then some ((-4611686018427387904 : Int64), σ) else (dr_ σ 10 (sr_ σ a0 27)).bind fun b9 => (f_X9_tables fu σ a0 x1 b9).bind fun q10 => (dr_ q10 10 (sr_ q10 a0 10)).bind fun b11 => (ix_ (((3 : Int32) * x1) + (1 : Int32)) (ln_ q10 b11)).bind fun j12 => (f_X9_spreads fu q10 a0 (si_ q10 b11 j12)).bind fun q13 => f_X9_there_50 fu fu q13 a0 x2 (0 : Int64) (0 : Int32)) = some q := hf
  refine lv_aload_n C.1 C.2.1 dX9_there_0 rfl (lv_at hl 0 rfl) ?_
  refine lv_iload_n C.1 C.2.1 dX9_there_1 rfl (lv_at hl 1 rfl) ?_
  refine x_az K h (x_V C K h [.int x1] (c_X9_isOne l κ G cy ad H.size σ a0 x1 hk_a0 rfl) mi_X9_isOne rfl im_yX9_isOne se_yX9_isOne ml_RX9_95 cl_9 hk_a0 ⟨rfl, rfl, Nat.le_trans (Nat.le_of_ble_eq_true rfl) hR.1, Nat.le_trans (Nat.le_of_ble_eq_true rfl) hR.2⟩ hl (Nat.le_of_ble_eq_true rfl) dX9_there_2 ⟨Nat.zero_le _, Nat.zero_le _⟩ rfl) (fun H locs h hX hz4 => ?_)
  refine lv_if_eq (tgt := 18) C.1 C.2.1 dX9_there_5 (by decide) (fun c5 => ?_) (fun c5 => ?_)
  · have hf := if_t hf c5
    refine lv_ldc2 (v := (-4611686018427387904 : Int64)) C.1 C.2.1 C.2.2.2.1 (C.2.2.2.2 _ cl_RX9_378) dX9_there_18 ?_
    exact x_rl C hr hlk h hE (pf_1 (Option.some.inj hf)) (pf_2 (Option.some.inj hf)) dX9_there_21
  · have hf := if_f hf c5
    refine lv_iload_n C.1 C.2.1 dX9_there_8 rfl (lv_at hl 2 rfl) ?_
    refine lv_i2l C.1 C.2.1 dX9_there_9 rfl ?_
    refine lv_lconst (v := (0 : Int64)) C.1 C.2.1 dX9_there_10 (by decide) ?_
    refine lv_lconst (v := (1 : Int64)) C.1 C.2.1 dX9_there_11 (by decide) ?_
    refine x_az K h (x_S C K h [.long x2.toInt64, .long (0 : Int64), .long (1 : Int64)] (c_X9_in l κ G cy ad H.size σ x2.toInt64 (0 : Int64) (1 : Int64) rfl) mi_X9_in rfl st_yX9_in ml_RX9_83 ⟨rfl, rfl, Nat.le_trans (Nat.le_of_ble_eq_true rfl) hR.1, Nat.le_trans (Nat.le_of_ble_eq_true rfl) hR.2⟩ hl (Nat.le_of_ble_eq_true rfl) dX9_there_12 ⟨Nat.zero_le _, Nat.zero_le _⟩ rfl) (fun H locs h hX hz7 => ?_)
    refine lv_if_ne (tgt := 22) C.1 C.2.1 dX9_there_15 (by decide) (fun c8 => ?_) (fun c8 => ?_)
    · have hf := if_f hf c8
      refine lv_aload_n C.1 C.2.1 dX9_there_22 rfl (lv_at hl 0 rfl) ?_
      refine lv_iload_n C.1 C.2.1 dX9_there_23 rfl (lv_at hl 1 rfl) ?_
      refine lv_aload_n C.1 C.2.1 dX9_there_24 rfl (lv_at hl 0 rfl) ?_
      obtain ⟨b9, hb_b9, hf⟩ := ob_ hf
      obtain ⟨hq_b9, hk_b9⟩ := dr_in hb_b9
      refine x_get (v := .ref (ad b9)) C K h cl_9 hk_a0 27 (by decide) fl_RX9_32 (hv_r (o := sr_ σ a0 27) rfl hq_b9) dX9_there_25 ?_
      obtain ⟨q10, hq_q10, hf⟩ := ob_ hf
      refine x_av K h (x_V C K h [.int x1, .ref (ad b9)] (c_X9_tables fu l κ G cy ad H.size σ a0 x1 b9 hk_a0 hk_b9 hq_q10) mi_X9_tables rfl im_yX9_tables se_yX9_tables ml_RX9_370 cl_9 hk_a0 ⟨rfl, rfl, Nat.le_trans (Nat.le_of_ble_eq_true rfl) hR.1, Nat.le_trans (Nat.le_of_ble_eq_true rfl) hR.2⟩ hl (Nat.le_of_ble_eq_true rfl) dX9_there_28 ⟨Nat.zero_le _, Nat.zero_le _⟩ rfl) (fun H locs h hX => ?_)
      have hE := hE.trans hX
      have hk_a0 := hX.k hk_a0 (by decide)
      refine lv_aload_n C.1 C.2.1 dX9_there_31 rfl (lv_at hl 0 rfl) ?_
      refine lv_aload_n C.1 C.2.1 dX9_there_32 rfl (lv_at hl 0 rfl) ?_
      obtain ⟨b11, hb_b11, hf⟩ := ob_ hf
      obtain ⟨hq_b11, hk_b11⟩ := dr_in hb_b11
      refine x_get (v := .ref (ad b11)) C K h cl_9 hk_a0 10 (by decide) fl_RX9_29 (hv_r (o := sr_ q10 a0 10) rfl hq_b11) dX9_there_33 ?_
      refine lv_iconst (v := (3 : Int32)) C.1 C.2.1 dX9_there_36 (by decide) ?_
      refine lv_iload_n C.1 C.2.1 dX9_there_37 rfl (lv_at hl 1 rfl) ?_
      refine lv_imul C.1 C.2.1 dX9_there_38 ?_
      refine lv_iconst (v := (1 : Int32)) C.1 C.2.1 dX9_there_39 (by decide) ?_
      refine lv_iadd C.1 C.2.1 dX9_there_40 ?_
      obtain ⟨j12, hj_j12, hf⟩ := ob_ hf
      refine x_iald C K h hk_b11 hj_j12 dX9_there_41 ?_
      obtain ⟨q13, hq_q13, hf⟩ := ob_ hf
      refine x_av K h (x_V C K h [.int (si_ q10 b11 j12)] (c_X9_spreads fu l κ G cy ad H.size q10 a0 (si_ q10 b11 j12) hk_a0 hq_q13) mi_X9_spreads rfl im_yX9_spreads se_yX9_spreads ml_RX9_380 cl_9 hk_a0 ⟨rfl, rfl, Nat.le_trans (Nat.le_of_ble_eq_true rfl) hR.1, Nat.le_trans (Nat.le_of_ble_eq_true rfl) hR.2⟩ hl (Nat.le_of_ble_eq_true rfl) dX9_there_42 ⟨Nat.zero_le _, Nat.zero_le _⟩ rfl) (fun H locs h hX => ?_)
      have hE := hE.trans hX
      have hk_a0 := hX.k hk_a0 (by decide)
      refine lv_lconst (v := (0 : Int64)) C.1 C.2.1 dX9_there_45 (by decide) ?_
      refine lv_lstore_n (i := 3) (lv' := [(3, .long (0 : Int64)), (0, .ref (ad a0)), (1, .int x1), (2, .int x2)]) C.1 C.2.1 dX9_there_46 rfl hl (by decide) rfl (fun ls hl => ?_)
      refine lv_iconst (v := (0 : Int32)) C.1 C.2.1 dX9_there_47 (by decide) ?_
      refine lv_istore (i := 5) (lv' := [(5, .int (0 : Int32)), (3, .long (0 : Int64)), (0, .ref (ad a0)), (1, .int x1), (2, .int x2)]) C.1 C.2.1 dX9_there_48 hl (by decide) rfl (fun ls hl => ?_)
      exact w_X9_there_50 fu C K hr hlk hR fu q13 a0 x2 (0 : Int64) (0 : Int32) hE hk_a0 hf _ _ _ h (lv_sub hl [2, 4, 1, 0] rfl)
    · have hf := if_t hf c8
      refine lv_ldc2 (v := (-4611686018427387904 : Int64)) C.1 C.2.1 C.2.2.2.1 (C.2.2.2.2 _ cl_RX9_378) dX9_there_18 ?_
      exact x_rl C hr hlk h hE (pf_1 (Option.some.inj hf)) (pf_2 (Option.some.inj hf)) dX9_there_21
theorem c_X9_there (fu : Nat) (l : Launch) (κ : Ka_) (G : va_G) (cy : Nat → ClassId) (ad : Nat → Nat) (sz : Nat) (σ : St_) (a0 : Nat) (x1 : Int32) (x2 : Int32) (hk_a0 : kd_ σ a0 = 9) {q : Int64 × St_} (hf : f_X9_there fu σ a0 x1 x2 = some q) : Met l yX9_there (Cond.code yX9_there cX9_there 6 (some .long) :: wU_) { frames := 46, cells := 0, slots := 0, locals := 1030 } (va_Pc [.ref (ad a0), .int x1, .int x2] (Pr_ κ G cy ad σ sz)) (Ql_ G cy ad σ q.2 sz q.1) 0 0 (va_A (wl_ cy ad σ) sz) :=
  x_met (by decide) (fun p e R s m below meth c ls hR C hr hlk hin _ K h hl => w_X9_there fu C K hr hlk ⟨hR.1, hR.2.1⟩ σ a0 x1 x2 Ex_.rf hk_a0 hf s.heap [] ls h hl) (Nat.le_of_ble_eq_true rfl)
-- X9_furthest
theorem mi_X9_furthest : Mi_ yX9_furthest cX9_furthest 7 (some .int) 2 := ⟨co_yX9_furthest, in_RX9, by decide, by decide, by decide +kernel⟩
def f_X9_furthest_107 (fu : Nat) (k56 : St_ → Nat → Int32 → Int32 → Int32 → Int32 → Option (Int32 × St_)) : Nat → St_ → Nat → Int32 → Int32 → Int32 → Int32 → Int32 → Option (Int32 × St_)
  | 0 => fun _ _ _ _ _ _ _ => none
  | n + 1 => fun σ  v0  v2  v3  v4  v5  v6 => if (8 : Int32) ≤ v6 then k56 σ v0 v2 v3 v4 (v5 + (1 : Int32)) else (dr_ σ 10 (sr_ σ v0 27)).bind fun b2 => (ix_ (((8 : Int32) * v5) + v6) (ln_ σ b2)).bind fun j3 => if (si_ σ b2 j3) = v5 then (f_X9_furthest_107 fu k56 n) σ v0 v2 v3 (v4 &&& (255 : Int32)) v5 (v6 + (1 : Int32)) else (f_X9_furthest_107 fu k56 n) σ v0 v2 v3 (v4 &&& ((255 : Int32) &&& (((1 : Int32) <<< (v6 &&& 31)) ^^^ (-1 : Int32)))) v5 (v6 + (1 : Int32))
set_option maxHeartbeats 4000000 in
set_option maxRecDepth 100000 in
theorem w_X9_furthest_107 {p : Program} {l : Launch} {e : Env} {R : Room} {s : State} {m : MethodId} {args : Array Value} {below : List Frame} {meth : Method} {c : Code} {κ : Ka_} {G : va_G} {cy : Nat → ClassId} {ad : Nat → Nat} {sz : Nat} {σ0 : St_} (fu : Nat) (C : CallFix p m c cX9_furthest 7 s args wU_ RX9) (K : Kx_ κ G cy (va_A (wl_ cy ad σ0) sz) s) (hr : meth.sig.returnType = some .int) (hlk : meth.locks = false) (hR : 46 ≤ R.frames ∧ 1030 ≤ R.locals) {q : Int32 × St_} (k56 : St_ → Nat → Int32 → Int32 → Int32 → Int32 → Option (Int32 × St_)) (hk56 : ∀ (σ : St_) (v0 : Nat) (v2 : Int32) (v3 : Int32) (v4 : Int32) (v5 : Int32), Ex_ σ0 σ → kd_ σ v0 = 9 → k56 σ v0 v2 v3 v4 v5 = some q → ∀ (H : Heap) (locs : List Loc) (ls : Array Slot), Ht_ G cy (va_A (wl_ cy ad σ0) sz) s ad σ H locs → lv_has ls 7 [(0, .ref (ad v0)), (2, .int v2), (3, .int v3), (4, .int v4), (5, .int v5)] → W p l e R s m args below meth c H locs 0 0 (MQ below (Qi_ G cy ad σ0 q.2 sz q.1) args s 0 0 (va_A (wl_ cy ad σ0) sz)) (F0 m 56 ls [])) : ∀ n : Nat, ∀ (σ : St_) (v0 : Nat) (v2 : Int32) (v3 : Int32) (v4 : Int32) (v5 : Int32) (v6 : Int32), Ex_ σ0 σ → kd_ σ v0 = 9 → f_X9_furthest_107 fu k56 n σ v0 v2 v3 v4 v5 v6 = some q → ∀ (H : Heap) (locs : List Loc) (ls : Array Slot), Ht_ G cy (va_A (wl_ cy ad σ0) sz) s ad σ H locs → lv_has ls 7 [(0, .ref (ad v0)), (2, .int v2), (3, .int v3), (4, .int v4), (5, .int v5), (6, .int v6)] → W p l e R s m args below meth c H locs 0 0 (MQ below (Qi_ G cy ad σ0 q.2 sz q.1) args s 0 0 (va_A (wl_ cy ad σ0) sz)) (F0 m 107 ls []) := by
  intro n
  induction n with
  | zero =>
    intro σ v0 v2 v3 v4 v5 v6 hE hk_v0 hf H locs ls h hl
    cases hf
  | succ n ih =>
    intro σ v0 v2 v3 v4 v5 v6 hE hk_v0 hf H locs ls h hl
    have hf : (if (8 : Int32) ≤ v6 then k56 σ v0 v2 v3 v4 (v5 + (1 : Int32)) else (dr_ σ 10 (sr_ σ v0 27)).bind fun b2 => (ix_ (((8 : Int32) * v5) + v6) (ln_ σ b2)).bind fun j3 => if (si_ σ b2 j3) = v5 then (f_X9_furthest_107 fu k56 n) σ v0 v2 v3 (v4 &&& (255 : Int32)) v5 (v6 + (1 : Int32)) else (f_X9_furthest_107 fu k56 n) σ v0 v2 v3 (v4 &&& ((255 : Int32) &&& (((1 : Int32) <<< (v6 &&& 31)) ^^^ (-1 : Int32)))) v5 (v6 + (1 : Int32))) = some q := hf
    refine lv_iload C.1 C.2.1 dX9_furthest_107 (lv_at hl 5 rfl) ?_
    refine lv_bipush (v := (8 : Int32)) C.1 C.2.1 dX9_furthest_109 (by decide) ?_
    refine lv_icmp_ge (tgt := 159) C.1 C.2.1 dX9_furthest_111 (by decide) (fun c1 => ?_) (fun c1 => ?_)
    · have hf := if_t hf c1
      refine lv_iinc (v := v5 + (1 : Int32)) (lv' := [(5, .int (v5 + (1 : Int32))), (0, .ref (ad v0)), (2, .int v2), (3, .int v3), (4, .int v4), (6, .int v6)]) C.1 C.2.1 dX9_furthest_159 hl (k := 4) rfl rfl (by decide) rfl (fun ls hl => ?_)
      refine lv_goto (tgt := 56) C.1 C.2.1 dX9_furthest_162 (by decide) ?_
      exact hk56 σ v0 v2 v3 v4 (v5 + (1 : Int32)) hE hk_v0 hf _ _ _ h (lv_sub hl [1, 2, 3, 4, 0] rfl)
    · have hf := if_f hf c1
      refine lv_iload C.1 C.2.1 dX9_furthest_114 (lv_at hl 3 rfl) ?_
      refine lv_aload_n C.1 C.2.1 dX9_furthest_116 rfl (lv_at hl 0 rfl) ?_
      obtain ⟨b2, hb_b2, hf⟩ := ob_ hf
      obtain ⟨hq_b2, hk_b2⟩ := dr_in hb_b2
      refine x_get (v := .ref (ad b2)) C K h cl_9 hk_v0 27 (by decide) fl_RX9_32 (hv_r (o := sr_ σ v0 27) rfl hq_b2) dX9_furthest_117 ?_
      refine lv_bipush (v := (8 : Int32)) C.1 C.2.1 dX9_furthest_120 (by decide) ?_
      refine lv_iload C.1 C.2.1 dX9_furthest_122 (lv_at hl 4 rfl) ?_
      refine lv_imul C.1 C.2.1 dX9_furthest_124 ?_
      refine lv_iload C.1 C.2.1 dX9_furthest_125 (lv_at hl 5 rfl) ?_
      refine lv_iadd C.1 C.2.1 dX9_furthest_127 ?_
      obtain ⟨j3, hj_j3, hf⟩ := ob_ hf
      refine x_iald C K h hk_b2 hj_j3 dX9_furthest_128 ?_
      refine lv_iload C.1 C.2.1 dX9_furthest_129 (lv_at hl 4 rfl) ?_
      refine lv_icmp_ne (tgt := 140) C.1 C.2.1 dX9_furthest_131 (by decide) (fun c4 => ?_) (fun c4 => ?_)
      · have hf := if_f hf c4
        refine lv_sipush (v := (255 : Int32)) C.1 C.2.1 dX9_furthest_140 (by decide) ?_
        refine lv_iconst (v := (1 : Int32)) C.1 C.2.1 dX9_furthest_143 (by decide) ?_
        refine lv_iload C.1 C.2.1 dX9_furthest_144 (lv_at hl 5 rfl) ?_
        refine lv_ishl C.1 C.2.1 dX9_furthest_146 ?_
        refine lv_iconst (v := (-1 : Int32)) C.1 C.2.1 dX9_furthest_147 (by decide) ?_
        refine lv_ixor C.1 C.2.1 dX9_furthest_148 ?_
        refine lv_iand C.1 C.2.1 dX9_furthest_149 ?_
        refine lv_iand C.1 C.2.1 dX9_furthest_150 ?_
        refine lv_istore (i := 4) (lv' := [(4, .int (v4 &&& ((255 : Int32) &&& (((1 : Int32) <<< (v6 &&& 31)) ^^^ (-1 : Int32))))), (0, .ref (ad v0)), (2, .int v2), (3, .int v3), (5, .int v5), (6, .int v6)]) C.1 C.2.1 dX9_furthest_151 hl (by decide) rfl (fun ls hl => ?_)
        refine lv_iinc (v := v6 + (1 : Int32)) (lv' := [(6, .int (v6 + (1 : Int32))), (4, .int (v4 &&& ((255 : Int32) &&& (((1 : Int32) <<< (v6 &&& 31)) ^^^ (-1 : Int32))))), (0, .ref (ad v0)), (2, .int v2), (3, .int v3), (5, .int v5)]) C.1 C.2.1 dX9_furthest_153 hl (k := 5) rfl rfl (by decide) rfl (fun ls hl => ?_)
        refine lv_goto (tgt := 107) C.1 C.2.1 dX9_furthest_156 (by decide) ?_
        exact ih σ v0 v2 v3 (v4 &&& ((255 : Int32) &&& (((1 : Int32) <<< (v6 &&& 31)) ^^^ (-1 : Int32)))) v5 (v6 + (1 : Int32)) hE hk_v0 hf _ _ _ h (lv_sub hl [2, 3, 4, 1, 5, 0] rfl)
      · have hf := if_t hf c4
        refine lv_sipush (v := (255 : Int32)) C.1 C.2.1 dX9_furthest_134 (by decide) ?_
        refine lv_goto (tgt := 150) C.1 C.2.1 dX9_furthest_137 (by decide) ?_
        refine lv_iand C.1 C.2.1 dX9_furthest_150 ?_
        refine lv_istore (i := 4) (lv' := [(4, .int (v4 &&& (255 : Int32))), (0, .ref (ad v0)), (2, .int v2), (3, .int v3), (5, .int v5), (6, .int v6)]) C.1 C.2.1 dX9_furthest_151 hl (by decide) rfl (fun ls hl => ?_)
        refine lv_iinc (v := v6 + (1 : Int32)) (lv' := [(6, .int (v6 + (1 : Int32))), (4, .int (v4 &&& (255 : Int32))), (0, .ref (ad v0)), (2, .int v2), (3, .int v3), (5, .int v5)]) C.1 C.2.1 dX9_furthest_153 hl (k := 5) rfl rfl (by decide) rfl (fun ls hl => ?_)
        refine lv_goto (tgt := 107) C.1 C.2.1 dX9_furthest_156 (by decide) ?_
        exact ih σ v0 v2 v3 (v4 &&& (255 : Int32)) v5 (v6 + (1 : Int32)) hE hk_v0 hf _ _ _ h (lv_sub hl [2, 3, 4, 1, 5, 0] rfl)
def f_X9_furthest_56 (fu : Nat) : Nat → St_ → Nat → Int32 → Int32 → Int32 → Int32 → Option (Int32 × St_)
  | 0 => fun _ _ _ _ _ _ => none
  | n + 1 => fun σ  v0  v2  v3  v4  v5 => if (36 : Int32) ≤ v5 then if v2 = 0 then some (v3, σ) else if v2 = (1 : Int32) then (dr_ σ 10 (sr_ σ v0 29)).bind fun b4 => (ix_ v3 (ln_ σ b4)).bind fun j5 => some (si_ σ b4 j5, σ) else some (v4, σ) else (dr_ σ 10 (sr_ σ v0 29)).bind fun b6 => (ix_ v5 (ln_ σ b6)).bind fun j7 => if (1000000 : Int32) ≤ (si_ σ b6 j7) then (f_X9_furthest_56 fu n) σ v0 v2 v3 v4 (v5 + (1 : Int32)) else if v3 = (-1 : Int32) then f_X9_furthest_107 fu (f_X9_furthest_56 fu n) fu σ v0 v2 v5 v4 v5 (0 : Int32) else (ix_ v5 (ln_ σ b6)).bind fun j10 => (ix_ v3 (ln_ σ b6)).bind fun j11 => if (si_ σ b6 j10) ≤ (si_ σ b6 j11) then f_X9_furthest_107 fu (f_X9_furthest_56 fu n) fu σ v0 v2 v3 v4 v5 (0 : Int32) else f_X9_furthest_107 fu (f_X9_furthest_56 fu n) fu σ v0 v2 v5 v4 v5 (0 : Int32)
set_option maxHeartbeats 4000000 in
set_option maxRecDepth 100000 in
theorem w_X9_furthest_56 {p : Program} {l : Launch} {e : Env} {R : Room} {s : State} {m : MethodId} {args : Array Value} {below : List Frame} {meth : Method} {c : Code} {κ : Ka_} {G : va_G} {cy : Nat → ClassId} {ad : Nat → Nat} {sz : Nat} {σ0 : St_} (fu : Nat) (C : CallFix p m c cX9_furthest 7 s args wU_ RX9) (K : Kx_ κ G cy (va_A (wl_ cy ad σ0) sz) s) (hr : meth.sig.returnType = some .int) (hlk : meth.locks = false) (hR : 46 ≤ R.frames ∧ 1030 ≤ R.locals) {q : Int32 × St_} : ∀ n : Nat, ∀ (σ : St_) (v0 : Nat) (v2 : Int32) (v3 : Int32) (v4 : Int32) (v5 : Int32), Ex_ σ0 σ → kd_ σ v0 = 9 → f_X9_furthest_56 fu n σ v0 v2 v3 v4 v5 = some q → ∀ (H : Heap) (locs : List Loc) (ls : Array Slot), Ht_ G cy (va_A (wl_ cy ad σ0) sz) s ad σ H locs → lv_has ls 7 [(0, .ref (ad v0)), (2, .int v2), (3, .int v3), (4, .int v4), (5, .int v5)] → W p l e R s m args below meth c H locs 0 0 (MQ below (Qi_ G cy ad σ0 q.2 sz q.1) args s 0 0 (va_A (wl_ cy ad σ0) sz)) (F0 m 56 ls []) := by
  intro n
  induction n with
  | zero =>
    intro σ v0 v2 v3 v4 v5 hE hk_v0 hf H locs ls h hl
    cases hf
  | succ n ih =>
    intro σ v0 v2 v3 v4 v5 hE hk_v0 hf H locs ls h hl
    have hf : (if (36 : Int32) ≤ v5 then if v2 = 0 then some (v3, σ) else if v2 = (1 : Int32) then (dr_ σ 10 (sr_ σ v0 29)).bind fun b4 => (ix_ v3 (ln_ σ b4)).bind fun j5 => some (si_ σ b4 j5, σ) else some (v4, σ) else (dr_ σ 10 (sr_ σ v0 29)).bind fun b6 => (ix_ v5 (ln_ σ b6)).bind fun j7 => if (1000000 : Int32) ≤ (si_ σ b6 j7) then (f_X9_furthest_56 fu n) σ v0 v2 v3 v4 (v5 + (1 : Int32)) else if v3 = (-1 : Int32) then f_X9_furthest_107 fu (f_X9_furthest_56 fu n) fu σ v0 v2 v5 v4 v5 (0 : Int32) else (ix_ v5 (ln_ σ b6)).bind fun j10 => (ix_ v3 (ln_ σ b6)).bind fun j11 => if (si_ σ b6 j10) ≤ (si_ σ b6 j11) then f_X9_furthest_107 fu (f_X9_furthest_56 fu n) fu σ v0 v2 v3 v4 v5 (0 : Int32) else f_X9_furthest_107 fu (f_X9_furthest_56 fu n) fu σ v0 v2 v5 v4 v5 (0 : Int32)) = some q := hf
    refine lv_iload C.1 C.2.1 dX9_furthest_56 (lv_at hl 4 rfl) ?_
    refine lv_bipush (v := (36 : Int32)) C.1 C.2.1 dX9_furthest_58 (by decide) ?_
    refine lv_icmp_ge (tgt := 165) C.1 C.2.1 dX9_furthest_60 (by decide) (fun c1 => ?_) (fun c1 => ?_)
    · have hf := if_t hf c1
      refine lv_iload_n C.1 C.2.1 dX9_furthest_165 rfl (lv_at hl 1 rfl) ?_
      refine lv_if_ne (tgt := 173) C.1 C.2.1 dX9_furthest_166 (by decide) (fun c2 => ?_) (fun c2 => ?_)
      · have hf := if_f hf c2
        refine lv_iload_n C.1 C.2.1 dX9_furthest_173 rfl (lv_at hl 1 rfl) ?_
        refine lv_iconst (v := (1 : Int32)) C.1 C.2.1 dX9_furthest_174 (by decide) ?_
        refine lv_icmp_ne (tgt := 187) C.1 C.2.1 dX9_furthest_175 (by decide) (fun c3 => ?_) (fun c3 => ?_)
        · have hf := if_f hf c3
          refine lv_iload C.1 C.2.1 dX9_furthest_187 (lv_at hl 3 rfl) ?_
          exact x_ri C hr hlk h hE (pf_1 (Option.some.inj hf)) (pf_2 (Option.some.inj hf)) dX9_furthest_189
        · have hf := if_t hf c3
          refine lv_aload_n C.1 C.2.1 dX9_furthest_178 rfl (lv_at hl 0 rfl) ?_
          obtain ⟨b4, hb_b4, hf⟩ := ob_ hf
          obtain ⟨hq_b4, hk_b4⟩ := dr_in hb_b4
          refine x_get (v := .ref (ad b4)) C K h cl_9 hk_v0 29 (by decide) fl_RX9_38 (hv_r (o := sr_ σ v0 29) rfl hq_b4) dX9_furthest_179 ?_
          refine lv_iload_n C.1 C.2.1 dX9_furthest_182 rfl (lv_at hl 2 rfl) ?_
          obtain ⟨j5, hj_j5, hf⟩ := ob_ hf
          refine x_iald C K h hk_b4 hj_j5 dX9_furthest_183 ?_
          refine lv_goto (tgt := 189) C.1 C.2.1 dX9_furthest_184 (by decide) ?_
          exact x_ri C hr hlk h hE (pf_1 (Option.some.inj hf)) (pf_2 (Option.some.inj hf)) dX9_furthest_189
      · have hf := if_t hf c2
        refine lv_iload_n C.1 C.2.1 dX9_furthest_169 rfl (lv_at hl 2 rfl) ?_
        refine lv_goto (tgt := 189) C.1 C.2.1 dX9_furthest_170 (by decide) ?_
        exact x_ri C hr hlk h hE (pf_1 (Option.some.inj hf)) (pf_2 (Option.some.inj hf)) dX9_furthest_189
    · have hf := if_f hf c1
      refine lv_aload_n C.1 C.2.1 dX9_furthest_63 rfl (lv_at hl 0 rfl) ?_
      obtain ⟨b6, hb_b6, hf⟩ := ob_ hf
      obtain ⟨hq_b6, hk_b6⟩ := dr_in hb_b6
      refine x_get (v := .ref (ad b6)) C K h cl_9 hk_v0 29 (by decide) fl_RX9_38 (hv_r (o := sr_ σ v0 29) rfl hq_b6) dX9_furthest_64 ?_
      refine lv_iload C.1 C.2.1 dX9_furthest_67 (lv_at hl 4 rfl) ?_
      obtain ⟨j7, hj_j7, hf⟩ := ob_ hf
      refine x_iald C K h hk_b6 hj_j7 dX9_furthest_69 ?_
      refine lv_ldcw (v := (1000000 : Int32)) C.1 C.2.1 C.2.2.2.1 (C.2.2.2.2 _ ck_RX9_369) dX9_furthest_70 ?_
      refine lv_icmp_ge (tgt := 159) C.1 C.2.1 dX9_furthest_73 (by decide) (fun c8 => ?_) (fun c8 => ?_)
      · have hf := if_t hf c8
        refine lv_iinc (v := v5 + (1 : Int32)) (lv' := [(5, .int (v5 + (1 : Int32))), (0, .ref (ad v0)), (2, .int v2), (3, .int v3), (4, .int v4)]) C.1 C.2.1 dX9_furthest_159 hl (k := 4) rfl rfl (by decide) rfl (fun ls hl => ?_)
        refine lv_goto (tgt := 56) C.1 C.2.1 dX9_furthest_162 (by decide) ?_
        exact ih σ v0 v2 v3 v4 (v5 + (1 : Int32)) hE hk_v0 hf _ _ _ h (lv_sub hl [1, 2, 3, 4, 0] rfl)
      · have hf := if_f hf c8
        refine lv_iload_n C.1 C.2.1 dX9_furthest_76 rfl (lv_at hl 2 rfl) ?_
        refine lv_iconst (v := (-1 : Int32)) C.1 C.2.1 dX9_furthest_77 (by decide) ?_
        refine lv_icmp_eq (tgt := 97) C.1 C.2.1 dX9_furthest_78 (by decide) (fun c9 => ?_) (fun c9 => ?_)
        · have hf := if_t hf c9
          refine lv_iload C.1 C.2.1 dX9_furthest_97 (lv_at hl 4 rfl) ?_
          refine lv_goto (tgt := 103) C.1 C.2.1 dX9_furthest_99 (by decide) ?_
          refine lv_istore_n (i := 3) (lv' := [(3, .int v5), (0, .ref (ad v0)), (2, .int v2), (4, .int v4), (5, .int v5)]) C.1 C.2.1 dX9_furthest_103 rfl hl (by decide) rfl (fun ls hl => ?_)
          refine lv_iconst (v := (0 : Int32)) C.1 C.2.1 dX9_furthest_104 (by decide) ?_
          refine lv_istore (i := 6) (lv' := [(6, .int (0 : Int32)), (3, .int v5), (0, .ref (ad v0)), (2, .int v2), (4, .int v4), (5, .int v5)]) C.1 C.2.1 dX9_furthest_105 hl (by decide) rfl (fun ls hl => ?_)
          exact w_X9_furthest_107 fu C K hr hlk hR (f_X9_furthest_56 fu n) ih fu σ v0 v2 v5 v4 v5 (0 : Int32) hE hk_v0 hf _ _ _ h (lv_sub hl [2, 3, 1, 4, 5, 0] rfl)
        · have hf := if_f hf c9
          refine lv_aload_n C.1 C.2.1 dX9_furthest_81 rfl (lv_at hl 0 rfl) ?_
          refine x_get (v := .ref (ad b6)) C K h cl_9 hk_v0 29 (by decide) fl_RX9_38 (hv_r (o := sr_ σ v0 29) rfl hq_b6) dX9_furthest_82 ?_
          refine lv_iload C.1 C.2.1 dX9_furthest_85 (lv_at hl 4 rfl) ?_
          obtain ⟨j10, hj_j10, hf⟩ := ob_ hf
          refine x_iald C K h hk_b6 hj_j10 dX9_furthest_87 ?_
          refine lv_aload_n C.1 C.2.1 dX9_furthest_88 rfl (lv_at hl 0 rfl) ?_
          refine x_get (v := .ref (ad b6)) C K h cl_9 hk_v0 29 (by decide) fl_RX9_38 (hv_r (o := sr_ σ v0 29) rfl hq_b6) dX9_furthest_89 ?_
          refine lv_iload_n C.1 C.2.1 dX9_furthest_92 rfl (lv_at hl 2 rfl) ?_
          obtain ⟨j11, hj_j11, hf⟩ := ob_ hf
          refine x_iald C K h hk_b6 hj_j11 dX9_furthest_93 ?_
          refine lv_icmp_le (tgt := 102) C.1 C.2.1 dX9_furthest_94 (by decide) (fun c12 => ?_) (fun c12 => ?_)
          · have hf := if_t hf c12
            refine lv_iload_n C.1 C.2.1 dX9_furthest_102 rfl (lv_at hl 2 rfl) ?_
            refine lv_istore_n (i := 3) (lv' := [(3, .int v3), (0, .ref (ad v0)), (2, .int v2), (4, .int v4), (5, .int v5)]) C.1 C.2.1 dX9_furthest_103 rfl hl (by decide) rfl (fun ls hl => ?_)
            refine lv_iconst (v := (0 : Int32)) C.1 C.2.1 dX9_furthest_104 (by decide) ?_
            refine lv_istore (i := 6) (lv' := [(6, .int (0 : Int32)), (3, .int v3), (0, .ref (ad v0)), (2, .int v2), (4, .int v4), (5, .int v5)]) C.1 C.2.1 dX9_furthest_105 hl (by decide) rfl (fun ls hl => ?_)
            exact w_X9_furthest_107 fu C K hr hlk hR (f_X9_furthest_56 fu n) ih fu σ v0 v2 v3 v4 v5 (0 : Int32) hE hk_v0 hf _ _ _ h (lv_sub hl [2, 3, 1, 4, 5, 0] rfl)
          · have hf := if_f hf c12
            refine lv_iload C.1 C.2.1 dX9_furthest_97 (lv_at hl 4 rfl) ?_
            refine lv_goto (tgt := 103) C.1 C.2.1 dX9_furthest_99 (by decide) ?_
            refine lv_istore_n (i := 3) (lv' := [(3, .int v5), (0, .ref (ad v0)), (2, .int v2), (4, .int v4), (5, .int v5)]) C.1 C.2.1 dX9_furthest_103 rfl hl (by decide) rfl (fun ls hl => ?_)
            refine lv_iconst (v := (0 : Int32)) C.1 C.2.1 dX9_furthest_104 (by decide) ?_
            refine lv_istore (i := 6) (lv' := [(6, .int (0 : Int32)), (3, .int v5), (0, .ref (ad v0)), (2, .int v2), (4, .int v4), (5, .int v5)]) C.1 C.2.1 dX9_furthest_105 hl (by decide) rfl (fun ls hl => ?_)
            exact w_X9_furthest_107 fu C K hr hlk hR (f_X9_furthest_56 fu n) ih fu σ v0 v2 v5 v4 v5 (0 : Int32) hE hk_v0 hf _ _ _ h (lv_sub hl [2, 3, 1, 4, 5, 0] rfl)
def f_X9_furthest (fu : Nat) (σ : St_) (a0 : Nat) (x1 : Int32) (x2 : Int32) : Option (Int32 × St_) := if (f_X9_isOne σ a0 x1) = 0 then some ((-2 : Int32), σ) else if (f_X9_in x2.toInt64 (0 : Int64) (2 : Int64)) = 0 then some ((-2 : Int32), σ) else (dr_ σ 10 (sr_ σ a0 27)).bind fun b9 => (f_X9_tables fu σ a0 x1 b9).bind fun q10 => (dr_ q10 10 (sr_ q10 a0 10)).bind fun b11 => (ix_ (((3 : Int32) * x1) + (1 : Int32)) (ln_ q10 b11)).bind fun j12 => (f_X9_spreads fu q10 a0 (si_ q10 b11 j12)).bind fun q13 => f_X9_furthest_56 fu fu q13 a0 x2 (-1 : Int32) (255 : Int32) (0 : Int32)
set_option maxHeartbeats 4000000 in
set_option maxRecDepth 100000 in
theorem w_X9_furthest {p : Program} {l : Launch} {e : Env} {R : Room} {s : State} {m : MethodId} {args : Array Value} {below : List Frame} {meth : Method} {c : Code} {κ : Ka_} {G : va_G} {cy : Nat → ClassId} {ad : Nat → Nat} {sz : Nat} {σ0 : St_} (fu : Nat) (C : CallFix p m c cX9_furthest 7 s args wU_ RX9) (K : Kx_ κ G cy (va_A (wl_ cy ad σ0) sz) s) (hr : meth.sig.returnType = some .int) (hlk : meth.locks = false) (hR : 46 ≤ R.frames ∧ 1030 ≤ R.locals) {q : Int32 × St_} : ∀ (σ : St_) (a0 : Nat) (x1 : Int32) (x2 : Int32), Ex_ σ0 σ → kd_ σ a0 = 9 → f_X9_furthest fu σ a0 x1 x2 = some q → ∀ (H : Heap) (locs : List Loc) (ls : Array Slot), Ht_ G cy (va_A (wl_ cy ad σ0) sz) s ad σ H locs → lv_has ls 7 [(0, .ref (ad a0)), (1, .int x1), (2, .int x2)] → W p l e R s m args below meth c H locs 0 0 (MQ below (Qi_ G cy ad σ0 q.2 sz q.1) args s 0 0 (va_A (wl_ cy ad σ0) sz)) (F0 m 0 ls []) := by
  intro σ a0 x1 x2 hE hk_a0 hf H locs ls h hl
  have hf : (if (f_X9_isOne σ a0 x1) = 0 then some ((-2 : Int32), σ) else if (f_X9_in x2.toInt64 (0 : Int64) (2 : Int64)) = 0 then some ((-2 : Int32), σ) else (dr_ σ 10 (sr_ σ a0 27)).bind fun b9 => (f_X9_tables fu σ a0 x1 b9).bind fun q10 => (dr_ q10 10 (sr_ q10 a0 10)).bind fun b11 => (ix_ (((3 : Int32) * x1) + (1 : Int32)) (ln_ q10 b11)).bind fun j12 => (f_X9_spreads fu q10 a0 (si_ q10 b11 j12)).bind fun q13 => f_X9_furthest_56 fu fu q13 a0 x2 (-1 : Int32) (255 : Int32) (0 : Int32)) = some q := hf
  refine lv_aload_n C.1 C.2.1 dX9_furthest_0 rfl (lv_at hl 0 rfl) ?_
  refine lv_iload_n C.1 C.2.1 dX9_furthest_1 rfl (lv_at hl 1 rfl) ?_
  refine x_az K h (x_V C K h [.int x1] (c_X9_isOne l κ G cy ad H.size σ a0 x1 hk_a0 rfl) mi_X9_isOne rfl im_yX9_isOne se_yX9_isOne ml_RX9_95 cl_9 hk_a0 ⟨rfl, rfl, Nat.le_trans (Nat.le_of_ble_eq_true rfl) hR.1, Nat.le_trans (Nat.le_of_ble_eq_true rfl) hR.2⟩ hl (Nat.le_of_ble_eq_true rfl) dX9_furthest_2 ⟨Nat.zero_le _, Nat.zero_le _⟩ rfl) (fun H locs h hX hz4 => ?_)
  refine lv_if_eq (tgt := 20) C.1 C.2.1 dX9_furthest_5 (by decide) (fun c5 => ?_) (fun c5 => ?_)
  · have hf := if_t hf c5
    refine lv_bipush (v := (-2 : Int32)) C.1 C.2.1 dX9_furthest_20 (by decide) ?_
    exact x_ri C hr hlk h hE (pf_1 (Option.some.inj hf)) (pf_2 (Option.some.inj hf)) dX9_furthest_22
  · have hf := if_f hf c5
    refine lv_iload_n C.1 C.2.1 dX9_furthest_8 rfl (lv_at hl 2 rfl) ?_
    refine lv_i2l C.1 C.2.1 dX9_furthest_9 rfl ?_
    refine lv_lconst (v := (0 : Int64)) C.1 C.2.1 dX9_furthest_10 (by decide) ?_
    refine lv_ldc2 (v := (2 : Int64)) C.1 C.2.1 C.2.2.2.1 (C.2.2.2.2 _ cl_RX9_386) dX9_furthest_11 ?_
    refine x_az K h (x_S C K h [.long x2.toInt64, .long (0 : Int64), .long (2 : Int64)] (c_X9_in l κ G cy ad H.size σ x2.toInt64 (0 : Int64) (2 : Int64) rfl) mi_X9_in rfl st_yX9_in ml_RX9_83 ⟨rfl, rfl, Nat.le_trans (Nat.le_of_ble_eq_true rfl) hR.1, Nat.le_trans (Nat.le_of_ble_eq_true rfl) hR.2⟩ hl (Nat.le_of_ble_eq_true rfl) dX9_furthest_14 ⟨Nat.zero_le _, Nat.zero_le _⟩ rfl) (fun H locs h hX hz7 => ?_)
    refine lv_if_ne (tgt := 23) C.1 C.2.1 dX9_furthest_17 (by decide) (fun c8 => ?_) (fun c8 => ?_)
    · have hf := if_f hf c8
      refine lv_aload_n C.1 C.2.1 dX9_furthest_23 rfl (lv_at hl 0 rfl) ?_
      refine lv_iload_n C.1 C.2.1 dX9_furthest_24 rfl (lv_at hl 1 rfl) ?_
      refine lv_aload_n C.1 C.2.1 dX9_furthest_25 rfl (lv_at hl 0 rfl) ?_
      obtain ⟨b9, hb_b9, hf⟩ := ob_ hf
      obtain ⟨hq_b9, hk_b9⟩ := dr_in hb_b9
      refine x_get (v := .ref (ad b9)) C K h cl_9 hk_a0 27 (by decide) fl_RX9_32 (hv_r (o := sr_ σ a0 27) rfl hq_b9) dX9_furthest_26 ?_
      obtain ⟨q10, hq_q10, hf⟩ := ob_ hf
      refine x_av K h (x_V C K h [.int x1, .ref (ad b9)] (c_X9_tables fu l κ G cy ad H.size σ a0 x1 b9 hk_a0 hk_b9 hq_q10) mi_X9_tables rfl im_yX9_tables se_yX9_tables ml_RX9_370 cl_9 hk_a0 ⟨rfl, rfl, Nat.le_trans (Nat.le_of_ble_eq_true rfl) hR.1, Nat.le_trans (Nat.le_of_ble_eq_true rfl) hR.2⟩ hl (Nat.le_of_ble_eq_true rfl) dX9_furthest_29 ⟨Nat.zero_le _, Nat.zero_le _⟩ rfl) (fun H locs h hX => ?_)
      have hE := hE.trans hX
      have hk_a0 := hX.k hk_a0 (by decide)
      refine lv_aload_n C.1 C.2.1 dX9_furthest_32 rfl (lv_at hl 0 rfl) ?_
      refine lv_aload_n C.1 C.2.1 dX9_furthest_33 rfl (lv_at hl 0 rfl) ?_
      obtain ⟨b11, hb_b11, hf⟩ := ob_ hf
      obtain ⟨hq_b11, hk_b11⟩ := dr_in hb_b11
      refine x_get (v := .ref (ad b11)) C K h cl_9 hk_a0 10 (by decide) fl_RX9_29 (hv_r (o := sr_ q10 a0 10) rfl hq_b11) dX9_furthest_34 ?_
      refine lv_iconst (v := (3 : Int32)) C.1 C.2.1 dX9_furthest_37 (by decide) ?_
      refine lv_iload_n C.1 C.2.1 dX9_furthest_38 rfl (lv_at hl 1 rfl) ?_
      refine lv_imul C.1 C.2.1 dX9_furthest_39 ?_
      refine lv_iconst (v := (1 : Int32)) C.1 C.2.1 dX9_furthest_40 (by decide) ?_
      refine lv_iadd C.1 C.2.1 dX9_furthest_41 ?_
      obtain ⟨j12, hj_j12, hf⟩ := ob_ hf
      refine x_iald C K h hk_b11 hj_j12 dX9_furthest_42 ?_
      obtain ⟨q13, hq_q13, hf⟩ := ob_ hf
      refine x_av K h (x_V C K h [.int (si_ q10 b11 j12)] (c_X9_spreads fu l κ G cy ad H.size q10 a0 (si_ q10 b11 j12) hk_a0 hq_q13) mi_X9_spreads rfl im_yX9_spreads se_yX9_spreads ml_RX9_380 cl_9 hk_a0 ⟨rfl, rfl, Nat.le_trans (Nat.le_of_ble_eq_true rfl) hR.1, Nat.le_trans (Nat.le_of_ble_eq_true rfl) hR.2⟩ hl (Nat.le_of_ble_eq_true rfl) dX9_furthest_43 ⟨Nat.zero_le _, Nat.zero_le _⟩ rfl) (fun H locs h hX => ?_)
      have hE := hE.trans hX
      have hk_a0 := hX.k hk_a0 (by decide)
      refine lv_iconst (v := (-1 : Int32)) C.1 C.2.1 dX9_furthest_46 (by decide) ?_
      refine lv_istore_n (i := 3) (lv' := [(3, .int (-1 : Int32)), (0, .ref (ad a0)), (1, .int x1), (2, .int x2)]) C.1 C.2.1 dX9_furthest_47 rfl hl (by decide) rfl (fun ls hl => ?_)
      refine lv_sipush (v := (255 : Int32)) C.1 C.2.1 dX9_furthest_48 (by decide) ?_
      refine lv_istore (i := 4) (lv' := [(4, .int (255 : Int32)), (3, .int (-1 : Int32)), (0, .ref (ad a0)), (1, .int x1), (2, .int x2)]) C.1 C.2.1 dX9_furthest_51 hl (by decide) rfl (fun ls hl => ?_)
      refine lv_iconst (v := (0 : Int32)) C.1 C.2.1 dX9_furthest_53 (by decide) ?_
      refine lv_istore (i := 5) (lv' := [(5, .int (0 : Int32)), (4, .int (255 : Int32)), (3, .int (-1 : Int32)), (0, .ref (ad a0)), (1, .int x1), (2, .int x2)]) C.1 C.2.1 dX9_furthest_54 hl (by decide) rfl (fun ls hl => ?_)
      exact w_X9_furthest_56 fu C K hr hlk hR fu q13 a0 x2 (-1 : Int32) (255 : Int32) (0 : Int32) hE hk_a0 hf _ _ _ h (lv_sub hl [3, 5, 2, 1, 0] rfl)
    · have hf := if_t hf c8
      refine lv_bipush (v := (-2 : Int32)) C.1 C.2.1 dX9_furthest_20 (by decide) ?_
      exact x_ri C hr hlk h hE (pf_1 (Option.some.inj hf)) (pf_2 (Option.some.inj hf)) dX9_furthest_22
theorem c_X9_furthest (fu : Nat) (l : Launch) (κ : Ka_) (G : va_G) (cy : Nat → ClassId) (ad : Nat → Nat) (sz : Nat) (σ : St_) (a0 : Nat) (x1 : Int32) (x2 : Int32) (hk_a0 : kd_ σ a0 = 9) {q : Int32 × St_} (hf : f_X9_furthest fu σ a0 x1 x2 = some q) : Met l yX9_furthest (Cond.code yX9_furthest cX9_furthest 7 (some .int) :: wU_) { frames := 46, cells := 0, slots := 0, locals := 1030 } (va_Pc [.ref (ad a0), .int x1, .int x2] (Pr_ κ G cy ad σ sz)) (Qi_ G cy ad σ q.2 sz q.1) 0 0 (va_A (wl_ cy ad σ) sz) :=
  x_met (by decide) (fun p e R s m below meth c ls hR C hr hlk hin _ K h hl => w_X9_furthest fu C K hr hlk ⟨hR.1, hR.2.1⟩ σ a0 x1 x2 Ex_.rf hk_a0 hf s.heap [] ls h hl) (Nat.le_of_ble_eq_true rfl)
-- X9_bothLead
theorem mi_X9_bothLead : Mi_ yX9_bothLead cX9_bothLead 3 (some .int) 2 := ⟨co_yX9_bothLead, in_RX9, by decide, by decide, by decide +kernel⟩
def f_X9_bothLead (σ : St_) (a0 : Nat) (x1 : Int32) (x2 : Int32) : Option Int32 := (dr_ σ 10 (sr_ σ a0 27)).bind fun b3 => (ix_ (((8 : Int32) * (x1 / (36 : Int32))) + x2) (ln_ σ b3)).bind fun j4 => (dr_ σ 10 (sr_ σ a0 28)).bind fun b5 => (ix_ (((8 : Int32) * (x1 - x1 / (36 : Int32) * (36 : Int32))) + x2) (ln_ σ b5)).bind fun j6 => some (((36 : Int32) * (si_ σ b3 j4)) + (si_ σ b5 j6))
set_option maxHeartbeats 4000000 in
set_option maxRecDepth 100000 in
theorem w_X9_bothLead {p : Program} {l : Launch} {e : Env} {R : Room} {s : State} {m : MethodId} {args : Array Value} {below : List Frame} {meth : Method} {c : Code} {κ : Ka_} {G : va_G} {cy : Nat → ClassId} {ad : Nat → Nat} {sz : Nat} {σ : St_} (C : CallFix p m c cX9_bothLead 3 s args wU_ RX9) (K : Kx_ κ G cy (va_A (wl_ cy ad σ) sz) s) (hr : meth.sig.returnType = some .int) (hlk : meth.locks = false) (hR : 0 ≤ R.frames ∧ 0 ≤ R.locals) {q : Int32} : ∀ (a0 : Nat) (x1 : Int32) (x2 : Int32), kd_ σ a0 = 9 → f_X9_bothLead σ a0 x1 x2 = some q → ∀ (H : Heap) (locs : List Loc) (ls : Array Slot), Ht_ G cy (va_A (wl_ cy ad σ) sz) s ad σ H locs → lv_has ls 3 [(0, .ref (ad a0)), (1, .int x1), (2, .int x2)] → W p l e R s m args below meth c H locs 0 0 (MQ below (Qi_ G cy ad σ σ sz q) args s 0 0 (va_A (wl_ cy ad σ) sz)) (F0 m 0 ls []) := by
  intro a0 x1 x2 hk_a0 hf H locs ls h hl
  have hf : ((dr_ σ 10 (sr_ σ a0 27)).bind fun b3 => (ix_ (((8 : Int32) * (x1 / (36 : Int32))) + x2) (ln_ σ b3)).bind fun j4 => (dr_ σ 10 (sr_ σ a0 28)).bind fun b5 => (ix_ (((8 : Int32) * (x1 - x1 / (36 : Int32) * (36 : Int32))) + x2) (ln_ σ b5)).bind fun j6 => some (((36 : Int32) * (si_ σ b3 j4)) + (si_ σ b5 j6))) = some q := hf
  refine lv_bipush (v := (36 : Int32)) C.1 C.2.1 dX9_bothLead_0 (by decide) ?_
  refine lv_aload_n C.1 C.2.1 dX9_bothLead_2 rfl (lv_at hl 0 rfl) ?_
  obtain ⟨b3, hb_b3, hf⟩ := ob_ hf
  obtain ⟨hq_b3, hk_b3⟩ := dr_in hb_b3
  refine x_get (v := .ref (ad b3)) C K h cl_9 hk_a0 27 (by decide) fl_RX9_32 (hv_r (o := sr_ σ a0 27) rfl hq_b3) dX9_bothLead_3 ?_
  refine lv_bipush (v := (8 : Int32)) C.1 C.2.1 dX9_bothLead_6 (by decide) ?_
  refine lv_iload_n C.1 C.2.1 dX9_bothLead_8 rfl (lv_at hl 1 rfl) ?_
  refine lv_bipush (v := (36 : Int32)) C.1 C.2.1 dX9_bothLead_9 (by decide) ?_
  refine lv_idiv C.1 C.2.1 dX9_bothLead_11 (by decide) ?_
  refine lv_imul C.1 C.2.1 dX9_bothLead_12 ?_
  refine lv_iload_n C.1 C.2.1 dX9_bothLead_13 rfl (lv_at hl 2 rfl) ?_
  refine lv_iadd C.1 C.2.1 dX9_bothLead_14 ?_
  obtain ⟨j4, hj_j4, hf⟩ := ob_ hf
  refine x_iald C K h hk_b3 hj_j4 dX9_bothLead_15 ?_
  refine lv_imul C.1 C.2.1 dX9_bothLead_16 ?_
  refine lv_aload_n C.1 C.2.1 dX9_bothLead_17 rfl (lv_at hl 0 rfl) ?_
  obtain ⟨b5, hb_b5, hf⟩ := ob_ hf
  obtain ⟨hq_b5, hk_b5⟩ := dr_in hb_b5
  refine x_get (v := .ref (ad b5)) C K h cl_9 hk_a0 28 (by decide) fl_RX9_35 (hv_r (o := sr_ σ a0 28) rfl hq_b5) dX9_bothLead_18 ?_
  refine lv_bipush (v := (8 : Int32)) C.1 C.2.1 dX9_bothLead_21 (by decide) ?_
  refine lv_iload_n C.1 C.2.1 dX9_bothLead_23 rfl (lv_at hl 1 rfl) ?_
  refine lv_bipush (v := (36 : Int32)) C.1 C.2.1 dX9_bothLead_24 (by decide) ?_
  refine lv_irem C.1 C.2.1 dX9_bothLead_26 (by decide) ?_
  refine lv_imul C.1 C.2.1 dX9_bothLead_27 ?_
  refine lv_iload_n C.1 C.2.1 dX9_bothLead_28 rfl (lv_at hl 2 rfl) ?_
  refine lv_iadd C.1 C.2.1 dX9_bothLead_29 ?_
  obtain ⟨j6, hj_j6, hf⟩ := ob_ hf
  refine x_iald C K h hk_b5 hj_j6 dX9_bothLead_30 ?_
  refine lv_iadd C.1 C.2.1 dX9_bothLead_31 ?_
  exact x_ri C hr hlk h Ex_.rf (Option.some.inj hf) rfl dX9_bothLead_32
theorem c_X9_bothLead (l : Launch) (κ : Ka_) (G : va_G) (cy : Nat → ClassId) (ad : Nat → Nat) (sz : Nat) (σ : St_) (a0 : Nat) (x1 : Int32) (x2 : Int32) (hk_a0 : kd_ σ a0 = 9) {q : Int32} (hf : f_X9_bothLead σ a0 x1 x2 = some q) : Met l yX9_bothLead (Cond.code yX9_bothLead cX9_bothLead 3 (some .int) :: wU_) { frames := 0, cells := 0, slots := 0, locals := 0 } (va_Pc [.ref (ad a0), .int x1, .int x2] (Pr_ κ G cy ad σ sz)) (Qi_ G cy ad σ σ sz q) 0 0 (va_A (wl_ cy ad σ) sz) :=
  x_met (by decide) (fun p e R s m below meth c ls hR C hr hlk hin _ K h hl => w_X9_bothLead C K hr hlk ⟨hR.1, hR.2.1⟩ a0 x1 x2 hk_a0 hf s.heap [] ls h hl) (Nat.le_of_ble_eq_true rfl)
-- X9_gathersBoth
theorem mi_X9_gathersBoth : Mi_ yX9_gathersBoth cX9_gathersBoth 5 none 0 := ⟨co_yX9_gathersBoth, in_RX9, by decide, by decide, by decide +kernel⟩
def f_X9_gathersBoth_58 (fu : Nat) (k41 : St_ → Nat → Int32 → Option St_) (k49 : St_ → Nat → Int32 → Int32 → Option St_) : Nat → St_ → Nat → Int32 → Int32 → Int32 → Option St_
  | 0 => fun _ _ _ _ _ => none
  | n + 1 => fun σ  v0  v1  v2  v3 => if (8 : Int32) ≤ v3 then k49 σ v0 v1 (v2 + (1 : Int32)) else (dr_ σ 10 (sr_ σ v0 30)).bind fun b2 => (f_X9_bothLead σ v0 v2 v3).bind fun q3 => (ix_ q3 (ln_ σ b2)).bind fun j4 => (ix_ v2 (ln_ σ b2)).bind fun j5 => if (si_ σ b2 j5) ≤ ((si_ σ b2 j4) + (1 : Int32)) then (f_X9_gathersBoth_58 fu k41 k49 n) σ v0 v1 v2 (v3 + (1 : Int32)) else if (1000000 : Int32) ≤ ((si_ σ b2 j4) + (1 : Int32)) then (f_X9_gathersBoth_58 fu k41 k49 n) σ v0 v1 v2 (v3 + (1 : Int32)) else (ix_ v2 (ln_ σ b2)).bind fun j8 => (f_X9_gathersBoth_58 fu k41 k49 n) (ui_ σ b2 j8 ((si_ σ b2 j4) + (1 : Int32))) v0 (1 : Int32) v2 (v3 + (1 : Int32))
set_option maxHeartbeats 4000000 in
set_option maxRecDepth 100000 in
theorem w_X9_gathersBoth_58 {p : Program} {l : Launch} {e : Env} {R : Room} {s : State} {m : MethodId} {args : Array Value} {below : List Frame} {meth : Method} {c : Code} {κ : Ka_} {G : va_G} {cy : Nat → ClassId} {ad : Nat → Nat} {sz : Nat} {σ0 : St_} (fu : Nat) (C : CallFix p m c cX9_gathersBoth 5 s args wU_ RX9) (K : Kx_ κ G cy (va_A (wl_ cy ad σ0) sz) s) (hr : meth.sig.returnType = none) (hlk : meth.locks = false) (hR : 1 ≤ R.frames ∧ 22 ≤ R.locals) {q : St_} (k41 : St_ → Nat → Int32 → Option St_) (hk41 : ∀ (σ : St_) (v0 : Nat) (v1 : Int32), Ex_ σ0 σ → kd_ σ v0 = 9 → k41 σ v0 v1 = some q → ∀ (H : Heap) (locs : List Loc) (ls : Array Slot), Ht_ G cy (va_A (wl_ cy ad σ0) sz) s ad σ H locs → lv_has ls 5 [(0, .ref (ad v0)), (1, .int v1)] → W p l e R s m args below meth c H locs 0 0 (MQ below (Qv_ G cy ad σ0 q sz) args s 0 0 (va_A (wl_ cy ad σ0) sz)) (F0 m 41 ls [])) (k49 : St_ → Nat → Int32 → Int32 → Option St_) (hk49 : ∀ (σ : St_) (v0 : Nat) (v1 : Int32) (v2 : Int32), Ex_ σ0 σ → kd_ σ v0 = 9 → k49 σ v0 v1 v2 = some q → ∀ (H : Heap) (locs : List Loc) (ls : Array Slot), Ht_ G cy (va_A (wl_ cy ad σ0) sz) s ad σ H locs → lv_has ls 5 [(0, .ref (ad v0)), (1, .int v1), (2, .int v2)] → W p l e R s m args below meth c H locs 0 0 (MQ below (Qv_ G cy ad σ0 q sz) args s 0 0 (va_A (wl_ cy ad σ0) sz)) (F0 m 49 ls [])) : ∀ n : Nat, ∀ (σ : St_) (v0 : Nat) (v1 : Int32) (v2 : Int32) (v3 : Int32), Ex_ σ0 σ → kd_ σ v0 = 9 → f_X9_gathersBoth_58 fu k41 k49 n σ v0 v1 v2 v3 = some q → ∀ (H : Heap) (locs : List Loc) (ls : Array Slot), Ht_ G cy (va_A (wl_ cy ad σ0) sz) s ad σ H locs → lv_has ls 5 [(0, .ref (ad v0)), (1, .int v1), (2, .int v2), (3, .int v3)] → W p l e R s m args below meth c H locs 0 0 (MQ below (Qv_ G cy ad σ0 q sz) args s 0 0 (va_A (wl_ cy ad σ0) sz)) (F0 m 58 ls []) := by
  intro n
  induction n with
  | zero =>
    intro σ v0 v1 v2 v3 hE hk_v0 hf H locs ls h hl
    cases hf
  | succ n ih =>
    intro σ v0 v1 v2 v3 hE hk_v0 hf H locs ls h hl
    have hf : (if (8 : Int32) ≤ v3 then k49 σ v0 v1 (v2 + (1 : Int32)) else (dr_ σ 10 (sr_ σ v0 30)).bind fun b2 => (f_X9_bothLead σ v0 v2 v3).bind fun q3 => (ix_ q3 (ln_ σ b2)).bind fun j4 => (ix_ v2 (ln_ σ b2)).bind fun j5 => if (si_ σ b2 j5) ≤ ((si_ σ b2 j4) + (1 : Int32)) then (f_X9_gathersBoth_58 fu k41 k49 n) σ v0 v1 v2 (v3 + (1 : Int32)) else if (1000000 : Int32) ≤ ((si_ σ b2 j4) + (1 : Int32)) then (f_X9_gathersBoth_58 fu k41 k49 n) σ v0 v1 v2 (v3 + (1 : Int32)) else (ix_ v2 (ln_ σ b2)).bind fun j8 => (f_X9_gathersBoth_58 fu k41 k49 n) (ui_ σ b2 j8 ((si_ σ b2 j4) + (1 : Int32))) v0 (1 : Int32) v2 (v3 + (1 : Int32))) = some q := hf
    refine lv_iload_n C.1 C.2.1 dX9_gathersBoth_58 rfl (lv_at hl 3 rfl) ?_
    refine lv_bipush (v := (8 : Int32)) C.1 C.2.1 dX9_gathersBoth_59 (by decide) ?_
    refine lv_icmp_ge (tgt := 114) C.1 C.2.1 dX9_gathersBoth_61 (by decide) (fun c1 => ?_) (fun c1 => ?_)
    · have hf := if_t hf c1
      refine lv_iinc (v := v2 + (1 : Int32)) (lv' := [(2, .int (v2 + (1 : Int32))), (0, .ref (ad v0)), (1, .int v1), (3, .int v3)]) C.1 C.2.1 dX9_gathersBoth_114 hl (k := 2) rfl rfl (by decide) rfl (fun ls hl => ?_)
      refine lv_goto (tgt := 49) C.1 C.2.1 dX9_gathersBoth_117 (by decide) ?_
      exact hk49 σ v0 v1 (v2 + (1 : Int32)) hE hk_v0 hf _ _ _ h (lv_sub hl [1, 2, 0] rfl)
    · have hf := if_f hf c1
      refine lv_aload_n C.1 C.2.1 dX9_gathersBoth_64 rfl (lv_at hl 0 rfl) ?_
      obtain ⟨b2, hb_b2, hf⟩ := ob_ hf
      obtain ⟨hq_b2, hk_b2⟩ := dr_in hb_b2
      refine x_get (v := .ref (ad b2)) C K h cl_9 hk_v0 30 (by decide) fl_RX9_41 (hv_r (o := sr_ σ v0 30) rfl hq_b2) dX9_gathersBoth_65 ?_
      refine lv_aload_n C.1 C.2.1 dX9_gathersBoth_68 rfl (lv_at hl 0 rfl) ?_
      refine lv_iload_n C.1 C.2.1 dX9_gathersBoth_69 rfl (lv_at hl 2 rfl) ?_
      refine lv_iload_n C.1 C.2.1 dX9_gathersBoth_70 rfl (lv_at hl 3 rfl) ?_
      obtain ⟨q3, hq_q3, hf⟩ := ob_ hf
      refine x_ai K h (x_V C K h [.int v2, .int v3] (c_X9_bothLead l κ G cy ad H.size σ v0 v2 v3 hk_v0 hq_q3) mi_X9_bothLead rfl im_yX9_bothLead se_yX9_bothLead ml_RX9_388 cl_9 hk_v0 ⟨rfl, rfl, Nat.le_trans (Nat.le_of_ble_eq_true rfl) hR.1, Nat.le_trans (Nat.le_of_ble_eq_true rfl) hR.2⟩ hl (Nat.le_of_ble_eq_true rfl) dX9_gathersBoth_71 ⟨Nat.zero_le _, Nat.zero_le _⟩ rfl) (fun H locs h hX => ?_)
      obtain ⟨j4, hj_j4, hf⟩ := ob_ hf
      refine x_iald C K h hk_b2 hj_j4 dX9_gathersBoth_74 ?_
      refine lv_iconst (v := (1 : Int32)) C.1 C.2.1 dX9_gathersBoth_75 (by decide) ?_
      refine lv_iadd C.1 C.2.1 dX9_gathersBoth_76 ?_
      refine lv_istore (i := 4) (lv' := [(4, .int ((si_ σ b2 j4) + (1 : Int32))), (0, .ref (ad v0)), (1, .int v1), (2, .int v2), (3, .int v3)]) C.1 C.2.1 dX9_gathersBoth_77 hl (by decide) rfl (fun ls hl => ?_)
      refine lv_iload C.1 C.2.1 dX9_gathersBoth_79 (lv_at hl 0 rfl) ?_
      refine lv_aload_n C.1 C.2.1 dX9_gathersBoth_81 rfl (lv_at hl 1 rfl) ?_
      refine x_get (v := .ref (ad b2)) C K h cl_9 hk_v0 30 (by decide) fl_RX9_41 (hv_r (o := sr_ σ v0 30) rfl hq_b2) dX9_gathersBoth_82 ?_
      refine lv_iload_n C.1 C.2.1 dX9_gathersBoth_85 rfl (lv_at hl 3 rfl) ?_
      obtain ⟨j5, hj_j5, hf⟩ := ob_ hf
      refine x_iald C K h hk_b2 hj_j5 dX9_gathersBoth_86 ?_
      refine lv_icmp_ge (tgt := 108) C.1 C.2.1 dX9_gathersBoth_87 (by decide) (fun c6 => ?_) (fun c6 => ?_)
      · have hf := if_t hf c6
        refine lv_iinc (v := v3 + (1 : Int32)) (lv' := [(3, .int (v3 + (1 : Int32))), (4, .int ((si_ σ b2 j4) + (1 : Int32))), (0, .ref (ad v0)), (1, .int v1), (2, .int v2)]) C.1 C.2.1 dX9_gathersBoth_108 hl (k := 4) rfl rfl (by decide) rfl (fun ls hl => ?_)
        refine lv_goto (tgt := 58) C.1 C.2.1 dX9_gathersBoth_111 (by decide) ?_
        exact ih σ v0 v1 v2 (v3 + (1 : Int32)) hE hk_v0 hf _ _ _ h (lv_sub hl [2, 3, 4, 0] rfl)
      · have hf := if_f hf c6
        refine lv_iload C.1 C.2.1 dX9_gathersBoth_90 (lv_at hl 0 rfl) ?_
        refine lv_ldcw (v := (1000000 : Int32)) C.1 C.2.1 C.2.2.2.1 (C.2.2.2.2 _ ck_RX9_369) dX9_gathersBoth_92 ?_
        refine lv_icmp_ge (tgt := 108) C.1 C.2.1 dX9_gathersBoth_95 (by decide) (fun c7 => ?_) (fun c7 => ?_)
        · have hf := if_t hf c7
          refine lv_iinc (v := v3 + (1 : Int32)) (lv' := [(3, .int (v3 + (1 : Int32))), (4, .int ((si_ σ b2 j4) + (1 : Int32))), (0, .ref (ad v0)), (1, .int v1), (2, .int v2)]) C.1 C.2.1 dX9_gathersBoth_108 hl (k := 4) rfl rfl (by decide) rfl (fun ls hl => ?_)
          refine lv_goto (tgt := 58) C.1 C.2.1 dX9_gathersBoth_111 (by decide) ?_
          exact ih σ v0 v1 v2 (v3 + (1 : Int32)) hE hk_v0 hf _ _ _ h (lv_sub hl [2, 3, 4, 0] rfl)
        · have hf := if_f hf c7
          refine lv_aload_n C.1 C.2.1 dX9_gathersBoth_98 rfl (lv_at hl 1 rfl) ?_
          refine x_get (v := .ref (ad b2)) C K h cl_9 hk_v0 30 (by decide) fl_RX9_41 (hv_r (o := sr_ σ v0 30) rfl hq_b2) dX9_gathersBoth_99 ?_
          refine lv_iload_n C.1 C.2.1 dX9_gathersBoth_102 rfl (lv_at hl 3 rfl) ?_
          refine lv_iload C.1 C.2.1 dX9_gathersBoth_103 (lv_at hl 0 rfl) ?_
          obtain ⟨j8, hj_j8, hf⟩ := ob_ hf
          refine x_iast C K h hk_b2 hj_j8 dX9_gathersBoth_105 (fun H locs h => ?_)
          have hE := hE.up (up_i σ b2 j8 ((si_ σ b2 j4) + (1 : Int32)))
          refine lv_iconst (v := (1 : Int32)) C.1 C.2.1 dX9_gathersBoth_106 (by decide) ?_
          refine lv_istore_n (i := 1) (lv' := [(1, .int (1 : Int32)), (4, .int ((si_ σ b2 j4) + (1 : Int32))), (0, .ref (ad v0)), (2, .int v2), (3, .int v3)]) C.1 C.2.1 dX9_gathersBoth_107 rfl hl (by decide) rfl (fun ls hl => ?_)
          refine lv_iinc (v := v3 + (1 : Int32)) (lv' := [(3, .int (v3 + (1 : Int32))), (1, .int (1 : Int32)), (4, .int ((si_ σ b2 j4) + (1 : Int32))), (0, .ref (ad v0)), (2, .int v2)]) C.1 C.2.1 dX9_gathersBoth_108 hl (k := 4) rfl rfl (by decide) rfl (fun ls hl => ?_)
          refine lv_goto (tgt := 58) C.1 C.2.1 dX9_gathersBoth_111 (by decide) ?_
          exact ih (ui_ σ b2 j8 ((si_ σ b2 j4) + (1 : Int32))) v0 (1 : Int32) v2 (v3 + (1 : Int32)) hE hk_v0 hf _ _ _ h (lv_sub hl [3, 1, 4, 0] rfl)
def f_X9_gathersBoth_49 (fu : Nat) (k41 : St_ → Nat → Int32 → Option St_) : Nat → St_ → Nat → Int32 → Int32 → Option St_
  | 0 => fun _ _ _ _ => none
  | n + 1 => fun σ  v0  v1  v2 => if (1296 : Int32) ≤ v2 then k41 σ v0 v1 else f_X9_gathersBoth_58 fu k41 (f_X9_gathersBoth_49 fu k41 n) fu σ v0 v1 v2 (0 : Int32)
set_option maxHeartbeats 4000000 in
set_option maxRecDepth 100000 in
theorem w_X9_gathersBoth_49 {p : Program} {l : Launch} {e : Env} {R : Room} {s : State} {m : MethodId} {args : Array Value} {below : List Frame} {meth : Method} {c : Code} {κ : Ka_} {G : va_G} {cy : Nat → ClassId} {ad : Nat → Nat} {sz : Nat} {σ0 : St_} (fu : Nat) (C : CallFix p m c cX9_gathersBoth 5 s args wU_ RX9) (K : Kx_ κ G cy (va_A (wl_ cy ad σ0) sz) s) (hr : meth.sig.returnType = none) (hlk : meth.locks = false) (hR : 1 ≤ R.frames ∧ 22 ≤ R.locals) {q : St_} (k41 : St_ → Nat → Int32 → Option St_) (hk41 : ∀ (σ : St_) (v0 : Nat) (v1 : Int32), Ex_ σ0 σ → kd_ σ v0 = 9 → k41 σ v0 v1 = some q → ∀ (H : Heap) (locs : List Loc) (ls : Array Slot), Ht_ G cy (va_A (wl_ cy ad σ0) sz) s ad σ H locs → lv_has ls 5 [(0, .ref (ad v0)), (1, .int v1)] → W p l e R s m args below meth c H locs 0 0 (MQ below (Qv_ G cy ad σ0 q sz) args s 0 0 (va_A (wl_ cy ad σ0) sz)) (F0 m 41 ls [])) : ∀ n : Nat, ∀ (σ : St_) (v0 : Nat) (v1 : Int32) (v2 : Int32), Ex_ σ0 σ → kd_ σ v0 = 9 → f_X9_gathersBoth_49 fu k41 n σ v0 v1 v2 = some q → ∀ (H : Heap) (locs : List Loc) (ls : Array Slot), Ht_ G cy (va_A (wl_ cy ad σ0) sz) s ad σ H locs → lv_has ls 5 [(0, .ref (ad v0)), (1, .int v1), (2, .int v2)] → W p l e R s m args below meth c H locs 0 0 (MQ below (Qv_ G cy ad σ0 q sz) args s 0 0 (va_A (wl_ cy ad σ0) sz)) (F0 m 49 ls []) := by
  intro n
  induction n with
  | zero =>
    intro σ v0 v1 v2 hE hk_v0 hf H locs ls h hl
    cases hf
  | succ n ih =>
    intro σ v0 v1 v2 hE hk_v0 hf H locs ls h hl
    have hf : (if (1296 : Int32) ≤ v2 then k41 σ v0 v1 else f_X9_gathersBoth_58 fu k41 (f_X9_gathersBoth_49 fu k41 n) fu σ v0 v1 v2 (0 : Int32)) = some q := hf
    refine lv_iload_n C.1 C.2.1 dX9_gathersBoth_49 rfl (lv_at hl 2 rfl) ?_
    refine lv_sipush (v := (1296 : Int32)) C.1 C.2.1 dX9_gathersBoth_50 (by decide) ?_
    refine lv_icmp_ge (tgt := 120) C.1 C.2.1 dX9_gathersBoth_53 (by decide) (fun c1 => ?_) (fun c1 => ?_)
    · have hf := if_t hf c1
      refine lv_goto (tgt := 41) C.1 C.2.1 dX9_gathersBoth_120 (by decide) ?_
      exact hk41 σ v0 v1 hE hk_v0 hf _ _ _ h (lv_sub hl [0, 1] rfl)
    · have hf := if_f hf c1
      refine lv_iconst (v := (0 : Int32)) C.1 C.2.1 dX9_gathersBoth_56 (by decide) ?_
      refine lv_istore_n (i := 3) (lv' := [(3, .int (0 : Int32)), (0, .ref (ad v0)), (1, .int v1), (2, .int v2)]) C.1 C.2.1 dX9_gathersBoth_57 rfl hl (by decide) rfl (fun ls hl => ?_)
      exact w_X9_gathersBoth_58 fu C K hr hlk hR k41 hk41 (f_X9_gathersBoth_49 fu k41 n) ih fu σ v0 v1 v2 (0 : Int32) hE hk_v0 hf _ _ _ h (lv_sub hl [1, 2, 3, 0] rfl)
def f_X9_gathersBoth_41 (fu : Nat) : Nat → St_ → Nat → Int32 → Option St_
  | 0 => fun _ _ _ => none
  | n + 1 => fun σ  v0  v1 => if v1 = 0 then some σ else f_X9_gathersBoth_49 fu (f_X9_gathersBoth_41 fu n) fu σ v0 (0 : Int32) (0 : Int32)
set_option maxHeartbeats 4000000 in
set_option maxRecDepth 100000 in
theorem w_X9_gathersBoth_41 {p : Program} {l : Launch} {e : Env} {R : Room} {s : State} {m : MethodId} {args : Array Value} {below : List Frame} {meth : Method} {c : Code} {κ : Ka_} {G : va_G} {cy : Nat → ClassId} {ad : Nat → Nat} {sz : Nat} {σ0 : St_} (fu : Nat) (C : CallFix p m c cX9_gathersBoth 5 s args wU_ RX9) (K : Kx_ κ G cy (va_A (wl_ cy ad σ0) sz) s) (hr : meth.sig.returnType = none) (hlk : meth.locks = false) (hR : 1 ≤ R.frames ∧ 22 ≤ R.locals) {q : St_} : ∀ n : Nat, ∀ (σ : St_) (v0 : Nat) (v1 : Int32), Ex_ σ0 σ → kd_ σ v0 = 9 → f_X9_gathersBoth_41 fu n σ v0 v1 = some q → ∀ (H : Heap) (locs : List Loc) (ls : Array Slot), Ht_ G cy (va_A (wl_ cy ad σ0) sz) s ad σ H locs → lv_has ls 5 [(0, .ref (ad v0)), (1, .int v1)] → W p l e R s m args below meth c H locs 0 0 (MQ below (Qv_ G cy ad σ0 q sz) args s 0 0 (va_A (wl_ cy ad σ0) sz)) (F0 m 41 ls []) := by
  intro n
  induction n with
  | zero =>
    intro σ v0 v1 hE hk_v0 hf H locs ls h hl
    cases hf
  | succ n ih =>
    intro σ v0 v1 hE hk_v0 hf H locs ls h hl
    have hf : (if v1 = 0 then some σ else f_X9_gathersBoth_49 fu (f_X9_gathersBoth_41 fu n) fu σ v0 (0 : Int32) (0 : Int32)) = some q := hf
    refine lv_iload_n C.1 C.2.1 dX9_gathersBoth_41 rfl (lv_at hl 1 rfl) ?_
    refine lv_if_eq (tgt := 123) C.1 C.2.1 dX9_gathersBoth_42 (by decide) (fun c1 => ?_) (fun c1 => ?_)
    · have hf := if_t hf c1
      exact x_rv C hr hlk h hE (Option.some.inj hf) dX9_gathersBoth_123
    · have hf := if_f hf c1
      refine lv_iconst (v := (0 : Int32)) C.1 C.2.1 dX9_gathersBoth_45 (by decide) ?_
      refine lv_istore_n (i := 1) (lv' := [(1, .int (0 : Int32)), (0, .ref (ad v0))]) C.1 C.2.1 dX9_gathersBoth_46 rfl hl (by decide) rfl (fun ls hl => ?_)
      refine lv_iconst (v := (0 : Int32)) C.1 C.2.1 dX9_gathersBoth_47 (by decide) ?_
      refine lv_istore_n (i := 2) (lv' := [(2, .int (0 : Int32)), (1, .int (0 : Int32)), (0, .ref (ad v0))]) C.1 C.2.1 dX9_gathersBoth_48 rfl hl (by decide) rfl (fun ls hl => ?_)
      exact w_X9_gathersBoth_49 fu C K hr hlk hR (f_X9_gathersBoth_41 fu n) ih fu σ v0 (0 : Int32) (0 : Int32) hE hk_v0 hf _ _ _ h (lv_sub hl [2, 1, 0] rfl)
def f_X9_gathersBoth_2 (fu : Nat) : Nat → St_ → Nat → Int32 → Option St_
  | 0 => fun _ _ _ => none
  | n + 1 => fun σ  v0  v1 => if (1296 : Int32) ≤ v1 then f_X9_gathersBoth_41 fu fu σ v0 (1 : Int32) else (dr_ σ 10 (sr_ σ v0 30)).bind fun b2 => if (v1 / (36 : Int32)) = (v1 - v1 / (36 : Int32) * (36 : Int32)) then (ix_ v1 (ln_ σ b2)).bind fun j5 => (f_X9_gathersBoth_2 fu n) (ui_ σ b2 j5 (0 : Int32)) v0 (v1 + (1 : Int32)) else (ix_ v1 (ln_ σ b2)).bind fun j4 => (f_X9_gathersBoth_2 fu n) (ui_ σ b2 j4 (1000000 : Int32)) v0 (v1 + (1 : Int32))
set_option maxHeartbeats 4000000 in
set_option maxRecDepth 100000 in
theorem w_X9_gathersBoth_2 {p : Program} {l : Launch} {e : Env} {R : Room} {s : State} {m : MethodId} {args : Array Value} {below : List Frame} {meth : Method} {c : Code} {κ : Ka_} {G : va_G} {cy : Nat → ClassId} {ad : Nat → Nat} {sz : Nat} {σ0 : St_} (fu : Nat) (C : CallFix p m c cX9_gathersBoth 5 s args wU_ RX9) (K : Kx_ κ G cy (va_A (wl_ cy ad σ0) sz) s) (hr : meth.sig.returnType = none) (hlk : meth.locks = false) (hR : 1 ≤ R.frames ∧ 22 ≤ R.locals) {q : St_} : ∀ n : Nat, ∀ (σ : St_) (v0 : Nat) (v1 : Int32), Ex_ σ0 σ → kd_ σ v0 = 9 → f_X9_gathersBoth_2 fu n σ v0 v1 = some q → ∀ (H : Heap) (locs : List Loc) (ls : Array Slot), Ht_ G cy (va_A (wl_ cy ad σ0) sz) s ad σ H locs → lv_has ls 5 [(0, .ref (ad v0)), (1, .int v1)] → W p l e R s m args below meth c H locs 0 0 (MQ below (Qv_ G cy ad σ0 q sz) args s 0 0 (va_A (wl_ cy ad σ0) sz)) (F0 m 2 ls []) := by
  intro n
  induction n with
  | zero =>
    intro σ v0 v1 hE hk_v0 hf H locs ls h hl
    cases hf
  | succ n ih =>
    intro σ v0 v1 hE hk_v0 hf H locs ls h hl
    have hf : (if (1296 : Int32) ≤ v1 then f_X9_gathersBoth_41 fu fu σ v0 (1 : Int32) else (dr_ σ 10 (sr_ σ v0 30)).bind fun b2 => if (v1 / (36 : Int32)) = (v1 - v1 / (36 : Int32) * (36 : Int32)) then (ix_ v1 (ln_ σ b2)).bind fun j5 => (f_X9_gathersBoth_2 fu n) (ui_ σ b2 j5 (0 : Int32)) v0 (v1 + (1 : Int32)) else (ix_ v1 (ln_ σ b2)).bind fun j4 => (f_X9_gathersBoth_2 fu n) (ui_ σ b2 j4 (1000000 : Int32)) v0 (v1 + (1 : Int32))) = some q := hf
    refine lv_iload_n C.1 C.2.1 dX9_gathersBoth_2 rfl (lv_at hl 1 rfl) ?_
    refine lv_sipush (v := (1296 : Int32)) C.1 C.2.1 dX9_gathersBoth_3 (by decide) ?_
    refine lv_icmp_ge (tgt := 39) C.1 C.2.1 dX9_gathersBoth_6 (by decide) (fun c1 => ?_) (fun c1 => ?_)
    · have hf := if_t hf c1
      refine lv_iconst (v := (1 : Int32)) C.1 C.2.1 dX9_gathersBoth_39 (by decide) ?_
      refine lv_istore_n (i := 1) (lv' := [(1, .int (1 : Int32)), (0, .ref (ad v0))]) C.1 C.2.1 dX9_gathersBoth_40 rfl hl (by decide) rfl (fun ls hl => ?_)
      exact w_X9_gathersBoth_41 fu C K hr hlk hR fu σ v0 (1 : Int32) hE hk_v0 hf _ _ _ h (lv_sub hl [1, 0] rfl)
    · have hf := if_f hf c1
      refine lv_aload_n C.1 C.2.1 dX9_gathersBoth_9 rfl (lv_at hl 0 rfl) ?_
      obtain ⟨b2, hb_b2, hf⟩ := ob_ hf
      obtain ⟨hq_b2, hk_b2⟩ := dr_in hb_b2
      refine x_get (v := .ref (ad b2)) C K h cl_9 hk_v0 30 (by decide) fl_RX9_41 (hv_r (o := sr_ σ v0 30) rfl hq_b2) dX9_gathersBoth_10 ?_
      refine lv_iload_n C.1 C.2.1 dX9_gathersBoth_13 rfl (lv_at hl 1 rfl) ?_
      refine lv_iload_n C.1 C.2.1 dX9_gathersBoth_14 rfl (lv_at hl 1 rfl) ?_
      refine lv_bipush (v := (36 : Int32)) C.1 C.2.1 dX9_gathersBoth_15 (by decide) ?_
      refine lv_idiv C.1 C.2.1 dX9_gathersBoth_17 (by decide) ?_
      refine lv_iload_n C.1 C.2.1 dX9_gathersBoth_18 rfl (lv_at hl 1 rfl) ?_
      refine lv_bipush (v := (36 : Int32)) C.1 C.2.1 dX9_gathersBoth_19 (by decide) ?_
      refine lv_irem C.1 C.2.1 dX9_gathersBoth_21 (by decide) ?_
      refine lv_icmp_ne (tgt := 29) C.1 C.2.1 dX9_gathersBoth_22 (by decide) (fun c3 => ?_) (fun c3 => ?_)
      · have hf := if_f hf c3
        refine lv_ldcw (v := (1000000 : Int32)) C.1 C.2.1 C.2.2.2.1 (C.2.2.2.2 _ ck_RX9_369) dX9_gathersBoth_29 ?_
        obtain ⟨j4, hj_j4, hf⟩ := ob_ hf
        refine x_iast C K h hk_b2 hj_j4 dX9_gathersBoth_32 (fun H locs h => ?_)
        have hE := hE.up (up_i σ b2 j4 (1000000 : Int32))
        refine lv_iinc (v := v1 + (1 : Int32)) (lv' := [(1, .int (v1 + (1 : Int32))), (0, .ref (ad v0))]) C.1 C.2.1 dX9_gathersBoth_33 hl (k := 1) rfl rfl (by decide) rfl (fun ls hl => ?_)
        refine lv_goto (tgt := 2) C.1 C.2.1 dX9_gathersBoth_36 (by decide) ?_
        exact ih (ui_ σ b2 j4 (1000000 : Int32)) v0 (v1 + (1 : Int32)) hE hk_v0 hf _ _ _ h (lv_sub hl [1, 0] rfl)
      · have hf := if_t hf c3
        refine lv_iconst (v := (0 : Int32)) C.1 C.2.1 dX9_gathersBoth_25 (by decide) ?_
        refine lv_goto (tgt := 32) C.1 C.2.1 dX9_gathersBoth_26 (by decide) ?_
        obtain ⟨j5, hj_j5, hf⟩ := ob_ hf
        refine x_iast C K h hk_b2 hj_j5 dX9_gathersBoth_32 (fun H locs h => ?_)
        have hE := hE.up (up_i σ b2 j5 (0 : Int32))
        refine lv_iinc (v := v1 + (1 : Int32)) (lv' := [(1, .int (v1 + (1 : Int32))), (0, .ref (ad v0))]) C.1 C.2.1 dX9_gathersBoth_33 hl (k := 1) rfl rfl (by decide) rfl (fun ls hl => ?_)
        refine lv_goto (tgt := 2) C.1 C.2.1 dX9_gathersBoth_36 (by decide) ?_
        exact ih (ui_ σ b2 j5 (0 : Int32)) v0 (v1 + (1 : Int32)) hE hk_v0 hf _ _ _ h (lv_sub hl [1, 0] rfl)
def f_X9_gathersBoth (fu : Nat) (σ : St_) (a0 : Nat) : Option St_ := f_X9_gathersBoth_2 fu fu σ a0 (0 : Int32)
set_option maxHeartbeats 4000000 in
set_option maxRecDepth 100000 in
theorem w_X9_gathersBoth {p : Program} {l : Launch} {e : Env} {R : Room} {s : State} {m : MethodId} {args : Array Value} {below : List Frame} {meth : Method} {c : Code} {κ : Ka_} {G : va_G} {cy : Nat → ClassId} {ad : Nat → Nat} {sz : Nat} {σ0 : St_} (fu : Nat) (C : CallFix p m c cX9_gathersBoth 5 s args wU_ RX9) (K : Kx_ κ G cy (va_A (wl_ cy ad σ0) sz) s) (hr : meth.sig.returnType = none) (hlk : meth.locks = false) (hR : 1 ≤ R.frames ∧ 22 ≤ R.locals) {q : St_} : ∀ (σ : St_) (a0 : Nat), Ex_ σ0 σ → kd_ σ a0 = 9 → f_X9_gathersBoth fu σ a0 = some q → ∀ (H : Heap) (locs : List Loc) (ls : Array Slot), Ht_ G cy (va_A (wl_ cy ad σ0) sz) s ad σ H locs → lv_has ls 5 [(0, .ref (ad a0))] → W p l e R s m args below meth c H locs 0 0 (MQ below (Qv_ G cy ad σ0 q sz) args s 0 0 (va_A (wl_ cy ad σ0) sz)) (F0 m 0 ls []) := by
  intro σ a0 hE hk_a0 hf H locs ls h hl
  have hf : (f_X9_gathersBoth_2 fu fu σ a0 (0 : Int32)) = some q := hf
  refine lv_iconst (v := (0 : Int32)) C.1 C.2.1 dX9_gathersBoth_0 (by decide) ?_
  refine lv_istore_n (i := 1) (lv' := [(1, .int (0 : Int32)), (0, .ref (ad a0))]) C.1 C.2.1 dX9_gathersBoth_1 rfl hl (by decide) rfl (fun ls hl => ?_)
  exact w_X9_gathersBoth_2 fu C K hr hlk hR fu σ a0 (0 : Int32) hE hk_a0 hf _ _ _ h (lv_sub hl [1, 0] rfl)
theorem c_X9_gathersBoth (fu : Nat) (l : Launch) (κ : Ka_) (G : va_G) (cy : Nat → ClassId) (ad : Nat → Nat) (sz : Nat) (σ : St_) (a0 : Nat) (hk_a0 : kd_ σ a0 = 9) {q : St_} (hf : f_X9_gathersBoth fu σ a0 = some q) : Met l yX9_gathersBoth (Cond.code yX9_gathersBoth cX9_gathersBoth 5 none :: wU_) { frames := 1, cells := 0, slots := 0, locals := 22 } (va_Pc [.ref (ad a0)] (Pr_ κ G cy ad σ sz)) (Qv_ G cy ad σ q sz) 0 0 (va_A (wl_ cy ad σ) sz) :=
  x_met (by decide) (fun p e R s m below meth c ls hR C hr hlk hin _ K h hl => w_X9_gathersBoth fu C K hr hlk ⟨hR.1, hR.2.1⟩ σ a0 Ex_.rf hk_a0 hf s.heap [] ls h hl) (Nat.le_of_ble_eq_true rfl)
-- X9_meet
theorem mi_X9_meet : Mi_ yX9_meet cX9_meet 6 (some .int) 3 := ⟨co_yX9_meet, in_RX9, by decide, by decide, by decide +kernel⟩
def f_X9_meet_137 (fu : Nat) (k124 : St_ → Nat → Int32 → Option (Int32 × St_)) : Nat → St_ → Nat → Int32 → Int32 → Option (Int32 × St_)
  | 0 => fun _ _ _ _ => none
  | n + 1 => fun σ  v0  v4  v5 => (dr_ σ 10 (sr_ σ v0 30)).bind fun b1 => (f_X9_bothLead σ v0 v4 v5).bind fun q2 => (ix_ q2 (ln_ σ b1)).bind fun j3 => (ix_ v4 (ln_ σ b1)).bind fun j4 => if (si_ σ b1 j3) = ((si_ σ b1 j4) - (1 : Int32)) then (f_X9_bothLead σ v0 v4 v5).bind fun q6 => k124 σ v0 q6 else (f_X9_meet_137 fu k124 n) σ v0 v4 (v5 + (1 : Int32))
set_option maxHeartbeats 4000000 in
set_option maxRecDepth 100000 in
theorem w_X9_meet_137 {p : Program} {l : Launch} {e : Env} {R : Room} {s : State} {m : MethodId} {args : Array Value} {below : List Frame} {meth : Method} {c : Code} {κ : Ka_} {G : va_G} {cy : Nat → ClassId} {ad : Nat → Nat} {sz : Nat} {σ0 : St_} (fu : Nat) (C : CallFix p m c cX9_meet 6 s args wU_ RX9) (K : Kx_ κ G cy (va_A (wl_ cy ad σ0) sz) s) (hr : meth.sig.returnType = some .int) (hlk : meth.locks = false) (hR : 46 ≤ R.frames ∧ 1030 ≤ R.locals) {q : Int32 × St_} (k124 : St_ → Nat → Int32 → Option (Int32 × St_)) (hk124 : ∀ (σ : St_) (v0 : Nat) (v4 : Int32), Ex_ σ0 σ → kd_ σ v0 = 9 → k124 σ v0 v4 = some q → ∀ (H : Heap) (locs : List Loc) (ls : Array Slot), Ht_ G cy (va_A (wl_ cy ad σ0) sz) s ad σ H locs → lv_has ls 6 [(0, .ref (ad v0)), (4, .int v4)] → W p l e R s m args below meth c H locs 0 0 (MQ below (Qi_ G cy ad σ0 q.2 sz q.1) args s 0 0 (va_A (wl_ cy ad σ0) sz)) (F0 m 124 ls [])) : ∀ n : Nat, ∀ (σ : St_) (v0 : Nat) (v4 : Int32) (v5 : Int32), Ex_ σ0 σ → kd_ σ v0 = 9 → f_X9_meet_137 fu k124 n σ v0 v4 v5 = some q → ∀ (H : Heap) (locs : List Loc) (ls : Array Slot), Ht_ G cy (va_A (wl_ cy ad σ0) sz) s ad σ H locs → lv_has ls 6 [(0, .ref (ad v0)), (4, .int v4), (5, .int v5)] → W p l e R s m args below meth c H locs 0 0 (MQ below (Qi_ G cy ad σ0 q.2 sz q.1) args s 0 0 (va_A (wl_ cy ad σ0) sz)) (F0 m 137 ls []) := by
  intro n
  induction n with
  | zero =>
    intro σ v0 v4 v5 hE hk_v0 hf H locs ls h hl
    cases hf
  | succ n ih =>
    intro σ v0 v4 v5 hE hk_v0 hf H locs ls h hl
    have hf : ((dr_ σ 10 (sr_ σ v0 30)).bind fun b1 => (f_X9_bothLead σ v0 v4 v5).bind fun q2 => (ix_ q2 (ln_ σ b1)).bind fun j3 => (ix_ v4 (ln_ σ b1)).bind fun j4 => if (si_ σ b1 j3) = ((si_ σ b1 j4) - (1 : Int32)) then (f_X9_bothLead σ v0 v4 v5).bind fun q6 => k124 σ v0 q6 else (f_X9_meet_137 fu k124 n) σ v0 v4 (v5 + (1 : Int32))) = some q := hf
    refine lv_aload_n C.1 C.2.1 dX9_meet_137 rfl (lv_at hl 0 rfl) ?_
    obtain ⟨b1, hb_b1, hf⟩ := ob_ hf
    obtain ⟨hq_b1, hk_b1⟩ := dr_in hb_b1
    refine x_get (v := .ref (ad b1)) C K h cl_9 hk_v0 30 (by decide) fl_RX9_41 (hv_r (o := sr_ σ v0 30) rfl hq_b1) dX9_meet_138 ?_
    refine lv_aload_n C.1 C.2.1 dX9_meet_141 rfl (lv_at hl 0 rfl) ?_
    refine lv_iload C.1 C.2.1 dX9_meet_142 (lv_at hl 1 rfl) ?_
    refine lv_iload C.1 C.2.1 dX9_meet_144 (lv_at hl 2 rfl) ?_
    obtain ⟨q2, hq_q2, hf⟩ := ob_ hf
    refine x_ai K h (x_V C K h [.int v4, .int v5] (c_X9_bothLead l κ G cy ad H.size σ v0 v4 v5 hk_v0 hq_q2) mi_X9_bothLead rfl im_yX9_bothLead se_yX9_bothLead ml_RX9_388 cl_9 hk_v0 ⟨rfl, rfl, Nat.le_trans (Nat.le_of_ble_eq_true rfl) hR.1, Nat.le_trans (Nat.le_of_ble_eq_true rfl) hR.2⟩ hl (Nat.le_of_ble_eq_true rfl) dX9_meet_146 ⟨Nat.zero_le _, Nat.zero_le _⟩ rfl) (fun H locs h hX => ?_)
    obtain ⟨j3, hj_j3, hf⟩ := ob_ hf
    refine x_iald C K h hk_b1 hj_j3 dX9_meet_149 ?_
    refine lv_aload_n C.1 C.2.1 dX9_meet_150 rfl (lv_at hl 0 rfl) ?_
    refine x_get (v := .ref (ad b1)) C K h cl_9 hk_v0 30 (by decide) fl_RX9_41 (hv_r (o := sr_ σ v0 30) rfl hq_b1) dX9_meet_151 ?_
    refine lv_iload C.1 C.2.1 dX9_meet_154 (lv_at hl 1 rfl) ?_
    obtain ⟨j4, hj_j4, hf⟩ := ob_ hf
    refine x_iald C K h hk_b1 hj_j4 dX9_meet_156 ?_
    refine lv_iconst (v := (1 : Int32)) C.1 C.2.1 dX9_meet_157 (by decide) ?_
    refine lv_isub C.1 C.2.1 dX9_meet_158 ?_
    refine lv_icmp_eq (tgt := 168) C.1 C.2.1 dX9_meet_159 (by decide) (fun c5 => ?_) (fun c5 => ?_)
    · have hf := if_t hf c5
      refine lv_aload_n C.1 C.2.1 dX9_meet_168 rfl (lv_at hl 0 rfl) ?_
      refine lv_iload C.1 C.2.1 dX9_meet_169 (lv_at hl 1 rfl) ?_
      refine lv_iload C.1 C.2.1 dX9_meet_171 (lv_at hl 2 rfl) ?_
      obtain ⟨q6, hq_q6, hf⟩ := ob_ hf
      refine x_ai K h (x_V C K h [.int v4, .int v5] (c_X9_bothLead l κ G cy ad H.size σ v0 v4 v5 hk_v0 hq_q6) mi_X9_bothLead rfl im_yX9_bothLead se_yX9_bothLead ml_RX9_388 cl_9 hk_v0 ⟨rfl, rfl, Nat.le_trans (Nat.le_of_ble_eq_true rfl) hR.1, Nat.le_trans (Nat.le_of_ble_eq_true rfl) hR.2⟩ hl (Nat.le_of_ble_eq_true rfl) dX9_meet_173 ⟨Nat.zero_le _, Nat.zero_le _⟩ rfl) (fun H locs h hX => ?_)
      refine lv_istore (i := 4) (lv' := [(4, .int q6), (0, .ref (ad v0)), (5, .int v5)]) C.1 C.2.1 dX9_meet_176 hl (by decide) rfl (fun ls hl => ?_)
      refine lv_goto (tgt := 124) C.1 C.2.1 dX9_meet_178 (by decide) ?_
      exact hk124 σ v0 q6 hE hk_v0 hf _ _ _ h (lv_sub hl [1, 0] rfl)
    · have hf := if_f hf c5
      refine lv_iinc (v := v5 + (1 : Int32)) (lv' := [(5, .int (v5 + (1 : Int32))), (0, .ref (ad v0)), (4, .int v4)]) C.1 C.2.1 dX9_meet_162 hl (k := 2) rfl rfl (by decide) rfl (fun ls hl => ?_)
      refine lv_goto (tgt := 137) C.1 C.2.1 dX9_meet_165 (by decide) ?_
      exact ih σ v0 v4 (v5 + (1 : Int32)) hE hk_v0 hf _ _ _ h (lv_sub hl [1, 2, 0] rfl)
def f_X9_meet_124 (fu : Nat) : Nat → St_ → Nat → Int32 → Option (Int32 × St_)
  | 0 => fun _ _ _ => none
  | n + 1 => fun σ  v0  v4 => (dr_ σ 10 (sr_ σ v0 30)).bind fun b1 => (ix_ v4 (ln_ σ b1)).bind fun j2 => if (si_ σ b1 j2) ≤ 0 then some (v4 - v4 / (36 : Int32) * (36 : Int32), σ) else f_X9_meet_137 fu (f_X9_meet_124 fu n) fu σ v0 v4 (0 : Int32)
set_option maxHeartbeats 4000000 in
set_option maxRecDepth 100000 in
theorem w_X9_meet_124 {p : Program} {l : Launch} {e : Env} {R : Room} {s : State} {m : MethodId} {args : Array Value} {below : List Frame} {meth : Method} {c : Code} {κ : Ka_} {G : va_G} {cy : Nat → ClassId} {ad : Nat → Nat} {sz : Nat} {σ0 : St_} (fu : Nat) (C : CallFix p m c cX9_meet 6 s args wU_ RX9) (K : Kx_ κ G cy (va_A (wl_ cy ad σ0) sz) s) (hr : meth.sig.returnType = some .int) (hlk : meth.locks = false) (hR : 46 ≤ R.frames ∧ 1030 ≤ R.locals) {q : Int32 × St_} : ∀ n : Nat, ∀ (σ : St_) (v0 : Nat) (v4 : Int32), Ex_ σ0 σ → kd_ σ v0 = 9 → f_X9_meet_124 fu n σ v0 v4 = some q → ∀ (H : Heap) (locs : List Loc) (ls : Array Slot), Ht_ G cy (va_A (wl_ cy ad σ0) sz) s ad σ H locs → lv_has ls 6 [(0, .ref (ad v0)), (4, .int v4)] → W p l e R s m args below meth c H locs 0 0 (MQ below (Qi_ G cy ad σ0 q.2 sz q.1) args s 0 0 (va_A (wl_ cy ad σ0) sz)) (F0 m 124 ls []) := by
  intro n
  induction n with
  | zero =>
    intro σ v0 v4 hE hk_v0 hf H locs ls h hl
    cases hf
  | succ n ih =>
    intro σ v0 v4 hE hk_v0 hf H locs ls h hl
    have hf : ((dr_ σ 10 (sr_ σ v0 30)).bind fun b1 => (ix_ v4 (ln_ σ b1)).bind fun j2 => if (si_ σ b1 j2) ≤ 0 then some (v4 - v4 / (36 : Int32) * (36 : Int32), σ) else f_X9_meet_137 fu (f_X9_meet_124 fu n) fu σ v0 v4 (0 : Int32)) = some q := hf
    refine lv_aload_n C.1 C.2.1 dX9_meet_124 rfl (lv_at hl 0 rfl) ?_
    obtain ⟨b1, hb_b1, hf⟩ := ob_ hf
    obtain ⟨hq_b1, hk_b1⟩ := dr_in hb_b1
    refine x_get (v := .ref (ad b1)) C K h cl_9 hk_v0 30 (by decide) fl_RX9_41 (hv_r (o := sr_ σ v0 30) rfl hq_b1) dX9_meet_125 ?_
    refine lv_iload C.1 C.2.1 dX9_meet_128 (lv_at hl 1 rfl) ?_
    obtain ⟨j2, hj_j2, hf⟩ := ob_ hf
    refine x_iald C K h hk_b1 hj_j2 dX9_meet_130 ?_
    refine lv_if_le (tgt := 181) C.1 C.2.1 dX9_meet_131 (by decide) (fun c3 => ?_) (fun c3 => ?_)
    · have hf := if_t hf c3
      refine lv_iload C.1 C.2.1 dX9_meet_181 (lv_at hl 1 rfl) ?_
      refine lv_bipush (v := (36 : Int32)) C.1 C.2.1 dX9_meet_183 (by decide) ?_
      refine lv_irem C.1 C.2.1 dX9_meet_185 (by decide) ?_
      exact x_ri C hr hlk h hE (pf_1 (Option.some.inj hf)) (pf_2 (Option.some.inj hf)) dX9_meet_186
    · have hf := if_f hf c3
      refine lv_iconst (v := (0 : Int32)) C.1 C.2.1 dX9_meet_134 (by decide) ?_
      refine lv_istore (i := 5) (lv' := [(5, .int (0 : Int32)), (0, .ref (ad v0)), (4, .int v4)]) C.1 C.2.1 dX9_meet_135 hl (by decide) rfl (fun ls hl => ?_)
      exact w_X9_meet_137 fu C K hr hlk hR (f_X9_meet_124 fu n) ih fu σ v0 v4 (0 : Int32) hE hk_v0 hf _ _ _ h (lv_sub hl [1, 2, 0] rfl)
def f_X9_meet (fu : Nat) (σ : St_) (a0 : Nat) (x1 : Int32) (x2 : Int32) (x3 : Int32) : Option (Int32 × St_) := if (f_X9_isOne σ a0 x1) = 0 then some ((-2 : Int32), σ) else if (f_X9_isOne σ a0 x2) = 0 then some ((-2 : Int32), σ) else if x1 = x2 then some ((-2 : Int32), σ) else if (f_X9_in x3.toInt64 (0 : Int64) (1 : Int64)) = 0 then some ((-2 : Int32), σ) else (dr_ σ 10 (sr_ σ a0 27)).bind fun b14 => (f_X9_tables fu σ a0 x1 b14).bind fun q15 => (dr_ q15 10 (sr_ q15 a0 28)).bind fun b16 => (f_X9_tables fu q15 a0 x2 b16).bind fun q17 => (f_X9_gathersBoth fu q17 a0).bind fun q18 => (dr_ q18 10 (sr_ q18 a0 10)).bind fun b19 => (ix_ (((3 : Int32) * x1) + (1 : Int32)) (ln_ q18 b19)).bind fun j20 => (ix_ (((3 : Int32) * x2) + (1 : Int32)) (ln_ q18 b19)).bind fun j21 => (dr_ q18 10 (sr_ q18 a0 30)).bind fun b22 => (ix_ (((36 : Int32) * (si_ q18 b19 j20)) + (si_ q18 b19 j21)) (ln_ q18 b22)).bind fun j23 => if (si_ q18 b22 j23) = (1000000 : Int32) then (ix_ (((36 : Int32) * (si_ q18 b19 j20)) + (si_ q18 b19 j21)) (ln_ q18 b22)).bind fun j25 => if (si_ q18 b22 j25) = (1000000 : Int32) then some ((-1 : Int32), q18) else (ix_ (((36 : Int32) * (si_ q18 b19 j20)) + (si_ q18 b19 j21)) (ln_ q18 b22)).bind fun j27 => some (si_ q18 b22 j27, q18) else if x3 = 0 then (ix_ (((36 : Int32) * (si_ q18 b19 j20)) + (si_ q18 b19 j21)) (ln_ q18 b22)).bind fun j29 => if (si_ q18 b22 j29) = (1000000 : Int32) then some ((-1 : Int32), q18) else (ix_ (((36 : Int32) * (si_ q18 b19 j20)) + (si_ q18 b19 j21)) (ln_ q18 b22)).bind fun j31 => some (si_ q18 b22 j31, q18) else f_X9_meet_124 fu fu q18 a0 (((36 : Int32) * (si_ q18 b19 j20)) + (si_ q18 b19 j21))
set_option maxHeartbeats 4000000 in
set_option maxRecDepth 100000 in
theorem w_X9_meet {p : Program} {l : Launch} {e : Env} {R : Room} {s : State} {m : MethodId} {args : Array Value} {below : List Frame} {meth : Method} {c : Code} {κ : Ka_} {G : va_G} {cy : Nat → ClassId} {ad : Nat → Nat} {sz : Nat} {σ0 : St_} (fu : Nat) (C : CallFix p m c cX9_meet 6 s args wU_ RX9) (K : Kx_ κ G cy (va_A (wl_ cy ad σ0) sz) s) (hr : meth.sig.returnType = some .int) (hlk : meth.locks = false) (hR : 46 ≤ R.frames ∧ 1030 ≤ R.locals) {q : Int32 × St_} : ∀ (σ : St_) (a0 : Nat) (x1 : Int32) (x2 : Int32) (x3 : Int32), Ex_ σ0 σ → kd_ σ a0 = 9 → f_X9_meet fu σ a0 x1 x2 x3 = some q → ∀ (H : Heap) (locs : List Loc) (ls : Array Slot), Ht_ G cy (va_A (wl_ cy ad σ0) sz) s ad σ H locs → lv_has ls 6 [(0, .ref (ad a0)), (1, .int x1), (2, .int x2), (3, .int x3)] → W p l e R s m args below meth c H locs 0 0 (MQ below (Qi_ G cy ad σ0 q.2 sz q.1) args s 0 0 (va_A (wl_ cy ad σ0) sz)) (F0 m 0 ls []) := by
  intro σ a0 x1 x2 x3 hE hk_a0 hf H locs ls h hl
  have hf : (if (f_X9_isOne σ a0 x1) = 0 then some ((-2 : Int32), σ) else if (f_X9_isOne σ a0 x2) = 0 then some ((-2 : Int32), σ) else if x1 = x2 then some ((-2 : Int32), σ) else if (f_X9_in x3.toInt64 (0 : Int64) (1 : Int64)) = 0 then some ((-2 : Int32), σ) else (dr_ σ 10 (sr_ σ a0 27)).bind fun b14 => (f_X9_tables fu σ a0 x1 b14).bind fun q15 => (dr_ q15 10 (sr_ q15 a0 28)).bind fun b16 => (f_X9_tables fu q15 a0 x2 b16).bind fun q17 => (f_X9_gathersBoth fu q17 a0).bind fun q18 => (dr_ q18 10 (sr_ q18 a0 10)).bind fun b19 => (ix_ (((3 : Int32) * x1) + (1 : Int32)) (ln_ q18 b19)).bind fun j20 => (ix_ (((3 : Int32) * x2) + (1 : Int32)) (ln_ q18 b19)).bind fun j21 => (dr_ q18 10 (sr_ q18 a0 30)).bind fun b22 => (ix_ (((36 : Int32) * (si_ q18 b19 j20)) + (si_ q18 b19 j21)) (ln_ q18 b22)).bind fun j23 => if (si_ q18 b22 j23) = (1000000 : Int32) then (ix_ (((36 : Int32) * (si_ q18 b19 j20)) + (si_ q18 b19 j21)) (ln_ q18 b22)).bind fun j25 => if (si_ q18 b22 j25) = (1000000 : Int32) then some ((-1 : Int32), q18) else (ix_ (((36 : Int32) * (si_ q18 b19 j20)) + (si_ q18 b19 j21)) (ln_ q18 b22)).bind fun j27 => some (si_ q18 b22 j27, q18) else if x3 = 0 then (ix_ (((36 : Int32) * (si_ q18 b19 j20)) + (si_ q18 b19 j21)) (ln_ q18 b22)).bind fun j29 => if (si_ q18 b22 j29) = (1000000 : Int32) then some ((-1 : Int32), q18) else (ix_ (((36 : Int32) * (si_ q18 b19 j20)) + (si_ q18 b19 j21)) (ln_ q18 b22)).bind fun j31 => some (si_ q18 b22 j31, q18) else f_X9_meet_124 fu fu q18 a0 (((36 : Int32) * (si_ q18 b19 j20)) + (si_ q18 b19 j21))) = some q := hf
  refine lv_aload_n C.1 C.2.1 dX9_meet_0 rfl (lv_at hl 0 rfl) ?_
  refine lv_iload_n C.1 C.2.1 dX9_meet_1 rfl (lv_at hl 1 rfl) ?_
  refine x_az K h (x_V C K h [.int x1] (c_X9_isOne l κ G cy ad H.size σ a0 x1 hk_a0 rfl) mi_X9_isOne rfl im_yX9_isOne se_yX9_isOne ml_RX9_95 cl_9 hk_a0 ⟨rfl, rfl, Nat.le_trans (Nat.le_of_ble_eq_true rfl) hR.1, Nat.le_trans (Nat.le_of_ble_eq_true rfl) hR.2⟩ hl (Nat.le_of_ble_eq_true rfl) dX9_meet_2 ⟨Nat.zero_le _, Nat.zero_le _⟩ rfl) (fun H locs h hX hz5 => ?_)
  refine lv_if_eq (tgt := 31) C.1 C.2.1 dX9_meet_5 (by decide) (fun c6 => ?_) (fun c6 => ?_)
  · have hf := if_t hf c6
    refine lv_bipush (v := (-2 : Int32)) C.1 C.2.1 dX9_meet_31 (by decide) ?_
    exact x_ri C hr hlk h hE (pf_1 (Option.some.inj hf)) (pf_2 (Option.some.inj hf)) dX9_meet_33
  · have hf := if_f hf c6
    refine lv_aload_n C.1 C.2.1 dX9_meet_8 rfl (lv_at hl 0 rfl) ?_
    refine lv_iload_n C.1 C.2.1 dX9_meet_9 rfl (lv_at hl 2 rfl) ?_
    refine x_az K h (x_V C K h [.int x2] (c_X9_isOne l κ G cy ad H.size σ a0 x2 hk_a0 rfl) mi_X9_isOne rfl im_yX9_isOne se_yX9_isOne ml_RX9_95 cl_9 hk_a0 ⟨rfl, rfl, Nat.le_trans (Nat.le_of_ble_eq_true rfl) hR.1, Nat.le_trans (Nat.le_of_ble_eq_true rfl) hR.2⟩ hl (Nat.le_of_ble_eq_true rfl) dX9_meet_10 ⟨Nat.zero_le _, Nat.zero_le _⟩ rfl) (fun H locs h hX hz8 => ?_)
    refine lv_if_eq (tgt := 31) C.1 C.2.1 dX9_meet_13 (by decide) (fun c9 => ?_) (fun c9 => ?_)
    · have hf := if_t hf c9
      refine lv_bipush (v := (-2 : Int32)) C.1 C.2.1 dX9_meet_31 (by decide) ?_
      exact x_ri C hr hlk h hE (pf_1 (Option.some.inj hf)) (pf_2 (Option.some.inj hf)) dX9_meet_33
    · have hf := if_f hf c9
      refine lv_iload_n C.1 C.2.1 dX9_meet_16 rfl (lv_at hl 1 rfl) ?_
      refine lv_iload_n C.1 C.2.1 dX9_meet_17 rfl (lv_at hl 2 rfl) ?_
      refine lv_icmp_eq (tgt := 31) C.1 C.2.1 dX9_meet_18 (by decide) (fun c10 => ?_) (fun c10 => ?_)
      · have hf := if_t hf c10
        refine lv_bipush (v := (-2 : Int32)) C.1 C.2.1 dX9_meet_31 (by decide) ?_
        exact x_ri C hr hlk h hE (pf_1 (Option.some.inj hf)) (pf_2 (Option.some.inj hf)) dX9_meet_33
      · have hf := if_f hf c10
        refine lv_iload_n C.1 C.2.1 dX9_meet_21 rfl (lv_at hl 3 rfl) ?_
        refine lv_i2l C.1 C.2.1 dX9_meet_22 rfl ?_
        refine lv_lconst (v := (0 : Int64)) C.1 C.2.1 dX9_meet_23 (by decide) ?_
        refine lv_lconst (v := (1 : Int64)) C.1 C.2.1 dX9_meet_24 (by decide) ?_
        refine x_az K h (x_S C K h [.long x3.toInt64, .long (0 : Int64), .long (1 : Int64)] (c_X9_in l κ G cy ad H.size σ x3.toInt64 (0 : Int64) (1 : Int64) rfl) mi_X9_in rfl st_yX9_in ml_RX9_83 ⟨rfl, rfl, Nat.le_trans (Nat.le_of_ble_eq_true rfl) hR.1, Nat.le_trans (Nat.le_of_ble_eq_true rfl) hR.2⟩ hl (Nat.le_of_ble_eq_true rfl) dX9_meet_25 ⟨Nat.zero_le _, Nat.zero_le _⟩ rfl) (fun H locs h hX hz12 => ?_)
        refine lv_if_ne (tgt := 34) C.1 C.2.1 dX9_meet_28 (by decide) (fun c13 => ?_) (fun c13 => ?_)
        · have hf := if_f hf c13
          refine lv_aload_n C.1 C.2.1 dX9_meet_34 rfl (lv_at hl 0 rfl) ?_
          refine lv_iload_n C.1 C.2.1 dX9_meet_35 rfl (lv_at hl 1 rfl) ?_
          refine lv_aload_n C.1 C.2.1 dX9_meet_36 rfl (lv_at hl 0 rfl) ?_
          obtain ⟨b14, hb_b14, hf⟩ := ob_ hf
          obtain ⟨hq_b14, hk_b14⟩ := dr_in hb_b14
          refine x_get (v := .ref (ad b14)) C K h cl_9 hk_a0 27 (by decide) fl_RX9_32 (hv_r (o := sr_ σ a0 27) rfl hq_b14) dX9_meet_37 ?_
          obtain ⟨q15, hq_q15, hf⟩ := ob_ hf
          refine x_av K h (x_V C K h [.int x1, .ref (ad b14)] (c_X9_tables fu l κ G cy ad H.size σ a0 x1 b14 hk_a0 hk_b14 hq_q15) mi_X9_tables rfl im_yX9_tables se_yX9_tables ml_RX9_370 cl_9 hk_a0 ⟨rfl, rfl, Nat.le_trans (Nat.le_of_ble_eq_true rfl) hR.1, Nat.le_trans (Nat.le_of_ble_eq_true rfl) hR.2⟩ hl (Nat.le_of_ble_eq_true rfl) dX9_meet_40 ⟨Nat.zero_le _, Nat.zero_le _⟩ rfl) (fun H locs h hX => ?_)
          have hE := hE.trans hX
          have hk_a0 := hX.k hk_a0 (by decide)
          refine lv_aload_n C.1 C.2.1 dX9_meet_43 rfl (lv_at hl 0 rfl) ?_
          refine lv_iload_n C.1 C.2.1 dX9_meet_44 rfl (lv_at hl 2 rfl) ?_
          refine lv_aload_n C.1 C.2.1 dX9_meet_45 rfl (lv_at hl 0 rfl) ?_
          obtain ⟨b16, hb_b16, hf⟩ := ob_ hf
          obtain ⟨hq_b16, hk_b16⟩ := dr_in hb_b16
          refine x_get (v := .ref (ad b16)) C K h cl_9 hk_a0 28 (by decide) fl_RX9_35 (hv_r (o := sr_ q15 a0 28) rfl hq_b16) dX9_meet_46 ?_
          obtain ⟨q17, hq_q17, hf⟩ := ob_ hf
          refine x_av K h (x_V C K h [.int x2, .ref (ad b16)] (c_X9_tables fu l κ G cy ad H.size q15 a0 x2 b16 hk_a0 hk_b16 hq_q17) mi_X9_tables rfl im_yX9_tables se_yX9_tables ml_RX9_370 cl_9 hk_a0 ⟨rfl, rfl, Nat.le_trans (Nat.le_of_ble_eq_true rfl) hR.1, Nat.le_trans (Nat.le_of_ble_eq_true rfl) hR.2⟩ hl (Nat.le_of_ble_eq_true rfl) dX9_meet_49 ⟨Nat.zero_le _, Nat.zero_le _⟩ rfl) (fun H locs h hX => ?_)
          have hE := hE.trans hX
          have hk_a0 := hX.k hk_a0 (by decide)
          refine lv_aload_n C.1 C.2.1 dX9_meet_52 rfl (lv_at hl 0 rfl) ?_
          obtain ⟨q18, hq_q18, hf⟩ := ob_ hf
          refine x_av K h (x_V C K h [] (c_X9_gathersBoth fu l κ G cy ad H.size q17 a0 hk_a0 hq_q18) mi_X9_gathersBoth rfl im_yX9_gathersBoth se_yX9_gathersBoth ml_RX9_391 cl_9 hk_a0 ⟨rfl, rfl, Nat.le_trans (Nat.le_of_ble_eq_true rfl) hR.1, Nat.le_trans (Nat.le_of_ble_eq_true rfl) hR.2⟩ hl (Nat.le_of_ble_eq_true rfl) dX9_meet_53 ⟨Nat.zero_le _, Nat.zero_le _⟩ rfl) (fun H locs h hX => ?_)
          have hE := hE.trans hX
          have hk_a0 := hX.k hk_a0 (by decide)
          refine lv_bipush (v := (36 : Int32)) C.1 C.2.1 dX9_meet_56 (by decide) ?_
          refine lv_aload_n C.1 C.2.1 dX9_meet_58 rfl (lv_at hl 0 rfl) ?_
          obtain ⟨b19, hb_b19, hf⟩ := ob_ hf
          obtain ⟨hq_b19, hk_b19⟩ := dr_in hb_b19
          refine x_get (v := .ref (ad b19)) C K h cl_9 hk_a0 10 (by decide) fl_RX9_29 (hv_r (o := sr_ q18 a0 10) rfl hq_b19) dX9_meet_59 ?_
          refine lv_iconst (v := (3 : Int32)) C.1 C.2.1 dX9_meet_62 (by decide) ?_
          refine lv_iload_n C.1 C.2.1 dX9_meet_63 rfl (lv_at hl 1 rfl) ?_
          refine lv_imul C.1 C.2.1 dX9_meet_64 ?_
          refine lv_iconst (v := (1 : Int32)) C.1 C.2.1 dX9_meet_65 (by decide) ?_
          refine lv_iadd C.1 C.2.1 dX9_meet_66 ?_
          obtain ⟨j20, hj_j20, hf⟩ := ob_ hf
          refine x_iald C K h hk_b19 hj_j20 dX9_meet_67 ?_
          refine lv_imul C.1 C.2.1 dX9_meet_68 ?_
          refine lv_aload_n C.1 C.2.1 dX9_meet_69 rfl (lv_at hl 0 rfl) ?_
          refine x_get (v := .ref (ad b19)) C K h cl_9 hk_a0 10 (by decide) fl_RX9_29 (hv_r (o := sr_ q18 a0 10) rfl hq_b19) dX9_meet_70 ?_
          refine lv_iconst (v := (3 : Int32)) C.1 C.2.1 dX9_meet_73 (by decide) ?_
          refine lv_iload_n C.1 C.2.1 dX9_meet_74 rfl (lv_at hl 2 rfl) ?_
          refine lv_imul C.1 C.2.1 dX9_meet_75 ?_
          refine lv_iconst (v := (1 : Int32)) C.1 C.2.1 dX9_meet_76 (by decide) ?_
          refine lv_iadd C.1 C.2.1 dX9_meet_77 ?_
          obtain ⟨j21, hj_j21, hf⟩ := ob_ hf
          refine x_iald C K h hk_b19 hj_j21 dX9_meet_78 ?_
          refine lv_iadd C.1 C.2.1 dX9_meet_79 ?_
          refine lv_istore (i := 4) (lv' := [(4, .int (((36 : Int32) * (si_ q18 b19 j20)) + (si_ q18 b19 j21))), (0, .ref (ad a0)), (1, .int x1), (2, .int x2), (3, .int x3)]) C.1 C.2.1 dX9_meet_80 hl (by decide) rfl (fun ls hl => ?_)
          refine lv_aload_n C.1 C.2.1 dX9_meet_82 rfl (lv_at hl 1 rfl) ?_
          obtain ⟨b22, hb_b22, hf⟩ := ob_ hf
          obtain ⟨hq_b22, hk_b22⟩ := dr_in hb_b22
          refine x_get (v := .ref (ad b22)) C K h cl_9 hk_a0 30 (by decide) fl_RX9_41 (hv_r (o := sr_ q18 a0 30) rfl hq_b22) dX9_meet_83 ?_
          refine lv_iload C.1 C.2.1 dX9_meet_86 (lv_at hl 0 rfl) ?_
          obtain ⟨j23, hj_j23, hf⟩ := ob_ hf
          refine x_iald C K h hk_b22 hj_j23 dX9_meet_88 ?_
          refine lv_ldcw (v := (1000000 : Int32)) C.1 C.2.1 C.2.2.2.1 (C.2.2.2.2 _ ck_RX9_369) dX9_meet_89 ?_
          refine lv_icmp_eq (tgt := 99) C.1 C.2.1 dX9_meet_92 (by decide) (fun c24 => ?_) (fun c24 => ?_)
          · have hf := if_t hf c24
            refine lv_aload_n C.1 C.2.1 dX9_meet_99 rfl (lv_at hl 1 rfl) ?_
            refine x_get (v := .ref (ad b22)) C K h cl_9 hk_a0 30 (by decide) fl_RX9_41 (hv_r (o := sr_ q18 a0 30) rfl hq_b22) dX9_meet_100 ?_
            refine lv_iload C.1 C.2.1 dX9_meet_103 (lv_at hl 0 rfl) ?_
            obtain ⟨j25, hj_j25, hf⟩ := ob_ hf
            refine x_iald C K h hk_b22 hj_j25 dX9_meet_105 ?_
            refine lv_ldcw (v := (1000000 : Int32)) C.1 C.2.1 C.2.2.2.1 (C.2.2.2.2 _ ck_RX9_369) dX9_meet_106 ?_
            refine lv_icmp_ne (tgt := 116) C.1 C.2.1 dX9_meet_109 (by decide) (fun c26 => ?_) (fun c26 => ?_)
            · have hf := if_f hf c26
              refine lv_aload_n C.1 C.2.1 dX9_meet_116 rfl (lv_at hl 1 rfl) ?_
              refine x_get (v := .ref (ad b22)) C K h cl_9 hk_a0 30 (by decide) fl_RX9_41 (hv_r (o := sr_ q18 a0 30) rfl hq_b22) dX9_meet_117 ?_
              refine lv_iload C.1 C.2.1 dX9_meet_120 (lv_at hl 0 rfl) ?_
              obtain ⟨j27, hj_j27, hf⟩ := ob_ hf
              refine x_iald C K h hk_b22 hj_j27 dX9_meet_122 ?_
              exact x_ri C hr hlk h hE (pf_1 (Option.some.inj hf)) (pf_2 (Option.some.inj hf)) dX9_meet_123
            · have hf := if_t hf c26
              refine lv_iconst (v := (-1 : Int32)) C.1 C.2.1 dX9_meet_112 (by decide) ?_
              refine lv_goto (tgt := 123) C.1 C.2.1 dX9_meet_113 (by decide) ?_
              exact x_ri C hr hlk h hE (pf_1 (Option.some.inj hf)) (pf_2 (Option.some.inj hf)) dX9_meet_123
          · have hf := if_f hf c24
            refine lv_iload_n C.1 C.2.1 dX9_meet_95 rfl (lv_at hl 4 rfl) ?_
            refine lv_if_ne (tgt := 124) C.1 C.2.1 dX9_meet_96 (by decide) (fun c28 => ?_) (fun c28 => ?_)
            · have hf := if_f hf c28
              exact w_X9_meet_124 fu C K hr hlk hR fu q18 a0 (((36 : Int32) * (si_ q18 b19 j20)) + (si_ q18 b19 j21)) hE hk_a0 hf _ _ _ h (lv_sub hl [1, 0] rfl)
            · have hf := if_t hf c28
              refine lv_aload_n C.1 C.2.1 dX9_meet_99 rfl (lv_at hl 1 rfl) ?_
              refine x_get (v := .ref (ad b22)) C K h cl_9 hk_a0 30 (by decide) fl_RX9_41 (hv_r (o := sr_ q18 a0 30) rfl hq_b22) dX9_meet_100 ?_
              refine lv_iload C.1 C.2.1 dX9_meet_103 (lv_at hl 0 rfl) ?_
              obtain ⟨j29, hj_j29, hf⟩ := ob_ hf
              refine x_iald C K h hk_b22 hj_j29 dX9_meet_105 ?_
              refine lv_ldcw (v := (1000000 : Int32)) C.1 C.2.1 C.2.2.2.1 (C.2.2.2.2 _ ck_RX9_369) dX9_meet_106 ?_
              refine lv_icmp_ne (tgt := 116) C.1 C.2.1 dX9_meet_109 (by decide) (fun c30 => ?_) (fun c30 => ?_)
              · have hf := if_f hf c30
                refine lv_aload_n C.1 C.2.1 dX9_meet_116 rfl (lv_at hl 1 rfl) ?_
                refine x_get (v := .ref (ad b22)) C K h cl_9 hk_a0 30 (by decide) fl_RX9_41 (hv_r (o := sr_ q18 a0 30) rfl hq_b22) dX9_meet_117 ?_
                refine lv_iload C.1 C.2.1 dX9_meet_120 (lv_at hl 0 rfl) ?_
                obtain ⟨j31, hj_j31, hf⟩ := ob_ hf
                refine x_iald C K h hk_b22 hj_j31 dX9_meet_122 ?_
                exact x_ri C hr hlk h hE (pf_1 (Option.some.inj hf)) (pf_2 (Option.some.inj hf)) dX9_meet_123
              · have hf := if_t hf c30
                refine lv_iconst (v := (-1 : Int32)) C.1 C.2.1 dX9_meet_112 (by decide) ?_
                refine lv_goto (tgt := 123) C.1 C.2.1 dX9_meet_113 (by decide) ?_
                exact x_ri C hr hlk h hE (pf_1 (Option.some.inj hf)) (pf_2 (Option.some.inj hf)) dX9_meet_123
        · have hf := if_t hf c13
          refine lv_bipush (v := (-2 : Int32)) C.1 C.2.1 dX9_meet_31 (by decide) ?_
          exact x_ri C hr hlk h hE (pf_1 (Option.some.inj hf)) (pf_2 (Option.some.inj hf)) dX9_meet_33
theorem c_X9_meet (fu : Nat) (l : Launch) (κ : Ka_) (G : va_G) (cy : Nat → ClassId) (ad : Nat → Nat) (sz : Nat) (σ : St_) (a0 : Nat) (x1 : Int32) (x2 : Int32) (x3 : Int32) (hk_a0 : kd_ σ a0 = 9) {q : Int32 × St_} (hf : f_X9_meet fu σ a0 x1 x2 x3 = some q) : Met l yX9_meet (Cond.code yX9_meet cX9_meet 6 (some .int) :: wU_) { frames := 46, cells := 0, slots := 0, locals := 1030 } (va_Pc [.ref (ad a0), .int x1, .int x2, .int x3] (Pr_ κ G cy ad σ sz)) (Qi_ G cy ad σ q.2 sz q.1) 0 0 (va_A (wl_ cy ad σ) sz) :=
  x_met (by decide) (fun p e R s m below meth c ls hR C hr hlk hin _ K h hl => w_X9_meet fu C K hr hlk ⟨hR.1, hR.2.1⟩ σ a0 x1 x2 x3 Ex_.rf hk_a0 hf s.heap [] ls h hl) (Nat.le_of_ble_eq_true rfl)
-- X9_rows
theorem mi_X9_rows : Mi_ yX9_rows cX9_rows 6 (some .long) 3 := ⟨co_yX9_rows, in_RX9, by decide, by decide, by decide +kernel⟩
def f_X9_rows_161 (fu : Nat) (k86 : St_ → Nat → Int32 → Int32 → Int32 → Option (Int64 × St_)) : Nat → St_ → Nat → Int32 → Int32 → Int32 → Int32 → Option (Int64 × St_)
  | 0 => fun _ _ _ _ _ _ => none
  | n + 1 => fun σ  v0  v2  v3  v4  v5 => if (36 : Int32) ≤ v5 then k86 σ v0 v2 v3 (v4 + (1 : Int32)) else (dr_ σ 11 (sr_ σ v0 31)).bind fun b2 => (dr_ σ 11 (sr_ σ v0 32)).bind fun b3 => (ix_ v5 (ln_ σ b3)).bind fun j4 => (ix_ v5 (ln_ σ b2)).bind fun j5 => (f_X9_rows_161 fu k86 n) (ul_ σ b2 j5 (sl_ σ b3 j4)) v0 v2 v3 v4 (v5 + (1 : Int32))
set_option maxHeartbeats 4000000 in
set_option maxRecDepth 100000 in
theorem w_X9_rows_161 {p : Program} {l : Launch} {e : Env} {R : Room} {s : State} {m : MethodId} {args : Array Value} {below : List Frame} {meth : Method} {c : Code} {κ : Ka_} {G : va_G} {cy : Nat → ClassId} {ad : Nat → Nat} {sz : Nat} {σ0 : St_} (fu : Nat) (C : CallFix p m c cX9_rows 6 s args wU_ RX9) (K : Kx_ κ G cy (va_A (wl_ cy ad σ0) sz) s) (hr : meth.sig.returnType = some .long) (hlk : meth.locks = false) (hR : 46 ≤ R.frames ∧ 1030 ≤ R.locals) {q : Int64 × St_} (k86 : St_ → Nat → Int32 → Int32 → Int32 → Option (Int64 × St_)) (hk86 : ∀ (σ : St_) (v0 : Nat) (v2 : Int32) (v3 : Int32) (v4 : Int32), Ex_ σ0 σ → kd_ σ v0 = 9 → k86 σ v0 v2 v3 v4 = some q → ∀ (H : Heap) (locs : List Loc) (ls : Array Slot), Ht_ G cy (va_A (wl_ cy ad σ0) sz) s ad σ H locs → lv_has ls 6 [(0, .ref (ad v0)), (2, .int v2), (3, .int v3), (4, .int v4)] → W p l e R s m args below meth c H locs 0 0 (MQ below (Ql_ G cy ad σ0 q.2 sz q.1) args s 0 0 (va_A (wl_ cy ad σ0) sz)) (F0 m 86 ls [])) : ∀ n : Nat, ∀ (σ : St_) (v0 : Nat) (v2 : Int32) (v3 : Int32) (v4 : Int32) (v5 : Int32), Ex_ σ0 σ → kd_ σ v0 = 9 → f_X9_rows_161 fu k86 n σ v0 v2 v3 v4 v5 = some q → ∀ (H : Heap) (locs : List Loc) (ls : Array Slot), Ht_ G cy (va_A (wl_ cy ad σ0) sz) s ad σ H locs → lv_has ls 6 [(0, .ref (ad v0)), (2, .int v2), (3, .int v3), (4, .int v4), (5, .int v5)] → W p l e R s m args below meth c H locs 0 0 (MQ below (Ql_ G cy ad σ0 q.2 sz q.1) args s 0 0 (va_A (wl_ cy ad σ0) sz)) (F0 m 161 ls []) := by
  intro n
  induction n with
  | zero =>
    intro σ v0 v2 v3 v4 v5 hE hk_v0 hf H locs ls h hl
    cases hf
  | succ n ih =>
    intro σ v0 v2 v3 v4 v5 hE hk_v0 hf H locs ls h hl
    have hf : (if (36 : Int32) ≤ v5 then k86 σ v0 v2 v3 (v4 + (1 : Int32)) else (dr_ σ 11 (sr_ σ v0 31)).bind fun b2 => (dr_ σ 11 (sr_ σ v0 32)).bind fun b3 => (ix_ v5 (ln_ σ b3)).bind fun j4 => (ix_ v5 (ln_ σ b2)).bind fun j5 => (f_X9_rows_161 fu k86 n) (ul_ σ b2 j5 (sl_ σ b3 j4)) v0 v2 v3 v4 (v5 + (1 : Int32))) = some q := hf
    refine lv_iload C.1 C.2.1 dX9_rows_161 (lv_at hl 4 rfl) ?_
    refine lv_bipush (v := (36 : Int32)) C.1 C.2.1 dX9_rows_163 (by decide) ?_
    refine lv_icmp_ge (tgt := 188) C.1 C.2.1 dX9_rows_165 (by decide) (fun c1 => ?_) (fun c1 => ?_)
    · have hf := if_t hf c1
      refine lv_iinc (v := v4 + (1 : Int32)) (lv' := [(4, .int (v4 + (1 : Int32))), (0, .ref (ad v0)), (2, .int v2), (3, .int v3), (5, .int v5)]) C.1 C.2.1 dX9_rows_188 hl (k := 3) rfl rfl (by decide) rfl (fun ls hl => ?_)
      refine lv_goto (tgt := 86) C.1 C.2.1 dX9_rows_191 (by decide) ?_
      exact hk86 σ v0 v2 v3 (v4 + (1 : Int32)) hE hk_v0 hf _ _ _ h (lv_sub hl [1, 2, 3, 0] rfl)
    · have hf := if_f hf c1
      refine lv_aload_n C.1 C.2.1 dX9_rows_168 rfl (lv_at hl 0 rfl) ?_
      obtain ⟨b2, hb_b2, hf⟩ := ob_ hf
      obtain ⟨hq_b2, hk_b2⟩ := dr_in hb_b2
      refine x_get (v := .ref (ad b2)) C K h cl_9 hk_v0 31 (by decide) fl_RX9_44 (hv_r (o := sr_ σ v0 31) rfl hq_b2) dX9_rows_169 ?_
      refine lv_iload C.1 C.2.1 dX9_rows_172 (lv_at hl 4 rfl) ?_
      refine lv_aload_n C.1 C.2.1 dX9_rows_174 rfl (lv_at hl 0 rfl) ?_
      obtain ⟨b3, hb_b3, hf⟩ := ob_ hf
      obtain ⟨hq_b3, hk_b3⟩ := dr_in hb_b3
      refine x_get (v := .ref (ad b3)) C K h cl_9 hk_v0 32 (by decide) fl_RX9_48 (hv_r (o := sr_ σ v0 32) rfl hq_b3) dX9_rows_175 ?_
      refine lv_iload C.1 C.2.1 dX9_rows_178 (lv_at hl 4 rfl) ?_
      obtain ⟨j4, hj_j4, hf⟩ := ob_ hf
      refine x_lald C K h hk_b3 hj_j4 dX9_rows_180 ?_
      obtain ⟨j5, hj_j5, hf⟩ := ob_ hf
      refine x_last C K h hk_b2 hj_j5 dX9_rows_181 (fun H locs h => ?_)
      have hE := hE.up (up_l σ b2 j5 (sl_ σ b3 j4))
      refine lv_iinc (v := v5 + (1 : Int32)) (lv' := [(5, .int (v5 + (1 : Int32))), (0, .ref (ad v0)), (2, .int v2), (3, .int v3), (4, .int v4)]) C.1 C.2.1 dX9_rows_182 hl (k := 4) rfl rfl (by decide) rfl (fun ls hl => ?_)
      refine lv_goto (tgt := 161) C.1 C.2.1 dX9_rows_185 (by decide) ?_
      exact ih (ul_ σ b2 j5 (sl_ σ b3 j4)) v0 v2 v3 v4 (v5 + (1 : Int32)) hE hk_v0 hf _ _ _ h (lv_sub hl [1, 2, 3, 4, 0] rfl)
def f_X9_rows_119 (fu : Nat) (k86 : St_ → Nat → Int32 → Int32 → Int32 → Option (Int64 × St_)) : Nat → St_ → Nat → Int32 → Int32 → Int32 → Int32 → Option (Int64 × St_)
  | 0 => fun _ _ _ _ _ _ => none
  | n + 1 => fun σ  v0  v2  v3  v4  v5 => if (288 : Int32) ≤ v5 then f_X9_rows_161 fu k86 fu σ v0 v2 v3 v4 (0 : Int32) else (dr_ σ 11 (sr_ σ v0 32)).bind fun b2 => (dr_ σ 10 (sr_ σ v0 27)).bind fun b3 => (ix_ v5 (ln_ σ b3)).bind fun j4 => (ix_ (si_ σ b3 j4) (ln_ σ b2)).bind fun j5 => (dr_ σ 11 (sr_ σ v0 31)).bind fun b6 => (ix_ (v5 / (8 : Int32)) (ln_ σ b6)).bind fun j7 => (ix_ (si_ σ b3 j4) (ln_ σ b2)).bind fun j8 => (f_X9_rows_119 fu k86 n) (ul_ σ b2 j8 ((sl_ σ b2 j5) + (sl_ σ b6 j7))) v0 v2 v3 v4 (v5 + (1 : Int32))
set_option maxHeartbeats 4000000 in
set_option maxRecDepth 100000 in
theorem w_X9_rows_119 {p : Program} {l : Launch} {e : Env} {R : Room} {s : State} {m : MethodId} {args : Array Value} {below : List Frame} {meth : Method} {c : Code} {κ : Ka_} {G : va_G} {cy : Nat → ClassId} {ad : Nat → Nat} {sz : Nat} {σ0 : St_} (fu : Nat) (C : CallFix p m c cX9_rows 6 s args wU_ RX9) (K : Kx_ κ G cy (va_A (wl_ cy ad σ0) sz) s) (hr : meth.sig.returnType = some .long) (hlk : meth.locks = false) (hR : 46 ≤ R.frames ∧ 1030 ≤ R.locals) {q : Int64 × St_} (k86 : St_ → Nat → Int32 → Int32 → Int32 → Option (Int64 × St_)) (hk86 : ∀ (σ : St_) (v0 : Nat) (v2 : Int32) (v3 : Int32) (v4 : Int32), Ex_ σ0 σ → kd_ σ v0 = 9 → k86 σ v0 v2 v3 v4 = some q → ∀ (H : Heap) (locs : List Loc) (ls : Array Slot), Ht_ G cy (va_A (wl_ cy ad σ0) sz) s ad σ H locs → lv_has ls 6 [(0, .ref (ad v0)), (2, .int v2), (3, .int v3), (4, .int v4)] → W p l e R s m args below meth c H locs 0 0 (MQ below (Ql_ G cy ad σ0 q.2 sz q.1) args s 0 0 (va_A (wl_ cy ad σ0) sz)) (F0 m 86 ls [])) : ∀ n : Nat, ∀ (σ : St_) (v0 : Nat) (v2 : Int32) (v3 : Int32) (v4 : Int32) (v5 : Int32), Ex_ σ0 σ → kd_ σ v0 = 9 → f_X9_rows_119 fu k86 n σ v0 v2 v3 v4 v5 = some q → ∀ (H : Heap) (locs : List Loc) (ls : Array Slot), Ht_ G cy (va_A (wl_ cy ad σ0) sz) s ad σ H locs → lv_has ls 6 [(0, .ref (ad v0)), (2, .int v2), (3, .int v3), (4, .int v4), (5, .int v5)] → W p l e R s m args below meth c H locs 0 0 (MQ below (Ql_ G cy ad σ0 q.2 sz q.1) args s 0 0 (va_A (wl_ cy ad σ0) sz)) (F0 m 119 ls []) := by
  intro n
  induction n with
  | zero =>
    intro σ v0 v2 v3 v4 v5 hE hk_v0 hf H locs ls h hl
    cases hf
  | succ n ih =>
    intro σ v0 v2 v3 v4 v5 hE hk_v0 hf H locs ls h hl
    have hf : (if (288 : Int32) ≤ v5 then f_X9_rows_161 fu k86 fu σ v0 v2 v3 v4 (0 : Int32) else (dr_ σ 11 (sr_ σ v0 32)).bind fun b2 => (dr_ σ 10 (sr_ σ v0 27)).bind fun b3 => (ix_ v5 (ln_ σ b3)).bind fun j4 => (ix_ (si_ σ b3 j4) (ln_ σ b2)).bind fun j5 => (dr_ σ 11 (sr_ σ v0 31)).bind fun b6 => (ix_ (v5 / (8 : Int32)) (ln_ σ b6)).bind fun j7 => (ix_ (si_ σ b3 j4) (ln_ σ b2)).bind fun j8 => (f_X9_rows_119 fu k86 n) (ul_ σ b2 j8 ((sl_ σ b2 j5) + (sl_ σ b6 j7))) v0 v2 v3 v4 (v5 + (1 : Int32))) = some q := hf
    refine lv_iload C.1 C.2.1 dX9_rows_119 (lv_at hl 4 rfl) ?_
    refine lv_sipush (v := (288 : Int32)) C.1 C.2.1 dX9_rows_121 (by decide) ?_
    refine lv_icmp_ge (tgt := 158) C.1 C.2.1 dX9_rows_124 (by decide) (fun c1 => ?_) (fun c1 => ?_)
    · have hf := if_t hf c1
      refine lv_iconst (v := (0 : Int32)) C.1 C.2.1 dX9_rows_158 (by decide) ?_
      refine lv_istore (i := 5) (lv' := [(5, .int (0 : Int32)), (0, .ref (ad v0)), (2, .int v2), (3, .int v3), (4, .int v4)]) C.1 C.2.1 dX9_rows_159 hl (by decide) rfl (fun ls hl => ?_)
      exact w_X9_rows_161 fu C K hr hlk hR k86 hk86 fu σ v0 v2 v3 v4 (0 : Int32) hE hk_v0 hf _ _ _ h (lv_sub hl [1, 2, 3, 4, 0] rfl)
    · have hf := if_f hf c1
      refine lv_aload_n C.1 C.2.1 dX9_rows_127 rfl (lv_at hl 0 rfl) ?_
      obtain ⟨b2, hb_b2, hf⟩ := ob_ hf
      obtain ⟨hq_b2, hk_b2⟩ := dr_in hb_b2
      refine x_get (v := .ref (ad b2)) C K h cl_9 hk_v0 32 (by decide) fl_RX9_48 (hv_r (o := sr_ σ v0 32) rfl hq_b2) dX9_rows_128 ?_
      refine lv_aload_n C.1 C.2.1 dX9_rows_131 rfl (lv_at hl 0 rfl) ?_
      obtain ⟨b3, hb_b3, hf⟩ := ob_ hf
      obtain ⟨hq_b3, hk_b3⟩ := dr_in hb_b3
      refine x_get (v := .ref (ad b3)) C K h cl_9 hk_v0 27 (by decide) fl_RX9_32 (hv_r (o := sr_ σ v0 27) rfl hq_b3) dX9_rows_132 ?_
      refine lv_iload C.1 C.2.1 dX9_rows_135 (lv_at hl 4 rfl) ?_
      obtain ⟨j4, hj_j4, hf⟩ := ob_ hf
      refine x_iald C K h hk_b3 hj_j4 dX9_rows_137 ?_
      refine lv_dup2_11 C.1 C.2.1 dX9_rows_138 rfl rfl ?_
      obtain ⟨j5, hj_j5, hf⟩ := ob_ hf
      refine x_lald C K h hk_b2 hj_j5 dX9_rows_139 ?_
      refine lv_aload_n C.1 C.2.1 dX9_rows_140 rfl (lv_at hl 0 rfl) ?_
      obtain ⟨b6, hb_b6, hf⟩ := ob_ hf
      obtain ⟨hq_b6, hk_b6⟩ := dr_in hb_b6
      refine x_get (v := .ref (ad b6)) C K h cl_9 hk_v0 31 (by decide) fl_RX9_44 (hv_r (o := sr_ σ v0 31) rfl hq_b6) dX9_rows_141 ?_
      refine lv_iload C.1 C.2.1 dX9_rows_144 (lv_at hl 4 rfl) ?_
      refine lv_bipush (v := (8 : Int32)) C.1 C.2.1 dX9_rows_146 (by decide) ?_
      refine lv_idiv C.1 C.2.1 dX9_rows_148 (by decide) ?_
      obtain ⟨j7, hj_j7, hf⟩ := ob_ hf
      refine x_lald C K h hk_b6 hj_j7 dX9_rows_149 ?_
      refine lv_ladd C.1 C.2.1 dX9_rows_150 ?_
      obtain ⟨j8, hj_j8, hf⟩ := ob_ hf
      refine x_last C K h hk_b2 hj_j8 dX9_rows_151 (fun H locs h => ?_)
      have hE := hE.up (up_l σ b2 j8 ((sl_ σ b2 j5) + (sl_ σ b6 j7)))
      refine lv_iinc (v := v5 + (1 : Int32)) (lv' := [(5, .int (v5 + (1 : Int32))), (0, .ref (ad v0)), (2, .int v2), (3, .int v3), (4, .int v4)]) C.1 C.2.1 dX9_rows_152 hl (k := 4) rfl rfl (by decide) rfl (fun ls hl => ?_)
      refine lv_goto (tgt := 119) C.1 C.2.1 dX9_rows_155 (by decide) ?_
      exact ih (ul_ σ b2 j8 ((sl_ σ b2 j5) + (sl_ σ b6 j7))) v0 v2 v3 v4 (v5 + (1 : Int32)) hE hk_v0 hf _ _ _ h (lv_sub hl [1, 2, 3, 4, 0] rfl)
def f_X9_rows_95 (fu : Nat) (k86 : St_ → Nat → Int32 → Int32 → Int32 → Option (Int64 × St_)) : Nat → St_ → Nat → Int32 → Int32 → Int32 → Int32 → Option (Int64 × St_)
  | 0 => fun _ _ _ _ _ _ => none
  | n + 1 => fun σ  v0  v2  v3  v4  v5 => if (36 : Int32) ≤ v5 then f_X9_rows_119 fu k86 fu σ v0 v2 v3 v4 (0 : Int32) else (dr_ σ 11 (sr_ σ v0 32)).bind fun b2 => (ix_ v5 (ln_ σ b2)).bind fun j3 => (f_X9_rows_95 fu k86 n) (ul_ σ b2 j3 (0 : Int64)) v0 v2 v3 v4 (v5 + (1 : Int32))
set_option maxHeartbeats 4000000 in
set_option maxRecDepth 100000 in
theorem w_X9_rows_95 {p : Program} {l : Launch} {e : Env} {R : Room} {s : State} {m : MethodId} {args : Array Value} {below : List Frame} {meth : Method} {c : Code} {κ : Ka_} {G : va_G} {cy : Nat → ClassId} {ad : Nat → Nat} {sz : Nat} {σ0 : St_} (fu : Nat) (C : CallFix p m c cX9_rows 6 s args wU_ RX9) (K : Kx_ κ G cy (va_A (wl_ cy ad σ0) sz) s) (hr : meth.sig.returnType = some .long) (hlk : meth.locks = false) (hR : 46 ≤ R.frames ∧ 1030 ≤ R.locals) {q : Int64 × St_} (k86 : St_ → Nat → Int32 → Int32 → Int32 → Option (Int64 × St_)) (hk86 : ∀ (σ : St_) (v0 : Nat) (v2 : Int32) (v3 : Int32) (v4 : Int32), Ex_ σ0 σ → kd_ σ v0 = 9 → k86 σ v0 v2 v3 v4 = some q → ∀ (H : Heap) (locs : List Loc) (ls : Array Slot), Ht_ G cy (va_A (wl_ cy ad σ0) sz) s ad σ H locs → lv_has ls 6 [(0, .ref (ad v0)), (2, .int v2), (3, .int v3), (4, .int v4)] → W p l e R s m args below meth c H locs 0 0 (MQ below (Ql_ G cy ad σ0 q.2 sz q.1) args s 0 0 (va_A (wl_ cy ad σ0) sz)) (F0 m 86 ls [])) : ∀ n : Nat, ∀ (σ : St_) (v0 : Nat) (v2 : Int32) (v3 : Int32) (v4 : Int32) (v5 : Int32), Ex_ σ0 σ → kd_ σ v0 = 9 → f_X9_rows_95 fu k86 n σ v0 v2 v3 v4 v5 = some q → ∀ (H : Heap) (locs : List Loc) (ls : Array Slot), Ht_ G cy (va_A (wl_ cy ad σ0) sz) s ad σ H locs → lv_has ls 6 [(0, .ref (ad v0)), (2, .int v2), (3, .int v3), (4, .int v4), (5, .int v5)] → W p l e R s m args below meth c H locs 0 0 (MQ below (Ql_ G cy ad σ0 q.2 sz q.1) args s 0 0 (va_A (wl_ cy ad σ0) sz)) (F0 m 95 ls []) := by
  intro n
  induction n with
  | zero =>
    intro σ v0 v2 v3 v4 v5 hE hk_v0 hf H locs ls h hl
    cases hf
  | succ n ih =>
    intro σ v0 v2 v3 v4 v5 hE hk_v0 hf H locs ls h hl
    have hf : (if (36 : Int32) ≤ v5 then f_X9_rows_119 fu k86 fu σ v0 v2 v3 v4 (0 : Int32) else (dr_ σ 11 (sr_ σ v0 32)).bind fun b2 => (ix_ v5 (ln_ σ b2)).bind fun j3 => (f_X9_rows_95 fu k86 n) (ul_ σ b2 j3 (0 : Int64)) v0 v2 v3 v4 (v5 + (1 : Int32))) = some q := hf
    refine lv_iload C.1 C.2.1 dX9_rows_95 (lv_at hl 4 rfl) ?_
    refine lv_bipush (v := (36 : Int32)) C.1 C.2.1 dX9_rows_97 (by decide) ?_
    refine lv_icmp_ge (tgt := 116) C.1 C.2.1 dX9_rows_99 (by decide) (fun c1 => ?_) (fun c1 => ?_)
    · have hf := if_t hf c1
      refine lv_iconst (v := (0 : Int32)) C.1 C.2.1 dX9_rows_116 (by decide) ?_
      refine lv_istore (i := 5) (lv' := [(5, .int (0 : Int32)), (0, .ref (ad v0)), (2, .int v2), (3, .int v3), (4, .int v4)]) C.1 C.2.1 dX9_rows_117 hl (by decide) rfl (fun ls hl => ?_)
      exact w_X9_rows_119 fu C K hr hlk hR k86 hk86 fu σ v0 v2 v3 v4 (0 : Int32) hE hk_v0 hf _ _ _ h (lv_sub hl [1, 2, 3, 4, 0] rfl)
    · have hf := if_f hf c1
      refine lv_aload_n C.1 C.2.1 dX9_rows_102 rfl (lv_at hl 0 rfl) ?_
      obtain ⟨b2, hb_b2, hf⟩ := ob_ hf
      obtain ⟨hq_b2, hk_b2⟩ := dr_in hb_b2
      refine x_get (v := .ref (ad b2)) C K h cl_9 hk_v0 32 (by decide) fl_RX9_48 (hv_r (o := sr_ σ v0 32) rfl hq_b2) dX9_rows_103 ?_
      refine lv_iload C.1 C.2.1 dX9_rows_106 (lv_at hl 4 rfl) ?_
      refine lv_lconst (v := (0 : Int64)) C.1 C.2.1 dX9_rows_108 (by decide) ?_
      obtain ⟨j3, hj_j3, hf⟩ := ob_ hf
      refine x_last C K h hk_b2 hj_j3 dX9_rows_109 (fun H locs h => ?_)
      have hE := hE.up (up_l σ b2 j3 (0 : Int64))
      refine lv_iinc (v := v5 + (1 : Int32)) (lv' := [(5, .int (v5 + (1 : Int32))), (0, .ref (ad v0)), (2, .int v2), (3, .int v3), (4, .int v4)]) C.1 C.2.1 dX9_rows_110 hl (k := 4) rfl rfl (by decide) rfl (fun ls hl => ?_)
      refine lv_goto (tgt := 95) C.1 C.2.1 dX9_rows_113 (by decide) ?_
      exact ih (ul_ σ b2 j3 (0 : Int64)) v0 v2 v3 v4 (v5 + (1 : Int32)) hE hk_v0 hf _ _ _ h (lv_sub hl [1, 2, 3, 4, 0] rfl)
def f_X9_rows_86 (fu : Nat) : Nat → St_ → Nat → Int32 → Int32 → Int32 → Option (Int64 × St_)
  | 0 => fun _ _ _ _ _ => none
  | n + 1 => fun σ  v0  v2  v3  v4 => if v3 ≤ v4 then (dr_ σ 11 (sr_ σ v0 31)).bind fun b2 => (ix_ v2 (ln_ σ b2)).bind fun j3 => some (sl_ σ b2 j3, σ) else f_X9_rows_95 fu (f_X9_rows_86 fu n) fu σ v0 v2 v3 v4 (0 : Int32)
set_option maxHeartbeats 4000000 in
set_option maxRecDepth 100000 in
theorem w_X9_rows_86 {p : Program} {l : Launch} {e : Env} {R : Room} {s : State} {m : MethodId} {args : Array Value} {below : List Frame} {meth : Method} {c : Code} {κ : Ka_} {G : va_G} {cy : Nat → ClassId} {ad : Nat → Nat} {sz : Nat} {σ0 : St_} (fu : Nat) (C : CallFix p m c cX9_rows 6 s args wU_ RX9) (K : Kx_ κ G cy (va_A (wl_ cy ad σ0) sz) s) (hr : meth.sig.returnType = some .long) (hlk : meth.locks = false) (hR : 46 ≤ R.frames ∧ 1030 ≤ R.locals) {q : Int64 × St_} : ∀ n : Nat, ∀ (σ : St_) (v0 : Nat) (v2 : Int32) (v3 : Int32) (v4 : Int32), Ex_ σ0 σ → kd_ σ v0 = 9 → f_X9_rows_86 fu n σ v0 v2 v3 v4 = some q → ∀ (H : Heap) (locs : List Loc) (ls : Array Slot), Ht_ G cy (va_A (wl_ cy ad σ0) sz) s ad σ H locs → lv_has ls 6 [(0, .ref (ad v0)), (2, .int v2), (3, .int v3), (4, .int v4)] → W p l e R s m args below meth c H locs 0 0 (MQ below (Ql_ G cy ad σ0 q.2 sz q.1) args s 0 0 (va_A (wl_ cy ad σ0) sz)) (F0 m 86 ls []) := by
  intro n
  induction n with
  | zero =>
    intro σ v0 v2 v3 v4 hE hk_v0 hf H locs ls h hl
    cases hf
  | succ n ih =>
    intro σ v0 v2 v3 v4 hE hk_v0 hf H locs ls h hl
    have hf : (if v3 ≤ v4 then (dr_ σ 11 (sr_ σ v0 31)).bind fun b2 => (ix_ v2 (ln_ σ b2)).bind fun j3 => some (sl_ σ b2 j3, σ) else f_X9_rows_95 fu (f_X9_rows_86 fu n) fu σ v0 v2 v3 v4 (0 : Int32)) = some q := hf
    refine lv_iload C.1 C.2.1 dX9_rows_86 (lv_at hl 3 rfl) ?_
    refine lv_iload_n C.1 C.2.1 dX9_rows_88 rfl (lv_at hl 2 rfl) ?_
    refine lv_icmp_ge (tgt := 194) C.1 C.2.1 dX9_rows_89 (by decide) (fun c1 => ?_) (fun c1 => ?_)
    · have hf := if_t hf c1
      refine lv_aload_n C.1 C.2.1 dX9_rows_194 rfl (lv_at hl 0 rfl) ?_
      obtain ⟨b2, hb_b2, hf⟩ := ob_ hf
      obtain ⟨hq_b2, hk_b2⟩ := dr_in hb_b2
      refine x_get (v := .ref (ad b2)) C K h cl_9 hk_v0 31 (by decide) fl_RX9_44 (hv_r (o := sr_ σ v0 31) rfl hq_b2) dX9_rows_195 ?_
      refine lv_iload_n C.1 C.2.1 dX9_rows_198 rfl (lv_at hl 1 rfl) ?_
      obtain ⟨j3, hj_j3, hf⟩ := ob_ hf
      refine x_lald C K h hk_b2 hj_j3 dX9_rows_199 ?_
      exact x_rl C hr hlk h hE (pf_1 (Option.some.inj hf)) (pf_2 (Option.some.inj hf)) dX9_rows_200
    · have hf := if_f hf c1
      refine lv_iconst (v := (0 : Int32)) C.1 C.2.1 dX9_rows_92 (by decide) ?_
      refine lv_istore (i := 5) (lv' := [(5, .int (0 : Int32)), (0, .ref (ad v0)), (2, .int v2), (3, .int v3), (4, .int v4)]) C.1 C.2.1 dX9_rows_93 hl (by decide) rfl (fun ls hl => ?_)
      exact w_X9_rows_95 fu C K hr hlk hR (f_X9_rows_86 fu n) ih fu σ v0 v2 v3 v4 (0 : Int32) hE hk_v0 hf _ _ _ h (lv_sub hl [1, 2, 3, 4, 0] rfl)
def f_X9_rows_43 (fu : Nat) : Nat → St_ → Nat → Int32 → Int32 → Int32 → Int32 → Option (Int64 × St_)
  | 0 => fun _ _ _ _ _ _ => none
  | n + 1 => fun σ  v0  v1  v2  v3  v4 => if (36 : Int32) ≤ v4 then f_X9_rows_86 fu fu σ v0 v2 v3 (0 : Int32) else (dr_ σ 11 (sr_ σ v0 31)).bind fun b2 => (dr_ σ 10 (sr_ σ v0 10)).bind fun b3 => (ix_ (((3 : Int32) * v1) + (1 : Int32)) (ln_ σ b3)).bind fun j4 => if v4 = (si_ σ b3 j4) then (ix_ v4 (ln_ σ b2)).bind fun j7 => (f_X9_rows_43 fu n) (ul_ σ b2 j7 (1 : Int64)) v0 v1 v2 v3 (v4 + (1 : Int32)) else (ix_ v4 (ln_ σ b2)).bind fun j6 => (f_X9_rows_43 fu n) (ul_ σ b2 j6 (0 : Int64)) v0 v1 v2 v3 (v4 + (1 : Int32))
set_option maxHeartbeats 4000000 in
set_option maxRecDepth 100000 in
theorem w_X9_rows_43 {p : Program} {l : Launch} {e : Env} {R : Room} {s : State} {m : MethodId} {args : Array Value} {below : List Frame} {meth : Method} {c : Code} {κ : Ka_} {G : va_G} {cy : Nat → ClassId} {ad : Nat → Nat} {sz : Nat} {σ0 : St_} (fu : Nat) (C : CallFix p m c cX9_rows 6 s args wU_ RX9) (K : Kx_ κ G cy (va_A (wl_ cy ad σ0) sz) s) (hr : meth.sig.returnType = some .long) (hlk : meth.locks = false) (hR : 46 ≤ R.frames ∧ 1030 ≤ R.locals) {q : Int64 × St_} : ∀ n : Nat, ∀ (σ : St_) (v0 : Nat) (v1 : Int32) (v2 : Int32) (v3 : Int32) (v4 : Int32), Ex_ σ0 σ → kd_ σ v0 = 9 → f_X9_rows_43 fu n σ v0 v1 v2 v3 v4 = some q → ∀ (H : Heap) (locs : List Loc) (ls : Array Slot), Ht_ G cy (va_A (wl_ cy ad σ0) sz) s ad σ H locs → lv_has ls 6 [(0, .ref (ad v0)), (1, .int v1), (2, .int v2), (3, .int v3), (4, .int v4)] → W p l e R s m args below meth c H locs 0 0 (MQ below (Ql_ G cy ad σ0 q.2 sz q.1) args s 0 0 (va_A (wl_ cy ad σ0) sz)) (F0 m 43 ls []) := by
  intro n
  induction n with
  | zero =>
    intro σ v0 v1 v2 v3 v4 hE hk_v0 hf H locs ls h hl
    cases hf
  | succ n ih =>
    intro σ v0 v1 v2 v3 v4 hE hk_v0 hf H locs ls h hl
    have hf : (if (36 : Int32) ≤ v4 then f_X9_rows_86 fu fu σ v0 v2 v3 (0 : Int32) else (dr_ σ 11 (sr_ σ v0 31)).bind fun b2 => (dr_ σ 10 (sr_ σ v0 10)).bind fun b3 => (ix_ (((3 : Int32) * v1) + (1 : Int32)) (ln_ σ b3)).bind fun j4 => if v4 = (si_ σ b3 j4) then (ix_ v4 (ln_ σ b2)).bind fun j7 => (f_X9_rows_43 fu n) (ul_ σ b2 j7 (1 : Int64)) v0 v1 v2 v3 (v4 + (1 : Int32)) else (ix_ v4 (ln_ σ b2)).bind fun j6 => (f_X9_rows_43 fu n) (ul_ σ b2 j6 (0 : Int64)) v0 v1 v2 v3 (v4 + (1 : Int32))) = some q := hf
    refine lv_iload C.1 C.2.1 dX9_rows_43 (lv_at hl 4 rfl) ?_
    refine lv_bipush (v := (36 : Int32)) C.1 C.2.1 dX9_rows_45 (by decide) ?_
    refine lv_icmp_ge (tgt := 83) C.1 C.2.1 dX9_rows_47 (by decide) (fun c1 => ?_) (fun c1 => ?_)
    · have hf := if_t hf c1
      refine lv_iconst (v := (0 : Int32)) C.1 C.2.1 dX9_rows_83 (by decide) ?_
      refine lv_istore (i := 4) (lv' := [(4, .int (0 : Int32)), (0, .ref (ad v0)), (1, .int v1), (2, .int v2), (3, .int v3)]) C.1 C.2.1 dX9_rows_84 hl (by decide) rfl (fun ls hl => ?_)
      exact w_X9_rows_86 fu C K hr hlk hR fu σ v0 v2 v3 (0 : Int32) hE hk_v0 hf _ _ _ h (lv_sub hl [1, 3, 4, 0] rfl)
    · have hf := if_f hf c1
      refine lv_aload_n C.1 C.2.1 dX9_rows_50 rfl (lv_at hl 0 rfl) ?_
      obtain ⟨b2, hb_b2, hf⟩ := ob_ hf
      obtain ⟨hq_b2, hk_b2⟩ := dr_in hb_b2
      refine x_get (v := .ref (ad b2)) C K h cl_9 hk_v0 31 (by decide) fl_RX9_44 (hv_r (o := sr_ σ v0 31) rfl hq_b2) dX9_rows_51 ?_
      refine lv_iload C.1 C.2.1 dX9_rows_54 (lv_at hl 4 rfl) ?_
      refine lv_iload C.1 C.2.1 dX9_rows_56 (lv_at hl 4 rfl) ?_
      refine lv_aload_n C.1 C.2.1 dX9_rows_58 rfl (lv_at hl 0 rfl) ?_
      obtain ⟨b3, hb_b3, hf⟩ := ob_ hf
      obtain ⟨hq_b3, hk_b3⟩ := dr_in hb_b3
      refine x_get (v := .ref (ad b3)) C K h cl_9 hk_v0 10 (by decide) fl_RX9_29 (hv_r (o := sr_ σ v0 10) rfl hq_b3) dX9_rows_59 ?_
      refine lv_iconst (v := (3 : Int32)) C.1 C.2.1 dX9_rows_62 (by decide) ?_
      refine lv_iload_n C.1 C.2.1 dX9_rows_63 rfl (lv_at hl 1 rfl) ?_
      refine lv_imul C.1 C.2.1 dX9_rows_64 ?_
      refine lv_iconst (v := (1 : Int32)) C.1 C.2.1 dX9_rows_65 (by decide) ?_
      refine lv_iadd C.1 C.2.1 dX9_rows_66 ?_
      obtain ⟨j4, hj_j4, hf⟩ := ob_ hf
      refine x_iald C K h hk_b3 hj_j4 dX9_rows_67 ?_
      refine lv_icmp_ne (tgt := 75) C.1 C.2.1 dX9_rows_68 (by decide) (fun c5 => ?_) (fun c5 => ?_)
      · have hf := if_f hf c5
        refine lv_lconst (v := (0 : Int64)) C.1 C.2.1 dX9_rows_75 (by decide) ?_
        obtain ⟨j6, hj_j6, hf⟩ := ob_ hf
        refine x_last C K h hk_b2 hj_j6 dX9_rows_76 (fun H locs h => ?_)
        have hE := hE.up (up_l σ b2 j6 (0 : Int64))
        refine lv_iinc (v := v4 + (1 : Int32)) (lv' := [(4, .int (v4 + (1 : Int32))), (0, .ref (ad v0)), (1, .int v1), (2, .int v2), (3, .int v3)]) C.1 C.2.1 dX9_rows_77 hl (k := 4) rfl rfl (by decide) rfl (fun ls hl => ?_)
        refine lv_goto (tgt := 43) C.1 C.2.1 dX9_rows_80 (by decide) ?_
        exact ih (ul_ σ b2 j6 (0 : Int64)) v0 v1 v2 v3 (v4 + (1 : Int32)) hE hk_v0 hf _ _ _ h (lv_sub hl [1, 2, 3, 4, 0] rfl)
      · have hf := if_t hf c5
        refine lv_lconst (v := (1 : Int64)) C.1 C.2.1 dX9_rows_71 (by decide) ?_
        refine lv_goto (tgt := 76) C.1 C.2.1 dX9_rows_72 (by decide) ?_
        obtain ⟨j7, hj_j7, hf⟩ := ob_ hf
        refine x_last C K h hk_b2 hj_j7 dX9_rows_76 (fun H locs h => ?_)
        have hE := hE.up (up_l σ b2 j7 (1 : Int64))
        refine lv_iinc (v := v4 + (1 : Int32)) (lv' := [(4, .int (v4 + (1 : Int32))), (0, .ref (ad v0)), (1, .int v1), (2, .int v2), (3, .int v3)]) C.1 C.2.1 dX9_rows_77 hl (k := 4) rfl rfl (by decide) rfl (fun ls hl => ?_)
        refine lv_goto (tgt := 43) C.1 C.2.1 dX9_rows_80 (by decide) ?_
        exact ih (ul_ σ b2 j7 (1 : Int64)) v0 v1 v2 v3 (v4 + (1 : Int32)) hE hk_v0 hf _ _ _ h (lv_sub hl [1, 2, 3, 4, 0] rfl)
def f_X9_rows (fu : Nat) (σ : St_) (a0 : Nat) (x1 : Int32) (x2 : Int32) (x3 : Int32) : Option (Int64 × St_) := if (f_X9_isOne σ a0 x1) = 0 then some ((-4611686018427387904 : Int64), σ) else if (f_X9_isCell x2) = 0 then some ((-4611686018427387904 : Int64), σ) else if (f_X9_in x3.toInt64 (0 : Int64) (20 : Int64)) = 0 then some ((-4611686018427387904 : Int64), σ) else (dr_ σ 10 (sr_ σ a0 27)).bind fun b13 => (f_X9_tables fu σ a0 x1 b13).bind fun q14 => f_X9_rows_43 fu fu q14 a0 x1 x2 x3 (0 : Int32)
set_option maxHeartbeats 4000000 in
set_option maxRecDepth 100000 in
theorem w_X9_rows {p : Program} {l : Launch} {e : Env} {R : Room} {s : State} {m : MethodId} {args : Array Value} {below : List Frame} {meth : Method} {c : Code} {κ : Ka_} {G : va_G} {cy : Nat → ClassId} {ad : Nat → Nat} {sz : Nat} {σ0 : St_} (fu : Nat) (C : CallFix p m c cX9_rows 6 s args wU_ RX9) (K : Kx_ κ G cy (va_A (wl_ cy ad σ0) sz) s) (hr : meth.sig.returnType = some .long) (hlk : meth.locks = false) (hR : 46 ≤ R.frames ∧ 1030 ≤ R.locals) {q : Int64 × St_} : ∀ (σ : St_) (a0 : Nat) (x1 : Int32) (x2 : Int32) (x3 : Int32), Ex_ σ0 σ → kd_ σ a0 = 9 → f_X9_rows fu σ a0 x1 x2 x3 = some q → ∀ (H : Heap) (locs : List Loc) (ls : Array Slot), Ht_ G cy (va_A (wl_ cy ad σ0) sz) s ad σ H locs → lv_has ls 6 [(0, .ref (ad a0)), (1, .int x1), (2, .int x2), (3, .int x3)] → W p l e R s m args below meth c H locs 0 0 (MQ below (Ql_ G cy ad σ0 q.2 sz q.1) args s 0 0 (va_A (wl_ cy ad σ0) sz)) (F0 m 0 ls []) := by
  intro σ a0 x1 x2 x3 hE hk_a0 hf H locs ls h hl
  have hf : (if (f_X9_isOne σ a0 x1) = 0 then some ((-4611686018427387904 : Int64), σ) else if (f_X9_isCell x2) = 0 then some ((-4611686018427387904 : Int64), σ) else if (f_X9_in x3.toInt64 (0 : Int64) (20 : Int64)) = 0 then some ((-4611686018427387904 : Int64), σ) else (dr_ σ 10 (sr_ σ a0 27)).bind fun b13 => (f_X9_tables fu σ a0 x1 b13).bind fun q14 => f_X9_rows_43 fu fu q14 a0 x1 x2 x3 (0 : Int32)) = some q := hf
  refine lv_aload_n C.1 C.2.1 dX9_rows_0 rfl (lv_at hl 0 rfl) ?_
  refine lv_iload_n C.1 C.2.1 dX9_rows_1 rfl (lv_at hl 1 rfl) ?_
  refine x_az K h (x_V C K h [.int x1] (c_X9_isOne l κ G cy ad H.size σ a0 x1 hk_a0 rfl) mi_X9_isOne rfl im_yX9_isOne se_yX9_isOne ml_RX9_95 cl_9 hk_a0 ⟨rfl, rfl, Nat.le_trans (Nat.le_of_ble_eq_true rfl) hR.1, Nat.le_trans (Nat.le_of_ble_eq_true rfl) hR.2⟩ hl (Nat.le_of_ble_eq_true rfl) dX9_rows_2 ⟨Nat.zero_le _, Nat.zero_le _⟩ rfl) (fun H locs h hX hz5 => ?_)
  refine lv_if_eq (tgt := 27) C.1 C.2.1 dX9_rows_5 (by decide) (fun c6 => ?_) (fun c6 => ?_)
  · have hf := if_t hf c6
    refine lv_ldc2 (v := (-4611686018427387904 : Int64)) C.1 C.2.1 C.2.2.2.1 (C.2.2.2.2 _ cl_RX9_378) dX9_rows_27 ?_
    exact x_rl C hr hlk h hE (pf_1 (Option.some.inj hf)) (pf_2 (Option.some.inj hf)) dX9_rows_30
  · have hf := if_f hf c6
    refine lv_iload_n C.1 C.2.1 dX9_rows_8 rfl (lv_at hl 2 rfl) ?_
    refine x_az K h (x_S C K h [.int x2] (c_X9_isCell l κ G cy ad H.size σ x2 rfl) mi_X9_isCell rfl st_yX9_isCell ml_RX9_91 ⟨rfl, rfl, Nat.le_trans (Nat.le_of_ble_eq_true rfl) hR.1, Nat.le_trans (Nat.le_of_ble_eq_true rfl) hR.2⟩ hl (Nat.le_of_ble_eq_true rfl) dX9_rows_9 ⟨Nat.zero_le _, Nat.zero_le _⟩ rfl) (fun H locs h hX hz8 => ?_)
    refine lv_if_eq (tgt := 27) C.1 C.2.1 dX9_rows_12 (by decide) (fun c9 => ?_) (fun c9 => ?_)
    · have hf := if_t hf c9
      refine lv_ldc2 (v := (-4611686018427387904 : Int64)) C.1 C.2.1 C.2.2.2.1 (C.2.2.2.2 _ cl_RX9_378) dX9_rows_27 ?_
      exact x_rl C hr hlk h hE (pf_1 (Option.some.inj hf)) (pf_2 (Option.some.inj hf)) dX9_rows_30
    · have hf := if_f hf c9
      refine lv_iload_n C.1 C.2.1 dX9_rows_15 rfl (lv_at hl 3 rfl) ?_
      refine lv_i2l C.1 C.2.1 dX9_rows_16 rfl ?_
      refine lv_lconst (v := (0 : Int64)) C.1 C.2.1 dX9_rows_17 (by decide) ?_
      refine lv_ldc2 (v := (20 : Int64)) C.1 C.2.1 C.2.2.2.1 (C.2.2.2.2 _ cl_RX9_394) dX9_rows_18 ?_
      refine x_az K h (x_S C K h [.long x3.toInt64, .long (0 : Int64), .long (20 : Int64)] (c_X9_in l κ G cy ad H.size σ x3.toInt64 (0 : Int64) (20 : Int64) rfl) mi_X9_in rfl st_yX9_in ml_RX9_83 ⟨rfl, rfl, Nat.le_trans (Nat.le_of_ble_eq_true rfl) hR.1, Nat.le_trans (Nat.le_of_ble_eq_true rfl) hR.2⟩ hl (Nat.le_of_ble_eq_true rfl) dX9_rows_21 ⟨Nat.zero_le _, Nat.zero_le _⟩ rfl) (fun H locs h hX hz11 => ?_)
      refine lv_if_ne (tgt := 31) C.1 C.2.1 dX9_rows_24 (by decide) (fun c12 => ?_) (fun c12 => ?_)
      · have hf := if_f hf c12
        refine lv_aload_n C.1 C.2.1 dX9_rows_31 rfl (lv_at hl 0 rfl) ?_
        refine lv_iload_n C.1 C.2.1 dX9_rows_32 rfl (lv_at hl 1 rfl) ?_
        refine lv_aload_n C.1 C.2.1 dX9_rows_33 rfl (lv_at hl 0 rfl) ?_
        obtain ⟨b13, hb_b13, hf⟩ := ob_ hf
        obtain ⟨hq_b13, hk_b13⟩ := dr_in hb_b13
        refine x_get (v := .ref (ad b13)) C K h cl_9 hk_a0 27 (by decide) fl_RX9_32 (hv_r (o := sr_ σ a0 27) rfl hq_b13) dX9_rows_34 ?_
        obtain ⟨q14, hq_q14, hf⟩ := ob_ hf
        refine x_av K h (x_V C K h [.int x1, .ref (ad b13)] (c_X9_tables fu l κ G cy ad H.size σ a0 x1 b13 hk_a0 hk_b13 hq_q14) mi_X9_tables rfl im_yX9_tables se_yX9_tables ml_RX9_370 cl_9 hk_a0 ⟨rfl, rfl, Nat.le_trans (Nat.le_of_ble_eq_true rfl) hR.1, Nat.le_trans (Nat.le_of_ble_eq_true rfl) hR.2⟩ hl (Nat.le_of_ble_eq_true rfl) dX9_rows_37 ⟨Nat.zero_le _, Nat.zero_le _⟩ rfl) (fun H locs h hX => ?_)
        have hE := hE.trans hX
        have hk_a0 := hX.k hk_a0 (by decide)
        refine lv_iconst (v := (0 : Int32)) C.1 C.2.1 dX9_rows_40 (by decide) ?_
        refine lv_istore (i := 4) (lv' := [(4, .int (0 : Int32)), (0, .ref (ad a0)), (1, .int x1), (2, .int x2), (3, .int x3)]) C.1 C.2.1 dX9_rows_41 hl (by decide) rfl (fun ls hl => ?_)
        exact w_X9_rows_43 fu C K hr hlk hR fu q14 a0 x1 x2 x3 (0 : Int32) hE hk_a0 hf _ _ _ h (lv_sub hl [1, 2, 3, 4, 0] rfl)
      · have hf := if_t hf c12
        refine lv_ldc2 (v := (-4611686018427387904 : Int64)) C.1 C.2.1 C.2.2.2.1 (C.2.2.2.2 _ cl_RX9_378) dX9_rows_27 ?_
        exact x_rl C hr hlk h hE (pf_1 (Option.some.inj hf)) (pf_2 (Option.some.inj hf)) dX9_rows_30
theorem c_X9_rows (fu : Nat) (l : Launch) (κ : Ka_) (G : va_G) (cy : Nat → ClassId) (ad : Nat → Nat) (sz : Nat) (σ : St_) (a0 : Nat) (x1 : Int32) (x2 : Int32) (x3 : Int32) (hk_a0 : kd_ σ a0 = 9) {q : Int64 × St_} (hf : f_X9_rows fu σ a0 x1 x2 x3 = some q) : Met l yX9_rows (Cond.code yX9_rows cX9_rows 6 (some .long) :: wU_) { frames := 46, cells := 0, slots := 0, locals := 1030 } (va_Pc [.ref (ad a0), .int x1, .int x2, .int x3] (Pr_ κ G cy ad σ sz)) (Ql_ G cy ad σ q.2 sz q.1) 0 0 (va_A (wl_ cy ad σ) sz) :=
  x_met (by decide) (fun p e R s m below meth c ls hR C hr hlk hin _ K h hl => w_X9_rows fu C K hr hlk ⟨hR.1, hR.2.1⟩ σ a0 x1 x2 x3 Ex_.rf hk_a0 hf s.heap [] ls h hl) (Nat.le_of_ble_eq_true rfl)
-- X9_highest
theorem mi_X9_highest : Mi_ yX9_highest cX9_highest 6 (some .int) 1 := ⟨co_yX9_highest, in_RX9, by decide, by decide, by decide +kernel⟩
def f_X9_highest_20 (fu : Nat) : Nat → St_ → Nat → Int32 → Int32 → Int32 → Int32 → Option (Int32 × St_)
  | 0 => fun _ _ _ _ _ _ => none
  | n + 1 => fun σ  v0  v1  v2  v3  v4 => if (si_ σ v0 11) ≤ v4 then if v1 = 0 then some (v2, σ) else some (v3, σ) else (f_X9_highOf fu σ v0 v4).bind fun q3 => if q3.1 ≤ v3 then (f_X9_highest_20 fu n) q3.2 v0 v1 v2 v3 (v4 + (1 : Int32)) else (f_X9_highest_20 fu n) q3.2 v0 v1 v4 q3.1 (v4 + (1 : Int32))
set_option maxHeartbeats 4000000 in
set_option maxRecDepth 100000 in
theorem w_X9_highest_20 {p : Program} {l : Launch} {e : Env} {R : Room} {s : State} {m : MethodId} {args : Array Value} {below : List Frame} {meth : Method} {c : Code} {κ : Ka_} {G : va_G} {cy : Nat → ClassId} {ad : Nat → Nat} {sz : Nat} {σ0 : St_} (fu : Nat) (C : CallFix p m c cX9_highest 6 s args wU_ RX9) (K : Kx_ κ G cy (va_A (wl_ cy ad σ0) sz) s) (hr : meth.sig.returnType = some .int) (hlk : meth.locks = false) (hR : 44 ≤ R.frames ∧ 980 ≤ R.locals) {q : Int32 × St_} : ∀ n : Nat, ∀ (σ : St_) (v0 : Nat) (v1 : Int32) (v2 : Int32) (v3 : Int32) (v4 : Int32), Ex_ σ0 σ → kd_ σ v0 = 9 → f_X9_highest_20 fu n σ v0 v1 v2 v3 v4 = some q → ∀ (H : Heap) (locs : List Loc) (ls : Array Slot), Ht_ G cy (va_A (wl_ cy ad σ0) sz) s ad σ H locs → lv_has ls 6 [(0, .ref (ad v0)), (1, .int v1), (2, .int v2), (3, .int v3), (4, .int v4)] → W p l e R s m args below meth c H locs 0 0 (MQ below (Qi_ G cy ad σ0 q.2 sz q.1) args s 0 0 (va_A (wl_ cy ad σ0) sz)) (F0 m 20 ls []) := by
  intro n
  induction n with
  | zero =>
    intro σ v0 v1 v2 v3 v4 hE hk_v0 hf H locs ls h hl
    cases hf
  | succ n ih =>
    intro σ v0 v1 v2 v3 v4 hE hk_v0 hf H locs ls h hl
    have hf : (if (si_ σ v0 11) ≤ v4 then if v1 = 0 then some (v2, σ) else some (v3, σ) else (f_X9_highOf fu σ v0 v4).bind fun q3 => if q3.1 ≤ v3 then (f_X9_highest_20 fu n) q3.2 v0 v1 v2 v3 (v4 + (1 : Int32)) else (f_X9_highest_20 fu n) q3.2 v0 v1 v4 q3.1 (v4 + (1 : Int32))) = some q := hf
    refine lv_iload C.1 C.2.1 dX9_highest_20 (lv_at hl 4 rfl) ?_
    refine lv_aload_n C.1 C.2.1 dX9_highest_22 rfl (lv_at hl 0 rfl) ?_
    refine x_get (v := .int (si_ σ v0 11)) C K h cl_9 hk_v0 11 (by decide) fl_RX9_80 rfl dX9_highest_23 ?_
    refine lv_icmp_ge (tgt := 55) C.1 C.2.1 dX9_highest_26 (by decide) (fun c1 => ?_) (fun c1 => ?_)
    · have hf := if_t hf c1
      refine lv_iload_n C.1 C.2.1 dX9_highest_55 rfl (lv_at hl 1 rfl) ?_
      refine lv_if_ne (tgt := 63) C.1 C.2.1 dX9_highest_56 (by decide) (fun c2 => ?_) (fun c2 => ?_)
      · have hf := if_f hf c2
        refine lv_iload_n C.1 C.2.1 dX9_highest_63 rfl (lv_at hl 3 rfl) ?_
        exact x_ri C hr hlk h hE (pf_1 (Option.some.inj hf)) (pf_2 (Option.some.inj hf)) dX9_highest_64
      · have hf := if_t hf c2
        refine lv_iload_n C.1 C.2.1 dX9_highest_59 rfl (lv_at hl 2 rfl) ?_
        refine lv_goto (tgt := 64) C.1 C.2.1 dX9_highest_60 (by decide) ?_
        exact x_ri C hr hlk h hE (pf_1 (Option.some.inj hf)) (pf_2 (Option.some.inj hf)) dX9_highest_64
    · have hf := if_f hf c1
      refine lv_aload_n C.1 C.2.1 dX9_highest_29 rfl (lv_at hl 0 rfl) ?_
      refine lv_iload C.1 C.2.1 dX9_highest_30 (lv_at hl 4 rfl) ?_
      obtain ⟨q3, hq_q3, hf⟩ := ob_ hf
      refine x_ai K h (x_V C K h [.int v4] (c_X9_highOf fu l κ G cy ad H.size σ v0 v4 hk_v0 hq_q3) mi_X9_highOf rfl im_yX9_highOf se_yX9_highOf ml_RX9_136 cl_9 hk_v0 ⟨rfl, rfl, Nat.le_trans (Nat.le_of_ble_eq_true rfl) hR.1, Nat.le_trans (Nat.le_of_ble_eq_true rfl) hR.2⟩ hl (Nat.le_of_ble_eq_true rfl) dX9_highest_32 ⟨Nat.zero_le _, Nat.zero_le _⟩ rfl) (fun H locs h hX => ?_)
      have hE := hE.trans hX
      have hk_v0 := hX.k hk_v0 (by decide)
      refine lv_istore (i := 5) (lv' := [(5, .int q3.1), (0, .ref (ad v0)), (1, .int v1), (2, .int v2), (3, .int v3), (4, .int v4)]) C.1 C.2.1 dX9_highest_35 hl (by decide) rfl (fun ls hl => ?_)
      refine lv_iload C.1 C.2.1 dX9_highest_37 (lv_at hl 0 rfl) ?_
      refine lv_iload_n C.1 C.2.1 dX9_highest_39 rfl (lv_at hl 4 rfl) ?_
      refine lv_icmp_le (tgt := 49) C.1 C.2.1 dX9_highest_40 (by decide) (fun c4 => ?_) (fun c4 => ?_)
      · have hf := if_t hf c4
        refine lv_iinc (v := v4 + (1 : Int32)) (lv' := [(4, .int (v4 + (1 : Int32))), (5, .int q3.1), (0, .ref (ad v0)), (1, .int v1), (2, .int v2), (3, .int v3)]) C.1 C.2.1 dX9_highest_49 hl (k := 5) rfl rfl (by decide) rfl (fun ls hl => ?_)
        refine lv_goto (tgt := 20) C.1 C.2.1 dX9_highest_52 (by decide) ?_
        exact ih q3.2 v0 v1 v2 v3 (v4 + (1 : Int32)) hE hk_v0 hf _ _ _ h (lv_sub hl [2, 3, 4, 5, 0] rfl)
      · have hf := if_f hf c4
        refine lv_iload C.1 C.2.1 dX9_highest_43 (lv_at hl 5 rfl) ?_
        refine lv_istore_n (i := 2) (lv' := [(2, .int v4), (5, .int q3.1), (0, .ref (ad v0)), (1, .int v1), (3, .int v3), (4, .int v4)]) C.1 C.2.1 dX9_highest_45 rfl hl (by decide) rfl (fun ls hl => ?_)
        refine lv_iload C.1 C.2.1 dX9_highest_46 (lv_at hl 1 rfl) ?_
        refine lv_istore_n (i := 3) (lv' := [(3, .int q3.1), (2, .int v4), (5, .int q3.1), (0, .ref (ad v0)), (1, .int v1), (4, .int v4)]) C.1 C.2.1 dX9_highest_48 rfl hl (by decide) rfl (fun ls hl => ?_)
        refine lv_iinc (v := v4 + (1 : Int32)) (lv' := [(4, .int (v4 + (1 : Int32))), (3, .int q3.1), (2, .int v4), (5, .int q3.1), (0, .ref (ad v0)), (1, .int v1)]) C.1 C.2.1 dX9_highest_49 hl (k := 5) rfl rfl (by decide) rfl (fun ls hl => ?_)
        refine lv_goto (tgt := 20) C.1 C.2.1 dX9_highest_52 (by decide) ?_
        exact ih q3.2 v0 v1 v4 q3.1 (v4 + (1 : Int32)) hE hk_v0 hf _ _ _ h (lv_sub hl [4, 5, 2, 1, 0] rfl)
def f_X9_highest (fu : Nat) (σ : St_) (a0 : Nat) (x1 : Int32) : Option (Int32 × St_) := if (f_X9_in x1.toInt64 (0 : Int64) (1 : Int64)) = 0 then some ((-2 : Int32), σ) else f_X9_highest_20 fu fu σ a0 x1 (-1 : Int32) (-1 : Int32) (0 : Int32)
set_option maxHeartbeats 4000000 in
set_option maxRecDepth 100000 in
theorem w_X9_highest {p : Program} {l : Launch} {e : Env} {R : Room} {s : State} {m : MethodId} {args : Array Value} {below : List Frame} {meth : Method} {c : Code} {κ : Ka_} {G : va_G} {cy : Nat → ClassId} {ad : Nat → Nat} {sz : Nat} {σ0 : St_} (fu : Nat) (C : CallFix p m c cX9_highest 6 s args wU_ RX9) (K : Kx_ κ G cy (va_A (wl_ cy ad σ0) sz) s) (hr : meth.sig.returnType = some .int) (hlk : meth.locks = false) (hR : 44 ≤ R.frames ∧ 980 ≤ R.locals) {q : Int32 × St_} : ∀ (σ : St_) (a0 : Nat) (x1 : Int32), Ex_ σ0 σ → kd_ σ a0 = 9 → f_X9_highest fu σ a0 x1 = some q → ∀ (H : Heap) (locs : List Loc) (ls : Array Slot), Ht_ G cy (va_A (wl_ cy ad σ0) sz) s ad σ H locs → lv_has ls 6 [(0, .ref (ad a0)), (1, .int x1)] → W p l e R s m args below meth c H locs 0 0 (MQ below (Qi_ G cy ad σ0 q.2 sz q.1) args s 0 0 (va_A (wl_ cy ad σ0) sz)) (F0 m 0 ls []) := by
  intro σ a0 x1 hE hk_a0 hf H locs ls h hl
  have hf : (if (f_X9_in x1.toInt64 (0 : Int64) (1 : Int64)) = 0 then some ((-2 : Int32), σ) else f_X9_highest_20 fu fu σ a0 x1 (-1 : Int32) (-1 : Int32) (0 : Int32)) = some q := hf
  refine lv_iload_n C.1 C.2.1 dX9_highest_0 rfl (lv_at hl 1 rfl) ?_
  refine lv_i2l C.1 C.2.1 dX9_highest_1 rfl ?_
  refine lv_lconst (v := (0 : Int64)) C.1 C.2.1 dX9_highest_2 (by decide) ?_
  refine lv_lconst (v := (1 : Int64)) C.1 C.2.1 dX9_highest_3 (by decide) ?_
  refine x_az K h (x_S C K h [.long x1.toInt64, .long (0 : Int64), .long (1 : Int64)] (c_X9_in l κ G cy ad H.size σ x1.toInt64 (0 : Int64) (1 : Int64) rfl) mi_X9_in rfl st_yX9_in ml_RX9_83 ⟨rfl, rfl, Nat.le_trans (Nat.le_of_ble_eq_true rfl) hR.1, Nat.le_trans (Nat.le_of_ble_eq_true rfl) hR.2⟩ hl (Nat.le_of_ble_eq_true rfl) dX9_highest_4 ⟨Nat.zero_le _, Nat.zero_le _⟩ rfl) (fun H locs h hX hz3 => ?_)
  refine lv_if_ne (tgt := 13) C.1 C.2.1 dX9_highest_7 (by decide) (fun c4 => ?_) (fun c4 => ?_)
  · have hf := if_f hf c4
    refine lv_iconst (v := (-1 : Int32)) C.1 C.2.1 dX9_highest_13 (by decide) ?_
    refine lv_istore_n (i := 2) (lv' := [(2, .int (-1 : Int32)), (0, .ref (ad a0)), (1, .int x1)]) C.1 C.2.1 dX9_highest_14 rfl hl (by decide) rfl (fun ls hl => ?_)
    refine lv_iconst (v := (-1 : Int32)) C.1 C.2.1 dX9_highest_15 (by decide) ?_
    refine lv_istore_n (i := 3) (lv' := [(3, .int (-1 : Int32)), (2, .int (-1 : Int32)), (0, .ref (ad a0)), (1, .int x1)]) C.1 C.2.1 dX9_highest_16 rfl hl (by decide) rfl (fun ls hl => ?_)
    refine lv_iconst (v := (0 : Int32)) C.1 C.2.1 dX9_highest_17 (by decide) ?_
    refine lv_istore (i := 4) (lv' := [(4, .int (0 : Int32)), (3, .int (-1 : Int32)), (2, .int (-1 : Int32)), (0, .ref (ad a0)), (1, .int x1)]) C.1 C.2.1 dX9_highest_18 hl (by decide) rfl (fun ls hl => ?_)
    exact w_X9_highest_20 fu C K hr hlk hR fu σ a0 x1 (-1 : Int32) (-1 : Int32) (0 : Int32) hE hk_a0 hf _ _ _ h (lv_sub hl [3, 4, 2, 1, 0] rfl)
  · have hf := if_t hf c4
    refine lv_bipush (v := (-2 : Int32)) C.1 C.2.1 dX9_highest_10 (by decide) ?_
    exact x_ri C hr hlk h hE (pf_1 (Option.some.inj hf)) (pf_2 (Option.some.inj hf)) dX9_highest_12
theorem c_X9_highest (fu : Nat) (l : Launch) (κ : Ka_) (G : va_G) (cy : Nat → ClassId) (ad : Nat → Nat) (sz : Nat) (σ : St_) (a0 : Nat) (x1 : Int32) (hk_a0 : kd_ σ a0 = 9) {q : Int32 × St_} (hf : f_X9_highest fu σ a0 x1 = some q) : Met l yX9_highest (Cond.code yX9_highest cX9_highest 6 (some .int) :: wU_) { frames := 44, cells := 0, slots := 0, locals := 980 } (va_Pc [.ref (ad a0), .int x1] (Pr_ κ G cy ad σ sz)) (Qi_ G cy ad σ q.2 sz q.1) 0 0 (va_A (wl_ cy ad σ) sz) :=
  x_met (by decide) (fun p e R s m below meth c ls hR C hr hlk hin _ K h hl => w_X9_highest fu C K hr hlk ⟨hR.1, hR.2.1⟩ σ a0 x1 Ex_.rf hk_a0 hf s.heap [] ls h hl) (Nat.le_of_ble_eq_true rfl)
-- X9_toldBad
theorem mi_X9_toldBad : Mi_ yX9_toldBad cX9_toldBad 5 (some .int) 3 := ⟨co_yX9_toldBad, in_RX9, by decide, by decide, by decide +kernel⟩
def f_X9_toldBad_51 (fu : Nat) (σ : St_) : Nat → Nat → Int32 → Int32 → Option Int32
  | 0 => fun _ _ _ => none
  | n + 1 => fun v0  v1  v4 => (dr_ σ 10 (sr_ σ v0 40)).bind fun b1 => (ix_ v1 (ln_ σ b1)).bind fun j2 => if (si_ σ b1 j2) ≤ v4 then some (0 : Int32) else (dr_ σ 10 (sr_ σ v0 41)).bind fun b4 => (ix_ (((40 : Int32) * v1) + v4) (ln_ σ b4)).bind fun j5 => if (f_X9_isCell (si_ σ b4 j5)) = 0 then some (-2 : Int32) else (f_X9_toldBad_51 fu σ n) v0 v1 (v4 + (1 : Int32))
set_option maxHeartbeats 4000000 in
set_option maxRecDepth 100000 in
theorem w_X9_toldBad_51 {p : Program} {l : Launch} {e : Env} {R : Room} {s : State} {m : MethodId} {args : Array Value} {below : List Frame} {meth : Method} {c : Code} {κ : Ka_} {G : va_G} {cy : Nat → ClassId} {ad : Nat → Nat} {sz : Nat} {σ : St_} (fu : Nat) (C : CallFix p m c cX9_toldBad 5 s args wU_ RX9) (K : Kx_ κ G cy (va_A (wl_ cy ad σ) sz) s) (hr : meth.sig.returnType = some .int) (hlk : meth.locks = false) (hR : 2 ≤ R.frames ∧ 46 ≤ R.locals) {q : Int32} : ∀ n : Nat, ∀ (v0 : Nat) (v1 : Int32) (v4 : Int32), kd_ σ v0 = 9 → f_X9_toldBad_51 fu σ n v0 v1 v4 = some q → ∀ (H : Heap) (locs : List Loc) (ls : Array Slot), Ht_ G cy (va_A (wl_ cy ad σ) sz) s ad σ H locs → lv_has ls 5 [(0, .ref (ad v0)), (1, .int v1), (4, .int v4)] → W p l e R s m args below meth c H locs 0 0 (MQ below (Qi_ G cy ad σ σ sz q) args s 0 0 (va_A (wl_ cy ad σ) sz)) (F0 m 51 ls []) := by
  intro n
  induction n with
  | zero =>
    intro v0 v1 v4 hk_v0 hf H locs ls h hl
    cases hf
  | succ n ih =>
    intro v0 v1 v4 hk_v0 hf H locs ls h hl
    have hf : ((dr_ σ 10 (sr_ σ v0 40)).bind fun b1 => (ix_ v1 (ln_ σ b1)).bind fun j2 => if (si_ σ b1 j2) ≤ v4 then some (0 : Int32) else (dr_ σ 10 (sr_ σ v0 41)).bind fun b4 => (ix_ (((40 : Int32) * v1) + v4) (ln_ σ b4)).bind fun j5 => if (f_X9_isCell (si_ σ b4 j5)) = 0 then some (-2 : Int32) else (f_X9_toldBad_51 fu σ n) v0 v1 (v4 + (1 : Int32))) = some q := hf
    refine lv_iload C.1 C.2.1 dX9_toldBad_51 (lv_at hl 2 rfl) ?_
    refine lv_aload_n C.1 C.2.1 dX9_toldBad_53 rfl (lv_at hl 0 rfl) ?_
    obtain ⟨b1, hb_b1, hf⟩ := ob_ hf
    obtain ⟨hq_b1, hk_b1⟩ := dr_in hb_b1
    refine x_get (v := .ref (ad b1)) C K h cl_9 hk_v0 40 (by decide) fl_RX9_67 (hv_r (o := sr_ σ v0 40) rfl hq_b1) dX9_toldBad_54 ?_
    refine lv_iload_n C.1 C.2.1 dX9_toldBad_57 rfl (lv_at hl 1 rfl) ?_
    obtain ⟨j2, hj_j2, hf⟩ := ob_ hf
    refine x_iald C K h hk_b1 hj_j2 dX9_toldBad_58 ?_
    refine lv_icmp_ge (tgt := 89) C.1 C.2.1 dX9_toldBad_59 (by decide) (fun c3 => ?_) (fun c3 => ?_)
    · have hf := if_t hf c3
      refine lv_iconst (v := (0 : Int32)) C.1 C.2.1 dX9_toldBad_89 (by decide) ?_
      exact x_ri C hr hlk h Ex_.rf (Option.some.inj hf) rfl dX9_toldBad_90
    · have hf := if_f hf c3
      refine lv_aload_n C.1 C.2.1 dX9_toldBad_62 rfl (lv_at hl 0 rfl) ?_
      obtain ⟨b4, hb_b4, hf⟩ := ob_ hf
      obtain ⟨hq_b4, hk_b4⟩ := dr_in hb_b4
      refine x_get (v := .ref (ad b4)) C K h cl_9 hk_v0 41 (by decide) fl_RX9_70 (hv_r (o := sr_ σ v0 41) rfl hq_b4) dX9_toldBad_63 ?_
      refine lv_bipush (v := (40 : Int32)) C.1 C.2.1 dX9_toldBad_66 (by decide) ?_
      refine lv_iload_n C.1 C.2.1 dX9_toldBad_68 rfl (lv_at hl 1 rfl) ?_
      refine lv_imul C.1 C.2.1 dX9_toldBad_69 ?_
      refine lv_iload C.1 C.2.1 dX9_toldBad_70 (lv_at hl 2 rfl) ?_
      refine lv_iadd C.1 C.2.1 dX9_toldBad_72 ?_
      obtain ⟨j5, hj_j5, hf⟩ := ob_ hf
      refine x_iald C K h hk_b4 hj_j5 dX9_toldBad_73 ?_
      refine x_az K h (x_S C K h [.int (si_ σ b4 j5)] (c_X9_isCell l κ G cy ad H.size σ (si_ σ b4 j5) rfl) mi_X9_isCell rfl st_yX9_isCell ml_RX9_91 ⟨rfl, rfl, Nat.le_trans (Nat.le_of_ble_eq_true rfl) hR.1, Nat.le_trans (Nat.le_of_ble_eq_true rfl) hR.2⟩ hl (Nat.le_of_ble_eq_true rfl) dX9_toldBad_74 ⟨Nat.zero_le _, Nat.zero_le _⟩ rfl) (fun H locs h hX hz7 => ?_)
      refine lv_if_ne (tgt := 83) C.1 C.2.1 dX9_toldBad_77 (by decide) (fun c8 => ?_) (fun c8 => ?_)
      · have hf := if_f hf c8
        refine lv_iinc (v := v4 + (1 : Int32)) (lv' := [(4, .int (v4 + (1 : Int32))), (0, .ref (ad v0)), (1, .int v1)]) C.1 C.2.1 dX9_toldBad_83 hl (k := 2) rfl rfl (by decide) rfl (fun ls hl => ?_)
        refine lv_goto (tgt := 51) C.1 C.2.1 dX9_toldBad_86 (by decide) ?_
        exact ih v0 v1 (v4 + (1 : Int32)) hk_v0 hf _ _ _ h (lv_sub hl [1, 2, 0] rfl)
      · have hf := if_t hf c8
        refine lv_bipush (v := (-2 : Int32)) C.1 C.2.1 dX9_toldBad_80 (by decide) ?_
        exact x_ri C hr hlk h Ex_.rf (Option.some.inj hf) rfl dX9_toldBad_82
def f_X9_toldBad (fu : Nat) (σ : St_) (a0 : Nat) (x1 : Int32) (x2 : Int32) (x3 : Int32) : Option Int32 := if (f_X9_isSheet x1) = 0 then some (-2 : Int32) else if (f_X9_isOne σ a0 x2) = 0 then some (-2 : Int32) else if x3 = 0 then some (-2 : Int32) else (dr_ σ 12 (sr_ σ a0 38)).bind fun b11 => (ix_ x1 (ln_ σ b11)).bind fun j12 => if (si_ σ b11 j12) = 0 then some (-11 : Int32) else (dr_ σ 10 (sr_ σ a0 40)).bind fun b14 => (ix_ x1 (ln_ σ b14)).bind fun j15 => if (si_ σ b14 j15) ≤ (20 : Int32) then f_X9_toldBad_51 fu σ fu a0 x1 (0 : Int32) else some (-2 : Int32)
set_option maxHeartbeats 4000000 in
set_option maxRecDepth 100000 in
theorem w_X9_toldBad {p : Program} {l : Launch} {e : Env} {R : Room} {s : State} {m : MethodId} {args : Array Value} {below : List Frame} {meth : Method} {c : Code} {κ : Ka_} {G : va_G} {cy : Nat → ClassId} {ad : Nat → Nat} {sz : Nat} {σ : St_} (fu : Nat) (C : CallFix p m c cX9_toldBad 5 s args wU_ RX9) (K : Kx_ κ G cy (va_A (wl_ cy ad σ) sz) s) (hr : meth.sig.returnType = some .int) (hlk : meth.locks = false) (hR : 2 ≤ R.frames ∧ 46 ≤ R.locals) {q : Int32} : ∀ (a0 : Nat) (x1 : Int32) (x2 : Int32) (x3 : Int32), kd_ σ a0 = 9 → f_X9_toldBad fu σ a0 x1 x2 x3 = some q → ∀ (H : Heap) (locs : List Loc) (ls : Array Slot), Ht_ G cy (va_A (wl_ cy ad σ) sz) s ad σ H locs → lv_has ls 5 [(0, .ref (ad a0)), (1, .int x1), (2, .int x2), (3, .int x3)] → W p l e R s m args below meth c H locs 0 0 (MQ below (Qi_ G cy ad σ σ sz q) args s 0 0 (va_A (wl_ cy ad σ) sz)) (F0 m 0 ls []) := by
  intro a0 x1 x2 x3 hk_a0 hf H locs ls h hl
  have hf : (if (f_X9_isSheet x1) = 0 then some (-2 : Int32) else if (f_X9_isOne σ a0 x2) = 0 then some (-2 : Int32) else if x3 = 0 then some (-2 : Int32) else (dr_ σ 12 (sr_ σ a0 38)).bind fun b11 => (ix_ x1 (ln_ σ b11)).bind fun j12 => if (si_ σ b11 j12) = 0 then some (-11 : Int32) else (dr_ σ 10 (sr_ σ a0 40)).bind fun b14 => (ix_ x1 (ln_ σ b14)).bind fun j15 => if (si_ σ b14 j15) ≤ (20 : Int32) then f_X9_toldBad_51 fu σ fu a0 x1 (0 : Int32) else some (-2 : Int32)) = some q := hf
  refine lv_iload_n C.1 C.2.1 dX9_toldBad_0 rfl (lv_at hl 1 rfl) ?_
  refine x_az K h (x_S C K h [.int x1] (c_X9_isSheet l κ G cy ad H.size σ x1 rfl) mi_X9_isSheet rfl st_yX9_isSheet ml_RX9_366 ⟨rfl, rfl, Nat.le_trans (Nat.le_of_ble_eq_true rfl) hR.1, Nat.le_trans (Nat.le_of_ble_eq_true rfl) hR.2⟩ hl (Nat.le_of_ble_eq_true rfl) dX9_toldBad_1 ⟨Nat.zero_le _, Nat.zero_le _⟩ rfl) (fun H locs h hX hz5 => ?_)
  refine lv_if_eq (tgt := 19) C.1 C.2.1 dX9_toldBad_4 (by decide) (fun c6 => ?_) (fun c6 => ?_)
  · have hf := if_t hf c6
    refine lv_bipush (v := (-2 : Int32)) C.1 C.2.1 dX9_toldBad_19 (by decide) ?_
    exact x_ri C hr hlk h Ex_.rf (Option.some.inj hf) rfl dX9_toldBad_21
  · have hf := if_f hf c6
    refine lv_aload_n C.1 C.2.1 dX9_toldBad_7 rfl (lv_at hl 0 rfl) ?_
    refine lv_iload_n C.1 C.2.1 dX9_toldBad_8 rfl (lv_at hl 2 rfl) ?_
    refine x_az K h (x_V C K h [.int x2] (c_X9_isOne l κ G cy ad H.size σ a0 x2 hk_a0 rfl) mi_X9_isOne rfl im_yX9_isOne se_yX9_isOne ml_RX9_95 cl_9 hk_a0 ⟨rfl, rfl, Nat.le_trans (Nat.le_of_ble_eq_true rfl) hR.1, Nat.le_trans (Nat.le_of_ble_eq_true rfl) hR.2⟩ hl (Nat.le_of_ble_eq_true rfl) dX9_toldBad_9 ⟨Nat.zero_le _, Nat.zero_le _⟩ rfl) (fun H locs h hX hz8 => ?_)
    refine lv_if_eq (tgt := 19) C.1 C.2.1 dX9_toldBad_12 (by decide) (fun c9 => ?_) (fun c9 => ?_)
    · have hf := if_t hf c9
      refine lv_bipush (v := (-2 : Int32)) C.1 C.2.1 dX9_toldBad_19 (by decide) ?_
      exact x_ri C hr hlk h Ex_.rf (Option.some.inj hf) rfl dX9_toldBad_21
    · have hf := if_f hf c9
      refine lv_iload_n C.1 C.2.1 dX9_toldBad_15 rfl (lv_at hl 3 rfl) ?_
      refine lv_if_ne (tgt := 22) C.1 C.2.1 dX9_toldBad_16 (by decide) (fun c10 => ?_) (fun c10 => ?_)
      · have hf := if_f hf c10
        refine lv_aload_n C.1 C.2.1 dX9_toldBad_22 rfl (lv_at hl 0 rfl) ?_
        obtain ⟨b11, hb_b11, hf⟩ := ob_ hf
        obtain ⟨hq_b11, hk_b11⟩ := dr_in hb_b11
        refine x_get (v := .ref (ad b11)) C K h cl_9 hk_a0 38 (by decide) fl_RX9_60 (hv_r (o := sr_ σ a0 38) rfl hq_b11) dX9_toldBad_23 ?_
        refine lv_iload_n C.1 C.2.1 dX9_toldBad_26 rfl (lv_at hl 1 rfl) ?_
        obtain ⟨j12, hj_j12, hf⟩ := ob_ hf
        refine x_zald C K h hk_b11 hj_j12 dX9_toldBad_27 ?_
        refine lv_if_ne (tgt := 34) C.1 C.2.1 dX9_toldBad_28 (by decide) (fun c13 => ?_) (fun c13 => ?_)
        · have hf := if_f hf c13
          refine lv_aload_n C.1 C.2.1 dX9_toldBad_34 rfl (lv_at hl 0 rfl) ?_
          obtain ⟨b14, hb_b14, hf⟩ := ob_ hf
          obtain ⟨hq_b14, hk_b14⟩ := dr_in hb_b14
          refine x_get (v := .ref (ad b14)) C K h cl_9 hk_a0 40 (by decide) fl_RX9_67 (hv_r (o := sr_ σ a0 40) rfl hq_b14) dX9_toldBad_35 ?_
          refine lv_iload_n C.1 C.2.1 dX9_toldBad_38 rfl (lv_at hl 1 rfl) ?_
          obtain ⟨j15, hj_j15, hf⟩ := ob_ hf
          refine x_iald C K h hk_b14 hj_j15 dX9_toldBad_39 ?_
          refine lv_bipush (v := (20 : Int32)) C.1 C.2.1 dX9_toldBad_40 (by decide) ?_
          refine lv_icmp_le (tgt := 48) C.1 C.2.1 dX9_toldBad_42 (by decide) (fun c16 => ?_) (fun c16 => ?_)
          · have hf := if_t hf c16
            refine lv_iconst (v := (0 : Int32)) C.1 C.2.1 dX9_toldBad_48 (by decide) ?_
            refine lv_istore (i := 4) (lv' := [(4, .int (0 : Int32)), (0, .ref (ad a0)), (1, .int x1), (2, .int x2), (3, .int x3)]) C.1 C.2.1 dX9_toldBad_49 hl (by decide) rfl (fun ls hl => ?_)
            exact w_X9_toldBad_51 fu C K hr hlk hR fu a0 x1 (0 : Int32) hk_a0 hf _ _ _ h (lv_sub hl [1, 2, 0] rfl)
          · have hf := if_f hf c16
            refine lv_bipush (v := (-2 : Int32)) C.1 C.2.1 dX9_toldBad_45 (by decide) ?_
            exact x_ri C hr hlk h Ex_.rf (Option.some.inj hf) rfl dX9_toldBad_47
        · have hf := if_t hf c13
          refine lv_bipush (v := (-11 : Int32)) C.1 C.2.1 dX9_toldBad_31 (by decide) ?_
          exact x_ri C hr hlk h Ex_.rf (Option.some.inj hf) rfl dX9_toldBad_33
      · have hf := if_t hf c10
        refine lv_bipush (v := (-2 : Int32)) C.1 C.2.1 dX9_toldBad_19 (by decide) ?_
        exact x_ri C hr hlk h Ex_.rf (Option.some.inj hf) rfl dX9_toldBad_21
theorem c_X9_toldBad (fu : Nat) (l : Launch) (κ : Ka_) (G : va_G) (cy : Nat → ClassId) (ad : Nat → Nat) (sz : Nat) (σ : St_) (a0 : Nat) (x1 : Int32) (x2 : Int32) (x3 : Int32) (hk_a0 : kd_ σ a0 = 9) {q : Int32} (hf : f_X9_toldBad fu σ a0 x1 x2 x3 = some q) : Met l yX9_toldBad (Cond.code yX9_toldBad cX9_toldBad 5 (some .int) :: wU_) { frames := 2, cells := 0, slots := 0, locals := 46 } (va_Pc [.ref (ad a0), .int x1, .int x2, .int x3] (Pr_ κ G cy ad σ sz)) (Qi_ G cy ad σ σ sz q) 0 0 (va_A (wl_ cy ad σ) sz) :=
  x_met (by decide) (fun p e R s m below meth c ls hR C hr hlk hin _ K h hl => w_X9_toldBad fu C K hr hlk ⟨hR.1, hR.2.1⟩ a0 x1 x2 x3 hk_a0 hf s.heap [] ls h hl) (Nat.le_of_ble_eq_true rfl)
-- X9_ahead
theorem mi_X9_ahead : Mi_ yX9_ahead cX9_ahead 4 (some .int) 3 := ⟨co_yX9_ahead, in_RX9, by decide, by decide, by decide +kernel⟩
def f_X9_ahead (σ : St_) (a0 : Nat) (x1 : Int32) (x2 : Int32) (x3 : Int32) : Option Int32 := if x3 = 0 then (dr_ σ 10 (sr_ σ a0 10)).bind fun b7 => (ix_ (((3 : Int32) * x2) + (1 : Int32)) (ln_ σ b7)).bind fun j8 => some (si_ σ b7 j8) else (dr_ σ 10 (sr_ σ a0 41)).bind fun b5 => (ix_ ((((40 : Int32) * x1) + x3) - (1 : Int32)) (ln_ σ b5)).bind fun j6 => some (si_ σ b5 j6)
set_option maxHeartbeats 4000000 in
set_option maxRecDepth 100000 in
theorem w_X9_ahead {p : Program} {l : Launch} {e : Env} {R : Room} {s : State} {m : MethodId} {args : Array Value} {below : List Frame} {meth : Method} {c : Code} {κ : Ka_} {G : va_G} {cy : Nat → ClassId} {ad : Nat → Nat} {sz : Nat} {σ : St_} (C : CallFix p m c cX9_ahead 4 s args wU_ RX9) (K : Kx_ κ G cy (va_A (wl_ cy ad σ) sz) s) (hr : meth.sig.returnType = some .int) (hlk : meth.locks = false) (hR : 0 ≤ R.frames ∧ 0 ≤ R.locals) {q : Int32} : ∀ (a0 : Nat) (x1 : Int32) (x2 : Int32) (x3 : Int32), kd_ σ a0 = 9 → f_X9_ahead σ a0 x1 x2 x3 = some q → ∀ (H : Heap) (locs : List Loc) (ls : Array Slot), Ht_ G cy (va_A (wl_ cy ad σ) sz) s ad σ H locs → lv_has ls 4 [(0, .ref (ad a0)), (1, .int x1), (2, .int x2), (3, .int x3)] → W p l e R s m args below meth c H locs 0 0 (MQ below (Qi_ G cy ad σ σ sz q) args s 0 0 (va_A (wl_ cy ad σ) sz)) (F0 m 0 ls []) := by
  intro a0 x1 x2 x3 hk_a0 hf H locs ls h hl
  have hf : (if x3 = 0 then (dr_ σ 10 (sr_ σ a0 10)).bind fun b7 => (ix_ (((3 : Int32) * x2) + (1 : Int32)) (ln_ σ b7)).bind fun j8 => some (si_ σ b7 j8) else (dr_ σ 10 (sr_ σ a0 41)).bind fun b5 => (ix_ ((((40 : Int32) * x1) + x3) - (1 : Int32)) (ln_ σ b5)).bind fun j6 => some (si_ σ b5 j6)) = some q := hf
  refine lv_iload_n C.1 C.2.1 dX9_ahead_0 rfl (lv_at hl 3 rfl) ?_
  refine lv_if_ne (tgt := 17) C.1 C.2.1 dX9_ahead_1 (by decide) (fun c4 => ?_) (fun c4 => ?_)
  · have hf := if_f hf c4
    refine lv_aload_n C.1 C.2.1 dX9_ahead_17 rfl (lv_at hl 0 rfl) ?_
    obtain ⟨b5, hb_b5, hf⟩ := ob_ hf
    obtain ⟨hq_b5, hk_b5⟩ := dr_in hb_b5
    refine x_get (v := .ref (ad b5)) C K h cl_9 hk_a0 41 (by decide) fl_RX9_70 (hv_r (o := sr_ σ a0 41) rfl hq_b5) dX9_ahead_18 ?_
    refine lv_bipush (v := (40 : Int32)) C.1 C.2.1 dX9_ahead_21 (by decide) ?_
    refine lv_iload_n C.1 C.2.1 dX9_ahead_23 rfl (lv_at hl 1 rfl) ?_
    refine lv_imul C.1 C.2.1 dX9_ahead_24 ?_
    refine lv_iload_n C.1 C.2.1 dX9_ahead_25 rfl (lv_at hl 3 rfl) ?_
    refine lv_iadd C.1 C.2.1 dX9_ahead_26 ?_
    refine lv_iconst (v := (1 : Int32)) C.1 C.2.1 dX9_ahead_27 (by decide) ?_
    refine lv_isub C.1 C.2.1 dX9_ahead_28 ?_
    obtain ⟨j6, hj_j6, hf⟩ := ob_ hf
    refine x_iald C K h hk_b5 hj_j6 dX9_ahead_29 ?_
    exact x_ri C hr hlk h Ex_.rf (Option.some.inj hf) rfl dX9_ahead_30
  · have hf := if_t hf c4
    refine lv_aload_n C.1 C.2.1 dX9_ahead_4 rfl (lv_at hl 0 rfl) ?_
    obtain ⟨b7, hb_b7, hf⟩ := ob_ hf
    obtain ⟨hq_b7, hk_b7⟩ := dr_in hb_b7
    refine x_get (v := .ref (ad b7)) C K h cl_9 hk_a0 10 (by decide) fl_RX9_29 (hv_r (o := sr_ σ a0 10) rfl hq_b7) dX9_ahead_5 ?_
    refine lv_iconst (v := (3 : Int32)) C.1 C.2.1 dX9_ahead_8 (by decide) ?_
    refine lv_iload_n C.1 C.2.1 dX9_ahead_9 rfl (lv_at hl 2 rfl) ?_
    refine lv_imul C.1 C.2.1 dX9_ahead_10 ?_
    refine lv_iconst (v := (1 : Int32)) C.1 C.2.1 dX9_ahead_11 (by decide) ?_
    refine lv_iadd C.1 C.2.1 dX9_ahead_12 ?_
    obtain ⟨j8, hj_j8, hf⟩ := ob_ hf
    refine x_iald C K h hk_b7 hj_j8 dX9_ahead_13 ?_
    refine lv_goto (tgt := 30) C.1 C.2.1 dX9_ahead_14 (by decide) ?_
    exact x_ri C hr hlk h Ex_.rf (Option.some.inj hf) rfl dX9_ahead_30
theorem c_X9_ahead (l : Launch) (κ : Ka_) (G : va_G) (cy : Nat → ClassId) (ad : Nat → Nat) (sz : Nat) (σ : St_) (a0 : Nat) (x1 : Int32) (x2 : Int32) (x3 : Int32) (hk_a0 : kd_ σ a0 = 9) {q : Int32} (hf : f_X9_ahead σ a0 x1 x2 x3 = some q) : Met l yX9_ahead (Cond.code yX9_ahead cX9_ahead 4 (some .int) :: wU_) { frames := 0, cells := 0, slots := 0, locals := 0 } (va_Pc [.ref (ad a0), .int x1, .int x2, .int x3] (Pr_ κ G cy ad σ sz)) (Qi_ G cy ad σ σ sz q) 0 0 (va_A (wl_ cy ad σ) sz) :=
  x_met (by decide) (fun p e R s m below meth c ls hR C hr hlk hin _ K h hl => w_X9_ahead C K hr hlk ⟨hR.1, hR.2.1⟩ a0 x1 x2 x3 hk_a0 hf s.heap [] ls h hl) (Nat.le_of_ble_eq_true rfl)
-- X9_wordsAt
theorem mi_X9_wordsAt : Mi_ yX9_wordsAt cX9_wordsAt 9 (some .int) 4 := ⟨co_yX9_wordsAt, in_RX9, by decide, by decide, by decide +kernel⟩
def f_X9_wordsAt_20 (fu : Nat) : Nat → St_ → Nat → Int32 → Int32 → Int32 → Int32 → Int32 → Int32 → Int32 → Int32 → Option (Int32 × St_)
  | 0 => fun _ _ _ _ _ _ _ _ _ _ => none
  | n + 1 => fun σ  v0  v1  v2  v3  v4  v5  v6  v7  v8 => if v8 < 0 then if v4 = 0 then some (v7, σ) else some (v6, σ) else (f_X9_goesTo fu σ v0 v2 v5 v8).bind fun q3 => (dr_ q3.2 10 (sr_ q3.2 v0 41)).bind fun b4 => (ix_ (((40 : Int32) * v1) + v3) (ln_ q3.2 b4)).bind fun j5 => if q3.1 = (si_ q3.2 b4 j5) then (f_X9_wordsAt_20 fu n) q3.2 v0 v1 v2 v3 v4 v5 (v6 + (1 : Int32)) v8 (v8 + (-1 : Int32)) else (f_X9_wordsAt_20 fu n) q3.2 v0 v1 v2 v3 v4 v5 v6 v7 (v8 + (-1 : Int32))
set_option maxHeartbeats 4000000 in
set_option maxRecDepth 100000 in
theorem w_X9_wordsAt_20 {p : Program} {l : Launch} {e : Env} {R : Room} {s : State} {m : MethodId} {args : Array Value} {below : List Frame} {meth : Method} {c : Code} {κ : Ka_} {G : va_G} {cy : Nat → ClassId} {ad : Nat → Nat} {sz : Nat} {σ0 : St_} (fu : Nat) (C : CallFix p m c cX9_wordsAt 9 s args wU_ RX9) (K : Kx_ κ G cy (va_A (wl_ cy ad σ0) sz) s) (hr : meth.sig.returnType = some .int) (hlk : meth.locks = false) (hR : 45 ≤ R.frames ∧ 1006 ≤ R.locals) {q : Int32 × St_} : ∀ n : Nat, ∀ (σ : St_) (v0 : Nat) (v1 : Int32) (v2 : Int32) (v3 : Int32) (v4 : Int32) (v5 : Int32) (v6 : Int32) (v7 : Int32) (v8 : Int32), Ex_ σ0 σ → kd_ σ v0 = 9 → f_X9_wordsAt_20 fu n σ v0 v1 v2 v3 v4 v5 v6 v7 v8 = some q → ∀ (H : Heap) (locs : List Loc) (ls : Array Slot), Ht_ G cy (va_A (wl_ cy ad σ0) sz) s ad σ H locs → lv_has ls 9 [(0, .ref (ad v0)), (1, .int v1), (2, .int v2), (3, .int v3), (4, .int v4), (5, .int v5), (6, .int v6), (7, .int v7), (8, .int v8)] → W p l e R s m args below meth c H locs 0 0 (MQ below (Qi_ G cy ad σ0 q.2 sz q.1) args s 0 0 (va_A (wl_ cy ad σ0) sz)) (F0 m 20 ls []) := by
  intro n
  induction n with
  | zero =>
    intro σ v0 v1 v2 v3 v4 v5 v6 v7 v8 hE hk_v0 hf H locs ls h hl
    cases hf
  | succ n ih =>
    intro σ v0 v1 v2 v3 v4 v5 v6 v7 v8 hE hk_v0 hf H locs ls h hl
    have hf : (if v8 < 0 then if v4 = 0 then some (v7, σ) else some (v6, σ) else (f_X9_goesTo fu σ v0 v2 v5 v8).bind fun q3 => (dr_ q3.2 10 (sr_ q3.2 v0 41)).bind fun b4 => (ix_ (((40 : Int32) * v1) + v3) (ln_ q3.2 b4)).bind fun j5 => if q3.1 = (si_ q3.2 b4 j5) then (f_X9_wordsAt_20 fu n) q3.2 v0 v1 v2 v3 v4 v5 (v6 + (1 : Int32)) v8 (v8 + (-1 : Int32)) else (f_X9_wordsAt_20 fu n) q3.2 v0 v1 v2 v3 v4 v5 v6 v7 (v8 + (-1 : Int32))) = some q := hf
    refine lv_iload C.1 C.2.1 dX9_wordsAt_20 (lv_at hl 8 rfl) ?_
    refine lv_if_lt (tgt := 61) C.1 C.2.1 dX9_wordsAt_22 (by decide) (fun c1 => ?_) (fun c1 => ?_)
    · have hf := if_t hf c1
      refine lv_iload C.1 C.2.1 dX9_wordsAt_61 (lv_at hl 4 rfl) ?_
      refine lv_if_eq (tgt := 71) C.1 C.2.1 dX9_wordsAt_63 (by decide) (fun c2 => ?_) (fun c2 => ?_)
      · have hf := if_t hf c2
        refine lv_iload C.1 C.2.1 dX9_wordsAt_71 (lv_at hl 7 rfl) ?_
        exact x_ri C hr hlk h hE (pf_1 (Option.some.inj hf)) (pf_2 (Option.some.inj hf)) dX9_wordsAt_73
      · have hf := if_f hf c2
        refine lv_iload C.1 C.2.1 dX9_wordsAt_66 (lv_at hl 6 rfl) ?_
        refine lv_goto (tgt := 73) C.1 C.2.1 dX9_wordsAt_68 (by decide) ?_
        exact x_ri C hr hlk h hE (pf_1 (Option.some.inj hf)) (pf_2 (Option.some.inj hf)) dX9_wordsAt_73
    · have hf := if_f hf c1
      refine lv_aload_n C.1 C.2.1 dX9_wordsAt_25 rfl (lv_at hl 0 rfl) ?_
      refine lv_iload_n C.1 C.2.1 dX9_wordsAt_26 rfl (lv_at hl 2 rfl) ?_
      refine lv_iload C.1 C.2.1 dX9_wordsAt_27 (lv_at hl 5 rfl) ?_
      refine lv_iload C.1 C.2.1 dX9_wordsAt_29 (lv_at hl 8 rfl) ?_
      obtain ⟨q3, hq_q3, hf⟩ := ob_ hf
      refine x_ai K h (x_V C K h [.int v2, .int v5, .int v8] (c_X9_goesTo fu l κ G cy ad H.size σ v0 v2 v5 v8 hk_v0 hq_q3) mi_X9_goesTo rfl im_yX9_goesTo se_yX9_goesTo ml_RX9_132 cl_9 hk_v0 ⟨rfl, rfl, Nat.le_trans (Nat.le_of_ble_eq_true rfl) hR.1, Nat.le_trans (Nat.le_of_ble_eq_true rfl) hR.2⟩ hl (Nat.le_of_ble_eq_true rfl) dX9_wordsAt_31 ⟨Nat.zero_le _, Nat.zero_le _⟩ rfl) (fun H locs h hX => ?_)
      have hE := hE.trans hX
      have hk_v0 := hX.k hk_v0 (by decide)
      refine lv_aload_n C.1 C.2.1 dX9_wordsAt_34 rfl (lv_at hl 0 rfl) ?_
      obtain ⟨b4, hb_b4, hf⟩ := ob_ hf
      obtain ⟨hq_b4, hk_b4⟩ := dr_in hb_b4
      refine x_get (v := .ref (ad b4)) C K h cl_9 hk_v0 41 (by decide) fl_RX9_70 (hv_r (o := sr_ q3.2 v0 41) rfl hq_b4) dX9_wordsAt_35 ?_
      refine lv_bipush (v := (40 : Int32)) C.1 C.2.1 dX9_wordsAt_38 (by decide) ?_
      refine lv_iload_n C.1 C.2.1 dX9_wordsAt_40 rfl (lv_at hl 1 rfl) ?_
      refine lv_imul C.1 C.2.1 dX9_wordsAt_41 ?_
      refine lv_iload_n C.1 C.2.1 dX9_wordsAt_42 rfl (lv_at hl 3 rfl) ?_
      refine lv_iadd C.1 C.2.1 dX9_wordsAt_43 ?_
      obtain ⟨j5, hj_j5, hf⟩ := ob_ hf
      refine x_iald C K h hk_b4 hj_j5 dX9_wordsAt_44 ?_
      refine lv_icmp_ne (tgt := 55) C.1 C.2.1 dX9_wordsAt_45 (by decide) (fun c6 => ?_) (fun c6 => ?_)
      · have hf := if_f hf c6
        refine lv_iinc (v := v8 + (-1 : Int32)) (lv' := [(8, .int (v8 + (-1 : Int32))), (0, .ref (ad v0)), (1, .int v1), (2, .int v2), (3, .int v3), (4, .int v4), (5, .int v5), (6, .int v6), (7, .int v7)]) C.1 C.2.1 dX9_wordsAt_55 hl (k := 8) rfl rfl (by decide) rfl (fun ls hl => ?_)
        refine lv_goto (tgt := 20) C.1 C.2.1 dX9_wordsAt_58 (by decide) ?_
        exact ih q3.2 v0 v1 v2 v3 v4 v5 v6 v7 (v8 + (-1 : Int32)) hE hk_v0 hf _ _ _ h (lv_sub hl [1, 2, 3, 4, 5, 6, 7, 8, 0] rfl)
      · have hf := if_t hf c6
        refine lv_iinc (v := v6 + (1 : Int32)) (lv' := [(6, .int (v6 + (1 : Int32))), (0, .ref (ad v0)), (1, .int v1), (2, .int v2), (3, .int v3), (4, .int v4), (5, .int v5), (7, .int v7), (8, .int v8)]) C.1 C.2.1 dX9_wordsAt_48 hl (k := 6) rfl rfl (by decide) rfl (fun ls hl => ?_)
        refine lv_iload C.1 C.2.1 dX9_wordsAt_51 (lv_at hl 8 rfl) ?_
        refine lv_istore (i := 7) (lv' := [(7, .int v8), (6, .int (v6 + (1 : Int32))), (0, .ref (ad v0)), (1, .int v1), (2, .int v2), (3, .int v3), (4, .int v4), (5, .int v5), (8, .int v8)]) C.1 C.2.1 dX9_wordsAt_53 hl (by decide) rfl (fun ls hl => ?_)
        refine lv_iinc (v := v8 + (-1 : Int32)) (lv' := [(8, .int (v8 + (-1 : Int32))), (7, .int v8), (6, .int (v6 + (1 : Int32))), (0, .ref (ad v0)), (1, .int v1), (2, .int v2), (3, .int v3), (4, .int v4), (5, .int v5)]) C.1 C.2.1 dX9_wordsAt_55 hl (k := 8) rfl rfl (by decide) rfl (fun ls hl => ?_)
        refine lv_goto (tgt := 20) C.1 C.2.1 dX9_wordsAt_58 (by decide) ?_
        exact ih q3.2 v0 v1 v2 v3 v4 v5 (v6 + (1 : Int32)) v8 (v8 + (-1 : Int32)) hE hk_v0 hf _ _ _ h (lv_sub hl [3, 4, 5, 6, 7, 8, 2, 1, 0] rfl)
def f_X9_wordsAt (fu : Nat) (σ : St_) (a0 : Nat) (x1 : Int32) (x2 : Int32) (x3 : Int32) (x4 : Int32) : Option (Int32 × St_) := (f_X9_ahead σ a0 x1 x2 x3).bind fun q5 => f_X9_wordsAt_20 fu fu σ a0 x1 x2 x3 x4 q5 (0 : Int32) (8 : Int32) (7 : Int32)
set_option maxHeartbeats 4000000 in
set_option maxRecDepth 100000 in
theorem w_X9_wordsAt {p : Program} {l : Launch} {e : Env} {R : Room} {s : State} {m : MethodId} {args : Array Value} {below : List Frame} {meth : Method} {c : Code} {κ : Ka_} {G : va_G} {cy : Nat → ClassId} {ad : Nat → Nat} {sz : Nat} {σ0 : St_} (fu : Nat) (C : CallFix p m c cX9_wordsAt 9 s args wU_ RX9) (K : Kx_ κ G cy (va_A (wl_ cy ad σ0) sz) s) (hr : meth.sig.returnType = some .int) (hlk : meth.locks = false) (hR : 45 ≤ R.frames ∧ 1006 ≤ R.locals) {q : Int32 × St_} : ∀ (σ : St_) (a0 : Nat) (x1 : Int32) (x2 : Int32) (x3 : Int32) (x4 : Int32), Ex_ σ0 σ → kd_ σ a0 = 9 → f_X9_wordsAt fu σ a0 x1 x2 x3 x4 = some q → ∀ (H : Heap) (locs : List Loc) (ls : Array Slot), Ht_ G cy (va_A (wl_ cy ad σ0) sz) s ad σ H locs → lv_has ls 9 [(0, .ref (ad a0)), (1, .int x1), (2, .int x2), (3, .int x3), (4, .int x4)] → W p l e R s m args below meth c H locs 0 0 (MQ below (Qi_ G cy ad σ0 q.2 sz q.1) args s 0 0 (va_A (wl_ cy ad σ0) sz)) (F0 m 0 ls []) := by
  intro σ a0 x1 x2 x3 x4 hE hk_a0 hf H locs ls h hl
  have hf : ((f_X9_ahead σ a0 x1 x2 x3).bind fun q5 => f_X9_wordsAt_20 fu fu σ a0 x1 x2 x3 x4 q5 (0 : Int32) (8 : Int32) (7 : Int32)) = some q := hf
  refine lv_aload_n C.1 C.2.1 dX9_wordsAt_0 rfl (lv_at hl 0 rfl) ?_
  refine lv_iload_n C.1 C.2.1 dX9_wordsAt_1 rfl (lv_at hl 1 rfl) ?_
  refine lv_iload_n C.1 C.2.1 dX9_wordsAt_2 rfl (lv_at hl 2 rfl) ?_
  refine lv_iload_n C.1 C.2.1 dX9_wordsAt_3 rfl (lv_at hl 3 rfl) ?_
  obtain ⟨q5, hq_q5, hf⟩ := ob_ hf
  refine x_ai K h (x_V C K h [.int x1, .int x2, .int x3] (c_X9_ahead l κ G cy ad H.size σ a0 x1 x2 x3 hk_a0 hq_q5) mi_X9_ahead rfl im_yX9_ahead se_yX9_ahead ml_RX9_396 cl_9 hk_a0 ⟨rfl, rfl, Nat.le_trans (Nat.le_of_ble_eq_true rfl) hR.1, Nat.le_trans (Nat.le_of_ble_eq_true rfl) hR.2⟩ hl (Nat.le_of_ble_eq_true rfl) dX9_wordsAt_4 ⟨Nat.zero_le _, Nat.zero_le _⟩ rfl) (fun H locs h hX => ?_)
  refine lv_istore (i := 5) (lv' := [(5, .int q5), (0, .ref (ad a0)), (1, .int x1), (2, .int x2), (3, .int x3), (4, .int x4)]) C.1 C.2.1 dX9_wordsAt_7 hl (by decide) rfl (fun ls hl => ?_)
  refine lv_iconst (v := (0 : Int32)) C.1 C.2.1 dX9_wordsAt_9 (by decide) ?_
  refine lv_istore (i := 6) (lv' := [(6, .int (0 : Int32)), (5, .int q5), (0, .ref (ad a0)), (1, .int x1), (2, .int x2), (3, .int x3), (4, .int x4)]) C.1 C.2.1 dX9_wordsAt_10 hl (by decide) rfl (fun ls hl => ?_)
  refine lv_bipush (v := (8 : Int32)) C.1 C.2.1 dX9_wordsAt_12 (by decide) ?_
  refine lv_istore (i := 7) (lv' := [(7, .int (8 : Int32)), (6, .int (0 : Int32)), (5, .int q5), (0, .ref (ad a0)), (1, .int x1), (2, .int x2), (3, .int x3), (4, .int x4)]) C.1 C.2.1 dX9_wordsAt_14 hl (by decide) rfl (fun ls hl => ?_)
  refine lv_bipush (v := (7 : Int32)) C.1 C.2.1 dX9_wordsAt_16 (by decide) ?_
  refine lv_istore (i := 8) (lv' := [(8, .int (7 : Int32)), (7, .int (8 : Int32)), (6, .int (0 : Int32)), (5, .int q5), (0, .ref (ad a0)), (1, .int x1), (2, .int x2), (3, .int x3), (4, .int x4)]) C.1 C.2.1 dX9_wordsAt_18 hl (by decide) rfl (fun ls hl => ?_)
  exact w_X9_wordsAt_20 fu C K hr hlk hR fu σ a0 x1 x2 x3 x4 q5 (0 : Int32) (8 : Int32) (7 : Int32) hE hk_a0 hf _ _ _ h (lv_sub hl [4, 5, 6, 7, 8, 3, 2, 1, 0] rfl)
theorem c_X9_wordsAt (fu : Nat) (l : Launch) (κ : Ka_) (G : va_G) (cy : Nat → ClassId) (ad : Nat → Nat) (sz : Nat) (σ : St_) (a0 : Nat) (x1 : Int32) (x2 : Int32) (x3 : Int32) (x4 : Int32) (hk_a0 : kd_ σ a0 = 9) {q : Int32 × St_} (hf : f_X9_wordsAt fu σ a0 x1 x2 x3 x4 = some q) : Met l yX9_wordsAt (Cond.code yX9_wordsAt cX9_wordsAt 9 (some .int) :: wU_) { frames := 45, cells := 0, slots := 0, locals := 1006 } (va_Pc [.ref (ad a0), .int x1, .int x2, .int x3, .int x4] (Pr_ κ G cy ad σ sz)) (Qi_ G cy ad σ q.2 sz q.1) 0 0 (va_A (wl_ cy ad σ) sz) :=
  x_met (by decide) (fun p e R s m below meth c ls hR C hr hlk hin _ K h hl => w_X9_wordsAt fu C K hr hlk ⟨hR.1, hR.2.1⟩ σ a0 x1 x2 x3 x4 Ex_.rf hk_a0 hf s.heap [] ls h hl) (Nat.le_of_ble_eq_true rfl)
-- X9_firstOther
theorem mi_X9_firstOther : Mi_ yX9_firstOther cX9_firstOther 4 (some .int) 2 := ⟨co_yX9_firstOther, in_RX9, by decide, by decide, by decide +kernel⟩
def f_X9_firstOther_2 (fu : Nat) : Nat → St_ → Nat → Int32 → Int32 → Int32 → Option (Int32 × St_)
  | 0 => fun _ _ _ _ _ => none
  | n + 1 => fun σ  v0  v1  v2  v3 => (dr_ σ 10 (sr_ σ v0 40)).bind fun b1 => (ix_ v1 (ln_ σ b1)).bind fun j2 => if (si_ σ b1 j2) ≤ v3 then some ((-1 : Int32), σ) else (f_X9_wordsAt fu σ v0 v1 v2 v3 (1 : Int32)).bind fun q4 => if q4.1 = 0 then some (v3, q4.2) else (f_X9_firstOther_2 fu n) q4.2 v0 v1 v2 (v3 + (1 : Int32))
set_option maxHeartbeats 4000000 in
set_option maxRecDepth 100000 in
theorem w_X9_firstOther_2 {p : Program} {l : Launch} {e : Env} {R : Room} {s : State} {m : MethodId} {args : Array Value} {below : List Frame} {meth : Method} {c : Code} {κ : Ka_} {G : va_G} {cy : Nat → ClassId} {ad : Nat → Nat} {sz : Nat} {σ0 : St_} (fu : Nat) (C : CallFix p m c cX9_firstOther 4 s args wU_ RX9) (K : Kx_ κ G cy (va_A (wl_ cy ad σ0) sz) s) (hr : meth.sig.returnType = some .int) (hlk : meth.locks = false) (hR : 46 ≤ R.frames ∧ 1034 ≤ R.locals) {q : Int32 × St_} : ∀ n : Nat, ∀ (σ : St_) (v0 : Nat) (v1 : Int32) (v2 : Int32) (v3 : Int32), Ex_ σ0 σ → kd_ σ v0 = 9 → f_X9_firstOther_2 fu n σ v0 v1 v2 v3 = some q → ∀ (H : Heap) (locs : List Loc) (ls : Array Slot), Ht_ G cy (va_A (wl_ cy ad σ0) sz) s ad σ H locs → lv_has ls 4 [(0, .ref (ad v0)), (1, .int v1), (2, .int v2), (3, .int v3)] → W p l e R s m args below meth c H locs 0 0 (MQ below (Qi_ G cy ad σ0 q.2 sz q.1) args s 0 0 (va_A (wl_ cy ad σ0) sz)) (F0 m 2 ls []) := by
  intro n
  induction n with
  | zero =>
    intro σ v0 v1 v2 v3 hE hk_v0 hf H locs ls h hl
    cases hf
  | succ n ih =>
    intro σ v0 v1 v2 v3 hE hk_v0 hf H locs ls h hl
    have hf : ((dr_ σ 10 (sr_ σ v0 40)).bind fun b1 => (ix_ v1 (ln_ σ b1)).bind fun j2 => if (si_ σ b1 j2) ≤ v3 then some ((-1 : Int32), σ) else (f_X9_wordsAt fu σ v0 v1 v2 v3 (1 : Int32)).bind fun q4 => if q4.1 = 0 then some (v3, q4.2) else (f_X9_firstOther_2 fu n) q4.2 v0 v1 v2 (v3 + (1 : Int32))) = some q := hf
    refine lv_iload_n C.1 C.2.1 dX9_firstOther_2 rfl (lv_at hl 3 rfl) ?_
    refine lv_aload_n C.1 C.2.1 dX9_firstOther_3 rfl (lv_at hl 0 rfl) ?_
    obtain ⟨b1, hb_b1, hf⟩ := ob_ hf
    obtain ⟨hq_b1, hk_b1⟩ := dr_in hb_b1
    refine x_get (v := .ref (ad b1)) C K h cl_9 hk_v0 40 (by decide) fl_RX9_67 (hv_r (o := sr_ σ v0 40) rfl hq_b1) dX9_firstOther_4 ?_
    refine lv_iload_n C.1 C.2.1 dX9_firstOther_7 rfl (lv_at hl 1 rfl) ?_
    obtain ⟨j2, hj_j2, hf⟩ := ob_ hf
    refine x_iald C K h hk_b1 hj_j2 dX9_firstOther_8 ?_
    refine lv_icmp_ge (tgt := 31) C.1 C.2.1 dX9_firstOther_9 (by decide) (fun c3 => ?_) (fun c3 => ?_)
    · have hf := if_t hf c3
      refine lv_iconst (v := (-1 : Int32)) C.1 C.2.1 dX9_firstOther_31 (by decide) ?_
      exact x_ri C hr hlk h hE (pf_1 (Option.some.inj hf)) (pf_2 (Option.some.inj hf)) dX9_firstOther_32
    · have hf := if_f hf c3
      refine lv_aload_n C.1 C.2.1 dX9_firstOther_12 rfl (lv_at hl 0 rfl) ?_
      refine lv_iload_n C.1 C.2.1 dX9_firstOther_13 rfl (lv_at hl 1 rfl) ?_
      refine lv_iload_n C.1 C.2.1 dX9_firstOther_14 rfl (lv_at hl 2 rfl) ?_
      refine lv_iload_n C.1 C.2.1 dX9_firstOther_15 rfl (lv_at hl 3 rfl) ?_
      refine lv_iconst (v := (1 : Int32)) C.1 C.2.1 dX9_firstOther_16 (by decide) ?_
      obtain ⟨q4, hq_q4, hf⟩ := ob_ hf
      refine x_ai K h (x_V C K h [.int v1, .int v2, .int v3, .int (1 : Int32)] (c_X9_wordsAt fu l κ G cy ad H.size σ v0 v1 v2 v3 (1 : Int32) hk_v0 hq_q4) mi_X9_wordsAt rfl im_yX9_wordsAt se_yX9_wordsAt ml_RX9_399 cl_9 hk_v0 ⟨rfl, rfl, Nat.le_trans (Nat.le_of_ble_eq_true rfl) hR.1, Nat.le_trans (Nat.le_of_ble_eq_true rfl) hR.2⟩ hl (Nat.le_of_ble_eq_true rfl) dX9_firstOther_17 ⟨Nat.zero_le _, Nat.zero_le _⟩ rfl) (fun H locs h hX => ?_)
      have hE := hE.trans hX
      have hk_v0 := hX.k hk_v0 (by decide)
      refine lv_if_ne (tgt := 25) C.1 C.2.1 dX9_firstOther_20 (by decide) (fun c5 => ?_) (fun c5 => ?_)
      · have hf := if_f hf c5
        refine lv_iinc (v := v3 + (1 : Int32)) (lv' := [(3, .int (v3 + (1 : Int32))), (0, .ref (ad v0)), (1, .int v1), (2, .int v2)]) C.1 C.2.1 dX9_firstOther_25 hl (k := 3) rfl rfl (by decide) rfl (fun ls hl => ?_)
        refine lv_goto (tgt := 2) C.1 C.2.1 dX9_firstOther_28 (by decide) ?_
        exact ih q4.2 v0 v1 v2 (v3 + (1 : Int32)) hE hk_v0 hf _ _ _ h (lv_sub hl [1, 2, 3, 0] rfl)
      · have hf := if_t hf c5
        refine lv_iload_n C.1 C.2.1 dX9_firstOther_23 rfl (lv_at hl 3 rfl) ?_
        exact x_ri C hr hlk h hE (pf_1 (Option.some.inj hf)) (pf_2 (Option.some.inj hf)) dX9_firstOther_24
def f_X9_firstOther (fu : Nat) (σ : St_) (a0 : Nat) (x1 : Int32) (x2 : Int32) : Option (Int32 × St_) := f_X9_firstOther_2 fu fu σ a0 x1 x2 (0 : Int32)
set_option maxHeartbeats 4000000 in
set_option maxRecDepth 100000 in
theorem w_X9_firstOther {p : Program} {l : Launch} {e : Env} {R : Room} {s : State} {m : MethodId} {args : Array Value} {below : List Frame} {meth : Method} {c : Code} {κ : Ka_} {G : va_G} {cy : Nat → ClassId} {ad : Nat → Nat} {sz : Nat} {σ0 : St_} (fu : Nat) (C : CallFix p m c cX9_firstOther 4 s args wU_ RX9) (K : Kx_ κ G cy (va_A (wl_ cy ad σ0) sz) s) (hr : meth.sig.returnType = some .int) (hlk : meth.locks = false) (hR : 46 ≤ R.frames ∧ 1034 ≤ R.locals) {q : Int32 × St_} : ∀ (σ : St_) (a0 : Nat) (x1 : Int32) (x2 : Int32), Ex_ σ0 σ → kd_ σ a0 = 9 → f_X9_firstOther fu σ a0 x1 x2 = some q → ∀ (H : Heap) (locs : List Loc) (ls : Array Slot), Ht_ G cy (va_A (wl_ cy ad σ0) sz) s ad σ H locs → lv_has ls 4 [(0, .ref (ad a0)), (1, .int x1), (2, .int x2)] → W p l e R s m args below meth c H locs 0 0 (MQ below (Qi_ G cy ad σ0 q.2 sz q.1) args s 0 0 (va_A (wl_ cy ad σ0) sz)) (F0 m 0 ls []) := by
  intro σ a0 x1 x2 hE hk_a0 hf H locs ls h hl
  have hf : (f_X9_firstOther_2 fu fu σ a0 x1 x2 (0 : Int32)) = some q := hf
  refine lv_iconst (v := (0 : Int32)) C.1 C.2.1 dX9_firstOther_0 (by decide) ?_
  refine lv_istore_n (i := 3) (lv' := [(3, .int (0 : Int32)), (0, .ref (ad a0)), (1, .int x1), (2, .int x2)]) C.1 C.2.1 dX9_firstOther_1 rfl hl (by decide) rfl (fun ls hl => ?_)
  exact w_X9_firstOther_2 fu C K hr hlk hR fu σ a0 x1 x2 (0 : Int32) hE hk_a0 hf _ _ _ h (lv_sub hl [1, 2, 3, 0] rfl)
theorem c_X9_firstOther (fu : Nat) (l : Launch) (κ : Ka_) (G : va_G) (cy : Nat → ClassId) (ad : Nat → Nat) (sz : Nat) (σ : St_) (a0 : Nat) (x1 : Int32) (x2 : Int32) (hk_a0 : kd_ σ a0 = 9) {q : Int32 × St_} (hf : f_X9_firstOther fu σ a0 x1 x2 = some q) : Met l yX9_firstOther (Cond.code yX9_firstOther cX9_firstOther 4 (some .int) :: wU_) { frames := 46, cells := 0, slots := 0, locals := 1034 } (va_Pc [.ref (ad a0), .int x1, .int x2] (Pr_ κ G cy ad σ sz)) (Qi_ G cy ad σ q.2 sz q.1) 0 0 (va_A (wl_ cy ad σ) sz) :=
  x_met (by decide) (fun p e R s m below meth c ls hR C hr hlk hin _ K h hl => w_X9_firstOther fu C K hr hlk ⟨hR.1, hR.2.1⟩ σ a0 x1 x2 Ex_.rf hk_a0 hf s.heap [] ls h hl) (Nat.le_of_ble_eq_true rfl)
-- X9_firstRow
theorem mi_X9_firstRow : Mi_ yX9_firstRow cX9_firstRow 5 (some .int) 2 := ⟨co_yX9_firstRow, in_RX9, by decide, by decide, by decide +kernel⟩
def f_X9_firstRow_30 (fu : Nat) : Nat → St_ → Nat → Int32 → Int32 → Int32 → Int32 → Option (Int32 × St_)
  | 0 => fun _ _ _ _ _ _ => none
  | n + 1 => fun σ  v0  v1  v2  v3  v4 => (dr_ σ 10 (sr_ σ v0 40)).bind fun b1 => (ix_ v1 (ln_ σ b1)).bind fun j2 => if (si_ σ b1 j2) ≤ v4 then some (v3, σ) else (f_X9_wordsAt fu σ v0 v1 v2 v4 (0 : Int32)).bind fun q4 => (f_X9_firstRow_30 fu n) q4.2 v0 v1 v2 ((((10 : Int32) * v3) + q4.1) + (1 : Int32)) (v4 + (1 : Int32))
set_option maxHeartbeats 4000000 in
set_option maxRecDepth 100000 in
theorem w_X9_firstRow_30 {p : Program} {l : Launch} {e : Env} {R : Room} {s : State} {m : MethodId} {args : Array Value} {below : List Frame} {meth : Method} {c : Code} {κ : Ka_} {G : va_G} {cy : Nat → ClassId} {ad : Nat → Nat} {sz : Nat} {σ0 : St_} (fu : Nat) (C : CallFix p m c cX9_firstRow 5 s args wU_ RX9) (K : Kx_ κ G cy (va_A (wl_ cy ad σ0) sz) s) (hr : meth.sig.returnType = some .int) (hlk : meth.locks = false) (hR : 47 ≤ R.frames ∧ 1057 ≤ R.locals) {q : Int32 × St_} : ∀ n : Nat, ∀ (σ : St_) (v0 : Nat) (v1 : Int32) (v2 : Int32) (v3 : Int32) (v4 : Int32), Ex_ σ0 σ → kd_ σ v0 = 9 → f_X9_firstRow_30 fu n σ v0 v1 v2 v3 v4 = some q → ∀ (H : Heap) (locs : List Loc) (ls : Array Slot), Ht_ G cy (va_A (wl_ cy ad σ0) sz) s ad σ H locs → lv_has ls 5 [(0, .ref (ad v0)), (1, .int v1), (2, .int v2), (3, .int v3), (4, .int v4)] → W p l e R s m args below meth c H locs 0 0 (MQ below (Qi_ G cy ad σ0 q.2 sz q.1) args s 0 0 (va_A (wl_ cy ad σ0) sz)) (F0 m 30 ls []) := by
  intro n
  induction n with
  | zero =>
    intro σ v0 v1 v2 v3 v4 hE hk_v0 hf H locs ls h hl
    cases hf
  | succ n ih =>
    intro σ v0 v1 v2 v3 v4 hE hk_v0 hf H locs ls h hl
    have hf : ((dr_ σ 10 (sr_ σ v0 40)).bind fun b1 => (ix_ v1 (ln_ σ b1)).bind fun j2 => if (si_ σ b1 j2) ≤ v4 then some (v3, σ) else (f_X9_wordsAt fu σ v0 v1 v2 v4 (0 : Int32)).bind fun q4 => (f_X9_firstRow_30 fu n) q4.2 v0 v1 v2 ((((10 : Int32) * v3) + q4.1) + (1 : Int32)) (v4 + (1 : Int32))) = some q := hf
    refine lv_iload C.1 C.2.1 dX9_firstRow_30 (lv_at hl 4 rfl) ?_
    refine lv_aload_n C.1 C.2.1 dX9_firstRow_32 rfl (lv_at hl 0 rfl) ?_
    obtain ⟨b1, hb_b1, hf⟩ := ob_ hf
    obtain ⟨hq_b1, hk_b1⟩ := dr_in hb_b1
    refine x_get (v := .ref (ad b1)) C K h cl_9 hk_v0 40 (by decide) fl_RX9_67 (hv_r (o := sr_ σ v0 40) rfl hq_b1) dX9_firstRow_33 ?_
    refine lv_iload_n C.1 C.2.1 dX9_firstRow_36 rfl (lv_at hl 1 rfl) ?_
    obtain ⟨j2, hj_j2, hf⟩ := ob_ hf
    refine x_iald C K h hk_b1 hj_j2 dX9_firstRow_37 ?_
    refine lv_icmp_ge (tgt := 64) C.1 C.2.1 dX9_firstRow_38 (by decide) (fun c3 => ?_) (fun c3 => ?_)
    · have hf := if_t hf c3
      refine lv_iload_n C.1 C.2.1 dX9_firstRow_64 rfl (lv_at hl 3 rfl) ?_
      exact x_ri C hr hlk h hE (pf_1 (Option.some.inj hf)) (pf_2 (Option.some.inj hf)) dX9_firstRow_65
    · have hf := if_f hf c3
      refine lv_bipush (v := (10 : Int32)) C.1 C.2.1 dX9_firstRow_41 (by decide) ?_
      refine lv_iload_n C.1 C.2.1 dX9_firstRow_43 rfl (lv_at hl 3 rfl) ?_
      refine lv_imul C.1 C.2.1 dX9_firstRow_44 ?_
      refine lv_aload_n C.1 C.2.1 dX9_firstRow_45 rfl (lv_at hl 0 rfl) ?_
      refine lv_iload_n C.1 C.2.1 dX9_firstRow_46 rfl (lv_at hl 1 rfl) ?_
      refine lv_iload_n C.1 C.2.1 dX9_firstRow_47 rfl (lv_at hl 2 rfl) ?_
      refine lv_iload C.1 C.2.1 dX9_firstRow_48 (lv_at hl 4 rfl) ?_
      refine lv_iconst (v := (0 : Int32)) C.1 C.2.1 dX9_firstRow_50 (by decide) ?_
      obtain ⟨q4, hq_q4, hf⟩ := ob_ hf
      refine x_ai K h (x_V C K h [.int v1, .int v2, .int v4, .int (0 : Int32)] (c_X9_wordsAt fu l κ G cy ad H.size σ v0 v1 v2 v4 (0 : Int32) hk_v0 hq_q4) mi_X9_wordsAt rfl im_yX9_wordsAt se_yX9_wordsAt ml_RX9_399 cl_9 hk_v0 ⟨rfl, rfl, Nat.le_trans (Nat.le_of_ble_eq_true rfl) hR.1, Nat.le_trans (Nat.le_of_ble_eq_true rfl) hR.2⟩ hl (Nat.le_of_ble_eq_true rfl) dX9_firstRow_51 ⟨Nat.zero_le _, Nat.zero_le _⟩ rfl) (fun H locs h hX => ?_)
      have hE := hE.trans hX
      have hk_v0 := hX.k hk_v0 (by decide)
      refine lv_iadd C.1 C.2.1 dX9_firstRow_54 ?_
      refine lv_iconst (v := (1 : Int32)) C.1 C.2.1 dX9_firstRow_55 (by decide) ?_
      refine lv_iadd C.1 C.2.1 dX9_firstRow_56 ?_
      refine lv_istore_n (i := 3) (lv' := [(3, .int ((((10 : Int32) * v3) + q4.1) + (1 : Int32))), (0, .ref (ad v0)), (1, .int v1), (2, .int v2), (4, .int v4)]) C.1 C.2.1 dX9_firstRow_57 rfl hl (by decide) rfl (fun ls hl => ?_)
      refine lv_iinc (v := v4 + (1 : Int32)) (lv' := [(4, .int (v4 + (1 : Int32))), (3, .int ((((10 : Int32) * v3) + q4.1) + (1 : Int32))), (0, .ref (ad v0)), (1, .int v1), (2, .int v2)]) C.1 C.2.1 dX9_firstRow_58 hl (k := 4) rfl rfl (by decide) rfl (fun ls hl => ?_)
      refine lv_goto (tgt := 30) C.1 C.2.1 dX9_firstRow_61 (by decide) ?_
      exact ih q4.2 v0 v1 v2 ((((10 : Int32) * v3) + q4.1) + (1 : Int32)) (v4 + (1 : Int32)) hE hk_v0 hf _ _ _ h (lv_sub hl [2, 3, 4, 1, 0] rfl)
def f_X9_firstRow (fu : Nat) (σ : St_) (a0 : Nat) (x1 : Int32) (x2 : Int32) : Option (Int32 × St_) := (f_X9_firstOther fu σ a0 x1 x2).bind fun q3 => if q3.1 = (-1 : Int32) then (dr_ q3.2 10 (sr_ q3.2 a0 40)).bind fun b5 => (ix_ x1 (ln_ q3.2 b5)).bind fun j6 => if (si_ q3.2 b5 j6) ≤ (9 : Int32) then f_X9_firstRow_30 fu fu q3.2 a0 x1 x2 (0 : Int32) (0 : Int32) else some ((-1 : Int32), q3.2) else some ((0 : Int32), q3.2)
set_option maxHeartbeats 4000000 in
set_option maxRecDepth 100000 in
theorem w_X9_firstRow {p : Program} {l : Launch} {e : Env} {R : Room} {s : State} {m : MethodId} {args : Array Value} {below : List Frame} {meth : Method} {c : Code} {κ : Ka_} {G : va_G} {cy : Nat → ClassId} {ad : Nat → Nat} {sz : Nat} {σ0 : St_} (fu : Nat) (C : CallFix p m c cX9_firstRow 5 s args wU_ RX9) (K : Kx_ κ G cy (va_A (wl_ cy ad σ0) sz) s) (hr : meth.sig.returnType = some .int) (hlk : meth.locks = false) (hR : 47 ≤ R.frames ∧ 1057 ≤ R.locals) {q : Int32 × St_} : ∀ (σ : St_) (a0 : Nat) (x1 : Int32) (x2 : Int32), Ex_ σ0 σ → kd_ σ a0 = 9 → f_X9_firstRow fu σ a0 x1 x2 = some q → ∀ (H : Heap) (locs : List Loc) (ls : Array Slot), Ht_ G cy (va_A (wl_ cy ad σ0) sz) s ad σ H locs → lv_has ls 5 [(0, .ref (ad a0)), (1, .int x1), (2, .int x2)] → W p l e R s m args below meth c H locs 0 0 (MQ below (Qi_ G cy ad σ0 q.2 sz q.1) args s 0 0 (va_A (wl_ cy ad σ0) sz)) (F0 m 0 ls []) := by
  intro σ a0 x1 x2 hE hk_a0 hf H locs ls h hl
  have hf : ((f_X9_firstOther fu σ a0 x1 x2).bind fun q3 => if q3.1 = (-1 : Int32) then (dr_ q3.2 10 (sr_ q3.2 a0 40)).bind fun b5 => (ix_ x1 (ln_ q3.2 b5)).bind fun j6 => if (si_ q3.2 b5 j6) ≤ (9 : Int32) then f_X9_firstRow_30 fu fu q3.2 a0 x1 x2 (0 : Int32) (0 : Int32) else some ((-1 : Int32), q3.2) else some ((0 : Int32), q3.2)) = some q := hf
  refine lv_aload_n C.1 C.2.1 dX9_firstRow_0 rfl (lv_at hl 0 rfl) ?_
  refine lv_iload_n C.1 C.2.1 dX9_firstRow_1 rfl (lv_at hl 1 rfl) ?_
  refine lv_iload_n C.1 C.2.1 dX9_firstRow_2 rfl (lv_at hl 2 rfl) ?_
  obtain ⟨q3, hq_q3, hf⟩ := ob_ hf
  refine x_ai K h (x_V C K h [.int x1, .int x2] (c_X9_firstOther fu l κ G cy ad H.size σ a0 x1 x2 hk_a0 hq_q3) mi_X9_firstOther rfl im_yX9_firstOther se_yX9_firstOther ml_RX9_403 cl_9 hk_a0 ⟨rfl, rfl, Nat.le_trans (Nat.le_of_ble_eq_true rfl) hR.1, Nat.le_trans (Nat.le_of_ble_eq_true rfl) hR.2⟩ hl (Nat.le_of_ble_eq_true rfl) dX9_firstRow_3 ⟨Nat.zero_le _, Nat.zero_le _⟩ rfl) (fun H locs h hX => ?_)
  have hE := hE.trans hX
  have hk_a0 := hX.k hk_a0 (by decide)
  refine lv_iconst (v := (-1 : Int32)) C.1 C.2.1 dX9_firstRow_6 (by decide) ?_
  refine lv_icmp_eq (tgt := 12) C.1 C.2.1 dX9_firstRow_7 (by decide) (fun c4 => ?_) (fun c4 => ?_)
  · have hf := if_t hf c4
    refine lv_aload_n C.1 C.2.1 dX9_firstRow_12 rfl (lv_at hl 0 rfl) ?_
    obtain ⟨b5, hb_b5, hf⟩ := ob_ hf
    obtain ⟨hq_b5, hk_b5⟩ := dr_in hb_b5
    refine x_get (v := .ref (ad b5)) C K h cl_9 hk_a0 40 (by decide) fl_RX9_67 (hv_r (o := sr_ q3.2 a0 40) rfl hq_b5) dX9_firstRow_13 ?_
    refine lv_iload_n C.1 C.2.1 dX9_firstRow_16 rfl (lv_at hl 1 rfl) ?_
    obtain ⟨j6, hj_j6, hf⟩ := ob_ hf
    refine x_iald C K h hk_b5 hj_j6 dX9_firstRow_17 ?_
    refine lv_bipush (v := (9 : Int32)) C.1 C.2.1 dX9_firstRow_18 (by decide) ?_
    refine lv_icmp_le (tgt := 25) C.1 C.2.1 dX9_firstRow_20 (by decide) (fun c7 => ?_) (fun c7 => ?_)
    · have hf := if_t hf c7
      refine lv_iconst (v := (0 : Int32)) C.1 C.2.1 dX9_firstRow_25 (by decide) ?_
      refine lv_istore_n (i := 3) (lv' := [(3, .int (0 : Int32)), (0, .ref (ad a0)), (1, .int x1), (2, .int x2)]) C.1 C.2.1 dX9_firstRow_26 rfl hl (by decide) rfl (fun ls hl => ?_)
      refine lv_iconst (v := (0 : Int32)) C.1 C.2.1 dX9_firstRow_27 (by decide) ?_
      refine lv_istore (i := 4) (lv' := [(4, .int (0 : Int32)), (3, .int (0 : Int32)), (0, .ref (ad a0)), (1, .int x1), (2, .int x2)]) C.1 C.2.1 dX9_firstRow_28 hl (by decide) rfl (fun ls hl => ?_)
      exact w_X9_firstRow_30 fu C K hr hlk hR fu q3.2 a0 x1 x2 (0 : Int32) (0 : Int32) hE hk_a0 hf _ _ _ h (lv_sub hl [2, 3, 4, 1, 0] rfl)
    · have hf := if_f hf c7
      refine lv_iconst (v := (-1 : Int32)) C.1 C.2.1 dX9_firstRow_23 (by decide) ?_
      exact x_ri C hr hlk h hE (pf_1 (Option.some.inj hf)) (pf_2 (Option.some.inj hf)) dX9_firstRow_24
  · have hf := if_f hf c4
    refine lv_iconst (v := (0 : Int32)) C.1 C.2.1 dX9_firstRow_10 (by decide) ?_
    exact x_ri C hr hlk h hE (pf_1 (Option.some.inj hf)) (pf_2 (Option.some.inj hf)) dX9_firstRow_11
theorem c_X9_firstRow (fu : Nat) (l : Launch) (κ : Ka_) (G : va_G) (cy : Nat → ClassId) (ad : Nat → Nat) (sz : Nat) (σ : St_) (a0 : Nat) (x1 : Int32) (x2 : Int32) (hk_a0 : kd_ σ a0 = 9) {q : Int32 × St_} (hf : f_X9_firstRow fu σ a0 x1 x2 = some q) : Met l yX9_firstRow (Cond.code yX9_firstRow cX9_firstRow 5 (some .int) :: wU_) { frames := 47, cells := 0, slots := 0, locals := 1057 } (va_Pc [.ref (ad a0), .int x1, .int x2] (Pr_ κ G cy ad σ sz)) (Qi_ G cy ad σ q.2 sz q.1) 0 0 (va_A (wl_ cy ad σ) sz) :=
  x_met (by decide) (fun p e R s m below meth c ls hR C hr hlk hin _ K h hl => w_X9_firstRow fu C K hr hlk ⟨hR.1, hR.2.1⟩ σ a0 x1 x2 Ex_.rf hk_a0 hf s.heap [] ls h hl) (Nat.le_of_ble_eq_true rfl)
-- X9_tells
theorem mi_X9_tells : Mi_ yX9_tells cX9_tells 10 (some .int) 3 := ⟨co_yX9_tells, in_RX9, by decide, by decide, by decide +kernel⟩
def f_X9_tells_182 (fu : Nat) : Nat → St_ → Nat → Int32 → Int32 → Int32 → Int32 → Int32 → Int32 → Int32 → Option (Int32 × St_)
  | 0 => fun _ _ _ _ _ _ _ _ _ => none
  | n + 1 => fun σ  v0  v1  v2  v5  v6  v7  v8  v9 => if v8 < v9 then (f_X9_lays σ v0 v6 v2 v7).bind fun q2 => some (v5, q2) else (f_X9_lays σ v0 v6 v2 v9).bind fun q3 => (f_X9_firstOther fu q3 v0 v1 v2).bind fun q4 => if q4.1 = (-1 : Int32) then (f_X9_tells_182 fu n) q4.2 v0 v1 v2 (v5 ||| ((1 : Int32) <<< (v9 &&& 31))) v6 v7 v8 (v9 + (1 : Int32)) else (f_X9_tells_182 fu n) q4.2 v0 v1 v2 (v5 ||| ((0 : Int32) <<< (v9 &&& 31))) v6 v7 v8 (v9 + (1 : Int32))
set_option maxHeartbeats 4000000 in
set_option maxRecDepth 100000 in
theorem w_X9_tells_182 {p : Program} {l : Launch} {e : Env} {R : Room} {s : State} {m : MethodId} {args : Array Value} {below : List Frame} {meth : Method} {c : Code} {κ : Ka_} {G : va_G} {cy : Nat → ClassId} {ad : Nat → Nat} {sz : Nat} {σ0 : St_} (fu : Nat) (C : CallFix p m c cX9_tells 10 s args wU_ RX9) (K : Kx_ κ G cy (va_A (wl_ cy ad σ0) sz) s) (hr : meth.sig.returnType = some .int) (hlk : meth.locks = false) (hR : 48 ≤ R.frames ∧ 1081 ≤ R.locals) {q : Int32 × St_} : ∀ n : Nat, ∀ (σ : St_) (v0 : Nat) (v1 : Int32) (v2 : Int32) (v5 : Int32) (v6 : Int32) (v7 : Int32) (v8 : Int32) (v9 : Int32), Ex_ σ0 σ → kd_ σ v0 = 9 → f_X9_tells_182 fu n σ v0 v1 v2 v5 v6 v7 v8 v9 = some q → ∀ (H : Heap) (locs : List Loc) (ls : Array Slot), Ht_ G cy (va_A (wl_ cy ad σ0) sz) s ad σ H locs → lv_has ls 10 [(0, .ref (ad v0)), (1, .int v1), (2, .int v2), (5, .int v5), (6, .int v6), (7, .int v7), (8, .int v8), (9, .int v9)] → W p l e R s m args below meth c H locs 0 0 (MQ below (Qi_ G cy ad σ0 q.2 sz q.1) args s 0 0 (va_A (wl_ cy ad σ0) sz)) (F0 m 182 ls []) := by
  intro n
  induction n with
  | zero =>
    intro σ v0 v1 v2 v5 v6 v7 v8 v9 hE hk_v0 hf H locs ls h hl
    cases hf
  | succ n ih =>
    intro σ v0 v1 v2 v5 v6 v7 v8 v9 hE hk_v0 hf H locs ls h hl
    have hf : (if v8 < v9 then (f_X9_lays σ v0 v6 v2 v7).bind fun q2 => some (v5, q2) else (f_X9_lays σ v0 v6 v2 v9).bind fun q3 => (f_X9_firstOther fu q3 v0 v1 v2).bind fun q4 => if q4.1 = (-1 : Int32) then (f_X9_tells_182 fu n) q4.2 v0 v1 v2 (v5 ||| ((1 : Int32) <<< (v9 &&& 31))) v6 v7 v8 (v9 + (1 : Int32)) else (f_X9_tells_182 fu n) q4.2 v0 v1 v2 (v5 ||| ((0 : Int32) <<< (v9 &&& 31))) v6 v7 v8 (v9 + (1 : Int32))) = some q := hf
    refine lv_iload C.1 C.2.1 dX9_tells_182 (lv_at hl 7 rfl) ?_
    refine lv_iload C.1 C.2.1 dX9_tells_184 (lv_at hl 6 rfl) ?_
    refine lv_icmp_gt (tgt := 227) C.1 C.2.1 dX9_tells_186 (by decide) (fun c1 => ?_) (fun c1 => ?_)
    · have hf := if_t hf c1
      refine lv_aload_n C.1 C.2.1 dX9_tells_227 rfl (lv_at hl 0 rfl) ?_
      refine lv_iload C.1 C.2.1 dX9_tells_228 (lv_at hl 4 rfl) ?_
      refine lv_iload_n C.1 C.2.1 dX9_tells_230 rfl (lv_at hl 2 rfl) ?_
      refine lv_iload C.1 C.2.1 dX9_tells_231 (lv_at hl 5 rfl) ?_
      obtain ⟨q2, hq_q2, hf⟩ := ob_ hf
      refine x_av K h (x_V C K h [.int v6, .int v2, .int v7] (c_X9_lays l κ G cy ad H.size σ v0 v6 v2 v7 hk_v0 hq_q2) mi_X9_lays rfl im_yX9_lays se_yX9_lays ml_RX9_112 cl_9 hk_v0 ⟨rfl, rfl, Nat.le_trans (Nat.le_of_ble_eq_true rfl) hR.1, Nat.le_trans (Nat.le_of_ble_eq_true rfl) hR.2⟩ hl (Nat.le_of_ble_eq_true rfl) dX9_tells_233 ⟨Nat.zero_le _, Nat.zero_le _⟩ rfl) (fun H locs h hX => ?_)
      have hE := hE.trans hX
      have hk_v0 := hX.k hk_v0 (by decide)
      refine lv_iload C.1 C.2.1 dX9_tells_236 (lv_at hl 3 rfl) ?_
      exact x_ri C hr hlk h hE (pf_1 (Option.some.inj hf)) (pf_2 (Option.some.inj hf)) dX9_tells_238
    · have hf := if_f hf c1
      refine lv_aload_n C.1 C.2.1 dX9_tells_189 rfl (lv_at hl 0 rfl) ?_
      refine lv_iload C.1 C.2.1 dX9_tells_190 (lv_at hl 4 rfl) ?_
      refine lv_iload_n C.1 C.2.1 dX9_tells_192 rfl (lv_at hl 2 rfl) ?_
      refine lv_iload C.1 C.2.1 dX9_tells_193 (lv_at hl 7 rfl) ?_
      obtain ⟨q3, hq_q3, hf⟩ := ob_ hf
      refine x_av K h (x_V C K h [.int v6, .int v2, .int v9] (c_X9_lays l κ G cy ad H.size σ v0 v6 v2 v9 hk_v0 hq_q3) mi_X9_lays rfl im_yX9_lays se_yX9_lays ml_RX9_112 cl_9 hk_v0 ⟨rfl, rfl, Nat.le_trans (Nat.le_of_ble_eq_true rfl) hR.1, Nat.le_trans (Nat.le_of_ble_eq_true rfl) hR.2⟩ hl (Nat.le_of_ble_eq_true rfl) dX9_tells_195 ⟨Nat.zero_le _, Nat.zero_le _⟩ rfl) (fun H locs h hX => ?_)
      have hE := hE.trans hX
      have hk_v0 := hX.k hk_v0 (by decide)
      refine lv_iload C.1 C.2.1 dX9_tells_198 (lv_at hl 3 rfl) ?_
      refine lv_aload_n C.1 C.2.1 dX9_tells_200 rfl (lv_at hl 0 rfl) ?_
      refine lv_iload_n C.1 C.2.1 dX9_tells_201 rfl (lv_at hl 1 rfl) ?_
      refine lv_iload_n C.1 C.2.1 dX9_tells_202 rfl (lv_at hl 2 rfl) ?_
      obtain ⟨q4, hq_q4, hf⟩ := ob_ hf
      refine x_ai K h (x_V C K h [.int v1, .int v2] (c_X9_firstOther fu l κ G cy ad H.size q3 v0 v1 v2 hk_v0 hq_q4) mi_X9_firstOther rfl im_yX9_firstOther se_yX9_firstOther ml_RX9_403 cl_9 hk_v0 ⟨rfl, rfl, Nat.le_trans (Nat.le_of_ble_eq_true rfl) hR.1, Nat.le_trans (Nat.le_of_ble_eq_true rfl) hR.2⟩ hl (Nat.le_of_ble_eq_true rfl) dX9_tells_203 ⟨Nat.zero_le _, Nat.zero_le _⟩ rfl) (fun H locs h hX => ?_)
      have hE := hE.trans hX
      have hk_v0 := hX.k hk_v0 (by decide)
      refine lv_iconst (v := (-1 : Int32)) C.1 C.2.1 dX9_tells_206 (by decide) ?_
      refine lv_icmp_ne (tgt := 214) C.1 C.2.1 dX9_tells_207 (by decide) (fun c5 => ?_) (fun c5 => ?_)
      · have hf := if_f hf c5
        refine lv_iconst (v := (0 : Int32)) C.1 C.2.1 dX9_tells_214 (by decide) ?_
        refine lv_iload C.1 C.2.1 dX9_tells_215 (lv_at hl 7 rfl) ?_
        refine lv_ishl C.1 C.2.1 dX9_tells_217 ?_
        refine lv_ior C.1 C.2.1 dX9_tells_218 ?_
        refine lv_istore (i := 5) (lv' := [(5, .int (v5 ||| ((0 : Int32) <<< (v9 &&& 31)))), (0, .ref (ad v0)), (1, .int v1), (2, .int v2), (6, .int v6), (7, .int v7), (8, .int v8), (9, .int v9)]) C.1 C.2.1 dX9_tells_219 hl (by decide) rfl (fun ls hl => ?_)
        refine lv_iinc (v := v9 + (1 : Int32)) (lv' := [(9, .int (v9 + (1 : Int32))), (5, .int (v5 ||| ((0 : Int32) <<< (v9 &&& 31)))), (0, .ref (ad v0)), (1, .int v1), (2, .int v2), (6, .int v6), (7, .int v7), (8, .int v8)]) C.1 C.2.1 dX9_tells_221 hl (k := 7) rfl rfl (by decide) rfl (fun ls hl => ?_)
        refine lv_goto (tgt := 182) C.1 C.2.1 dX9_tells_224 (by decide) ?_
        exact ih q4.2 v0 v1 v2 (v5 ||| ((0 : Int32) <<< (v9 &&& 31))) v6 v7 v8 (v9 + (1 : Int32)) hE hk_v0 hf _ _ _ h (lv_sub hl [2, 3, 4, 1, 5, 6, 7, 0] rfl)
      · have hf := if_t hf c5
        refine lv_iconst (v := (1 : Int32)) C.1 C.2.1 dX9_tells_210 (by decide) ?_
        refine lv_goto (tgt := 215) C.1 C.2.1 dX9_tells_211 (by decide) ?_
        refine lv_iload C.1 C.2.1 dX9_tells_215 (lv_at hl 7 rfl) ?_
        refine lv_ishl C.1 C.2.1 dX9_tells_217 ?_
        refine lv_ior C.1 C.2.1 dX9_tells_218 ?_
        refine lv_istore (i := 5) (lv' := [(5, .int (v5 ||| ((1 : Int32) <<< (v9 &&& 31)))), (0, .ref (ad v0)), (1, .int v1), (2, .int v2), (6, .int v6), (7, .int v7), (8, .int v8), (9, .int v9)]) C.1 C.2.1 dX9_tells_219 hl (by decide) rfl (fun ls hl => ?_)
        refine lv_iinc (v := v9 + (1 : Int32)) (lv' := [(9, .int (v9 + (1 : Int32))), (5, .int (v5 ||| ((1 : Int32) <<< (v9 &&& 31)))), (0, .ref (ad v0)), (1, .int v1), (2, .int v2), (6, .int v6), (7, .int v7), (8, .int v8)]) C.1 C.2.1 dX9_tells_221 hl (k := 7) rfl rfl (by decide) rfl (fun ls hl => ?_)
        refine lv_goto (tgt := 182) C.1 C.2.1 dX9_tells_224 (by decide) ?_
        exact ih q4.2 v0 v1 v2 (v5 ||| ((1 : Int32) <<< (v9 &&& 31))) v6 v7 v8 (v9 + (1 : Int32)) hE hk_v0 hf _ _ _ h (lv_sub hl [2, 3, 4, 1, 5, 6, 7, 0] rfl)
def f_X9_tells_147 (fu : Nat) (σ : St_) (v0 : Nat) (v1 : Int32) (v2 : Int32) (v5 : Int32) (v6 : Int32) (s0 : Int32) : Option (Int32 × St_) := if v6 = (6 : Int32) then f_X9_tells_182 fu fu σ v0 v1 v2 v5 v6 s0 ((si_ σ v0 3) - (1 : Int32)) (0 : Int32) else if v6 = (5 : Int32) then f_X9_tells_182 fu fu σ v0 v1 v2 v5 v6 s0 (5 : Int32) (0 : Int32) else f_X9_tells_182 fu fu σ v0 v1 v2 v5 v6 s0 (9 : Int32) (0 : Int32)
set_option maxHeartbeats 4000000 in
set_option maxRecDepth 100000 in
theorem w_X9_tells_147 {p : Program} {l : Launch} {e : Env} {R : Room} {s : State} {m : MethodId} {args : Array Value} {below : List Frame} {meth : Method} {c : Code} {κ : Ka_} {G : va_G} {cy : Nat → ClassId} {ad : Nat → Nat} {sz : Nat} {σ0 : St_} (fu : Nat) (C : CallFix p m c cX9_tells 10 s args wU_ RX9) (K : Kx_ κ G cy (va_A (wl_ cy ad σ0) sz) s) (hr : meth.sig.returnType = some .int) (hlk : meth.locks = false) (hR : 48 ≤ R.frames ∧ 1081 ≤ R.locals) {q : Int32 × St_} : ∀ (σ : St_) (v0 : Nat) (v1 : Int32) (v2 : Int32) (v5 : Int32) (v6 : Int32) (s0 : Int32), Ex_ σ0 σ → kd_ σ v0 = 9 → f_X9_tells_147 fu σ v0 v1 v2 v5 v6 s0 = some q → ∀ (H : Heap) (locs : List Loc) (ls : Array Slot), Ht_ G cy (va_A (wl_ cy ad σ0) sz) s ad σ H locs → lv_has ls 10 [(0, .ref (ad v0)), (1, .int v1), (2, .int v2), (5, .int v5), (6, .int v6)] → W p l e R s m args below meth c H locs 0 0 (MQ below (Qi_ G cy ad σ0 q.2 sz q.1) args s 0 0 (va_A (wl_ cy ad σ0) sz)) (F0 m 147 ls [.int s0]) := by
  intro σ v0 v1 v2 v5 v6 s0 hE hk_v0 hf H locs ls h hl
  have hf : (if v6 = (6 : Int32) then f_X9_tells_182 fu fu σ v0 v1 v2 v5 v6 s0 ((si_ σ v0 3) - (1 : Int32)) (0 : Int32) else if v6 = (5 : Int32) then f_X9_tells_182 fu fu σ v0 v1 v2 v5 v6 s0 (5 : Int32) (0 : Int32) else f_X9_tells_182 fu fu σ v0 v1 v2 v5 v6 s0 (9 : Int32) (0 : Int32)) = some q := hf
  refine lv_istore (i := 7) (lv' := [(7, .int s0), (0, .ref (ad v0)), (1, .int v1), (2, .int v2), (5, .int v5), (6, .int v6)]) C.1 C.2.1 dX9_tells_147 hl (by decide) rfl (fun ls hl => ?_)
  refine lv_iload C.1 C.2.1 dX9_tells_149 (lv_at hl 5 rfl) ?_
  refine lv_bipush (v := (6 : Int32)) C.1 C.2.1 dX9_tells_151 (by decide) ?_
  refine lv_icmp_ne (tgt := 165) C.1 C.2.1 dX9_tells_153 (by decide) (fun c1 => ?_) (fun c1 => ?_)
  · have hf := if_f hf c1
    refine lv_iload C.1 C.2.1 dX9_tells_165 (lv_at hl 5 rfl) ?_
    refine lv_iconst (v := (5 : Int32)) C.1 C.2.1 dX9_tells_167 (by decide) ?_
    refine lv_icmp_ne (tgt := 175) C.1 C.2.1 dX9_tells_168 (by decide) (fun c2 => ?_) (fun c2 => ?_)
    · have hf := if_f hf c2
      refine lv_bipush (v := (9 : Int32)) C.1 C.2.1 dX9_tells_175 (by decide) ?_
      refine lv_istore (i := 8) (lv' := [(8, .int (9 : Int32)), (7, .int s0), (0, .ref (ad v0)), (1, .int v1), (2, .int v2), (5, .int v5), (6, .int v6)]) C.1 C.2.1 dX9_tells_177 hl (by decide) rfl (fun ls hl => ?_)
      refine lv_iconst (v := (0 : Int32)) C.1 C.2.1 dX9_tells_179 (by decide) ?_
      refine lv_istore (i := 9) (lv' := [(9, .int (0 : Int32)), (8, .int (9 : Int32)), (7, .int s0), (0, .ref (ad v0)), (1, .int v1), (2, .int v2), (5, .int v5), (6, .int v6)]) C.1 C.2.1 dX9_tells_180 hl (by decide) rfl (fun ls hl => ?_)
      exact w_X9_tells_182 fu C K hr hlk hR fu σ v0 v1 v2 v5 v6 s0 (9 : Int32) (0 : Int32) hE hk_v0 hf _ _ _ h (lv_sub hl [3, 4, 5, 6, 7, 2, 1, 0] rfl)
    · have hf := if_t hf c2
      refine lv_iconst (v := (5 : Int32)) C.1 C.2.1 dX9_tells_171 (by decide) ?_
      refine lv_goto (tgt := 177) C.1 C.2.1 dX9_tells_172 (by decide) ?_
      refine lv_istore (i := 8) (lv' := [(8, .int (5 : Int32)), (7, .int s0), (0, .ref (ad v0)), (1, .int v1), (2, .int v2), (5, .int v5), (6, .int v6)]) C.1 C.2.1 dX9_tells_177 hl (by decide) rfl (fun ls hl => ?_)
      refine lv_iconst (v := (0 : Int32)) C.1 C.2.1 dX9_tells_179 (by decide) ?_
      refine lv_istore (i := 9) (lv' := [(9, .int (0 : Int32)), (8, .int (5 : Int32)), (7, .int s0), (0, .ref (ad v0)), (1, .int v1), (2, .int v2), (5, .int v5), (6, .int v6)]) C.1 C.2.1 dX9_tells_180 hl (by decide) rfl (fun ls hl => ?_)
      exact w_X9_tells_182 fu C K hr hlk hR fu σ v0 v1 v2 v5 v6 s0 (5 : Int32) (0 : Int32) hE hk_v0 hf _ _ _ h (lv_sub hl [3, 4, 5, 6, 7, 2, 1, 0] rfl)
  · have hf := if_t hf c1
    refine lv_aload_n C.1 C.2.1 dX9_tells_156 rfl (lv_at hl 1 rfl) ?_
    refine x_get (v := .int (si_ σ v0 3)) C K h cl_9 hk_v0 3 (by decide) fl_RX9_77 rfl dX9_tells_157 ?_
    refine lv_iconst (v := (1 : Int32)) C.1 C.2.1 dX9_tells_160 (by decide) ?_
    refine lv_isub C.1 C.2.1 dX9_tells_161 ?_
    refine lv_goto (tgt := 177) C.1 C.2.1 dX9_tells_162 (by decide) ?_
    refine lv_istore (i := 8) (lv' := [(8, .int ((si_ σ v0 3) - (1 : Int32))), (7, .int s0), (0, .ref (ad v0)), (1, .int v1), (2, .int v2), (5, .int v5), (6, .int v6)]) C.1 C.2.1 dX9_tells_177 hl (by decide) rfl (fun ls hl => ?_)
    refine lv_iconst (v := (0 : Int32)) C.1 C.2.1 dX9_tells_179 (by decide) ?_
    refine lv_istore (i := 9) (lv' := [(9, .int (0 : Int32)), (8, .int ((si_ σ v0 3) - (1 : Int32))), (7, .int s0), (0, .ref (ad v0)), (1, .int v1), (2, .int v2), (5, .int v5), (6, .int v6)]) C.1 C.2.1 dX9_tells_180 hl (by decide) rfl (fun ls hl => ?_)
    exact w_X9_tells_182 fu C K hr hlk hR fu σ v0 v1 v2 v5 v6 s0 ((si_ σ v0 3) - (1 : Int32)) (0 : Int32) hE hk_v0 hf _ _ _ h (lv_sub hl [3, 4, 5, 6, 7, 2, 1, 0] rfl)
def f_X9_tells_124 (fu : Nat) (σ : St_) (v0 : Nat) (v1 : Int32) (v2 : Int32) (v5 : Int32) (s0 : Int32) : Option (Int32 × St_) := if s0 = (6 : Int32) then f_X9_tells_147 fu σ v0 v1 v2 v5 s0 (si_ σ v0 4) else (f_X9_told fu σ v0 v2 s0).bind fun q2 => f_X9_tells_147 fu q2.2 v0 v1 v2 v5 s0 q2.1
set_option maxHeartbeats 4000000 in
set_option maxRecDepth 100000 in
theorem w_X9_tells_124 {p : Program} {l : Launch} {e : Env} {R : Room} {s : State} {m : MethodId} {args : Array Value} {below : List Frame} {meth : Method} {c : Code} {κ : Ka_} {G : va_G} {cy : Nat → ClassId} {ad : Nat → Nat} {sz : Nat} {σ0 : St_} (fu : Nat) (C : CallFix p m c cX9_tells 10 s args wU_ RX9) (K : Kx_ κ G cy (va_A (wl_ cy ad σ0) sz) s) (hr : meth.sig.returnType = some .int) (hlk : meth.locks = false) (hR : 48 ≤ R.frames ∧ 1081 ≤ R.locals) {q : Int32 × St_} : ∀ (σ : St_) (v0 : Nat) (v1 : Int32) (v2 : Int32) (v5 : Int32) (s0 : Int32), Ex_ σ0 σ → kd_ σ v0 = 9 → f_X9_tells_124 fu σ v0 v1 v2 v5 s0 = some q → ∀ (H : Heap) (locs : List Loc) (ls : Array Slot), Ht_ G cy (va_A (wl_ cy ad σ0) sz) s ad σ H locs → lv_has ls 10 [(0, .ref (ad v0)), (1, .int v1), (2, .int v2), (5, .int v5)] → W p l e R s m args below meth c H locs 0 0 (MQ below (Qi_ G cy ad σ0 q.2 sz q.1) args s 0 0 (va_A (wl_ cy ad σ0) sz)) (F0 m 124 ls [.int s0]) := by
  intro σ v0 v1 v2 v5 s0 hE hk_v0 hf H locs ls h hl
  have hf : (if s0 = (6 : Int32) then f_X9_tells_147 fu σ v0 v1 v2 v5 s0 (si_ σ v0 4) else (f_X9_told fu σ v0 v2 s0).bind fun q2 => f_X9_tells_147 fu q2.2 v0 v1 v2 v5 s0 q2.1) = some q := hf
  refine lv_istore (i := 6) (lv' := [(6, .int s0), (0, .ref (ad v0)), (1, .int v1), (2, .int v2), (5, .int v5)]) C.1 C.2.1 dX9_tells_124 hl (by decide) rfl (fun ls hl => ?_)
  refine lv_iload C.1 C.2.1 dX9_tells_126 (lv_at hl 0 rfl) ?_
  refine lv_bipush (v := (6 : Int32)) C.1 C.2.1 dX9_tells_128 (by decide) ?_
  refine lv_icmp_ne (tgt := 140) C.1 C.2.1 dX9_tells_130 (by decide) (fun c1 => ?_) (fun c1 => ?_)
  · have hf := if_f hf c1
    refine lv_aload_n C.1 C.2.1 dX9_tells_140 rfl (lv_at hl 1 rfl) ?_
    refine lv_iload_n C.1 C.2.1 dX9_tells_141 rfl (lv_at hl 3 rfl) ?_
    refine lv_iload C.1 C.2.1 dX9_tells_142 (lv_at hl 0 rfl) ?_
    obtain ⟨q2, hq_q2, hf⟩ := ob_ hf
    refine x_ai K h (x_V C K h [.int v2, .int s0] (c_X9_told fu l κ G cy ad H.size σ v0 v2 s0 hk_v0 hq_q2) mi_X9_told rfl im_yX9_told se_yX9_told ml_RX9_108 cl_9 hk_v0 ⟨rfl, rfl, Nat.le_trans (Nat.le_of_ble_eq_true rfl) hR.1, Nat.le_trans (Nat.le_of_ble_eq_true rfl) hR.2⟩ hl (Nat.le_of_ble_eq_true rfl) dX9_tells_144 ⟨Nat.zero_le _, Nat.zero_le _⟩ rfl) (fun H locs h hX => ?_)
    have hE := hE.trans hX
    have hk_v0 := hX.k hk_v0 (by decide)
    exact w_X9_tells_147 fu C K hr hlk hR q2.2 v0 v1 v2 v5 s0 q2.1 hE hk_v0 hf _ _ _ h (lv_sub hl [1, 2, 3, 4, 0] rfl)
  · have hf := if_t hf c1
    refine lv_aload_n C.1 C.2.1 dX9_tells_133 rfl (lv_at hl 1 rfl) ?_
    refine x_get (v := .int (si_ σ v0 4)) C K h cl_9 hk_v0 4 (by decide) fl_RX9_119 rfl dX9_tells_134 ?_
    refine lv_goto (tgt := 147) C.1 C.2.1 dX9_tells_137 (by decide) ?_
    exact w_X9_tells_147 fu C K hr hlk hR σ v0 v1 v2 v5 s0 (si_ σ v0 4) hE hk_v0 hf _ _ _ h (lv_sub hl [1, 2, 3, 4, 0] rfl)
def f_X9_tells_61 (fu : Nat) : Nat → St_ → Nat → Int32 → Int32 → Int32 → Int32 → Option (Int32 × St_)
  | 0 => fun _ _ _ _ _ _ => none
  | n + 1 => fun σ  v0  v1  v2  v5  v6 => (dr_ σ 10 (sr_ σ v0 40)).bind fun b1 => (ix_ v1 (ln_ σ b1)).bind fun j2 => if (si_ σ b1 j2) ≤ v6 then some (v5, σ) else (f_X9_wordsAt fu σ v0 v1 v2 v6 (1 : Int32)).bind fun q4 => if q4.1 = (1 : Int32) then (f_X9_tells_61 fu n) q4.2 v0 v1 v2 (v5 + (1 : Int32)) (v6 + (1 : Int32)) else (f_X9_tells_61 fu n) q4.2 v0 v1 v2 (v5 + (0 : Int32)) (v6 + (1 : Int32))
set_option maxHeartbeats 4000000 in
set_option maxRecDepth 100000 in
theorem w_X9_tells_61 {p : Program} {l : Launch} {e : Env} {R : Room} {s : State} {m : MethodId} {args : Array Value} {below : List Frame} {meth : Method} {c : Code} {κ : Ka_} {G : va_G} {cy : Nat → ClassId} {ad : Nat → Nat} {sz : Nat} {σ0 : St_} (fu : Nat) (C : CallFix p m c cX9_tells 10 s args wU_ RX9) (K : Kx_ κ G cy (va_A (wl_ cy ad σ0) sz) s) (hr : meth.sig.returnType = some .int) (hlk : meth.locks = false) (hR : 48 ≤ R.frames ∧ 1081 ≤ R.locals) {q : Int32 × St_} : ∀ n : Nat, ∀ (σ : St_) (v0 : Nat) (v1 : Int32) (v2 : Int32) (v5 : Int32) (v6 : Int32), Ex_ σ0 σ → kd_ σ v0 = 9 → f_X9_tells_61 fu n σ v0 v1 v2 v5 v6 = some q → ∀ (H : Heap) (locs : List Loc) (ls : Array Slot), Ht_ G cy (va_A (wl_ cy ad σ0) sz) s ad σ H locs → lv_has ls 10 [(0, .ref (ad v0)), (1, .int v1), (2, .int v2), (5, .int v5), (6, .int v6)] → W p l e R s m args below meth c H locs 0 0 (MQ below (Qi_ G cy ad σ0 q.2 sz q.1) args s 0 0 (va_A (wl_ cy ad σ0) sz)) (F0 m 61 ls []) := by
  intro n
  induction n with
  | zero =>
    intro σ v0 v1 v2 v5 v6 hE hk_v0 hf H locs ls h hl
    cases hf
  | succ n ih =>
    intro σ v0 v1 v2 v5 v6 hE hk_v0 hf H locs ls h hl
    have hf : ((dr_ σ 10 (sr_ σ v0 40)).bind fun b1 => (ix_ v1 (ln_ σ b1)).bind fun j2 => if (si_ σ b1 j2) ≤ v6 then some (v5, σ) else (f_X9_wordsAt fu σ v0 v1 v2 v6 (1 : Int32)).bind fun q4 => if q4.1 = (1 : Int32) then (f_X9_tells_61 fu n) q4.2 v0 v1 v2 (v5 + (1 : Int32)) (v6 + (1 : Int32)) else (f_X9_tells_61 fu n) q4.2 v0 v1 v2 (v5 + (0 : Int32)) (v6 + (1 : Int32))) = some q := hf
    refine lv_iload C.1 C.2.1 dX9_tells_61 (lv_at hl 4 rfl) ?_
    refine lv_aload_n C.1 C.2.1 dX9_tells_63 rfl (lv_at hl 0 rfl) ?_
    obtain ⟨b1, hb_b1, hf⟩ := ob_ hf
    obtain ⟨hq_b1, hk_b1⟩ := dr_in hb_b1
    refine x_get (v := .ref (ad b1)) C K h cl_9 hk_v0 40 (by decide) fl_RX9_67 (hv_r (o := sr_ σ v0 40) rfl hq_b1) dX9_tells_64 ?_
    refine lv_iload_n C.1 C.2.1 dX9_tells_67 rfl (lv_at hl 1 rfl) ?_
    obtain ⟨j2, hj_j2, hf⟩ := ob_ hf
    refine x_iald C K h hk_b1 hj_j2 dX9_tells_68 ?_
    refine lv_icmp_ge (tgt := 101) C.1 C.2.1 dX9_tells_69 (by decide) (fun c3 => ?_) (fun c3 => ?_)
    · have hf := if_t hf c3
      refine lv_iload C.1 C.2.1 dX9_tells_101 (lv_at hl 3 rfl) ?_
      exact x_ri C hr hlk h hE (pf_1 (Option.some.inj hf)) (pf_2 (Option.some.inj hf)) dX9_tells_103
    · have hf := if_f hf c3
      refine lv_iload C.1 C.2.1 dX9_tells_72 (lv_at hl 3 rfl) ?_
      refine lv_aload_n C.1 C.2.1 dX9_tells_74 rfl (lv_at hl 0 rfl) ?_
      refine lv_iload_n C.1 C.2.1 dX9_tells_75 rfl (lv_at hl 1 rfl) ?_
      refine lv_iload_n C.1 C.2.1 dX9_tells_76 rfl (lv_at hl 2 rfl) ?_
      refine lv_iload C.1 C.2.1 dX9_tells_77 (lv_at hl 4 rfl) ?_
      refine lv_iconst (v := (1 : Int32)) C.1 C.2.1 dX9_tells_79 (by decide) ?_
      obtain ⟨q4, hq_q4, hf⟩ := ob_ hf
      refine x_ai K h (x_V C K h [.int v1, .int v2, .int v6, .int (1 : Int32)] (c_X9_wordsAt fu l κ G cy ad H.size σ v0 v1 v2 v6 (1 : Int32) hk_v0 hq_q4) mi_X9_wordsAt rfl im_yX9_wordsAt se_yX9_wordsAt ml_RX9_399 cl_9 hk_v0 ⟨rfl, rfl, Nat.le_trans (Nat.le_of_ble_eq_true rfl) hR.1, Nat.le_trans (Nat.le_of_ble_eq_true rfl) hR.2⟩ hl (Nat.le_of_ble_eq_true rfl) dX9_tells_80 ⟨Nat.zero_le _, Nat.zero_le _⟩ rfl) (fun H locs h hX => ?_)
      have hE := hE.trans hX
      have hk_v0 := hX.k hk_v0 (by decide)
      refine lv_iconst (v := (1 : Int32)) C.1 C.2.1 dX9_tells_83 (by decide) ?_
      refine lv_icmp_ne (tgt := 91) C.1 C.2.1 dX9_tells_84 (by decide) (fun c5 => ?_) (fun c5 => ?_)
      · have hf := if_f hf c5
        refine lv_iconst (v := (0 : Int32)) C.1 C.2.1 dX9_tells_91 (by decide) ?_
        refine lv_iadd C.1 C.2.1 dX9_tells_92 ?_
        refine lv_istore (i := 5) (lv' := [(5, .int (v5 + (0 : Int32))), (0, .ref (ad v0)), (1, .int v1), (2, .int v2), (6, .int v6)]) C.1 C.2.1 dX9_tells_93 hl (by decide) rfl (fun ls hl => ?_)
        refine lv_iinc (v := v6 + (1 : Int32)) (lv' := [(6, .int (v6 + (1 : Int32))), (5, .int (v5 + (0 : Int32))), (0, .ref (ad v0)), (1, .int v1), (2, .int v2)]) C.1 C.2.1 dX9_tells_95 hl (k := 4) rfl rfl (by decide) rfl (fun ls hl => ?_)
        refine lv_goto (tgt := 61) C.1 C.2.1 dX9_tells_98 (by decide) ?_
        exact ih q4.2 v0 v1 v2 (v5 + (0 : Int32)) (v6 + (1 : Int32)) hE hk_v0 hf _ _ _ h (lv_sub hl [2, 3, 4, 1, 0] rfl)
      · have hf := if_t hf c5
        refine lv_iconst (v := (1 : Int32)) C.1 C.2.1 dX9_tells_87 (by decide) ?_
        refine lv_goto (tgt := 92) C.1 C.2.1 dX9_tells_88 (by decide) ?_
        refine lv_iadd C.1 C.2.1 dX9_tells_92 ?_
        refine lv_istore (i := 5) (lv' := [(5, .int (v5 + (1 : Int32))), (0, .ref (ad v0)), (1, .int v1), (2, .int v2), (6, .int v6)]) C.1 C.2.1 dX9_tells_93 hl (by decide) rfl (fun ls hl => ?_)
        refine lv_iinc (v := v6 + (1 : Int32)) (lv' := [(6, .int (v6 + (1 : Int32))), (5, .int (v5 + (1 : Int32))), (0, .ref (ad v0)), (1, .int v1), (2, .int v2)]) C.1 C.2.1 dX9_tells_95 hl (k := 4) rfl rfl (by decide) rfl (fun ls hl => ?_)
        refine lv_goto (tgt := 61) C.1 C.2.1 dX9_tells_98 (by decide) ?_
        exact ih q4.2 v0 v1 v2 (v5 + (1 : Int32)) (v6 + (1 : Int32)) hE hk_v0 hf _ _ _ h (lv_sub hl [2, 3, 4, 1, 0] rfl)
def f_X9_tells (fu : Nat) (σ : St_) (a0 : Nat) (x1 : Int32) (x2 : Int32) (x3 : Int32) : Option (Int32 × St_) := (f_X9_toldBad fu σ a0 x1 x2 (f_X9_in x3.toInt64 (0 : Int64) (5 : Int64))).bind fun q6 => if q6 = 0 then if (2 : Int32) ≤ x3 then if x3 = (2 : Int32) then f_X9_tells_61 fu fu σ a0 x1 x2 (0 : Int32) (0 : Int32) else if x3 = (3 : Int32) then f_X9_tells_124 fu σ a0 x1 x2 (0 : Int32) (5 : Int32) else if x3 = (4 : Int32) then f_X9_tells_124 fu σ a0 x1 x2 (0 : Int32) (2 : Int32) else f_X9_tells_124 fu σ a0 x1 x2 (0 : Int32) (6 : Int32) else if x3 = 0 then (f_X9_firstOther fu σ a0 x1 x2).bind fun q14 => some (q14.1, q14.2) else (f_X9_firstRow fu σ a0 x1 x2).bind fun q13 => some (q13.1, q13.2) else some (q6, σ)
set_option maxHeartbeats 4000000 in
set_option maxRecDepth 100000 in
theorem w_X9_tells {p : Program} {l : Launch} {e : Env} {R : Room} {s : State} {m : MethodId} {args : Array Value} {below : List Frame} {meth : Method} {c : Code} {κ : Ka_} {G : va_G} {cy : Nat → ClassId} {ad : Nat → Nat} {sz : Nat} {σ0 : St_} (fu : Nat) (C : CallFix p m c cX9_tells 10 s args wU_ RX9) (K : Kx_ κ G cy (va_A (wl_ cy ad σ0) sz) s) (hr : meth.sig.returnType = some .int) (hlk : meth.locks = false) (hR : 48 ≤ R.frames ∧ 1081 ≤ R.locals) {q : Int32 × St_} : ∀ (σ : St_) (a0 : Nat) (x1 : Int32) (x2 : Int32) (x3 : Int32), Ex_ σ0 σ → kd_ σ a0 = 9 → f_X9_tells fu σ a0 x1 x2 x3 = some q → ∀ (H : Heap) (locs : List Loc) (ls : Array Slot), Ht_ G cy (va_A (wl_ cy ad σ0) sz) s ad σ H locs → lv_has ls 10 [(0, .ref (ad a0)), (1, .int x1), (2, .int x2), (3, .int x3)] → W p l e R s m args below meth c H locs 0 0 (MQ below (Qi_ G cy ad σ0 q.2 sz q.1) args s 0 0 (va_A (wl_ cy ad σ0) sz)) (F0 m 0 ls []) := by
  intro σ a0 x1 x2 x3 hE hk_a0 hf H locs ls h hl
  have hf : ((f_X9_toldBad fu σ a0 x1 x2 (f_X9_in x3.toInt64 (0 : Int64) (5 : Int64))).bind fun q6 => if q6 = 0 then if (2 : Int32) ≤ x3 then if x3 = (2 : Int32) then f_X9_tells_61 fu fu σ a0 x1 x2 (0 : Int32) (0 : Int32) else if x3 = (3 : Int32) then f_X9_tells_124 fu σ a0 x1 x2 (0 : Int32) (5 : Int32) else if x3 = (4 : Int32) then f_X9_tells_124 fu σ a0 x1 x2 (0 : Int32) (2 : Int32) else f_X9_tells_124 fu σ a0 x1 x2 (0 : Int32) (6 : Int32) else if x3 = 0 then (f_X9_firstOther fu σ a0 x1 x2).bind fun q14 => some (q14.1, q14.2) else (f_X9_firstRow fu σ a0 x1 x2).bind fun q13 => some (q13.1, q13.2) else some (q6, σ)) = some q := hf
  refine lv_aload_n C.1 C.2.1 dX9_tells_0 rfl (lv_at hl 0 rfl) ?_
  refine lv_iload_n C.1 C.2.1 dX9_tells_1 rfl (lv_at hl 1 rfl) ?_
  refine lv_iload_n C.1 C.2.1 dX9_tells_2 rfl (lv_at hl 2 rfl) ?_
  refine lv_iload_n C.1 C.2.1 dX9_tells_3 rfl (lv_at hl 3 rfl) ?_
  refine lv_i2l C.1 C.2.1 dX9_tells_4 rfl ?_
  refine lv_lconst (v := (0 : Int64)) C.1 C.2.1 dX9_tells_5 (by decide) ?_
  refine lv_ldc2 (v := (5 : Int64)) C.1 C.2.1 C.2.2.2.1 (C.2.2.2.2 _ cl_RX9_122) dX9_tells_6 ?_
  refine x_az K h (x_S C K h [.long x3.toInt64, .long (0 : Int64), .long (5 : Int64)] (c_X9_in l κ G cy ad H.size σ x3.toInt64 (0 : Int64) (5 : Int64) rfl) mi_X9_in rfl st_yX9_in ml_RX9_83 ⟨rfl, rfl, Nat.le_trans (Nat.le_of_ble_eq_true rfl) hR.1, Nat.le_trans (Nat.le_of_ble_eq_true rfl) hR.2⟩ hl (Nat.le_of_ble_eq_true rfl) dX9_tells_9 ⟨Nat.zero_le _, Nat.zero_le _⟩ rfl) (fun H locs h hX hz5 => ?_)
  obtain ⟨q6, hq_q6, hf⟩ := ob_ hf
  refine x_ai K h (x_V C K h [.int x1, .int x2, .int (f_X9_in x3.toInt64 (0 : Int64) (5 : Int64))] (c_X9_toldBad fu l κ G cy ad H.size σ a0 x1 x2 (f_X9_in x3.toInt64 (0 : Int64) (5 : Int64)) hk_a0 hq_q6) mi_X9_toldBad rfl im_yX9_toldBad se_yX9_toldBad ml_RX9_406 cl_9 hk_a0 ⟨rfl, rfl, Nat.le_trans (Nat.le_of_ble_eq_true rfl) hR.1, Nat.le_trans (Nat.le_of_ble_eq_true rfl) hR.2⟩ hl (Nat.le_of_ble_eq_true rfl) dX9_tells_12 ⟨Nat.zero_le _, Nat.zero_le _⟩ rfl) (fun H locs h hX => ?_)
  refine lv_istore (i := 4) (lv' := [(4, .int q6), (0, .ref (ad a0)), (1, .int x1), (2, .int x2), (3, .int x3)]) C.1 C.2.1 dX9_tells_15 hl (by decide) rfl (fun ls hl => ?_)
  refine lv_iload C.1 C.2.1 dX9_tells_17 (lv_at hl 0 rfl) ?_
  refine lv_if_eq (tgt := 25) C.1 C.2.1 dX9_tells_19 (by decide) (fun c7 => ?_) (fun c7 => ?_)
  · have hf := if_t hf c7
    refine lv_iload_n C.1 C.2.1 dX9_tells_25 rfl (lv_at hl 4 rfl) ?_
    refine lv_iconst (v := (2 : Int32)) C.1 C.2.1 dX9_tells_26 (by decide) ?_
    refine lv_icmp_ge (tgt := 50) C.1 C.2.1 dX9_tells_27 (by decide) (fun c8 => ?_) (fun c8 => ?_)
    · have hf := if_t hf c8
      refine lv_iconst (v := (0 : Int32)) C.1 C.2.1 dX9_tells_50 (by decide) ?_
      refine lv_istore (i := 5) (lv' := [(5, .int (0 : Int32)), (4, .int q6), (0, .ref (ad a0)), (1, .int x1), (2, .int x2), (3, .int x3)]) C.1 C.2.1 dX9_tells_51 hl (by decide) rfl (fun ls hl => ?_)
      refine lv_iload_n C.1 C.2.1 dX9_tells_53 rfl (lv_at hl 5 rfl) ?_
      refine lv_iconst (v := (2 : Int32)) C.1 C.2.1 dX9_tells_54 (by decide) ?_
      refine lv_icmp_ne (tgt := 104) C.1 C.2.1 dX9_tells_55 (by decide) (fun c9 => ?_) (fun c9 => ?_)
      · have hf := if_f hf c9
        refine lv_iload_n C.1 C.2.1 dX9_tells_104 rfl (lv_at hl 5 rfl) ?_
        refine lv_iconst (v := (3 : Int32)) C.1 C.2.1 dX9_tells_105 (by decide) ?_
        refine lv_icmp_ne (tgt := 113) C.1 C.2.1 dX9_tells_106 (by decide) (fun c10 => ?_) (fun c10 => ?_)
        · have hf := if_f hf c10
          refine lv_iload_n C.1 C.2.1 dX9_tells_113 rfl (lv_at hl 5 rfl) ?_
          refine lv_iconst (v := (4 : Int32)) C.1 C.2.1 dX9_tells_114 (by decide) ?_
          refine lv_icmp_ne (tgt := 122) C.1 C.2.1 dX9_tells_115 (by decide) (fun c11 => ?_) (fun c11 => ?_)
          · have hf := if_f hf c11
            refine lv_bipush (v := (6 : Int32)) C.1 C.2.1 dX9_tells_122 (by decide) ?_
            exact w_X9_tells_124 fu C K hr hlk hR σ a0 x1 x2 (0 : Int32) (6 : Int32) hE hk_a0 hf _ _ _ h (lv_sub hl [2, 3, 4, 0] rfl)
          · have hf := if_t hf c11
            refine lv_iconst (v := (2 : Int32)) C.1 C.2.1 dX9_tells_118 (by decide) ?_
            refine lv_goto (tgt := 124) C.1 C.2.1 dX9_tells_119 (by decide) ?_
            exact w_X9_tells_124 fu C K hr hlk hR σ a0 x1 x2 (0 : Int32) (2 : Int32) hE hk_a0 hf _ _ _ h (lv_sub hl [2, 3, 4, 0] rfl)
        · have hf := if_t hf c10
          refine lv_iconst (v := (5 : Int32)) C.1 C.2.1 dX9_tells_109 (by decide) ?_
          refine lv_goto (tgt := 124) C.1 C.2.1 dX9_tells_110 (by decide) ?_
          exact w_X9_tells_124 fu C K hr hlk hR σ a0 x1 x2 (0 : Int32) (5 : Int32) hE hk_a0 hf _ _ _ h (lv_sub hl [2, 3, 4, 0] rfl)
      · have hf := if_t hf c9
        refine lv_iconst (v := (0 : Int32)) C.1 C.2.1 dX9_tells_58 (by decide) ?_
        refine lv_istore (i := 6) (lv' := [(6, .int (0 : Int32)), (5, .int (0 : Int32)), (4, .int q6), (0, .ref (ad a0)), (1, .int x1), (2, .int x2), (3, .int x3)]) C.1 C.2.1 dX9_tells_59 hl (by decide) rfl (fun ls hl => ?_)
        exact w_X9_tells_61 fu C K hr hlk hR fu σ a0 x1 x2 (0 : Int32) (0 : Int32) hE hk_a0 hf _ _ _ h (lv_sub hl [3, 4, 5, 1, 0] rfl)
    · have hf := if_f hf c8
      refine lv_iload_n C.1 C.2.1 dX9_tells_30 rfl (lv_at hl 4 rfl) ?_
      refine lv_if_ne (tgt := 43) C.1 C.2.1 dX9_tells_31 (by decide) (fun c12 => ?_) (fun c12 => ?_)
      · have hf := if_f hf c12
        refine lv_aload_n C.1 C.2.1 dX9_tells_43 rfl (lv_at hl 1 rfl) ?_
        refine lv_iload_n C.1 C.2.1 dX9_tells_44 rfl (lv_at hl 2 rfl) ?_
        refine lv_iload_n C.1 C.2.1 dX9_tells_45 rfl (lv_at hl 3 rfl) ?_
        obtain ⟨q13, hq_q13, hf⟩ := ob_ hf
        refine x_ai K h (x_V C K h [.int x1, .int x2] (c_X9_firstRow fu l κ G cy ad H.size σ a0 x1 x2 hk_a0 hq_q13) mi_X9_firstRow rfl im_yX9_firstRow se_yX9_firstRow ml_RX9_410 cl_9 hk_a0 ⟨rfl, rfl, Nat.le_trans (Nat.le_of_ble_eq_true rfl) hR.1, Nat.le_trans (Nat.le_of_ble_eq_true rfl) hR.2⟩ hl (Nat.le_of_ble_eq_true rfl) dX9_tells_46 ⟨Nat.zero_le _, Nat.zero_le _⟩ rfl) (fun H locs h hX => ?_)
        have hE := hE.trans hX
        have hk_a0 := hX.k hk_a0 (by decide)
        exact x_ri C hr hlk h hE (pf_1 (Option.some.inj hf)) (pf_2 (Option.some.inj hf)) dX9_tells_49
      · have hf := if_t hf c12
        refine lv_aload_n C.1 C.2.1 dX9_tells_34 rfl (lv_at hl 1 rfl) ?_
        refine lv_iload_n C.1 C.2.1 dX9_tells_35 rfl (lv_at hl 2 rfl) ?_
        refine lv_iload_n C.1 C.2.1 dX9_tells_36 rfl (lv_at hl 3 rfl) ?_
        obtain ⟨q14, hq_q14, hf⟩ := ob_ hf
        refine x_ai K h (x_V C K h [.int x1, .int x2] (c_X9_firstOther fu l κ G cy ad H.size σ a0 x1 x2 hk_a0 hq_q14) mi_X9_firstOther rfl im_yX9_firstOther se_yX9_firstOther ml_RX9_403 cl_9 hk_a0 ⟨rfl, rfl, Nat.le_trans (Nat.le_of_ble_eq_true rfl) hR.1, Nat.le_trans (Nat.le_of_ble_eq_true rfl) hR.2⟩ hl (Nat.le_of_ble_eq_true rfl) dX9_tells_37 ⟨Nat.zero_le _, Nat.zero_le _⟩ rfl) (fun H locs h hX => ?_)
        have hE := hE.trans hX
        have hk_a0 := hX.k hk_a0 (by decide)
        refine lv_goto (tgt := 49) C.1 C.2.1 dX9_tells_40 (by decide) ?_
        exact x_ri C hr hlk h hE (pf_1 (Option.some.inj hf)) (pf_2 (Option.some.inj hf)) dX9_tells_49
  · have hf := if_f hf c7
    refine lv_iload C.1 C.2.1 dX9_tells_22 (lv_at hl 0 rfl) ?_
    exact x_ri C hr hlk h hE (pf_1 (Option.some.inj hf)) (pf_2 (Option.some.inj hf)) dX9_tells_24
theorem c_X9_tells (fu : Nat) (l : Launch) (κ : Ka_) (G : va_G) (cy : Nat → ClassId) (ad : Nat → Nat) (sz : Nat) (σ : St_) (a0 : Nat) (x1 : Int32) (x2 : Int32) (x3 : Int32) (hk_a0 : kd_ σ a0 = 9) {q : Int32 × St_} (hf : f_X9_tells fu σ a0 x1 x2 x3 = some q) : Met l yX9_tells (Cond.code yX9_tells cX9_tells 10 (some .int) :: wU_) { frames := 48, cells := 0, slots := 0, locals := 1081 } (va_Pc [.ref (ad a0), .int x1, .int x2, .int x3] (Pr_ κ G cy ad σ sz)) (Qi_ G cy ad σ q.2 sz q.1) 0 0 (va_A (wl_ cy ad σ) sz) :=
  x_met (by decide) (fun p e R s m below meth c ls hR C hr hlk hin _ K h hl => w_X9_tells fu C K hr hlk ⟨hR.1, hR.2.1⟩ σ a0 x1 x2 x3 Ex_.rf hk_a0 hf s.heap [] ls h hl) (Nat.le_of_ble_eq_true rfl)
-- X9_ways
theorem mi_X9_ways : Mi_ yX9_ways cX9_ways 8 (some .long) 3 := ⟨co_yX9_ways, in_RX9, by decide, by decide, by decide +kernel⟩
def f_X9_ways_83 (fu : Nat) : Nat → St_ → Nat → Int32 → Int32 → Int32 → Int64 → Int32 → Option (Int64 × St_)
  | 0 => fun _ _ _ _ _ _ _ => none
  | n + 1 => fun σ  v0  v1  v2  v4  v5  v7 => if (36 : Int32) ≤ v7 then (dr_ σ 10 (sr_ σ v0 10)).bind fun b2 => (ix_ (((3 : Int32) * v2) + (1 : Int32)) (ln_ σ b2)).bind fun j3 => some (v5, ui_ σ b2 j3 v4) else (dr_ σ 10 (sr_ σ v0 10)).bind fun b4 => (ix_ (((3 : Int32) * v2) + (1 : Int32)) (ln_ σ b4)).bind fun j5 => (f_X9_firstOther fu (ui_ σ b4 j5 v7) v0 v1 v2).bind fun q6 => if q6.1 = (-1 : Int32) then (f_X9_ways_83 fu n) q6.2 v0 v1 v2 v4 (v5 ||| ((1 : Int64) <<< (v7.toInt64 &&& 63))) (v7 + (1 : Int32)) else (f_X9_ways_83 fu n) q6.2 v0 v1 v2 v4 (v5 ||| (0 : Int64)) (v7 + (1 : Int32))
set_option maxHeartbeats 4000000 in
set_option maxRecDepth 100000 in
theorem w_X9_ways_83 {p : Program} {l : Launch} {e : Env} {R : Room} {s : State} {m : MethodId} {args : Array Value} {below : List Frame} {meth : Method} {c : Code} {κ : Ka_} {G : va_G} {cy : Nat → ClassId} {ad : Nat → Nat} {sz : Nat} {σ0 : St_} (fu : Nat) (C : CallFix p m c cX9_ways 8 s args wU_ RX9) (K : Kx_ κ G cy (va_A (wl_ cy ad σ0) sz) s) (hr : meth.sig.returnType = some .long) (hlk : meth.locks = false) (hR : 47 ≤ R.frames ∧ 1057 ≤ R.locals) {q : Int64 × St_} : ∀ n : Nat, ∀ (σ : St_) (v0 : Nat) (v1 : Int32) (v2 : Int32) (v4 : Int32) (v5 : Int64) (v7 : Int32), Ex_ σ0 σ → kd_ σ v0 = 9 → f_X9_ways_83 fu n σ v0 v1 v2 v4 v5 v7 = some q → ∀ (H : Heap) (locs : List Loc) (ls : Array Slot), Ht_ G cy (va_A (wl_ cy ad σ0) sz) s ad σ H locs → lv_has ls 8 [(0, .ref (ad v0)), (1, .int v1), (2, .int v2), (4, .int v4), (5, .long v5), (7, .int v7)] → W p l e R s m args below meth c H locs 0 0 (MQ below (Ql_ G cy ad σ0 q.2 sz q.1) args s 0 0 (va_A (wl_ cy ad σ0) sz)) (F0 m 83 ls []) := by
  intro n
  induction n with
  | zero =>
    intro σ v0 v1 v2 v4 v5 v7 hE hk_v0 hf H locs ls h hl
    cases hf
  | succ n ih =>
    intro σ v0 v1 v2 v4 v5 v7 hE hk_v0 hf H locs ls h hl
    have hf : (if (36 : Int32) ≤ v7 then (dr_ σ 10 (sr_ σ v0 10)).bind fun b2 => (ix_ (((3 : Int32) * v2) + (1 : Int32)) (ln_ σ b2)).bind fun j3 => some (v5, ui_ σ b2 j3 v4) else (dr_ σ 10 (sr_ σ v0 10)).bind fun b4 => (ix_ (((3 : Int32) * v2) + (1 : Int32)) (ln_ σ b4)).bind fun j5 => (f_X9_firstOther fu (ui_ σ b4 j5 v7) v0 v1 v2).bind fun q6 => if q6.1 = (-1 : Int32) then (f_X9_ways_83 fu n) q6.2 v0 v1 v2 v4 (v5 ||| ((1 : Int64) <<< (v7.toInt64 &&& 63))) (v7 + (1 : Int32)) else (f_X9_ways_83 fu n) q6.2 v0 v1 v2 v4 (v5 ||| (0 : Int64)) (v7 + (1 : Int32))) = some q := hf
    refine lv_iload C.1 C.2.1 dX9_ways_83 (lv_at hl 5 rfl) ?_
    refine lv_bipush (v := (36 : Int32)) C.1 C.2.1 dX9_ways_85 (by decide) ?_
    refine lv_icmp_ge (tgt := 131) C.1 C.2.1 dX9_ways_87 (by decide) (fun c1 => ?_) (fun c1 => ?_)
    · have hf := if_t hf c1
      refine lv_aload_n C.1 C.2.1 dX9_ways_131 rfl (lv_at hl 0 rfl) ?_
      obtain ⟨b2, hb_b2, hf⟩ := ob_ hf
      obtain ⟨hq_b2, hk_b2⟩ := dr_in hb_b2
      refine x_get (v := .ref (ad b2)) C K h cl_9 hk_v0 10 (by decide) fl_RX9_29 (hv_r (o := sr_ σ v0 10) rfl hq_b2) dX9_ways_132 ?_
      refine lv_iconst (v := (3 : Int32)) C.1 C.2.1 dX9_ways_135 (by decide) ?_
      refine lv_iload_n C.1 C.2.1 dX9_ways_136 rfl (lv_at hl 2 rfl) ?_
      refine lv_imul C.1 C.2.1 dX9_ways_137 ?_
      refine lv_iconst (v := (1 : Int32)) C.1 C.2.1 dX9_ways_138 (by decide) ?_
      refine lv_iadd C.1 C.2.1 dX9_ways_139 ?_
      refine lv_iload C.1 C.2.1 dX9_ways_140 (lv_at hl 3 rfl) ?_
      obtain ⟨j3, hj_j3, hf⟩ := ob_ hf
      refine x_iast C K h hk_b2 hj_j3 dX9_ways_142 (fun H locs h => ?_)
      have hE := hE.up (up_i σ b2 j3 v4)
      refine lv_lload C.1 C.2.1 dX9_ways_143 (lv_at hl 4 rfl) ?_
      exact x_rl C hr hlk h hE (pf_1 (Option.some.inj hf)) (pf_2 (Option.some.inj hf)) dX9_ways_145
    · have hf := if_f hf c1
      refine lv_aload_n C.1 C.2.1 dX9_ways_90 rfl (lv_at hl 0 rfl) ?_
      obtain ⟨b4, hb_b4, hf⟩ := ob_ hf
      obtain ⟨hq_b4, hk_b4⟩ := dr_in hb_b4
      refine x_get (v := .ref (ad b4)) C K h cl_9 hk_v0 10 (by decide) fl_RX9_29 (hv_r (o := sr_ σ v0 10) rfl hq_b4) dX9_ways_91 ?_
      refine lv_iconst (v := (3 : Int32)) C.1 C.2.1 dX9_ways_94 (by decide) ?_
      refine lv_iload_n C.1 C.2.1 dX9_ways_95 rfl (lv_at hl 2 rfl) ?_
      refine lv_imul C.1 C.2.1 dX9_ways_96 ?_
      refine lv_iconst (v := (1 : Int32)) C.1 C.2.1 dX9_ways_97 (by decide) ?_
      refine lv_iadd C.1 C.2.1 dX9_ways_98 ?_
      refine lv_iload C.1 C.2.1 dX9_ways_99 (lv_at hl 5 rfl) ?_
      obtain ⟨j5, hj_j5, hf⟩ := ob_ hf
      refine x_iast C K h hk_b4 hj_j5 dX9_ways_101 (fun H locs h => ?_)
      have hE := hE.up (up_i σ b4 j5 v7)
      refine lv_lload C.1 C.2.1 dX9_ways_102 (lv_at hl 4 rfl) ?_
      refine lv_aload_n C.1 C.2.1 dX9_ways_104 rfl (lv_at hl 0 rfl) ?_
      refine lv_iload_n C.1 C.2.1 dX9_ways_105 rfl (lv_at hl 1 rfl) ?_
      refine lv_iload_n C.1 C.2.1 dX9_ways_106 rfl (lv_at hl 2 rfl) ?_
      obtain ⟨q6, hq_q6, hf⟩ := ob_ hf
      refine x_ai K h (x_V C K h [.int v1, .int v2] (c_X9_firstOther fu l κ G cy ad H.size (ui_ σ b4 j5 v7) v0 v1 v2 hk_v0 hq_q6) mi_X9_firstOther rfl im_yX9_firstOther se_yX9_firstOther ml_RX9_403 cl_9 hk_v0 ⟨rfl, rfl, Nat.le_trans (Nat.le_of_ble_eq_true rfl) hR.1, Nat.le_trans (Nat.le_of_ble_eq_true rfl) hR.2⟩ hl (Nat.le_of_ble_eq_true rfl) dX9_ways_107 ⟨Nat.zero_le _, Nat.zero_le _⟩ rfl) (fun H locs h hX => ?_)
      have hE := hE.trans hX
      have hk_v0 := hX.k hk_v0 (by decide)
      refine lv_iconst (v := (-1 : Int32)) C.1 C.2.1 dX9_ways_110 (by decide) ?_
      refine lv_icmp_ne (tgt := 121) C.1 C.2.1 dX9_ways_111 (by decide) (fun c7 => ?_) (fun c7 => ?_)
      · have hf := if_f hf c7
        refine lv_lconst (v := (0 : Int64)) C.1 C.2.1 dX9_ways_121 (by decide) ?_
        refine lv_lor C.1 C.2.1 dX9_ways_122 ?_
        refine lv_lstore (i := 5) (lv' := [(5, .long (v5 ||| (0 : Int64))), (0, .ref (ad v0)), (1, .int v1), (2, .int v2), (4, .int v4), (7, .int v7)]) C.1 C.2.1 dX9_ways_123 hl (by decide) rfl (fun ls hl => ?_)
        refine lv_iinc (v := v7 + (1 : Int32)) (lv' := [(7, .int (v7 + (1 : Int32))), (5, .long (v5 ||| (0 : Int64))), (0, .ref (ad v0)), (1, .int v1), (2, .int v2), (4, .int v4)]) C.1 C.2.1 dX9_ways_125 hl (k := 5) rfl rfl (by decide) rfl (fun ls hl => ?_)
        refine lv_goto (tgt := 83) C.1 C.2.1 dX9_ways_128 (by decide) ?_
        exact ih q6.2 v0 v1 v2 v4 (v5 ||| (0 : Int64)) (v7 + (1 : Int32)) hE hk_v0 hf _ _ _ h (lv_sub hl [2, 3, 4, 5, 1, 0] rfl)
      · have hf := if_t hf c7
        refine lv_lconst (v := (1 : Int64)) C.1 C.2.1 dX9_ways_114 (by decide) ?_
        refine lv_iload C.1 C.2.1 dX9_ways_115 (lv_at hl 5 rfl) ?_
        refine lv_lshl C.1 C.2.1 dX9_ways_117 rfl ?_
        refine lv_goto (tgt := 122) C.1 C.2.1 dX9_ways_118 (by decide) ?_
        refine lv_lor C.1 C.2.1 dX9_ways_122 ?_
        refine lv_lstore (i := 5) (lv' := [(5, .long (v5 ||| ((1 : Int64) <<< (v7.toInt64 &&& 63)))), (0, .ref (ad v0)), (1, .int v1), (2, .int v2), (4, .int v4), (7, .int v7)]) C.1 C.2.1 dX9_ways_123 hl (by decide) rfl (fun ls hl => ?_)
        refine lv_iinc (v := v7 + (1 : Int32)) (lv' := [(7, .int (v7 + (1 : Int32))), (5, .long (v5 ||| ((1 : Int64) <<< (v7.toInt64 &&& 63)))), (0, .ref (ad v0)), (1, .int v1), (2, .int v2), (4, .int v4)]) C.1 C.2.1 dX9_ways_125 hl (k := 5) rfl rfl (by decide) rfl (fun ls hl => ?_)
        refine lv_goto (tgt := 83) C.1 C.2.1 dX9_ways_128 (by decide) ?_
        exact ih q6.2 v0 v1 v2 v4 (v5 ||| ((1 : Int64) <<< (v7.toInt64 &&& 63))) (v7 + (1 : Int32)) hE hk_v0 hf _ _ _ h (lv_sub hl [2, 3, 4, 5, 1, 0] rfl)
def f_X9_ways_30 (fu : Nat) : Nat → St_ → Nat → Int32 → Int32 → Int64 → Int32 → Option (Int64 × St_)
  | 0 => fun _ _ _ _ _ _ => none
  | n + 1 => fun σ  v0  v1  v2  v4  v6 => (dr_ σ 10 (sr_ σ v0 40)).bind fun b1 => (ix_ v1 (ln_ σ b1)).bind fun j2 => if (si_ σ b1 j2) ≤ v6 then some (v4, σ) else (f_X9_wordsAt fu σ v0 v1 v2 v6 (1 : Int32)).bind fun q4 => (f_X9_ways_30 fu n) q4.2 v0 v1 v2 (v4 * q4.1.toInt64) (v6 + (1 : Int32))
set_option maxHeartbeats 4000000 in
set_option maxRecDepth 100000 in
theorem w_X9_ways_30 {p : Program} {l : Launch} {e : Env} {R : Room} {s : State} {m : MethodId} {args : Array Value} {below : List Frame} {meth : Method} {c : Code} {κ : Ka_} {G : va_G} {cy : Nat → ClassId} {ad : Nat → Nat} {sz : Nat} {σ0 : St_} (fu : Nat) (C : CallFix p m c cX9_ways 8 s args wU_ RX9) (K : Kx_ κ G cy (va_A (wl_ cy ad σ0) sz) s) (hr : meth.sig.returnType = some .long) (hlk : meth.locks = false) (hR : 47 ≤ R.frames ∧ 1057 ≤ R.locals) {q : Int64 × St_} : ∀ n : Nat, ∀ (σ : St_) (v0 : Nat) (v1 : Int32) (v2 : Int32) (v4 : Int64) (v6 : Int32), Ex_ σ0 σ → kd_ σ v0 = 9 → f_X9_ways_30 fu n σ v0 v1 v2 v4 v6 = some q → ∀ (H : Heap) (locs : List Loc) (ls : Array Slot), Ht_ G cy (va_A (wl_ cy ad σ0) sz) s ad σ H locs → lv_has ls 8 [(0, .ref (ad v0)), (1, .int v1), (2, .int v2), (4, .long v4), (6, .int v6)] → W p l e R s m args below meth c H locs 0 0 (MQ below (Ql_ G cy ad σ0 q.2 sz q.1) args s 0 0 (va_A (wl_ cy ad σ0) sz)) (F0 m 30 ls []) := by
  intro n
  induction n with
  | zero =>
    intro σ v0 v1 v2 v4 v6 hE hk_v0 hf H locs ls h hl
    cases hf
  | succ n ih =>
    intro σ v0 v1 v2 v4 v6 hE hk_v0 hf H locs ls h hl
    have hf : ((dr_ σ 10 (sr_ σ v0 40)).bind fun b1 => (ix_ v1 (ln_ σ b1)).bind fun j2 => if (si_ σ b1 j2) ≤ v6 then some (v4, σ) else (f_X9_wordsAt fu σ v0 v1 v2 v6 (1 : Int32)).bind fun q4 => (f_X9_ways_30 fu n) q4.2 v0 v1 v2 (v4 * q4.1.toInt64) (v6 + (1 : Int32))) = some q := hf
    refine lv_iload C.1 C.2.1 dX9_ways_30 (lv_at hl 4 rfl) ?_
    refine lv_aload_n C.1 C.2.1 dX9_ways_32 rfl (lv_at hl 0 rfl) ?_
    obtain ⟨b1, hb_b1, hf⟩ := ob_ hf
    obtain ⟨hq_b1, hk_b1⟩ := dr_in hb_b1
    refine x_get (v := .ref (ad b1)) C K h cl_9 hk_v0 40 (by decide) fl_RX9_67 (hv_r (o := sr_ σ v0 40) rfl hq_b1) dX9_ways_33 ?_
    refine lv_iload_n C.1 C.2.1 dX9_ways_36 rfl (lv_at hl 1 rfl) ?_
    obtain ⟨j2, hj_j2, hf⟩ := ob_ hf
    refine x_iald C K h hk_b1 hj_j2 dX9_ways_37 ?_
    refine lv_icmp_ge (tgt := 62) C.1 C.2.1 dX9_ways_38 (by decide) (fun c3 => ?_) (fun c3 => ?_)
    · have hf := if_t hf c3
      refine lv_lload C.1 C.2.1 dX9_ways_62 (lv_at hl 3 rfl) ?_
      exact x_rl C hr hlk h hE (pf_1 (Option.some.inj hf)) (pf_2 (Option.some.inj hf)) dX9_ways_64
    · have hf := if_f hf c3
      refine lv_lload C.1 C.2.1 dX9_ways_41 (lv_at hl 3 rfl) ?_
      refine lv_aload_n C.1 C.2.1 dX9_ways_43 rfl (lv_at hl 0 rfl) ?_
      refine lv_iload_n C.1 C.2.1 dX9_ways_44 rfl (lv_at hl 1 rfl) ?_
      refine lv_iload_n C.1 C.2.1 dX9_ways_45 rfl (lv_at hl 2 rfl) ?_
      refine lv_iload C.1 C.2.1 dX9_ways_46 (lv_at hl 4 rfl) ?_
      refine lv_iconst (v := (1 : Int32)) C.1 C.2.1 dX9_ways_48 (by decide) ?_
      obtain ⟨q4, hq_q4, hf⟩ := ob_ hf
      refine x_ai K h (x_V C K h [.int v1, .int v2, .int v6, .int (1 : Int32)] (c_X9_wordsAt fu l κ G cy ad H.size σ v0 v1 v2 v6 (1 : Int32) hk_v0 hq_q4) mi_X9_wordsAt rfl im_yX9_wordsAt se_yX9_wordsAt ml_RX9_399 cl_9 hk_v0 ⟨rfl, rfl, Nat.le_trans (Nat.le_of_ble_eq_true rfl) hR.1, Nat.le_trans (Nat.le_of_ble_eq_true rfl) hR.2⟩ hl (Nat.le_of_ble_eq_true rfl) dX9_ways_49 ⟨Nat.zero_le _, Nat.zero_le _⟩ rfl) (fun H locs h hX => ?_)
      have hE := hE.trans hX
      have hk_v0 := hX.k hk_v0 (by decide)
      refine lv_i2l C.1 C.2.1 dX9_ways_52 rfl ?_
      refine lv_lmul C.1 C.2.1 dX9_ways_53 ?_
      refine lv_lstore (i := 4) (lv' := [(4, .long (v4 * q4.1.toInt64)), (0, .ref (ad v0)), (1, .int v1), (2, .int v2), (6, .int v6)]) C.1 C.2.1 dX9_ways_54 hl (by decide) rfl (fun ls hl => ?_)
      refine lv_iinc (v := v6 + (1 : Int32)) (lv' := [(6, .int (v6 + (1 : Int32))), (4, .long (v4 * q4.1.toInt64)), (0, .ref (ad v0)), (1, .int v1), (2, .int v2)]) C.1 C.2.1 dX9_ways_56 hl (k := 4) rfl rfl (by decide) rfl (fun ls hl => ?_)
      refine lv_goto (tgt := 30) C.1 C.2.1 dX9_ways_59 (by decide) ?_
      exact ih q4.2 v0 v1 v2 (v4 * q4.1.toInt64) (v6 + (1 : Int32)) hE hk_v0 hf _ _ _ h (lv_sub hl [2, 3, 4, 1, 0] rfl)
def f_X9_ways (fu : Nat) (σ : St_) (a0 : Nat) (x1 : Int32) (x2 : Int32) (x3 : Int32) : Option (Int64 × St_) := (f_X9_toldBad fu σ a0 x1 x2 (f_X9_in x3.toInt64 (0 : Int64) (1 : Int64))).bind fun q6 => if q6 = 0 then if x3 = 0 then f_X9_ways_30 fu fu σ a0 x1 x2 (1 : Int64) (0 : Int32) else (dr_ σ 10 (sr_ σ a0 10)).bind fun b9 => (ix_ (((3 : Int32) * x2) + (1 : Int32)) (ln_ σ b9)).bind fun j10 => f_X9_ways_83 fu fu σ a0 x1 x2 (si_ σ b9 j10) (0 : Int64) (0 : Int32) else some ((-4611686018427387904 : Int64), σ)
set_option maxHeartbeats 4000000 in
set_option maxRecDepth 100000 in
theorem w_X9_ways {p : Program} {l : Launch} {e : Env} {R : Room} {s : State} {m : MethodId} {args : Array Value} {below : List Frame} {meth : Method} {c : Code} {κ : Ka_} {G : va_G} {cy : Nat → ClassId} {ad : Nat → Nat} {sz : Nat} {σ0 : St_} (fu : Nat) (C : CallFix p m c cX9_ways 8 s args wU_ RX9) (K : Kx_ κ G cy (va_A (wl_ cy ad σ0) sz) s) (hr : meth.sig.returnType = some .long) (hlk : meth.locks = false) (hR : 47 ≤ R.frames ∧ 1057 ≤ R.locals) {q : Int64 × St_} : ∀ (σ : St_) (a0 : Nat) (x1 : Int32) (x2 : Int32) (x3 : Int32), Ex_ σ0 σ → kd_ σ a0 = 9 → f_X9_ways fu σ a0 x1 x2 x3 = some q → ∀ (H : Heap) (locs : List Loc) (ls : Array Slot), Ht_ G cy (va_A (wl_ cy ad σ0) sz) s ad σ H locs → lv_has ls 8 [(0, .ref (ad a0)), (1, .int x1), (2, .int x2), (3, .int x3)] → W p l e R s m args below meth c H locs 0 0 (MQ below (Ql_ G cy ad σ0 q.2 sz q.1) args s 0 0 (va_A (wl_ cy ad σ0) sz)) (F0 m 0 ls []) := by
  intro σ a0 x1 x2 x3 hE hk_a0 hf H locs ls h hl
  have hf : ((f_X9_toldBad fu σ a0 x1 x2 (f_X9_in x3.toInt64 (0 : Int64) (1 : Int64))).bind fun q6 => if q6 = 0 then if x3 = 0 then f_X9_ways_30 fu fu σ a0 x1 x2 (1 : Int64) (0 : Int32) else (dr_ σ 10 (sr_ σ a0 10)).bind fun b9 => (ix_ (((3 : Int32) * x2) + (1 : Int32)) (ln_ σ b9)).bind fun j10 => f_X9_ways_83 fu fu σ a0 x1 x2 (si_ σ b9 j10) (0 : Int64) (0 : Int32) else some ((-4611686018427387904 : Int64), σ)) = some q := hf
  refine lv_aload_n C.1 C.2.1 dX9_ways_0 rfl (lv_at hl 0 rfl) ?_
  refine lv_iload_n C.1 C.2.1 dX9_ways_1 rfl (lv_at hl 1 rfl) ?_
  refine lv_iload_n C.1 C.2.1 dX9_ways_2 rfl (lv_at hl 2 rfl) ?_
  refine lv_iload_n C.1 C.2.1 dX9_ways_3 rfl (lv_at hl 3 rfl) ?_
  refine lv_i2l C.1 C.2.1 dX9_ways_4 rfl ?_
  refine lv_lconst (v := (0 : Int64)) C.1 C.2.1 dX9_ways_5 (by decide) ?_
  refine lv_lconst (v := (1 : Int64)) C.1 C.2.1 dX9_ways_6 (by decide) ?_
  refine x_az K h (x_S C K h [.long x3.toInt64, .long (0 : Int64), .long (1 : Int64)] (c_X9_in l κ G cy ad H.size σ x3.toInt64 (0 : Int64) (1 : Int64) rfl) mi_X9_in rfl st_yX9_in ml_RX9_83 ⟨rfl, rfl, Nat.le_trans (Nat.le_of_ble_eq_true rfl) hR.1, Nat.le_trans (Nat.le_of_ble_eq_true rfl) hR.2⟩ hl (Nat.le_of_ble_eq_true rfl) dX9_ways_7 ⟨Nat.zero_le _, Nat.zero_le _⟩ rfl) (fun H locs h hX hz5 => ?_)
  obtain ⟨q6, hq_q6, hf⟩ := ob_ hf
  refine x_ai K h (x_V C K h [.int x1, .int x2, .int (f_X9_in x3.toInt64 (0 : Int64) (1 : Int64))] (c_X9_toldBad fu l κ G cy ad H.size σ a0 x1 x2 (f_X9_in x3.toInt64 (0 : Int64) (1 : Int64)) hk_a0 hq_q6) mi_X9_toldBad rfl im_yX9_toldBad se_yX9_toldBad ml_RX9_406 cl_9 hk_a0 ⟨rfl, rfl, Nat.le_trans (Nat.le_of_ble_eq_true rfl) hR.1, Nat.le_trans (Nat.le_of_ble_eq_true rfl) hR.2⟩ hl (Nat.le_of_ble_eq_true rfl) dX9_ways_10 ⟨Nat.zero_le _, Nat.zero_le _⟩ rfl) (fun H locs h hX => ?_)
  refine lv_if_eq (tgt := 20) C.1 C.2.1 dX9_ways_13 (by decide) (fun c7 => ?_) (fun c7 => ?_)
  · have hf := if_t hf c7
    refine lv_iload_n C.1 C.2.1 dX9_ways_20 rfl (lv_at hl 3 rfl) ?_
    refine lv_if_ne (tgt := 65) C.1 C.2.1 dX9_ways_21 (by decide) (fun c8 => ?_) (fun c8 => ?_)
    · have hf := if_f hf c8
      refine lv_aload_n C.1 C.2.1 dX9_ways_65 rfl (lv_at hl 0 rfl) ?_
      obtain ⟨b9, hb_b9, hf⟩ := ob_ hf
      obtain ⟨hq_b9, hk_b9⟩ := dr_in hb_b9
      refine x_get (v := .ref (ad b9)) C K h cl_9 hk_a0 10 (by decide) fl_RX9_29 (hv_r (o := sr_ σ a0 10) rfl hq_b9) dX9_ways_66 ?_
      refine lv_iconst (v := (3 : Int32)) C.1 C.2.1 dX9_ways_69 (by decide) ?_
      refine lv_iload_n C.1 C.2.1 dX9_ways_70 rfl (lv_at hl 2 rfl) ?_
      refine lv_imul C.1 C.2.1 dX9_ways_71 ?_
      refine lv_iconst (v := (1 : Int32)) C.1 C.2.1 dX9_ways_72 (by decide) ?_
      refine lv_iadd C.1 C.2.1 dX9_ways_73 ?_
      obtain ⟨j10, hj_j10, hf⟩ := ob_ hf
      refine x_iald C K h hk_b9 hj_j10 dX9_ways_74 ?_
      refine lv_istore (i := 4) (lv' := [(4, .int (si_ σ b9 j10)), (0, .ref (ad a0)), (1, .int x1), (2, .int x2), (3, .int x3)]) C.1 C.2.1 dX9_ways_75 hl (by decide) rfl (fun ls hl => ?_)
      refine lv_lconst (v := (0 : Int64)) C.1 C.2.1 dX9_ways_77 (by decide) ?_
      refine lv_lstore (i := 5) (lv' := [(5, .long (0 : Int64)), (4, .int (si_ σ b9 j10)), (0, .ref (ad a0)), (1, .int x1), (2, .int x2), (3, .int x3)]) C.1 C.2.1 dX9_ways_78 hl (by decide) rfl (fun ls hl => ?_)
      refine lv_iconst (v := (0 : Int32)) C.1 C.2.1 dX9_ways_80 (by decide) ?_
      refine lv_istore (i := 7) (lv' := [(7, .int (0 : Int32)), (5, .long (0 : Int64)), (4, .int (si_ σ b9 j10)), (0, .ref (ad a0)), (1, .int x1), (2, .int x2), (3, .int x3)]) C.1 C.2.1 dX9_ways_81 hl (by decide) rfl (fun ls hl => ?_)
      exact w_X9_ways_83 fu C K hr hlk hR fu σ a0 x1 x2 (si_ σ b9 j10) (0 : Int64) (0 : Int32) hE hk_a0 hf _ _ _ h (lv_sub hl [3, 4, 5, 2, 1, 0] rfl)
    · have hf := if_t hf c8
      refine lv_lconst (v := (1 : Int64)) C.1 C.2.1 dX9_ways_24 (by decide) ?_
      refine lv_lstore (i := 4) (lv' := [(4, .long (1 : Int64)), (0, .ref (ad a0)), (1, .int x1), (2, .int x2), (3, .int x3)]) C.1 C.2.1 dX9_ways_25 hl (by decide) rfl (fun ls hl => ?_)
      refine lv_iconst (v := (0 : Int32)) C.1 C.2.1 dX9_ways_27 (by decide) ?_
      refine lv_istore (i := 6) (lv' := [(6, .int (0 : Int32)), (4, .long (1 : Int64)), (0, .ref (ad a0)), (1, .int x1), (2, .int x2), (3, .int x3)]) C.1 C.2.1 dX9_ways_28 hl (by decide) rfl (fun ls hl => ?_)
      exact w_X9_ways_30 fu C K hr hlk hR fu σ a0 x1 x2 (1 : Int64) (0 : Int32) hE hk_a0 hf _ _ _ h (lv_sub hl [2, 3, 4, 1, 0] rfl)
  · have hf := if_f hf c7
    refine lv_ldc2 (v := (-4611686018427387904 : Int64)) C.1 C.2.1 C.2.2.2.1 (C.2.2.2.2 _ cl_RX9_378) dX9_ways_16 ?_
    exact x_rl C hr hlk h hE (pf_1 (Option.some.inj hf)) (pf_2 (Option.some.inj hf)) dX9_ways_19
theorem c_X9_ways (fu : Nat) (l : Launch) (κ : Ka_) (G : va_G) (cy : Nat → ClassId) (ad : Nat → Nat) (sz : Nat) (σ : St_) (a0 : Nat) (x1 : Int32) (x2 : Int32) (x3 : Int32) (hk_a0 : kd_ σ a0 = 9) {q : Int64 × St_} (hf : f_X9_ways fu σ a0 x1 x2 x3 = some q) : Met l yX9_ways (Cond.code yX9_ways cX9_ways 8 (some .long) :: wU_) { frames := 47, cells := 0, slots := 0, locals := 1057 } (va_Pc [.ref (ad a0), .int x1, .int x2, .int x3] (Pr_ κ G cy ad σ sz)) (Ql_ G cy ad σ q.2 sz q.1) 0 0 (va_A (wl_ cy ad σ) sz) :=
  x_met (by decide) (fun p e R s m below meth c ls hR C hr hlk hin _ K h hl => w_X9_ways fu C K hr hlk ⟨hR.1, hR.2.1⟩ σ a0 x1 x2 x3 Ex_.rf hk_a0 hf s.heap [] ls h hl) (Nat.le_of_ble_eq_true rfl)
-- X9_drawn
theorem mi_X9_drawn : Mi_ yX9_drawn cX9_drawn 7 (some .int) 3 := ⟨co_yX9_drawn, in_RX9, by decide, by decide, by decide +kernel⟩
def f_X9_drawn_41 (fu : Nat) : Nat → St_ → Nat → Int32 → Int32 → Int32 → Int32 → Int32 → Option (Int32 × St_)
  | 0 => fun _ _ _ _ _ _ _ => none
  | n + 1 => fun σ  v0  v2  v3  v4  v5  v6 => if v3 ≤ v6 then some (v5, σ) else (f_X9_goesTo fu σ v0 v2 v5 (((((v4 * (1103515245 : Int32)) + (12345 : Int32)).toUInt32 >>> ((9 : Int32).toUInt32 &&& Int32.toUInt32 31)).toInt32) - ((((v4 * (1103515245 : Int32)) + (12345 : Int32)).toUInt32 >>> ((9 : Int32).toUInt32 &&& Int32.toUInt32 31)).toInt32) / (8 : Int32) * (8 : Int32))).bind fun q2 => (f_X9_drawn_41 fu n) q2.2 v0 v2 v3 ((v4 * (1103515245 : Int32)) + (12345 : Int32)) q2.1 (v6 + (1 : Int32))
set_option maxHeartbeats 4000000 in
set_option maxRecDepth 100000 in
theorem w_X9_drawn_41 {p : Program} {l : Launch} {e : Env} {R : Room} {s : State} {m : MethodId} {args : Array Value} {below : List Frame} {meth : Method} {c : Code} {κ : Ka_} {G : va_G} {cy : Nat → ClassId} {ad : Nat → Nat} {sz : Nat} {σ0 : St_} (fu : Nat) (C : CallFix p m c cX9_drawn 7 s args wU_ RX9) (K : Kx_ κ G cy (va_A (wl_ cy ad σ0) sz) s) (hr : meth.sig.returnType = some .int) (hlk : meth.locks = false) (hR : 45 ≤ R.frames ∧ 1006 ≤ R.locals) {q : Int32 × St_} : ∀ n : Nat, ∀ (σ : St_) (v0 : Nat) (v2 : Int32) (v3 : Int32) (v4 : Int32) (v5 : Int32) (v6 : Int32), Ex_ σ0 σ → kd_ σ v0 = 9 → f_X9_drawn_41 fu n σ v0 v2 v3 v4 v5 v6 = some q → ∀ (H : Heap) (locs : List Loc) (ls : Array Slot), Ht_ G cy (va_A (wl_ cy ad σ0) sz) s ad σ H locs → lv_has ls 7 [(0, .ref (ad v0)), (2, .int v2), (3, .int v3), (4, .int v4), (5, .int v5), (6, .int v6)] → W p l e R s m args below meth c H locs 0 0 (MQ below (Qi_ G cy ad σ0 q.2 sz q.1) args s 0 0 (va_A (wl_ cy ad σ0) sz)) (F0 m 41 ls []) := by
  intro n
  induction n with
  | zero =>
    intro σ v0 v2 v3 v4 v5 v6 hE hk_v0 hf H locs ls h hl
    cases hf
  | succ n ih =>
    intro σ v0 v2 v3 v4 v5 v6 hE hk_v0 hf H locs ls h hl
    have hf : (if v3 ≤ v6 then some (v5, σ) else (f_X9_goesTo fu σ v0 v2 v5 (((((v4 * (1103515245 : Int32)) + (12345 : Int32)).toUInt32 >>> ((9 : Int32).toUInt32 &&& Int32.toUInt32 31)).toInt32) - ((((v4 * (1103515245 : Int32)) + (12345 : Int32)).toUInt32 >>> ((9 : Int32).toUInt32 &&& Int32.toUInt32 31)).toInt32) / (8 : Int32) * (8 : Int32))).bind fun q2 => (f_X9_drawn_41 fu n) q2.2 v0 v2 v3 ((v4 * (1103515245 : Int32)) + (12345 : Int32)) q2.1 (v6 + (1 : Int32))) = some q := hf
    refine lv_iload C.1 C.2.1 dX9_drawn_41 (lv_at hl 5 rfl) ?_
    refine lv_iload_n C.1 C.2.1 dX9_drawn_43 rfl (lv_at hl 2 rfl) ?_
    refine lv_icmp_ge (tgt := 82) C.1 C.2.1 dX9_drawn_44 (by decide) (fun c1 => ?_) (fun c1 => ?_)
    · have hf := if_t hf c1
      refine lv_iload C.1 C.2.1 dX9_drawn_82 (lv_at hl 4 rfl) ?_
      exact x_ri C hr hlk h hE (pf_1 (Option.some.inj hf)) (pf_2 (Option.some.inj hf)) dX9_drawn_84
    · have hf := if_f hf c1
      refine lv_iload C.1 C.2.1 dX9_drawn_47 (lv_at hl 3 rfl) ?_
      refine lv_ldcw (v := (1103515245 : Int32)) C.1 C.2.1 C.2.2.2.1 (C.2.2.2.2 _ ck_RX9_415) dX9_drawn_49 ?_
      refine lv_imul C.1 C.2.1 dX9_drawn_52 ?_
      refine lv_sipush (v := (12345 : Int32)) C.1 C.2.1 dX9_drawn_53 (by decide) ?_
      refine lv_iadd C.1 C.2.1 dX9_drawn_56 ?_
      refine lv_istore (i := 4) (lv' := [(4, .int ((v4 * (1103515245 : Int32)) + (12345 : Int32))), (0, .ref (ad v0)), (2, .int v2), (3, .int v3), (5, .int v5), (6, .int v6)]) C.1 C.2.1 dX9_drawn_57 hl (by decide) rfl (fun ls hl => ?_)
      refine lv_aload_n C.1 C.2.1 dX9_drawn_59 rfl (lv_at hl 1 rfl) ?_
      refine lv_iload_n C.1 C.2.1 dX9_drawn_60 rfl (lv_at hl 2 rfl) ?_
      refine lv_iload C.1 C.2.1 dX9_drawn_61 (lv_at hl 4 rfl) ?_
      refine lv_iload C.1 C.2.1 dX9_drawn_63 (lv_at hl 0 rfl) ?_
      refine lv_bipush (v := (9 : Int32)) C.1 C.2.1 dX9_drawn_65 (by decide) ?_
      refine lv_iushr C.1 C.2.1 dX9_drawn_67 rfl ?_
      refine lv_bipush (v := (8 : Int32)) C.1 C.2.1 dX9_drawn_68 (by decide) ?_
      refine lv_irem C.1 C.2.1 dX9_drawn_70 (by decide) ?_
      obtain ⟨q2, hq_q2, hf⟩ := ob_ hf
      refine x_ai K h (x_V C K h [.int v2, .int v5, .int (((((v4 * (1103515245 : Int32)) + (12345 : Int32)).toUInt32 >>> ((9 : Int32).toUInt32 &&& Int32.toUInt32 31)).toInt32) - ((((v4 * (1103515245 : Int32)) + (12345 : Int32)).toUInt32 >>> ((9 : Int32).toUInt32 &&& Int32.toUInt32 31)).toInt32) / (8 : Int32) * (8 : Int32))] (c_X9_goesTo fu l κ G cy ad H.size σ v0 v2 v5 (((((v4 * (1103515245 : Int32)) + (12345 : Int32)).toUInt32 >>> ((9 : Int32).toUInt32 &&& Int32.toUInt32 31)).toInt32) - ((((v4 * (1103515245 : Int32)) + (12345 : Int32)).toUInt32 >>> ((9 : Int32).toUInt32 &&& Int32.toUInt32 31)).toInt32) / (8 : Int32) * (8 : Int32)) hk_v0 hq_q2) mi_X9_goesTo rfl im_yX9_goesTo se_yX9_goesTo ml_RX9_132 cl_9 hk_v0 ⟨rfl, rfl, Nat.le_trans (Nat.le_of_ble_eq_true rfl) hR.1, Nat.le_trans (Nat.le_of_ble_eq_true rfl) hR.2⟩ hl (Nat.le_of_ble_eq_true rfl) dX9_drawn_71 ⟨Nat.zero_le _, Nat.zero_le _⟩ rfl) (fun H locs h hX => ?_)
      have hE := hE.trans hX
      have hk_v0 := hX.k hk_v0 (by decide)
      refine lv_istore (i := 5) (lv' := [(5, .int q2.1), (4, .int ((v4 * (1103515245 : Int32)) + (12345 : Int32))), (0, .ref (ad v0)), (2, .int v2), (3, .int v3), (6, .int v6)]) C.1 C.2.1 dX9_drawn_74 hl (by decide) rfl (fun ls hl => ?_)
      refine lv_iinc (v := v6 + (1 : Int32)) (lv' := [(6, .int (v6 + (1 : Int32))), (5, .int q2.1), (4, .int ((v4 * (1103515245 : Int32)) + (12345 : Int32))), (0, .ref (ad v0)), (2, .int v2), (3, .int v3)]) C.1 C.2.1 dX9_drawn_76 hl (k := 5) rfl rfl (by decide) rfl (fun ls hl => ?_)
      refine lv_goto (tgt := 41) C.1 C.2.1 dX9_drawn_79 (by decide) ?_
      exact ih q2.2 v0 v2 v3 ((v4 * (1103515245 : Int32)) + (12345 : Int32)) q2.1 (v6 + (1 : Int32)) hE hk_v0 hf _ _ _ h (lv_sub hl [3, 4, 5, 2, 1, 0] rfl)
def f_X9_drawn (fu : Nat) (σ : St_) (a0 : Nat) (x1 : Int32) (x2 : Int32) (x3 : Int32) : Option (Int32 × St_) := if (f_X9_isOne σ a0 x2) = 0 then some ((-2 : Int32), σ) else if (f_X9_in x3.toInt64 (0 : Int64) (99 : Int64)) = 0 then some ((-2 : Int32), σ) else (dr_ σ 10 (sr_ σ a0 10)).bind fun b10 => (ix_ (((3 : Int32) * x2) + (1 : Int32)) (ln_ σ b10)).bind fun j11 => f_X9_drawn_41 fu fu σ a0 x2 x3 x1 (si_ σ b10 j11) (0 : Int32)
set_option maxHeartbeats 4000000 in
set_option maxRecDepth 100000 in
theorem w_X9_drawn {p : Program} {l : Launch} {e : Env} {R : Room} {s : State} {m : MethodId} {args : Array Value} {below : List Frame} {meth : Method} {c : Code} {κ : Ka_} {G : va_G} {cy : Nat → ClassId} {ad : Nat → Nat} {sz : Nat} {σ0 : St_} (fu : Nat) (C : CallFix p m c cX9_drawn 7 s args wU_ RX9) (K : Kx_ κ G cy (va_A (wl_ cy ad σ0) sz) s) (hr : meth.sig.returnType = some .int) (hlk : meth.locks = false) (hR : 45 ≤ R.frames ∧ 1006 ≤ R.locals) {q : Int32 × St_} : ∀ (σ : St_) (a0 : Nat) (x1 : Int32) (x2 : Int32) (x3 : Int32), Ex_ σ0 σ → kd_ σ a0 = 9 → f_X9_drawn fu σ a0 x1 x2 x3 = some q → ∀ (H : Heap) (locs : List Loc) (ls : Array Slot), Ht_ G cy (va_A (wl_ cy ad σ0) sz) s ad σ H locs → lv_has ls 7 [(0, .ref (ad a0)), (1, .int x1), (2, .int x2), (3, .int x3)] → W p l e R s m args below meth c H locs 0 0 (MQ below (Qi_ G cy ad σ0 q.2 sz q.1) args s 0 0 (va_A (wl_ cy ad σ0) sz)) (F0 m 0 ls []) := by
  intro σ a0 x1 x2 x3 hE hk_a0 hf H locs ls h hl
  have hf : (if (f_X9_isOne σ a0 x2) = 0 then some ((-2 : Int32), σ) else if (f_X9_in x3.toInt64 (0 : Int64) (99 : Int64)) = 0 then some ((-2 : Int32), σ) else (dr_ σ 10 (sr_ σ a0 10)).bind fun b10 => (ix_ (((3 : Int32) * x2) + (1 : Int32)) (ln_ σ b10)).bind fun j11 => f_X9_drawn_41 fu fu σ a0 x2 x3 x1 (si_ σ b10 j11) (0 : Int32)) = some q := hf
  refine lv_aload_n C.1 C.2.1 dX9_drawn_0 rfl (lv_at hl 0 rfl) ?_
  refine lv_iload_n C.1 C.2.1 dX9_drawn_1 rfl (lv_at hl 2 rfl) ?_
  refine x_az K h (x_V C K h [.int x2] (c_X9_isOne l κ G cy ad H.size σ a0 x2 hk_a0 rfl) mi_X9_isOne rfl im_yX9_isOne se_yX9_isOne ml_RX9_95 cl_9 hk_a0 ⟨rfl, rfl, Nat.le_trans (Nat.le_of_ble_eq_true rfl) hR.1, Nat.le_trans (Nat.le_of_ble_eq_true rfl) hR.2⟩ hl (Nat.le_of_ble_eq_true rfl) dX9_drawn_2 ⟨Nat.zero_le _, Nat.zero_le _⟩ rfl) (fun H locs h hX hz5 => ?_)
  refine lv_if_eq (tgt := 20) C.1 C.2.1 dX9_drawn_5 (by decide) (fun c6 => ?_) (fun c6 => ?_)
  · have hf := if_t hf c6
    refine lv_bipush (v := (-2 : Int32)) C.1 C.2.1 dX9_drawn_20 (by decide) ?_
    exact x_ri C hr hlk h hE (pf_1 (Option.some.inj hf)) (pf_2 (Option.some.inj hf)) dX9_drawn_22
  · have hf := if_f hf c6
    refine lv_iload_n C.1 C.2.1 dX9_drawn_8 rfl (lv_at hl 3 rfl) ?_
    refine lv_i2l C.1 C.2.1 dX9_drawn_9 rfl ?_
    refine lv_lconst (v := (0 : Int64)) C.1 C.2.1 dX9_drawn_10 (by decide) ?_
    refine lv_ldc2 (v := (99 : Int64)) C.1 C.2.1 C.2.2.2.1 (C.2.2.2.2 _ cl_RX9_413) dX9_drawn_11 ?_
    refine x_az K h (x_S C K h [.long x3.toInt64, .long (0 : Int64), .long (99 : Int64)] (c_X9_in l κ G cy ad H.size σ x3.toInt64 (0 : Int64) (99 : Int64) rfl) mi_X9_in rfl st_yX9_in ml_RX9_83 ⟨rfl, rfl, Nat.le_trans (Nat.le_of_ble_eq_true rfl) hR.1, Nat.le_trans (Nat.le_of_ble_eq_true rfl) hR.2⟩ hl (Nat.le_of_ble_eq_true rfl) dX9_drawn_14 ⟨Nat.zero_le _, Nat.zero_le _⟩ rfl) (fun H locs h hX hz8 => ?_)
    refine lv_if_ne (tgt := 23) C.1 C.2.1 dX9_drawn_17 (by decide) (fun c9 => ?_) (fun c9 => ?_)
    · have hf := if_f hf c9
      refine lv_iload_n C.1 C.2.1 dX9_drawn_23 rfl (lv_at hl 1 rfl) ?_
      refine lv_istore (i := 4) (lv' := [(4, .int x1), (0, .ref (ad a0)), (1, .int x1), (2, .int x2), (3, .int x3)]) C.1 C.2.1 dX9_drawn_24 hl (by decide) rfl (fun ls hl => ?_)
      refine lv_aload_n C.1 C.2.1 dX9_drawn_26 rfl (lv_at hl 1 rfl) ?_
      obtain ⟨b10, hb_b10, hf⟩ := ob_ hf
      obtain ⟨hq_b10, hk_b10⟩ := dr_in hb_b10
      refine x_get (v := .ref (ad b10)) C K h cl_9 hk_a0 10 (by decide) fl_RX9_29 (hv_r (o := sr_ σ a0 10) rfl hq_b10) dX9_drawn_27 ?_
      refine lv_iconst (v := (3 : Int32)) C.1 C.2.1 dX9_drawn_30 (by decide) ?_
      refine lv_iload_n C.1 C.2.1 dX9_drawn_31 rfl (lv_at hl 3 rfl) ?_
      refine lv_imul C.1 C.2.1 dX9_drawn_32 ?_
      refine lv_iconst (v := (1 : Int32)) C.1 C.2.1 dX9_drawn_33 (by decide) ?_
      refine lv_iadd C.1 C.2.1 dX9_drawn_34 ?_
      obtain ⟨j11, hj_j11, hf⟩ := ob_ hf
      refine x_iald C K h hk_b10 hj_j11 dX9_drawn_35 ?_
      refine lv_istore (i := 5) (lv' := [(5, .int (si_ σ b10 j11)), (4, .int x1), (0, .ref (ad a0)), (1, .int x1), (2, .int x2), (3, .int x3)]) C.1 C.2.1 dX9_drawn_36 hl (by decide) rfl (fun ls hl => ?_)
      refine lv_iconst (v := (0 : Int32)) C.1 C.2.1 dX9_drawn_38 (by decide) ?_
      refine lv_istore (i := 6) (lv' := [(6, .int (0 : Int32)), (5, .int (si_ σ b10 j11)), (4, .int x1), (0, .ref (ad a0)), (1, .int x1), (2, .int x2), (3, .int x3)]) C.1 C.2.1 dX9_drawn_39 hl (by decide) rfl (fun ls hl => ?_)
      exact w_X9_drawn_41 fu C K hr hlk hR fu σ a0 x2 x3 x1 (si_ σ b10 j11) (0 : Int32) hE hk_a0 hf _ _ _ h (lv_sub hl [3, 5, 6, 2, 1, 0] rfl)
    · have hf := if_t hf c9
      refine lv_bipush (v := (-2 : Int32)) C.1 C.2.1 dX9_drawn_20 (by decide) ?_
      exact x_ri C hr hlk h hE (pf_1 (Option.some.inj hf)) (pf_2 (Option.some.inj hf)) dX9_drawn_22
theorem c_X9_drawn (fu : Nat) (l : Launch) (κ : Ka_) (G : va_G) (cy : Nat → ClassId) (ad : Nat → Nat) (sz : Nat) (σ : St_) (a0 : Nat) (x1 : Int32) (x2 : Int32) (x3 : Int32) (hk_a0 : kd_ σ a0 = 9) {q : Int32 × St_} (hf : f_X9_drawn fu σ a0 x1 x2 x3 = some q) : Met l yX9_drawn (Cond.code yX9_drawn cX9_drawn 7 (some .int) :: wU_) { frames := 45, cells := 0, slots := 0, locals := 1006 } (va_Pc [.ref (ad a0), .int x1, .int x2, .int x3] (Pr_ κ G cy ad σ sz)) (Qi_ G cy ad σ q.2 sz q.1) 0 0 (va_A (wl_ cy ad σ) sz) :=
  x_met (by decide) (fun p e R s m below meth c ls hR C hr hlk hin _ K h hl => w_X9_drawn fu C K hr hlk ⟨hR.1, hR.2.1⟩ σ a0 x1 x2 x3 Ex_.rf hk_a0 hf s.heap [] ls h hl) (Nat.le_of_ble_eq_true rfl)
-- X9_comesBy
theorem mi_X9_comesBy : Mi_ yX9_comesBy cX9_comesBy 7 (some .boolean) 3 := ⟨co_yX9_comesBy, in_RX9, by decide, by decide, by decide +kernel⟩
def f_X9_comesBy_18 (fu : Nat) : Nat → St_ → Nat → Int32 → Int32 → Int32 → Int32 → Int32 → Option (Int32 × St_)
  | 0 => fun _ _ _ _ _ _ _ => none
  | n + 1 => fun σ  v0  v2  v3  v4  v5  v6 => if (12 : Int32) ≤ v6 then if v5 = v3 then some ((1 : Int32), σ) else some ((0 : Int32), σ) else if v5 = v3 then if v5 = v3 then some ((1 : Int32), σ) else some ((0 : Int32), σ) else (f_X9_goesTo fu σ v0 v2 v5 (((((v4 * (1103515245 : Int32)) + (12345 : Int32)).toUInt32 >>> ((9 : Int32).toUInt32 &&& Int32.toUInt32 31)).toInt32) - ((((v4 * (1103515245 : Int32)) + (12345 : Int32)).toUInt32 >>> ((9 : Int32).toUInt32 &&& Int32.toUInt32 31)).toInt32) / (8 : Int32) * (8 : Int32))).bind fun q5 => (f_X9_comesBy_18 fu n) q5.2 v0 v2 v3 ((v4 * (1103515245 : Int32)) + (12345 : Int32)) q5.1 (v6 + (1 : Int32))
set_option maxHeartbeats 4000000 in
set_option maxRecDepth 100000 in
theorem w_X9_comesBy_18 {p : Program} {l : Launch} {e : Env} {R : Room} {s : State} {m : MethodId} {args : Array Value} {below : List Frame} {meth : Method} {c : Code} {κ : Ka_} {G : va_G} {cy : Nat → ClassId} {ad : Nat → Nat} {sz : Nat} {σ0 : St_} (fu : Nat) (C : CallFix p m c cX9_comesBy 7 s args wU_ RX9) (K : Kx_ κ G cy (va_A (wl_ cy ad σ0) sz) s) (hr : meth.sig.returnType = some .boolean) (hlk : meth.locks = false) (hR : 45 ≤ R.frames ∧ 1006 ≤ R.locals) {q : Int32 × St_} : ∀ n : Nat, ∀ (σ : St_) (v0 : Nat) (v2 : Int32) (v3 : Int32) (v4 : Int32) (v5 : Int32) (v6 : Int32), Ex_ σ0 σ → kd_ σ v0 = 9 → f_X9_comesBy_18 fu n σ v0 v2 v3 v4 v5 v6 = some q → ∀ (H : Heap) (locs : List Loc) (ls : Array Slot), Ht_ G cy (va_A (wl_ cy ad σ0) sz) s ad σ H locs → lv_has ls 7 [(0, .ref (ad v0)), (2, .int v2), (3, .int v3), (4, .int v4), (5, .int v5), (6, .int v6)] → W p l e R s m args below meth c H locs 0 0 (MQ below (Qz_ G cy ad σ0 q.2 sz q.1) args s 0 0 (va_A (wl_ cy ad σ0) sz)) (F0 m 18 ls []) := by
  intro n
  induction n with
  | zero =>
    intro σ v0 v2 v3 v4 v5 v6 hE hk_v0 hf H locs ls h hl
    cases hf
  | succ n ih =>
    intro σ v0 v2 v3 v4 v5 v6 hE hk_v0 hf H locs ls h hl
    have hf : (if (12 : Int32) ≤ v6 then if v5 = v3 then some ((1 : Int32), σ) else some ((0 : Int32), σ) else if v5 = v3 then if v5 = v3 then some ((1 : Int32), σ) else some ((0 : Int32), σ) else (f_X9_goesTo fu σ v0 v2 v5 (((((v4 * (1103515245 : Int32)) + (12345 : Int32)).toUInt32 >>> ((9 : Int32).toUInt32 &&& Int32.toUInt32 31)).toInt32) - ((((v4 * (1103515245 : Int32)) + (12345 : Int32)).toUInt32 >>> ((9 : Int32).toUInt32 &&& Int32.toUInt32 31)).toInt32) / (8 : Int32) * (8 : Int32))).bind fun q5 => (f_X9_comesBy_18 fu n) q5.2 v0 v2 v3 ((v4 * (1103515245 : Int32)) + (12345 : Int32)) q5.1 (v6 + (1 : Int32))) = some q := hf
    refine lv_iload C.1 C.2.1 dX9_comesBy_18 (lv_at hl 5 rfl) ?_
    refine lv_bipush (v := (12 : Int32)) C.1 C.2.1 dX9_comesBy_20 (by decide) ?_
    refine lv_icmp_ge (tgt := 66) C.1 C.2.1 dX9_comesBy_22 (by decide) (fun c1 => ?_) (fun c1 => ?_)
    · have hf := if_t hf c1
      refine lv_iload C.1 C.2.1 dX9_comesBy_66 (lv_at hl 4 rfl) ?_
      refine lv_iload_n C.1 C.2.1 dX9_comesBy_68 rfl (lv_at hl 2 rfl) ?_
      refine lv_icmp_ne (tgt := 76) C.1 C.2.1 dX9_comesBy_69 (by decide) (fun c2 => ?_) (fun c2 => ?_)
      · have hf := if_f hf c2
        refine lv_iconst (v := (0 : Int32)) C.1 C.2.1 dX9_comesBy_76 (by decide) ?_
        exact x_rzz C hr hlk h hE (by decide) (pf_1 (Option.some.inj hf)) (pf_2 (Option.some.inj hf)) dX9_comesBy_77
      · have hf := if_t hf c2
        refine lv_iconst (v := (1 : Int32)) C.1 C.2.1 dX9_comesBy_72 (by decide) ?_
        refine lv_goto (tgt := 77) C.1 C.2.1 dX9_comesBy_73 (by decide) ?_
        exact x_rzz C hr hlk h hE (by decide) (pf_1 (Option.some.inj hf)) (pf_2 (Option.some.inj hf)) dX9_comesBy_77
    · have hf := if_f hf c1
      refine lv_iload C.1 C.2.1 dX9_comesBy_25 (lv_at hl 4 rfl) ?_
      refine lv_iload_n C.1 C.2.1 dX9_comesBy_27 rfl (lv_at hl 2 rfl) ?_
      refine lv_icmp_eq (tgt := 66) C.1 C.2.1 dX9_comesBy_28 (by decide) (fun c3 => ?_) (fun c3 => ?_)
      · have hf := if_t hf c3
        refine lv_iload C.1 C.2.1 dX9_comesBy_66 (lv_at hl 4 rfl) ?_
        refine lv_iload_n C.1 C.2.1 dX9_comesBy_68 rfl (lv_at hl 2 rfl) ?_
        refine lv_icmp_ne (tgt := 76) C.1 C.2.1 dX9_comesBy_69 (by decide) (fun c4 => ?_) (fun c4 => ?_)
        · have hf := if_f hf c4
          refine lv_iconst (v := (0 : Int32)) C.1 C.2.1 dX9_comesBy_76 (by decide) ?_
          exact x_rzz C hr hlk h hE (by decide) (pf_1 (Option.some.inj hf)) (pf_2 (Option.some.inj hf)) dX9_comesBy_77
        · have hf := if_t hf c4
          refine lv_iconst (v := (1 : Int32)) C.1 C.2.1 dX9_comesBy_72 (by decide) ?_
          refine lv_goto (tgt := 77) C.1 C.2.1 dX9_comesBy_73 (by decide) ?_
          exact x_rzz C hr hlk h hE (by decide) (pf_1 (Option.some.inj hf)) (pf_2 (Option.some.inj hf)) dX9_comesBy_77
      · have hf := if_f hf c3
        refine lv_iload C.1 C.2.1 dX9_comesBy_31 (lv_at hl 3 rfl) ?_
        refine lv_ldcw (v := (1103515245 : Int32)) C.1 C.2.1 C.2.2.2.1 (C.2.2.2.2 _ ck_RX9_415) dX9_comesBy_33 ?_
        refine lv_imul C.1 C.2.1 dX9_comesBy_36 ?_
        refine lv_sipush (v := (12345 : Int32)) C.1 C.2.1 dX9_comesBy_37 (by decide) ?_
        refine lv_iadd C.1 C.2.1 dX9_comesBy_40 ?_
        refine lv_istore (i := 4) (lv' := [(4, .int ((v4 * (1103515245 : Int32)) + (12345 : Int32))), (0, .ref (ad v0)), (2, .int v2), (3, .int v3), (5, .int v5), (6, .int v6)]) C.1 C.2.1 dX9_comesBy_41 hl (by decide) rfl (fun ls hl => ?_)
        refine lv_aload_n C.1 C.2.1 dX9_comesBy_43 rfl (lv_at hl 1 rfl) ?_
        refine lv_iload_n C.1 C.2.1 dX9_comesBy_44 rfl (lv_at hl 2 rfl) ?_
        refine lv_iload C.1 C.2.1 dX9_comesBy_45 (lv_at hl 4 rfl) ?_
        refine lv_iload C.1 C.2.1 dX9_comesBy_47 (lv_at hl 0 rfl) ?_
        refine lv_bipush (v := (9 : Int32)) C.1 C.2.1 dX9_comesBy_49 (by decide) ?_
        refine lv_iushr C.1 C.2.1 dX9_comesBy_51 rfl ?_
        refine lv_bipush (v := (8 : Int32)) C.1 C.2.1 dX9_comesBy_52 (by decide) ?_
        refine lv_irem C.1 C.2.1 dX9_comesBy_54 (by decide) ?_
        obtain ⟨q5, hq_q5, hf⟩ := ob_ hf
        refine x_ai K h (x_V C K h [.int v2, .int v5, .int (((((v4 * (1103515245 : Int32)) + (12345 : Int32)).toUInt32 >>> ((9 : Int32).toUInt32 &&& Int32.toUInt32 31)).toInt32) - ((((v4 * (1103515245 : Int32)) + (12345 : Int32)).toUInt32 >>> ((9 : Int32).toUInt32 &&& Int32.toUInt32 31)).toInt32) / (8 : Int32) * (8 : Int32))] (c_X9_goesTo fu l κ G cy ad H.size σ v0 v2 v5 (((((v4 * (1103515245 : Int32)) + (12345 : Int32)).toUInt32 >>> ((9 : Int32).toUInt32 &&& Int32.toUInt32 31)).toInt32) - ((((v4 * (1103515245 : Int32)) + (12345 : Int32)).toUInt32 >>> ((9 : Int32).toUInt32 &&& Int32.toUInt32 31)).toInt32) / (8 : Int32) * (8 : Int32)) hk_v0 hq_q5) mi_X9_goesTo rfl im_yX9_goesTo se_yX9_goesTo ml_RX9_132 cl_9 hk_v0 ⟨rfl, rfl, Nat.le_trans (Nat.le_of_ble_eq_true rfl) hR.1, Nat.le_trans (Nat.le_of_ble_eq_true rfl) hR.2⟩ hl (Nat.le_of_ble_eq_true rfl) dX9_comesBy_55 ⟨Nat.zero_le _, Nat.zero_le _⟩ rfl) (fun H locs h hX => ?_)
        have hE := hE.trans hX
        have hk_v0 := hX.k hk_v0 (by decide)
        refine lv_istore (i := 5) (lv' := [(5, .int q5.1), (4, .int ((v4 * (1103515245 : Int32)) + (12345 : Int32))), (0, .ref (ad v0)), (2, .int v2), (3, .int v3), (6, .int v6)]) C.1 C.2.1 dX9_comesBy_58 hl (by decide) rfl (fun ls hl => ?_)
        refine lv_iinc (v := v6 + (1 : Int32)) (lv' := [(6, .int (v6 + (1 : Int32))), (5, .int q5.1), (4, .int ((v4 * (1103515245 : Int32)) + (12345 : Int32))), (0, .ref (ad v0)), (2, .int v2), (3, .int v3)]) C.1 C.2.1 dX9_comesBy_60 hl (k := 5) rfl rfl (by decide) rfl (fun ls hl => ?_)
        refine lv_goto (tgt := 18) C.1 C.2.1 dX9_comesBy_63 (by decide) ?_
        exact ih q5.2 v0 v2 v3 ((v4 * (1103515245 : Int32)) + (12345 : Int32)) q5.1 (v6 + (1 : Int32)) hE hk_v0 hf _ _ _ h (lv_sub hl [3, 4, 5, 2, 1, 0] rfl)
def f_X9_comesBy (fu : Nat) (σ : St_) (a0 : Nat) (x1 : Int32) (x2 : Int32) (x3 : Int32) : Option (Int32 × St_) := (dr_ σ 10 (sr_ σ a0 10)).bind fun b4 => (ix_ (((3 : Int32) * x2) + (1 : Int32)) (ln_ σ b4)).bind fun j5 => f_X9_comesBy_18 fu fu σ a0 x2 x3 x1 (si_ σ b4 j5) (0 : Int32)
set_option maxHeartbeats 4000000 in
set_option maxRecDepth 100000 in
theorem w_X9_comesBy {p : Program} {l : Launch} {e : Env} {R : Room} {s : State} {m : MethodId} {args : Array Value} {below : List Frame} {meth : Method} {c : Code} {κ : Ka_} {G : va_G} {cy : Nat → ClassId} {ad : Nat → Nat} {sz : Nat} {σ0 : St_} (fu : Nat) (C : CallFix p m c cX9_comesBy 7 s args wU_ RX9) (K : Kx_ κ G cy (va_A (wl_ cy ad σ0) sz) s) (hr : meth.sig.returnType = some .boolean) (hlk : meth.locks = false) (hR : 45 ≤ R.frames ∧ 1006 ≤ R.locals) {q : Int32 × St_} : ∀ (σ : St_) (a0 : Nat) (x1 : Int32) (x2 : Int32) (x3 : Int32), Ex_ σ0 σ → kd_ σ a0 = 9 → f_X9_comesBy fu σ a0 x1 x2 x3 = some q → ∀ (H : Heap) (locs : List Loc) (ls : Array Slot), Ht_ G cy (va_A (wl_ cy ad σ0) sz) s ad σ H locs → lv_has ls 7 [(0, .ref (ad a0)), (1, .int x1), (2, .int x2), (3, .int x3)] → W p l e R s m args below meth c H locs 0 0 (MQ below (Qz_ G cy ad σ0 q.2 sz q.1) args s 0 0 (va_A (wl_ cy ad σ0) sz)) (F0 m 0 ls []) := by
  intro σ a0 x1 x2 x3 hE hk_a0 hf H locs ls h hl
  have hf : ((dr_ σ 10 (sr_ σ a0 10)).bind fun b4 => (ix_ (((3 : Int32) * x2) + (1 : Int32)) (ln_ σ b4)).bind fun j5 => f_X9_comesBy_18 fu fu σ a0 x2 x3 x1 (si_ σ b4 j5) (0 : Int32)) = some q := hf
  refine lv_iload_n C.1 C.2.1 dX9_comesBy_0 rfl (lv_at hl 1 rfl) ?_
  refine lv_istore (i := 4) (lv' := [(4, .int x1), (0, .ref (ad a0)), (1, .int x1), (2, .int x2), (3, .int x3)]) C.1 C.2.1 dX9_comesBy_1 hl (by decide) rfl (fun ls hl => ?_)
  refine lv_aload_n C.1 C.2.1 dX9_comesBy_3 rfl (lv_at hl 1 rfl) ?_
  obtain ⟨b4, hb_b4, hf⟩ := ob_ hf
  obtain ⟨hq_b4, hk_b4⟩ := dr_in hb_b4
  refine x_get (v := .ref (ad b4)) C K h cl_9 hk_a0 10 (by decide) fl_RX9_29 (hv_r (o := sr_ σ a0 10) rfl hq_b4) dX9_comesBy_4 ?_
  refine lv_iconst (v := (3 : Int32)) C.1 C.2.1 dX9_comesBy_7 (by decide) ?_
  refine lv_iload_n C.1 C.2.1 dX9_comesBy_8 rfl (lv_at hl 3 rfl) ?_
  refine lv_imul C.1 C.2.1 dX9_comesBy_9 ?_
  refine lv_iconst (v := (1 : Int32)) C.1 C.2.1 dX9_comesBy_10 (by decide) ?_
  refine lv_iadd C.1 C.2.1 dX9_comesBy_11 ?_
  obtain ⟨j5, hj_j5, hf⟩ := ob_ hf
  refine x_iald C K h hk_b4 hj_j5 dX9_comesBy_12 ?_
  refine lv_istore (i := 5) (lv' := [(5, .int (si_ σ b4 j5)), (4, .int x1), (0, .ref (ad a0)), (1, .int x1), (2, .int x2), (3, .int x3)]) C.1 C.2.1 dX9_comesBy_13 hl (by decide) rfl (fun ls hl => ?_)
  refine lv_iconst (v := (0 : Int32)) C.1 C.2.1 dX9_comesBy_15 (by decide) ?_
  refine lv_istore (i := 6) (lv' := [(6, .int (0 : Int32)), (5, .int (si_ σ b4 j5)), (4, .int x1), (0, .ref (ad a0)), (1, .int x1), (2, .int x2), (3, .int x3)]) C.1 C.2.1 dX9_comesBy_16 hl (by decide) rfl (fun ls hl => ?_)
  exact w_X9_comesBy_18 fu C K hr hlk hR fu σ a0 x2 x3 x1 (si_ σ b4 j5) (0 : Int32) hE hk_a0 hf _ _ _ h (lv_sub hl [3, 5, 6, 2, 1, 0] rfl)
theorem c_X9_comesBy (fu : Nat) (l : Launch) (κ : Ka_) (G : va_G) (cy : Nat → ClassId) (ad : Nat → Nat) (sz : Nat) (σ : St_) (a0 : Nat) (x1 : Int32) (x2 : Int32) (x3 : Int32) (hk_a0 : kd_ σ a0 = 9) {q : Int32 × St_} (hf : f_X9_comesBy fu σ a0 x1 x2 x3 = some q) : Met l yX9_comesBy (Cond.code yX9_comesBy cX9_comesBy 7 (some .boolean) :: wU_) { frames := 45, cells := 0, slots := 0, locals := 1006 } (va_Pc [.ref (ad a0), .int x1, .int x2, .int x3] (Pr_ κ G cy ad σ sz)) (Qz_ G cy ad σ q.2 sz q.1) 0 0 (va_A (wl_ cy ad σ) sz) :=
  x_met (by decide) (fun p e R s m below meth c ls hR C hr hlk hin _ K h hl => w_X9_comesBy fu C K hr hlk ⟨hR.1, hR.2.1⟩ σ a0 x1 x2 x3 Ex_.rf hk_a0 hf s.heap [] ls h hl) (Nat.le_of_ble_eq_true rfl)
-- X9_chance
theorem mi_X9_chance : Mi_ yX9_chance cX9_chance 14 (some .long) 5 := ⟨co_yX9_chance, in_RX9, by decide, by decide, by decide +kernel⟩
def f_X9_chance_93 (fu : Nat) : Nat → St_ → Int32 → Int32 → Int64 → Int64 → Int64 → Option (Int64 × St_)
  | 0 => fun _ _ _ _ _ _ => none
  | n + 1 => fun σ  v2  v5  v6  v8  v10 => if (lg_cmp v10 (0 : Int64)) = 0 then if v5 = 0 then if ¬ v8 = 0 then some (v6 / v8, σ) else none else if ¬ v8 = 0 then some (v2.toInt64 / v8, σ) else none else if ¬ v10 = 0 then (f_X9_chance_93 fu n) σ v2 v5 v6 v10 (v8 - v8 / v10 * v10) else none
set_option maxHeartbeats 4000000 in
set_option maxRecDepth 100000 in
theorem w_X9_chance_93 {p : Program} {l : Launch} {e : Env} {R : Room} {s : State} {m : MethodId} {args : Array Value} {below : List Frame} {meth : Method} {c : Code} {κ : Ka_} {G : va_G} {cy : Nat → ClassId} {ad : Nat → Nat} {sz : Nat} {σ0 : St_} (fu : Nat) (C : CallFix p m c cX9_chance 14 s args wU_ RX9) (K : Kx_ κ G cy (va_A (wl_ cy ad σ0) sz) s) (hr : meth.sig.returnType = some .long) (hlk : meth.locks = false) (hR : 46 ≤ R.frames ∧ 1032 ≤ R.locals) {q : Int64 × St_} : ∀ n : Nat, ∀ (σ : St_) (v2 : Int32) (v5 : Int32) (v6 : Int64) (v8 : Int64) (v10 : Int64), Ex_ σ0 σ → f_X9_chance_93 fu n σ v2 v5 v6 v8 v10 = some q → ∀ (H : Heap) (locs : List Loc) (ls : Array Slot), Ht_ G cy (va_A (wl_ cy ad σ0) sz) s ad σ H locs → lv_has ls 14 [(2, .int v2), (5, .int v5), (6, .long v6), (8, .long v8), (10, .long v10)] → W p l e R s m args below meth c H locs 0 0 (MQ below (Ql_ G cy ad σ0 q.2 sz q.1) args s 0 0 (va_A (wl_ cy ad σ0) sz)) (F0 m 93 ls []) := by
  intro n
  induction n with
  | zero =>
    intro σ v2 v5 v6 v8 v10 hE hf H locs ls h hl
    cases hf
  | succ n ih =>
    intro σ v2 v5 v6 v8 v10 hE hf H locs ls h hl
    have hf : (if (lg_cmp v10 (0 : Int64)) = 0 then if v5 = 0 then if ¬ v8 = 0 then some (v6 / v8, σ) else none else if ¬ v8 = 0 then some (v2.toInt64 / v8, σ) else none else if ¬ v10 = 0 then (f_X9_chance_93 fu n) σ v2 v5 v6 v10 (v8 - v8 / v10 * v10) else none) = some q := hf
    refine lv_lload C.1 C.2.1 dX9_chance_93 (lv_at hl 4 rfl) ?_
    refine lv_lconst (v := (0 : Int64)) C.1 C.2.1 dX9_chance_95 (by decide) ?_
    refine W.lcmp C.1 C.2.1 dX9_chance_96 ?_
    refine lv_if_eq (tgt := 118) C.1 C.2.1 dX9_chance_97 (by decide) (fun c1 => ?_) (fun c1 => ?_)
    · have hf := if_t hf c1
      refine lv_iload C.1 C.2.1 dX9_chance_118 (lv_at hl 1 rfl) ?_
      refine lv_if_ne (tgt := 131) C.1 C.2.1 dX9_chance_120 (by decide) (fun c2 => ?_) (fun c2 => ?_)
      · have hf := if_f hf c2
        refine lv_iload_n C.1 C.2.1 dX9_chance_131 rfl (lv_at hl 0 rfl) ?_
        refine lv_i2l C.1 C.2.1 dX9_chance_132 rfl ?_
        refine lv_lload C.1 C.2.1 dX9_chance_133 (lv_at hl 3 rfl) ?_
        obtain ⟨hd3, hf⟩ := gd_ hf
        refine lv_ldiv C.1 C.2.1 dX9_chance_135 hd3 ?_
        exact x_rl C hr hlk h hE (pf_1 (Option.some.inj hf)) (pf_2 (Option.some.inj hf)) dX9_chance_136
      · have hf := if_t hf c2
        refine lv_lload C.1 C.2.1 dX9_chance_123 (lv_at hl 2 rfl) ?_
        refine lv_lload C.1 C.2.1 dX9_chance_125 (lv_at hl 3 rfl) ?_
        obtain ⟨hd4, hf⟩ := gd_ hf
        refine lv_ldiv C.1 C.2.1 dX9_chance_127 hd4 ?_
        refine lv_goto (tgt := 136) C.1 C.2.1 dX9_chance_128 (by decide) ?_
        exact x_rl C hr hlk h hE (pf_1 (Option.some.inj hf)) (pf_2 (Option.some.inj hf)) dX9_chance_136
    · have hf := if_f hf c1
      refine lv_lload C.1 C.2.1 dX9_chance_100 (lv_at hl 3 rfl) ?_
      refine lv_lload C.1 C.2.1 dX9_chance_102 (lv_at hl 4 rfl) ?_
      obtain ⟨hd5, hf⟩ := gd_ hf
      refine lv_lrem C.1 C.2.1 dX9_chance_104 hd5 ?_
      refine lv_lstore (i := 12) (lv' := [(12, .long (v8 - v8 / v10 * v10)), (2, .int v2), (5, .int v5), (6, .long v6), (8, .long v8), (10, .long v10)]) C.1 C.2.1 dX9_chance_105 hl (by decide) rfl (fun ls hl => ?_)
      refine lv_lload C.1 C.2.1 dX9_chance_107 (lv_at hl 5 rfl) ?_
      refine lv_lstore (i := 8) (lv' := [(8, .long v10), (12, .long (v8 - v8 / v10 * v10)), (2, .int v2), (5, .int v5), (6, .long v6), (10, .long v10)]) C.1 C.2.1 dX9_chance_109 hl (by decide) rfl (fun ls hl => ?_)
      refine lv_lload C.1 C.2.1 dX9_chance_111 (lv_at hl 1 rfl) ?_
      refine lv_lstore (i := 10) (lv' := [(10, .long (v8 - v8 / v10 * v10)), (8, .long v10), (12, .long (v8 - v8 / v10 * v10)), (2, .int v2), (5, .int v5), (6, .long v6)]) C.1 C.2.1 dX9_chance_113 hl (by decide) rfl (fun ls hl => ?_)
      refine lv_goto (tgt := 93) C.1 C.2.1 dX9_chance_115 (by decide) ?_
      exact ih σ v2 v5 v6 v10 (v8 - v8 / v10 * v10) hE hf _ _ _ h (lv_sub hl [3, 4, 5, 1, 0] rfl)
def f_X9_chance_49 (fu : Nat) : Nat → St_ → Nat → Int32 → Int32 → Int32 → Int32 → Int32 → Int64 → Int32 → Option (Int64 × St_)
  | 0 => fun _ _ _ _ _ _ _ _ _ => none
  | n + 1 => fun σ  v0  v1  v2  v3  v4  v5  v6  v8 => if v2 ≤ v8 then f_X9_chance_93 fu fu σ v2 v5 v6 v6 v2.toInt64 else (f_X9_comesBy fu σ v0 (v1 + v8) v3 v4).bind fun q2 => if q2.1 = 0 then (f_X9_chance_49 fu n) q2.2 v0 v1 v2 v3 v4 v5 (v6 + (0 : Int64)) (v8 + (1 : Int32)) else (f_X9_chance_49 fu n) q2.2 v0 v1 v2 v3 v4 v5 (v6 + (1 : Int64)) (v8 + (1 : Int32))
set_option maxHeartbeats 4000000 in
set_option maxRecDepth 100000 in
theorem w_X9_chance_49 {p : Program} {l : Launch} {e : Env} {R : Room} {s : State} {m : MethodId} {args : Array Value} {below : List Frame} {meth : Method} {c : Code} {κ : Ka_} {G : va_G} {cy : Nat → ClassId} {ad : Nat → Nat} {sz : Nat} {σ0 : St_} (fu : Nat) (C : CallFix p m c cX9_chance 14 s args wU_ RX9) (K : Kx_ κ G cy (va_A (wl_ cy ad σ0) sz) s) (hr : meth.sig.returnType = some .long) (hlk : meth.locks = false) (hR : 46 ≤ R.frames ∧ 1032 ≤ R.locals) {q : Int64 × St_} : ∀ n : Nat, ∀ (σ : St_) (v0 : Nat) (v1 : Int32) (v2 : Int32) (v3 : Int32) (v4 : Int32) (v5 : Int32) (v6 : Int64) (v8 : Int32), Ex_ σ0 σ → kd_ σ v0 = 9 → f_X9_chance_49 fu n σ v0 v1 v2 v3 v4 v5 v6 v8 = some q → ∀ (H : Heap) (locs : List Loc) (ls : Array Slot), Ht_ G cy (va_A (wl_ cy ad σ0) sz) s ad σ H locs → lv_has ls 14 [(0, .ref (ad v0)), (1, .int v1), (2, .int v2), (3, .int v3), (4, .int v4), (5, .int v5), (6, .long v6), (8, .int v8)] → W p l e R s m args below meth c H locs 0 0 (MQ below (Ql_ G cy ad σ0 q.2 sz q.1) args s 0 0 (va_A (wl_ cy ad σ0) sz)) (F0 m 49 ls []) := by
  intro n
  induction n with
  | zero =>
    intro σ v0 v1 v2 v3 v4 v5 v6 v8 hE hk_v0 hf H locs ls h hl
    cases hf
  | succ n ih =>
    intro σ v0 v1 v2 v3 v4 v5 v6 v8 hE hk_v0 hf H locs ls h hl
    have hf : (if v2 ≤ v8 then f_X9_chance_93 fu fu σ v2 v5 v6 v6 v2.toInt64 else (f_X9_comesBy fu σ v0 (v1 + v8) v3 v4).bind fun q2 => if q2.1 = 0 then (f_X9_chance_49 fu n) q2.2 v0 v1 v2 v3 v4 v5 (v6 + (0 : Int64)) (v8 + (1 : Int32)) else (f_X9_chance_49 fu n) q2.2 v0 v1 v2 v3 v4 v5 (v6 + (1 : Int64)) (v8 + (1 : Int32))) = some q := hf
    refine lv_iload C.1 C.2.1 dX9_chance_49 (lv_at hl 7 rfl) ?_
    refine lv_iload_n C.1 C.2.1 dX9_chance_51 rfl (lv_at hl 2 rfl) ?_
    refine lv_icmp_ge (tgt := 85) C.1 C.2.1 dX9_chance_52 (by decide) (fun c1 => ?_) (fun c1 => ?_)
    · have hf := if_t hf c1
      refine lv_lload C.1 C.2.1 dX9_chance_85 (lv_at hl 6 rfl) ?_
      refine lv_lstore (i := 8) (lv' := [(8, .long v6), (0, .ref (ad v0)), (1, .int v1), (2, .int v2), (3, .int v3), (4, .int v4), (5, .int v5), (6, .long v6)]) C.1 C.2.1 dX9_chance_87 hl (by decide) rfl (fun ls hl => ?_)
      refine lv_iload_n C.1 C.2.1 dX9_chance_89 rfl (lv_at hl 3 rfl) ?_
      refine lv_i2l C.1 C.2.1 dX9_chance_90 rfl ?_
      refine lv_lstore (i := 10) (lv' := [(10, .long v2.toInt64), (8, .long v6), (0, .ref (ad v0)), (1, .int v1), (2, .int v2), (3, .int v3), (4, .int v4), (5, .int v5), (6, .long v6)]) C.1 C.2.1 dX9_chance_91 hl (by decide) rfl (fun ls hl => ?_)
      exact w_X9_chance_93 fu C K hr hlk hR fu σ v2 v5 v6 v6 v2.toInt64 hE hf _ _ _ h (lv_sub hl [4, 7, 8, 1, 0] rfl)
    · have hf := if_f hf c1
      refine lv_lload C.1 C.2.1 dX9_chance_55 (lv_at hl 6 rfl) ?_
      refine lv_aload_n C.1 C.2.1 dX9_chance_57 rfl (lv_at hl 0 rfl) ?_
      refine lv_iload_n C.1 C.2.1 dX9_chance_58 rfl (lv_at hl 1 rfl) ?_
      refine lv_iload C.1 C.2.1 dX9_chance_59 (lv_at hl 7 rfl) ?_
      refine lv_iadd C.1 C.2.1 dX9_chance_61 ?_
      refine lv_iload_n C.1 C.2.1 dX9_chance_62 rfl (lv_at hl 3 rfl) ?_
      refine lv_iload C.1 C.2.1 dX9_chance_63 (lv_at hl 4 rfl) ?_
      obtain ⟨q2, hq_q2, hf⟩ := ob_ hf
      refine x_az K h (x_V C K h [.int (v1 + v8), .int v3, .int v4] (c_X9_comesBy fu l κ G cy ad H.size σ v0 (v1 + v8) v3 v4 hk_v0 hq_q2) mi_X9_comesBy rfl im_yX9_comesBy se_yX9_comesBy ml_RX9_416 cl_9 hk_v0 ⟨rfl, rfl, Nat.le_trans (Nat.le_of_ble_eq_true rfl) hR.1, Nat.le_trans (Nat.le_of_ble_eq_true rfl) hR.2⟩ hl (Nat.le_of_ble_eq_true rfl) dX9_chance_65 ⟨Nat.zero_le _, Nat.zero_le _⟩ rfl) (fun H locs h hX hz3 => ?_)
      have hE := hE.trans hX
      have hk_v0 := hX.k hk_v0 (by decide)
      refine lv_if_eq (tgt := 75) C.1 C.2.1 dX9_chance_68 (by decide) (fun c4 => ?_) (fun c4 => ?_)
      · have hf := if_t hf c4
        refine lv_lconst (v := (0 : Int64)) C.1 C.2.1 dX9_chance_75 (by decide) ?_
        refine lv_ladd C.1 C.2.1 dX9_chance_76 ?_
        refine lv_lstore (i := 6) (lv' := [(6, .long (v6 + (0 : Int64))), (0, .ref (ad v0)), (1, .int v1), (2, .int v2), (3, .int v3), (4, .int v4), (5, .int v5), (8, .int v8)]) C.1 C.2.1 dX9_chance_77 hl (by decide) rfl (fun ls hl => ?_)
        refine lv_iinc (v := v8 + (1 : Int32)) (lv' := [(8, .int (v8 + (1 : Int32))), (6, .long (v6 + (0 : Int64))), (0, .ref (ad v0)), (1, .int v1), (2, .int v2), (3, .int v3), (4, .int v4), (5, .int v5)]) C.1 C.2.1 dX9_chance_79 hl (k := 7) rfl rfl (by decide) rfl (fun ls hl => ?_)
        refine lv_goto (tgt := 49) C.1 C.2.1 dX9_chance_82 (by decide) ?_
        exact ih q2.2 v0 v1 v2 v3 v4 v5 (v6 + (0 : Int64)) (v8 + (1 : Int32)) hE hk_v0 hf _ _ _ h (lv_sub hl [2, 3, 4, 5, 6, 7, 1, 0] rfl)
      · have hf := if_f hf c4
        refine lv_lconst (v := (1 : Int64)) C.1 C.2.1 dX9_chance_71 (by decide) ?_
        refine lv_goto (tgt := 76) C.1 C.2.1 dX9_chance_72 (by decide) ?_
        refine lv_ladd C.1 C.2.1 dX9_chance_76 ?_
        refine lv_lstore (i := 6) (lv' := [(6, .long (v6 + (1 : Int64))), (0, .ref (ad v0)), (1, .int v1), (2, .int v2), (3, .int v3), (4, .int v4), (5, .int v5), (8, .int v8)]) C.1 C.2.1 dX9_chance_77 hl (by decide) rfl (fun ls hl => ?_)
        refine lv_iinc (v := v8 + (1 : Int32)) (lv' := [(8, .int (v8 + (1 : Int32))), (6, .long (v6 + (1 : Int64))), (0, .ref (ad v0)), (1, .int v1), (2, .int v2), (3, .int v3), (4, .int v4), (5, .int v5)]) C.1 C.2.1 dX9_chance_79 hl (k := 7) rfl rfl (by decide) rfl (fun ls hl => ?_)
        refine lv_goto (tgt := 49) C.1 C.2.1 dX9_chance_82 (by decide) ?_
        exact ih q2.2 v0 v1 v2 v3 v4 v5 (v6 + (1 : Int64)) (v8 + (1 : Int32)) hE hk_v0 hf _ _ _ h (lv_sub hl [2, 3, 4, 5, 6, 7, 1, 0] rfl)
def f_X9_chance (fu : Nat) (σ : St_) (a0 : Nat) (x1 : Int32) (x2 : Int32) (x3 : Int32) (x4 : Int32) (x5 : Int32) : Option (Int64 × St_) := if (f_X9_isOne σ a0 x3) = 0 then some ((-4611686018427387904 : Int64), σ) else if (f_X9_isCell x4) = 0 then some ((-4611686018427387904 : Int64), σ) else if (f_X9_in x2.toInt64 (1 : Int64) (20 : Int64)) = 0 then some ((-4611686018427387904 : Int64), σ) else if (f_X9_in x5.toInt64 (0 : Int64) (1 : Int64)) = 0 then some ((-4611686018427387904 : Int64), σ) else f_X9_chance_49 fu fu σ a0 x1 x2 x3 x4 x5 (0 : Int64) (0 : Int32)
set_option maxHeartbeats 4000000 in
set_option maxRecDepth 100000 in
theorem w_X9_chance {p : Program} {l : Launch} {e : Env} {R : Room} {s : State} {m : MethodId} {args : Array Value} {below : List Frame} {meth : Method} {c : Code} {κ : Ka_} {G : va_G} {cy : Nat → ClassId} {ad : Nat → Nat} {sz : Nat} {σ0 : St_} (fu : Nat) (C : CallFix p m c cX9_chance 14 s args wU_ RX9) (K : Kx_ κ G cy (va_A (wl_ cy ad σ0) sz) s) (hr : meth.sig.returnType = some .long) (hlk : meth.locks = false) (hR : 46 ≤ R.frames ∧ 1032 ≤ R.locals) {q : Int64 × St_} : ∀ (σ : St_) (a0 : Nat) (x1 : Int32) (x2 : Int32) (x3 : Int32) (x4 : Int32) (x5 : Int32), Ex_ σ0 σ → kd_ σ a0 = 9 → f_X9_chance fu σ a0 x1 x2 x3 x4 x5 = some q → ∀ (H : Heap) (locs : List Loc) (ls : Array Slot), Ht_ G cy (va_A (wl_ cy ad σ0) sz) s ad σ H locs → lv_has ls 14 [(0, .ref (ad a0)), (1, .int x1), (2, .int x2), (3, .int x3), (4, .int x4), (5, .int x5)] → W p l e R s m args below meth c H locs 0 0 (MQ below (Ql_ G cy ad σ0 q.2 sz q.1) args s 0 0 (va_A (wl_ cy ad σ0) sz)) (F0 m 0 ls []) := by
  intro σ a0 x1 x2 x3 x4 x5 hE hk_a0 hf H locs ls h hl
  have hf : (if (f_X9_isOne σ a0 x3) = 0 then some ((-4611686018427387904 : Int64), σ) else if (f_X9_isCell x4) = 0 then some ((-4611686018427387904 : Int64), σ) else if (f_X9_in x2.toInt64 (1 : Int64) (20 : Int64)) = 0 then some ((-4611686018427387904 : Int64), σ) else if (f_X9_in x5.toInt64 (0 : Int64) (1 : Int64)) = 0 then some ((-4611686018427387904 : Int64), σ) else f_X9_chance_49 fu fu σ a0 x1 x2 x3 x4 x5 (0 : Int64) (0 : Int32)) = some q := hf
  refine lv_aload_n C.1 C.2.1 dX9_chance_0 rfl (lv_at hl 0 rfl) ?_
  refine lv_iload_n C.1 C.2.1 dX9_chance_1 rfl (lv_at hl 3 rfl) ?_
  refine x_az K h (x_V C K h [.int x3] (c_X9_isOne l κ G cy ad H.size σ a0 x3 hk_a0 rfl) mi_X9_isOne rfl im_yX9_isOne se_yX9_isOne ml_RX9_95 cl_9 hk_a0 ⟨rfl, rfl, Nat.le_trans (Nat.le_of_ble_eq_true rfl) hR.1, Nat.le_trans (Nat.le_of_ble_eq_true rfl) hR.2⟩ hl (Nat.le_of_ble_eq_true rfl) dX9_chance_2 ⟨Nat.zero_le _, Nat.zero_le _⟩ rfl) (fun H locs h hX hz7 => ?_)
  refine lv_if_eq (tgt := 39) C.1 C.2.1 dX9_chance_5 (by decide) (fun c8 => ?_) (fun c8 => ?_)
  · have hf := if_t hf c8
    refine lv_ldc2 (v := (-4611686018427387904 : Int64)) C.1 C.2.1 C.2.2.2.1 (C.2.2.2.2 _ cl_RX9_378) dX9_chance_39 ?_
    exact x_rl C hr hlk h hE (pf_1 (Option.some.inj hf)) (pf_2 (Option.some.inj hf)) dX9_chance_42
  · have hf := if_f hf c8
    refine lv_iload C.1 C.2.1 dX9_chance_8 (lv_at hl 4 rfl) ?_
    refine x_az K h (x_S C K h [.int x4] (c_X9_isCell l κ G cy ad H.size σ x4 rfl) mi_X9_isCell rfl st_yX9_isCell ml_RX9_91 ⟨rfl, rfl, Nat.le_trans (Nat.le_of_ble_eq_true rfl) hR.1, Nat.le_trans (Nat.le_of_ble_eq_true rfl) hR.2⟩ hl (Nat.le_of_ble_eq_true rfl) dX9_chance_10 ⟨Nat.zero_le _, Nat.zero_le _⟩ rfl) (fun H locs h hX hz10 => ?_)
    refine lv_if_eq (tgt := 39) C.1 C.2.1 dX9_chance_13 (by decide) (fun c11 => ?_) (fun c11 => ?_)
    · have hf := if_t hf c11
      refine lv_ldc2 (v := (-4611686018427387904 : Int64)) C.1 C.2.1 C.2.2.2.1 (C.2.2.2.2 _ cl_RX9_378) dX9_chance_39 ?_
      exact x_rl C hr hlk h hE (pf_1 (Option.some.inj hf)) (pf_2 (Option.some.inj hf)) dX9_chance_42
    · have hf := if_f hf c11
      refine lv_iload_n C.1 C.2.1 dX9_chance_16 rfl (lv_at hl 2 rfl) ?_
      refine lv_i2l C.1 C.2.1 dX9_chance_17 rfl ?_
      refine lv_lconst (v := (1 : Int64)) C.1 C.2.1 dX9_chance_18 (by decide) ?_
      refine lv_ldc2 (v := (20 : Int64)) C.1 C.2.1 C.2.2.2.1 (C.2.2.2.2 _ cl_RX9_394) dX9_chance_19 ?_
      refine x_az K h (x_S C K h [.long x2.toInt64, .long (1 : Int64), .long (20 : Int64)] (c_X9_in l κ G cy ad H.size σ x2.toInt64 (1 : Int64) (20 : Int64) rfl) mi_X9_in rfl st_yX9_in ml_RX9_83 ⟨rfl, rfl, Nat.le_trans (Nat.le_of_ble_eq_true rfl) hR.1, Nat.le_trans (Nat.le_of_ble_eq_true rfl) hR.2⟩ hl (Nat.le_of_ble_eq_true rfl) dX9_chance_22 ⟨Nat.zero_le _, Nat.zero_le _⟩ rfl) (fun H locs h hX hz13 => ?_)
      refine lv_if_eq (tgt := 39) C.1 C.2.1 dX9_chance_25 (by decide) (fun c14 => ?_) (fun c14 => ?_)
      · have hf := if_t hf c14
        refine lv_ldc2 (v := (-4611686018427387904 : Int64)) C.1 C.2.1 C.2.2.2.1 (C.2.2.2.2 _ cl_RX9_378) dX9_chance_39 ?_
        exact x_rl C hr hlk h hE (pf_1 (Option.some.inj hf)) (pf_2 (Option.some.inj hf)) dX9_chance_42
      · have hf := if_f hf c14
        refine lv_iload C.1 C.2.1 dX9_chance_28 (lv_at hl 5 rfl) ?_
        refine lv_i2l C.1 C.2.1 dX9_chance_30 rfl ?_
        refine lv_lconst (v := (0 : Int64)) C.1 C.2.1 dX9_chance_31 (by decide) ?_
        refine lv_lconst (v := (1 : Int64)) C.1 C.2.1 dX9_chance_32 (by decide) ?_
        refine x_az K h (x_S C K h [.long x5.toInt64, .long (0 : Int64), .long (1 : Int64)] (c_X9_in l κ G cy ad H.size σ x5.toInt64 (0 : Int64) (1 : Int64) rfl) mi_X9_in rfl st_yX9_in ml_RX9_83 ⟨rfl, rfl, Nat.le_trans (Nat.le_of_ble_eq_true rfl) hR.1, Nat.le_trans (Nat.le_of_ble_eq_true rfl) hR.2⟩ hl (Nat.le_of_ble_eq_true rfl) dX9_chance_33 ⟨Nat.zero_le _, Nat.zero_le _⟩ rfl) (fun H locs h hX hz16 => ?_)
        refine lv_if_ne (tgt := 43) C.1 C.2.1 dX9_chance_36 (by decide) (fun c17 => ?_) (fun c17 => ?_)
        · have hf := if_f hf c17
          refine lv_lconst (v := (0 : Int64)) C.1 C.2.1 dX9_chance_43 (by decide) ?_
          refine lv_lstore (i := 6) (lv' := [(6, .long (0 : Int64)), (0, .ref (ad a0)), (1, .int x1), (2, .int x2), (3, .int x3), (4, .int x4), (5, .int x5)]) C.1 C.2.1 dX9_chance_44 hl (by decide) rfl (fun ls hl => ?_)
          refine lv_iconst (v := (0 : Int32)) C.1 C.2.1 dX9_chance_46 (by decide) ?_
          refine lv_istore (i := 8) (lv' := [(8, .int (0 : Int32)), (6, .long (0 : Int64)), (0, .ref (ad a0)), (1, .int x1), (2, .int x2), (3, .int x3), (4, .int x4), (5, .int x5)]) C.1 C.2.1 dX9_chance_47 hl (by decide) rfl (fun ls hl => ?_)
          exact w_X9_chance_49 fu C K hr hlk hR fu σ a0 x1 x2 x3 x4 x5 (0 : Int64) (0 : Int32) hE hk_a0 hf _ _ _ h (lv_sub hl [2, 3, 4, 5, 6, 7, 1, 0] rfl)
        · have hf := if_t hf c17
          refine lv_ldc2 (v := (-4611686018427387904 : Int64)) C.1 C.2.1 C.2.2.2.1 (C.2.2.2.2 _ cl_RX9_378) dX9_chance_39 ?_
          exact x_rl C hr hlk h hE (pf_1 (Option.some.inj hf)) (pf_2 (Option.some.inj hf)) dX9_chance_42
theorem c_X9_chance (fu : Nat) (l : Launch) (κ : Ka_) (G : va_G) (cy : Nat → ClassId) (ad : Nat → Nat) (sz : Nat) (σ : St_) (a0 : Nat) (x1 : Int32) (x2 : Int32) (x3 : Int32) (x4 : Int32) (x5 : Int32) (hk_a0 : kd_ σ a0 = 9) {q : Int64 × St_} (hf : f_X9_chance fu σ a0 x1 x2 x3 x4 x5 = some q) : Met l yX9_chance (Cond.code yX9_chance cX9_chance 14 (some .long) :: wU_) { frames := 46, cells := 0, slots := 0, locals := 1032 } (va_Pc [.ref (ad a0), .int x1, .int x2, .int x3, .int x4, .int x5] (Pr_ κ G cy ad σ sz)) (Ql_ G cy ad σ q.2 sz q.1) 0 0 (va_A (wl_ cy ad σ) sz) :=
  x_met (by decide) (fun p e R s m below meth c ls hR C hr hlk hin _ K h hl => w_X9_chance fu C K hr hlk ⟨hR.1, hR.2.1⟩ σ a0 x1 x2 x3 x4 x5 Ex_.rf hk_a0 hf s.heap [] ls h hl) (Nat.le_of_ble_eq_true rfl)
-- X9_image
theorem mi_X9_image : Mi_ yX9_image cX9_image 2 (some .int) 0 := ⟨co_yX9_image, in_RX9, by decide, by decide, by decide +kernel⟩
def f_X9_image_28 (fu : Nat) : Nat → St_ → Nat → Int32 → Option (Int32 × St_)
  | 0 => fun _ _ _ => none
  | n + 1 => fun σ  v0  v1 => if (12 : Int32) ≤ v1 then some (si_ (ui_ (ui_ (ui_ σ v0 35 (si_ σ v0 11)) v0 36 (si_ (ui_ σ v0 35 (si_ σ v0 11)) v0 7)) v0 37 (si_ (ui_ (ui_ σ v0 35 (si_ σ v0 11)) v0 36 (si_ (ui_ σ v0 35 (si_ σ v0 11)) v0 7)) v0 4)) v0 11, ui_ (ui_ (ui_ σ v0 35 (si_ σ v0 11)) v0 36 (si_ (ui_ σ v0 35 (si_ σ v0 11)) v0 7)) v0 37 (si_ (ui_ (ui_ σ v0 35 (si_ σ v0 11)) v0 36 (si_ (ui_ σ v0 35 (si_ σ v0 11)) v0 7)) v0 4)) else (dr_ σ 10 (sr_ σ v0 34)).bind fun b2 => (dr_ σ 10 (sr_ σ v0 10)).bind fun b3 => (ix_ v1 (ln_ σ b3)).bind fun j4 => (ix_ v1 (ln_ σ b2)).bind fun j5 => (f_X9_image_28 fu n) (ui_ σ b2 j5 (si_ σ b3 j4)) v0 (v1 + (1 : Int32))
set_option maxHeartbeats 4000000 in
set_option maxRecDepth 100000 in
theorem w_X9_image_28 {p : Program} {l : Launch} {e : Env} {R : Room} {s : State} {m : MethodId} {args : Array Value} {below : List Frame} {meth : Method} {c : Code} {κ : Ka_} {G : va_G} {cy : Nat → ClassId} {ad : Nat → Nat} {sz : Nat} {σ0 : St_} (fu : Nat) (C : CallFix p m c cX9_image 2 s args wU_ RX9) (K : Kx_ κ G cy (va_A (wl_ cy ad σ0) sz) s) (hr : meth.sig.returnType = some .int) (hlk : meth.locks = false) (hR : 0 ≤ R.frames ∧ 0 ≤ R.locals) {q : Int32 × St_} : ∀ n : Nat, ∀ (σ : St_) (v0 : Nat) (v1 : Int32), Ex_ σ0 σ → kd_ σ v0 = 9 → f_X9_image_28 fu n σ v0 v1 = some q → ∀ (H : Heap) (locs : List Loc) (ls : Array Slot), Ht_ G cy (va_A (wl_ cy ad σ0) sz) s ad σ H locs → lv_has ls 2 [(0, .ref (ad v0)), (1, .int v1)] → W p l e R s m args below meth c H locs 0 0 (MQ below (Qi_ G cy ad σ0 q.2 sz q.1) args s 0 0 (va_A (wl_ cy ad σ0) sz)) (F0 m 28 ls []) := by
  intro n
  induction n with
  | zero =>
    intro σ v0 v1 hE hk_v0 hf H locs ls h hl
    cases hf
  | succ n ih =>
    intro σ v0 v1 hE hk_v0 hf H locs ls h hl
    have hf : (if (12 : Int32) ≤ v1 then some (si_ (ui_ (ui_ (ui_ σ v0 35 (si_ σ v0 11)) v0 36 (si_ (ui_ σ v0 35 (si_ σ v0 11)) v0 7)) v0 37 (si_ (ui_ (ui_ σ v0 35 (si_ σ v0 11)) v0 36 (si_ (ui_ σ v0 35 (si_ σ v0 11)) v0 7)) v0 4)) v0 11, ui_ (ui_ (ui_ σ v0 35 (si_ σ v0 11)) v0 36 (si_ (ui_ σ v0 35 (si_ σ v0 11)) v0 7)) v0 37 (si_ (ui_ (ui_ σ v0 35 (si_ σ v0 11)) v0 36 (si_ (ui_ σ v0 35 (si_ σ v0 11)) v0 7)) v0 4)) else (dr_ σ 10 (sr_ σ v0 34)).bind fun b2 => (dr_ σ 10 (sr_ σ v0 10)).bind fun b3 => (ix_ v1 (ln_ σ b3)).bind fun j4 => (ix_ v1 (ln_ σ b2)).bind fun j5 => (f_X9_image_28 fu n) (ui_ σ b2 j5 (si_ σ b3 j4)) v0 (v1 + (1 : Int32))) = some q := hf
    refine lv_iload_n C.1 C.2.1 dX9_image_28 rfl (lv_at hl 1 rfl) ?_
    refine lv_bipush (v := (12 : Int32)) C.1 C.2.1 dX9_image_29 (by decide) ?_
    refine lv_icmp_ge (tgt := 52) C.1 C.2.1 dX9_image_31 (by decide) (fun c1 => ?_) (fun c1 => ?_)
    · have hf := if_t hf c1
      refine lv_aload_n C.1 C.2.1 dX9_image_52 rfl (lv_at hl 0 rfl) ?_
      refine lv_aload_n C.1 C.2.1 dX9_image_53 rfl (lv_at hl 0 rfl) ?_
      refine x_get (v := .int (si_ σ v0 11)) C K h cl_9 hk_v0 11 (by decide) fl_RX9_80 rfl dX9_image_54 ?_
      refine x_putI C K h cl_9 hk_v0 35 (by decide) fl_RX9_57 rfl rfl rfl (Nat.le_of_ble_eq_true rfl) (fun _ _ _ => rfl) dX9_image_57 (fun H locs h => ?_)
      have hE := hE.up (up_i σ v0 35 (si_ σ v0 11))
      refine lv_aload_n C.1 C.2.1 dX9_image_60 rfl (lv_at hl 0 rfl) ?_
      refine lv_aload_n C.1 C.2.1 dX9_image_61 rfl (lv_at hl 0 rfl) ?_
      refine x_get (v := .int (si_ (ui_ σ v0 35 (si_ σ v0 11)) v0 7)) C K h cl_9 hk_v0 7 (by decide) fl_RX9_116 rfl dX9_image_62 ?_
      refine x_putI C K h cl_9 hk_v0 36 (by decide) fl_RX9_420 rfl rfl rfl (Nat.le_of_ble_eq_true rfl) (fun _ _ _ => rfl) dX9_image_65 (fun H locs h => ?_)
      have hE := hE.up (up_i (ui_ σ v0 35 (si_ σ v0 11)) v0 36 (si_ (ui_ σ v0 35 (si_ σ v0 11)) v0 7))
      refine lv_aload_n C.1 C.2.1 dX9_image_68 rfl (lv_at hl 0 rfl) ?_
      refine lv_aload_n C.1 C.2.1 dX9_image_69 rfl (lv_at hl 0 rfl) ?_
      refine x_get (v := .int (si_ (ui_ (ui_ σ v0 35 (si_ σ v0 11)) v0 36 (si_ (ui_ σ v0 35 (si_ σ v0 11)) v0 7)) v0 4)) C K h cl_9 hk_v0 4 (by decide) fl_RX9_119 rfl dX9_image_70 ?_
      refine x_putI C K h cl_9 hk_v0 37 (by decide) fl_RX9_423 rfl rfl rfl (Nat.le_of_ble_eq_true rfl) (fun _ _ _ => rfl) dX9_image_73 (fun H locs h => ?_)
      have hE := hE.up (up_i (ui_ (ui_ σ v0 35 (si_ σ v0 11)) v0 36 (si_ (ui_ σ v0 35 (si_ σ v0 11)) v0 7)) v0 37 (si_ (ui_ (ui_ σ v0 35 (si_ σ v0 11)) v0 36 (si_ (ui_ σ v0 35 (si_ σ v0 11)) v0 7)) v0 4))
      refine lv_aload_n C.1 C.2.1 dX9_image_76 rfl (lv_at hl 0 rfl) ?_
      refine x_get (v := .int (si_ (ui_ (ui_ (ui_ σ v0 35 (si_ σ v0 11)) v0 36 (si_ (ui_ σ v0 35 (si_ σ v0 11)) v0 7)) v0 37 (si_ (ui_ (ui_ σ v0 35 (si_ σ v0 11)) v0 36 (si_ (ui_ σ v0 35 (si_ σ v0 11)) v0 7)) v0 4)) v0 11)) C K h cl_9 hk_v0 11 (by decide) fl_RX9_80 rfl dX9_image_77 ?_
      exact x_ri C hr hlk h hE (pf_1 (Option.some.inj hf)) (pf_2 (Option.some.inj hf)) dX9_image_80
    · have hf := if_f hf c1
      refine lv_aload_n C.1 C.2.1 dX9_image_34 rfl (lv_at hl 0 rfl) ?_
      obtain ⟨b2, hb_b2, hf⟩ := ob_ hf
      obtain ⟨hq_b2, hk_b2⟩ := dr_in hb_b2
      refine x_get (v := .ref (ad b2)) C K h cl_9 hk_v0 34 (by decide) fl_RX9_54 (hv_r (o := sr_ σ v0 34) rfl hq_b2) dX9_image_35 ?_
      refine lv_iload_n C.1 C.2.1 dX9_image_38 rfl (lv_at hl 1 rfl) ?_
      refine lv_aload_n C.1 C.2.1 dX9_image_39 rfl (lv_at hl 0 rfl) ?_
      obtain ⟨b3, hb_b3, hf⟩ := ob_ hf
      obtain ⟨hq_b3, hk_b3⟩ := dr_in hb_b3
      refine x_get (v := .ref (ad b3)) C K h cl_9 hk_v0 10 (by decide) fl_RX9_29 (hv_r (o := sr_ σ v0 10) rfl hq_b3) dX9_image_40 ?_
      refine lv_iload_n C.1 C.2.1 dX9_image_43 rfl (lv_at hl 1 rfl) ?_
      obtain ⟨j4, hj_j4, hf⟩ := ob_ hf
      refine x_iald C K h hk_b3 hj_j4 dX9_image_44 ?_
      obtain ⟨j5, hj_j5, hf⟩ := ob_ hf
      refine x_iast C K h hk_b2 hj_j5 dX9_image_45 (fun H locs h => ?_)
      have hE := hE.up (up_i σ b2 j5 (si_ σ b3 j4))
      refine lv_iinc (v := v1 + (1 : Int32)) (lv' := [(1, .int (v1 + (1 : Int32))), (0, .ref (ad v0))]) C.1 C.2.1 dX9_image_46 hl (k := 1) rfl rfl (by decide) rfl (fun ls hl => ?_)
      refine lv_goto (tgt := 28) C.1 C.2.1 dX9_image_49 (by decide) ?_
      exact ih (ui_ σ b2 j5 (si_ σ b3 j4)) v0 (v1 + (1 : Int32)) hE hk_v0 hf _ _ _ h (lv_sub hl [1, 0] rfl)
def f_X9_image_2 (fu : Nat) : Nat → St_ → Nat → Int32 → Option (Int32 × St_)
  | 0 => fun _ _ _ => none
  | n + 1 => fun σ  v0  v1 => if (36 : Int32) ≤ v1 then f_X9_image_28 fu fu σ v0 (0 : Int32) else (dr_ σ 10 (sr_ σ v0 33)).bind fun b2 => (dr_ σ 10 (sr_ σ v0 8)).bind fun b3 => (ix_ v1 (ln_ σ b3)).bind fun j4 => (ix_ v1 (ln_ σ b2)).bind fun j5 => (f_X9_image_2 fu n) (ui_ σ b2 j5 (si_ σ b3 j4)) v0 (v1 + (1 : Int32))
set_option maxHeartbeats 4000000 in
set_option maxRecDepth 100000 in
theorem w_X9_image_2 {p : Program} {l : Launch} {e : Env} {R : Room} {s : State} {m : MethodId} {args : Array Value} {below : List Frame} {meth : Method} {c : Code} {κ : Ka_} {G : va_G} {cy : Nat → ClassId} {ad : Nat → Nat} {sz : Nat} {σ0 : St_} (fu : Nat) (C : CallFix p m c cX9_image 2 s args wU_ RX9) (K : Kx_ κ G cy (va_A (wl_ cy ad σ0) sz) s) (hr : meth.sig.returnType = some .int) (hlk : meth.locks = false) (hR : 0 ≤ R.frames ∧ 0 ≤ R.locals) {q : Int32 × St_} : ∀ n : Nat, ∀ (σ : St_) (v0 : Nat) (v1 : Int32), Ex_ σ0 σ → kd_ σ v0 = 9 → f_X9_image_2 fu n σ v0 v1 = some q → ∀ (H : Heap) (locs : List Loc) (ls : Array Slot), Ht_ G cy (va_A (wl_ cy ad σ0) sz) s ad σ H locs → lv_has ls 2 [(0, .ref (ad v0)), (1, .int v1)] → W p l e R s m args below meth c H locs 0 0 (MQ below (Qi_ G cy ad σ0 q.2 sz q.1) args s 0 0 (va_A (wl_ cy ad σ0) sz)) (F0 m 2 ls []) := by
  intro n
  induction n with
  | zero =>
    intro σ v0 v1 hE hk_v0 hf H locs ls h hl
    cases hf
  | succ n ih =>
    intro σ v0 v1 hE hk_v0 hf H locs ls h hl
    have hf : (if (36 : Int32) ≤ v1 then f_X9_image_28 fu fu σ v0 (0 : Int32) else (dr_ σ 10 (sr_ σ v0 33)).bind fun b2 => (dr_ σ 10 (sr_ σ v0 8)).bind fun b3 => (ix_ v1 (ln_ σ b3)).bind fun j4 => (ix_ v1 (ln_ σ b2)).bind fun j5 => (f_X9_image_2 fu n) (ui_ σ b2 j5 (si_ σ b3 j4)) v0 (v1 + (1 : Int32))) = some q := hf
    refine lv_iload_n C.1 C.2.1 dX9_image_2 rfl (lv_at hl 1 rfl) ?_
    refine lv_bipush (v := (36 : Int32)) C.1 C.2.1 dX9_image_3 (by decide) ?_
    refine lv_icmp_ge (tgt := 26) C.1 C.2.1 dX9_image_5 (by decide) (fun c1 => ?_) (fun c1 => ?_)
    · have hf := if_t hf c1
      refine lv_iconst (v := (0 : Int32)) C.1 C.2.1 dX9_image_26 (by decide) ?_
      refine lv_istore_n (i := 1) (lv' := [(1, .int (0 : Int32)), (0, .ref (ad v0))]) C.1 C.2.1 dX9_image_27 rfl hl (by decide) rfl (fun ls hl => ?_)
      exact w_X9_image_28 fu C K hr hlk hR fu σ v0 (0 : Int32) hE hk_v0 hf _ _ _ h (lv_sub hl [1, 0] rfl)
    · have hf := if_f hf c1
      refine lv_aload_n C.1 C.2.1 dX9_image_8 rfl (lv_at hl 0 rfl) ?_
      obtain ⟨b2, hb_b2, hf⟩ := ob_ hf
      obtain ⟨hq_b2, hk_b2⟩ := dr_in hb_b2
      refine x_get (v := .ref (ad b2)) C K h cl_9 hk_v0 33 (by decide) fl_RX9_51 (hv_r (o := sr_ σ v0 33) rfl hq_b2) dX9_image_9 ?_
      refine lv_iload_n C.1 C.2.1 dX9_image_12 rfl (lv_at hl 1 rfl) ?_
      refine lv_aload_n C.1 C.2.1 dX9_image_13 rfl (lv_at hl 0 rfl) ?_
      obtain ⟨b3, hb_b3, hf⟩ := ob_ hf
      obtain ⟨hq_b3, hk_b3⟩ := dr_in hb_b3
      refine x_get (v := .ref (ad b3)) C K h cl_9 hk_v0 8 (by decide) fl_RX9_23 (hv_r (o := sr_ σ v0 8) rfl hq_b3) dX9_image_14 ?_
      refine lv_iload_n C.1 C.2.1 dX9_image_17 rfl (lv_at hl 1 rfl) ?_
      obtain ⟨j4, hj_j4, hf⟩ := ob_ hf
      refine x_iald C K h hk_b3 hj_j4 dX9_image_18 ?_
      obtain ⟨j5, hj_j5, hf⟩ := ob_ hf
      refine x_iast C K h hk_b2 hj_j5 dX9_image_19 (fun H locs h => ?_)
      have hE := hE.up (up_i σ b2 j5 (si_ σ b3 j4))
      refine lv_iinc (v := v1 + (1 : Int32)) (lv' := [(1, .int (v1 + (1 : Int32))), (0, .ref (ad v0))]) C.1 C.2.1 dX9_image_20 hl (k := 1) rfl rfl (by decide) rfl (fun ls hl => ?_)
      refine lv_goto (tgt := 2) C.1 C.2.1 dX9_image_23 (by decide) ?_
      exact ih (ui_ σ b2 j5 (si_ σ b3 j4)) v0 (v1 + (1 : Int32)) hE hk_v0 hf _ _ _ h (lv_sub hl [1, 0] rfl)
def f_X9_image (fu : Nat) (σ : St_) (a0 : Nat) : Option (Int32 × St_) := f_X9_image_2 fu fu σ a0 (0 : Int32)
set_option maxHeartbeats 4000000 in
set_option maxRecDepth 100000 in
theorem w_X9_image {p : Program} {l : Launch} {e : Env} {R : Room} {s : State} {m : MethodId} {args : Array Value} {below : List Frame} {meth : Method} {c : Code} {κ : Ka_} {G : va_G} {cy : Nat → ClassId} {ad : Nat → Nat} {sz : Nat} {σ0 : St_} (fu : Nat) (C : CallFix p m c cX9_image 2 s args wU_ RX9) (K : Kx_ κ G cy (va_A (wl_ cy ad σ0) sz) s) (hr : meth.sig.returnType = some .int) (hlk : meth.locks = false) (hR : 0 ≤ R.frames ∧ 0 ≤ R.locals) {q : Int32 × St_} : ∀ (σ : St_) (a0 : Nat), Ex_ σ0 σ → kd_ σ a0 = 9 → f_X9_image fu σ a0 = some q → ∀ (H : Heap) (locs : List Loc) (ls : Array Slot), Ht_ G cy (va_A (wl_ cy ad σ0) sz) s ad σ H locs → lv_has ls 2 [(0, .ref (ad a0))] → W p l e R s m args below meth c H locs 0 0 (MQ below (Qi_ G cy ad σ0 q.2 sz q.1) args s 0 0 (va_A (wl_ cy ad σ0) sz)) (F0 m 0 ls []) := by
  intro σ a0 hE hk_a0 hf H locs ls h hl
  have hf : (f_X9_image_2 fu fu σ a0 (0 : Int32)) = some q := hf
  refine lv_iconst (v := (0 : Int32)) C.1 C.2.1 dX9_image_0 (by decide) ?_
  refine lv_istore_n (i := 1) (lv' := [(1, .int (0 : Int32)), (0, .ref (ad a0))]) C.1 C.2.1 dX9_image_1 rfl hl (by decide) rfl (fun ls hl => ?_)
  exact w_X9_image_2 fu C K hr hlk hR fu σ a0 (0 : Int32) hE hk_a0 hf _ _ _ h (lv_sub hl [1, 0] rfl)
theorem c_X9_image (fu : Nat) (l : Launch) (κ : Ka_) (G : va_G) (cy : Nat → ClassId) (ad : Nat → Nat) (sz : Nat) (σ : St_) (a0 : Nat) (hk_a0 : kd_ σ a0 = 9) {q : Int32 × St_} (hf : f_X9_image fu σ a0 = some q) : Met l yX9_image (Cond.code yX9_image cX9_image 2 (some .int) :: wU_) { frames := 0, cells := 0, slots := 0, locals := 0 } (va_Pc [.ref (ad a0)] (Pr_ κ G cy ad σ sz)) (Qi_ G cy ad σ q.2 sz q.1) 0 0 (va_A (wl_ cy ad σ) sz) :=
  x_met (by decide) (fun p e R s m below meth c ls hR C hr hlk hin _ K h hl => w_X9_image fu C K hr hlk ⟨hR.1, hR.2.1⟩ σ a0 Ex_.rf hk_a0 hf s.heap [] ls h hl) (Nat.le_of_ble_eq_true rfl)
-- X9_back
theorem mi_X9_back : Mi_ yX9_back cX9_back 2 (some .int) 0 := ⟨co_yX9_back, in_RX9, by decide, by decide, by decide +kernel⟩
def f_X9_back_39 (fu : Nat) : Nat → St_ → Nat → Int32 → Option (Int32 × St_)
  | 0 => fun _ _ _ => none
  | n + 1 => fun σ  v0  v1 => if (12 : Int32) ≤ v1 then some (si_ (ui_ (ui_ (ui_ σ v0 11 (si_ σ v0 35)) v0 7 (si_ (ui_ σ v0 11 (si_ σ v0 35)) v0 36)) v0 4 (si_ (ui_ (ui_ σ v0 11 (si_ σ v0 35)) v0 7 (si_ (ui_ σ v0 11 (si_ σ v0 35)) v0 36)) v0 37)) v0 11, ui_ (ui_ (ui_ σ v0 11 (si_ σ v0 35)) v0 7 (si_ (ui_ σ v0 11 (si_ σ v0 35)) v0 36)) v0 4 (si_ (ui_ (ui_ σ v0 11 (si_ σ v0 35)) v0 7 (si_ (ui_ σ v0 11 (si_ σ v0 35)) v0 36)) v0 37)) else (dr_ σ 10 (sr_ σ v0 10)).bind fun b2 => (dr_ σ 10 (sr_ σ v0 34)).bind fun b3 => (ix_ v1 (ln_ σ b3)).bind fun j4 => (ix_ v1 (ln_ σ b2)).bind fun j5 => (f_X9_back_39 fu n) (ui_ σ b2 j5 (si_ σ b3 j4)) v0 (v1 + (1 : Int32))
set_option maxHeartbeats 4000000 in
set_option maxRecDepth 100000 in
theorem w_X9_back_39 {p : Program} {l : Launch} {e : Env} {R : Room} {s : State} {m : MethodId} {args : Array Value} {below : List Frame} {meth : Method} {c : Code} {κ : Ka_} {G : va_G} {cy : Nat → ClassId} {ad : Nat → Nat} {sz : Nat} {σ0 : St_} (fu : Nat) (C : CallFix p m c cX9_back 2 s args wU_ RX9) (K : Kx_ κ G cy (va_A (wl_ cy ad σ0) sz) s) (hr : meth.sig.returnType = some .int) (hlk : meth.locks = false) (hR : 0 ≤ R.frames ∧ 0 ≤ R.locals) {q : Int32 × St_} : ∀ n : Nat, ∀ (σ : St_) (v0 : Nat) (v1 : Int32), Ex_ σ0 σ → kd_ σ v0 = 9 → f_X9_back_39 fu n σ v0 v1 = some q → ∀ (H : Heap) (locs : List Loc) (ls : Array Slot), Ht_ G cy (va_A (wl_ cy ad σ0) sz) s ad σ H locs → lv_has ls 2 [(0, .ref (ad v0)), (1, .int v1)] → W p l e R s m args below meth c H locs 0 0 (MQ below (Qi_ G cy ad σ0 q.2 sz q.1) args s 0 0 (va_A (wl_ cy ad σ0) sz)) (F0 m 39 ls []) := by
  intro n
  induction n with
  | zero =>
    intro σ v0 v1 hE hk_v0 hf H locs ls h hl
    cases hf
  | succ n ih =>
    intro σ v0 v1 hE hk_v0 hf H locs ls h hl
    have hf : (if (12 : Int32) ≤ v1 then some (si_ (ui_ (ui_ (ui_ σ v0 11 (si_ σ v0 35)) v0 7 (si_ (ui_ σ v0 11 (si_ σ v0 35)) v0 36)) v0 4 (si_ (ui_ (ui_ σ v0 11 (si_ σ v0 35)) v0 7 (si_ (ui_ σ v0 11 (si_ σ v0 35)) v0 36)) v0 37)) v0 11, ui_ (ui_ (ui_ σ v0 11 (si_ σ v0 35)) v0 7 (si_ (ui_ σ v0 11 (si_ σ v0 35)) v0 36)) v0 4 (si_ (ui_ (ui_ σ v0 11 (si_ σ v0 35)) v0 7 (si_ (ui_ σ v0 11 (si_ σ v0 35)) v0 36)) v0 37)) else (dr_ σ 10 (sr_ σ v0 10)).bind fun b2 => (dr_ σ 10 (sr_ σ v0 34)).bind fun b3 => (ix_ v1 (ln_ σ b3)).bind fun j4 => (ix_ v1 (ln_ σ b2)).bind fun j5 => (f_X9_back_39 fu n) (ui_ σ b2 j5 (si_ σ b3 j4)) v0 (v1 + (1 : Int32))) = some q := hf
    refine lv_iload_n C.1 C.2.1 dX9_back_39 rfl (lv_at hl 1 rfl) ?_
    refine lv_bipush (v := (12 : Int32)) C.1 C.2.1 dX9_back_40 (by decide) ?_
    refine lv_icmp_ge (tgt := 63) C.1 C.2.1 dX9_back_42 (by decide) (fun c1 => ?_) (fun c1 => ?_)
    · have hf := if_t hf c1
      refine lv_aload_n C.1 C.2.1 dX9_back_63 rfl (lv_at hl 0 rfl) ?_
      refine lv_aload_n C.1 C.2.1 dX9_back_64 rfl (lv_at hl 0 rfl) ?_
      refine x_get (v := .int (si_ σ v0 35)) C K h cl_9 hk_v0 35 (by decide) fl_RX9_57 rfl dX9_back_65 ?_
      refine x_putI C K h cl_9 hk_v0 11 (by decide) fl_RX9_80 rfl rfl rfl (Nat.le_of_ble_eq_true rfl) (fun _ _ _ => rfl) dX9_back_68 (fun H locs h => ?_)
      have hE := hE.up (up_i σ v0 11 (si_ σ v0 35))
      refine lv_aload_n C.1 C.2.1 dX9_back_71 rfl (lv_at hl 0 rfl) ?_
      refine lv_aload_n C.1 C.2.1 dX9_back_72 rfl (lv_at hl 0 rfl) ?_
      refine x_get (v := .int (si_ (ui_ σ v0 11 (si_ σ v0 35)) v0 36)) C K h cl_9 hk_v0 36 (by decide) fl_RX9_420 rfl dX9_back_73 ?_
      refine x_putI C K h cl_9 hk_v0 7 (by decide) fl_RX9_116 rfl rfl rfl (Nat.le_of_ble_eq_true rfl) (fun _ _ _ => rfl) dX9_back_76 (fun H locs h => ?_)
      have hE := hE.up (up_i (ui_ σ v0 11 (si_ σ v0 35)) v0 7 (si_ (ui_ σ v0 11 (si_ σ v0 35)) v0 36))
      refine lv_aload_n C.1 C.2.1 dX9_back_79 rfl (lv_at hl 0 rfl) ?_
      refine lv_aload_n C.1 C.2.1 dX9_back_80 rfl (lv_at hl 0 rfl) ?_
      refine x_get (v := .int (si_ (ui_ (ui_ σ v0 11 (si_ σ v0 35)) v0 7 (si_ (ui_ σ v0 11 (si_ σ v0 35)) v0 36)) v0 37)) C K h cl_9 hk_v0 37 (by decide) fl_RX9_423 rfl dX9_back_81 ?_
      refine x_putI C K h cl_9 hk_v0 4 (by decide) fl_RX9_119 rfl rfl rfl (Nat.le_of_ble_eq_true rfl) (fun _ _ _ => rfl) dX9_back_84 (fun H locs h => ?_)
      have hE := hE.up (up_i (ui_ (ui_ σ v0 11 (si_ σ v0 35)) v0 7 (si_ (ui_ σ v0 11 (si_ σ v0 35)) v0 36)) v0 4 (si_ (ui_ (ui_ σ v0 11 (si_ σ v0 35)) v0 7 (si_ (ui_ σ v0 11 (si_ σ v0 35)) v0 36)) v0 37))
      refine lv_aload_n C.1 C.2.1 dX9_back_87 rfl (lv_at hl 0 rfl) ?_
      refine x_get (v := .int (si_ (ui_ (ui_ (ui_ σ v0 11 (si_ σ v0 35)) v0 7 (si_ (ui_ σ v0 11 (si_ σ v0 35)) v0 36)) v0 4 (si_ (ui_ (ui_ σ v0 11 (si_ σ v0 35)) v0 7 (si_ (ui_ σ v0 11 (si_ σ v0 35)) v0 36)) v0 37)) v0 11)) C K h cl_9 hk_v0 11 (by decide) fl_RX9_80 rfl dX9_back_88 ?_
      exact x_ri C hr hlk h hE (pf_1 (Option.some.inj hf)) (pf_2 (Option.some.inj hf)) dX9_back_91
    · have hf := if_f hf c1
      refine lv_aload_n C.1 C.2.1 dX9_back_45 rfl (lv_at hl 0 rfl) ?_
      obtain ⟨b2, hb_b2, hf⟩ := ob_ hf
      obtain ⟨hq_b2, hk_b2⟩ := dr_in hb_b2
      refine x_get (v := .ref (ad b2)) C K h cl_9 hk_v0 10 (by decide) fl_RX9_29 (hv_r (o := sr_ σ v0 10) rfl hq_b2) dX9_back_46 ?_
      refine lv_iload_n C.1 C.2.1 dX9_back_49 rfl (lv_at hl 1 rfl) ?_
      refine lv_aload_n C.1 C.2.1 dX9_back_50 rfl (lv_at hl 0 rfl) ?_
      obtain ⟨b3, hb_b3, hf⟩ := ob_ hf
      obtain ⟨hq_b3, hk_b3⟩ := dr_in hb_b3
      refine x_get (v := .ref (ad b3)) C K h cl_9 hk_v0 34 (by decide) fl_RX9_54 (hv_r (o := sr_ σ v0 34) rfl hq_b3) dX9_back_51 ?_
      refine lv_iload_n C.1 C.2.1 dX9_back_54 rfl (lv_at hl 1 rfl) ?_
      obtain ⟨j4, hj_j4, hf⟩ := ob_ hf
      refine x_iald C K h hk_b3 hj_j4 dX9_back_55 ?_
      obtain ⟨j5, hj_j5, hf⟩ := ob_ hf
      refine x_iast C K h hk_b2 hj_j5 dX9_back_56 (fun H locs h => ?_)
      have hE := hE.up (up_i σ b2 j5 (si_ σ b3 j4))
      refine lv_iinc (v := v1 + (1 : Int32)) (lv' := [(1, .int (v1 + (1 : Int32))), (0, .ref (ad v0))]) C.1 C.2.1 dX9_back_57 hl (k := 1) rfl rfl (by decide) rfl (fun ls hl => ?_)
      refine lv_goto (tgt := 39) C.1 C.2.1 dX9_back_60 (by decide) ?_
      exact ih (ui_ σ b2 j5 (si_ σ b3 j4)) v0 (v1 + (1 : Int32)) hE hk_v0 hf _ _ _ h (lv_sub hl [1, 0] rfl)
def f_X9_back_13 (fu : Nat) : Nat → St_ → Nat → Int32 → Option (Int32 × St_)
  | 0 => fun _ _ _ => none
  | n + 1 => fun σ  v0  v1 => if (36 : Int32) ≤ v1 then f_X9_back_39 fu fu σ v0 (0 : Int32) else (dr_ σ 10 (sr_ σ v0 8)).bind fun b2 => (dr_ σ 10 (sr_ σ v0 33)).bind fun b3 => (ix_ v1 (ln_ σ b3)).bind fun j4 => (ix_ v1 (ln_ σ b2)).bind fun j5 => (f_X9_back_13 fu n) (ui_ σ b2 j5 (si_ σ b3 j4)) v0 (v1 + (1 : Int32))
set_option maxHeartbeats 4000000 in
set_option maxRecDepth 100000 in
theorem w_X9_back_13 {p : Program} {l : Launch} {e : Env} {R : Room} {s : State} {m : MethodId} {args : Array Value} {below : List Frame} {meth : Method} {c : Code} {κ : Ka_} {G : va_G} {cy : Nat → ClassId} {ad : Nat → Nat} {sz : Nat} {σ0 : St_} (fu : Nat) (C : CallFix p m c cX9_back 2 s args wU_ RX9) (K : Kx_ κ G cy (va_A (wl_ cy ad σ0) sz) s) (hr : meth.sig.returnType = some .int) (hlk : meth.locks = false) (hR : 0 ≤ R.frames ∧ 0 ≤ R.locals) {q : Int32 × St_} : ∀ n : Nat, ∀ (σ : St_) (v0 : Nat) (v1 : Int32), Ex_ σ0 σ → kd_ σ v0 = 9 → f_X9_back_13 fu n σ v0 v1 = some q → ∀ (H : Heap) (locs : List Loc) (ls : Array Slot), Ht_ G cy (va_A (wl_ cy ad σ0) sz) s ad σ H locs → lv_has ls 2 [(0, .ref (ad v0)), (1, .int v1)] → W p l e R s m args below meth c H locs 0 0 (MQ below (Qi_ G cy ad σ0 q.2 sz q.1) args s 0 0 (va_A (wl_ cy ad σ0) sz)) (F0 m 13 ls []) := by
  intro n
  induction n with
  | zero =>
    intro σ v0 v1 hE hk_v0 hf H locs ls h hl
    cases hf
  | succ n ih =>
    intro σ v0 v1 hE hk_v0 hf H locs ls h hl
    have hf : (if (36 : Int32) ≤ v1 then f_X9_back_39 fu fu σ v0 (0 : Int32) else (dr_ σ 10 (sr_ σ v0 8)).bind fun b2 => (dr_ σ 10 (sr_ σ v0 33)).bind fun b3 => (ix_ v1 (ln_ σ b3)).bind fun j4 => (ix_ v1 (ln_ σ b2)).bind fun j5 => (f_X9_back_13 fu n) (ui_ σ b2 j5 (si_ σ b3 j4)) v0 (v1 + (1 : Int32))) = some q := hf
    refine lv_iload_n C.1 C.2.1 dX9_back_13 rfl (lv_at hl 1 rfl) ?_
    refine lv_bipush (v := (36 : Int32)) C.1 C.2.1 dX9_back_14 (by decide) ?_
    refine lv_icmp_ge (tgt := 37) C.1 C.2.1 dX9_back_16 (by decide) (fun c1 => ?_) (fun c1 => ?_)
    · have hf := if_t hf c1
      refine lv_iconst (v := (0 : Int32)) C.1 C.2.1 dX9_back_37 (by decide) ?_
      refine lv_istore_n (i := 1) (lv' := [(1, .int (0 : Int32)), (0, .ref (ad v0))]) C.1 C.2.1 dX9_back_38 rfl hl (by decide) rfl (fun ls hl => ?_)
      exact w_X9_back_39 fu C K hr hlk hR fu σ v0 (0 : Int32) hE hk_v0 hf _ _ _ h (lv_sub hl [1, 0] rfl)
    · have hf := if_f hf c1
      refine lv_aload_n C.1 C.2.1 dX9_back_19 rfl (lv_at hl 0 rfl) ?_
      obtain ⟨b2, hb_b2, hf⟩ := ob_ hf
      obtain ⟨hq_b2, hk_b2⟩ := dr_in hb_b2
      refine x_get (v := .ref (ad b2)) C K h cl_9 hk_v0 8 (by decide) fl_RX9_23 (hv_r (o := sr_ σ v0 8) rfl hq_b2) dX9_back_20 ?_
      refine lv_iload_n C.1 C.2.1 dX9_back_23 rfl (lv_at hl 1 rfl) ?_
      refine lv_aload_n C.1 C.2.1 dX9_back_24 rfl (lv_at hl 0 rfl) ?_
      obtain ⟨b3, hb_b3, hf⟩ := ob_ hf
      obtain ⟨hq_b3, hk_b3⟩ := dr_in hb_b3
      refine x_get (v := .ref (ad b3)) C K h cl_9 hk_v0 33 (by decide) fl_RX9_51 (hv_r (o := sr_ σ v0 33) rfl hq_b3) dX9_back_25 ?_
      refine lv_iload_n C.1 C.2.1 dX9_back_28 rfl (lv_at hl 1 rfl) ?_
      obtain ⟨j4, hj_j4, hf⟩ := ob_ hf
      refine x_iald C K h hk_b3 hj_j4 dX9_back_29 ?_
      obtain ⟨j5, hj_j5, hf⟩ := ob_ hf
      refine x_iast C K h hk_b2 hj_j5 dX9_back_30 (fun H locs h => ?_)
      have hE := hE.up (up_i σ b2 j5 (si_ σ b3 j4))
      refine lv_iinc (v := v1 + (1 : Int32)) (lv' := [(1, .int (v1 + (1 : Int32))), (0, .ref (ad v0))]) C.1 C.2.1 dX9_back_31 hl (k := 1) rfl rfl (by decide) rfl (fun ls hl => ?_)
      refine lv_goto (tgt := 13) C.1 C.2.1 dX9_back_34 (by decide) ?_
      exact ih (ui_ σ b2 j5 (si_ σ b3 j4)) v0 (v1 + (1 : Int32)) hE hk_v0 hf _ _ _ h (lv_sub hl [1, 0] rfl)
def f_X9_back (fu : Nat) (σ : St_) (a0 : Nat) : Option (Int32 × St_) := if (si_ σ a0 35) = (-1 : Int32) then some ((-3 : Int32), σ) else f_X9_back_13 fu fu σ a0 (0 : Int32)
set_option maxHeartbeats 4000000 in
set_option maxRecDepth 100000 in
theorem w_X9_back {p : Program} {l : Launch} {e : Env} {R : Room} {s : State} {m : MethodId} {args : Array Value} {below : List Frame} {meth : Method} {c : Code} {κ : Ka_} {G : va_G} {cy : Nat → ClassId} {ad : Nat → Nat} {sz : Nat} {σ0 : St_} (fu : Nat) (C : CallFix p m c cX9_back 2 s args wU_ RX9) (K : Kx_ κ G cy (va_A (wl_ cy ad σ0) sz) s) (hr : meth.sig.returnType = some .int) (hlk : meth.locks = false) (hR : 0 ≤ R.frames ∧ 0 ≤ R.locals) {q : Int32 × St_} : ∀ (σ : St_) (a0 : Nat), Ex_ σ0 σ → kd_ σ a0 = 9 → f_X9_back fu σ a0 = some q → ∀ (H : Heap) (locs : List Loc) (ls : Array Slot), Ht_ G cy (va_A (wl_ cy ad σ0) sz) s ad σ H locs → lv_has ls 2 [(0, .ref (ad a0))] → W p l e R s m args below meth c H locs 0 0 (MQ below (Qi_ G cy ad σ0 q.2 sz q.1) args s 0 0 (va_A (wl_ cy ad σ0) sz)) (F0 m 0 ls []) := by
  intro σ a0 hE hk_a0 hf H locs ls h hl
  have hf : (if (si_ σ a0 35) = (-1 : Int32) then some ((-3 : Int32), σ) else f_X9_back_13 fu fu σ a0 (0 : Int32)) = some q := hf
  refine lv_aload_n C.1 C.2.1 dX9_back_0 rfl (lv_at hl 0 rfl) ?_
  refine x_get (v := .int (si_ σ a0 35)) C K h cl_9 hk_a0 35 (by decide) fl_RX9_57 rfl dX9_back_1 ?_
  refine lv_iconst (v := (-1 : Int32)) C.1 C.2.1 dX9_back_4 (by decide) ?_
  refine lv_icmp_ne (tgt := 11) C.1 C.2.1 dX9_back_5 (by decide) (fun c1 => ?_) (fun c1 => ?_)
  · have hf := if_f hf c1
    refine lv_iconst (v := (0 : Int32)) C.1 C.2.1 dX9_back_11 (by decide) ?_
    refine lv_istore_n (i := 1) (lv' := [(1, .int (0 : Int32)), (0, .ref (ad a0))]) C.1 C.2.1 dX9_back_12 rfl hl (by decide) rfl (fun ls hl => ?_)
    exact w_X9_back_13 fu C K hr hlk hR fu σ a0 (0 : Int32) hE hk_a0 hf _ _ _ h (lv_sub hl [1, 0] rfl)
  · have hf := if_t hf c1
    refine lv_bipush (v := (-3 : Int32)) C.1 C.2.1 dX9_back_8 (by decide) ?_
    exact x_ri C hr hlk h hE (pf_1 (Option.some.inj hf)) (pf_2 (Option.some.inj hf)) dX9_back_10
theorem c_X9_back (fu : Nat) (l : Launch) (κ : Ka_) (G : va_G) (cy : Nat → ClassId) (ad : Nat → Nat) (sz : Nat) (σ : St_) (a0 : Nat) (hk_a0 : kd_ σ a0 = 9) {q : Int32 × St_} (hf : f_X9_back fu σ a0 = some q) : Met l yX9_back (Cond.code yX9_back cX9_back 2 (some .int) :: wU_) { frames := 0, cells := 0, slots := 0, locals := 0 } (va_Pc [.ref (ad a0)] (Pr_ κ G cy ad σ sz)) (Qi_ G cy ad σ q.2 sz q.1) 0 0 (va_A (wl_ cy ad σ) sz) :=
  x_met (by decide) (fun p e R s m below meth c ls hR C hr hlk hin _ K h hl => w_X9_back fu C K hr hlk ⟨hR.1, hR.2.1⟩ σ a0 Ex_.rf hk_a0 hf s.heap [] ls h hl) (Nat.le_of_ble_eq_true rfl)
-- X9_count
theorem mi_X9_count : Mi_ yX9_count cX9_count 4 (some .int) 1 := ⟨co_yX9_count, in_RX9, by decide, by decide, by decide +kernel⟩
def f_X9_count_81 (fu : Nat) (σ : St_) : Nat → Nat → Int32 → Int32 → Int32 → Option Int32
  | 0 => fun _ _ _ _ => none
  | n + 1 => fun v0  v1  v2  v3 => if (si_ σ v0 11) ≤ v3 then if v1 = 0 then some (si_ σ v0 11) else some v2 else if v1 = (2 : Int32) then (dr_ σ 10 (sr_ σ v0 10)).bind fun b5 => (ix_ (((3 : Int32) * v3) + (2 : Int32)) (ln_ σ b5)).bind fun j6 => (f_X9_count_81 fu σ n) v0 v1 (v2 + (si_ σ b5 j6)) (v3 + (1 : Int32)) else if v1 = 0 then some (si_ σ v0 11) else some v2
set_option maxHeartbeats 4000000 in
set_option maxRecDepth 100000 in
theorem w_X9_count_81 {p : Program} {l : Launch} {e : Env} {R : Room} {s : State} {m : MethodId} {args : Array Value} {below : List Frame} {meth : Method} {c : Code} {κ : Ka_} {G : va_G} {cy : Nat → ClassId} {ad : Nat → Nat} {sz : Nat} {σ : St_} (fu : Nat) (C : CallFix p m c cX9_count 4 s args wU_ RX9) (K : Kx_ κ G cy (va_A (wl_ cy ad σ) sz) s) (hr : meth.sig.returnType = some .int) (hlk : meth.locks = false) (hR : 1 ≤ R.frames ∧ 25 ≤ R.locals) {q : Int32} : ∀ n : Nat, ∀ (v0 : Nat) (v1 : Int32) (v2 : Int32) (v3 : Int32), kd_ σ v0 = 9 → f_X9_count_81 fu σ n v0 v1 v2 v3 = some q → ∀ (H : Heap) (locs : List Loc) (ls : Array Slot), Ht_ G cy (va_A (wl_ cy ad σ) sz) s ad σ H locs → lv_has ls 4 [(0, .ref (ad v0)), (1, .int v1), (2, .int v2), (3, .int v3)] → W p l e R s m args below meth c H locs 0 0 (MQ below (Qi_ G cy ad σ σ sz q) args s 0 0 (va_A (wl_ cy ad σ) sz)) (F0 m 81 ls []) := by
  intro n
  induction n with
  | zero =>
    intro v0 v1 v2 v3 hk_v0 hf H locs ls h hl
    cases hf
  | succ n ih =>
    intro v0 v1 v2 v3 hk_v0 hf H locs ls h hl
    have hf : (if (si_ σ v0 11) ≤ v3 then if v1 = 0 then some (si_ σ v0 11) else some v2 else if v1 = (2 : Int32) then (dr_ σ 10 (sr_ σ v0 10)).bind fun b5 => (ix_ (((3 : Int32) * v3) + (2 : Int32)) (ln_ σ b5)).bind fun j6 => (f_X9_count_81 fu σ n) v0 v1 (v2 + (si_ σ b5 j6)) (v3 + (1 : Int32)) else if v1 = 0 then some (si_ σ v0 11) else some v2) = some q := hf
    refine lv_iload_n C.1 C.2.1 dX9_count_81 rfl (lv_at hl 3 rfl) ?_
    refine lv_aload_n C.1 C.2.1 dX9_count_82 rfl (lv_at hl 0 rfl) ?_
    refine x_get (v := .int (si_ σ v0 11)) C K h cl_9 hk_v0 11 (by decide) fl_RX9_80 rfl dX9_count_83 ?_
    refine lv_icmp_ge (tgt := 113) C.1 C.2.1 dX9_count_86 (by decide) (fun c1 => ?_) (fun c1 => ?_)
    · have hf := if_t hf c1
      refine lv_iload_n C.1 C.2.1 dX9_count_113 rfl (lv_at hl 1 rfl) ?_
      refine lv_if_ne (tgt := 124) C.1 C.2.1 dX9_count_114 (by decide) (fun c2 => ?_) (fun c2 => ?_)
      · have hf := if_f hf c2
        refine lv_iload_n C.1 C.2.1 dX9_count_124 rfl (lv_at hl 2 rfl) ?_
        exact x_ri C hr hlk h Ex_.rf (Option.some.inj hf) rfl dX9_count_125
      · have hf := if_t hf c2
        refine lv_aload_n C.1 C.2.1 dX9_count_117 rfl (lv_at hl 0 rfl) ?_
        refine x_get (v := .int (si_ σ v0 11)) C K h cl_9 hk_v0 11 (by decide) fl_RX9_80 rfl dX9_count_118 ?_
        refine lv_goto (tgt := 125) C.1 C.2.1 dX9_count_121 (by decide) ?_
        exact x_ri C hr hlk h Ex_.rf (Option.some.inj hf) rfl dX9_count_125
    · have hf := if_f hf c1
      refine lv_iload_n C.1 C.2.1 dX9_count_89 rfl (lv_at hl 1 rfl) ?_
      refine lv_iconst (v := (2 : Int32)) C.1 C.2.1 dX9_count_90 (by decide) ?_
      refine lv_icmp_ne (tgt := 113) C.1 C.2.1 dX9_count_91 (by decide) (fun c3 => ?_) (fun c3 => ?_)
      · have hf := if_f hf c3
        refine lv_iload_n C.1 C.2.1 dX9_count_113 rfl (lv_at hl 1 rfl) ?_
        refine lv_if_ne (tgt := 124) C.1 C.2.1 dX9_count_114 (by decide) (fun c4 => ?_) (fun c4 => ?_)
        · have hf := if_f hf c4
          refine lv_iload_n C.1 C.2.1 dX9_count_124 rfl (lv_at hl 2 rfl) ?_
          exact x_ri C hr hlk h Ex_.rf (Option.some.inj hf) rfl dX9_count_125
        · have hf := if_t hf c4
          refine lv_aload_n C.1 C.2.1 dX9_count_117 rfl (lv_at hl 0 rfl) ?_
          refine x_get (v := .int (si_ σ v0 11)) C K h cl_9 hk_v0 11 (by decide) fl_RX9_80 rfl dX9_count_118 ?_
          refine lv_goto (tgt := 125) C.1 C.2.1 dX9_count_121 (by decide) ?_
          exact x_ri C hr hlk h Ex_.rf (Option.some.inj hf) rfl dX9_count_125
      · have hf := if_t hf c3
        refine lv_iload_n C.1 C.2.1 dX9_count_94 rfl (lv_at hl 2 rfl) ?_
        refine lv_aload_n C.1 C.2.1 dX9_count_95 rfl (lv_at hl 0 rfl) ?_
        obtain ⟨b5, hb_b5, hf⟩ := ob_ hf
        obtain ⟨hq_b5, hk_b5⟩ := dr_in hb_b5
        refine x_get (v := .ref (ad b5)) C K h cl_9 hk_v0 10 (by decide) fl_RX9_29 (hv_r (o := sr_ σ v0 10) rfl hq_b5) dX9_count_96 ?_
        refine lv_iconst (v := (3 : Int32)) C.1 C.2.1 dX9_count_99 (by decide) ?_
        refine lv_iload_n C.1 C.2.1 dX9_count_100 rfl (lv_at hl 3 rfl) ?_
        refine lv_imul C.1 C.2.1 dX9_count_101 ?_
        refine lv_iconst (v := (2 : Int32)) C.1 C.2.1 dX9_count_102 (by decide) ?_
        refine lv_iadd C.1 C.2.1 dX9_count_103 ?_
        obtain ⟨j6, hj_j6, hf⟩ := ob_ hf
        refine x_iald C K h hk_b5 hj_j6 dX9_count_104 ?_
        refine lv_iadd C.1 C.2.1 dX9_count_105 ?_
        refine lv_istore_n (i := 2) (lv' := [(2, .int (v2 + (si_ σ b5 j6))), (0, .ref (ad v0)), (1, .int v1), (3, .int v3)]) C.1 C.2.1 dX9_count_106 rfl hl (by decide) rfl (fun ls hl => ?_)
        refine lv_iinc (v := v3 + (1 : Int32)) (lv' := [(3, .int (v3 + (1 : Int32))), (2, .int (v2 + (si_ σ b5 j6))), (0, .ref (ad v0)), (1, .int v1)]) C.1 C.2.1 dX9_count_107 hl (k := 3) rfl rfl (by decide) rfl (fun ls hl => ?_)
        refine lv_goto (tgt := 81) C.1 C.2.1 dX9_count_110 (by decide) ?_
        exact ih v0 v1 (v2 + (si_ σ b5 j6)) (v3 + (1 : Int32)) hk_v0 hf _ _ _ h (lv_sub hl [2, 3, 1, 0] rfl)
def f_X9_count_53 (fu : Nat) (σ : St_) : Nat → Nat → Int32 → Int32 → Int32 → Option Int32
  | 0 => fun _ _ _ _ => none
  | n + 1 => fun v0  v1  v2  v3 => if (36 : Int32) ≤ v3 then f_X9_count_81 fu σ fu v0 v1 v2 (0 : Int32) else if v1 = (1 : Int32) then (dr_ σ 10 (sr_ σ v0 8)).bind fun b3 => (ix_ v3 (ln_ σ b3)).bind fun j4 => (f_X9_count_53 fu σ n) v0 v1 (v2 + (si_ σ b3 j4)) (v3 + (1 : Int32)) else f_X9_count_81 fu σ fu v0 v1 v2 (0 : Int32)
set_option maxHeartbeats 4000000 in
set_option maxRecDepth 100000 in
theorem w_X9_count_53 {p : Program} {l : Launch} {e : Env} {R : Room} {s : State} {m : MethodId} {args : Array Value} {below : List Frame} {meth : Method} {c : Code} {κ : Ka_} {G : va_G} {cy : Nat → ClassId} {ad : Nat → Nat} {sz : Nat} {σ : St_} (fu : Nat) (C : CallFix p m c cX9_count 4 s args wU_ RX9) (K : Kx_ κ G cy (va_A (wl_ cy ad σ) sz) s) (hr : meth.sig.returnType = some .int) (hlk : meth.locks = false) (hR : 1 ≤ R.frames ∧ 25 ≤ R.locals) {q : Int32} : ∀ n : Nat, ∀ (v0 : Nat) (v1 : Int32) (v2 : Int32) (v3 : Int32), kd_ σ v0 = 9 → f_X9_count_53 fu σ n v0 v1 v2 v3 = some q → ∀ (H : Heap) (locs : List Loc) (ls : Array Slot), Ht_ G cy (va_A (wl_ cy ad σ) sz) s ad σ H locs → lv_has ls 4 [(0, .ref (ad v0)), (1, .int v1), (2, .int v2), (3, .int v3)] → W p l e R s m args below meth c H locs 0 0 (MQ below (Qi_ G cy ad σ σ sz q) args s 0 0 (va_A (wl_ cy ad σ) sz)) (F0 m 53 ls []) := by
  intro n
  induction n with
  | zero =>
    intro v0 v1 v2 v3 hk_v0 hf H locs ls h hl
    cases hf
  | succ n ih =>
    intro v0 v1 v2 v3 hk_v0 hf H locs ls h hl
    have hf : (if (36 : Int32) ≤ v3 then f_X9_count_81 fu σ fu v0 v1 v2 (0 : Int32) else if v1 = (1 : Int32) then (dr_ σ 10 (sr_ σ v0 8)).bind fun b3 => (ix_ v3 (ln_ σ b3)).bind fun j4 => (f_X9_count_53 fu σ n) v0 v1 (v2 + (si_ σ b3 j4)) (v3 + (1 : Int32)) else f_X9_count_81 fu σ fu v0 v1 v2 (0 : Int32)) = some q := hf
    refine lv_iload_n C.1 C.2.1 dX9_count_53 rfl (lv_at hl 3 rfl) ?_
    refine lv_bipush (v := (36 : Int32)) C.1 C.2.1 dX9_count_54 (by decide) ?_
    refine lv_icmp_ge (tgt := 79) C.1 C.2.1 dX9_count_56 (by decide) (fun c1 => ?_) (fun c1 => ?_)
    · have hf := if_t hf c1
      refine lv_iconst (v := (0 : Int32)) C.1 C.2.1 dX9_count_79 (by decide) ?_
      refine lv_istore_n (i := 3) (lv' := [(3, .int (0 : Int32)), (0, .ref (ad v0)), (1, .int v1), (2, .int v2)]) C.1 C.2.1 dX9_count_80 rfl hl (by decide) rfl (fun ls hl => ?_)
      exact w_X9_count_81 fu C K hr hlk hR fu v0 v1 v2 (0 : Int32) hk_v0 hf _ _ _ h (lv_sub hl [1, 2, 3, 0] rfl)
    · have hf := if_f hf c1
      refine lv_iload_n C.1 C.2.1 dX9_count_59 rfl (lv_at hl 1 rfl) ?_
      refine lv_iconst (v := (1 : Int32)) C.1 C.2.1 dX9_count_60 (by decide) ?_
      refine lv_icmp_ne (tgt := 79) C.1 C.2.1 dX9_count_61 (by decide) (fun c2 => ?_) (fun c2 => ?_)
      · have hf := if_f hf c2
        refine lv_iconst (v := (0 : Int32)) C.1 C.2.1 dX9_count_79 (by decide) ?_
        refine lv_istore_n (i := 3) (lv' := [(3, .int (0 : Int32)), (0, .ref (ad v0)), (1, .int v1), (2, .int v2)]) C.1 C.2.1 dX9_count_80 rfl hl (by decide) rfl (fun ls hl => ?_)
        exact w_X9_count_81 fu C K hr hlk hR fu v0 v1 v2 (0 : Int32) hk_v0 hf _ _ _ h (lv_sub hl [1, 2, 3, 0] rfl)
      · have hf := if_t hf c2
        refine lv_iload_n C.1 C.2.1 dX9_count_64 rfl (lv_at hl 2 rfl) ?_
        refine lv_aload_n C.1 C.2.1 dX9_count_65 rfl (lv_at hl 0 rfl) ?_
        obtain ⟨b3, hb_b3, hf⟩ := ob_ hf
        obtain ⟨hq_b3, hk_b3⟩ := dr_in hb_b3
        refine x_get (v := .ref (ad b3)) C K h cl_9 hk_v0 8 (by decide) fl_RX9_23 (hv_r (o := sr_ σ v0 8) rfl hq_b3) dX9_count_66 ?_
        refine lv_iload_n C.1 C.2.1 dX9_count_69 rfl (lv_at hl 3 rfl) ?_
        obtain ⟨j4, hj_j4, hf⟩ := ob_ hf
        refine x_iald C K h hk_b3 hj_j4 dX9_count_70 ?_
        refine lv_iadd C.1 C.2.1 dX9_count_71 ?_
        refine lv_istore_n (i := 2) (lv' := [(2, .int (v2 + (si_ σ b3 j4))), (0, .ref (ad v0)), (1, .int v1), (3, .int v3)]) C.1 C.2.1 dX9_count_72 rfl hl (by decide) rfl (fun ls hl => ?_)
        refine lv_iinc (v := v3 + (1 : Int32)) (lv' := [(3, .int (v3 + (1 : Int32))), (2, .int (v2 + (si_ σ b3 j4))), (0, .ref (ad v0)), (1, .int v1)]) C.1 C.2.1 dX9_count_73 hl (k := 3) rfl rfl (by decide) rfl (fun ls hl => ?_)
        refine lv_goto (tgt := 53) C.1 C.2.1 dX9_count_76 (by decide) ?_
        exact ih v0 v1 (v2 + (si_ σ b3 j4)) (v3 + (1 : Int32)) hk_v0 hf _ _ _ h (lv_sub hl [2, 3, 1, 0] rfl)
def f_X9_count (fu : Nat) (σ : St_) (a0 : Nat) (x1 : Int32) : Option Int32 := if (f_X9_in x1.toInt64 (0 : Int64) (5 : Int64)) = 0 then some (-2 : Int32) else if x1 ≤ (2 : Int32) then f_X9_count_53 fu σ fu a0 x1 (0 : Int32) (0 : Int32) else if x1 = (3 : Int32) then some (si_ σ a0 3) else if x1 = (4 : Int32) then some (si_ σ a0 6) else some (si_ σ a0 4)
set_option maxHeartbeats 4000000 in
set_option maxRecDepth 100000 in
theorem w_X9_count {p : Program} {l : Launch} {e : Env} {R : Room} {s : State} {m : MethodId} {args : Array Value} {below : List Frame} {meth : Method} {c : Code} {κ : Ka_} {G : va_G} {cy : Nat → ClassId} {ad : Nat → Nat} {sz : Nat} {σ : St_} (fu : Nat) (C : CallFix p m c cX9_count 4 s args wU_ RX9) (K : Kx_ κ G cy (va_A (wl_ cy ad σ) sz) s) (hr : meth.sig.returnType = some .int) (hlk : meth.locks = false) (hR : 1 ≤ R.frames ∧ 25 ≤ R.locals) {q : Int32} : ∀ (a0 : Nat) (x1 : Int32), kd_ σ a0 = 9 → f_X9_count fu σ a0 x1 = some q → ∀ (H : Heap) (locs : List Loc) (ls : Array Slot), Ht_ G cy (va_A (wl_ cy ad σ) sz) s ad σ H locs → lv_has ls 4 [(0, .ref (ad a0)), (1, .int x1)] → W p l e R s m args below meth c H locs 0 0 (MQ below (Qi_ G cy ad σ σ sz q) args s 0 0 (va_A (wl_ cy ad σ) sz)) (F0 m 0 ls []) := by
  intro a0 x1 hk_a0 hf H locs ls h hl
  have hf : (if (f_X9_in x1.toInt64 (0 : Int64) (5 : Int64)) = 0 then some (-2 : Int32) else if x1 ≤ (2 : Int32) then f_X9_count_53 fu σ fu a0 x1 (0 : Int32) (0 : Int32) else if x1 = (3 : Int32) then some (si_ σ a0 3) else if x1 = (4 : Int32) then some (si_ σ a0 6) else some (si_ σ a0 4)) = some q := hf
  refine lv_iload_n C.1 C.2.1 dX9_count_0 rfl (lv_at hl 1 rfl) ?_
  refine lv_i2l C.1 C.2.1 dX9_count_1 rfl ?_
  refine lv_lconst (v := (0 : Int64)) C.1 C.2.1 dX9_count_2 (by decide) ?_
  refine lv_ldc2 (v := (5 : Int64)) C.1 C.2.1 C.2.2.2.1 (C.2.2.2.2 _ cl_RX9_122) dX9_count_3 ?_
  refine x_az K h (x_S C K h [.long x1.toInt64, .long (0 : Int64), .long (5 : Int64)] (c_X9_in l κ G cy ad H.size σ x1.toInt64 (0 : Int64) (5 : Int64) rfl) mi_X9_in rfl st_yX9_in ml_RX9_83 ⟨rfl, rfl, Nat.le_trans (Nat.le_of_ble_eq_true rfl) hR.1, Nat.le_trans (Nat.le_of_ble_eq_true rfl) hR.2⟩ hl (Nat.le_of_ble_eq_true rfl) dX9_count_6 ⟨Nat.zero_le _, Nat.zero_le _⟩ rfl) (fun H locs h hX hz3 => ?_)
  refine lv_if_ne (tgt := 15) C.1 C.2.1 dX9_count_9 (by decide) (fun c4 => ?_) (fun c4 => ?_)
  · have hf := if_f hf c4
    refine lv_iload_n C.1 C.2.1 dX9_count_15 rfl (lv_at hl 1 rfl) ?_
    refine lv_iconst (v := (2 : Int32)) C.1 C.2.1 dX9_count_16 (by decide) ?_
    refine lv_icmp_le (tgt := 49) C.1 C.2.1 dX9_count_17 (by decide) (fun c5 => ?_) (fun c5 => ?_)
    · have hf := if_t hf c5
      refine lv_iconst (v := (0 : Int32)) C.1 C.2.1 dX9_count_49 (by decide) ?_
      refine lv_istore_n (i := 2) (lv' := [(2, .int (0 : Int32)), (0, .ref (ad a0)), (1, .int x1)]) C.1 C.2.1 dX9_count_50 rfl hl (by decide) rfl (fun ls hl => ?_)
      refine lv_iconst (v := (0 : Int32)) C.1 C.2.1 dX9_count_51 (by decide) ?_
      refine lv_istore_n (i := 3) (lv' := [(3, .int (0 : Int32)), (2, .int (0 : Int32)), (0, .ref (ad a0)), (1, .int x1)]) C.1 C.2.1 dX9_count_52 rfl hl (by decide) rfl (fun ls hl => ?_)
      exact w_X9_count_53 fu C K hr hlk hR fu a0 x1 (0 : Int32) (0 : Int32) hk_a0 hf _ _ _ h (lv_sub hl [2, 3, 1, 0] rfl)
    · have hf := if_f hf c5
      refine lv_iload_n C.1 C.2.1 dX9_count_20 rfl (lv_at hl 1 rfl) ?_
      refine lv_iconst (v := (3 : Int32)) C.1 C.2.1 dX9_count_21 (by decide) ?_
      refine lv_icmp_ne (tgt := 32) C.1 C.2.1 dX9_count_22 (by decide) (fun c6 => ?_) (fun c6 => ?_)
      · have hf := if_f hf c6
        refine lv_iload_n C.1 C.2.1 dX9_count_32 rfl (lv_at hl 1 rfl) ?_
        refine lv_iconst (v := (4 : Int32)) C.1 C.2.1 dX9_count_33 (by decide) ?_
        refine lv_icmp_ne (tgt := 44) C.1 C.2.1 dX9_count_34 (by decide) (fun c7 => ?_) (fun c7 => ?_)
        · have hf := if_f hf c7
          refine lv_aload_n C.1 C.2.1 dX9_count_44 rfl (lv_at hl 0 rfl) ?_
          refine x_get (v := .int (si_ σ a0 4)) C K h cl_9 hk_a0 4 (by decide) fl_RX9_119 rfl dX9_count_45 ?_
          exact x_ri C hr hlk h Ex_.rf (Option.some.inj hf) rfl dX9_count_48
        · have hf := if_t hf c7
          refine lv_aload_n C.1 C.2.1 dX9_count_37 rfl (lv_at hl 0 rfl) ?_
          refine x_get (v := .int (si_ σ a0 6)) C K h cl_9 hk_a0 6 (by decide) fl_RX9_141 rfl dX9_count_38 ?_
          refine lv_goto (tgt := 48) C.1 C.2.1 dX9_count_41 (by decide) ?_
          exact x_ri C hr hlk h Ex_.rf (Option.some.inj hf) rfl dX9_count_48
      · have hf := if_t hf c6
        refine lv_aload_n C.1 C.2.1 dX9_count_25 rfl (lv_at hl 0 rfl) ?_
        refine x_get (v := .int (si_ σ a0 3)) C K h cl_9 hk_a0 3 (by decide) fl_RX9_77 rfl dX9_count_26 ?_
        refine lv_goto (tgt := 48) C.1 C.2.1 dX9_count_29 (by decide) ?_
        exact x_ri C hr hlk h Ex_.rf (Option.some.inj hf) rfl dX9_count_48
  · have hf := if_t hf c4
    refine lv_bipush (v := (-2 : Int32)) C.1 C.2.1 dX9_count_12 (by decide) ?_
    exact x_ri C hr hlk h Ex_.rf (Option.some.inj hf) rfl dX9_count_14
theorem c_X9_count (fu : Nat) (l : Launch) (κ : Ka_) (G : va_G) (cy : Nat → ClassId) (ad : Nat → Nat) (sz : Nat) (σ : St_) (a0 : Nat) (x1 : Int32) (hk_a0 : kd_ σ a0 = 9) {q : Int32} (hf : f_X9_count fu σ a0 x1 = some q) : Met l yX9_count (Cond.code yX9_count cX9_count 4 (some .int) :: wU_) { frames := 1, cells := 0, slots := 0, locals := 25 } (va_Pc [.ref (ad a0), .int x1] (Pr_ κ G cy ad σ sz)) (Qi_ G cy ad σ σ sz q) 0 0 (va_A (wl_ cy ad σ) sz) :=
  x_met (by decide) (fun p e R s m below meth c ls hR C hr hlk hin _ K h hl => w_X9_count fu C K hr hlk ⟨hR.1, hR.2.1⟩ a0 x1 hk_a0 hf s.heap [] ls h hl) (Nat.le_of_ble_eq_true rfl)
-- X9_sheet
theorem mi_X9_sheet : Mi_ yX9_sheet cX9_sheet 5 (some .int) 3 := ⟨co_yX9_sheet, in_RX9, by decide, by decide, by decide +kernel⟩
def f_X9_sheet_77 (fu : Nat) : Nat → St_ → Nat → Int32 → Int32 → Int32 → Int32 → Option (Int32 × St_)
  | 0 => fun _ _ _ _ _ _ => none
  | n + 1 => fun σ  v0  v1  v2  v3  v4 => if v3 ≤ v4 then some ((1 : Int32), σ) else if v2 < 0 then some ((1 : Int32), σ) else (dr_ σ 10 (sr_ σ v0 41)).bind fun b3 => (ix_ (((40 : Int32) * v1) + v4) (ln_ σ b3)).bind fun j4 => (f_X9_sheet_77 fu n) (ui_ σ b3 j4 (0 : Int32)) v0 v1 v2 v3 (v4 + (1 : Int32))
set_option maxHeartbeats 4000000 in
set_option maxRecDepth 100000 in
theorem w_X9_sheet_77 {p : Program} {l : Launch} {e : Env} {R : Room} {s : State} {m : MethodId} {args : Array Value} {below : List Frame} {meth : Method} {c : Code} {κ : Ka_} {G : va_G} {cy : Nat → ClassId} {ad : Nat → Nat} {sz : Nat} {σ0 : St_} (fu : Nat) (C : CallFix p m c cX9_sheet 5 s args wU_ RX9) (K : Kx_ κ G cy (va_A (wl_ cy ad σ0) sz) s) (hr : meth.sig.returnType = some .int) (hlk : meth.locks = false) (hR : 2 ≤ R.frames ∧ 45 ≤ R.locals) {q : Int32 × St_} : ∀ n : Nat, ∀ (σ : St_) (v0 : Nat) (v1 : Int32) (v2 : Int32) (v3 : Int32) (v4 : Int32), Ex_ σ0 σ → kd_ σ v0 = 9 → f_X9_sheet_77 fu n σ v0 v1 v2 v3 v4 = some q → ∀ (H : Heap) (locs : List Loc) (ls : Array Slot), Ht_ G cy (va_A (wl_ cy ad σ0) sz) s ad σ H locs → lv_has ls 5 [(0, .ref (ad v0)), (1, .int v1), (2, .int v2), (3, .int v3), (4, .int v4)] → W p l e R s m args below meth c H locs 0 0 (MQ below (Qi_ G cy ad σ0 q.2 sz q.1) args s 0 0 (va_A (wl_ cy ad σ0) sz)) (F0 m 77 ls []) := by
  intro n
  induction n with
  | zero =>
    intro σ v0 v1 v2 v3 v4 hE hk_v0 hf H locs ls h hl
    cases hf
  | succ n ih =>
    intro σ v0 v1 v2 v3 v4 hE hk_v0 hf H locs ls h hl
    have hf : (if v3 ≤ v4 then some ((1 : Int32), σ) else if v2 < 0 then some ((1 : Int32), σ) else (dr_ σ 10 (sr_ σ v0 41)).bind fun b3 => (ix_ (((40 : Int32) * v1) + v4) (ln_ σ b3)).bind fun j4 => (f_X9_sheet_77 fu n) (ui_ σ b3 j4 (0 : Int32)) v0 v1 v2 v3 (v4 + (1 : Int32))) = some q := hf
    refine lv_iload C.1 C.2.1 dX9_sheet_77 (lv_at hl 4 rfl) ?_
    refine lv_iload_n C.1 C.2.1 dX9_sheet_79 rfl (lv_at hl 3 rfl) ?_
    refine lv_icmp_ge (tgt := 106) C.1 C.2.1 dX9_sheet_80 (by decide) (fun c1 => ?_) (fun c1 => ?_)
    · have hf := if_t hf c1
      refine lv_iconst (v := (1 : Int32)) C.1 C.2.1 dX9_sheet_106 (by decide) ?_
      exact x_ri C hr hlk h hE (pf_1 (Option.some.inj hf)) (pf_2 (Option.some.inj hf)) dX9_sheet_107
    · have hf := if_f hf c1
      refine lv_iload_n C.1 C.2.1 dX9_sheet_83 rfl (lv_at hl 2 rfl) ?_
      refine lv_if_lt (tgt := 106) C.1 C.2.1 dX9_sheet_84 (by decide) (fun c2 => ?_) (fun c2 => ?_)
      · have hf := if_t hf c2
        refine lv_iconst (v := (1 : Int32)) C.1 C.2.1 dX9_sheet_106 (by decide) ?_
        exact x_ri C hr hlk h hE (pf_1 (Option.some.inj hf)) (pf_2 (Option.some.inj hf)) dX9_sheet_107
      · have hf := if_f hf c2
        refine lv_aload_n C.1 C.2.1 dX9_sheet_87 rfl (lv_at hl 0 rfl) ?_
        obtain ⟨b3, hb_b3, hf⟩ := ob_ hf
        obtain ⟨hq_b3, hk_b3⟩ := dr_in hb_b3
        refine x_get (v := .ref (ad b3)) C K h cl_9 hk_v0 41 (by decide) fl_RX9_70 (hv_r (o := sr_ σ v0 41) rfl hq_b3) dX9_sheet_88 ?_
        refine lv_bipush (v := (40 : Int32)) C.1 C.2.1 dX9_sheet_91 (by decide) ?_
        refine lv_iload_n C.1 C.2.1 dX9_sheet_93 rfl (lv_at hl 1 rfl) ?_
        refine lv_imul C.1 C.2.1 dX9_sheet_94 ?_
        refine lv_iload C.1 C.2.1 dX9_sheet_95 (lv_at hl 4 rfl) ?_
        refine lv_iadd C.1 C.2.1 dX9_sheet_97 ?_
        refine lv_iconst (v := (0 : Int32)) C.1 C.2.1 dX9_sheet_98 (by decide) ?_
        obtain ⟨j4, hj_j4, hf⟩ := ob_ hf
        refine x_iast C K h hk_b3 hj_j4 dX9_sheet_99 (fun H locs h => ?_)
        have hE := hE.up (up_i σ b3 j4 (0 : Int32))
        refine lv_iinc (v := v4 + (1 : Int32)) (lv' := [(4, .int (v4 + (1 : Int32))), (0, .ref (ad v0)), (1, .int v1), (2, .int v2), (3, .int v3)]) C.1 C.2.1 dX9_sheet_100 hl (k := 4) rfl rfl (by decide) rfl (fun ls hl => ?_)
        refine lv_goto (tgt := 77) C.1 C.2.1 dX9_sheet_103 (by decide) ?_
        exact ih (ui_ σ b3 j4 (0 : Int32)) v0 v1 v2 v3 (v4 + (1 : Int32)) hE hk_v0 hf _ _ _ h (lv_sub hl [1, 2, 3, 4, 0] rfl)
def f_X9_sheet_45 (fu : Nat) (σ : St_) (v0 : Nat) (v1 : Int32) (v2 : Int32) (v3 : Int32) : Option (Int32 × St_) := (dr_ σ 12 (sr_ σ v0 38)).bind fun b1 => if v2 < 0 then (ix_ v1 (ln_ σ b1)).bind fun j3 => (dr_ (ui_ σ b1 j3 (0 : Int32)) 10 (sr_ (ui_ σ b1 j3 (0 : Int32)) v0 39)).bind fun b4 => (ix_ v1 (ln_ (ui_ σ b1 j3 (0 : Int32)) b4)).bind fun j5 => (dr_ (ui_ (ui_ σ b1 j3 (0 : Int32)) b4 j5 v2) 10 (sr_ (ui_ (ui_ σ b1 j3 (0 : Int32)) b4 j5 v2) v0 40)).bind fun b6 => (ix_ v1 (ln_ (ui_ (ui_ σ b1 j3 (0 : Int32)) b4 j5 v2) b6)).bind fun j7 => f_X9_sheet_77 fu fu (ui_ (ui_ (ui_ σ b1 j3 (0 : Int32)) b4 j5 v2) b6 j7 v3) v0 v1 v2 v3 (0 : Int32) else (ix_ v1 (ln_ σ b1)).bind fun j8 => (dr_ (ui_ σ b1 j8 (1 : Int32)) 10 (sr_ (ui_ σ b1 j8 (1 : Int32)) v0 39)).bind fun b9 => (ix_ v1 (ln_ (ui_ σ b1 j8 (1 : Int32)) b9)).bind fun j10 => (dr_ (ui_ (ui_ σ b1 j8 (1 : Int32)) b9 j10 v2) 10 (sr_ (ui_ (ui_ σ b1 j8 (1 : Int32)) b9 j10 v2) v0 40)).bind fun b11 => (ix_ v1 (ln_ (ui_ (ui_ σ b1 j8 (1 : Int32)) b9 j10 v2) b11)).bind fun j12 => f_X9_sheet_77 fu fu (ui_ (ui_ (ui_ σ b1 j8 (1 : Int32)) b9 j10 v2) b11 j12 v3) v0 v1 v2 v3 (0 : Int32)
set_option maxHeartbeats 4000000 in
set_option maxRecDepth 100000 in
theorem w_X9_sheet_45 {p : Program} {l : Launch} {e : Env} {R : Room} {s : State} {m : MethodId} {args : Array Value} {below : List Frame} {meth : Method} {c : Code} {κ : Ka_} {G : va_G} {cy : Nat → ClassId} {ad : Nat → Nat} {sz : Nat} {σ0 : St_} (fu : Nat) (C : CallFix p m c cX9_sheet 5 s args wU_ RX9) (K : Kx_ κ G cy (va_A (wl_ cy ad σ0) sz) s) (hr : meth.sig.returnType = some .int) (hlk : meth.locks = false) (hR : 2 ≤ R.frames ∧ 45 ≤ R.locals) {q : Int32 × St_} : ∀ (σ : St_) (v0 : Nat) (v1 : Int32) (v2 : Int32) (v3 : Int32), Ex_ σ0 σ → kd_ σ v0 = 9 → f_X9_sheet_45 fu σ v0 v1 v2 v3 = some q → ∀ (H : Heap) (locs : List Loc) (ls : Array Slot), Ht_ G cy (va_A (wl_ cy ad σ0) sz) s ad σ H locs → lv_has ls 5 [(0, .ref (ad v0)), (1, .int v1), (2, .int v2), (3, .int v3)] → W p l e R s m args below meth c H locs 0 0 (MQ below (Qi_ G cy ad σ0 q.2 sz q.1) args s 0 0 (va_A (wl_ cy ad σ0) sz)) (F0 m 45 ls []) := by
  intro σ v0 v1 v2 v3 hE hk_v0 hf H locs ls h hl
  have hf : ((dr_ σ 12 (sr_ σ v0 38)).bind fun b1 => if v2 < 0 then (ix_ v1 (ln_ σ b1)).bind fun j3 => (dr_ (ui_ σ b1 j3 (0 : Int32)) 10 (sr_ (ui_ σ b1 j3 (0 : Int32)) v0 39)).bind fun b4 => (ix_ v1 (ln_ (ui_ σ b1 j3 (0 : Int32)) b4)).bind fun j5 => (dr_ (ui_ (ui_ σ b1 j3 (0 : Int32)) b4 j5 v2) 10 (sr_ (ui_ (ui_ σ b1 j3 (0 : Int32)) b4 j5 v2) v0 40)).bind fun b6 => (ix_ v1 (ln_ (ui_ (ui_ σ b1 j3 (0 : Int32)) b4 j5 v2) b6)).bind fun j7 => f_X9_sheet_77 fu fu (ui_ (ui_ (ui_ σ b1 j3 (0 : Int32)) b4 j5 v2) b6 j7 v3) v0 v1 v2 v3 (0 : Int32) else (ix_ v1 (ln_ σ b1)).bind fun j8 => (dr_ (ui_ σ b1 j8 (1 : Int32)) 10 (sr_ (ui_ σ b1 j8 (1 : Int32)) v0 39)).bind fun b9 => (ix_ v1 (ln_ (ui_ σ b1 j8 (1 : Int32)) b9)).bind fun j10 => (dr_ (ui_ (ui_ σ b1 j8 (1 : Int32)) b9 j10 v2) 10 (sr_ (ui_ (ui_ σ b1 j8 (1 : Int32)) b9 j10 v2) v0 40)).bind fun b11 => (ix_ v1 (ln_ (ui_ (ui_ σ b1 j8 (1 : Int32)) b9 j10 v2) b11)).bind fun j12 => f_X9_sheet_77 fu fu (ui_ (ui_ (ui_ σ b1 j8 (1 : Int32)) b9 j10 v2) b11 j12 v3) v0 v1 v2 v3 (0 : Int32)) = some q := hf
  refine lv_aload_n C.1 C.2.1 dX9_sheet_45 rfl (lv_at hl 0 rfl) ?_
  obtain ⟨b1, hb_b1, hf⟩ := ob_ hf
  obtain ⟨hq_b1, hk_b1⟩ := dr_in hb_b1
  refine x_get (v := .ref (ad b1)) C K h cl_9 hk_v0 38 (by decide) fl_RX9_60 (hv_r (o := sr_ σ v0 38) rfl hq_b1) dX9_sheet_46 ?_
  refine lv_iload_n C.1 C.2.1 dX9_sheet_49 rfl (lv_at hl 1 rfl) ?_
  refine lv_iload_n C.1 C.2.1 dX9_sheet_50 rfl (lv_at hl 2 rfl) ?_
  refine lv_if_lt (tgt := 58) C.1 C.2.1 dX9_sheet_51 (by decide) (fun c2 => ?_) (fun c2 => ?_)
  · have hf := if_t hf c2
    refine lv_iconst (v := (0 : Int32)) C.1 C.2.1 dX9_sheet_58 (by decide) ?_
    obtain ⟨j3, hj_j3, hf⟩ := ob_ hf
    refine x_zast C K h hk_b1 (by decide) hj_j3 dX9_sheet_59 (fun H locs h => ?_)
    have hE := hE.up (up_i σ b1 j3 (0 : Int32))
    refine lv_aload_n C.1 C.2.1 dX9_sheet_60 rfl (lv_at hl 0 rfl) ?_
    obtain ⟨b4, hb_b4, hf⟩ := ob_ hf
    obtain ⟨hq_b4, hk_b4⟩ := dr_in hb_b4
    refine x_get (v := .ref (ad b4)) C K h cl_9 hk_v0 39 (by decide) fl_RX9_64 (hv_r (o := sr_ (ui_ σ b1 j3 (0 : Int32)) v0 39) rfl hq_b4) dX9_sheet_61 ?_
    refine lv_iload_n C.1 C.2.1 dX9_sheet_64 rfl (lv_at hl 1 rfl) ?_
    refine lv_iload_n C.1 C.2.1 dX9_sheet_65 rfl (lv_at hl 2 rfl) ?_
    obtain ⟨j5, hj_j5, hf⟩ := ob_ hf
    refine x_iast C K h hk_b4 hj_j5 dX9_sheet_66 (fun H locs h => ?_)
    have hE := hE.up (up_i (ui_ σ b1 j3 (0 : Int32)) b4 j5 v2)
    refine lv_aload_n C.1 C.2.1 dX9_sheet_67 rfl (lv_at hl 0 rfl) ?_
    obtain ⟨b6, hb_b6, hf⟩ := ob_ hf
    obtain ⟨hq_b6, hk_b6⟩ := dr_in hb_b6
    refine x_get (v := .ref (ad b6)) C K h cl_9 hk_v0 40 (by decide) fl_RX9_67 (hv_r (o := sr_ (ui_ (ui_ σ b1 j3 (0 : Int32)) b4 j5 v2) v0 40) rfl hq_b6) dX9_sheet_68 ?_
    refine lv_iload_n C.1 C.2.1 dX9_sheet_71 rfl (lv_at hl 1 rfl) ?_
    refine lv_iload_n C.1 C.2.1 dX9_sheet_72 rfl (lv_at hl 3 rfl) ?_
    obtain ⟨j7, hj_j7, hf⟩ := ob_ hf
    refine x_iast C K h hk_b6 hj_j7 dX9_sheet_73 (fun H locs h => ?_)
    have hE := hE.up (up_i (ui_ (ui_ σ b1 j3 (0 : Int32)) b4 j5 v2) b6 j7 v3)
    refine lv_iconst (v := (0 : Int32)) C.1 C.2.1 dX9_sheet_74 (by decide) ?_
    refine lv_istore (i := 4) (lv' := [(4, .int (0 : Int32)), (0, .ref (ad v0)), (1, .int v1), (2, .int v2), (3, .int v3)]) C.1 C.2.1 dX9_sheet_75 hl (by decide) rfl (fun ls hl => ?_)
    exact w_X9_sheet_77 fu C K hr hlk hR fu (ui_ (ui_ (ui_ σ b1 j3 (0 : Int32)) b4 j5 v2) b6 j7 v3) v0 v1 v2 v3 (0 : Int32) hE hk_v0 hf _ _ _ h (lv_sub hl [1, 2, 3, 4, 0] rfl)
  · have hf := if_f hf c2
    refine lv_iconst (v := (1 : Int32)) C.1 C.2.1 dX9_sheet_54 (by decide) ?_
    refine lv_goto (tgt := 59) C.1 C.2.1 dX9_sheet_55 (by decide) ?_
    obtain ⟨j8, hj_j8, hf⟩ := ob_ hf
    refine x_zast C K h hk_b1 (by decide) hj_j8 dX9_sheet_59 (fun H locs h => ?_)
    have hE := hE.up (up_i σ b1 j8 (1 : Int32))
    refine lv_aload_n C.1 C.2.1 dX9_sheet_60 rfl (lv_at hl 0 rfl) ?_
    obtain ⟨b9, hb_b9, hf⟩ := ob_ hf
    obtain ⟨hq_b9, hk_b9⟩ := dr_in hb_b9
    refine x_get (v := .ref (ad b9)) C K h cl_9 hk_v0 39 (by decide) fl_RX9_64 (hv_r (o := sr_ (ui_ σ b1 j8 (1 : Int32)) v0 39) rfl hq_b9) dX9_sheet_61 ?_
    refine lv_iload_n C.1 C.2.1 dX9_sheet_64 rfl (lv_at hl 1 rfl) ?_
    refine lv_iload_n C.1 C.2.1 dX9_sheet_65 rfl (lv_at hl 2 rfl) ?_
    obtain ⟨j10, hj_j10, hf⟩ := ob_ hf
    refine x_iast C K h hk_b9 hj_j10 dX9_sheet_66 (fun H locs h => ?_)
    have hE := hE.up (up_i (ui_ σ b1 j8 (1 : Int32)) b9 j10 v2)
    refine lv_aload_n C.1 C.2.1 dX9_sheet_67 rfl (lv_at hl 0 rfl) ?_
    obtain ⟨b11, hb_b11, hf⟩ := ob_ hf
    obtain ⟨hq_b11, hk_b11⟩ := dr_in hb_b11
    refine x_get (v := .ref (ad b11)) C K h cl_9 hk_v0 40 (by decide) fl_RX9_67 (hv_r (o := sr_ (ui_ (ui_ σ b1 j8 (1 : Int32)) b9 j10 v2) v0 40) rfl hq_b11) dX9_sheet_68 ?_
    refine lv_iload_n C.1 C.2.1 dX9_sheet_71 rfl (lv_at hl 1 rfl) ?_
    refine lv_iload_n C.1 C.2.1 dX9_sheet_72 rfl (lv_at hl 3 rfl) ?_
    obtain ⟨j12, hj_j12, hf⟩ := ob_ hf
    refine x_iast C K h hk_b11 hj_j12 dX9_sheet_73 (fun H locs h => ?_)
    have hE := hE.up (up_i (ui_ (ui_ σ b1 j8 (1 : Int32)) b9 j10 v2) b11 j12 v3)
    refine lv_iconst (v := (0 : Int32)) C.1 C.2.1 dX9_sheet_74 (by decide) ?_
    refine lv_istore (i := 4) (lv' := [(4, .int (0 : Int32)), (0, .ref (ad v0)), (1, .int v1), (2, .int v2), (3, .int v3)]) C.1 C.2.1 dX9_sheet_75 hl (by decide) rfl (fun ls hl => ?_)
    exact w_X9_sheet_77 fu C K hr hlk hR fu (ui_ (ui_ (ui_ σ b1 j8 (1 : Int32)) b9 j10 v2) b11 j12 v3) v0 v1 v2 v3 (0 : Int32) hE hk_v0 hf _ _ _ h (lv_sub hl [1, 2, 3, 4, 0] rfl)
def f_X9_sheet (fu : Nat) (σ : St_) (a0 : Nat) (x1 : Int32) (x2 : Int32) (x3 : Int32) : Option (Int32 × St_) := if (f_X9_isSheet x1) = 0 then some ((-2 : Int32), σ) else if (f_X9_in x2.toInt64 (-1 : Int64) (2 : Int64)) = 0 then some ((-2 : Int32), σ) else if x2 < 0 then if x2 < 0 then f_X9_sheet_45 fu σ a0 x1 x2 x3 else if 0 ≤ x3 then f_X9_sheet_45 fu σ a0 x1 x2 x3 else some ((-14 : Int32), σ) else if x3 ≤ (40 : Int32) then if x2 < 0 then f_X9_sheet_45 fu σ a0 x1 x2 x3 else if 0 ≤ x3 then f_X9_sheet_45 fu σ a0 x1 x2 x3 else some ((-14 : Int32), σ) else some ((-2 : Int32), σ)
set_option maxHeartbeats 4000000 in
set_option maxRecDepth 100000 in
theorem w_X9_sheet {p : Program} {l : Launch} {e : Env} {R : Room} {s : State} {m : MethodId} {args : Array Value} {below : List Frame} {meth : Method} {c : Code} {κ : Ka_} {G : va_G} {cy : Nat → ClassId} {ad : Nat → Nat} {sz : Nat} {σ0 : St_} (fu : Nat) (C : CallFix p m c cX9_sheet 5 s args wU_ RX9) (K : Kx_ κ G cy (va_A (wl_ cy ad σ0) sz) s) (hr : meth.sig.returnType = some .int) (hlk : meth.locks = false) (hR : 2 ≤ R.frames ∧ 45 ≤ R.locals) {q : Int32 × St_} : ∀ (σ : St_) (a0 : Nat) (x1 : Int32) (x2 : Int32) (x3 : Int32), Ex_ σ0 σ → kd_ σ a0 = 9 → f_X9_sheet fu σ a0 x1 x2 x3 = some q → ∀ (H : Heap) (locs : List Loc) (ls : Array Slot), Ht_ G cy (va_A (wl_ cy ad σ0) sz) s ad σ H locs → lv_has ls 5 [(0, .ref (ad a0)), (1, .int x1), (2, .int x2), (3, .int x3)] → W p l e R s m args below meth c H locs 0 0 (MQ below (Qi_ G cy ad σ0 q.2 sz q.1) args s 0 0 (va_A (wl_ cy ad σ0) sz)) (F0 m 0 ls []) := by
  intro σ a0 x1 x2 x3 hE hk_a0 hf H locs ls h hl
  have hf : (if (f_X9_isSheet x1) = 0 then some ((-2 : Int32), σ) else if (f_X9_in x2.toInt64 (-1 : Int64) (2 : Int64)) = 0 then some ((-2 : Int32), σ) else if x2 < 0 then if x2 < 0 then f_X9_sheet_45 fu σ a0 x1 x2 x3 else if 0 ≤ x3 then f_X9_sheet_45 fu σ a0 x1 x2 x3 else some ((-14 : Int32), σ) else if x3 ≤ (40 : Int32) then if x2 < 0 then f_X9_sheet_45 fu σ a0 x1 x2 x3 else if 0 ≤ x3 then f_X9_sheet_45 fu σ a0 x1 x2 x3 else some ((-14 : Int32), σ) else some ((-2 : Int32), σ)) = some q := hf
  refine lv_iload_n C.1 C.2.1 dX9_sheet_0 rfl (lv_at hl 1 rfl) ?_
  refine x_az K h (x_S C K h [.int x1] (c_X9_isSheet l κ G cy ad H.size σ x1 rfl) mi_X9_isSheet rfl st_yX9_isSheet ml_RX9_366 ⟨rfl, rfl, Nat.le_trans (Nat.le_of_ble_eq_true rfl) hR.1, Nat.le_trans (Nat.le_of_ble_eq_true rfl) hR.2⟩ hl (Nat.le_of_ble_eq_true rfl) dX9_sheet_1 ⟨Nat.zero_le _, Nat.zero_le _⟩ rfl) (fun H locs h hX hz5 => ?_)
  refine lv_if_eq (tgt := 31) C.1 C.2.1 dX9_sheet_4 (by decide) (fun c6 => ?_) (fun c6 => ?_)
  · have hf := if_t hf c6
    refine lv_bipush (v := (-2 : Int32)) C.1 C.2.1 dX9_sheet_31 (by decide) ?_
    exact x_ri C hr hlk h hE (pf_1 (Option.some.inj hf)) (pf_2 (Option.some.inj hf)) dX9_sheet_33
  · have hf := if_f hf c6
    refine lv_iload_n C.1 C.2.1 dX9_sheet_7 rfl (lv_at hl 2 rfl) ?_
    refine lv_i2l C.1 C.2.1 dX9_sheet_8 rfl ?_
    refine lv_ldc2 (v := (-1 : Int64)) C.1 C.2.1 C.2.2.2.1 (C.2.2.2.2 _ cl_RX9_428) dX9_sheet_9 ?_
    refine lv_ldc2 (v := (2 : Int64)) C.1 C.2.1 C.2.2.2.1 (C.2.2.2.2 _ cl_RX9_386) dX9_sheet_12 ?_
    refine x_az K h (x_S C K h [.long x2.toInt64, .long (-1 : Int64), .long (2 : Int64)] (c_X9_in l κ G cy ad H.size σ x2.toInt64 (-1 : Int64) (2 : Int64) rfl) mi_X9_in rfl st_yX9_in ml_RX9_83 ⟨rfl, rfl, Nat.le_trans (Nat.le_of_ble_eq_true rfl) hR.1, Nat.le_trans (Nat.le_of_ble_eq_true rfl) hR.2⟩ hl (Nat.le_of_ble_eq_true rfl) dX9_sheet_15 ⟨Nat.zero_le _, Nat.zero_le _⟩ rfl) (fun H locs h hX hz8 => ?_)
    refine lv_if_eq (tgt := 31) C.1 C.2.1 dX9_sheet_18 (by decide) (fun c9 => ?_) (fun c9 => ?_)
    · have hf := if_t hf c9
      refine lv_bipush (v := (-2 : Int32)) C.1 C.2.1 dX9_sheet_31 (by decide) ?_
      exact x_ri C hr hlk h hE (pf_1 (Option.some.inj hf)) (pf_2 (Option.some.inj hf)) dX9_sheet_33
    · have hf := if_f hf c9
      refine lv_iload_n C.1 C.2.1 dX9_sheet_21 rfl (lv_at hl 2 rfl) ?_
      refine lv_if_lt (tgt := 34) C.1 C.2.1 dX9_sheet_22 (by decide) (fun c10 => ?_) (fun c10 => ?_)
      · have hf := if_t hf c10
        refine lv_iload_n C.1 C.2.1 dX9_sheet_34 rfl (lv_at hl 2 rfl) ?_
        refine lv_if_lt (tgt := 45) C.1 C.2.1 dX9_sheet_35 (by decide) (fun c11 => ?_) (fun c11 => ?_)
        · have hf := if_t hf c11
          exact w_X9_sheet_45 fu C K hr hlk hR σ a0 x1 x2 x3 hE hk_a0 hf _ _ _ h (lv_sub hl [0, 1, 2, 3] rfl)
        · have hf := if_f hf c11
          refine lv_iload_n C.1 C.2.1 dX9_sheet_38 rfl (lv_at hl 3 rfl) ?_
          refine lv_if_ge (tgt := 45) C.1 C.2.1 dX9_sheet_39 (by decide) (fun c12 => ?_) (fun c12 => ?_)
          · have hf := if_t hf c12
            exact w_X9_sheet_45 fu C K hr hlk hR σ a0 x1 x2 x3 hE hk_a0 hf _ _ _ h (lv_sub hl [0, 1, 2, 3] rfl)
          · have hf := if_f hf c12
            refine lv_bipush (v := (-14 : Int32)) C.1 C.2.1 dX9_sheet_42 (by decide) ?_
            exact x_ri C hr hlk h hE (pf_1 (Option.some.inj hf)) (pf_2 (Option.some.inj hf)) dX9_sheet_44
      · have hf := if_f hf c10
        refine lv_iload_n C.1 C.2.1 dX9_sheet_25 rfl (lv_at hl 3 rfl) ?_
        refine lv_bipush (v := (40 : Int32)) C.1 C.2.1 dX9_sheet_26 (by decide) ?_
        refine lv_icmp_le (tgt := 34) C.1 C.2.1 dX9_sheet_28 (by decide) (fun c13 => ?_) (fun c13 => ?_)
        · have hf := if_t hf c13
          refine lv_iload_n C.1 C.2.1 dX9_sheet_34 rfl (lv_at hl 2 rfl) ?_
          refine lv_if_lt (tgt := 45) C.1 C.2.1 dX9_sheet_35 (by decide) (fun c14 => ?_) (fun c14 => ?_)
          · have hf := if_t hf c14
            exact w_X9_sheet_45 fu C K hr hlk hR σ a0 x1 x2 x3 hE hk_a0 hf _ _ _ h (lv_sub hl [0, 1, 2, 3] rfl)
          · have hf := if_f hf c14
            refine lv_iload_n C.1 C.2.1 dX9_sheet_38 rfl (lv_at hl 3 rfl) ?_
            refine lv_if_ge (tgt := 45) C.1 C.2.1 dX9_sheet_39 (by decide) (fun c15 => ?_) (fun c15 => ?_)
            · have hf := if_t hf c15
              exact w_X9_sheet_45 fu C K hr hlk hR σ a0 x1 x2 x3 hE hk_a0 hf _ _ _ h (lv_sub hl [0, 1, 2, 3] rfl)
            · have hf := if_f hf c15
              refine lv_bipush (v := (-14 : Int32)) C.1 C.2.1 dX9_sheet_42 (by decide) ?_
              exact x_ri C hr hlk h hE (pf_1 (Option.some.inj hf)) (pf_2 (Option.some.inj hf)) dX9_sheet_44
        · have hf := if_f hf c13
          refine lv_bipush (v := (-2 : Int32)) C.1 C.2.1 dX9_sheet_31 (by decide) ?_
          exact x_ri C hr hlk h hE (pf_1 (Option.some.inj hf)) (pf_2 (Option.some.inj hf)) dX9_sheet_33
theorem c_X9_sheet (fu : Nat) (l : Launch) (κ : Ka_) (G : va_G) (cy : Nat → ClassId) (ad : Nat → Nat) (sz : Nat) (σ : St_) (a0 : Nat) (x1 : Int32) (x2 : Int32) (x3 : Int32) (hk_a0 : kd_ σ a0 = 9) {q : Int32 × St_} (hf : f_X9_sheet fu σ a0 x1 x2 x3 = some q) : Met l yX9_sheet (Cond.code yX9_sheet cX9_sheet 5 (some .int) :: wU_) { frames := 2, cells := 0, slots := 0, locals := 45 } (va_Pc [.ref (ad a0), .int x1, .int x2, .int x3] (Pr_ κ G cy ad σ sz)) (Qi_ G cy ad σ q.2 sz q.1) 0 0 (va_A (wl_ cy ad σ) sz) :=
  x_met (by decide) (fun p e R s m below meth c ls hR C hr hlk hin _ K h hl => w_X9_sheet fu C K hr hlk ⟨hR.1, hR.2.1⟩ σ a0 x1 x2 x3 Ex_.rf hk_a0 hf s.heap [] ls h hl) (Nat.le_of_ble_eq_true rfl)
-- X9_cell
theorem mi_X9_cell : Mi_ yX9_cell cX9_cell 4 (some .int) 3 := ⟨co_yX9_cell, in_RX9, by decide, by decide, by decide +kernel⟩
def f_X9_cell (σ : St_) (a0 : Nat) (x1 : Int32) (x2 : Int32) (x3 : Int32) : Option (Int32 × St_) := if (f_X9_isSheet x1) = 0 then some ((-2 : Int32), σ) else (dr_ σ 12 (sr_ σ a0 38)).bind fun b7 => (ix_ x1 (ln_ σ b7)).bind fun j8 => if (si_ σ b7 j8) = 0 then some ((-11 : Int32), σ) else (dr_ σ 10 (sr_ σ a0 40)).bind fun b10 => (ix_ x1 (ln_ σ b10)).bind fun j11 => if (f_X9_in x2.toInt64 (0 : Int64) (((si_ σ b10 j11) - (1 : Int32)).toInt64)) = 0 then some ((-12 : Int32), σ) else (dr_ σ 10 (sr_ σ a0 41)).bind fun b15 => (dr_ σ 10 (sr_ σ a0 39)).bind fun b16 => (ix_ x1 (ln_ σ b16)).bind fun j17 => if (si_ σ b16 j17) = 0 then (ix_ (((40 : Int32) * x1) + x2) (ln_ σ b15)).bind fun j23 => some ((1 : Int32), ui_ σ b15 j23 x3.toInt8.toInt32) else (ix_ x1 (ln_ σ b16)).bind fun j19 => if (si_ σ b16 j19) = (1 : Int32) then (ix_ (((40 : Int32) * x1) + x2) (ln_ σ b15)).bind fun j22 => some ((1 : Int32), ui_ σ b15 j22 x3.toInt16.toInt32) else (ix_ (((40 : Int32) * x1) + x2) (ln_ σ b15)).bind fun j21 => some ((1 : Int32), ui_ σ b15 j21 x3)
set_option maxHeartbeats 4000000 in
set_option maxRecDepth 100000 in
theorem w_X9_cell {p : Program} {l : Launch} {e : Env} {R : Room} {s : State} {m : MethodId} {args : Array Value} {below : List Frame} {meth : Method} {c : Code} {κ : Ka_} {G : va_G} {cy : Nat → ClassId} {ad : Nat → Nat} {sz : Nat} {σ0 : St_} (C : CallFix p m c cX9_cell 4 s args wU_ RX9) (K : Kx_ κ G cy (va_A (wl_ cy ad σ0) sz) s) (hr : meth.sig.returnType = some .int) (hlk : meth.locks = false) (hR : 2 ≤ R.frames ∧ 45 ≤ R.locals) {q : Int32 × St_} : ∀ (σ : St_) (a0 : Nat) (x1 : Int32) (x2 : Int32) (x3 : Int32), Ex_ σ0 σ → kd_ σ a0 = 9 → f_X9_cell σ a0 x1 x2 x3 = some q → ∀ (H : Heap) (locs : List Loc) (ls : Array Slot), Ht_ G cy (va_A (wl_ cy ad σ0) sz) s ad σ H locs → lv_has ls 4 [(0, .ref (ad a0)), (1, .int x1), (2, .int x2), (3, .int x3)] → W p l e R s m args below meth c H locs 0 0 (MQ below (Qi_ G cy ad σ0 q.2 sz q.1) args s 0 0 (va_A (wl_ cy ad σ0) sz)) (F0 m 0 ls []) := by
  intro σ a0 x1 x2 x3 hE hk_a0 hf H locs ls h hl
  have hf : (if (f_X9_isSheet x1) = 0 then some ((-2 : Int32), σ) else (dr_ σ 12 (sr_ σ a0 38)).bind fun b7 => (ix_ x1 (ln_ σ b7)).bind fun j8 => if (si_ σ b7 j8) = 0 then some ((-11 : Int32), σ) else (dr_ σ 10 (sr_ σ a0 40)).bind fun b10 => (ix_ x1 (ln_ σ b10)).bind fun j11 => if (f_X9_in x2.toInt64 (0 : Int64) (((si_ σ b10 j11) - (1 : Int32)).toInt64)) = 0 then some ((-12 : Int32), σ) else (dr_ σ 10 (sr_ σ a0 41)).bind fun b15 => (dr_ σ 10 (sr_ σ a0 39)).bind fun b16 => (ix_ x1 (ln_ σ b16)).bind fun j17 => if (si_ σ b16 j17) = 0 then (ix_ (((40 : Int32) * x1) + x2) (ln_ σ b15)).bind fun j23 => some ((1 : Int32), ui_ σ b15 j23 x3.toInt8.toInt32) else (ix_ x1 (ln_ σ b16)).bind fun j19 => if (si_ σ b16 j19) = (1 : Int32) then (ix_ (((40 : Int32) * x1) + x2) (ln_ σ b15)).bind fun j22 => some ((1 : Int32), ui_ σ b15 j22 x3.toInt16.toInt32) else (ix_ (((40 : Int32) * x1) + x2) (ln_ σ b15)).bind fun j21 => some ((1 : Int32), ui_ σ b15 j21 x3)) = some q := hf
  refine lv_iload_n C.1 C.2.1 dX9_cell_0 rfl (lv_at hl 1 rfl) ?_
  refine x_az K h (x_S C K h [.int x1] (c_X9_isSheet l κ G cy ad H.size σ x1 rfl) mi_X9_isSheet rfl st_yX9_isSheet ml_RX9_366 ⟨rfl, rfl, Nat.le_trans (Nat.le_of_ble_eq_true rfl) hR.1, Nat.le_trans (Nat.le_of_ble_eq_true rfl) hR.2⟩ hl (Nat.le_of_ble_eq_true rfl) dX9_cell_1 ⟨Nat.zero_le _, Nat.zero_le _⟩ rfl) (fun H locs h hX hz5 => ?_)
  refine lv_if_ne (tgt := 10) C.1 C.2.1 dX9_cell_4 (by decide) (fun c6 => ?_) (fun c6 => ?_)
  · have hf := if_f hf c6
    refine lv_aload_n C.1 C.2.1 dX9_cell_10 rfl (lv_at hl 0 rfl) ?_
    obtain ⟨b7, hb_b7, hf⟩ := ob_ hf
    obtain ⟨hq_b7, hk_b7⟩ := dr_in hb_b7
    refine x_get (v := .ref (ad b7)) C K h cl_9 hk_a0 38 (by decide) fl_RX9_60 (hv_r (o := sr_ σ a0 38) rfl hq_b7) dX9_cell_11 ?_
    refine lv_iload_n C.1 C.2.1 dX9_cell_14 rfl (lv_at hl 1 rfl) ?_
    obtain ⟨j8, hj_j8, hf⟩ := ob_ hf
    refine x_zald C K h hk_b7 hj_j8 dX9_cell_15 ?_
    refine lv_if_ne (tgt := 22) C.1 C.2.1 dX9_cell_16 (by decide) (fun c9 => ?_) (fun c9 => ?_)
    · have hf := if_f hf c9
      refine lv_iload_n C.1 C.2.1 dX9_cell_22 rfl (lv_at hl 2 rfl) ?_
      refine lv_i2l C.1 C.2.1 dX9_cell_23 rfl ?_
      refine lv_lconst (v := (0 : Int64)) C.1 C.2.1 dX9_cell_24 (by decide) ?_
      refine lv_aload_n C.1 C.2.1 dX9_cell_25 rfl (lv_at hl 0 rfl) ?_
      obtain ⟨b10, hb_b10, hf⟩ := ob_ hf
      obtain ⟨hq_b10, hk_b10⟩ := dr_in hb_b10
      refine x_get (v := .ref (ad b10)) C K h cl_9 hk_a0 40 (by decide) fl_RX9_67 (hv_r (o := sr_ σ a0 40) rfl hq_b10) dX9_cell_26 ?_
      refine lv_iload_n C.1 C.2.1 dX9_cell_29 rfl (lv_at hl 1 rfl) ?_
      obtain ⟨j11, hj_j11, hf⟩ := ob_ hf
      refine x_iald C K h hk_b10 hj_j11 dX9_cell_30 ?_
      refine lv_iconst (v := (1 : Int32)) C.1 C.2.1 dX9_cell_31 (by decide) ?_
      refine lv_isub C.1 C.2.1 dX9_cell_32 ?_
      refine lv_i2l C.1 C.2.1 dX9_cell_33 rfl ?_
      refine x_az K h (x_S C K h [.long x2.toInt64, .long (0 : Int64), .long (((si_ σ b10 j11) - (1 : Int32)).toInt64)] (c_X9_in l κ G cy ad H.size σ x2.toInt64 (0 : Int64) (((si_ σ b10 j11) - (1 : Int32)).toInt64) rfl) mi_X9_in rfl st_yX9_in ml_RX9_83 ⟨rfl, rfl, Nat.le_trans (Nat.le_of_ble_eq_true rfl) hR.1, Nat.le_trans (Nat.le_of_ble_eq_true rfl) hR.2⟩ hl (Nat.le_of_ble_eq_true rfl) dX9_cell_34 ⟨Nat.zero_le _, Nat.zero_le _⟩ rfl) (fun H locs h hX hz13 => ?_)
      refine lv_if_ne (tgt := 43) C.1 C.2.1 dX9_cell_37 (by decide) (fun c14 => ?_) (fun c14 => ?_)
      · have hf := if_f hf c14
        refine lv_aload_n C.1 C.2.1 dX9_cell_43 rfl (lv_at hl 0 rfl) ?_
        obtain ⟨b15, hb_b15, hf⟩ := ob_ hf
        obtain ⟨hq_b15, hk_b15⟩ := dr_in hb_b15
        refine x_get (v := .ref (ad b15)) C K h cl_9 hk_a0 41 (by decide) fl_RX9_70 (hv_r (o := sr_ σ a0 41) rfl hq_b15) dX9_cell_44 ?_
        refine lv_bipush (v := (40 : Int32)) C.1 C.2.1 dX9_cell_47 (by decide) ?_
        refine lv_iload_n C.1 C.2.1 dX9_cell_49 rfl (lv_at hl 1 rfl) ?_
        refine lv_imul C.1 C.2.1 dX9_cell_50 ?_
        refine lv_iload_n C.1 C.2.1 dX9_cell_51 rfl (lv_at hl 2 rfl) ?_
        refine lv_iadd C.1 C.2.1 dX9_cell_52 ?_
        refine lv_aload_n C.1 C.2.1 dX9_cell_53 rfl (lv_at hl 0 rfl) ?_
        obtain ⟨b16, hb_b16, hf⟩ := ob_ hf
        obtain ⟨hq_b16, hk_b16⟩ := dr_in hb_b16
        refine x_get (v := .ref (ad b16)) C K h cl_9 hk_a0 39 (by decide) fl_RX9_64 (hv_r (o := sr_ σ a0 39) rfl hq_b16) dX9_cell_54 ?_
        refine lv_iload_n C.1 C.2.1 dX9_cell_57 rfl (lv_at hl 1 rfl) ?_
        obtain ⟨j17, hj_j17, hf⟩ := ob_ hf
        refine x_iald C K h hk_b16 hj_j17 dX9_cell_58 ?_
        refine lv_if_ne (tgt := 67) C.1 C.2.1 dX9_cell_59 (by decide) (fun c18 => ?_) (fun c18 => ?_)
        · have hf := if_f hf c18
          refine lv_aload_n C.1 C.2.1 dX9_cell_67 rfl (lv_at hl 0 rfl) ?_
          refine x_get (v := .ref (ad b16)) C K h cl_9 hk_a0 39 (by decide) fl_RX9_64 (hv_r (o := sr_ σ a0 39) rfl hq_b16) dX9_cell_68 ?_
          refine lv_iload_n C.1 C.2.1 dX9_cell_71 rfl (lv_at hl 1 rfl) ?_
          obtain ⟨j19, hj_j19, hf⟩ := ob_ hf
          refine x_iald C K h hk_b16 hj_j19 dX9_cell_72 ?_
          refine lv_iconst (v := (1 : Int32)) C.1 C.2.1 dX9_cell_73 (by decide) ?_
          refine lv_icmp_ne (tgt := 82) C.1 C.2.1 dX9_cell_74 (by decide) (fun c20 => ?_) (fun c20 => ?_)
          · have hf := if_f hf c20
            refine lv_iload_n C.1 C.2.1 dX9_cell_82 rfl (lv_at hl 3 rfl) ?_
            obtain ⟨j21, hj_j21, hf⟩ := ob_ hf
            refine x_iast C K h hk_b15 hj_j21 dX9_cell_83 (fun H locs h => ?_)
            have hE := hE.up (up_i σ b15 j21 x3)
            refine lv_iconst (v := (1 : Int32)) C.1 C.2.1 dX9_cell_84 (by decide) ?_
            exact x_ri C hr hlk h hE (pf_1 (Option.some.inj hf)) (pf_2 (Option.some.inj hf)) dX9_cell_85
          · have hf := if_t hf c20
            refine lv_iload_n C.1 C.2.1 dX9_cell_77 rfl (lv_at hl 3 rfl) ?_
            refine lv_i2s C.1 C.2.1 dX9_cell_78 rfl ?_
            refine lv_goto (tgt := 83) C.1 C.2.1 dX9_cell_79 (by decide) ?_
            obtain ⟨j22, hj_j22, hf⟩ := ob_ hf
            refine x_iast C K h hk_b15 hj_j22 dX9_cell_83 (fun H locs h => ?_)
            have hE := hE.up (up_i σ b15 j22 x3.toInt16.toInt32)
            refine lv_iconst (v := (1 : Int32)) C.1 C.2.1 dX9_cell_84 (by decide) ?_
            exact x_ri C hr hlk h hE (pf_1 (Option.some.inj hf)) (pf_2 (Option.some.inj hf)) dX9_cell_85
        · have hf := if_t hf c18
          refine lv_iload_n C.1 C.2.1 dX9_cell_62 rfl (lv_at hl 3 rfl) ?_
          refine lv_i2b C.1 C.2.1 dX9_cell_63 rfl ?_
          refine lv_goto (tgt := 83) C.1 C.2.1 dX9_cell_64 (by decide) ?_
          obtain ⟨j23, hj_j23, hf⟩ := ob_ hf
          refine x_iast C K h hk_b15 hj_j23 dX9_cell_83 (fun H locs h => ?_)
          have hE := hE.up (up_i σ b15 j23 x3.toInt8.toInt32)
          refine lv_iconst (v := (1 : Int32)) C.1 C.2.1 dX9_cell_84 (by decide) ?_
          exact x_ri C hr hlk h hE (pf_1 (Option.some.inj hf)) (pf_2 (Option.some.inj hf)) dX9_cell_85
      · have hf := if_t hf c14
        refine lv_bipush (v := (-12 : Int32)) C.1 C.2.1 dX9_cell_40 (by decide) ?_
        exact x_ri C hr hlk h hE (pf_1 (Option.some.inj hf)) (pf_2 (Option.some.inj hf)) dX9_cell_42
    · have hf := if_t hf c9
      refine lv_bipush (v := (-11 : Int32)) C.1 C.2.1 dX9_cell_19 (by decide) ?_
      exact x_ri C hr hlk h hE (pf_1 (Option.some.inj hf)) (pf_2 (Option.some.inj hf)) dX9_cell_21
  · have hf := if_t hf c6
    refine lv_bipush (v := (-2 : Int32)) C.1 C.2.1 dX9_cell_7 (by decide) ?_
    exact x_ri C hr hlk h hE (pf_1 (Option.some.inj hf)) (pf_2 (Option.some.inj hf)) dX9_cell_9
theorem c_X9_cell (l : Launch) (κ : Ka_) (G : va_G) (cy : Nat → ClassId) (ad : Nat → Nat) (sz : Nat) (σ : St_) (a0 : Nat) (x1 : Int32) (x2 : Int32) (x3 : Int32) (hk_a0 : kd_ σ a0 = 9) {q : Int32 × St_} (hf : f_X9_cell σ a0 x1 x2 x3 = some q) : Met l yX9_cell (Cond.code yX9_cell cX9_cell 4 (some .int) :: wU_) { frames := 2, cells := 0, slots := 0, locals := 45 } (va_Pc [.ref (ad a0), .int x1, .int x2, .int x3] (Pr_ κ G cy ad σ sz)) (Qi_ G cy ad σ q.2 sz q.1) 0 0 (va_A (wl_ cy ad σ) sz) :=
  x_met (by decide) (fun p e R s m below meth c ls hR C hr hlk hin _ K h hl => w_X9_cell C K hr hlk ⟨hR.1, hR.2.1⟩ σ a0 x1 x2 x3 Ex_.rf hk_a0 hf s.heap [] ls h hl) (Nat.le_of_ble_eq_true rfl)
-- X9_copy
theorem mi_X9_copy : Mi_ yX9_copy cX9_copy 9 (some .int) 5 := ⟨co_yX9_copy, in_RX9, by decide, by decide, by decide +kernel⟩
def f_X9_copy_145 (fu : Nat) (k121 : St_ → Nat → Int32 → Int32 → Int32 → Int32 → Int32 → Int32 → Int32 → Option (Int32 × St_)) (σ : St_) (v0 : Nat) (v1 : Int32) (v2 : Int32) (v3 : Int32) (v4 : Int32) (v5 : Int32) (v6 : Int32) (v7 : Int32) (s0 : Int32) : Option (Int32 × St_) := (dr_ σ 10 (sr_ σ v0 41)).bind fun b1 => (ix_ ((((40 : Int32) * v1) + v2) + s0) (ln_ σ b1)).bind fun j2 => (ix_ ((((40 : Int32) * v3) + v4) + s0) (ln_ σ b1)).bind fun j3 => k121 (ui_ σ b1 j3 (si_ σ b1 j2)) v0 v1 v2 v3 v4 v5 v6 (v7 + (1 : Int32))
set_option maxHeartbeats 4000000 in
set_option maxRecDepth 100000 in
theorem w_X9_copy_145 {p : Program} {l : Launch} {e : Env} {R : Room} {s : State} {m : MethodId} {args : Array Value} {below : List Frame} {meth : Method} {c : Code} {κ : Ka_} {G : va_G} {cy : Nat → ClassId} {ad : Nat → Nat} {sz : Nat} {σ0 : St_} (fu : Nat) (C : CallFix p m c cX9_copy 9 s args wU_ RX9) (K : Kx_ κ G cy (va_A (wl_ cy ad σ0) sz) s) (hr : meth.sig.returnType = some .int) (hlk : meth.locks = false) (hR : 2 ≤ R.frames ∧ 45 ≤ R.locals) {q : Int32 × St_} (k121 : St_ → Nat → Int32 → Int32 → Int32 → Int32 → Int32 → Int32 → Int32 → Option (Int32 × St_)) (hk121 : ∀ (σ : St_) (v0 : Nat) (v1 : Int32) (v2 : Int32) (v3 : Int32) (v4 : Int32) (v5 : Int32) (v6 : Int32) (v7 : Int32), Ex_ σ0 σ → kd_ σ v0 = 9 → k121 σ v0 v1 v2 v3 v4 v5 v6 v7 = some q → ∀ (H : Heap) (locs : List Loc) (ls : Array Slot), Ht_ G cy (va_A (wl_ cy ad σ0) sz) s ad σ H locs → lv_has ls 9 [(0, .ref (ad v0)), (1, .int v1), (2, .int v2), (3, .int v3), (4, .int v4), (5, .int v5), (6, .int v6), (7, .int v7)] → W p l e R s m args below meth c H locs 0 0 (MQ below (Qi_ G cy ad σ0 q.2 sz q.1) args s 0 0 (va_A (wl_ cy ad σ0) sz)) (F0 m 121 ls [])) : ∀ (σ : St_) (v0 : Nat) (v1 : Int32) (v2 : Int32) (v3 : Int32) (v4 : Int32) (v5 : Int32) (v6 : Int32) (v7 : Int32) (s0 : Int32), Ex_ σ0 σ → kd_ σ v0 = 9 → f_X9_copy_145 fu k121 σ v0 v1 v2 v3 v4 v5 v6 v7 s0 = some q → ∀ (H : Heap) (locs : List Loc) (ls : Array Slot), Ht_ G cy (va_A (wl_ cy ad σ0) sz) s ad σ H locs → lv_has ls 9 [(0, .ref (ad v0)), (1, .int v1), (2, .int v2), (3, .int v3), (4, .int v4), (5, .int v5), (6, .int v6), (7, .int v7)] → W p l e R s m args below meth c H locs 0 0 (MQ below (Qi_ G cy ad σ0 q.2 sz q.1) args s 0 0 (va_A (wl_ cy ad σ0) sz)) (F0 m 145 ls [.int s0]) := by
  intro σ v0 v1 v2 v3 v4 v5 v6 v7 s0 hE hk_v0 hf H locs ls h hl
  have hf : ((dr_ σ 10 (sr_ σ v0 41)).bind fun b1 => (ix_ ((((40 : Int32) * v1) + v2) + s0) (ln_ σ b1)).bind fun j2 => (ix_ ((((40 : Int32) * v3) + v4) + s0) (ln_ σ b1)).bind fun j3 => k121 (ui_ σ b1 j3 (si_ σ b1 j2)) v0 v1 v2 v3 v4 v5 v6 (v7 + (1 : Int32))) = some q := hf
  refine lv_istore (i := 8) (lv' := [(8, .int s0), (0, .ref (ad v0)), (1, .int v1), (2, .int v2), (3, .int v3), (4, .int v4), (5, .int v5), (6, .int v6), (7, .int v7)]) C.1 C.2.1 dX9_copy_145 hl (by decide) rfl (fun ls hl => ?_)
  refine lv_aload_n C.1 C.2.1 dX9_copy_147 rfl (lv_at hl 1 rfl) ?_
  obtain ⟨b1, hb_b1, hf⟩ := ob_ hf
  obtain ⟨hq_b1, hk_b1⟩ := dr_in hb_b1
  refine x_get (v := .ref (ad b1)) C K h cl_9 hk_v0 41 (by decide) fl_RX9_70 (hv_r (o := sr_ σ v0 41) rfl hq_b1) dX9_copy_148 ?_
  refine lv_bipush (v := (40 : Int32)) C.1 C.2.1 dX9_copy_151 (by decide) ?_
  refine lv_iload_n C.1 C.2.1 dX9_copy_153 rfl (lv_at hl 4 rfl) ?_
  refine lv_imul C.1 C.2.1 dX9_copy_154 ?_
  refine lv_iload C.1 C.2.1 dX9_copy_155 (lv_at hl 5 rfl) ?_
  refine lv_iadd C.1 C.2.1 dX9_copy_157 ?_
  refine lv_iload C.1 C.2.1 dX9_copy_158 (lv_at hl 0 rfl) ?_
  refine lv_iadd C.1 C.2.1 dX9_copy_160 ?_
  refine lv_aload_n C.1 C.2.1 dX9_copy_161 rfl (lv_at hl 1 rfl) ?_
  refine x_get (v := .ref (ad b1)) C K h cl_9 hk_v0 41 (by decide) fl_RX9_70 (hv_r (o := sr_ σ v0 41) rfl hq_b1) dX9_copy_162 ?_
  refine lv_bipush (v := (40 : Int32)) C.1 C.2.1 dX9_copy_165 (by decide) ?_
  refine lv_iload_n C.1 C.2.1 dX9_copy_167 rfl (lv_at hl 2 rfl) ?_
  refine lv_imul C.1 C.2.1 dX9_copy_168 ?_
  refine lv_iload_n C.1 C.2.1 dX9_copy_169 rfl (lv_at hl 3 rfl) ?_
  refine lv_iadd C.1 C.2.1 dX9_copy_170 ?_
  refine lv_iload C.1 C.2.1 dX9_copy_171 (lv_at hl 0 rfl) ?_
  refine lv_iadd C.1 C.2.1 dX9_copy_173 ?_
  obtain ⟨j2, hj_j2, hf⟩ := ob_ hf
  refine x_iald C K h hk_b1 hj_j2 dX9_copy_174 ?_
  obtain ⟨j3, hj_j3, hf⟩ := ob_ hf
  refine x_iast C K h hk_b1 hj_j3 dX9_copy_175 (fun H locs h => ?_)
  have hE := hE.up (up_i σ b1 j3 (si_ σ b1 j2))
  refine lv_iinc (v := v7 + (1 : Int32)) (lv' := [(7, .int (v7 + (1 : Int32))), (8, .int s0), (0, .ref (ad v0)), (1, .int v1), (2, .int v2), (3, .int v3), (4, .int v4), (5, .int v5), (6, .int v6)]) C.1 C.2.1 dX9_copy_176 hl (k := 8) rfl rfl (by decide) rfl (fun ls hl => ?_)
  refine lv_goto (tgt := 121) C.1 C.2.1 dX9_copy_179 (by decide) ?_
  exact hk121 (ui_ σ b1 j3 (si_ σ b1 j2)) v0 v1 v2 v3 v4 v5 v6 (v7 + (1 : Int32)) hE hk_v0 hf _ _ _ h (lv_sub hl [2, 3, 4, 5, 6, 7, 8, 0] rfl)
def f_X9_copy_121 (fu : Nat) : Nat → St_ → Nat → Int32 → Int32 → Int32 → Int32 → Int32 → Int32 → Int32 → Option (Int32 × St_)
  | 0 => fun _ _ _ _ _ _ _ _ _ => none
  | n + 1 => fun σ  v0  v1  v2  v3  v4  v5  v6  v7 => if v5 ≤ v7 then some (v5, σ) else if v6 = 0 then f_X9_copy_145 fu (f_X9_copy_121 fu n) σ v0 v1 v2 v3 v4 v5 v6 v7 v7 else f_X9_copy_145 fu (f_X9_copy_121 fu n) σ v0 v1 v2 v3 v4 v5 v6 v7 ((v5 - (1 : Int32)) - v7)
set_option maxHeartbeats 4000000 in
set_option maxRecDepth 100000 in
theorem w_X9_copy_121 {p : Program} {l : Launch} {e : Env} {R : Room} {s : State} {m : MethodId} {args : Array Value} {below : List Frame} {meth : Method} {c : Code} {κ : Ka_} {G : va_G} {cy : Nat → ClassId} {ad : Nat → Nat} {sz : Nat} {σ0 : St_} (fu : Nat) (C : CallFix p m c cX9_copy 9 s args wU_ RX9) (K : Kx_ κ G cy (va_A (wl_ cy ad σ0) sz) s) (hr : meth.sig.returnType = some .int) (hlk : meth.locks = false) (hR : 2 ≤ R.frames ∧ 45 ≤ R.locals) {q : Int32 × St_} : ∀ n : Nat, ∀ (σ : St_) (v0 : Nat) (v1 : Int32) (v2 : Int32) (v3 : Int32) (v4 : Int32) (v5 : Int32) (v6 : Int32) (v7 : Int32), Ex_ σ0 σ → kd_ σ v0 = 9 → f_X9_copy_121 fu n σ v0 v1 v2 v3 v4 v5 v6 v7 = some q → ∀ (H : Heap) (locs : List Loc) (ls : Array Slot), Ht_ G cy (va_A (wl_ cy ad σ0) sz) s ad σ H locs → lv_has ls 9 [(0, .ref (ad v0)), (1, .int v1), (2, .int v2), (3, .int v3), (4, .int v4), (5, .int v5), (6, .int v6), (7, .int v7)] → W p l e R s m args below meth c H locs 0 0 (MQ below (Qi_ G cy ad σ0 q.2 sz q.1) args s 0 0 (va_A (wl_ cy ad σ0) sz)) (F0 m 121 ls []) := by
  intro n
  induction n with
  | zero =>
    intro σ v0 v1 v2 v3 v4 v5 v6 v7 hE hk_v0 hf H locs ls h hl
    cases hf
  | succ n ih =>
    intro σ v0 v1 v2 v3 v4 v5 v6 v7 hE hk_v0 hf H locs ls h hl
    have hf : (if v5 ≤ v7 then some (v5, σ) else if v6 = 0 then f_X9_copy_145 fu (f_X9_copy_121 fu n) σ v0 v1 v2 v3 v4 v5 v6 v7 v7 else f_X9_copy_145 fu (f_X9_copy_121 fu n) σ v0 v1 v2 v3 v4 v5 v6 v7 ((v5 - (1 : Int32)) - v7)) = some q := hf
    refine lv_iload C.1 C.2.1 dX9_copy_121 (lv_at hl 7 rfl) ?_
    refine lv_iload C.1 C.2.1 dX9_copy_123 (lv_at hl 5 rfl) ?_
    refine lv_icmp_ge (tgt := 182) C.1 C.2.1 dX9_copy_125 (by decide) (fun c1 => ?_) (fun c1 => ?_)
    · have hf := if_t hf c1
      refine lv_iload C.1 C.2.1 dX9_copy_182 (lv_at hl 5 rfl) ?_
      exact x_ri C hr hlk h hE (pf_1 (Option.some.inj hf)) (pf_2 (Option.some.inj hf)) dX9_copy_184
    · have hf := if_f hf c1
      refine lv_iload C.1 C.2.1 dX9_copy_128 (lv_at hl 6 rfl) ?_
      refine lv_if_eq (tgt := 143) C.1 C.2.1 dX9_copy_130 (by decide) (fun c2 => ?_) (fun c2 => ?_)
      · have hf := if_t hf c2
        refine lv_iload C.1 C.2.1 dX9_copy_143 (lv_at hl 7 rfl) ?_
        exact w_X9_copy_145 fu C K hr hlk hR (f_X9_copy_121 fu n) ih σ v0 v1 v2 v3 v4 v5 v6 v7 v7 hE hk_v0 hf _ _ _ h (lv_sub hl [0, 1, 2, 3, 4, 5, 6, 7] rfl)
      · have hf := if_f hf c2
        refine lv_iload C.1 C.2.1 dX9_copy_133 (lv_at hl 5 rfl) ?_
        refine lv_iconst (v := (1 : Int32)) C.1 C.2.1 dX9_copy_135 (by decide) ?_
        refine lv_isub C.1 C.2.1 dX9_copy_136 ?_
        refine lv_iload C.1 C.2.1 dX9_copy_137 (lv_at hl 7 rfl) ?_
        refine lv_isub C.1 C.2.1 dX9_copy_139 ?_
        refine lv_goto (tgt := 145) C.1 C.2.1 dX9_copy_140 (by decide) ?_
        exact w_X9_copy_145 fu C K hr hlk hR (f_X9_copy_121 fu n) ih σ v0 v1 v2 v3 v4 v5 v6 v7 ((v5 - (1 : Int32)) - v7) hE hk_v0 hf _ _ _ h (lv_sub hl [0, 1, 2, 3, 4, 5, 6, 7] rfl)
def f_X9_copy (fu : Nat) (σ : St_) (a0 : Nat) (x1 : Int32) (x2 : Int32) (x3 : Int32) (x4 : Int32) (x5 : Int32) : Option (Int32 × St_) := if (f_X9_isSheet x1) = 0 then some ((-2 : Int32), σ) else if (f_X9_isSheet x3) = 0 then some ((-2 : Int32), σ) else (dr_ σ 12 (sr_ σ a0 38)).bind fun b12 => (ix_ x1 (ln_ σ b12)).bind fun j13 => if (si_ σ b12 j13) = 0 then some ((-11 : Int32), σ) else (ix_ x3 (ln_ σ b12)).bind fun j15 => if (si_ σ b12 j15) = 0 then some ((-11 : Int32), σ) else (dr_ σ 10 (sr_ σ a0 39)).bind fun b17 => (ix_ x1 (ln_ σ b17)).bind fun j18 => (ix_ x3 (ln_ σ b17)).bind fun j19 => if (si_ σ b17 j18) = (si_ σ b17 j19) then if x5 < 0 then some ((-12 : Int32), σ) else if x2 < 0 then some ((-12 : Int32), σ) else if x4 < 0 then some ((-12 : Int32), σ) else (dr_ σ 10 (sr_ σ a0 40)).bind fun b24 => (ix_ x1 (ln_ σ b24)).bind fun j25 => if ((si_ σ b24 j25) - x5) < x2 then some ((-12 : Int32), σ) else (ix_ x3 (ln_ σ b24)).bind fun j27 => if x4 ≤ ((si_ σ b24 j27) - x5) then if x1 = x3 then if x4 ≤ x2 then f_X9_copy_121 fu fu σ a0 x1 x2 x3 x4 x5 (0 : Int32) (0 : Int32) else f_X9_copy_121 fu fu σ a0 x1 x2 x3 x4 x5 (1 : Int32) (0 : Int32) else f_X9_copy_121 fu fu σ a0 x1 x2 x3 x4 x5 (0 : Int32) (0 : Int32) else some ((-12 : Int32), σ) else some ((-13 : Int32), σ)
set_option maxHeartbeats 4000000 in
set_option maxRecDepth 100000 in
theorem w_X9_copy {p : Program} {l : Launch} {e : Env} {R : Room} {s : State} {m : MethodId} {args : Array Value} {below : List Frame} {meth : Method} {c : Code} {κ : Ka_} {G : va_G} {cy : Nat → ClassId} {ad : Nat → Nat} {sz : Nat} {σ0 : St_} (fu : Nat) (C : CallFix p m c cX9_copy 9 s args wU_ RX9) (K : Kx_ κ G cy (va_A (wl_ cy ad σ0) sz) s) (hr : meth.sig.returnType = some .int) (hlk : meth.locks = false) (hR : 2 ≤ R.frames ∧ 45 ≤ R.locals) {q : Int32 × St_} : ∀ (σ : St_) (a0 : Nat) (x1 : Int32) (x2 : Int32) (x3 : Int32) (x4 : Int32) (x5 : Int32), Ex_ σ0 σ → kd_ σ a0 = 9 → f_X9_copy fu σ a0 x1 x2 x3 x4 x5 = some q → ∀ (H : Heap) (locs : List Loc) (ls : Array Slot), Ht_ G cy (va_A (wl_ cy ad σ0) sz) s ad σ H locs → lv_has ls 9 [(0, .ref (ad a0)), (1, .int x1), (2, .int x2), (3, .int x3), (4, .int x4), (5, .int x5)] → W p l e R s m args below meth c H locs 0 0 (MQ below (Qi_ G cy ad σ0 q.2 sz q.1) args s 0 0 (va_A (wl_ cy ad σ0) sz)) (F0 m 0 ls []) := by
  intro σ a0 x1 x2 x3 x4 x5 hE hk_a0 hf H locs ls h hl
  have hf : (if (f_X9_isSheet x1) = 0 then some ((-2 : Int32), σ) else if (f_X9_isSheet x3) = 0 then some ((-2 : Int32), σ) else (dr_ σ 12 (sr_ σ a0 38)).bind fun b12 => (ix_ x1 (ln_ σ b12)).bind fun j13 => if (si_ σ b12 j13) = 0 then some ((-11 : Int32), σ) else (ix_ x3 (ln_ σ b12)).bind fun j15 => if (si_ σ b12 j15) = 0 then some ((-11 : Int32), σ) else (dr_ σ 10 (sr_ σ a0 39)).bind fun b17 => (ix_ x1 (ln_ σ b17)).bind fun j18 => (ix_ x3 (ln_ σ b17)).bind fun j19 => if (si_ σ b17 j18) = (si_ σ b17 j19) then if x5 < 0 then some ((-12 : Int32), σ) else if x2 < 0 then some ((-12 : Int32), σ) else if x4 < 0 then some ((-12 : Int32), σ) else (dr_ σ 10 (sr_ σ a0 40)).bind fun b24 => (ix_ x1 (ln_ σ b24)).bind fun j25 => if ((si_ σ b24 j25) - x5) < x2 then some ((-12 : Int32), σ) else (ix_ x3 (ln_ σ b24)).bind fun j27 => if x4 ≤ ((si_ σ b24 j27) - x5) then if x1 = x3 then if x4 ≤ x2 then f_X9_copy_121 fu fu σ a0 x1 x2 x3 x4 x5 (0 : Int32) (0 : Int32) else f_X9_copy_121 fu fu σ a0 x1 x2 x3 x4 x5 (1 : Int32) (0 : Int32) else f_X9_copy_121 fu fu σ a0 x1 x2 x3 x4 x5 (0 : Int32) (0 : Int32) else some ((-12 : Int32), σ) else some ((-13 : Int32), σ)) = some q := hf
  refine lv_iload_n C.1 C.2.1 dX9_copy_0 rfl (lv_at hl 1 rfl) ?_
  refine x_az K h (x_S C K h [.int x1] (c_X9_isSheet l κ G cy ad H.size σ x1 rfl) mi_X9_isSheet rfl st_yX9_isSheet ml_RX9_366 ⟨rfl, rfl, Nat.le_trans (Nat.le_of_ble_eq_true rfl) hR.1, Nat.le_trans (Nat.le_of_ble_eq_true rfl) hR.2⟩ hl (Nat.le_of_ble_eq_true rfl) dX9_copy_1 ⟨Nat.zero_le _, Nat.zero_le _⟩ rfl) (fun H locs h hX hz7 => ?_)
  refine lv_if_eq (tgt := 14) C.1 C.2.1 dX9_copy_4 (by decide) (fun c8 => ?_) (fun c8 => ?_)
  · have hf := if_t hf c8
    refine lv_bipush (v := (-2 : Int32)) C.1 C.2.1 dX9_copy_14 (by decide) ?_
    exact x_ri C hr hlk h hE (pf_1 (Option.some.inj hf)) (pf_2 (Option.some.inj hf)) dX9_copy_16
  · have hf := if_f hf c8
    refine lv_iload_n C.1 C.2.1 dX9_copy_7 rfl (lv_at hl 3 rfl) ?_
    refine x_az K h (x_S C K h [.int x3] (c_X9_isSheet l κ G cy ad H.size σ x3 rfl) mi_X9_isSheet rfl st_yX9_isSheet ml_RX9_366 ⟨rfl, rfl, Nat.le_trans (Nat.le_of_ble_eq_true rfl) hR.1, Nat.le_trans (Nat.le_of_ble_eq_true rfl) hR.2⟩ hl (Nat.le_of_ble_eq_true rfl) dX9_copy_8 ⟨Nat.zero_le _, Nat.zero_le _⟩ rfl) (fun H locs h hX hz10 => ?_)
    refine lv_if_ne (tgt := 17) C.1 C.2.1 dX9_copy_11 (by decide) (fun c11 => ?_) (fun c11 => ?_)
    · have hf := if_f hf c11
      refine lv_aload_n C.1 C.2.1 dX9_copy_17 rfl (lv_at hl 0 rfl) ?_
      obtain ⟨b12, hb_b12, hf⟩ := ob_ hf
      obtain ⟨hq_b12, hk_b12⟩ := dr_in hb_b12
      refine x_get (v := .ref (ad b12)) C K h cl_9 hk_a0 38 (by decide) fl_RX9_60 (hv_r (o := sr_ σ a0 38) rfl hq_b12) dX9_copy_18 ?_
      refine lv_iload_n C.1 C.2.1 dX9_copy_21 rfl (lv_at hl 1 rfl) ?_
      obtain ⟨j13, hj_j13, hf⟩ := ob_ hf
      refine x_zald C K h hk_b12 hj_j13 dX9_copy_22 ?_
      refine lv_if_eq (tgt := 35) C.1 C.2.1 dX9_copy_23 (by decide) (fun c14 => ?_) (fun c14 => ?_)
      · have hf := if_t hf c14
        refine lv_bipush (v := (-11 : Int32)) C.1 C.2.1 dX9_copy_35 (by decide) ?_
        exact x_ri C hr hlk h hE (pf_1 (Option.some.inj hf)) (pf_2 (Option.some.inj hf)) dX9_copy_37
      · have hf := if_f hf c14
        refine lv_aload_n C.1 C.2.1 dX9_copy_26 rfl (lv_at hl 0 rfl) ?_
        refine x_get (v := .ref (ad b12)) C K h cl_9 hk_a0 38 (by decide) fl_RX9_60 (hv_r (o := sr_ σ a0 38) rfl hq_b12) dX9_copy_27 ?_
        refine lv_iload_n C.1 C.2.1 dX9_copy_30 rfl (lv_at hl 3 rfl) ?_
        obtain ⟨j15, hj_j15, hf⟩ := ob_ hf
        refine x_zald C K h hk_b12 hj_j15 dX9_copy_31 ?_
        refine lv_if_ne (tgt := 38) C.1 C.2.1 dX9_copy_32 (by decide) (fun c16 => ?_) (fun c16 => ?_)
        · have hf := if_f hf c16
          refine lv_aload_n C.1 C.2.1 dX9_copy_38 rfl (lv_at hl 0 rfl) ?_
          obtain ⟨b17, hb_b17, hf⟩ := ob_ hf
          obtain ⟨hq_b17, hk_b17⟩ := dr_in hb_b17
          refine x_get (v := .ref (ad b17)) C K h cl_9 hk_a0 39 (by decide) fl_RX9_64 (hv_r (o := sr_ σ a0 39) rfl hq_b17) dX9_copy_39 ?_
          refine lv_iload_n C.1 C.2.1 dX9_copy_42 rfl (lv_at hl 1 rfl) ?_
          obtain ⟨j18, hj_j18, hf⟩ := ob_ hf
          refine x_iald C K h hk_b17 hj_j18 dX9_copy_43 ?_
          refine lv_aload_n C.1 C.2.1 dX9_copy_44 rfl (lv_at hl 0 rfl) ?_
          refine x_get (v := .ref (ad b17)) C K h cl_9 hk_a0 39 (by decide) fl_RX9_64 (hv_r (o := sr_ σ a0 39) rfl hq_b17) dX9_copy_45 ?_
          refine lv_iload_n C.1 C.2.1 dX9_copy_48 rfl (lv_at hl 3 rfl) ?_
          obtain ⟨j19, hj_j19, hf⟩ := ob_ hf
          refine x_iald C K h hk_b17 hj_j19 dX9_copy_49 ?_
          refine lv_icmp_eq (tgt := 56) C.1 C.2.1 dX9_copy_50 (by decide) (fun c20 => ?_) (fun c20 => ?_)
          · have hf := if_t hf c20
            refine lv_iload C.1 C.2.1 dX9_copy_56 (lv_at hl 5 rfl) ?_
            refine lv_if_lt (tgt := 97) C.1 C.2.1 dX9_copy_58 (by decide) (fun c21 => ?_) (fun c21 => ?_)
            · have hf := if_t hf c21
              refine lv_bipush (v := (-12 : Int32)) C.1 C.2.1 dX9_copy_97 (by decide) ?_
              exact x_ri C hr hlk h hE (pf_1 (Option.some.inj hf)) (pf_2 (Option.some.inj hf)) dX9_copy_99
            · have hf := if_f hf c21
              refine lv_iload_n C.1 C.2.1 dX9_copy_61 rfl (lv_at hl 2 rfl) ?_
              refine lv_if_lt (tgt := 97) C.1 C.2.1 dX9_copy_62 (by decide) (fun c22 => ?_) (fun c22 => ?_)
              · have hf := if_t hf c22
                refine lv_bipush (v := (-12 : Int32)) C.1 C.2.1 dX9_copy_97 (by decide) ?_
                exact x_ri C hr hlk h hE (pf_1 (Option.some.inj hf)) (pf_2 (Option.some.inj hf)) dX9_copy_99
              · have hf := if_f hf c22
                refine lv_iload C.1 C.2.1 dX9_copy_65 (lv_at hl 4 rfl) ?_
                refine lv_if_lt (tgt := 97) C.1 C.2.1 dX9_copy_67 (by decide) (fun c23 => ?_) (fun c23 => ?_)
                · have hf := if_t hf c23
                  refine lv_bipush (v := (-12 : Int32)) C.1 C.2.1 dX9_copy_97 (by decide) ?_
                  exact x_ri C hr hlk h hE (pf_1 (Option.some.inj hf)) (pf_2 (Option.some.inj hf)) dX9_copy_99
                · have hf := if_f hf c23
                  refine lv_iload_n C.1 C.2.1 dX9_copy_70 rfl (lv_at hl 2 rfl) ?_
                  refine lv_aload_n C.1 C.2.1 dX9_copy_71 rfl (lv_at hl 0 rfl) ?_
                  obtain ⟨b24, hb_b24, hf⟩ := ob_ hf
                  obtain ⟨hq_b24, hk_b24⟩ := dr_in hb_b24
                  refine x_get (v := .ref (ad b24)) C K h cl_9 hk_a0 40 (by decide) fl_RX9_67 (hv_r (o := sr_ σ a0 40) rfl hq_b24) dX9_copy_72 ?_
                  refine lv_iload_n C.1 C.2.1 dX9_copy_75 rfl (lv_at hl 1 rfl) ?_
                  obtain ⟨j25, hj_j25, hf⟩ := ob_ hf
                  refine x_iald C K h hk_b24 hj_j25 dX9_copy_76 ?_
                  refine lv_iload C.1 C.2.1 dX9_copy_77 (lv_at hl 5 rfl) ?_
                  refine lv_isub C.1 C.2.1 dX9_copy_79 ?_
                  refine lv_icmp_gt (tgt := 97) C.1 C.2.1 dX9_copy_80 (by decide) (fun c26 => ?_) (fun c26 => ?_)
                  · have hf := if_t hf c26
                    refine lv_bipush (v := (-12 : Int32)) C.1 C.2.1 dX9_copy_97 (by decide) ?_
                    exact x_ri C hr hlk h hE (pf_1 (Option.some.inj hf)) (pf_2 (Option.some.inj hf)) dX9_copy_99
                  · have hf := if_f hf c26
                    refine lv_iload C.1 C.2.1 dX9_copy_83 (lv_at hl 4 rfl) ?_
                    refine lv_aload_n C.1 C.2.1 dX9_copy_85 rfl (lv_at hl 0 rfl) ?_
                    refine x_get (v := .ref (ad b24)) C K h cl_9 hk_a0 40 (by decide) fl_RX9_67 (hv_r (o := sr_ σ a0 40) rfl hq_b24) dX9_copy_86 ?_
                    refine lv_iload_n C.1 C.2.1 dX9_copy_89 rfl (lv_at hl 3 rfl) ?_
                    obtain ⟨j27, hj_j27, hf⟩ := ob_ hf
                    refine x_iald C K h hk_b24 hj_j27 dX9_copy_90 ?_
                    refine lv_iload C.1 C.2.1 dX9_copy_91 (lv_at hl 5 rfl) ?_
                    refine lv_isub C.1 C.2.1 dX9_copy_93 ?_
                    refine lv_icmp_le (tgt := 100) C.1 C.2.1 dX9_copy_94 (by decide) (fun c28 => ?_) (fun c28 => ?_)
                    · have hf := if_t hf c28
                      refine lv_iload_n C.1 C.2.1 dX9_copy_100 rfl (lv_at hl 1 rfl) ?_
                      refine lv_iload_n C.1 C.2.1 dX9_copy_101 rfl (lv_at hl 3 rfl) ?_
                      refine lv_icmp_ne (tgt := 115) C.1 C.2.1 dX9_copy_102 (by decide) (fun c29 => ?_) (fun c29 => ?_)
                      · have hf := if_f hf c29
                        refine lv_iconst (v := (0 : Int32)) C.1 C.2.1 dX9_copy_115 (by decide) ?_
                        refine lv_istore (i := 6) (lv' := [(6, .int (0 : Int32)), (0, .ref (ad a0)), (1, .int x1), (2, .int x2), (3, .int x3), (4, .int x4), (5, .int x5)]) C.1 C.2.1 dX9_copy_116 hl (by decide) rfl (fun ls hl => ?_)
                        refine lv_iconst (v := (0 : Int32)) C.1 C.2.1 dX9_copy_118 (by decide) ?_
                        refine lv_istore (i := 7) (lv' := [(7, .int (0 : Int32)), (6, .int (0 : Int32)), (0, .ref (ad a0)), (1, .int x1), (2, .int x2), (3, .int x3), (4, .int x4), (5, .int x5)]) C.1 C.2.1 dX9_copy_119 hl (by decide) rfl (fun ls hl => ?_)
                        exact w_X9_copy_121 fu C K hr hlk hR fu σ a0 x1 x2 x3 x4 x5 (0 : Int32) (0 : Int32) hE hk_a0 hf _ _ _ h (lv_sub hl [2, 3, 4, 5, 6, 7, 1, 0] rfl)
                      · have hf := if_t hf c29
                        refine lv_iload_n C.1 C.2.1 dX9_copy_105 rfl (lv_at hl 2 rfl) ?_
                        refine lv_iload C.1 C.2.1 dX9_copy_106 (lv_at hl 4 rfl) ?_
                        refine lv_icmp_ge (tgt := 115) C.1 C.2.1 dX9_copy_108 (by decide) (fun c30 => ?_) (fun c30 => ?_)
                        · have hf := if_t hf c30
                          refine lv_iconst (v := (0 : Int32)) C.1 C.2.1 dX9_copy_115 (by decide) ?_
                          refine lv_istore (i := 6) (lv' := [(6, .int (0 : Int32)), (0, .ref (ad a0)), (1, .int x1), (2, .int x2), (3, .int x3), (4, .int x4), (5, .int x5)]) C.1 C.2.1 dX9_copy_116 hl (by decide) rfl (fun ls hl => ?_)
                          refine lv_iconst (v := (0 : Int32)) C.1 C.2.1 dX9_copy_118 (by decide) ?_
                          refine lv_istore (i := 7) (lv' := [(7, .int (0 : Int32)), (6, .int (0 : Int32)), (0, .ref (ad a0)), (1, .int x1), (2, .int x2), (3, .int x3), (4, .int x4), (5, .int x5)]) C.1 C.2.1 dX9_copy_119 hl (by decide) rfl (fun ls hl => ?_)
                          exact w_X9_copy_121 fu C K hr hlk hR fu σ a0 x1 x2 x3 x4 x5 (0 : Int32) (0 : Int32) hE hk_a0 hf _ _ _ h (lv_sub hl [2, 3, 4, 5, 6, 7, 1, 0] rfl)
                        · have hf := if_f hf c30
                          refine lv_iconst (v := (1 : Int32)) C.1 C.2.1 dX9_copy_111 (by decide) ?_
                          refine lv_goto (tgt := 116) C.1 C.2.1 dX9_copy_112 (by decide) ?_
                          refine lv_istore (i := 6) (lv' := [(6, .int (1 : Int32)), (0, .ref (ad a0)), (1, .int x1), (2, .int x2), (3, .int x3), (4, .int x4), (5, .int x5)]) C.1 C.2.1 dX9_copy_116 hl (by decide) rfl (fun ls hl => ?_)
                          refine lv_iconst (v := (0 : Int32)) C.1 C.2.1 dX9_copy_118 (by decide) ?_
                          refine lv_istore (i := 7) (lv' := [(7, .int (0 : Int32)), (6, .int (1 : Int32)), (0, .ref (ad a0)), (1, .int x1), (2, .int x2), (3, .int x3), (4, .int x4), (5, .int x5)]) C.1 C.2.1 dX9_copy_119 hl (by decide) rfl (fun ls hl => ?_)
                          exact w_X9_copy_121 fu C K hr hlk hR fu σ a0 x1 x2 x3 x4 x5 (1 : Int32) (0 : Int32) hE hk_a0 hf _ _ _ h (lv_sub hl [2, 3, 4, 5, 6, 7, 1, 0] rfl)
                    · have hf := if_f hf c28
                      refine lv_bipush (v := (-12 : Int32)) C.1 C.2.1 dX9_copy_97 (by decide) ?_
                      exact x_ri C hr hlk h hE (pf_1 (Option.some.inj hf)) (pf_2 (Option.some.inj hf)) dX9_copy_99
          · have hf := if_f hf c20
            refine lv_bipush (v := (-13 : Int32)) C.1 C.2.1 dX9_copy_53 (by decide) ?_
            exact x_ri C hr hlk h hE (pf_1 (Option.some.inj hf)) (pf_2 (Option.some.inj hf)) dX9_copy_55
        · have hf := if_t hf c16
          refine lv_bipush (v := (-11 : Int32)) C.1 C.2.1 dX9_copy_35 (by decide) ?_
          exact x_ri C hr hlk h hE (pf_1 (Option.some.inj hf)) (pf_2 (Option.some.inj hf)) dX9_copy_37
    · have hf := if_t hf c11
      refine lv_bipush (v := (-2 : Int32)) C.1 C.2.1 dX9_copy_14 (by decide) ?_
      exact x_ri C hr hlk h hE (pf_1 (Option.some.inj hf)) (pf_2 (Option.some.inj hf)) dX9_copy_16
theorem c_X9_copy (fu : Nat) (l : Launch) (κ : Ka_) (G : va_G) (cy : Nat → ClassId) (ad : Nat → Nat) (sz : Nat) (σ : St_) (a0 : Nat) (x1 : Int32) (x2 : Int32) (x3 : Int32) (x4 : Int32) (x5 : Int32) (hk_a0 : kd_ σ a0 = 9) {q : Int32 × St_} (hf : f_X9_copy fu σ a0 x1 x2 x3 x4 x5 = some q) : Met l yX9_copy (Cond.code yX9_copy cX9_copy 9 (some .int) :: wU_) { frames := 2, cells := 0, slots := 0, locals := 45 } (va_Pc [.ref (ad a0), .int x1, .int x2, .int x3, .int x4, .int x5] (Pr_ κ G cy ad σ sz)) (Qi_ G cy ad σ q.2 sz q.1) 0 0 (va_A (wl_ cy ad σ) sz) :=
  x_met (by decide) (fun p e R s m below meth c ls hR C hr hlk hin _ K h hl => w_X9_copy fu C K hr hlk ⟨hR.1, hR.2.1⟩ σ a0 x1 x2 x3 x4 x5 Ex_.rf hk_a0 hf s.heap [] ls h hl) (Nat.le_of_ble_eq_true rfl)
-- X9_carpets
theorem mi_X9_carpets : Mi_ yX9_carpets cX9_carpets 8 (some .int) 4 := ⟨co_yX9_carpets, in_RX9, by decide, by decide, by decide +kernel⟩
def f_X9_carpets_75 (fu : Nat) : Nat → St_ → Nat → Int32 → Int32 → Int32 → Int32 → Int32 → Option (Int32 × St_)
  | 0 => fun _ _ _ _ _ _ _ => none
  | n + 1 => fun σ  v0  v1  v3  v4  v5  v6 => if v4 ≤ v6 then some (v5, σ) else if v3 < 0 then some ((-12 : Int32), σ) else (dr_ σ 10 (sr_ σ v0 40)).bind fun b3 => (ix_ v1 (ln_ σ b3)).bind fun j4 => if v3 ≤ (((si_ σ b3 j4) - ((3 : Int32) * v6)) - (3 : Int32)) then (dr_ σ 10 (sr_ σ v0 41)).bind fun b6 => (ix_ ((((40 : Int32) * v1) + v3) + ((3 : Int32) * v6)) (ln_ σ b6)).bind fun j7 => (ix_ (((((40 : Int32) * v1) + v3) + ((3 : Int32) * v6)) + (1 : Int32)) (ln_ σ b6)).bind fun j8 => (ix_ (((((40 : Int32) * v1) + v3) + ((3 : Int32) * v6)) + (2 : Int32)) (ln_ σ b6)).bind fun j9 => (f_X9_carpet σ v0 (si_ σ b6 j7) (si_ σ b6 j8) (si_ σ b6 j9)).bind fun q10 => if q10.1 < 0 then (f_X9_carpets_75 fu n) q10.2 v0 v1 v3 v4 (v5 + (0 : Int32)) (v6 + (1 : Int32)) else (f_X9_carpets_75 fu n) q10.2 v0 v1 v3 v4 (v5 + (1 : Int32)) (v6 + (1 : Int32)) else some ((-12 : Int32), σ)
set_option maxHeartbeats 4000000 in
set_option maxRecDepth 100000 in
theorem w_X9_carpets_75 {p : Program} {l : Launch} {e : Env} {R : Room} {s : State} {m : MethodId} {args : Array Value} {below : List Frame} {meth : Method} {c : Code} {κ : Ka_} {G : va_G} {cy : Nat → ClassId} {ad : Nat → Nat} {sz : Nat} {σ0 : St_} (fu : Nat) (C : CallFix p m c cX9_carpets 8 s args wU_ RX9) (K : Kx_ κ G cy (va_A (wl_ cy ad σ0) sz) s) (hr : meth.sig.returnType = some .int) (hlk : meth.locks = false) (hR : 3 ≤ R.frames ∧ 68 ≤ R.locals) {q : Int32 × St_} : ∀ n : Nat, ∀ (σ : St_) (v0 : Nat) (v1 : Int32) (v3 : Int32) (v4 : Int32) (v5 : Int32) (v6 : Int32), Ex_ σ0 σ → kd_ σ v0 = 9 → f_X9_carpets_75 fu n σ v0 v1 v3 v4 v5 v6 = some q → ∀ (H : Heap) (locs : List Loc) (ls : Array Slot), Ht_ G cy (va_A (wl_ cy ad σ0) sz) s ad σ H locs → lv_has ls 8 [(0, .ref (ad v0)), (1, .int v1), (3, .int v3), (4, .int v4), (5, .int v5), (6, .int v6)] → W p l e R s m args below meth c H locs 0 0 (MQ below (Qi_ G cy ad σ0 q.2 sz q.1) args s 0 0 (va_A (wl_ cy ad σ0) sz)) (F0 m 75 ls []) := by
  intro n
  induction n with
  | zero =>
    intro σ v0 v1 v3 v4 v5 v6 hE hk_v0 hf H locs ls h hl
    cases hf
  | succ n ih =>
    intro σ v0 v1 v3 v4 v5 v6 hE hk_v0 hf H locs ls h hl
    have hf : (if v4 ≤ v6 then some (v5, σ) else if v3 < 0 then some ((-12 : Int32), σ) else (dr_ σ 10 (sr_ σ v0 40)).bind fun b3 => (ix_ v1 (ln_ σ b3)).bind fun j4 => if v3 ≤ (((si_ σ b3 j4) - ((3 : Int32) * v6)) - (3 : Int32)) then (dr_ σ 10 (sr_ σ v0 41)).bind fun b6 => (ix_ ((((40 : Int32) * v1) + v3) + ((3 : Int32) * v6)) (ln_ σ b6)).bind fun j7 => (ix_ (((((40 : Int32) * v1) + v3) + ((3 : Int32) * v6)) + (1 : Int32)) (ln_ σ b6)).bind fun j8 => (ix_ (((((40 : Int32) * v1) + v3) + ((3 : Int32) * v6)) + (2 : Int32)) (ln_ σ b6)).bind fun j9 => (f_X9_carpet σ v0 (si_ σ b6 j7) (si_ σ b6 j8) (si_ σ b6 j9)).bind fun q10 => if q10.1 < 0 then (f_X9_carpets_75 fu n) q10.2 v0 v1 v3 v4 (v5 + (0 : Int32)) (v6 + (1 : Int32)) else (f_X9_carpets_75 fu n) q10.2 v0 v1 v3 v4 (v5 + (1 : Int32)) (v6 + (1 : Int32)) else some ((-12 : Int32), σ)) = some q := hf
    refine lv_iload C.1 C.2.1 dX9_carpets_75 (lv_at hl 5 rfl) ?_
    refine lv_iload C.1 C.2.1 dX9_carpets_77 (lv_at hl 3 rfl) ?_
    refine lv_icmp_ge (tgt := 167) C.1 C.2.1 dX9_carpets_79 (by decide) (fun c1 => ?_) (fun c1 => ?_)
    · have hf := if_t hf c1
      refine lv_iload C.1 C.2.1 dX9_carpets_167 (lv_at hl 4 rfl) ?_
      exact x_ri C hr hlk h hE (pf_1 (Option.some.inj hf)) (pf_2 (Option.some.inj hf)) dX9_carpets_169
    · have hf := if_f hf c1
      refine lv_iload_n C.1 C.2.1 dX9_carpets_82 rfl (lv_at hl 2 rfl) ?_
      refine lv_if_lt (tgt := 103) C.1 C.2.1 dX9_carpets_83 (by decide) (fun c2 => ?_) (fun c2 => ?_)
      · have hf := if_t hf c2
        refine lv_bipush (v := (-12 : Int32)) C.1 C.2.1 dX9_carpets_103 (by decide) ?_
        exact x_ri C hr hlk h hE (pf_1 (Option.some.inj hf)) (pf_2 (Option.some.inj hf)) dX9_carpets_105
      · have hf := if_f hf c2
        refine lv_iload_n C.1 C.2.1 dX9_carpets_86 rfl (lv_at hl 2 rfl) ?_
        refine lv_aload_n C.1 C.2.1 dX9_carpets_87 rfl (lv_at hl 0 rfl) ?_
        obtain ⟨b3, hb_b3, hf⟩ := ob_ hf
        obtain ⟨hq_b3, hk_b3⟩ := dr_in hb_b3
        refine x_get (v := .ref (ad b3)) C K h cl_9 hk_v0 40 (by decide) fl_RX9_67 (hv_r (o := sr_ σ v0 40) rfl hq_b3) dX9_carpets_88 ?_
        refine lv_iload_n C.1 C.2.1 dX9_carpets_91 rfl (lv_at hl 1 rfl) ?_
        obtain ⟨j4, hj_j4, hf⟩ := ob_ hf
        refine x_iald C K h hk_b3 hj_j4 dX9_carpets_92 ?_
        refine lv_iconst (v := (3 : Int32)) C.1 C.2.1 dX9_carpets_93 (by decide) ?_
        refine lv_iload C.1 C.2.1 dX9_carpets_94 (lv_at hl 5 rfl) ?_
        refine lv_imul C.1 C.2.1 dX9_carpets_96 ?_
        refine lv_isub C.1 C.2.1 dX9_carpets_97 ?_
        refine lv_iconst (v := (3 : Int32)) C.1 C.2.1 dX9_carpets_98 (by decide) ?_
        refine lv_isub C.1 C.2.1 dX9_carpets_99 ?_
        refine lv_icmp_le (tgt := 106) C.1 C.2.1 dX9_carpets_100 (by decide) (fun c5 => ?_) (fun c5 => ?_)
        · have hf := if_t hf c5
          refine lv_bipush (v := (40 : Int32)) C.1 C.2.1 dX9_carpets_106 (by decide) ?_
          refine lv_iload_n C.1 C.2.1 dX9_carpets_108 rfl (lv_at hl 1 rfl) ?_
          refine lv_imul C.1 C.2.1 dX9_carpets_109 ?_
          refine lv_iload_n C.1 C.2.1 dX9_carpets_110 rfl (lv_at hl 2 rfl) ?_
          refine lv_iadd C.1 C.2.1 dX9_carpets_111 ?_
          refine lv_iconst (v := (3 : Int32)) C.1 C.2.1 dX9_carpets_112 (by decide) ?_
          refine lv_iload C.1 C.2.1 dX9_carpets_113 (lv_at hl 5 rfl) ?_
          refine lv_imul C.1 C.2.1 dX9_carpets_115 ?_
          refine lv_iadd C.1 C.2.1 dX9_carpets_116 ?_
          refine lv_istore (i := 7) (lv' := [(7, .int ((((40 : Int32) * v1) + v3) + ((3 : Int32) * v6))), (0, .ref (ad v0)), (1, .int v1), (3, .int v3), (4, .int v4), (5, .int v5), (6, .int v6)]) C.1 C.2.1 dX9_carpets_117 hl (by decide) rfl (fun ls hl => ?_)
          refine lv_iload C.1 C.2.1 dX9_carpets_119 (lv_at hl 5 rfl) ?_
          refine lv_aload_n C.1 C.2.1 dX9_carpets_121 rfl (lv_at hl 1 rfl) ?_
          refine lv_aload_n C.1 C.2.1 dX9_carpets_122 rfl (lv_at hl 1 rfl) ?_
          obtain ⟨b6, hb_b6, hf⟩ := ob_ hf
          obtain ⟨hq_b6, hk_b6⟩ := dr_in hb_b6
          refine x_get (v := .ref (ad b6)) C K h cl_9 hk_v0 41 (by decide) fl_RX9_70 (hv_r (o := sr_ σ v0 41) rfl hq_b6) dX9_carpets_123 ?_
          refine lv_iload C.1 C.2.1 dX9_carpets_126 (lv_at hl 0 rfl) ?_
          obtain ⟨j7, hj_j7, hf⟩ := ob_ hf
          refine x_iald C K h hk_b6 hj_j7 dX9_carpets_128 ?_
          refine lv_aload_n C.1 C.2.1 dX9_carpets_129 rfl (lv_at hl 1 rfl) ?_
          refine x_get (v := .ref (ad b6)) C K h cl_9 hk_v0 41 (by decide) fl_RX9_70 (hv_r (o := sr_ σ v0 41) rfl hq_b6) dX9_carpets_130 ?_
          refine lv_iload C.1 C.2.1 dX9_carpets_133 (lv_at hl 0 rfl) ?_
          refine lv_iconst (v := (1 : Int32)) C.1 C.2.1 dX9_carpets_135 (by decide) ?_
          refine lv_iadd C.1 C.2.1 dX9_carpets_136 ?_
          obtain ⟨j8, hj_j8, hf⟩ := ob_ hf
          refine x_iald C K h hk_b6 hj_j8 dX9_carpets_137 ?_
          refine lv_aload_n C.1 C.2.1 dX9_carpets_138 rfl (lv_at hl 1 rfl) ?_
          refine x_get (v := .ref (ad b6)) C K h cl_9 hk_v0 41 (by decide) fl_RX9_70 (hv_r (o := sr_ σ v0 41) rfl hq_b6) dX9_carpets_139 ?_
          refine lv_iload C.1 C.2.1 dX9_carpets_142 (lv_at hl 0 rfl) ?_
          refine lv_iconst (v := (2 : Int32)) C.1 C.2.1 dX9_carpets_144 (by decide) ?_
          refine lv_iadd C.1 C.2.1 dX9_carpets_145 ?_
          obtain ⟨j9, hj_j9, hf⟩ := ob_ hf
          refine x_iald C K h hk_b6 hj_j9 dX9_carpets_146 ?_
          obtain ⟨q10, hq_q10, hf⟩ := ob_ hf
          refine x_ai K h (x_V C K h [.int (si_ σ b6 j7), .int (si_ σ b6 j8), .int (si_ σ b6 j9)] (c_X9_carpet l κ G cy ad H.size σ v0 (si_ σ b6 j7) (si_ σ b6 j8) (si_ σ b6 j9) hk_v0 hq_q10) mi_X9_carpet rfl im_yX9_carpet se_yX9_carpet ml_RX9_430 cl_9 hk_v0 ⟨rfl, rfl, Nat.le_trans (Nat.le_of_ble_eq_true rfl) hR.1, Nat.le_trans (Nat.le_of_ble_eq_true rfl) hR.2⟩ hl (Nat.le_of_ble_eq_true rfl) dX9_carpets_147 ⟨Nat.zero_le _, Nat.zero_le _⟩ rfl) (fun H locs h hX => ?_)
          have hE := hE.trans hX
          have hk_v0 := hX.k hk_v0 (by decide)
          refine lv_if_lt (tgt := 157) C.1 C.2.1 dX9_carpets_150 (by decide) (fun c11 => ?_) (fun c11 => ?_)
          · have hf := if_t hf c11
            refine lv_iconst (v := (0 : Int32)) C.1 C.2.1 dX9_carpets_157 (by decide) ?_
            refine lv_iadd C.1 C.2.1 dX9_carpets_158 ?_
            refine lv_istore (i := 5) (lv' := [(5, .int (v5 + (0 : Int32))), (7, .int ((((40 : Int32) * v1) + v3) + ((3 : Int32) * v6))), (0, .ref (ad v0)), (1, .int v1), (3, .int v3), (4, .int v4), (6, .int v6)]) C.1 C.2.1 dX9_carpets_159 hl (by decide) rfl (fun ls hl => ?_)
            refine lv_iinc (v := v6 + (1 : Int32)) (lv' := [(6, .int (v6 + (1 : Int32))), (5, .int (v5 + (0 : Int32))), (7, .int ((((40 : Int32) * v1) + v3) + ((3 : Int32) * v6))), (0, .ref (ad v0)), (1, .int v1), (3, .int v3), (4, .int v4)]) C.1 C.2.1 dX9_carpets_161 hl (k := 6) rfl rfl (by decide) rfl (fun ls hl => ?_)
            refine lv_goto (tgt := 75) C.1 C.2.1 dX9_carpets_164 (by decide) ?_
            exact ih q10.2 v0 v1 v3 v4 (v5 + (0 : Int32)) (v6 + (1 : Int32)) hE hk_v0 hf _ _ _ h (lv_sub hl [3, 4, 5, 6, 1, 0] rfl)
          · have hf := if_f hf c11
            refine lv_iconst (v := (1 : Int32)) C.1 C.2.1 dX9_carpets_153 (by decide) ?_
            refine lv_goto (tgt := 158) C.1 C.2.1 dX9_carpets_154 (by decide) ?_
            refine lv_iadd C.1 C.2.1 dX9_carpets_158 ?_
            refine lv_istore (i := 5) (lv' := [(5, .int (v5 + (1 : Int32))), (7, .int ((((40 : Int32) * v1) + v3) + ((3 : Int32) * v6))), (0, .ref (ad v0)), (1, .int v1), (3, .int v3), (4, .int v4), (6, .int v6)]) C.1 C.2.1 dX9_carpets_159 hl (by decide) rfl (fun ls hl => ?_)
            refine lv_iinc (v := v6 + (1 : Int32)) (lv' := [(6, .int (v6 + (1 : Int32))), (5, .int (v5 + (1 : Int32))), (7, .int ((((40 : Int32) * v1) + v3) + ((3 : Int32) * v6))), (0, .ref (ad v0)), (1, .int v1), (3, .int v3), (4, .int v4)]) C.1 C.2.1 dX9_carpets_161 hl (k := 6) rfl rfl (by decide) rfl (fun ls hl => ?_)
            refine lv_goto (tgt := 75) C.1 C.2.1 dX9_carpets_164 (by decide) ?_
            exact ih q10.2 v0 v1 v3 v4 (v5 + (1 : Int32)) (v6 + (1 : Int32)) hE hk_v0 hf _ _ _ h (lv_sub hl [3, 4, 5, 6, 1, 0] rfl)
        · have hf := if_f hf c5
          refine lv_bipush (v := (-12 : Int32)) C.1 C.2.1 dX9_carpets_103 (by decide) ?_
          exact x_ri C hr hlk h hE (pf_1 (Option.some.inj hf)) (pf_2 (Option.some.inj hf)) dX9_carpets_105
def f_X9_carpets (fu : Nat) (σ : St_) (a0 : Nat) (x1 : Int32) (x2 : Int32) (x3 : Int32) (x4 : Int32) : Option (Int32 × St_) := if (f_X9_isSheet x1) = 0 then some ((-2 : Int32), σ) else if (f_X9_in x2.toInt64 (0 : Int64) (2 : Int64)) = 0 then some ((-2 : Int32), σ) else if (f_X9_in x4.toInt64 (0 : Int64) (4 : Int64)) = 0 then some ((-2 : Int32), σ) else (dr_ σ 12 (sr_ σ a0 38)).bind fun b14 => (ix_ x1 (ln_ σ b14)).bind fun j15 => if (si_ σ b14 j15) = 0 then (ix_ x1 (ln_ σ b14)).bind fun j17 => if (si_ σ b14 j17) = 0 then some ((-11 : Int32), σ) else f_X9_carpets_75 fu fu σ a0 x1 x3 x4 (0 : Int32) (0 : Int32) else (dr_ σ 10 (sr_ σ a0 39)).bind fun b19 => (ix_ x1 (ln_ σ b19)).bind fun j20 => if (si_ σ b19 j20) = x2 then (ix_ x1 (ln_ σ b14)).bind fun j22 => if (si_ σ b14 j22) = 0 then some ((-11 : Int32), σ) else f_X9_carpets_75 fu fu σ a0 x1 x3 x4 (0 : Int32) (0 : Int32) else some ((-13 : Int32), σ)
set_option maxHeartbeats 4000000 in
set_option maxRecDepth 100000 in
theorem w_X9_carpets {p : Program} {l : Launch} {e : Env} {R : Room} {s : State} {m : MethodId} {args : Array Value} {below : List Frame} {meth : Method} {c : Code} {κ : Ka_} {G : va_G} {cy : Nat → ClassId} {ad : Nat → Nat} {sz : Nat} {σ0 : St_} (fu : Nat) (C : CallFix p m c cX9_carpets 8 s args wU_ RX9) (K : Kx_ κ G cy (va_A (wl_ cy ad σ0) sz) s) (hr : meth.sig.returnType = some .int) (hlk : meth.locks = false) (hR : 3 ≤ R.frames ∧ 68 ≤ R.locals) {q : Int32 × St_} : ∀ (σ : St_) (a0 : Nat) (x1 : Int32) (x2 : Int32) (x3 : Int32) (x4 : Int32), Ex_ σ0 σ → kd_ σ a0 = 9 → f_X9_carpets fu σ a0 x1 x2 x3 x4 = some q → ∀ (H : Heap) (locs : List Loc) (ls : Array Slot), Ht_ G cy (va_A (wl_ cy ad σ0) sz) s ad σ H locs → lv_has ls 8 [(0, .ref (ad a0)), (1, .int x1), (2, .int x2), (3, .int x3), (4, .int x4)] → W p l e R s m args below meth c H locs 0 0 (MQ below (Qi_ G cy ad σ0 q.2 sz q.1) args s 0 0 (va_A (wl_ cy ad σ0) sz)) (F0 m 0 ls []) := by
  intro σ a0 x1 x2 x3 x4 hE hk_a0 hf H locs ls h hl
  have hf : (if (f_X9_isSheet x1) = 0 then some ((-2 : Int32), σ) else if (f_X9_in x2.toInt64 (0 : Int64) (2 : Int64)) = 0 then some ((-2 : Int32), σ) else if (f_X9_in x4.toInt64 (0 : Int64) (4 : Int64)) = 0 then some ((-2 : Int32), σ) else (dr_ σ 12 (sr_ σ a0 38)).bind fun b14 => (ix_ x1 (ln_ σ b14)).bind fun j15 => if (si_ σ b14 j15) = 0 then (ix_ x1 (ln_ σ b14)).bind fun j17 => if (si_ σ b14 j17) = 0 then some ((-11 : Int32), σ) else f_X9_carpets_75 fu fu σ a0 x1 x3 x4 (0 : Int32) (0 : Int32) else (dr_ σ 10 (sr_ σ a0 39)).bind fun b19 => (ix_ x1 (ln_ σ b19)).bind fun j20 => if (si_ σ b19 j20) = x2 then (ix_ x1 (ln_ σ b14)).bind fun j22 => if (si_ σ b14 j22) = 0 then some ((-11 : Int32), σ) else f_X9_carpets_75 fu fu σ a0 x1 x3 x4 (0 : Int32) (0 : Int32) else some ((-13 : Int32), σ)) = some q := hf
  refine lv_iload_n C.1 C.2.1 dX9_carpets_0 rfl (lv_at hl 1 rfl) ?_
  refine x_az K h (x_S C K h [.int x1] (c_X9_isSheet l κ G cy ad H.size σ x1 rfl) mi_X9_isSheet rfl st_yX9_isSheet ml_RX9_366 ⟨rfl, rfl, Nat.le_trans (Nat.le_of_ble_eq_true rfl) hR.1, Nat.le_trans (Nat.le_of_ble_eq_true rfl) hR.2⟩ hl (Nat.le_of_ble_eq_true rfl) dX9_carpets_1 ⟨Nat.zero_le _, Nat.zero_le _⟩ rfl) (fun H locs h hX hz6 => ?_)
  refine lv_if_eq (tgt := 32) C.1 C.2.1 dX9_carpets_4 (by decide) (fun c7 => ?_) (fun c7 => ?_)
  · have hf := if_t hf c7
    refine lv_bipush (v := (-2 : Int32)) C.1 C.2.1 dX9_carpets_32 (by decide) ?_
    exact x_ri C hr hlk h hE (pf_1 (Option.some.inj hf)) (pf_2 (Option.some.inj hf)) dX9_carpets_34
  · have hf := if_f hf c7
    refine lv_iload_n C.1 C.2.1 dX9_carpets_7 rfl (lv_at hl 2 rfl) ?_
    refine lv_i2l C.1 C.2.1 dX9_carpets_8 rfl ?_
    refine lv_lconst (v := (0 : Int64)) C.1 C.2.1 dX9_carpets_9 (by decide) ?_
    refine lv_ldc2 (v := (2 : Int64)) C.1 C.2.1 C.2.2.2.1 (C.2.2.2.2 _ cl_RX9_386) dX9_carpets_10 ?_
    refine x_az K h (x_S C K h [.long x2.toInt64, .long (0 : Int64), .long (2 : Int64)] (c_X9_in l κ G cy ad H.size σ x2.toInt64 (0 : Int64) (2 : Int64) rfl) mi_X9_in rfl st_yX9_in ml_RX9_83 ⟨rfl, rfl, Nat.le_trans (Nat.le_of_ble_eq_true rfl) hR.1, Nat.le_trans (Nat.le_of_ble_eq_true rfl) hR.2⟩ hl (Nat.le_of_ble_eq_true rfl) dX9_carpets_13 ⟨Nat.zero_le _, Nat.zero_le _⟩ rfl) (fun H locs h hX hz9 => ?_)
    refine lv_if_eq (tgt := 32) C.1 C.2.1 dX9_carpets_16 (by decide) (fun c10 => ?_) (fun c10 => ?_)
    · have hf := if_t hf c10
      refine lv_bipush (v := (-2 : Int32)) C.1 C.2.1 dX9_carpets_32 (by decide) ?_
      exact x_ri C hr hlk h hE (pf_1 (Option.some.inj hf)) (pf_2 (Option.some.inj hf)) dX9_carpets_34
    · have hf := if_f hf c10
      refine lv_iload C.1 C.2.1 dX9_carpets_19 (lv_at hl 4 rfl) ?_
      refine lv_i2l C.1 C.2.1 dX9_carpets_21 rfl ?_
      refine lv_lconst (v := (0 : Int64)) C.1 C.2.1 dX9_carpets_22 (by decide) ?_
      refine lv_ldc2 (v := (4 : Int64)) C.1 C.2.1 C.2.2.2.1 (C.2.2.2.2 _ cl_RX9_98) dX9_carpets_23 ?_
      refine x_az K h (x_S C K h [.long x4.toInt64, .long (0 : Int64), .long (4 : Int64)] (c_X9_in l κ G cy ad H.size σ x4.toInt64 (0 : Int64) (4 : Int64) rfl) mi_X9_in rfl st_yX9_in ml_RX9_83 ⟨rfl, rfl, Nat.le_trans (Nat.le_of_ble_eq_true rfl) hR.1, Nat.le_trans (Nat.le_of_ble_eq_true rfl) hR.2⟩ hl (Nat.le_of_ble_eq_true rfl) dX9_carpets_26 ⟨Nat.zero_le _, Nat.zero_le _⟩ rfl) (fun H locs h hX hz12 => ?_)
      refine lv_if_ne (tgt := 35) C.1 C.2.1 dX9_carpets_29 (by decide) (fun c13 => ?_) (fun c13 => ?_)
      · have hf := if_f hf c13
        refine lv_aload_n C.1 C.2.1 dX9_carpets_35 rfl (lv_at hl 0 rfl) ?_
        obtain ⟨b14, hb_b14, hf⟩ := ob_ hf
        obtain ⟨hq_b14, hk_b14⟩ := dr_in hb_b14
        refine x_get (v := .ref (ad b14)) C K h cl_9 hk_a0 38 (by decide) fl_RX9_60 (hv_r (o := sr_ σ a0 38) rfl hq_b14) dX9_carpets_36 ?_
        refine lv_iload_n C.1 C.2.1 dX9_carpets_39 rfl (lv_at hl 1 rfl) ?_
        obtain ⟨j15, hj_j15, hf⟩ := ob_ hf
        refine x_zald C K h hk_b14 hj_j15 dX9_carpets_40 ?_
        refine lv_if_eq (tgt := 57) C.1 C.2.1 dX9_carpets_41 (by decide) (fun c16 => ?_) (fun c16 => ?_)
        · have hf := if_t hf c16
          refine lv_aload_n C.1 C.2.1 dX9_carpets_57 rfl (lv_at hl 0 rfl) ?_
          refine x_get (v := .ref (ad b14)) C K h cl_9 hk_a0 38 (by decide) fl_RX9_60 (hv_r (o := sr_ σ a0 38) rfl hq_b14) dX9_carpets_58 ?_
          refine lv_iload_n C.1 C.2.1 dX9_carpets_61 rfl (lv_at hl 1 rfl) ?_
          obtain ⟨j17, hj_j17, hf⟩ := ob_ hf
          refine x_zald C K h hk_b14 hj_j17 dX9_carpets_62 ?_
          refine lv_if_ne (tgt := 69) C.1 C.2.1 dX9_carpets_63 (by decide) (fun c18 => ?_) (fun c18 => ?_)
          · have hf := if_f hf c18
            refine lv_iconst (v := (0 : Int32)) C.1 C.2.1 dX9_carpets_69 (by decide) ?_
            refine lv_istore (i := 5) (lv' := [(5, .int (0 : Int32)), (0, .ref (ad a0)), (1, .int x1), (2, .int x2), (3, .int x3), (4, .int x4)]) C.1 C.2.1 dX9_carpets_70 hl (by decide) rfl (fun ls hl => ?_)
            refine lv_iconst (v := (0 : Int32)) C.1 C.2.1 dX9_carpets_72 (by decide) ?_
            refine lv_istore (i := 6) (lv' := [(6, .int (0 : Int32)), (5, .int (0 : Int32)), (0, .ref (ad a0)), (1, .int x1), (2, .int x2), (3, .int x3), (4, .int x4)]) C.1 C.2.1 dX9_carpets_73 hl (by decide) rfl (fun ls hl => ?_)
            exact w_X9_carpets_75 fu C K hr hlk hR fu σ a0 x1 x3 x4 (0 : Int32) (0 : Int32) hE hk_a0 hf _ _ _ h (lv_sub hl [2, 3, 5, 6, 1, 0] rfl)
          · have hf := if_t hf c18
            refine lv_bipush (v := (-11 : Int32)) C.1 C.2.1 dX9_carpets_66 (by decide) ?_
            exact x_ri C hr hlk h hE (pf_1 (Option.some.inj hf)) (pf_2 (Option.some.inj hf)) dX9_carpets_68
        · have hf := if_f hf c16
          refine lv_aload_n C.1 C.2.1 dX9_carpets_44 rfl (lv_at hl 0 rfl) ?_
          obtain ⟨b19, hb_b19, hf⟩ := ob_ hf
          obtain ⟨hq_b19, hk_b19⟩ := dr_in hb_b19
          refine x_get (v := .ref (ad b19)) C K h cl_9 hk_a0 39 (by decide) fl_RX9_64 (hv_r (o := sr_ σ a0 39) rfl hq_b19) dX9_carpets_45 ?_
          refine lv_iload_n C.1 C.2.1 dX9_carpets_48 rfl (lv_at hl 1 rfl) ?_
          obtain ⟨j20, hj_j20, hf⟩ := ob_ hf
          refine x_iald C K h hk_b19 hj_j20 dX9_carpets_49 ?_
          refine lv_iload_n C.1 C.2.1 dX9_carpets_50 rfl (lv_at hl 2 rfl) ?_
          refine lv_icmp_eq (tgt := 57) C.1 C.2.1 dX9_carpets_51 (by decide) (fun c21 => ?_) (fun c21 => ?_)
          · have hf := if_t hf c21
            refine lv_aload_n C.1 C.2.1 dX9_carpets_57 rfl (lv_at hl 0 rfl) ?_
            refine x_get (v := .ref (ad b14)) C K h cl_9 hk_a0 38 (by decide) fl_RX9_60 (hv_r (o := sr_ σ a0 38) rfl hq_b14) dX9_carpets_58 ?_
            refine lv_iload_n C.1 C.2.1 dX9_carpets_61 rfl (lv_at hl 1 rfl) ?_
            obtain ⟨j22, hj_j22, hf⟩ := ob_ hf
            refine x_zald C K h hk_b14 hj_j22 dX9_carpets_62 ?_
            refine lv_if_ne (tgt := 69) C.1 C.2.1 dX9_carpets_63 (by decide) (fun c23 => ?_) (fun c23 => ?_)
            · have hf := if_f hf c23
              refine lv_iconst (v := (0 : Int32)) C.1 C.2.1 dX9_carpets_69 (by decide) ?_
              refine lv_istore (i := 5) (lv' := [(5, .int (0 : Int32)), (0, .ref (ad a0)), (1, .int x1), (2, .int x2), (3, .int x3), (4, .int x4)]) C.1 C.2.1 dX9_carpets_70 hl (by decide) rfl (fun ls hl => ?_)
              refine lv_iconst (v := (0 : Int32)) C.1 C.2.1 dX9_carpets_72 (by decide) ?_
              refine lv_istore (i := 6) (lv' := [(6, .int (0 : Int32)), (5, .int (0 : Int32)), (0, .ref (ad a0)), (1, .int x1), (2, .int x2), (3, .int x3), (4, .int x4)]) C.1 C.2.1 dX9_carpets_73 hl (by decide) rfl (fun ls hl => ?_)
              exact w_X9_carpets_75 fu C K hr hlk hR fu σ a0 x1 x3 x4 (0 : Int32) (0 : Int32) hE hk_a0 hf _ _ _ h (lv_sub hl [2, 3, 5, 6, 1, 0] rfl)
            · have hf := if_t hf c23
              refine lv_bipush (v := (-11 : Int32)) C.1 C.2.1 dX9_carpets_66 (by decide) ?_
              exact x_ri C hr hlk h hE (pf_1 (Option.some.inj hf)) (pf_2 (Option.some.inj hf)) dX9_carpets_68
          · have hf := if_f hf c21
            refine lv_bipush (v := (-13 : Int32)) C.1 C.2.1 dX9_carpets_54 (by decide) ?_
            exact x_ri C hr hlk h hE (pf_1 (Option.some.inj hf)) (pf_2 (Option.some.inj hf)) dX9_carpets_56
      · have hf := if_t hf c13
        refine lv_bipush (v := (-2 : Int32)) C.1 C.2.1 dX9_carpets_32 (by decide) ?_
        exact x_ri C hr hlk h hE (pf_1 (Option.some.inj hf)) (pf_2 (Option.some.inj hf)) dX9_carpets_34
theorem c_X9_carpets (fu : Nat) (l : Launch) (κ : Ka_) (G : va_G) (cy : Nat → ClassId) (ad : Nat → Nat) (sz : Nat) (σ : St_) (a0 : Nat) (x1 : Int32) (x2 : Int32) (x3 : Int32) (x4 : Int32) (hk_a0 : kd_ σ a0 = 9) {q : Int32 × St_} (hf : f_X9_carpets fu σ a0 x1 x2 x3 x4 = some q) : Met l yX9_carpets (Cond.code yX9_carpets cX9_carpets 8 (some .int) :: wU_) { frames := 3, cells := 0, slots := 0, locals := 68 } (va_Pc [.ref (ad a0), .int x1, .int x2, .int x3, .int x4] (Pr_ κ G cy ad σ sz)) (Qi_ G cy ad σ q.2 sz q.1) 0 0 (va_A (wl_ cy ad σ) sz) :=
  x_met (by decide) (fun p e R s m below meth c ls hR C hr hlk hin _ K h hl => w_X9_carpets fu C K hr hlk ⟨hR.1, hR.2.1⟩ σ a0 x1 x2 x3 x4 Ex_.rf hk_a0 hf s.heap [] ls h hl) (Nat.le_of_ble_eq_true rfl)
-- X9_over
theorem mi_X9_over : Mi_ yX9_over cX9_over 1 (some .int) 1 := ⟨co_yX9_over, in_RX9, by decide, by decide, by decide +kernel⟩
def f_X9_over (x1 : Int32) : Int32 := if x1 = 0 then (-1 : Int32) else if x1 = (3 : Int32) then (1 : Int32) else if x1 = (4 : Int32) then (2 : Int32) else (0 : Int32)
set_option maxHeartbeats 4000000 in
set_option maxRecDepth 100000 in
theorem w_X9_over {p : Program} {l : Launch} {e : Env} {R : Room} {s : State} {m : MethodId} {args : Array Value} {below : List Frame} {meth : Method} {c : Code} {κ : Ka_} {G : va_G} {cy : Nat → ClassId} {ad : Nat → Nat} {sz : Nat} {σ : St_} (C : CallFix p m c cX9_over 1 s args wU_ RX9) (K : Kx_ κ G cy (va_A (wl_ cy ad σ) sz) s) (hr : meth.sig.returnType = some .int) (hlk : meth.locks = false) (hR : 0 ≤ R.frames ∧ 0 ≤ R.locals) {q : Int32} : ∀ (x1 : Int32), f_X9_over x1 = q → ∀ (H : Heap) (locs : List Loc) (ls : Array Slot), Ht_ G cy (va_A (wl_ cy ad σ) sz) s ad σ H locs → lv_has ls 1 [(0, .int x1)] → W p l e R s m args below meth c H locs 0 0 (MQ below (Qi_ G cy ad σ σ sz q) args s 0 0 (va_A (wl_ cy ad σ) sz)) (F0 m 0 ls []) := by
  intro x1 hf H locs ls h hl
  have hf : (if x1 = 0 then (-1 : Int32) else if x1 = (3 : Int32) then (1 : Int32) else if x1 = (4 : Int32) then (2 : Int32) else (0 : Int32)) = q := hf
  refine lv_iload_n C.1 C.2.1 dX9_over_0 rfl (lv_at hl 0 rfl) ?_
  refine lv_if_ne (tgt := 8) C.1 C.2.1 dX9_over_1 (by decide) (fun c2 => ?_) (fun c2 => ?_)
  · have hf := if_f hf c2
    refine lv_iload_n C.1 C.2.1 dX9_over_8 rfl (lv_at hl 0 rfl) ?_
    refine lv_iconst (v := (3 : Int32)) C.1 C.2.1 dX9_over_9 (by decide) ?_
    refine lv_icmp_ne (tgt := 17) C.1 C.2.1 dX9_over_10 (by decide) (fun c3 => ?_) (fun c3 => ?_)
    · have hf := if_f hf c3
      refine lv_iload_n C.1 C.2.1 dX9_over_17 rfl (lv_at hl 0 rfl) ?_
      refine lv_iconst (v := (4 : Int32)) C.1 C.2.1 dX9_over_18 (by decide) ?_
      refine lv_icmp_ne (tgt := 26) C.1 C.2.1 dX9_over_19 (by decide) (fun c4 => ?_) (fun c4 => ?_)
      · have hf := if_f hf c4
        refine lv_iconst (v := (0 : Int32)) C.1 C.2.1 dX9_over_26 (by decide) ?_
        exact x_ri C hr hlk h Ex_.rf hf rfl dX9_over_27
      · have hf := if_t hf c4
        refine lv_iconst (v := (2 : Int32)) C.1 C.2.1 dX9_over_22 (by decide) ?_
        refine lv_goto (tgt := 27) C.1 C.2.1 dX9_over_23 (by decide) ?_
        exact x_ri C hr hlk h Ex_.rf hf rfl dX9_over_27
    · have hf := if_t hf c3
      refine lv_iconst (v := (1 : Int32)) C.1 C.2.1 dX9_over_13 (by decide) ?_
      refine lv_goto (tgt := 27) C.1 C.2.1 dX9_over_14 (by decide) ?_
      exact x_ri C hr hlk h Ex_.rf hf rfl dX9_over_27
  · have hf := if_t hf c2
    refine lv_iconst (v := (-1 : Int32)) C.1 C.2.1 dX9_over_4 (by decide) ?_
    refine lv_goto (tgt := 27) C.1 C.2.1 dX9_over_5 (by decide) ?_
    exact x_ri C hr hlk h Ex_.rf hf rfl dX9_over_27
theorem c_X9_over (l : Launch) (κ : Ka_) (G : va_G) (cy : Nat → ClassId) (ad : Nat → Nat) (sz : Nat) (σ : St_) (x1 : Int32) {q : Int32} (hf : f_X9_over x1 = q) : Met l yX9_over (Cond.code yX9_over cX9_over 1 (some .int) :: wU_) { frames := 0, cells := 0, slots := 0, locals := 0 } (va_Pc [.int x1] (Pr_ κ G cy ad σ sz)) (Qi_ G cy ad σ σ sz q) 0 0 (va_A (wl_ cy ad σ) sz) :=
  x_met (by decide) (fun p e R s m below meth c ls hR C hr hlk hin _ K h hl => w_X9_over C K hr hlk ⟨hR.1, hR.2.1⟩ x1 hf s.heap [] ls h hl) (Nat.le_of_ble_eq_true rfl)
-- X9_taken
theorem mi_X9_taken : Mi_ yX9_taken cX9_taken 4 (some .int) 2 := ⟨co_yX9_taken, in_RX9, by decide, by decide, by decide +kernel⟩
def f_X9_taken_33 (fu : Nat) (σ : St_) : Nat → Nat → Int32 → Int32 → Int32 → Option Int32
  | 0 => fun _ _ _ _ => none
  | n + 1 => fun v0  v1  v2  v3 => if v3 = (-1 : Int32) then if v3 = v2 then (dr_ σ 10 (sr_ σ v0 10)).bind fun b3 => (ix_ ((3 : Int32) * v1) (ln_ σ b3)).bind fun j4 => some (si_ σ b3 j4) else some (-13 : Int32) else if v3 = v2 then if v3 = v2 then (dr_ σ 10 (sr_ σ v0 10)).bind fun b7 => (ix_ ((3 : Int32) * v1) (ln_ σ b7)).bind fun j8 => some (si_ σ b7 j8) else some (-13 : Int32) else (f_X9_taken_33 fu σ n) v0 v1 v2 (f_X9_over v3)
set_option maxHeartbeats 4000000 in
set_option maxRecDepth 100000 in
theorem w_X9_taken_33 {p : Program} {l : Launch} {e : Env} {R : Room} {s : State} {m : MethodId} {args : Array Value} {below : List Frame} {meth : Method} {c : Code} {κ : Ka_} {G : va_G} {cy : Nat → ClassId} {ad : Nat → Nat} {sz : Nat} {σ : St_} (fu : Nat) (C : CallFix p m c cX9_taken 4 s args wU_ RX9) (K : Kx_ κ G cy (va_A (wl_ cy ad σ) sz) s) (hr : meth.sig.returnType = some .int) (hlk : meth.locks = false) (hR : 2 ≤ R.frames ∧ 46 ≤ R.locals) {q : Int32} : ∀ n : Nat, ∀ (v0 : Nat) (v1 : Int32) (v2 : Int32) (v3 : Int32), kd_ σ v0 = 9 → f_X9_taken_33 fu σ n v0 v1 v2 v3 = some q → ∀ (H : Heap) (locs : List Loc) (ls : Array Slot), Ht_ G cy (va_A (wl_ cy ad σ) sz) s ad σ H locs → lv_has ls 4 [(0, .ref (ad v0)), (1, .int v1), (2, .int v2), (3, .int v3)] → W p l e R s m args below meth c H locs 0 0 (MQ below (Qi_ G cy ad σ σ sz q) args s 0 0 (va_A (wl_ cy ad σ) sz)) (F0 m 33 ls []) := by
  intro n
  induction n with
  | zero =>
    intro v0 v1 v2 v3 hk_v0 hf H locs ls h hl
    cases hf
  | succ n ih =>
    intro v0 v1 v2 v3 hk_v0 hf H locs ls h hl
    have hf : (if v3 = (-1 : Int32) then if v3 = v2 then (dr_ σ 10 (sr_ σ v0 10)).bind fun b3 => (ix_ ((3 : Int32) * v1) (ln_ σ b3)).bind fun j4 => some (si_ σ b3 j4) else some (-13 : Int32) else if v3 = v2 then if v3 = v2 then (dr_ σ 10 (sr_ σ v0 10)).bind fun b7 => (ix_ ((3 : Int32) * v1) (ln_ σ b7)).bind fun j8 => some (si_ σ b7 j8) else some (-13 : Int32) else (f_X9_taken_33 fu σ n) v0 v1 v2 (f_X9_over v3)) = some q := hf
    refine lv_iload_n C.1 C.2.1 dX9_taken_33 rfl (lv_at hl 3 rfl) ?_
    refine lv_iconst (v := (-1 : Int32)) C.1 C.2.1 dX9_taken_34 (by decide) ?_
    refine lv_icmp_eq (tgt := 51) C.1 C.2.1 dX9_taken_35 (by decide) (fun c1 => ?_) (fun c1 => ?_)
    · have hf := if_t hf c1
      refine lv_iload_n C.1 C.2.1 dX9_taken_51 rfl (lv_at hl 3 rfl) ?_
      refine lv_iload_n C.1 C.2.1 dX9_taken_52 rfl (lv_at hl 2 rfl) ?_
      refine lv_icmp_ne (tgt := 67) C.1 C.2.1 dX9_taken_53 (by decide) (fun c2 => ?_) (fun c2 => ?_)
      · have hf := if_f hf c2
        refine lv_bipush (v := (-13 : Int32)) C.1 C.2.1 dX9_taken_67 (by decide) ?_
        exact x_ri C hr hlk h Ex_.rf (Option.some.inj hf) rfl dX9_taken_69
      · have hf := if_t hf c2
        refine lv_aload_n C.1 C.2.1 dX9_taken_56 rfl (lv_at hl 0 rfl) ?_
        obtain ⟨b3, hb_b3, hf⟩ := ob_ hf
        obtain ⟨hq_b3, hk_b3⟩ := dr_in hb_b3
        refine x_get (v := .ref (ad b3)) C K h cl_9 hk_v0 10 (by decide) fl_RX9_29 (hv_r (o := sr_ σ v0 10) rfl hq_b3) dX9_taken_57 ?_
        refine lv_iconst (v := (3 : Int32)) C.1 C.2.1 dX9_taken_60 (by decide) ?_
        refine lv_iload_n C.1 C.2.1 dX9_taken_61 rfl (lv_at hl 1 rfl) ?_
        refine lv_imul C.1 C.2.1 dX9_taken_62 ?_
        obtain ⟨j4, hj_j4, hf⟩ := ob_ hf
        refine x_iald C K h hk_b3 hj_j4 dX9_taken_63 ?_
        refine lv_goto (tgt := 69) C.1 C.2.1 dX9_taken_64 (by decide) ?_
        exact x_ri C hr hlk h Ex_.rf (Option.some.inj hf) rfl dX9_taken_69
    · have hf := if_f hf c1
      refine lv_iload_n C.1 C.2.1 dX9_taken_38 rfl (lv_at hl 3 rfl) ?_
      refine lv_iload_n C.1 C.2.1 dX9_taken_39 rfl (lv_at hl 2 rfl) ?_
      refine lv_icmp_eq (tgt := 51) C.1 C.2.1 dX9_taken_40 (by decide) (fun c5 => ?_) (fun c5 => ?_)
      · have hf := if_t hf c5
        refine lv_iload_n C.1 C.2.1 dX9_taken_51 rfl (lv_at hl 3 rfl) ?_
        refine lv_iload_n C.1 C.2.1 dX9_taken_52 rfl (lv_at hl 2 rfl) ?_
        refine lv_icmp_ne (tgt := 67) C.1 C.2.1 dX9_taken_53 (by decide) (fun c6 => ?_) (fun c6 => ?_)
        · have hf := if_f hf c6
          refine lv_bipush (v := (-13 : Int32)) C.1 C.2.1 dX9_taken_67 (by decide) ?_
          exact x_ri C hr hlk h Ex_.rf (Option.some.inj hf) rfl dX9_taken_69
        · have hf := if_t hf c6
          refine lv_aload_n C.1 C.2.1 dX9_taken_56 rfl (lv_at hl 0 rfl) ?_
          obtain ⟨b7, hb_b7, hf⟩ := ob_ hf
          obtain ⟨hq_b7, hk_b7⟩ := dr_in hb_b7
          refine x_get (v := .ref (ad b7)) C K h cl_9 hk_v0 10 (by decide) fl_RX9_29 (hv_r (o := sr_ σ v0 10) rfl hq_b7) dX9_taken_57 ?_
          refine lv_iconst (v := (3 : Int32)) C.1 C.2.1 dX9_taken_60 (by decide) ?_
          refine lv_iload_n C.1 C.2.1 dX9_taken_61 rfl (lv_at hl 1 rfl) ?_
          refine lv_imul C.1 C.2.1 dX9_taken_62 ?_
          obtain ⟨j8, hj_j8, hf⟩ := ob_ hf
          refine x_iald C K h hk_b7 hj_j8 dX9_taken_63 ?_
          refine lv_goto (tgt := 69) C.1 C.2.1 dX9_taken_64 (by decide) ?_
          exact x_ri C hr hlk h Ex_.rf (Option.some.inj hf) rfl dX9_taken_69
      · have hf := if_f hf c5
        refine lv_iload_n C.1 C.2.1 dX9_taken_43 rfl (lv_at hl 3 rfl) ?_
        refine x_ai K h (x_S C K h [.int v3] (c_X9_over l κ G cy ad H.size σ v3 rfl) mi_X9_over rfl st_yX9_over ml_RX9_433 ⟨rfl, rfl, Nat.le_trans (Nat.le_of_ble_eq_true rfl) hR.1, Nat.le_trans (Nat.le_of_ble_eq_true rfl) hR.2⟩ hl (Nat.le_of_ble_eq_true rfl) dX9_taken_44 ⟨Nat.zero_le _, Nat.zero_le _⟩ rfl) (fun H locs h hX => ?_)
        refine lv_istore_n (i := 3) (lv' := [(3, .int (f_X9_over v3)), (0, .ref (ad v0)), (1, .int v1), (2, .int v2)]) C.1 C.2.1 dX9_taken_47 rfl hl (by decide) rfl (fun ls hl => ?_)
        refine lv_goto (tgt := 33) C.1 C.2.1 dX9_taken_48 (by decide) ?_
        exact ih v0 v1 v2 (f_X9_over v3) hk_v0 hf _ _ _ h (lv_sub hl [1, 2, 3, 0] rfl)
def f_X9_taken (fu : Nat) (σ : St_) (a0 : Nat) (x1 : Int32) (x2 : Int32) : Option Int32 := if (f_X9_in x2.toInt64 (0 : Int64) (5 : Int64)) = 0 then some (-2 : Int32) else if (f_X9_isOne σ a0 x1) = 0 then some (-11 : Int32) else (dr_ σ 10 (sr_ σ a0 9)).bind fun b9 => (ix_ x1 (ln_ σ b9)).bind fun j10 => f_X9_taken_33 fu σ fu a0 x1 x2 (si_ σ b9 j10)
set_option maxHeartbeats 4000000 in
set_option maxRecDepth 100000 in
theorem w_X9_taken {p : Program} {l : Launch} {e : Env} {R : Room} {s : State} {m : MethodId} {args : Array Value} {below : List Frame} {meth : Method} {c : Code} {κ : Ka_} {G : va_G} {cy : Nat → ClassId} {ad : Nat → Nat} {sz : Nat} {σ : St_} (fu : Nat) (C : CallFix p m c cX9_taken 4 s args wU_ RX9) (K : Kx_ κ G cy (va_A (wl_ cy ad σ) sz) s) (hr : meth.sig.returnType = some .int) (hlk : meth.locks = false) (hR : 2 ≤ R.frames ∧ 46 ≤ R.locals) {q : Int32} : ∀ (a0 : Nat) (x1 : Int32) (x2 : Int32), kd_ σ a0 = 9 → f_X9_taken fu σ a0 x1 x2 = some q → ∀ (H : Heap) (locs : List Loc) (ls : Array Slot), Ht_ G cy (va_A (wl_ cy ad σ) sz) s ad σ H locs → lv_has ls 4 [(0, .ref (ad a0)), (1, .int x1), (2, .int x2)] → W p l e R s m args below meth c H locs 0 0 (MQ below (Qi_ G cy ad σ σ sz q) args s 0 0 (va_A (wl_ cy ad σ) sz)) (F0 m 0 ls []) := by
  intro a0 x1 x2 hk_a0 hf H locs ls h hl
  have hf : (if (f_X9_in x2.toInt64 (0 : Int64) (5 : Int64)) = 0 then some (-2 : Int32) else if (f_X9_isOne σ a0 x1) = 0 then some (-11 : Int32) else (dr_ σ 10 (sr_ σ a0 9)).bind fun b9 => (ix_ x1 (ln_ σ b9)).bind fun j10 => f_X9_taken_33 fu σ fu a0 x1 x2 (si_ σ b9 j10)) = some q := hf
  refine lv_iload_n C.1 C.2.1 dX9_taken_0 rfl (lv_at hl 2 rfl) ?_
  refine lv_i2l C.1 C.2.1 dX9_taken_1 rfl ?_
  refine lv_lconst (v := (0 : Int64)) C.1 C.2.1 dX9_taken_2 (by decide) ?_
  refine lv_ldc2 (v := (5 : Int64)) C.1 C.2.1 C.2.2.2.1 (C.2.2.2.2 _ cl_RX9_122) dX9_taken_3 ?_
  refine x_az K h (x_S C K h [.long x2.toInt64, .long (0 : Int64), .long (5 : Int64)] (c_X9_in l κ G cy ad H.size σ x2.toInt64 (0 : Int64) (5 : Int64) rfl) mi_X9_in rfl st_yX9_in ml_RX9_83 ⟨rfl, rfl, Nat.le_trans (Nat.le_of_ble_eq_true rfl) hR.1, Nat.le_trans (Nat.le_of_ble_eq_true rfl) hR.2⟩ hl (Nat.le_of_ble_eq_true rfl) dX9_taken_6 ⟨Nat.zero_le _, Nat.zero_le _⟩ rfl) (fun H locs h hX hz4 => ?_)
  refine lv_if_ne (tgt := 15) C.1 C.2.1 dX9_taken_9 (by decide) (fun c5 => ?_) (fun c5 => ?_)
  · have hf := if_f hf c5
    refine lv_aload_n C.1 C.2.1 dX9_taken_15 rfl (lv_at hl 0 rfl) ?_
    refine lv_iload_n C.1 C.2.1 dX9_taken_16 rfl (lv_at hl 1 rfl) ?_
    refine x_az K h (x_V C K h [.int x1] (c_X9_isOne l κ G cy ad H.size σ a0 x1 hk_a0 rfl) mi_X9_isOne rfl im_yX9_isOne se_yX9_isOne ml_RX9_95 cl_9 hk_a0 ⟨rfl, rfl, Nat.le_trans (Nat.le_of_ble_eq_true rfl) hR.1, Nat.le_trans (Nat.le_of_ble_eq_true rfl) hR.2⟩ hl (Nat.le_of_ble_eq_true rfl) dX9_taken_17 ⟨Nat.zero_le _, Nat.zero_le _⟩ rfl) (fun H locs h hX hz7 => ?_)
    refine lv_if_ne (tgt := 26) C.1 C.2.1 dX9_taken_20 (by decide) (fun c8 => ?_) (fun c8 => ?_)
    · have hf := if_f hf c8
      refine lv_aload_n C.1 C.2.1 dX9_taken_26 rfl (lv_at hl 0 rfl) ?_
      obtain ⟨b9, hb_b9, hf⟩ := ob_ hf
      obtain ⟨hq_b9, hk_b9⟩ := dr_in hb_b9
      refine x_get (v := .ref (ad b9)) C K h cl_9 hk_a0 9 (by decide) fl_RX9_26 (hv_r (o := sr_ σ a0 9) rfl hq_b9) dX9_taken_27 ?_
      refine lv_iload_n C.1 C.2.1 dX9_taken_30 rfl (lv_at hl 1 rfl) ?_
      obtain ⟨j10, hj_j10, hf⟩ := ob_ hf
      refine x_iald C K h hk_b9 hj_j10 dX9_taken_31 ?_
      refine lv_istore_n (i := 3) (lv' := [(3, .int (si_ σ b9 j10)), (0, .ref (ad a0)), (1, .int x1), (2, .int x2)]) C.1 C.2.1 dX9_taken_32 rfl hl (by decide) rfl (fun ls hl => ?_)
      exact w_X9_taken_33 fu C K hr hlk hR fu a0 x1 x2 (si_ σ b9 j10) hk_a0 hf _ _ _ h (lv_sub hl [1, 2, 3, 0] rfl)
    · have hf := if_t hf c8
      refine lv_bipush (v := (-11 : Int32)) C.1 C.2.1 dX9_taken_23 (by decide) ?_
      exact x_ri C hr hlk h Ex_.rf (Option.some.inj hf) rfl dX9_taken_25
  · have hf := if_t hf c5
    refine lv_bipush (v := (-2 : Int32)) C.1 C.2.1 dX9_taken_12 (by decide) ?_
    exact x_ri C hr hlk h Ex_.rf (Option.some.inj hf) rfl dX9_taken_14
theorem c_X9_taken (fu : Nat) (l : Launch) (κ : Ka_) (G : va_G) (cy : Nat → ClassId) (ad : Nat → Nat) (sz : Nat) (σ : St_) (a0 : Nat) (x1 : Int32) (x2 : Int32) (hk_a0 : kd_ σ a0 = 9) {q : Int32} (hf : f_X9_taken fu σ a0 x1 x2 = some q) : Met l yX9_taken (Cond.code yX9_taken cX9_taken 4 (some .int) :: wU_) { frames := 2, cells := 0, slots := 0, locals := 46 } (va_Pc [.ref (ad a0), .int x1, .int x2] (Pr_ κ G cy ad σ sz)) (Qi_ G cy ad σ σ sz q) 0 0 (va_A (wl_ cy ad σ) sz) :=
  x_met (by decide) (fun p e R s m below meth c ls hR C hr hlk hin _ K h hl => w_X9_taken fu C K hr hlk ⟨hR.1, hR.2.1⟩ a0 x1 x2 hk_a0 hf s.heap [] ls h hl) (Nat.le_of_ble_eq_true rfl)
