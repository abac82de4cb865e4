-- X9_in
theorem mi_X9_in : Mi_ yX9_in cX9_in 6 (some .boolean) 3 := ⟨co_yX9_in, in_RX9, by decide, by decide, by decide +kernel⟩
def f_X9_in (x1 : Int64) (x2 : Int64) (x3 : Int64) : Int32 := if (lg_cmp x1 x2) < 0 then (0 : Int32) else if 0 < (lg_cmp x1 x3) then (0 : Int32) else (1 : Int32)
set_option maxHeartbeats 4000000 in
set_option maxRecDepth 100000 in
theorem w_X9_in {p : Program} {l : Launch} {e : Env} {R : Room} {s : State} {m : MethodId} {args : Array Value} {below : List Frame} {meth : Method} {c : Code} {κ : Ka_} {G : va_G} {cy : Nat → ClassId} {ad : Nat → Nat} {sz : Nat} {σ : St_} (C : CallFix p m c cX9_in 6 s args wU_ RX9) (K : Kx_ κ G cy (va_A (wl_ cy ad σ) sz) s) (hr : meth.sig.returnType = some .boolean) (hlk : meth.locks = false) (hR : 0 ≤ R.frames ∧ 0 ≤ R.locals) {q : Int32} : ∀ (x1 : Int64) (x2 : Int64) (x3 : Int64), f_X9_in x1 x2 x3 = q → ∀ (H : Heap) (locs : List Loc) (ls : Array Slot), Ht_ G cy (va_A (wl_ cy ad σ) sz) s ad σ H locs → lv_has ls 6 [(0, .long x1), (2, .long x2), (4, .long x3)] → W p l e R s m args below meth c H locs 0 0 (MQ below (Qz_ G cy ad σ σ sz q) args s 0 0 (va_A (wl_ cy ad σ) sz)) (F0 m 0 ls []) := by
  intro x1 x2 x3 hf H locs ls h hl
  have hf : (if (lg_cmp x1 x2) < 0 then (0 : Int32) else if 0 < (lg_cmp x1 x3) then (0 : Int32) else (1 : Int32)) = q := hf
  refine lv_lload_n C.1 C.2.1 dX9_in_0 rfl (lv_at hl 0 rfl) ?_
  refine lv_lload_n C.1 C.2.1 dX9_in_1 rfl (lv_at hl 1 rfl) ?_
  refine W.lcmp C.1 C.2.1 dX9_in_2 ?_
  refine lv_if_lt (tgt := 17) C.1 C.2.1 dX9_in_3 (by decide) (fun c4 => ?_) (fun c4 => ?_)
  · have hf := if_t hf c4
    refine lv_iconst (v := (0 : Int32)) C.1 C.2.1 dX9_in_17 (by decide) ?_
    exact x_rzz C hr hlk h Ex_.rf (by decide) hf rfl dX9_in_18
  · have hf := if_f hf c4
    refine lv_lload_n C.1 C.2.1 dX9_in_6 rfl (lv_at hl 0 rfl) ?_
    refine lv_lload C.1 C.2.1 dX9_in_7 (lv_at hl 2 rfl) ?_
    refine W.lcmp C.1 C.2.1 dX9_in_9 ?_
    refine lv_if_gt (tgt := 17) C.1 C.2.1 dX9_in_10 (by decide) (fun c5 => ?_) (fun c5 => ?_)
    · have hf := if_t hf c5
      refine lv_iconst (v := (0 : Int32)) C.1 C.2.1 dX9_in_17 (by decide) ?_
      exact x_rzz C hr hlk h Ex_.rf (by decide) hf rfl dX9_in_18
    · have hf := if_f hf c5
      refine lv_iconst (v := (1 : Int32)) C.1 C.2.1 dX9_in_13 (by decide) ?_
      refine lv_goto (tgt := 18) C.1 C.2.1 dX9_in_14 (by decide) ?_
      exact x_rzz C hr hlk h Ex_.rf (by decide) hf rfl dX9_in_18
theorem c_X9_in (l : Launch) (κ : Ka_) (G : va_G) (cy : Nat → ClassId) (ad : Nat → Nat) (sz : Nat) (σ : St_) (x1 : Int64) (x2 : Int64) (x3 : Int64) {q : Int32} (hf : f_X9_in x1 x2 x3 = q) : Met l yX9_in (Cond.code yX9_in cX9_in 6 (some .boolean) :: wU_) { frames := 0, cells := 0, slots := 0, locals := 0 } (va_Pc [.long x1, .long x2, .long x3] (Pr_ κ G cy ad σ sz)) (Qz_ G cy ad σ σ sz q) 0 0 (va_A (wl_ cy ad σ) sz) :=
  x_met (by decide) (fun p e R s m below meth c ls hR C hr hlk hin _ K h hl => w_X9_in C K hr hlk ⟨hR.1, hR.2.1⟩ x1 x2 x3 hf s.heap [] ls h hl) (Nat.le_of_ble_eq_true rfl)
-- X9_within
theorem mi_X9_within : Mi_ yX9_within cX9_within 3 (some .int) 3 := ⟨co_yX9_within, in_RX9, by decide, by decide, by decide +kernel⟩
def f_X9_within (x1 : Int32) (x2 : Int32) (x3 : Int32) : Int32 := if x2 ≤ x1 then if x1 ≤ x3 then x1 else x3 else x2
set_option maxHeartbeats 4000000 in
set_option maxRecDepth 100000 in
theorem w_X9_within {p : Program} {l : Launch} {e : Env} {R : Room} {s : State} {m : MethodId} {args : Array Value} {below : List Frame} {meth : Method} {c : Code} {κ : Ka_} {G : va_G} {cy : Nat → ClassId} {ad : Nat → Nat} {sz : Nat} {σ : St_} (C : CallFix p m c cX9_within 3 s args wU_ RX9) (K : Kx_ κ G cy (va_A (wl_ cy ad σ) sz) s) (hr : meth.sig.returnType = some .int) (hlk : meth.locks = false) (hR : 0 ≤ R.frames ∧ 0 ≤ R.locals) {q : Int32} : ∀ (x1 : Int32) (x2 : Int32) (x3 : Int32), f_X9_within x1 x2 x3 = q → ∀ (H : Heap) (locs : List Loc) (ls : Array Slot), Ht_ G cy (va_A (wl_ cy ad σ) sz) s ad σ H locs → lv_has ls 3 [(0, .int x1), (1, .int x2), (2, .int x3)] → W p l e R s m args below meth c H locs 0 0 (MQ below (Qi_ G cy ad σ σ sz q) args s 0 0 (va_A (wl_ cy ad σ) sz)) (F0 m 0 ls []) := by
  intro x1 x2 x3 hf H locs ls h hl
  have hf : (if x2 ≤ x1 then if x1 ≤ x3 then x1 else x3 else x2) = q := hf
  refine lv_iload_n C.1 C.2.1 dX9_within_0 rfl (lv_at hl 0 rfl) ?_
  refine lv_iload_n C.1 C.2.1 dX9_within_1 rfl (lv_at hl 1 rfl) ?_
  refine lv_icmp_ge (tgt := 9) C.1 C.2.1 dX9_within_2 (by decide) (fun c4 => ?_) (fun c4 => ?_)
  · have hf := if_t hf c4
    refine lv_iload_n C.1 C.2.1 dX9_within_9 rfl (lv_at hl 0 rfl) ?_
    refine lv_iload_n C.1 C.2.1 dX9_within_10 rfl (lv_at hl 2 rfl) ?_
    refine lv_icmp_le (tgt := 18) C.1 C.2.1 dX9_within_11 (by decide) (fun c5 => ?_) (fun c5 => ?_)
    · have hf := if_t hf c5
      refine lv_iload_n C.1 C.2.1 dX9_within_18 rfl (lv_at hl 0 rfl) ?_
      exact x_ri C hr hlk h Ex_.rf hf rfl dX9_within_19
    · have hf := if_f hf c5
      refine lv_iload_n C.1 C.2.1 dX9_within_14 rfl (lv_at hl 2 rfl) ?_
      refine lv_goto (tgt := 19) C.1 C.2.1 dX9_within_15 (by decide) ?_
      exact x_ri C hr hlk h Ex_.rf hf rfl dX9_within_19
  · have hf := if_f hf c4
    refine lv_iload_n C.1 C.2.1 dX9_within_5 rfl (lv_at hl 1 rfl) ?_
    refine lv_goto (tgt := 19) C.1 C.2.1 dX9_within_6 (by decide) ?_
    exact x_ri C hr hlk h Ex_.rf hf rfl dX9_within_19
theorem c_X9_within (l : Launch) (κ : Ka_) (G : va_G) (cy : Nat → ClassId) (ad : Nat → Nat) (sz : Nat) (σ : St_) (x1 : Int32) (x2 : Int32) (x3 : Int32) {q : Int32} (hf : f_X9_within x1 x2 x3 = q) : Met l yX9_within (Cond.code yX9_within cX9_within 3 (some .int) :: wU_) { frames := 0, cells := 0, slots := 0, locals := 0 } (va_Pc [.int x1, .int x2, .int x3] (Pr_ κ G cy ad σ sz)) (Qi_ G cy ad σ σ sz q) 0 0 (va_A (wl_ cy ad σ) sz) :=
  x_met (by decide) (fun p e R s m below meth c ls hR C hr hlk hin _ K h hl => w_X9_within C K hr hlk ⟨hR.1, hR.2.1⟩ x1 x2 x3 hf s.heap [] ls h hl) (Nat.le_of_ble_eq_true rfl)
-- X9_spell
theorem mi_X9_spell : Mi_ yX9_spell cX9_spell 10 none 9 := ⟨co_yX9_spell, in_RX9, by decide, by decide, by decide +kernel⟩
def f_X9_spell (σ : St_) (a0 : Nat) (x1 : Int32) (x2 : Int32) (x3 : Int32) (x4 : Int32) (x5 : Int32) (x6 : Int32) (x7 : Int32) (x8 : Int32) (x9 : Int32) : Option St_ := (dr_ σ 10 (sr_ σ a0 1)).bind fun b10 => (ix_ x1 (ln_ σ b10)).bind fun j11 => (ix_ (x1 + (1 : Int32)) (ln_ (ui_ σ b10 j11 x2) b10)).bind fun j12 => (ix_ (x1 + (2 : Int32)) (ln_ (ui_ (ui_ σ b10 j11 x2) b10 j12 x3) b10)).bind fun j13 => (ix_ (x1 + (3 : Int32)) (ln_ (ui_ (ui_ (ui_ σ b10 j11 x2) b10 j12 x3) b10 j13 x4) b10)).bind fun j14 => (ix_ (x1 + (4 : Int32)) (ln_ (ui_ (ui_ (ui_ (ui_ σ b10 j11 x2) b10 j12 x3) b10 j13 x4) b10 j14 x5) b10)).bind fun j15 => (ix_ (x1 + (5 : Int32)) (ln_ (ui_ (ui_ (ui_ (ui_ (ui_ σ b10 j11 x2) b10 j12 x3) b10 j13 x4) b10 j14 x5) b10 j15 x6) b10)).bind fun j16 => (ix_ (x1 + (6 : Int32)) (ln_ (ui_ (ui_ (ui_ (ui_ (ui_ (ui_ σ b10 j11 x2) b10 j12 x3) b10 j13 x4) b10 j14 x5) b10 j15 x6) b10 j16 x7) b10)).bind fun j17 => (ix_ (x1 + (7 : Int32)) (ln_ (ui_ (ui_ (ui_ (ui_ (ui_ (ui_ (ui_ σ b10 j11 x2) b10 j12 x3) b10 j13 x4) b10 j14 x5) b10 j15 x6) b10 j16 x7) b10 j17 x8) b10)).bind fun j18 => some (ui_ (ui_ (ui_ (ui_ (ui_ (ui_ (ui_ (ui_ σ b10 j11 x2) b10 j12 x3) b10 j13 x4) b10 j14 x5) b10 j15 x6) b10 j16 x7) b10 j17 x8) b10 j18 x9)
set_option maxHeartbeats 4000000 in
set_option maxRecDepth 100000 in
theorem w_X9_spell {p : Program} {l : Launch} {e : Env} {R : Room} {s : State} {m : MethodId} {args : Array Value} {below : List Frame} {meth : Method} {c : Code} {κ : Ka_} {G : va_G} {cy : Nat → ClassId} {ad : Nat → Nat} {sz : Nat} {σ0 : St_} (C : CallFix p m c cX9_spell 10 s args wU_ RX9) (K : Kx_ κ G cy (va_A (wl_ cy ad σ0) sz) s) (hr : meth.sig.returnType = none) (hlk : meth.locks = false) (hR : 0 ≤ R.frames ∧ 0 ≤ R.locals) {q : St_} : ∀ (σ : St_) (a0 : Nat) (x1 : Int32) (x2 : Int32) (x3 : Int32) (x4 : Int32) (x5 : Int32) (x6 : Int32) (x7 : Int32) (x8 : Int32) (x9 : Int32), Ex_ σ0 σ → kd_ σ a0 = 9 → f_X9_spell σ a0 x1 x2 x3 x4 x5 x6 x7 x8 x9 = some q → ∀ (H : Heap) (locs : List Loc) (ls : Array Slot), Ht_ G cy (va_A (wl_ cy ad σ0) sz) s ad σ H locs → lv_has ls 10 [(0, .ref (ad a0)), (1, .int x1), (2, .int x2), (3, .int x3), (4, .int x4), (5, .int x5), (6, .int x6), (7, .int x7), (8, .int x8), (9, .int x9)] → W p l e R s m args below meth c H locs 0 0 (MQ below (Qv_ G cy ad σ0 q sz) args s 0 0 (va_A (wl_ cy ad σ0) sz)) (F0 m 0 ls []) := by
  intro σ a0 x1 x2 x3 x4 x5 x6 x7 x8 x9 hE hk_a0 hf H locs ls h hl
  have hf : ((dr_ σ 10 (sr_ σ a0 1)).bind fun b10 => (ix_ x1 (ln_ σ b10)).bind fun j11 => (ix_ (x1 + (1 : Int32)) (ln_ (ui_ σ b10 j11 x2) b10)).bind fun j12 => (ix_ (x1 + (2 : Int32)) (ln_ (ui_ (ui_ σ b10 j11 x2) b10 j12 x3) b10)).bind fun j13 => (ix_ (x1 + (3 : Int32)) (ln_ (ui_ (ui_ (ui_ σ b10 j11 x2) b10 j12 x3) b10 j13 x4) b10)).bind fun j14 => (ix_ (x1 + (4 : Int32)) (ln_ (ui_ (ui_ (ui_ (ui_ σ b10 j11 x2) b10 j12 x3) b10 j13 x4) b10 j14 x5) b10)).bind fun j15 => (ix_ (x1 + (5 : Int32)) (ln_ (ui_ (ui_ (ui_ (ui_ (ui_ σ b10 j11 x2) b10 j12 x3) b10 j13 x4) b10 j14 x5) b10 j15 x6) b10)).bind fun j16 => (ix_ (x1 + (6 : Int32)) (ln_ (ui_ (ui_ (ui_ (ui_ (ui_ (ui_ σ b10 j11 x2) b10 j12 x3) b10 j13 x4) b10 j14 x5) b10 j15 x6) b10 j16 x7) b10)).bind fun j17 => (ix_ (x1 + (7 : Int32)) (ln_ (ui_ (ui_ (ui_ (ui_ (ui_ (ui_ (ui_ σ b10 j11 x2) b10 j12 x3) b10 j13 x4) b10 j14 x5) b10 j15 x6) b10 j16 x7) b10 j17 x8) b10)).bind fun j18 => some (ui_ (ui_ (ui_ (ui_ (ui_ (ui_ (ui_ (ui_ σ b10 j11 x2) b10 j12 x3) b10 j13 x4) b10 j14 x5) b10 j15 x6) b10 j16 x7) b10 j17 x8) b10 j18 x9)) = some q := hf
  refine lv_aload_n C.1 C.2.1 dX9_spell_0 rfl (lv_at hl 0 rfl) ?_
  obtain ⟨b10, hb_b10, hf⟩ := ob_ hf
  obtain ⟨hq_b10, hk_b10⟩ := dr_in hb_b10
  refine x_get (v := .ref (ad b10)) C K h cl_9 hk_a0 1 (by decide) fl_RX9_13 (hv_r (o := sr_ σ a0 1) rfl hq_b10) dX9_spell_1 ?_
  refine lv_iload_n C.1 C.2.1 dX9_spell_4 rfl (lv_at hl 1 rfl) ?_
  refine lv_iload_n C.1 C.2.1 dX9_spell_5 rfl (lv_at hl 2 rfl) ?_
  obtain ⟨j11, hj_j11, hf⟩ := ob_ hf
  refine x_iast C K h hk_b10 hj_j11 dX9_spell_6 (fun H locs h => ?_)
  have hE := hE.up (up_i σ b10 j11 x2)
  refine lv_aload_n C.1 C.2.1 dX9_spell_7 rfl (lv_at hl 0 rfl) ?_
  refine x_get (v := .ref (ad b10)) C K h cl_9 hk_a0 1 (by decide) fl_RX9_13 (hv_r (o := sr_ (ui_ σ b10 j11 x2) a0 1) rfl hq_b10) dX9_spell_8 ?_
  refine lv_iload_n C.1 C.2.1 dX9_spell_11 rfl (lv_at hl 1 rfl) ?_
  refine lv_iconst (v := (1 : Int32)) C.1 C.2.1 dX9_spell_12 (by decide) ?_
  refine lv_iadd C.1 C.2.1 dX9_spell_13 ?_
  refine lv_iload_n C.1 C.2.1 dX9_spell_14 rfl (lv_at hl 3 rfl) ?_
  obtain ⟨j12, hj_j12, hf⟩ := ob_ hf
  refine x_iast C K h hk_b10 hj_j12 dX9_spell_15 (fun H locs h => ?_)
  have hE := hE.up (up_i (ui_ σ b10 j11 x2) b10 j12 x3)
  refine lv_aload_n C.1 C.2.1 dX9_spell_16 rfl (lv_at hl 0 rfl) ?_
  refine x_get (v := .ref (ad b10)) C K h cl_9 hk_a0 1 (by decide) fl_RX9_13 (hv_r (o := sr_ (ui_ (ui_ σ b10 j11 x2) b10 j12 x3) a0 1) rfl hq_b10) dX9_spell_17 ?_
  refine lv_iload_n C.1 C.2.1 dX9_spell_20 rfl (lv_at hl 1 rfl) ?_
  refine lv_iconst (v := (2 : Int32)) C.1 C.2.1 dX9_spell_21 (by decide) ?_
  refine lv_iadd C.1 C.2.1 dX9_spell_22 ?_
  refine lv_iload C.1 C.2.1 dX9_spell_23 (lv_at hl 4 rfl) ?_
  obtain ⟨j13, hj_j13, hf⟩ := ob_ hf
  refine x_iast C K h hk_b10 hj_j13 dX9_spell_25 (fun H locs h => ?_)
  have hE := hE.up (up_i (ui_ (ui_ σ b10 j11 x2) b10 j12 x3) b10 j13 x4)
  refine lv_aload_n C.1 C.2.1 dX9_spell_26 rfl (lv_at hl 0 rfl) ?_
  refine x_get (v := .ref (ad b10)) C K h cl_9 hk_a0 1 (by decide) fl_RX9_13 (hv_r (o := sr_ (ui_ (ui_ (ui_ σ b10 j11 x2) b10 j12 x3) b10 j13 x4) a0 1) rfl hq_b10) dX9_spell_27 ?_
  refine lv_iload_n C.1 C.2.1 dX9_spell_30 rfl (lv_at hl 1 rfl) ?_
  refine lv_iconst (v := (3 : Int32)) C.1 C.2.1 dX9_spell_31 (by decide) ?_
  refine lv_iadd C.1 C.2.1 dX9_spell_32 ?_
  refine lv_iload C.1 C.2.1 dX9_spell_33 (lv_at hl 5 rfl) ?_
  obtain ⟨j14, hj_j14, hf⟩ := ob_ hf
  refine x_iast C K h hk_b10 hj_j14 dX9_spell_35 (fun H locs h => ?_)
  have hE := hE.up (up_i (ui_ (ui_ (ui_ σ b10 j11 x2) b10 j12 x3) b10 j13 x4) b10 j14 x5)
  refine lv_aload_n C.1 C.2.1 dX9_spell_36 rfl (lv_at hl 0 rfl) ?_
  refine x_get (v := .ref (ad b10)) C K h cl_9 hk_a0 1 (by decide) fl_RX9_13 (hv_r (o := sr_ (ui_ (ui_ (ui_ (ui_ σ b10 j11 x2) b10 j12 x3) b10 j13 x4) b10 j14 x5) a0 1) rfl hq_b10) dX9_spell_37 ?_
  refine lv_iload_n C.1 C.2.1 dX9_spell_40 rfl (lv_at hl 1 rfl) ?_
  refine lv_iconst (v := (4 : Int32)) C.1 C.2.1 dX9_spell_41 (by decide) ?_
  refine lv_iadd C.1 C.2.1 dX9_spell_42 ?_
  refine lv_iload C.1 C.2.1 dX9_spell_43 (lv_at hl 6 rfl) ?_
  obtain ⟨j15, hj_j15, hf⟩ := ob_ hf
  refine x_iast C K h hk_b10 hj_j15 dX9_spell_45 (fun H locs h => ?_)
  have hE := hE.up (up_i (ui_ (ui_ (ui_ (ui_ σ b10 j11 x2) b10 j12 x3) b10 j13 x4) b10 j14 x5) b10 j15 x6)
  refine lv_aload_n C.1 C.2.1 dX9_spell_46 rfl (lv_at hl 0 rfl) ?_
  refine x_get (v := .ref (ad b10)) C K h cl_9 hk_a0 1 (by decide) fl_RX9_13 (hv_r (o := sr_ (ui_ (ui_ (ui_ (ui_ (ui_ σ b10 j11 x2) b10 j12 x3) b10 j13 x4) b10 j14 x5) b10 j15 x6) a0 1) rfl hq_b10) dX9_spell_47 ?_
  refine lv_iload_n C.1 C.2.1 dX9_spell_50 rfl (lv_at hl 1 rfl) ?_
  refine lv_iconst (v := (5 : Int32)) C.1 C.2.1 dX9_spell_51 (by decide) ?_
  refine lv_iadd C.1 C.2.1 dX9_spell_52 ?_
  refine lv_iload C.1 C.2.1 dX9_spell_53 (lv_at hl 7 rfl) ?_
  obtain ⟨j16, hj_j16, hf⟩ := ob_ hf
  refine x_iast C K h hk_b10 hj_j16 dX9_spell_55 (fun H locs h => ?_)
  have hE := hE.up (up_i (ui_ (ui_ (ui_ (ui_ (ui_ σ b10 j11 x2) b10 j12 x3) b10 j13 x4) b10 j14 x5) b10 j15 x6) b10 j16 x7)
  refine lv_aload_n C.1 C.2.1 dX9_spell_56 rfl (lv_at hl 0 rfl) ?_
  refine x_get (v := .ref (ad b10)) C K h cl_9 hk_a0 1 (by decide) fl_RX9_13 (hv_r (o := sr_ (ui_ (ui_ (ui_ (ui_ (ui_ (ui_ σ b10 j11 x2) b10 j12 x3) b10 j13 x4) b10 j14 x5) b10 j15 x6) b10 j16 x7) a0 1) rfl hq_b10) dX9_spell_57 ?_
  refine lv_iload_n C.1 C.2.1 dX9_spell_60 rfl (lv_at hl 1 rfl) ?_
  refine lv_bipush (v := (6 : Int32)) C.1 C.2.1 dX9_spell_61 (by decide) ?_
  refine lv_iadd C.1 C.2.1 dX9_spell_63 ?_
  refine lv_iload C.1 C.2.1 dX9_spell_64 (lv_at hl 8 rfl) ?_
  obtain ⟨j17, hj_j17, hf⟩ := ob_ hf
  refine x_iast C K h hk_b10 hj_j17 dX9_spell_66 (fun H locs h => ?_)
  have hE := hE.up (up_i (ui_ (ui_ (ui_ (ui_ (ui_ (ui_ σ b10 j11 x2) b10 j12 x3) b10 j13 x4) b10 j14 x5) b10 j15 x6) b10 j16 x7) b10 j17 x8)
  refine lv_aload_n C.1 C.2.1 dX9_spell_67 rfl (lv_at hl 0 rfl) ?_
  refine x_get (v := .ref (ad b10)) C K h cl_9 hk_a0 1 (by decide) fl_RX9_13 (hv_r (o := sr_ (ui_ (ui_ (ui_ (ui_ (ui_ (ui_ (ui_ σ b10 j11 x2) b10 j12 x3) b10 j13 x4) b10 j14 x5) b10 j15 x6) b10 j16 x7) b10 j17 x8) a0 1) rfl hq_b10) dX9_spell_68 ?_
  refine lv_iload_n C.1 C.2.1 dX9_spell_71 rfl (lv_at hl 1 rfl) ?_
  refine lv_bipush (v := (7 : Int32)) C.1 C.2.1 dX9_spell_72 (by decide) ?_
  refine lv_iadd C.1 C.2.1 dX9_spell_74 ?_
  refine lv_iload C.1 C.2.1 dX9_spell_75 (lv_at hl 9 rfl) ?_
  obtain ⟨j18, hj_j18, hf⟩ := ob_ hf
  refine x_iast C K h hk_b10 hj_j18 dX9_spell_77 (fun H locs h => ?_)
  have hE := hE.up (up_i (ui_ (ui_ (ui_ (ui_ (ui_ (ui_ (ui_ σ b10 j11 x2) b10 j12 x3) b10 j13 x4) b10 j14 x5) b10 j15 x6) b10 j16 x7) b10 j17 x8) b10 j18 x9)
  exact x_rv C hr hlk h hE (Option.some.inj hf) dX9_spell_78
theorem c_X9_spell (l : Launch) (κ : Ka_) (G : va_G) (cy : Nat → ClassId) (ad : Nat → Nat) (sz : Nat) (σ : St_) (a0 : Nat) (x1 : Int32) (x2 : Int32) (x3 : Int32) (x4 : Int32) (x5 : Int32) (x6 : Int32) (x7 : Int32) (x8 : Int32) (x9 : Int32) (hk_a0 : kd_ σ a0 = 9) {q : St_} (hf : f_X9_spell σ a0 x1 x2 x3 x4 x5 x6 x7 x8 x9 = some q) : Met l yX9_spell (Cond.code yX9_spell cX9_spell 10 none :: wU_) { frames := 0, cells := 0, slots := 0, locals := 0 } (va_Pc [.ref (ad a0), .int x1, .int x2, .int x3, .int x4, .int x5, .int x6, .int x7, .int x8, .int x9] (Pr_ κ G cy ad σ sz)) (Qv_ G cy ad σ q sz) 0 0 (va_A (wl_ cy ad σ) sz) :=
  x_met (by decide) (fun p e R s m below meth c ls hR C hr hlk hin _ K h hl => w_X9_spell C K hr hlk ⟨hR.1, hR.2.1⟩ σ a0 x1 x2 x3 x4 x5 x6 x7 x8 x9 Ex_.rf hk_a0 hf s.heap [] ls h hl) (Nat.le_of_ble_eq_true rfl)
-- X9_isOne
theorem mi_X9_isOne : Mi_ yX9_isOne cX9_isOne 2 (some .boolean) 1 := ⟨co_yX9_isOne, in_RX9, by decide, by decide, by decide +kernel⟩
def f_X9_isOne (σ : St_) (a0 : Nat) (x1 : Int32) : Int32 := f_X9_in x1.toInt64 (0 : Int64) (((si_ σ a0 11) - (1 : Int32)).toInt64)
set_option maxHeartbeats 4000000 in
set_option maxRecDepth 100000 in
theorem w_X9_isOne {p : Program} {l : Launch} {e : Env} {R : Room} {s : State} {m : MethodId} {args : Array Value} {below : List Frame} {meth : Method} {c : Code} {κ : Ka_} {G : va_G} {cy : Nat → ClassId} {ad : Nat → Nat} {sz : Nat} {σ : St_} (C : CallFix p m c cX9_isOne 2 s args wU_ RX9) (K : Kx_ κ G cy (va_A (wl_ cy ad σ) sz) s) (hr : meth.sig.returnType = some .boolean) (hlk : meth.locks = false) (hR : 1 ≤ R.frames ∧ 25 ≤ R.locals) {q : Int32} : ∀ (a0 : Nat) (x1 : Int32), kd_ σ a0 = 9 → f_X9_isOne σ a0 x1 = q → ∀ (H : Heap) (locs : List Loc) (ls : Array Slot), Ht_ G cy (va_A (wl_ cy ad σ) sz) s ad σ H locs → lv_has ls 2 [(0, .ref (ad a0)), (1, .int x1)] → W p l e R s m args below meth c H locs 0 0 (MQ below (Qz_ G cy ad σ σ sz q) args s 0 0 (va_A (wl_ cy ad σ) sz)) (F0 m 0 ls []) := by
  intro a0 x1 hk_a0 hf H locs ls h hl
  have hf : (f_X9_in x1.toInt64 (0 : Int64) (((si_ σ a0 11) - (1 : Int32)).toInt64)) = q := hf
  refine lv_iload_n C.1 C.2.1 dX9_isOne_0 rfl (lv_at hl 1 rfl) ?_
  refine lv_i2l C.1 C.2.1 dX9_isOne_1 rfl ?_
  refine lv_lconst (v := (0 : Int64)) C.1 C.2.1 dX9_isOne_2 (by decide) ?_
  refine lv_aload_n C.1 C.2.1 dX9_isOne_3 rfl (lv_at hl 0 rfl) ?_
  refine x_get (v := .int (si_ σ a0 11)) C K h cl_9 hk_a0 11 (by decide) fl_RX9_80 rfl dX9_isOne_4 ?_
  refine lv_iconst (v := (1 : Int32)) C.1 C.2.1 dX9_isOne_7 (by decide) ?_
  refine lv_isub C.1 C.2.1 dX9_isOne_8 ?_
  refine lv_i2l C.1 C.2.1 dX9_isOne_9 rfl ?_
  refine x_az K h (x_S C K h [.long x1.toInt64, .long (0 : Int64), .long (((si_ σ a0 11) - (1 : Int32)).toInt64)] (c_X9_in l κ G cy ad H.size σ x1.toInt64 (0 : Int64) (((si_ σ a0 11) - (1 : Int32)).toInt64) rfl) mi_X9_in rfl st_yX9_in ml_RX9_83 ⟨rfl, rfl, Nat.le_trans (Nat.le_of_ble_eq_true rfl) hR.1, Nat.le_trans (Nat.le_of_ble_eq_true rfl) hR.2⟩ hl (Nat.le_of_ble_eq_true rfl) dX9_isOne_10 ⟨Nat.zero_le _, Nat.zero_le _⟩ rfl) (fun H locs h hX hz3 => ?_)
  exact x_rzz C hr hlk h Ex_.rf hz3 hf rfl dX9_isOne_13
theorem c_X9_isOne (l : Launch) (κ : Ka_) (G : va_G) (cy : Nat → ClassId) (ad : Nat → Nat) (sz : Nat) (σ : St_) (a0 : Nat) (x1 : Int32) (hk_a0 : kd_ σ a0 = 9) {q : Int32} (hf : f_X9_isOne σ a0 x1 = q) : Met l yX9_isOne (Cond.code yX9_isOne cX9_isOne 2 (some .boolean) :: wU_) { frames := 1, cells := 0, slots := 0, locals := 25 } (va_Pc [.ref (ad a0), .int x1] (Pr_ κ G cy ad σ sz)) (Qz_ G cy ad σ σ sz q) 0 0 (va_A (wl_ cy ad σ) sz) :=
  x_met (by decide) (fun p e R s m below meth c ls hR C hr hlk hin _ K h hl => w_X9_isOne C K hr hlk ⟨hR.1, hR.2.1⟩ a0 x1 hk_a0 hf s.heap [] ls h hl) (Nat.le_of_ble_eq_true rfl)
-- X9_isCell
theorem mi_X9_isCell : Mi_ yX9_isCell cX9_isCell 1 (some .boolean) 1 := ⟨co_yX9_isCell, in_RX9, by decide, by decide, by decide +kernel⟩
def f_X9_isCell (x1 : Int32) : Int32 := f_X9_in x1.toInt64 (0 : Int64) (35 : Int64)
set_option maxHeartbeats 4000000 in
set_option maxRecDepth 100000 in
theorem w_X9_isCell {p : Program} {l : Launch} {e : Env} {R : Room} {s : State} {m : MethodId} {args : Array Value} {below : List Frame} {meth : Method} {c : Code} {κ : Ka_} {G : va_G} {cy : Nat → ClassId} {ad : Nat → Nat} {sz : Nat} {σ : St_} (C : CallFix p m c cX9_isCell 1 s args wU_ RX9) (K : Kx_ κ G cy (va_A (wl_ cy ad σ) sz) s) (hr : meth.sig.returnType = some .boolean) (hlk : meth.locks = false) (hR : 1 ≤ R.frames ∧ 25 ≤ R.locals) {q : Int32} : ∀ (x1 : Int32), f_X9_isCell x1 = q → ∀ (H : Heap) (locs : List Loc) (ls : Array Slot), Ht_ G cy (va_A (wl_ cy ad σ) sz) s ad σ H locs → lv_has ls 1 [(0, .int x1)] → W p l e R s m args below meth c H locs 0 0 (MQ below (Qz_ G cy ad σ σ sz q) args s 0 0 (va_A (wl_ cy ad σ) sz)) (F0 m 0 ls []) := by
  intro x1 hf H locs ls h hl
  have hf : (f_X9_in x1.toInt64 (0 : Int64) (35 : Int64)) = q := hf
  refine lv_iload_n C.1 C.2.1 dX9_isCell_0 rfl (lv_at hl 0 rfl) ?_
  refine lv_i2l C.1 C.2.1 dX9_isCell_1 rfl ?_
  refine lv_lconst (v := (0 : Int64)) C.1 C.2.1 dX9_isCell_2 (by decide) ?_
  refine lv_ldc2 (v := (35 : Int64)) C.1 C.2.1 C.2.2.2.1 (C.2.2.2.2 _ cl_RX9_87) dX9_isCell_3 ?_
  refine x_az K h (x_S C K h [.long x1.toInt64, .long (0 : Int64), .long (35 : Int64)] (c_X9_in l κ G cy ad H.size σ x1.toInt64 (0 : Int64) (35 : Int64) rfl) mi_X9_in rfl st_yX9_in ml_RX9_83 ⟨rfl, rfl, Nat.le_trans (Nat.le_of_ble_eq_true rfl) hR.1, Nat.le_trans (Nat.le_of_ble_eq_true rfl) hR.2⟩ hl (Nat.le_of_ble_eq_true rfl) dX9_isCell_6 ⟨Nat.zero_le _, Nat.zero_le _⟩ rfl) (fun H locs h hX hz3 => ?_)
  exact x_rzz C hr hlk h Ex_.rf hz3 hf rfl dX9_isCell_9
theorem c_X9_isCell (l : Launch) (κ : Ka_) (G : va_G) (cy : Nat → ClassId) (ad : Nat → Nat) (sz : Nat) (σ : St_) (x1 : Int32) {q : Int32} (hf : f_X9_isCell x1 = q) : Met l yX9_isCell (Cond.code yX9_isCell cX9_isCell 1 (some .boolean) :: wU_) { frames := 1, cells := 0, slots := 0, locals := 25 } (va_Pc [.int x1] (Pr_ κ G cy ad σ sz)) (Qz_ G cy ad σ σ sz q) 0 0 (va_A (wl_ cy ad σ) sz) :=
  x_met (by decide) (fun p e R s m below meth c ls hR C hr hlk hin _ K h hl => w_X9_isCell C K hr hlk ⟨hR.1, hR.2.1⟩ x1 hf s.heap [] ls h hl) (Nat.le_of_ble_eq_true rfl)
-- X9_isWord
theorem mi_X9_isWord : Mi_ yX9_isWord cX9_isWord 1 (some .boolean) 1 := ⟨co_yX9_isWord, in_RX9, by decide, by decide, by decide +kernel⟩
def f_X9_isWord (x1 : Int32) : Int32 := f_X9_in x1.toInt64 (0 : Int64) (7 : Int64)
set_option maxHeartbeats 4000000 in
set_option maxRecDepth 100000 in
theorem w_X9_isWord {p : Program} {l : Launch} {e : Env} {R : Room} {s : State} {m : MethodId} {args : Array Value} {below : List Frame} {meth : Method} {c : Code} {κ : Ka_} {G : va_G} {cy : Nat → ClassId} {ad : Nat → Nat} {sz : Nat} {σ : St_} (C : CallFix p m c cX9_isWord 1 s args wU_ RX9) (K : Kx_ κ G cy (va_A (wl_ cy ad σ) sz) s) (hr : meth.sig.returnType = some .boolean) (hlk : meth.locks = false) (hR : 1 ≤ R.frames ∧ 25 ≤ R.locals) {q : Int32} : ∀ (x1 : Int32), f_X9_isWord x1 = q → ∀ (H : Heap) (locs : List Loc) (ls : Array Slot), Ht_ G cy (va_A (wl_ cy ad σ) sz) s ad σ H locs → lv_has ls 1 [(0, .int x1)] → W p l e R s m args below meth c H locs 0 0 (MQ below (Qz_ G cy ad σ σ sz q) args s 0 0 (va_A (wl_ cy ad σ) sz)) (F0 m 0 ls []) := by
  intro x1 hf H locs ls h hl
  have hf : (f_X9_in x1.toInt64 (0 : Int64) (7 : Int64)) = q := hf
  refine lv_iload_n C.1 C.2.1 dX9_isWord_0 rfl (lv_at hl 0 rfl) ?_
  refine lv_i2l C.1 C.2.1 dX9_isWord_1 rfl ?_
  refine lv_lconst (v := (0 : Int64)) C.1 C.2.1 dX9_isWord_2 (by decide) ?_
  refine lv_ldc2 (v := (7 : Int64)) C.1 C.2.1 C.2.2.2.1 (C.2.2.2.2 _ cl_RX9_89) dX9_isWord_3 ?_
  refine x_az K h (x_S C K h [.long x1.toInt64, .long (0 : Int64), .long (7 : Int64)] (c_X9_in l κ G cy ad H.size σ x1.toInt64 (0 : Int64) (7 : Int64) rfl) mi_X9_in rfl st_yX9_in ml_RX9_83 ⟨rfl, rfl, Nat.le_trans (Nat.le_of_ble_eq_true rfl) hR.1, Nat.le_trans (Nat.le_of_ble_eq_true rfl) hR.2⟩ hl (Nat.le_of_ble_eq_true rfl) dX9_isWord_6 ⟨Nat.zero_le _, Nat.zero_le _⟩ rfl) (fun H locs h hX hz3 => ?_)
  exact x_rzz C hr hlk h Ex_.rf hz3 hf rfl dX9_isWord_9
theorem c_X9_isWord (l : Launch) (κ : Ka_) (G : va_G) (cy : Nat → ClassId) (ad : Nat → Nat) (sz : Nat) (σ : St_) (x1 : Int32) {q : Int32} (hf : f_X9_isWord x1 = q) : Met l yX9_isWord (Cond.code yX9_isWord cX9_isWord 1 (some .boolean) :: wU_) { frames := 1, cells := 0, slots := 0, locals := 25 } (va_Pc [.int x1] (Pr_ κ G cy ad σ sz)) (Qz_ G cy ad σ σ sz q) 0 0 (va_A (wl_ cy ad σ) sz) :=
  x_met (by decide) (fun p e R s m below meth c ls hR C hr hlk hin _ K h hl => w_X9_isWord C K hr hlk ⟨hR.1, hR.2.1⟩ x1 hf s.heap [] ls h hl) (Nat.le_of_ble_eq_true rfl)
-- X9_isOf
theorem mi_X9_isOf : Mi_ yX9_isOf cX9_isOf 3 (some .boolean) 2 := ⟨co_yX9_isOf, in_RX9, by decide, by decide, by decide +kernel⟩
def f_X9_isOf (σ : St_) (a0 : Nat) (x1 : Int32) (x2 : Int32) : Int32 := if x1 = 0 then (1 : Int32) else if x1 = (1 : Int32) then if (f_X9_isCell x2) = 0 then (0 : Int32) else (1 : Int32) else if (f_X9_isOne σ a0 x2) = 0 then (0 : Int32) else (1 : Int32)
set_option maxHeartbeats 4000000 in
set_option maxRecDepth 100000 in
theorem w_X9_isOf {p : Program} {l : Launch} {e : Env} {R : Room} {s : State} {m : MethodId} {args : Array Value} {below : List Frame} {meth : Method} {c : Code} {κ : Ka_} {G : va_G} {cy : Nat → ClassId} {ad : Nat → Nat} {sz : Nat} {σ : St_} (C : CallFix p m c cX9_isOf 3 s args wU_ RX9) (K : Kx_ κ G cy (va_A (wl_ cy ad σ) sz) s) (hr : meth.sig.returnType = some .boolean) (hlk : meth.locks = false) (hR : 2 ≤ R.frames ∧ 46 ≤ R.locals) {q : Int32} : ∀ (a0 : Nat) (x1 : Int32) (x2 : Int32), kd_ σ a0 = 9 → f_X9_isOf σ a0 x1 x2 = q → ∀ (H : Heap) (locs : List Loc) (ls : Array Slot), Ht_ G cy (va_A (wl_ cy ad σ) sz) s ad σ H locs → lv_has ls 3 [(0, .ref (ad a0)), (1, .int x1), (2, .int x2)] → W p l e R s m args below meth c H locs 0 0 (MQ below (Qz_ G cy ad σ σ sz q) args s 0 0 (va_A (wl_ cy ad σ) sz)) (F0 m 0 ls []) := by
  intro a0 x1 x2 hk_a0 hf H locs ls h hl
  have hf : (if x1 = 0 then (1 : Int32) else if x1 = (1 : Int32) then if (f_X9_isCell x2) = 0 then (0 : Int32) else (1 : Int32) else if (f_X9_isOne σ a0 x2) = 0 then (0 : Int32) else (1 : Int32)) = q := hf
  refine lv_iload_n C.1 C.2.1 dX9_isOf_0 rfl (lv_at hl 1 rfl) ?_
  refine lv_if_eq (tgt := 27) C.1 C.2.1 dX9_isOf_1 (by decide) (fun c3 => ?_) (fun c3 => ?_)
  · have hf := if_t hf c3
    refine lv_iconst (v := (1 : Int32)) C.1 C.2.1 dX9_isOf_27 (by decide) ?_
    refine lv_goto (tgt := 32) C.1 C.2.1 dX9_isOf_28 (by decide) ?_
    exact x_rzz C hr hlk h Ex_.rf (by decide) hf rfl dX9_isOf_32
  · have hf := if_f hf c3
    refine lv_iload_n C.1 C.2.1 dX9_isOf_4 rfl (lv_at hl 1 rfl) ?_
    refine lv_iconst (v := (1 : Int32)) C.1 C.2.1 dX9_isOf_5 (by decide) ?_
    refine lv_icmp_ne (tgt := 19) C.1 C.2.1 dX9_isOf_6 (by decide) (fun c4 => ?_) (fun c4 => ?_)
    · have hf := if_f hf c4
      refine lv_aload_n C.1 C.2.1 dX9_isOf_19 rfl (lv_at hl 0 rfl) ?_
      refine lv_iload_n C.1 C.2.1 dX9_isOf_20 rfl (lv_at hl 2 rfl) ?_
      refine x_az K h (x_V C K h [.int x2] (c_X9_isOne l κ G cy ad H.size σ a0 x2 hk_a0 rfl) mi_X9_isOne rfl im_yX9_isOne se_yX9_isOne ml_RX9_95 cl_9 hk_a0 ⟨rfl, rfl, Nat.le_trans (Nat.le_of_ble_eq_true rfl) hR.1, Nat.le_trans (Nat.le_of_ble_eq_true rfl) hR.2⟩ hl (Nat.le_of_ble_eq_true rfl) dX9_isOf_21 ⟨Nat.zero_le _, Nat.zero_le _⟩ rfl) (fun H locs h hX hz6 => ?_)
      refine lv_if_eq (tgt := 31) C.1 C.2.1 dX9_isOf_24 (by decide) (fun c7 => ?_) (fun c7 => ?_)
      · have hf := if_t hf c7
        refine lv_iconst (v := (0 : Int32)) C.1 C.2.1 dX9_isOf_31 (by decide) ?_
        exact x_rzz C hr hlk h Ex_.rf (by decide) hf rfl dX9_isOf_32
      · have hf := if_f hf c7
        refine lv_iconst (v := (1 : Int32)) C.1 C.2.1 dX9_isOf_27 (by decide) ?_
        refine lv_goto (tgt := 32) C.1 C.2.1 dX9_isOf_28 (by decide) ?_
        exact x_rzz C hr hlk h Ex_.rf (by decide) hf rfl dX9_isOf_32
    · have hf := if_t hf c4
      refine lv_iload_n C.1 C.2.1 dX9_isOf_9 rfl (lv_at hl 2 rfl) ?_
      refine x_az K h (x_S C K h [.int x2] (c_X9_isCell l κ G cy ad H.size σ x2 rfl) mi_X9_isCell rfl st_yX9_isCell ml_RX9_91 ⟨rfl, rfl, Nat.le_trans (Nat.le_of_ble_eq_true rfl) hR.1, Nat.le_trans (Nat.le_of_ble_eq_true rfl) hR.2⟩ hl (Nat.le_of_ble_eq_true rfl) dX9_isOf_10 ⟨Nat.zero_le _, Nat.zero_le _⟩ rfl) (fun H locs h hX hz9 => ?_)
      refine lv_if_eq (tgt := 31) C.1 C.2.1 dX9_isOf_13 (by decide) (fun c10 => ?_) (fun c10 => ?_)
      · have hf := if_t hf c10
        refine lv_iconst (v := (0 : Int32)) C.1 C.2.1 dX9_isOf_31 (by decide) ?_
        exact x_rzz C hr hlk h Ex_.rf (by decide) hf rfl dX9_isOf_32
      · have hf := if_f hf c10
        refine lv_goto (tgt := 27) C.1 C.2.1 dX9_isOf_16 (by decide) ?_
        refine lv_iconst (v := (1 : Int32)) C.1 C.2.1 dX9_isOf_27 (by decide) ?_
        refine lv_goto (tgt := 32) C.1 C.2.1 dX9_isOf_28 (by decide) ?_
        exact x_rzz C hr hlk h Ex_.rf (by decide) hf rfl dX9_isOf_32
theorem c_X9_isOf (l : Launch) (κ : Ka_) (G : va_G) (cy : Nat → ClassId) (ad : Nat → Nat) (sz : Nat) (σ : St_) (a0 : Nat) (x1 : Int32) (x2 : Int32) (hk_a0 : kd_ σ a0 = 9) {q : Int32} (hf : f_X9_isOf σ a0 x1 x2 = q) : Met l yX9_isOf (Cond.code yX9_isOf cX9_isOf 3 (some .boolean) :: wU_) { frames := 2, cells := 0, slots := 0, locals := 46 } (va_Pc [.ref (ad a0), .int x1, .int x2] (Pr_ κ G cy ad σ sz)) (Qz_ G cy ad σ σ sz q) 0 0 (va_A (wl_ cy ad σ) sz) :=
  x_met (by decide) (fun p e R s m below meth c ls hR C hr hlk hin _ K h hl => w_X9_isOf C K hr hlk ⟨hR.1, hR.2.1⟩ a0 x1 x2 hk_a0 hf s.heap [] ls h hl) (Nat.le_of_ble_eq_true rfl)
-- X9_mostOf
theorem mi_X9_mostOf : Mi_ yX9_mostOf cX9_mostOf 1 (some .int) 1 := ⟨co_yX9_mostOf, in_RX9, by decide, by decide, by decide +kernel⟩
def f_X9_mostOf (x1 : Int32) : Int32 := if x1 = 0 then (999 : Int32) else if x1 = (2 : Int32) then (9 : Int32) else if x1 = (3 : Int32) then (35 : Int32) else (1 : Int32)
set_option maxHeartbeats 4000000 in
set_option maxRecDepth 100000 in
theorem w_X9_mostOf {p : Program} {l : Launch} {e : Env} {R : Room} {s : State} {m : MethodId} {args : Array Value} {below : List Frame} {meth : Method} {c : Code} {κ : Ka_} {G : va_G} {cy : Nat → ClassId} {ad : Nat → Nat} {sz : Nat} {σ : St_} (C : CallFix p m c cX9_mostOf 1 s args wU_ RX9) (K : Kx_ κ G cy (va_A (wl_ cy ad σ) sz) s) (hr : meth.sig.returnType = some .int) (hlk : meth.locks = false) (hR : 0 ≤ R.frames ∧ 0 ≤ R.locals) {q : Int32} : ∀ (x1 : Int32), f_X9_mostOf x1 = q → ∀ (H : Heap) (locs : List Loc) (ls : Array Slot), Ht_ G cy (va_A (wl_ cy ad σ) sz) s ad σ H locs → lv_has ls 1 [(0, .int x1)] → W p l e R s m args below meth c H locs 0 0 (MQ below (Qi_ G cy ad σ σ sz q) args s 0 0 (va_A (wl_ cy ad σ) sz)) (F0 m 0 ls []) := by
  intro x1 hf H locs ls h hl
  have hf : (if x1 = 0 then (999 : Int32) else if x1 = (2 : Int32) then (9 : Int32) else if x1 = (3 : Int32) then (35 : Int32) else (1 : Int32)) = q := hf
  refine lv_iload_n C.1 C.2.1 dX9_mostOf_0 rfl (lv_at hl 0 rfl) ?_
  refine lv_if_ne (tgt := 10) C.1 C.2.1 dX9_mostOf_1 (by decide) (fun c2 => ?_) (fun c2 => ?_)
  · have hf := if_f hf c2
    refine lv_iload_n C.1 C.2.1 dX9_mostOf_10 rfl (lv_at hl 0 rfl) ?_
    refine lv_iconst (v := (2 : Int32)) C.1 C.2.1 dX9_mostOf_11 (by decide) ?_
    refine lv_icmp_ne (tgt := 20) C.1 C.2.1 dX9_mostOf_12 (by decide) (fun c3 => ?_) (fun c3 => ?_)
    · have hf := if_f hf c3
      refine lv_iload_n C.1 C.2.1 dX9_mostOf_20 rfl (lv_at hl 0 rfl) ?_
      refine lv_iconst (v := (3 : Int32)) C.1 C.2.1 dX9_mostOf_21 (by decide) ?_
      refine lv_icmp_ne (tgt := 30) C.1 C.2.1 dX9_mostOf_22 (by decide) (fun c4 => ?_) (fun c4 => ?_)
      · have hf := if_f hf c4
        refine lv_iconst (v := (1 : Int32)) C.1 C.2.1 dX9_mostOf_30 (by decide) ?_
        exact x_ri C hr hlk h Ex_.rf hf rfl dX9_mostOf_31
      · have hf := if_t hf c4
        refine lv_bipush (v := (35 : Int32)) C.1 C.2.1 dX9_mostOf_25 (by decide) ?_
        refine lv_goto (tgt := 31) C.1 C.2.1 dX9_mostOf_27 (by decide) ?_
        exact x_ri C hr hlk h Ex_.rf hf rfl dX9_mostOf_31
    · have hf := if_t hf c3
      refine lv_bipush (v := (9 : Int32)) C.1 C.2.1 dX9_mostOf_15 (by decide) ?_
      refine lv_goto (tgt := 31) C.1 C.2.1 dX9_mostOf_17 (by decide) ?_
      exact x_ri C hr hlk h Ex_.rf hf rfl dX9_mostOf_31
  · have hf := if_t hf c2
    refine lv_sipush (v := (999 : Int32)) C.1 C.2.1 dX9_mostOf_4 (by decide) ?_
    refine lv_goto (tgt := 31) C.1 C.2.1 dX9_mostOf_7 (by decide) ?_
    exact x_ri C hr hlk h Ex_.rf hf rfl dX9_mostOf_31
theorem c_X9_mostOf (l : Launch) (κ : Ka_) (G : va_G) (cy : Nat → ClassId) (ad : Nat → Nat) (sz : Nat) (σ : St_) (x1 : Int32) {q : Int32} (hf : f_X9_mostOf x1 = q) : Met l yX9_mostOf (Cond.code yX9_mostOf cX9_mostOf 1 (some .int) :: wU_) { frames := 0, cells := 0, slots := 0, locals := 0 } (va_Pc [.int x1] (Pr_ κ G cy ad σ sz)) (Qi_ G cy ad σ σ sz q) 0 0 (va_A (wl_ cy ad σ) sz) :=
  x_met (by decide) (fun p e R s m below meth c ls hR C hr hlk hin _ K h hl => w_X9_mostOf C K hr hlk ⟨hR.1, hR.2.1⟩ x1 hf s.heap [] ls h hl) (Nat.le_of_ble_eq_true rfl)
-- X9_byteAt
theorem mi_X9_byteAt : Mi_ yX9_byteAt cX9_byteAt 2 (some .int) 1 := ⟨co_yX9_byteAt, in_RX9, by decide, by decide, by decide +kernel⟩
def f_X9_byteAt (σ : St_) (a0 : Nat) (x1 : Int32) : Option Int32 := if (si_ σ a0 19) ≤ x1 then some (-1 : Int32) else (dr_ σ 10 (sr_ σ a0 1)).bind fun b3 => (ix_ ((si_ σ a0 18) + x1) (ln_ σ b3)).bind fun j4 => some (si_ σ b3 j4)
set_option maxHeartbeats 4000000 in
set_option maxRecDepth 100000 in
theorem w_X9_byteAt {p : Program} {l : Launch} {e : Env} {R : Room} {s : State} {m : MethodId} {args : Array Value} {below : List Frame} {meth : Method} {c : Code} {κ : Ka_} {G : va_G} {cy : Nat → ClassId} {ad : Nat → Nat} {sz : Nat} {σ : St_} (C : CallFix p m c cX9_byteAt 2 s args wU_ RX9) (K : Kx_ κ G cy (va_A (wl_ cy ad σ) sz) s) (hr : meth.sig.returnType = some .int) (hlk : meth.locks = false) (hR : 0 ≤ R.frames ∧ 0 ≤ R.locals) {q : Int32} : ∀ (a0 : Nat) (x1 : Int32), kd_ σ a0 = 9 → f_X9_byteAt σ a0 x1 = some q → ∀ (H : Heap) (locs : List Loc) (ls : Array Slot), Ht_ G cy (va_A (wl_ cy ad σ) sz) s ad σ H locs → lv_has ls 2 [(0, .ref (ad a0)), (1, .int x1)] → W p l e R s m args below meth c H locs 0 0 (MQ below (Qi_ G cy ad σ σ sz q) args s 0 0 (va_A (wl_ cy ad σ) sz)) (F0 m 0 ls []) := by
  intro a0 x1 hk_a0 hf H locs ls h hl
  have hf : (if (si_ σ a0 19) ≤ x1 then some (-1 : Int32) else (dr_ σ 10 (sr_ σ a0 1)).bind fun b3 => (ix_ ((si_ σ a0 18) + x1) (ln_ σ b3)).bind fun j4 => some (si_ σ b3 j4)) = some q := hf
  refine lv_iload_n C.1 C.2.1 dX9_byteAt_0 rfl (lv_at hl 1 rfl) ?_
  refine lv_aload_n C.1 C.2.1 dX9_byteAt_1 rfl (lv_at hl 0 rfl) ?_
  refine x_get (v := .int (si_ σ a0 19)) C K h cl_9 hk_a0 19 (by decide) fl_RX9_144 rfl dX9_byteAt_2 ?_
  refine lv_icmp_ge (tgt := 22) C.1 C.2.1 dX9_byteAt_5 (by decide) (fun c2 => ?_) (fun c2 => ?_)
  · have hf := if_t hf c2
    refine lv_iconst (v := (-1 : Int32)) C.1 C.2.1 dX9_byteAt_22 (by decide) ?_
    exact x_ri C hr hlk h Ex_.rf (Option.some.inj hf) rfl dX9_byteAt_23
  · have hf := if_f hf c2
    refine lv_aload_n C.1 C.2.1 dX9_byteAt_8 rfl (lv_at hl 0 rfl) ?_
    obtain ⟨b3, hb_b3, hf⟩ := ob_ hf
    obtain ⟨hq_b3, hk_b3⟩ := dr_in hb_b3
    refine x_get (v := .ref (ad b3)) C K h cl_9 hk_a0 1 (by decide) fl_RX9_13 (hv_r (o := sr_ σ a0 1) rfl hq_b3) dX9_byteAt_9 ?_
    refine lv_aload_n C.1 C.2.1 dX9_byteAt_12 rfl (lv_at hl 0 rfl) ?_
    refine x_get (v := .int (si_ σ a0 18)) C K h cl_9 hk_a0 18 (by decide) fl_RX9_147 rfl dX9_byteAt_13 ?_
    refine lv_iload_n C.1 C.2.1 dX9_byteAt_16 rfl (lv_at hl 1 rfl) ?_
    refine lv_iadd C.1 C.2.1 dX9_byteAt_17 ?_
    obtain ⟨j4, hj_j4, hf⟩ := ob_ hf
    refine x_iald C K h hk_b3 hj_j4 dX9_byteAt_18 ?_
    refine lv_goto (tgt := 23) C.1 C.2.1 dX9_byteAt_19 (by decide) ?_
    exact x_ri C hr hlk h Ex_.rf (Option.some.inj hf) rfl dX9_byteAt_23
theorem c_X9_byteAt (l : Launch) (κ : Ka_) (G : va_G) (cy : Nat → ClassId) (ad : Nat → Nat) (sz : Nat) (σ : St_) (a0 : Nat) (x1 : Int32) (hk_a0 : kd_ σ a0 = 9) {q : Int32} (hf : f_X9_byteAt σ a0 x1 = some q) : Met l yX9_byteAt (Cond.code yX9_byteAt cX9_byteAt 2 (some .int) :: wU_) { frames := 0, cells := 0, slots := 0, locals := 0 } (va_Pc [.ref (ad a0), .int x1] (Pr_ κ G cy ad σ sz)) (Qi_ G cy ad σ σ sz q) 0 0 (va_A (wl_ cy ad σ) sz) :=
  x_met (by decide) (fun p e R s m below meth c ls hR C hr hlk hin _ K h hl => w_X9_byteAt C K hr hlk ⟨hR.1, hR.2.1⟩ a0 x1 hk_a0 hf s.heap [] ls h hl) (Nat.le_of_ble_eq_true rfl)
-- X9_next
theorem mi_X9_next : Mi_ yX9_next cX9_next 3 none 0 := ⟨co_yX9_next, in_RX9, by decide, by decide, by decide +kernel⟩
def f_X9_next_300 (fu : Nat) (σ : St_) (v0 : Nat) (v1 : Int32) : Option St_ := some (ui_ (ul_ (ui_ σ v0 21 (3 : Int32)) v0 23 v1.toInt64) v0 20 ((si_ (ul_ (ui_ σ v0 21 (3 : Int32)) v0 23 v1.toInt64) v0 20) + (1 : Int32)))
set_option maxHeartbeats 4000000 in
set_option maxRecDepth 100000 in
theorem w_X9_next_300 {p : Program} {l : Launch} {e : Env} {R : Room} {s : State} {m : MethodId} {args : Array Value} {below : List Frame} {meth : Method} {c : Code} {κ : Ka_} {G : va_G} {cy : Nat → ClassId} {ad : Nat → Nat} {sz : Nat} {σ0 : St_} (fu : Nat) (C : CallFix p m c cX9_next 3 s args wU_ RX9) (K : Kx_ κ G cy (va_A (wl_ cy ad σ0) sz) s) (hr : meth.sig.returnType = none) (hlk : meth.locks = false) (hR : 1 ≤ R.frames ∧ 25 ≤ R.locals) {q : St_} : ∀ (σ : St_) (v0 : Nat) (v1 : Int32), Ex_ σ0 σ → kd_ σ v0 = 9 → f_X9_next_300 fu σ v0 v1 = some q → ∀ (H : Heap) (locs : List Loc) (ls : Array Slot), Ht_ G cy (va_A (wl_ cy ad σ0) sz) s ad σ H locs → lv_has ls 3 [(0, .ref (ad v0)), (1, .int v1)] → W p l e R s m args below meth c H locs 0 0 (MQ below (Qv_ G cy ad σ0 q sz) args s 0 0 (va_A (wl_ cy ad σ0) sz)) (F0 m 300 ls []) := by
  intro σ v0 v1 hE hk_v0 hf H locs ls h hl
  have hf : (some (ui_ (ul_ (ui_ σ v0 21 (3 : Int32)) v0 23 v1.toInt64) v0 20 ((si_ (ul_ (ui_ σ v0 21 (3 : Int32)) v0 23 v1.toInt64) v0 20) + (1 : Int32)))) = some q := hf
  refine lv_aload_n C.1 C.2.1 dX9_next_300 rfl (lv_at hl 0 rfl) ?_
  refine lv_iconst (v := (3 : Int32)) C.1 C.2.1 dX9_next_301 (by decide) ?_
  refine x_putI C K h cl_9 hk_v0 21 (by decide) fl_RX9_159 rfl rfl rfl (Nat.le_of_ble_eq_true rfl) (fun _ _ _ => rfl) dX9_next_302 (fun H locs h => ?_)
  have hE := hE.up (up_i σ v0 21 (3 : Int32))
  refine lv_aload_n C.1 C.2.1 dX9_next_305 rfl (lv_at hl 0 rfl) ?_
  refine lv_iload_n C.1 C.2.1 dX9_next_306 rfl (lv_at hl 1 rfl) ?_
  refine lv_i2l C.1 C.2.1 dX9_next_307 rfl ?_
  refine x_putL C K h cl_9 hk_v0 23 (by decide) fl_RX9_170 rfl rfl rfl (Nat.le_of_ble_eq_true rfl) (fun _ _ _ => rfl) dX9_next_308 (fun H locs h => ?_)
  have hE := hE.up (up_l (ui_ σ v0 21 (3 : Int32)) v0 23 v1.toInt64)
  refine lv_aload_n C.1 C.2.1 dX9_next_311 rfl (lv_at hl 0 rfl) ?_
  refine lv_dup C.1 C.2.1 dX9_next_312 rfl ?_
  refine x_get (v := .int (si_ (ul_ (ui_ σ v0 21 (3 : Int32)) v0 23 v1.toInt64) v0 20)) C K h cl_9 hk_v0 20 (by decide) fl_RX9_150 rfl dX9_next_313 ?_
  refine lv_iconst (v := (1 : Int32)) C.1 C.2.1 dX9_next_316 (by decide) ?_
  refine lv_iadd C.1 C.2.1 dX9_next_317 ?_
  refine x_putI C K h cl_9 hk_v0 20 (by decide) fl_RX9_150 rfl rfl rfl (Nat.le_of_ble_eq_true rfl) (fun _ _ _ => rfl) dX9_next_318 (fun H locs h => ?_)
  have hE := hE.up (up_i (ul_ (ui_ σ v0 21 (3 : Int32)) v0 23 v1.toInt64) v0 20 ((si_ (ul_ (ui_ σ v0 21 (3 : Int32)) v0 23 v1.toInt64) v0 20) + (1 : Int32)))
  exact x_rv C hr hlk h hE (Option.some.inj hf) dX9_next_321
def f_X9_next_160 (fu : Nat) : Nat → St_ → Nat → Int32 → Option St_
  | 0 => fun _ _ _ => none
  | n + 1 => fun σ  v0  v2 => (f_X9_byteAt σ v0 (si_ σ v0 20)).bind fun q1 => if (f_X9_in q1.toInt64 (48 : Int64) (57 : Int64)) = 0 then if v2 ≤ (4 : Int32) then some (ui_ σ v0 21 (2 : Int32)) else some (ui_ σ v0 21 (4 : Int32)) else if (4 : Int32) ≤ v2 then (f_X9_next_160 fu n) (ui_ (ul_ σ v0 23 (sl_ σ v0 23)) v0 20 ((si_ (ul_ σ v0 23 (sl_ σ v0 23)) v0 20) + (1 : Int32))) v0 (v2 + (1 : Int32)) else (f_X9_byteAt σ v0 (si_ σ v0 20)).bind fun q7 => (f_X9_next_160 fu n) (ui_ (ul_ σ v0 23 ((((10 : Int64) * (sl_ σ v0 23)) + q7.toInt64) - (48 : Int64))) v0 20 ((si_ (ul_ σ v0 23 ((((10 : Int64) * (sl_ σ v0 23)) + q7.toInt64) - (48 : Int64))) v0 20) + (1 : Int32))) v0 (v2 + (1 : Int32))
set_option maxHeartbeats 4000000 in
set_option maxRecDepth 100000 in
theorem w_X9_next_160 {p : Program} {l : Launch} {e : Env} {R : Room} {s : State} {m : MethodId} {args : Array Value} {below : List Frame} {meth : Method} {c : Code} {κ : Ka_} {G : va_G} {cy : Nat → ClassId} {ad : Nat → Nat} {sz : Nat} {σ0 : St_} (fu : Nat) (C : CallFix p m c cX9_next 3 s args wU_ RX9) (K : Kx_ κ G cy (va_A (wl_ cy ad σ0) sz) s) (hr : meth.sig.returnType = none) (hlk : meth.locks = false) (hR : 1 ≤ R.frames ∧ 25 ≤ R.locals) {q : St_} : ∀ n : Nat, ∀ (σ : St_) (v0 : Nat) (v2 : Int32), Ex_ σ0 σ → kd_ σ v0 = 9 → f_X9_next_160 fu n σ v0 v2 = some q → ∀ (H : Heap) (locs : List Loc) (ls : Array Slot), Ht_ G cy (va_A (wl_ cy ad σ0) sz) s ad σ H locs → lv_has ls 3 [(0, .ref (ad v0)), (2, .int v2)] → W p l e R s m args below meth c H locs 0 0 (MQ below (Qv_ G cy ad σ0 q sz) args s 0 0 (va_A (wl_ cy ad σ0) sz)) (F0 m 160 ls []) := by
  intro n
  induction n with
  | zero =>
    intro σ v0 v2 hE hk_v0 hf H locs ls h hl
    cases hf
  | succ n ih =>
    intro σ v0 v2 hE hk_v0 hf H locs ls h hl
    have hf : ((f_X9_byteAt σ v0 (si_ σ v0 20)).bind fun q1 => if (f_X9_in q1.toInt64 (48 : Int64) (57 : Int64)) = 0 then if v2 ≤ (4 : Int32) then some (ui_ σ v0 21 (2 : Int32)) else some (ui_ σ v0 21 (4 : Int32)) else if (4 : Int32) ≤ v2 then (f_X9_next_160 fu n) (ui_ (ul_ σ v0 23 (sl_ σ v0 23)) v0 20 ((si_ (ul_ σ v0 23 (sl_ σ v0 23)) v0 20) + (1 : Int32))) v0 (v2 + (1 : Int32)) else (f_X9_byteAt σ v0 (si_ σ v0 20)).bind fun q7 => (f_X9_next_160 fu n) (ui_ (ul_ σ v0 23 ((((10 : Int64) * (sl_ σ v0 23)) + q7.toInt64) - (48 : Int64))) v0 20 ((si_ (ul_ σ v0 23 ((((10 : Int64) * (sl_ σ v0 23)) + q7.toInt64) - (48 : Int64))) v0 20) + (1 : Int32))) v0 (v2 + (1 : Int32))) = some q := hf
    refine lv_aload_n C.1 C.2.1 dX9_next_160 rfl (lv_at hl 0 rfl) ?_
    refine lv_aload_n C.1 C.2.1 dX9_next_161 rfl (lv_at hl 0 rfl) ?_
    refine x_get (v := .int (si_ σ v0 20)) C K h cl_9 hk_v0 20 (by decide) fl_RX9_150 rfl dX9_next_162 ?_
    obtain ⟨q1, hq_q1, hf⟩ := ob_ hf
    refine x_ai K h (x_V C K h [.int (si_ σ v0 20)] (c_X9_byteAt l κ G cy ad H.size σ v0 (si_ σ v0 20) hk_v0 hq_q1) mi_X9_byteAt rfl im_yX9_byteAt se_yX9_byteAt ml_RX9_153 cl_9 hk_v0 ⟨rfl, rfl, Nat.le_trans (Nat.le_of_ble_eq_true rfl) hR.1, Nat.le_trans (Nat.le_of_ble_eq_true rfl) hR.2⟩ hl (Nat.le_of_ble_eq_true rfl) dX9_next_165 ⟨Nat.zero_le _, Nat.zero_le _⟩ rfl) (fun H locs h hX => ?_)
    refine lv_i2l C.1 C.2.1 dX9_next_168 rfl ?_
    refine lv_ldc2 (v := (48 : Int64)) C.1 C.2.1 C.2.2.2.1 (C.2.2.2.2 _ cl_RX9_166) dX9_next_169 ?_
    refine lv_ldc2 (v := (57 : Int64)) C.1 C.2.1 C.2.2.2.1 (C.2.2.2.2 _ cl_RX9_168) dX9_next_172 ?_
    refine x_az K h (x_S C K h [.long q1.toInt64, .long (48 : Int64), .long (57 : Int64)] (c_X9_in l κ G cy ad H.size σ q1.toInt64 (48 : Int64) (57 : Int64) rfl) mi_X9_in rfl st_yX9_in ml_RX9_83 ⟨rfl, rfl, Nat.le_trans (Nat.le_of_ble_eq_true rfl) hR.1, Nat.le_trans (Nat.le_of_ble_eq_true rfl) hR.2⟩ hl (Nat.le_of_ble_eq_true rfl) dX9_next_175 ⟨Nat.zero_le _, Nat.zero_le _⟩ rfl) (fun H locs h hX hz3 => ?_)
    refine lv_if_eq (tgt := 235) C.1 C.2.1 dX9_next_178 (by decide) (fun c4 => ?_) (fun c4 => ?_)
    · have hf := if_t hf c4
      refine lv_aload_n C.1 C.2.1 dX9_next_235 rfl (lv_at hl 0 rfl) ?_
      refine lv_iload_n C.1 C.2.1 dX9_next_236 rfl (lv_at hl 1 rfl) ?_
      refine lv_iconst (v := (4 : Int32)) C.1 C.2.1 dX9_next_237 (by decide) ?_
      refine lv_icmp_le (tgt := 245) C.1 C.2.1 dX9_next_238 (by decide) (fun c5 => ?_) (fun c5 => ?_)
      · have hf := if_t hf c5
        refine lv_iconst (v := (2 : Int32)) C.1 C.2.1 dX9_next_245 (by decide) ?_
        refine x_putI C K h cl_9 hk_v0 21 (by decide) fl_RX9_159 rfl rfl rfl (Nat.le_of_ble_eq_true rfl) (fun _ _ _ => rfl) dX9_next_246 (fun H locs h => ?_)
        have hE := hE.up (up_i σ v0 21 (2 : Int32))
        refine lv_goto (tgt := 321) C.1 C.2.1 dX9_next_249 (by decide) ?_
        exact x_rv C hr hlk h hE (Option.some.inj hf) dX9_next_321
      · have hf := if_f hf c5
        refine lv_iconst (v := (4 : Int32)) C.1 C.2.1 dX9_next_241 (by decide) ?_
        refine lv_goto (tgt := 246) C.1 C.2.1 dX9_next_242 (by decide) ?_
        refine x_putI C K h cl_9 hk_v0 21 (by decide) fl_RX9_159 rfl rfl rfl (Nat.le_of_ble_eq_true rfl) (fun _ _ _ => rfl) dX9_next_246 (fun H locs h => ?_)
        have hE := hE.up (up_i σ v0 21 (4 : Int32))
        refine lv_goto (tgt := 321) C.1 C.2.1 dX9_next_249 (by decide) ?_
        exact x_rv C hr hlk h hE (Option.some.inj hf) dX9_next_321
    · have hf := if_f hf c4
      refine lv_aload_n C.1 C.2.1 dX9_next_181 rfl (lv_at hl 0 rfl) ?_
      refine lv_iload_n C.1 C.2.1 dX9_next_182 rfl (lv_at hl 1 rfl) ?_
      refine lv_iconst (v := (4 : Int32)) C.1 C.2.1 dX9_next_183 (by decide) ?_
      refine lv_icmp_ge (tgt := 212) C.1 C.2.1 dX9_next_184 (by decide) (fun c6 => ?_) (fun c6 => ?_)
      · have hf := if_t hf c6
        refine lv_aload_n C.1 C.2.1 dX9_next_212 rfl (lv_at hl 0 rfl) ?_
        refine x_get (v := .long (sl_ σ v0 23)) C K h cl_9 hk_v0 23 (by decide) fl_RX9_170 rfl dX9_next_213 ?_
        refine x_putL C K h cl_9 hk_v0 23 (by decide) fl_RX9_170 rfl rfl rfl (Nat.le_of_ble_eq_true rfl) (fun _ _ _ => rfl) dX9_next_216 (fun H locs h => ?_)
        have hE := hE.up (up_l σ v0 23 (sl_ σ v0 23))
        refine lv_iinc (v := v2 + (1 : Int32)) (lv' := [(2, .int (v2 + (1 : Int32))), (0, .ref (ad v0))]) C.1 C.2.1 dX9_next_219 hl (k := 1) rfl rfl (by decide) rfl (fun ls hl => ?_)
        refine lv_aload_n C.1 C.2.1 dX9_next_222 rfl (lv_at hl 1 rfl) ?_
        refine lv_dup C.1 C.2.1 dX9_next_223 rfl ?_
        refine x_get (v := .int (si_ (ul_ σ v0 23 (sl_ σ v0 23)) v0 20)) C K h cl_9 hk_v0 20 (by decide) fl_RX9_150 rfl dX9_next_224 ?_
        refine lv_iconst (v := (1 : Int32)) C.1 C.2.1 dX9_next_227 (by decide) ?_
        refine lv_iadd C.1 C.2.1 dX9_next_228 ?_
        refine x_putI C K h cl_9 hk_v0 20 (by decide) fl_RX9_150 rfl rfl rfl (Nat.le_of_ble_eq_true rfl) (fun _ _ _ => rfl) dX9_next_229 (fun H locs h => ?_)
        have hE := hE.up (up_i (ul_ σ v0 23 (sl_ σ v0 23)) v0 20 ((si_ (ul_ σ v0 23 (sl_ σ v0 23)) v0 20) + (1 : Int32)))
        refine lv_goto (tgt := 160) C.1 C.2.1 dX9_next_232 (by decide) ?_
        exact ih (ui_ (ul_ σ v0 23 (sl_ σ v0 23)) v0 20 ((si_ (ul_ σ v0 23 (sl_ σ v0 23)) v0 20) + (1 : Int32))) v0 (v2 + (1 : Int32)) hE hk_v0 hf _ _ _ h (lv_sub hl [1, 0] rfl)
      · have hf := if_f hf c6
        refine lv_ldc2 (v := (10 : Int64)) C.1 C.2.1 C.2.2.2.1 (C.2.2.2.2 _ cl_RX9_128) dX9_next_187 ?_
        refine lv_aload_n C.1 C.2.1 dX9_next_190 rfl (lv_at hl 0 rfl) ?_
        refine x_get (v := .long (sl_ σ v0 23)) C K h cl_9 hk_v0 23 (by decide) fl_RX9_170 rfl dX9_next_191 ?_
        refine lv_lmul C.1 C.2.1 dX9_next_194 ?_
        refine lv_aload_n C.1 C.2.1 dX9_next_195 rfl (lv_at hl 0 rfl) ?_
        refine lv_aload_n C.1 C.2.1 dX9_next_196 rfl (lv_at hl 0 rfl) ?_
        refine x_get (v := .int (si_ σ v0 20)) C K h cl_9 hk_v0 20 (by decide) fl_RX9_150 rfl dX9_next_197 ?_
        obtain ⟨q7, hq_q7, hf⟩ := ob_ hf
        refine x_ai K h (x_V C K h [.int (si_ σ v0 20)] (c_X9_byteAt l κ G cy ad H.size σ v0 (si_ σ v0 20) hk_v0 hq_q7) mi_X9_byteAt rfl im_yX9_byteAt se_yX9_byteAt ml_RX9_153 cl_9 hk_v0 ⟨rfl, rfl, Nat.le_trans (Nat.le_of_ble_eq_true rfl) hR.1, Nat.le_trans (Nat.le_of_ble_eq_true rfl) hR.2⟩ hl (Nat.le_of_ble_eq_true rfl) dX9_next_200 ⟨Nat.zero_le _, Nat.zero_le _⟩ rfl) (fun H locs h hX => ?_)
        refine lv_i2l C.1 C.2.1 dX9_next_203 rfl ?_
        refine lv_ladd C.1 C.2.1 dX9_next_204 ?_
        refine lv_ldc2 (v := (48 : Int64)) C.1 C.2.1 C.2.2.2.1 (C.2.2.2.2 _ cl_RX9_166) dX9_next_205 ?_
        refine lv_lsub C.1 C.2.1 dX9_next_208 ?_
        refine lv_goto (tgt := 216) C.1 C.2.1 dX9_next_209 (by decide) ?_
        refine x_putL C K h cl_9 hk_v0 23 (by decide) fl_RX9_170 rfl rfl rfl (Nat.le_of_ble_eq_true rfl) (fun _ _ _ => rfl) dX9_next_216 (fun H locs h => ?_)
        have hE := hE.up (up_l σ v0 23 ((((10 : Int64) * (sl_ σ v0 23)) + q7.toInt64) - (48 : Int64)))
        refine lv_iinc (v := v2 + (1 : Int32)) (lv' := [(2, .int (v2 + (1 : Int32))), (0, .ref (ad v0))]) C.1 C.2.1 dX9_next_219 hl (k := 1) rfl rfl (by decide) rfl (fun ls hl => ?_)
        refine lv_aload_n C.1 C.2.1 dX9_next_222 rfl (lv_at hl 1 rfl) ?_
        refine lv_dup C.1 C.2.1 dX9_next_223 rfl ?_
        refine x_get (v := .int (si_ (ul_ σ v0 23 ((((10 : Int64) * (sl_ σ v0 23)) + q7.toInt64) - (48 : Int64))) v0 20)) C K h cl_9 hk_v0 20 (by decide) fl_RX9_150 rfl dX9_next_224 ?_
        refine lv_iconst (v := (1 : Int32)) C.1 C.2.1 dX9_next_227 (by decide) ?_
        refine lv_iadd C.1 C.2.1 dX9_next_228 ?_
        refine x_putI C K h cl_9 hk_v0 20 (by decide) fl_RX9_150 rfl rfl rfl (Nat.le_of_ble_eq_true rfl) (fun _ _ _ => rfl) dX9_next_229 (fun H locs h => ?_)
        have hE := hE.up (up_i (ul_ σ v0 23 ((((10 : Int64) * (sl_ σ v0 23)) + q7.toInt64) - (48 : Int64))) v0 20 ((si_ (ul_ σ v0 23 ((((10 : Int64) * (sl_ σ v0 23)) + q7.toInt64) - (48 : Int64))) v0 20) + (1 : Int32)))
        refine lv_goto (tgt := 160) C.1 C.2.1 dX9_next_232 (by decide) ?_
        exact ih (ui_ (ul_ σ v0 23 ((((10 : Int64) * (sl_ σ v0 23)) + q7.toInt64) - (48 : Int64))) v0 20 ((si_ (ul_ σ v0 23 ((((10 : Int64) * (sl_ σ v0 23)) + q7.toInt64) - (48 : Int64))) v0 20) + (1 : Int32))) v0 (v2 + (1 : Int32)) hE hk_v0 hf _ _ _ h (lv_sub hl [1, 0] rfl)
def f_X9_next_100 (fu : Nat) : Nat → St_ → Nat → Option St_
  | 0 => fun _ _ => none
  | n + 1 => fun σ  v0 => (f_X9_byteAt σ v0 (si_ σ v0 20)).bind fun q1 => if (f_X9_in q1.toInt64 (97 : Int64) (122 : Int64)) = 0 then some σ else (f_X9_next_100 fu n) (ui_ σ v0 20 ((si_ σ v0 20) + (1 : Int32))) v0
set_option maxHeartbeats 4000000 in
set_option maxRecDepth 100000 in
theorem w_X9_next_100 {p : Program} {l : Launch} {e : Env} {R : Room} {s : State} {m : MethodId} {args : Array Value} {below : List Frame} {meth : Method} {c : Code} {κ : Ka_} {G : va_G} {cy : Nat → ClassId} {ad : Nat → Nat} {sz : Nat} {σ0 : St_} (fu : Nat) (C : CallFix p m c cX9_next 3 s args wU_ RX9) (K : Kx_ κ G cy (va_A (wl_ cy ad σ0) sz) s) (hr : meth.sig.returnType = none) (hlk : meth.locks = false) (hR : 1 ≤ R.frames ∧ 25 ≤ R.locals) {q : St_} : ∀ n : Nat, ∀ (σ : St_) (v0 : Nat), Ex_ σ0 σ → kd_ σ v0 = 9 → f_X9_next_100 fu n σ v0 = some q → ∀ (H : Heap) (locs : List Loc) (ls : Array Slot), Ht_ G cy (va_A (wl_ cy ad σ0) sz) s ad σ H locs → lv_has ls 3 [(0, .ref (ad v0))] → W p l e R s m args below meth c H locs 0 0 (MQ below (Qv_ G cy ad σ0 q sz) args s 0 0 (va_A (wl_ cy ad σ0) sz)) (F0 m 100 ls []) := by
  intro n
  induction n with
  | zero =>
    intro σ v0 hE hk_v0 hf H locs ls h hl
    cases hf
  | succ n ih =>
    intro σ v0 hE hk_v0 hf H locs ls h hl
    have hf : ((f_X9_byteAt σ v0 (si_ σ v0 20)).bind fun q1 => if (f_X9_in q1.toInt64 (97 : Int64) (122 : Int64)) = 0 then some σ else (f_X9_next_100 fu n) (ui_ σ v0 20 ((si_ σ v0 20) + (1 : Int32))) v0) = some q := hf
    refine lv_aload_n C.1 C.2.1 dX9_next_100 rfl (lv_at hl 0 rfl) ?_
    refine lv_aload_n C.1 C.2.1 dX9_next_101 rfl (lv_at hl 0 rfl) ?_
    refine x_get (v := .int (si_ σ v0 20)) C K h cl_9 hk_v0 20 (by decide) fl_RX9_150 rfl dX9_next_102 ?_
    obtain ⟨q1, hq_q1, hf⟩ := ob_ hf
    refine x_ai K h (x_V C K h [.int (si_ σ v0 20)] (c_X9_byteAt l κ G cy ad H.size σ v0 (si_ σ v0 20) hk_v0 hq_q1) mi_X9_byteAt rfl im_yX9_byteAt se_yX9_byteAt ml_RX9_153 cl_9 hk_v0 ⟨rfl, rfl, Nat.le_trans (Nat.le_of_ble_eq_true rfl) hR.1, Nat.le_trans (Nat.le_of_ble_eq_true rfl) hR.2⟩ hl (Nat.le_of_ble_eq_true rfl) dX9_next_105 ⟨Nat.zero_le _, Nat.zero_le _⟩ rfl) (fun H locs h hX => ?_)
    refine lv_i2l C.1 C.2.1 dX9_next_108 rfl ?_
    refine lv_ldc2 (v := (97 : Int64)) C.1 C.2.1 C.2.2.2.1 (C.2.2.2.2 _ cl_RX9_162) dX9_next_109 ?_
    refine lv_ldc2 (v := (122 : Int64)) C.1 C.2.1 C.2.2.2.1 (C.2.2.2.2 _ cl_RX9_164) dX9_next_112 ?_
    refine x_az K h (x_S C K h [.long q1.toInt64, .long (97 : Int64), .long (122 : Int64)] (c_X9_in l κ G cy ad H.size σ q1.toInt64 (97 : Int64) (122 : Int64) rfl) mi_X9_in rfl st_yX9_in ml_RX9_83 ⟨rfl, rfl, Nat.le_trans (Nat.le_of_ble_eq_true rfl) hR.1, Nat.le_trans (Nat.le_of_ble_eq_true rfl) hR.2⟩ hl (Nat.le_of_ble_eq_true rfl) dX9_next_115 ⟨Nat.zero_le _, Nat.zero_le _⟩ rfl) (fun H locs h hX hz3 => ?_)
    refine lv_if_eq (tgt := 321) C.1 C.2.1 dX9_next_118 (by decide) (fun c4 => ?_) (fun c4 => ?_)
    · have hf := if_t hf c4
      exact x_rv C hr hlk h hE (Option.some.inj hf) dX9_next_321
    · have hf := if_f hf c4
      refine lv_aload_n C.1 C.2.1 dX9_next_121 rfl (lv_at hl 0 rfl) ?_
      refine lv_dup C.1 C.2.1 dX9_next_122 rfl ?_
      refine x_get (v := .int (si_ σ v0 20)) C K h cl_9 hk_v0 20 (by decide) fl_RX9_150 rfl dX9_next_123 ?_
      refine lv_iconst (v := (1 : Int32)) C.1 C.2.1 dX9_next_126 (by decide) ?_
      refine lv_iadd C.1 C.2.1 dX9_next_127 ?_
      refine x_putI C K h cl_9 hk_v0 20 (by decide) fl_RX9_150 rfl rfl rfl (Nat.le_of_ble_eq_true rfl) (fun _ _ _ => rfl) dX9_next_128 (fun H locs h => ?_)
      have hE := hE.up (up_i σ v0 20 ((si_ σ v0 20) + (1 : Int32)))
      refine lv_goto (tgt := 100) C.1 C.2.1 dX9_next_131 (by decide) ?_
      exact ih (ui_ σ v0 20 ((si_ σ v0 20) + (1 : Int32))) v0 hE hk_v0 hf _ _ _ h (lv_sub hl [0] rfl)
def f_X9_next_0 (fu : Nat) : Nat → St_ → Nat → Option St_
  | 0 => fun _ _ => none
  | n + 1 => fun σ  v0 => (f_X9_byteAt σ v0 (si_ σ v0 20)).bind fun q1 => if q1 = (32 : Int32) then (f_X9_next_0 fu n) (ui_ σ v0 20 ((si_ σ v0 20) + (1 : Int32))) v0 else (f_X9_byteAt σ v0 (si_ σ v0 20)).bind fun q3 => if q3 = (10 : Int32) then (f_X9_next_0 fu n) (ui_ σ v0 20 ((si_ σ v0 20) + (1 : Int32))) v0 else (f_X9_byteAt (ui_ σ v0 22 (si_ σ v0 20)) v0 (si_ (ui_ σ v0 22 (si_ σ v0 20)) v0 20)).bind fun q5 => if 0 ≤ q5 then if (f_X9_in q5.toInt64 (97 : Int64) (122 : Int64)) = 0 then if (f_X9_in q5.toInt64 (48 : Int64) (57 : Int64)) = 0 then if q5 = (40 : Int32) then f_X9_next_300 fu (ui_ (ui_ σ v0 22 (si_ σ v0 20)) v0 21 (4 : Int32)) v0 q5 else if q5 = (41 : Int32) then f_X9_next_300 fu (ui_ (ui_ σ v0 22 (si_ σ v0 20)) v0 21 (4 : Int32)) v0 q5 else if q5 = (59 : Int32) then f_X9_next_300 fu (ui_ (ui_ σ v0 22 (si_ σ v0 20)) v0 21 (4 : Int32)) v0 q5 else if q5 = (43 : Int32) then f_X9_next_300 fu (ui_ (ui_ σ v0 22 (si_ σ v0 20)) v0 21 (4 : Int32)) v0 q5 else if q5 = (45 : Int32) then f_X9_next_300 fu (ui_ (ui_ σ v0 22 (si_ σ v0 20)) v0 21 (4 : Int32)) v0 q5 else if q5 = (42 : Int32) then f_X9_next_300 fu (ui_ (ui_ σ v0 22 (si_ σ v0 20)) v0 21 (4 : Int32)) v0 q5 else if q5 = (60 : Int32) then f_X9_next_300 fu (ui_ (ui_ σ v0 22 (si_ σ v0 20)) v0 21 (4 : Int32)) v0 q5 else if q5 = (61 : Int32) then f_X9_next_300 fu (ui_ (ui_ σ v0 22 (si_ σ v0 20)) v0 21 (4 : Int32)) v0 q5 else some (ui_ (ui_ σ v0 22 (si_ σ v0 20)) v0 21 (4 : Int32)) else f_X9_next_160 fu fu (ul_ (ui_ (ui_ (ui_ σ v0 22 (si_ σ v0 20)) v0 21 (4 : Int32)) v0 21 (2 : Int32)) v0 23 (0 : Int64)) v0 (0 : Int32) else f_X9_next_100 fu fu (ui_ (ui_ (ui_ σ v0 22 (si_ σ v0 20)) v0 21 (4 : Int32)) v0 21 (1 : Int32)) v0 else some (ui_ (ui_ (ui_ (ui_ σ v0 22 (si_ σ v0 20)) v0 21 (4 : Int32)) v0 21 (0 : Int32)) v0 22 (si_ (ui_ (ui_ (ui_ σ v0 22 (si_ σ v0 20)) v0 21 (4 : Int32)) v0 21 (0 : Int32)) v0 19))
set_option maxHeartbeats 4000000 in
set_option maxRecDepth 100000 in
theorem w_X9_next_0 {p : Program} {l : Launch} {e : Env} {R : Room} {s : State} {m : MethodId} {args : Array Value} {below : List Frame} {meth : Method} {c : Code} {κ : Ka_} {G : va_G} {cy : Nat → ClassId} {ad : Nat → Nat} {sz : Nat} {σ0 : St_} (fu : Nat) (C : CallFix p m c cX9_next 3 s args wU_ RX9) (K : Kx_ κ G cy (va_A (wl_ cy ad σ0) sz) s) (hr : meth.sig.returnType = none) (hlk : meth.locks = false) (hR : 1 ≤ R.frames ∧ 25 ≤ R.locals) {q : St_} : ∀ n : Nat, ∀ (σ : St_) (v0 : Nat), Ex_ σ0 σ → kd_ σ v0 = 9 → f_X9_next_0 fu n σ v0 = some q → ∀ (H : Heap) (locs : List Loc) (ls : Array Slot), Ht_ G cy (va_A (wl_ cy ad σ0) sz) s ad σ H locs → lv_has ls 3 [(0, .ref (ad v0))] → W p l e R s m args below meth c H locs 0 0 (MQ below (Qv_ G cy ad σ0 q sz) args s 0 0 (va_A (wl_ cy ad σ0) sz)) (F0 m 0 ls []) := by
  intro n
  induction n with
  | zero =>
    intro σ v0 hE hk_v0 hf H locs ls h hl
    cases hf
  | succ n ih =>
    intro σ v0 hE hk_v0 hf H locs ls h hl
    have hf : ((f_X9_byteAt σ v0 (si_ σ v0 20)).bind fun q1 => if q1 = (32 : Int32) then (f_X9_next_0 fu n) (ui_ σ v0 20 ((si_ σ v0 20) + (1 : Int32))) v0 else (f_X9_byteAt σ v0 (si_ σ v0 20)).bind fun q3 => if q3 = (10 : Int32) then (f_X9_next_0 fu n) (ui_ σ v0 20 ((si_ σ v0 20) + (1 : Int32))) v0 else (f_X9_byteAt (ui_ σ v0 22 (si_ σ v0 20)) v0 (si_ (ui_ σ v0 22 (si_ σ v0 20)) v0 20)).bind fun q5 => if 0 ≤ q5 then if (f_X9_in q5.toInt64 (97 : Int64) (122 : Int64)) = 0 then if (f_X9_in q5.toInt64 (48 : Int64) (57 : Int64)) = 0 then if q5 = (40 : Int32) then f_X9_next_300 fu (ui_ (ui_ σ v0 22 (si_ σ v0 20)) v0 21 (4 : Int32)) v0 q5 else if q5 = (41 : Int32) then f_X9_next_300 fu (ui_ (ui_ σ v0 22 (si_ σ v0 20)) v0 21 (4 : Int32)) v0 q5 else if q5 = (59 : Int32) then f_X9_next_300 fu (ui_ (ui_ σ v0 22 (si_ σ v0 20)) v0 21 (4 : Int32)) v0 q5 else if q5 = (43 : Int32) then f_X9_next_300 fu (ui_ (ui_ σ v0 22 (si_ σ v0 20)) v0 21 (4 : Int32)) v0 q5 else if q5 = (45 : Int32) then f_X9_next_300 fu (ui_ (ui_ σ v0 22 (si_ σ v0 20)) v0 21 (4 : Int32)) v0 q5 else if q5 = (42 : Int32) then f_X9_next_300 fu (ui_ (ui_ σ v0 22 (si_ σ v0 20)) v0 21 (4 : Int32)) v0 q5 else if q5 = (60 : Int32) then f_X9_next_300 fu (ui_ (ui_ σ v0 22 (si_ σ v0 20)) v0 21 (4 : Int32)) v0 q5 else if q5 = (61 : Int32) then f_X9_next_300 fu (ui_ (ui_ σ v0 22 (si_ σ v0 20)) v0 21 (4 : Int32)) v0 q5 else some (ui_ (ui_ σ v0 22 (si_ σ v0 20)) v0 21 (4 : Int32)) else f_X9_next_160 fu fu (ul_ (ui_ (ui_ (ui_ σ v0 22 (si_ σ v0 20)) v0 21 (4 : Int32)) v0 21 (2 : Int32)) v0 23 (0 : Int64)) v0 (0 : Int32) else f_X9_next_100 fu fu (ui_ (ui_ (ui_ σ v0 22 (si_ σ v0 20)) v0 21 (4 : Int32)) v0 21 (1 : Int32)) v0 else some (ui_ (ui_ (ui_ (ui_ σ v0 22 (si_ σ v0 20)) v0 21 (4 : Int32)) v0 21 (0 : Int32)) v0 22 (si_ (ui_ (ui_ (ui_ σ v0 22 (si_ σ v0 20)) v0 21 (4 : Int32)) v0 21 (0 : Int32)) v0 19))) = some q := hf
    refine lv_aload_n C.1 C.2.1 dX9_next_0 rfl (lv_at hl 0 rfl) ?_
    refine lv_aload_n C.1 C.2.1 dX9_next_1 rfl (lv_at hl 0 rfl) ?_
    refine x_get (v := .int (si_ σ v0 20)) C K h cl_9 hk_v0 20 (by decide) fl_RX9_150 rfl dX9_next_2 ?_
    obtain ⟨q1, hq_q1, hf⟩ := ob_ hf
    refine x_ai K h (x_V C K h [.int (si_ σ v0 20)] (c_X9_byteAt l κ G cy ad H.size σ v0 (si_ σ v0 20) hk_v0 hq_q1) mi_X9_byteAt rfl im_yX9_byteAt se_yX9_byteAt ml_RX9_153 cl_9 hk_v0 ⟨rfl, rfl, Nat.le_trans (Nat.le_of_ble_eq_true rfl) hR.1, Nat.le_trans (Nat.le_of_ble_eq_true rfl) hR.2⟩ hl (Nat.le_of_ble_eq_true rfl) dX9_next_5 ⟨Nat.zero_le _, Nat.zero_le _⟩ rfl) (fun H locs h hX => ?_)
    refine lv_bipush (v := (32 : Int32)) C.1 C.2.1 dX9_next_8 (by decide) ?_
    refine lv_icmp_eq (tgt := 26) C.1 C.2.1 dX9_next_10 (by decide) (fun c2 => ?_) (fun c2 => ?_)
    · have hf := if_t hf c2
      refine lv_aload_n C.1 C.2.1 dX9_next_26 rfl (lv_at hl 0 rfl) ?_
      refine lv_dup C.1 C.2.1 dX9_next_27 rfl ?_
      refine x_get (v := .int (si_ σ v0 20)) C K h cl_9 hk_v0 20 (by decide) fl_RX9_150 rfl dX9_next_28 ?_
      refine lv_iconst (v := (1 : Int32)) C.1 C.2.1 dX9_next_31 (by decide) ?_
      refine lv_iadd C.1 C.2.1 dX9_next_32 ?_
      refine x_putI C K h cl_9 hk_v0 20 (by decide) fl_RX9_150 rfl rfl rfl (Nat.le_of_ble_eq_true rfl) (fun _ _ _ => rfl) dX9_next_33 (fun H locs h => ?_)
      have hE := hE.up (up_i σ v0 20 ((si_ σ v0 20) + (1 : Int32)))
      refine lv_goto (tgt := 0) C.1 C.2.1 dX9_next_36 (by decide) ?_
      exact ih (ui_ σ v0 20 ((si_ σ v0 20) + (1 : Int32))) v0 hE hk_v0 hf _ _ _ h (lv_sub hl [0] rfl)
    · have hf := if_f hf c2
      refine lv_aload_n C.1 C.2.1 dX9_next_13 rfl (lv_at hl 0 rfl) ?_
      refine lv_aload_n C.1 C.2.1 dX9_next_14 rfl (lv_at hl 0 rfl) ?_
      refine x_get (v := .int (si_ σ v0 20)) C K h cl_9 hk_v0 20 (by decide) fl_RX9_150 rfl dX9_next_15 ?_
      obtain ⟨q3, hq_q3, hf⟩ := ob_ hf
      refine x_ai K h (x_V C K h [.int (si_ σ v0 20)] (c_X9_byteAt l κ G cy ad H.size σ v0 (si_ σ v0 20) hk_v0 hq_q3) mi_X9_byteAt rfl im_yX9_byteAt se_yX9_byteAt ml_RX9_153 cl_9 hk_v0 ⟨rfl, rfl, Nat.le_trans (Nat.le_of_ble_eq_true rfl) hR.1, Nat.le_trans (Nat.le_of_ble_eq_true rfl) hR.2⟩ hl (Nat.le_of_ble_eq_true rfl) dX9_next_18 ⟨Nat.zero_le _, Nat.zero_le _⟩ rfl) (fun H locs h hX => ?_)
      refine lv_bipush (v := (10 : Int32)) C.1 C.2.1 dX9_next_21 (by decide) ?_
      refine lv_icmp_ne (tgt := 39) C.1 C.2.1 dX9_next_23 (by decide) (fun c4 => ?_) (fun c4 => ?_)
      · have hf := if_f hf c4
        refine lv_aload_n C.1 C.2.1 dX9_next_39 rfl (lv_at hl 0 rfl) ?_
        refine lv_aload_n C.1 C.2.1 dX9_next_40 rfl (lv_at hl 0 rfl) ?_
        refine x_get (v := .int (si_ σ v0 20)) C K h cl_9 hk_v0 20 (by decide) fl_RX9_150 rfl dX9_next_41 ?_
        refine x_putI C K h cl_9 hk_v0 22 (by decide) fl_RX9_156 rfl rfl rfl (Nat.le_of_ble_eq_true rfl) (fun _ _ _ => rfl) dX9_next_44 (fun H locs h => ?_)
        have hE := hE.up (up_i σ v0 22 (si_ σ v0 20))
        refine lv_aload_n C.1 C.2.1 dX9_next_47 rfl (lv_at hl 0 rfl) ?_
        refine lv_aload_n C.1 C.2.1 dX9_next_48 rfl (lv_at hl 0 rfl) ?_
        refine x_get (v := .int (si_ (ui_ σ v0 22 (si_ σ v0 20)) v0 20)) C K h cl_9 hk_v0 20 (by decide) fl_RX9_150 rfl dX9_next_49 ?_
        obtain ⟨q5, hq_q5, hf⟩ := ob_ hf
        refine x_ai K h (x_V C K h [.int (si_ (ui_ σ v0 22 (si_ σ v0 20)) v0 20)] (c_X9_byteAt l κ G cy ad H.size (ui_ σ v0 22 (si_ σ v0 20)) v0 (si_ (ui_ σ v0 22 (si_ σ v0 20)) v0 20) hk_v0 hq_q5) mi_X9_byteAt rfl im_yX9_byteAt se_yX9_byteAt ml_RX9_153 cl_9 hk_v0 ⟨rfl, rfl, Nat.le_trans (Nat.le_of_ble_eq_true rfl) hR.1, Nat.le_trans (Nat.le_of_ble_eq_true rfl) hR.2⟩ hl (Nat.le_of_ble_eq_true rfl) dX9_next_52 ⟨Nat.zero_le _, Nat.zero_le _⟩ rfl) (fun H locs h hX => ?_)
        refine lv_istore_n (i := 1) (lv' := [(1, .int q5), (0, .ref (ad v0))]) C.1 C.2.1 dX9_next_55 rfl hl (by decide) rfl (fun ls hl => ?_)
        refine lv_aload_n C.1 C.2.1 dX9_next_56 rfl (lv_at hl 1 rfl) ?_
        refine lv_iconst (v := (4 : Int32)) C.1 C.2.1 dX9_next_57 (by decide) ?_
        refine x_putI C K h cl_9 hk_v0 21 (by decide) fl_RX9_159 rfl rfl rfl (Nat.le_of_ble_eq_true rfl) (fun _ _ _ => rfl) dX9_next_58 (fun H locs h => ?_)
        have hE := hE.up (up_i (ui_ σ v0 22 (si_ σ v0 20)) v0 21 (4 : Int32))
        refine lv_iload_n C.1 C.2.1 dX9_next_61 rfl (lv_at hl 0 rfl) ?_
        refine lv_if_ge (tgt := 81) C.1 C.2.1 dX9_next_62 (by decide) (fun c6 => ?_) (fun c6 => ?_)
        · have hf := if_t hf c6
          refine lv_iload_n C.1 C.2.1 dX9_next_81 rfl (lv_at hl 0 rfl) ?_
          refine lv_i2l C.1 C.2.1 dX9_next_82 rfl ?_
          refine lv_ldc2 (v := (97 : Int64)) C.1 C.2.1 C.2.2.2.1 (C.2.2.2.2 _ cl_RX9_162) dX9_next_83 ?_
          refine lv_ldc2 (v := (122 : Int64)) C.1 C.2.1 C.2.2.2.1 (C.2.2.2.2 _ cl_RX9_164) dX9_next_86 ?_
          refine x_az K h (x_S C K h [.long q5.toInt64, .long (97 : Int64), .long (122 : Int64)] (c_X9_in l κ G cy ad H.size (ui_ (ui_ σ v0 22 (si_ σ v0 20)) v0 21 (4 : Int32)) q5.toInt64 (97 : Int64) (122 : Int64) rfl) mi_X9_in rfl st_yX9_in ml_RX9_83 ⟨rfl, rfl, Nat.le_trans (Nat.le_of_ble_eq_true rfl) hR.1, Nat.le_trans (Nat.le_of_ble_eq_true rfl) hR.2⟩ hl (Nat.le_of_ble_eq_true rfl) dX9_next_89 ⟨Nat.zero_le _, Nat.zero_le _⟩ rfl) (fun H locs h hX hz8 => ?_)
          refine lv_if_eq (tgt := 134) C.1 C.2.1 dX9_next_92 (by decide) (fun c9 => ?_) (fun c9 => ?_)
          · have hf := if_t hf c9
            refine lv_iload_n C.1 C.2.1 dX9_next_134 rfl (lv_at hl 0 rfl) ?_
            refine lv_i2l C.1 C.2.1 dX9_next_135 rfl ?_
            refine lv_ldc2 (v := (48 : Int64)) C.1 C.2.1 C.2.2.2.1 (C.2.2.2.2 _ cl_RX9_166) dX9_next_136 ?_
            refine lv_ldc2 (v := (57 : Int64)) C.1 C.2.1 C.2.2.2.1 (C.2.2.2.2 _ cl_RX9_168) dX9_next_139 ?_
            refine x_az K h (x_S C K h [.long q5.toInt64, .long (48 : Int64), .long (57 : Int64)] (c_X9_in l κ G cy ad H.size (ui_ (ui_ σ v0 22 (si_ σ v0 20)) v0 21 (4 : Int32)) q5.toInt64 (48 : Int64) (57 : Int64) rfl) mi_X9_in rfl st_yX9_in ml_RX9_83 ⟨rfl, rfl, Nat.le_trans (Nat.le_of_ble_eq_true rfl) hR.1, Nat.le_trans (Nat.le_of_ble_eq_true rfl) hR.2⟩ hl (Nat.le_of_ble_eq_true rfl) dX9_next_142 ⟨Nat.zero_le _, Nat.zero_le _⟩ rfl) (fun H locs h hX hz11 => ?_)
            refine lv_if_eq (tgt := 252) C.1 C.2.1 dX9_next_145 (by decide) (fun c12 => ?_) (fun c12 => ?_)
            · have hf := if_t hf c12
              refine lv_iload_n C.1 C.2.1 dX9_next_252 rfl (lv_at hl 0 rfl) ?_
              refine lv_bipush (v := (40 : Int32)) C.1 C.2.1 dX9_next_253 (by decide) ?_
              refine lv_icmp_eq (tgt := 300) C.1 C.2.1 dX9_next_255 (by decide) (fun c13 => ?_) (fun c13 => ?_)
              · have hf := if_t hf c13
                exact w_X9_next_300 fu C K hr hlk hR (ui_ (ui_ σ v0 22 (si_ σ v0 20)) v0 21 (4 : Int32)) v0 q5 hE hk_v0 hf _ _ _ h (lv_sub hl [1, 0] rfl)
              · have hf := if_f hf c13
                refine lv_iload_n C.1 C.2.1 dX9_next_258 rfl (lv_at hl 0 rfl) ?_
                refine lv_bipush (v := (41 : Int32)) C.1 C.2.1 dX9_next_259 (by decide) ?_
                refine lv_icmp_eq (tgt := 300) C.1 C.2.1 dX9_next_261 (by decide) (fun c14 => ?_) (fun c14 => ?_)
                · have hf := if_t hf c14
                  exact w_X9_next_300 fu C K hr hlk hR (ui_ (ui_ σ v0 22 (si_ σ v0 20)) v0 21 (4 : Int32)) v0 q5 hE hk_v0 hf _ _ _ h (lv_sub hl [1, 0] rfl)
                · have hf := if_f hf c14
                  refine lv_iload_n C.1 C.2.1 dX9_next_264 rfl (lv_at hl 0 rfl) ?_
                  refine lv_bipush (v := (59 : Int32)) C.1 C.2.1 dX9_next_265 (by decide) ?_
                  refine lv_icmp_eq (tgt := 300) C.1 C.2.1 dX9_next_267 (by decide) (fun c15 => ?_) (fun c15 => ?_)
                  · have hf := if_t hf c15
                    exact w_X9_next_300 fu C K hr hlk hR (ui_ (ui_ σ v0 22 (si_ σ v0 20)) v0 21 (4 : Int32)) v0 q5 hE hk_v0 hf _ _ _ h (lv_sub hl [1, 0] rfl)
                  · have hf := if_f hf c15
                    refine lv_iload_n C.1 C.2.1 dX9_next_270 rfl (lv_at hl 0 rfl) ?_
                    refine lv_bipush (v := (43 : Int32)) C.1 C.2.1 dX9_next_271 (by decide) ?_
                    refine lv_icmp_eq (tgt := 300) C.1 C.2.1 dX9_next_273 (by decide) (fun c16 => ?_) (fun c16 => ?_)
                    · have hf := if_t hf c16
                      exact w_X9_next_300 fu C K hr hlk hR (ui_ (ui_ σ v0 22 (si_ σ v0 20)) v0 21 (4 : Int32)) v0 q5 hE hk_v0 hf _ _ _ h (lv_sub hl [1, 0] rfl)
                    · have hf := if_f hf c16
                      refine lv_iload_n C.1 C.2.1 dX9_next_276 rfl (lv_at hl 0 rfl) ?_
                      refine lv_bipush (v := (45 : Int32)) C.1 C.2.1 dX9_next_277 (by decide) ?_
                      refine lv_icmp_eq (tgt := 300) C.1 C.2.1 dX9_next_279 (by decide) (fun c17 => ?_) (fun c17 => ?_)
                      · have hf := if_t hf c17
                        exact w_X9_next_300 fu C K hr hlk hR (ui_ (ui_ σ v0 22 (si_ σ v0 20)) v0 21 (4 : Int32)) v0 q5 hE hk_v0 hf _ _ _ h (lv_sub hl [1, 0] rfl)
                      · have hf := if_f hf c17
                        refine lv_iload_n C.1 C.2.1 dX9_next_282 rfl (lv_at hl 0 rfl) ?_
                        refine lv_bipush (v := (42 : Int32)) C.1 C.2.1 dX9_next_283 (by decide) ?_
                        refine lv_icmp_eq (tgt := 300) C.1 C.2.1 dX9_next_285 (by decide) (fun c18 => ?_) (fun c18 => ?_)
                        · have hf := if_t hf c18
                          exact w_X9_next_300 fu C K hr hlk hR (ui_ (ui_ σ v0 22 (si_ σ v0 20)) v0 21 (4 : Int32)) v0 q5 hE hk_v0 hf _ _ _ h (lv_sub hl [1, 0] rfl)
                        · have hf := if_f hf c18
                          refine lv_iload_n C.1 C.2.1 dX9_next_288 rfl (lv_at hl 0 rfl) ?_
                          refine lv_bipush (v := (60 : Int32)) C.1 C.2.1 dX9_next_289 (by decide) ?_
                          refine lv_icmp_eq (tgt := 300) C.1 C.2.1 dX9_next_291 (by decide) (fun c19 => ?_) (fun c19 => ?_)
                          · have hf := if_t hf c19
                            exact w_X9_next_300 fu C K hr hlk hR (ui_ (ui_ σ v0 22 (si_ σ v0 20)) v0 21 (4 : Int32)) v0 q5 hE hk_v0 hf _ _ _ h (lv_sub hl [1, 0] rfl)
                          · have hf := if_f hf c19
                            refine lv_iload_n C.1 C.2.1 dX9_next_294 rfl (lv_at hl 0 rfl) ?_
                            refine lv_bipush (v := (61 : Int32)) C.1 C.2.1 dX9_next_295 (by decide) ?_
                            refine lv_icmp_ne (tgt := 321) C.1 C.2.1 dX9_next_297 (by decide) (fun c20 => ?_) (fun c20 => ?_)
                            · have hf := if_f hf c20
                              exact x_rv C hr hlk h hE (Option.some.inj hf) dX9_next_321
                            · have hf := if_t hf c20
                              exact w_X9_next_300 fu C K hr hlk hR (ui_ (ui_ σ v0 22 (si_ σ v0 20)) v0 21 (4 : Int32)) v0 q5 hE hk_v0 hf _ _ _ h (lv_sub hl [1, 0] rfl)
            · have hf := if_f hf c12
              refine lv_aload_n C.1 C.2.1 dX9_next_148 rfl (lv_at hl 1 rfl) ?_
              refine lv_iconst (v := (2 : Int32)) C.1 C.2.1 dX9_next_149 (by decide) ?_
              refine x_putI C K h cl_9 hk_v0 21 (by decide) fl_RX9_159 rfl rfl rfl (Nat.le_of_ble_eq_true rfl) (fun _ _ _ => rfl) dX9_next_150 (fun H locs h => ?_)
              have hE := hE.up (up_i (ui_ (ui_ σ v0 22 (si_ σ v0 20)) v0 21 (4 : Int32)) v0 21 (2 : Int32))
              refine lv_aload_n C.1 C.2.1 dX9_next_153 rfl (lv_at hl 1 rfl) ?_
              refine lv_lconst (v := (0 : Int64)) C.1 C.2.1 dX9_next_154 (by decide) ?_
              refine x_putL C K h cl_9 hk_v0 23 (by decide) fl_RX9_170 rfl rfl rfl (Nat.le_of_ble_eq_true rfl) (fun _ _ _ => rfl) dX9_next_155 (fun H locs h => ?_)
              have hE := hE.up (up_l (ui_ (ui_ (ui_ σ v0 22 (si_ σ v0 20)) v0 21 (4 : Int32)) v0 21 (2 : Int32)) v0 23 (0 : Int64))
              refine lv_iconst (v := (0 : Int32)) C.1 C.2.1 dX9_next_158 (by decide) ?_
              refine lv_istore_n (i := 2) (lv' := [(2, .int (0 : Int32)), (1, .int q5), (0, .ref (ad v0))]) C.1 C.2.1 dX9_next_159 rfl hl (by decide) rfl (fun ls hl => ?_)
              exact w_X9_next_160 fu C K hr hlk hR fu (ul_ (ui_ (ui_ (ui_ σ v0 22 (si_ σ v0 20)) v0 21 (4 : Int32)) v0 21 (2 : Int32)) v0 23 (0 : Int64)) v0 (0 : Int32) hE hk_v0 hf _ _ _ h (lv_sub hl [2, 0] rfl)
          · have hf := if_f hf c9
            refine lv_aload_n C.1 C.2.1 dX9_next_95 rfl (lv_at hl 1 rfl) ?_
            refine lv_iconst (v := (1 : Int32)) C.1 C.2.1 dX9_next_96 (by decide) ?_
            refine x_putI C K h cl_9 hk_v0 21 (by decide) fl_RX9_159 rfl rfl rfl (Nat.le_of_ble_eq_true rfl) (fun _ _ _ => rfl) dX9_next_97 (fun H locs h => ?_)
            have hE := hE.up (up_i (ui_ (ui_ σ v0 22 (si_ σ v0 20)) v0 21 (4 : Int32)) v0 21 (1 : Int32))
            exact w_X9_next_100 fu C K hr hlk hR fu (ui_ (ui_ (ui_ σ v0 22 (si_ σ v0 20)) v0 21 (4 : Int32)) v0 21 (1 : Int32)) v0 hE hk_v0 hf _ _ _ h (lv_sub hl [1] rfl)
        · have hf := if_f hf c6
          refine lv_aload_n C.1 C.2.1 dX9_next_65 rfl (lv_at hl 1 rfl) ?_
          refine lv_iconst (v := (0 : Int32)) C.1 C.2.1 dX9_next_66 (by decide) ?_
          refine x_putI C K h cl_9 hk_v0 21 (by decide) fl_RX9_159 rfl rfl rfl (Nat.le_of_ble_eq_true rfl) (fun _ _ _ => rfl) dX9_next_67 (fun H locs h => ?_)
          have hE := hE.up (up_i (ui_ (ui_ σ v0 22 (si_ σ v0 20)) v0 21 (4 : Int32)) v0 21 (0 : Int32))
          refine lv_aload_n C.1 C.2.1 dX9_next_70 rfl (lv_at hl 1 rfl) ?_
          refine lv_aload_n C.1 C.2.1 dX9_next_71 rfl (lv_at hl 1 rfl) ?_
          refine x_get (v := .int (si_ (ui_ (ui_ (ui_ σ v0 22 (si_ σ v0 20)) v0 21 (4 : Int32)) v0 21 (0 : Int32)) v0 19)) C K h cl_9 hk_v0 19 (by decide) fl_RX9_144 rfl dX9_next_72 ?_
          refine x_putI C K h cl_9 hk_v0 22 (by decide) fl_RX9_156 rfl rfl rfl (Nat.le_of_ble_eq_true rfl) (fun _ _ _ => rfl) dX9_next_75 (fun H locs h => ?_)
          have hE := hE.up (up_i (ui_ (ui_ (ui_ σ v0 22 (si_ σ v0 20)) v0 21 (4 : Int32)) v0 21 (0 : Int32)) v0 22 (si_ (ui_ (ui_ (ui_ σ v0 22 (si_ σ v0 20)) v0 21 (4 : Int32)) v0 21 (0 : Int32)) v0 19))
          refine lv_goto (tgt := 321) C.1 C.2.1 dX9_next_78 (by decide) ?_
          exact x_rv C hr hlk h hE (Option.some.inj hf) dX9_next_321
      · have hf := if_t hf c4
        refine lv_aload_n C.1 C.2.1 dX9_next_26 rfl (lv_at hl 0 rfl) ?_
        refine lv_dup C.1 C.2.1 dX9_next_27 rfl ?_
        refine x_get (v := .int (si_ σ v0 20)) C K h cl_9 hk_v0 20 (by decide) fl_RX9_150 rfl dX9_next_28 ?_
        refine lv_iconst (v := (1 : Int32)) C.1 C.2.1 dX9_next_31 (by decide) ?_
        refine lv_iadd C.1 C.2.1 dX9_next_32 ?_
        refine x_putI C K h cl_9 hk_v0 20 (by decide) fl_RX9_150 rfl rfl rfl (Nat.le_of_ble_eq_true rfl) (fun _ _ _ => rfl) dX9_next_33 (fun H locs h => ?_)
        have hE := hE.up (up_i σ v0 20 ((si_ σ v0 20) + (1 : Int32)))
        refine lv_goto (tgt := 0) C.1 C.2.1 dX9_next_36 (by decide) ?_
        exact ih (ui_ σ v0 20 ((si_ σ v0 20) + (1 : Int32))) v0 hE hk_v0 hf _ _ _ h (lv_sub hl [0] rfl)
def f_X9_next (fu : Nat) (σ : St_) (a0 : Nat) : Option St_ := f_X9_next_0 fu fu σ a0
set_option maxHeartbeats 4000000 in
set_option maxRecDepth 100000 in
theorem w_X9_next {p : Program} {l : Launch} {e : Env} {R : Room} {s : State} {m : MethodId} {args : Array Value} {below : List Frame} {meth : Method} {c : Code} {κ : Ka_} {G : va_G} {cy : Nat → ClassId} {ad : Nat → Nat} {sz : Nat} {σ0 : St_} (fu : Nat) (C : CallFix p m c cX9_next 3 s args wU_ RX9) (K : Kx_ κ G cy (va_A (wl_ cy ad σ0) sz) s) (hr : meth.sig.returnType = none) (hlk : meth.locks = false) (hR : 1 ≤ R.frames ∧ 25 ≤ R.locals) {q : St_} : ∀ (σ : St_) (a0 : Nat), Ex_ σ0 σ → kd_ σ a0 = 9 → f_X9_next fu σ a0 = some q → ∀ (H : Heap) (locs : List Loc) (ls : Array Slot), Ht_ G cy (va_A (wl_ cy ad σ0) sz) s ad σ H locs → lv_has ls 3 [(0, .ref (ad a0))] → W p l e R s m args below meth c H locs 0 0 (MQ below (Qv_ G cy ad σ0 q sz) args s 0 0 (va_A (wl_ cy ad σ0) sz)) (F0 m 0 ls []) := by
  intro σ a0 hE hk_a0 hf H locs ls h hl
  have hf : (f_X9_next_0 fu fu σ a0) = some q := hf
  exact w_X9_next_0 fu C K hr hlk hR fu σ a0 hE hk_a0 hf _ _ _ h (lv_sub hl [0] rfl)
theorem c_X9_next (fu : Nat) (l : Launch) (κ : Ka_) (G : va_G) (cy : Nat → ClassId) (ad : Nat → Nat) (sz : Nat) (σ : St_) (a0 : Nat) (hk_a0 : kd_ σ a0 = 9) {q : St_} (hf : f_X9_next fu σ a0 = some q) : Met l yX9_next (Cond.code yX9_next cX9_next 3 none :: wU_) { frames := 1, cells := 0, slots := 0, locals := 25 } (va_Pc [.ref (ad a0)] (Pr_ κ G cy ad σ sz)) (Qv_ G cy ad σ q sz) 0 0 (va_A (wl_ cy ad σ) sz) :=
  x_met (by decide) (fun p e R s m below meth c ls hR C hr hlk hin _ K h hl => w_X9_next fu C K hr hlk ⟨hR.1, hR.2.1⟩ σ a0 Ex_.rf hk_a0 hf s.heap [] ls h hl) (Nat.le_of_ble_eq_true rfl)
-- X9_fail
theorem mi_X9_fail : Mi_ yX9_fail cX9_fail 1 none 0 := ⟨co_yX9_fail, in_RX9, by decide, by decide, by decide +kernel⟩
def f_X9_fail (σ : St_) (a0 : Nat) : St_ := if (si_ σ a0 25) = 0 then ui_ (ui_ σ a0 25 (1 : Int32)) a0 26 (si_ (ui_ σ a0 25 (1 : Int32)) a0 22) else σ
set_option maxHeartbeats 4000000 in
set_option maxRecDepth 100000 in
theorem w_X9_fail {p : Program} {l : Launch} {e : Env} {R : Room} {s : State} {m : MethodId} {args : Array Value} {below : List Frame} {meth : Method} {c : Code} {κ : Ka_} {G : va_G} {cy : Nat → ClassId} {ad : Nat → Nat} {sz : Nat} {σ0 : St_} (C : CallFix p m c cX9_fail 1 s args wU_ RX9) (K : Kx_ κ G cy (va_A (wl_ cy ad σ0) sz) s) (hr : meth.sig.returnType = none) (hlk : meth.locks = false) (hR : 0 ≤ R.frames ∧ 0 ≤ R.locals) {q : St_} : ∀ (σ : St_) (a0 : Nat), Ex_ σ0 σ → kd_ σ a0 = 9 → f_X9_fail σ a0 = q → ∀ (H : Heap) (locs : List Loc) (ls : Array Slot), Ht_ G cy (va_A (wl_ cy ad σ0) sz) s ad σ H locs → lv_has ls 1 [(0, .ref (ad a0))] → W p l e R s m args below meth c H locs 0 0 (MQ below (Qv_ G cy ad σ0 q sz) args s 0 0 (va_A (wl_ cy ad σ0) sz)) (F0 m 0 ls []) := by
  intro σ a0 hE hk_a0 hf H locs ls h hl
  have hf : (if (si_ σ a0 25) = 0 then ui_ (ui_ σ a0 25 (1 : Int32)) a0 26 (si_ (ui_ σ a0 25 (1 : Int32)) a0 22) else σ) = q := hf
  refine lv_aload_n C.1 C.2.1 dX9_fail_0 rfl (lv_at hl 0 rfl) ?_
  refine x_get (v := .int (si_ σ a0 25)) C K h cl_9 hk_a0 25 (by decide) fl_RX9_174 rfl dX9_fail_1 ?_
  refine lv_if_ne (tgt := 20) C.1 C.2.1 dX9_fail_4 (by decide) (fun c1 => ?_) (fun c1 => ?_)
  · have hf := if_f hf c1
    exact x_rv C hr hlk h hE hf dX9_fail_20
  · have hf := if_t hf c1
    refine lv_aload_n C.1 C.2.1 dX9_fail_7 rfl (lv_at hl 0 rfl) ?_
    refine lv_iconst (v := (1 : Int32)) C.1 C.2.1 dX9_fail_8 (by decide) ?_
    refine x_putI C K h cl_9 hk_a0 25 (by decide) fl_RX9_174 rfl (by decide) (by decide) (Nat.le_of_ble_eq_true rfl) (fun _ _ _ => rfl) dX9_fail_9 (fun H locs h => ?_)
    have hE := hE.up (up_i σ a0 25 (1 : Int32))
    refine lv_aload_n C.1 C.2.1 dX9_fail_12 rfl (lv_at hl 0 rfl) ?_
    refine lv_aload_n C.1 C.2.1 dX9_fail_13 rfl (lv_at hl 0 rfl) ?_
    refine x_get (v := .int (si_ (ui_ σ a0 25 (1 : Int32)) a0 22)) C K h cl_9 hk_a0 22 (by decide) fl_RX9_156 rfl dX9_fail_14 ?_
    refine x_putI C K h cl_9 hk_a0 26 (by decide) fl_RX9_178 rfl rfl rfl (Nat.le_of_ble_eq_true rfl) (fun _ _ _ => rfl) dX9_fail_17 (fun H locs h => ?_)
    have hE := hE.up (up_i (ui_ σ a0 25 (1 : Int32)) a0 26 (si_ (ui_ σ a0 25 (1 : Int32)) a0 22))
    exact x_rv C hr hlk h hE hf dX9_fail_20
theorem c_X9_fail (l : Launch) (κ : Ka_) (G : va_G) (cy : Nat → ClassId) (ad : Nat → Nat) (sz : Nat) (σ : St_) (a0 : Nat) (hk_a0 : kd_ σ a0 = 9) {q : St_} (hf : f_X9_fail σ a0 = q) : Met l yX9_fail (Cond.code yX9_fail cX9_fail 1 none :: wU_) { frames := 0, cells := 0, slots := 0, locals := 0 } (va_Pc [.ref (ad a0)] (Pr_ κ G cy ad σ sz)) (Qv_ G cy ad σ q sz) 0 0 (va_A (wl_ cy ad σ) sz) :=
  x_met (by decide) (fun p e R s m below meth c ls hR C hr hlk hin _ K h hl => w_X9_fail C K hr hlk ⟨hR.1, hR.2.1⟩ σ a0 Ex_.rf hk_a0 hf s.heap [] ls h hl) (Nat.le_of_ble_eq_true rfl)
-- X9_isLetter
theorem mi_X9_isLetter : Mi_ yX9_isLetter cX9_isLetter 3 (some .boolean) 2 := ⟨co_yX9_isLetter, in_RX9, by decide, by decide, by decide +kernel⟩
def f_X9_isLetter (σ : St_) (a0 : Nat) (x1 : Int32) (x2 : Int32) : Option Int32 := if (si_ σ a0 20) ≤ ((si_ σ a0 22) + x1) then if x2 = 0 then some (1 : Int32) else some (0 : Int32) else (f_X9_byteAt σ a0 ((si_ σ a0 22) + x1)).bind fun q5 => if q5 = x2 then some (1 : Int32) else some (0 : Int32)
set_option maxHeartbeats 4000000 in
set_option maxRecDepth 100000 in
theorem w_X9_isLetter {p : Program} {l : Launch} {e : Env} {R : Room} {s : State} {m : MethodId} {args : Array Value} {below : List Frame} {meth : Method} {c : Code} {κ : Ka_} {G : va_G} {cy : Nat → ClassId} {ad : Nat → Nat} {sz : Nat} {σ : St_} (C : CallFix p m c cX9_isLetter 3 s args wU_ RX9) (K : Kx_ κ G cy (va_A (wl_ cy ad σ) sz) s) (hr : meth.sig.returnType = some .boolean) (hlk : meth.locks = false) (hR : 1 ≤ R.frames ∧ 21 ≤ R.locals) {q : Int32} : ∀ (a0 : Nat) (x1 : Int32) (x2 : Int32), kd_ σ a0 = 9 → f_X9_isLetter σ a0 x1 x2 = some q → ∀ (H : Heap) (locs : List Loc) (ls : Array Slot), Ht_ G cy (va_A (wl_ cy ad σ) sz) s ad σ H locs → lv_has ls 3 [(0, .ref (ad a0)), (1, .int x1), (2, .int x2)] → W p l e R s m args below meth c H locs 0 0 (MQ below (Qz_ G cy ad σ σ sz q) args s 0 0 (va_A (wl_ cy ad σ) sz)) (F0 m 0 ls []) := by
  intro a0 x1 x2 hk_a0 hf H locs ls h hl
  have hf : (if (si_ σ a0 20) ≤ ((si_ σ a0 22) + x1) then if x2 = 0 then some (1 : Int32) else some (0 : Int32) else (f_X9_byteAt σ a0 ((si_ σ a0 22) + x1)).bind fun q5 => if q5 = x2 then some (1 : Int32) else some (0 : Int32)) = some q := hf
  refine lv_aload_n C.1 C.2.1 dX9_isLetter_0 rfl (lv_at hl 0 rfl) ?_
  refine x_get (v := .int (si_ σ a0 22)) C K h cl_9 hk_a0 22 (by decide) fl_RX9_156 rfl dX9_isLetter_1 ?_
  refine lv_iload_n C.1 C.2.1 dX9_isLetter_4 rfl (lv_at hl 1 rfl) ?_
  refine lv_iadd C.1 C.2.1 dX9_isLetter_5 ?_
  refine lv_aload_n C.1 C.2.1 dX9_isLetter_6 rfl (lv_at hl 0 rfl) ?_
  refine x_get (v := .int (si_ σ a0 20)) C K h cl_9 hk_a0 20 (by decide) fl_RX9_150 rfl dX9_isLetter_7 ?_
  refine lv_icmp_ge (tgt := 35) C.1 C.2.1 dX9_isLetter_10 (by decide) (fun c3 => ?_) (fun c3 => ?_)
  · have hf := if_t hf c3
    refine lv_iload_n C.1 C.2.1 dX9_isLetter_35 rfl (lv_at hl 2 rfl) ?_
    refine lv_if_ne (tgt := 43) C.1 C.2.1 dX9_isLetter_36 (by decide) (fun c4 => ?_) (fun c4 => ?_)
    · have hf := if_f hf c4
      refine lv_iconst (v := (0 : Int32)) C.1 C.2.1 dX9_isLetter_43 (by decide) ?_
      exact x_rzz C hr hlk h Ex_.rf (by decide) (Option.some.inj hf) rfl dX9_isLetter_44
    · have hf := if_t hf c4
      refine lv_iconst (v := (1 : Int32)) C.1 C.2.1 dX9_isLetter_39 (by decide) ?_
      refine lv_goto (tgt := 44) C.1 C.2.1 dX9_isLetter_40 (by decide) ?_
      exact x_rzz C hr hlk h Ex_.rf (by decide) (Option.some.inj hf) rfl dX9_isLetter_44
  · have hf := if_f hf c3
    refine lv_aload_n C.1 C.2.1 dX9_isLetter_13 rfl (lv_at hl 0 rfl) ?_
    refine lv_aload_n C.1 C.2.1 dX9_isLetter_14 rfl (lv_at hl 0 rfl) ?_
    refine x_get (v := .int (si_ σ a0 22)) C K h cl_9 hk_a0 22 (by decide) fl_RX9_156 rfl dX9_isLetter_15 ?_
    refine lv_iload_n C.1 C.2.1 dX9_isLetter_18 rfl (lv_at hl 1 rfl) ?_
    refine lv_iadd C.1 C.2.1 dX9_isLetter_19 ?_
    obtain ⟨q5, hq_q5, hf⟩ := ob_ hf
    refine x_ai K h (x_V C K h [.int ((si_ σ a0 22) + x1)] (c_X9_byteAt l κ G cy ad H.size σ a0 ((si_ σ a0 22) + x1) hk_a0 hq_q5) mi_X9_byteAt rfl im_yX9_byteAt se_yX9_byteAt ml_RX9_153 cl_9 hk_a0 ⟨rfl, rfl, Nat.le_trans (Nat.le_of_ble_eq_true rfl) hR.1, Nat.le_trans (Nat.le_of_ble_eq_true rfl) hR.2⟩ hl (Nat.le_of_ble_eq_true rfl) dX9_isLetter_20 ⟨Nat.zero_le _, Nat.zero_le _⟩ rfl) (fun H locs h hX => ?_)
    refine lv_iload_n C.1 C.2.1 dX9_isLetter_23 rfl (lv_at hl 2 rfl) ?_
    refine lv_icmp_ne (tgt := 31) C.1 C.2.1 dX9_isLetter_24 (by decide) (fun c6 => ?_) (fun c6 => ?_)
    · have hf := if_f hf c6
      refine lv_iconst (v := (0 : Int32)) C.1 C.2.1 dX9_isLetter_31 (by decide) ?_
      refine lv_goto (tgt := 44) C.1 C.2.1 dX9_isLetter_32 (by decide) ?_
      exact x_rzz C hr hlk h Ex_.rf (by decide) (Option.some.inj hf) rfl dX9_isLetter_44
    · have hf := if_t hf c6
      refine lv_iconst (v := (1 : Int32)) C.1 C.2.1 dX9_isLetter_27 (by decide) ?_
      refine lv_goto (tgt := 44) C.1 C.2.1 dX9_isLetter_28 (by decide) ?_
      exact x_rzz C hr hlk h Ex_.rf (by decide) (Option.some.inj hf) rfl dX9_isLetter_44
theorem c_X9_isLetter (l : Launch) (κ : Ka_) (G : va_G) (cy : Nat → ClassId) (ad : Nat → Nat) (sz : Nat) (σ : St_) (a0 : Nat) (x1 : Int32) (x2 : Int32) (hk_a0 : kd_ σ a0 = 9) {q : Int32} (hf : f_X9_isLetter σ a0 x1 x2 = some q) : Met l yX9_isLetter (Cond.code yX9_isLetter cX9_isLetter 3 (some .boolean) :: wU_) { frames := 1, cells := 0, slots := 0, locals := 21 } (va_Pc [.ref (ad a0), .int x1, .int x2] (Pr_ κ G cy ad σ sz)) (Qz_ G cy ad σ σ sz q) 0 0 (va_A (wl_ cy ad σ) sz) :=
  x_met (by decide) (fun p e R s m below meth c ls hR C hr hlk hin _ K h hl => w_X9_isLetter C K hr hlk ⟨hR.1, hR.2.1⟩ a0 x1 x2 hk_a0 hf s.heap [] ls h hl) (Nat.le_of_ble_eq_true rfl)
-- X9_isWord_
theorem mi_X9_isWord_ : Mi_ yX9_isWord_ cX9_isWord_ 9 (some .boolean) 8 := ⟨co_yX9_isWord_, in_RX9, by decide, by decide, by decide +kernel⟩
def f_X9_isWord__112 (σ : St_) : Option Int32 := some (0 : Int32)
set_option maxHeartbeats 4000000 in
set_option maxRecDepth 100000 in
theorem w_X9_isWord__112 {p : Program} {l : Launch} {e : Env} {R : Room} {s : State} {m : MethodId} {args : Array Value} {below : List Frame} {meth : Method} {c : Code} {κ : Ka_} {G : va_G} {cy : Nat → ClassId} {ad : Nat → Nat} {sz : Nat} {σ : St_} (C : CallFix p m c cX9_isWord_ 9 s args wU_ RX9) (K : Kx_ κ G cy (va_A (wl_ cy ad σ) sz) s) (hr : meth.sig.returnType = some .boolean) (hlk : meth.locks = false) (hR : 2 ≤ R.frames ∧ 43 ≤ R.locals) {q : Int32} : f_X9_isWord__112 σ = some q → ∀ (H : Heap) (locs : List Loc) (ls : Array Slot), Ht_ G cy (va_A (wl_ cy ad σ) sz) s ad σ H locs → lv_has ls 9 [] → W p l e R s m args below meth c H locs 0 0 (MQ below (Qz_ G cy ad σ σ sz q) args s 0 0 (va_A (wl_ cy ad σ) sz)) (F0 m 112 ls []) := by
  intro hf H locs ls h hl
  have hf : (some (0 : Int32)) = some q := hf
  refine lv_iconst (v := (0 : Int32)) C.1 C.2.1 dX9_isWord__112 (by decide) ?_
  exact x_rzz C hr hlk h Ex_.rf (by decide) (Option.some.inj hf) rfl dX9_isWord__113
def f_X9_isWord_ (σ : St_) (a0 : Nat) (x1 : Int32) (x2 : Int32) (x3 : Int32) (x4 : Int32) (x5 : Int32) (x6 : Int32) (x7 : Int32) (x8 : Int32) : Option Int32 := if (si_ σ a0 25) = 0 then if (si_ σ a0 21) = (1 : Int32) then if ((si_ σ a0 22) + (8 : Int32)) < (si_ σ a0 20) then f_X9_isWord__112 σ else (f_X9_isLetter σ a0 (0 : Int32) x1).bind fun q12 => if q12 = 0 then f_X9_isWord__112 σ else (f_X9_isLetter σ a0 (1 : Int32) x2).bind fun q15 => if q15 = 0 then f_X9_isWord__112 σ else (f_X9_isLetter σ a0 (2 : Int32) x3).bind fun q18 => if q18 = 0 then f_X9_isWord__112 σ else (f_X9_isLetter σ a0 (3 : Int32) x4).bind fun q21 => if q21 = 0 then f_X9_isWord__112 σ else (f_X9_isLetter σ a0 (4 : Int32) x5).bind fun q24 => if q24 = 0 then f_X9_isWord__112 σ else (f_X9_isLetter σ a0 (5 : Int32) x6).bind fun q27 => if q27 = 0 then f_X9_isWord__112 σ else (f_X9_isLetter σ a0 (6 : Int32) x7).bind fun q30 => if q30 = 0 then f_X9_isWord__112 σ else (f_X9_isLetter σ a0 (7 : Int32) x8).bind fun q33 => if q33 = 0 then f_X9_isWord__112 σ else some (1 : Int32) else f_X9_isWord__112 σ else f_X9_isWord__112 σ
set_option maxHeartbeats 4000000 in
set_option maxRecDepth 100000 in
theorem w_X9_isWord_ {p : Program} {l : Launch} {e : Env} {R : Room} {s : State} {m : MethodId} {args : Array Value} {below : List Frame} {meth : Method} {c : Code} {κ : Ka_} {G : va_G} {cy : Nat → ClassId} {ad : Nat → Nat} {sz : Nat} {σ : St_} (C : CallFix p m c cX9_isWord_ 9 s args wU_ RX9) (K : Kx_ κ G cy (va_A (wl_ cy ad σ) sz) s) (hr : meth.sig.returnType = some .boolean) (hlk : meth.locks = false) (hR : 2 ≤ R.frames ∧ 43 ≤ R.locals) {q : Int32} : ∀ (a0 : Nat) (x1 : Int32) (x2 : Int32) (x3 : Int32) (x4 : Int32) (x5 : Int32) (x6 : Int32) (x7 : Int32) (x8 : Int32), kd_ σ a0 = 9 → f_X9_isWord_ σ a0 x1 x2 x3 x4 x5 x6 x7 x8 = some q → ∀ (H : Heap) (locs : List Loc) (ls : Array Slot), Ht_ G cy (va_A (wl_ cy ad σ) sz) s ad σ H locs → lv_has ls 9 [(0, .ref (ad a0)), (1, .int x1), (2, .int x2), (3, .int x3), (4, .int x4), (5, .int x5), (6, .int x6), (7, .int x7), (8, .int x8)] → W p l e R s m args below meth c H locs 0 0 (MQ below (Qz_ G cy ad σ σ sz q) args s 0 0 (va_A (wl_ cy ad σ) sz)) (F0 m 0 ls []) := by
  intro a0 x1 x2 x3 x4 x5 x6 x7 x8 hk_a0 hf H locs ls h hl
  have hf : (if (si_ σ a0 25) = 0 then if (si_ σ a0 21) = (1 : Int32) then if ((si_ σ a0 22) + (8 : Int32)) < (si_ σ a0 20) then f_X9_isWord__112 σ else (f_X9_isLetter σ a0 (0 : Int32) x1).bind fun q12 => if q12 = 0 then f_X9_isWord__112 σ else (f_X9_isLetter σ a0 (1 : Int32) x2).bind fun q15 => if q15 = 0 then f_X9_isWord__112 σ else (f_X9_isLetter σ a0 (2 : Int32) x3).bind fun q18 => if q18 = 0 then f_X9_isWord__112 σ else (f_X9_isLetter σ a0 (3 : Int32) x4).bind fun q21 => if q21 = 0 then f_X9_isWord__112 σ else (f_X9_isLetter σ a0 (4 : Int32) x5).bind fun q24 => if q24 = 0 then f_X9_isWord__112 σ else (f_X9_isLetter σ a0 (5 : Int32) x6).bind fun q27 => if q27 = 0 then f_X9_isWord__112 σ else (f_X9_isLetter σ a0 (6 : Int32) x7).bind fun q30 => if q30 = 0 then f_X9_isWord__112 σ else (f_X9_isLetter σ a0 (7 : Int32) x8).bind fun q33 => if q33 = 0 then f_X9_isWord__112 σ else some (1 : Int32) else f_X9_isWord__112 σ else f_X9_isWord__112 σ) = some q := hf
  refine lv_aload_n C.1 C.2.1 dX9_isWord__0 rfl (lv_at hl 0 rfl) ?_
  refine x_get (v := .int (si_ σ a0 25)) C K h cl_9 hk_a0 25 (by decide) fl_RX9_174 rfl dX9_isWord__1 ?_
  refine lv_if_ne (tgt := 112) C.1 C.2.1 dX9_isWord__4 (by decide) (fun c9 => ?_) (fun c9 => ?_)
  · have hf := if_f hf c9
    exact w_X9_isWord__112 C K hr hlk hR hf _ _ _ h (lv_sub hl [] rfl)
  · have hf := if_t hf c9
    refine lv_aload_n C.1 C.2.1 dX9_isWord__7 rfl (lv_at hl 0 rfl) ?_
    refine x_get (v := .int (si_ σ a0 21)) C K h cl_9 hk_a0 21 (by decide) fl_RX9_159 rfl dX9_isWord__8 ?_
    refine lv_iconst (v := (1 : Int32)) C.1 C.2.1 dX9_isWord__11 (by decide) ?_
    refine lv_icmp_ne (tgt := 112) C.1 C.2.1 dX9_isWord__12 (by decide) (fun c10 => ?_) (fun c10 => ?_)
    · have hf := if_f hf c10
      exact w_X9_isWord__112 C K hr hlk hR hf _ _ _ h (lv_sub hl [] rfl)
    · have hf := if_t hf c10
      refine lv_aload_n C.1 C.2.1 dX9_isWord__15 rfl (lv_at hl 0 rfl) ?_
      refine x_get (v := .int (si_ σ a0 20)) C K h cl_9 hk_a0 20 (by decide) fl_RX9_150 rfl dX9_isWord__16 ?_
      refine lv_aload_n C.1 C.2.1 dX9_isWord__19 rfl (lv_at hl 0 rfl) ?_
      refine x_get (v := .int (si_ σ a0 22)) C K h cl_9 hk_a0 22 (by decide) fl_RX9_156 rfl dX9_isWord__20 ?_
      refine lv_bipush (v := (8 : Int32)) C.1 C.2.1 dX9_isWord__23 (by decide) ?_
      refine lv_iadd C.1 C.2.1 dX9_isWord__25 ?_
      refine lv_icmp_gt (tgt := 112) C.1 C.2.1 dX9_isWord__26 (by decide) (fun c11 => ?_) (fun c11 => ?_)
      · have hf := if_t hf c11
        exact w_X9_isWord__112 C K hr hlk hR hf _ _ _ h (lv_sub hl [] rfl)
      · have hf := if_f hf c11
        refine lv_aload_n C.1 C.2.1 dX9_isWord__29 rfl (lv_at hl 0 rfl) ?_
        refine lv_iconst (v := (0 : Int32)) C.1 C.2.1 dX9_isWord__30 (by decide) ?_
        refine lv_iload_n C.1 C.2.1 dX9_isWord__31 rfl (lv_at hl 1 rfl) ?_
        obtain ⟨q12, hq_q12, hf⟩ := ob_ hf
        refine x_az K h (x_V C K h [.int (0 : Int32), .int x1] (c_X9_isLetter l κ G cy ad H.size σ a0 (0 : Int32) x1 hk_a0 hq_q12) mi_X9_isLetter rfl im_yX9_isLetter se_yX9_isLetter ml_RX9_181 cl_9 hk_a0 ⟨rfl, rfl, Nat.le_trans (Nat.le_of_ble_eq_true rfl) hR.1, Nat.le_trans (Nat.le_of_ble_eq_true rfl) hR.2⟩ hl (Nat.le_of_ble_eq_true rfl) dX9_isWord__32 ⟨Nat.zero_le _, Nat.zero_le _⟩ rfl) (fun H locs h hX hz13 => ?_)
        refine lv_if_eq (tgt := 112) C.1 C.2.1 dX9_isWord__35 (by decide) (fun c14 => ?_) (fun c14 => ?_)
        · have hf := if_t hf c14
          exact w_X9_isWord__112 C K hr hlk hR hf _ _ _ h (lv_sub hl [] rfl)
        · have hf := if_f hf c14
          refine lv_aload_n C.1 C.2.1 dX9_isWord__38 rfl (lv_at hl 0 rfl) ?_
          refine lv_iconst (v := (1 : Int32)) C.1 C.2.1 dX9_isWord__39 (by decide) ?_
          refine lv_iload_n C.1 C.2.1 dX9_isWord__40 rfl (lv_at hl 2 rfl) ?_
          obtain ⟨q15, hq_q15, hf⟩ := ob_ hf
          refine x_az K h (x_V C K h [.int (1 : Int32), .int x2] (c_X9_isLetter l κ G cy ad H.size σ a0 (1 : Int32) x2 hk_a0 hq_q15) mi_X9_isLetter rfl im_yX9_isLetter se_yX9_isLetter ml_RX9_181 cl_9 hk_a0 ⟨rfl, rfl, Nat.le_trans (Nat.le_of_ble_eq_true rfl) hR.1, Nat.le_trans (Nat.le_of_ble_eq_true rfl) hR.2⟩ hl (Nat.le_of_ble_eq_true rfl) dX9_isWord__41 ⟨Nat.zero_le _, Nat.zero_le _⟩ rfl) (fun H locs h hX hz16 => ?_)
          refine lv_if_eq (tgt := 112) C.1 C.2.1 dX9_isWord__44 (by decide) (fun c17 => ?_) (fun c17 => ?_)
          · have hf := if_t hf c17
            exact w_X9_isWord__112 C K hr hlk hR hf _ _ _ h (lv_sub hl [] rfl)
          · have hf := if_f hf c17
            refine lv_aload_n C.1 C.2.1 dX9_isWord__47 rfl (lv_at hl 0 rfl) ?_
            refine lv_iconst (v := (2 : Int32)) C.1 C.2.1 dX9_isWord__48 (by decide) ?_
            refine lv_iload_n C.1 C.2.1 dX9_isWord__49 rfl (lv_at hl 3 rfl) ?_
            obtain ⟨q18, hq_q18, hf⟩ := ob_ hf
            refine x_az K h (x_V C K h [.int (2 : Int32), .int x3] (c_X9_isLetter l κ G cy ad H.size σ a0 (2 : Int32) x3 hk_a0 hq_q18) mi_X9_isLetter rfl im_yX9_isLetter se_yX9_isLetter ml_RX9_181 cl_9 hk_a0 ⟨rfl, rfl, Nat.le_trans (Nat.le_of_ble_eq_true rfl) hR.1, Nat.le_trans (Nat.le_of_ble_eq_true rfl) hR.2⟩ hl (Nat.le_of_ble_eq_true rfl) dX9_isWord__50 ⟨Nat.zero_le _, Nat.zero_le _⟩ rfl) (fun H locs h hX hz19 => ?_)
            refine lv_if_eq (tgt := 112) C.1 C.2.1 dX9_isWord__53 (by decide) (fun c20 => ?_) (fun c20 => ?_)
            · have hf := if_t hf c20
              exact w_X9_isWord__112 C K hr hlk hR hf _ _ _ h (lv_sub hl [] rfl)
            · have hf := if_f hf c20
              refine lv_aload_n C.1 C.2.1 dX9_isWord__56 rfl (lv_at hl 0 rfl) ?_
              refine lv_iconst (v := (3 : Int32)) C.1 C.2.1 dX9_isWord__57 (by decide) ?_
              refine lv_iload C.1 C.2.1 dX9_isWord__58 (lv_at hl 4 rfl) ?_
              obtain ⟨q21, hq_q21, hf⟩ := ob_ hf
              refine x_az K h (x_V C K h [.int (3 : Int32), .int x4] (c_X9_isLetter l κ G cy ad H.size σ a0 (3 : Int32) x4 hk_a0 hq_q21) mi_X9_isLetter rfl im_yX9_isLetter se_yX9_isLetter ml_RX9_181 cl_9 hk_a0 ⟨rfl, rfl, Nat.le_trans (Nat.le_of_ble_eq_true rfl) hR.1, Nat.le_trans (Nat.le_of_ble_eq_true rfl) hR.2⟩ hl (Nat.le_of_ble_eq_true rfl) dX9_isWord__60 ⟨Nat.zero_le _, Nat.zero_le _⟩ rfl) (fun H locs h hX hz22 => ?_)
              refine lv_if_eq (tgt := 112) C.1 C.2.1 dX9_isWord__63 (by decide) (fun c23 => ?_) (fun c23 => ?_)
              · have hf := if_t hf c23
                exact w_X9_isWord__112 C K hr hlk hR hf _ _ _ h (lv_sub hl [] rfl)
              · have hf := if_f hf c23
                refine lv_aload_n C.1 C.2.1 dX9_isWord__66 rfl (lv_at hl 0 rfl) ?_
                refine lv_iconst (v := (4 : Int32)) C.1 C.2.1 dX9_isWord__67 (by decide) ?_
                refine lv_iload C.1 C.2.1 dX9_isWord__68 (lv_at hl 5 rfl) ?_
                obtain ⟨q24, hq_q24, hf⟩ := ob_ hf
                refine x_az K h (x_V C K h [.int (4 : Int32), .int x5] (c_X9_isLetter l κ G cy ad H.size σ a0 (4 : Int32) x5 hk_a0 hq_q24) mi_X9_isLetter rfl im_yX9_isLetter se_yX9_isLetter ml_RX9_181 cl_9 hk_a0 ⟨rfl, rfl, Nat.le_trans (Nat.le_of_ble_eq_true rfl) hR.1, Nat.le_trans (Nat.le_of_ble_eq_true rfl) hR.2⟩ hl (Nat.le_of_ble_eq_true rfl) dX9_isWord__70 ⟨Nat.zero_le _, Nat.zero_le _⟩ rfl) (fun H locs h hX hz25 => ?_)
                refine lv_if_eq (tgt := 112) C.1 C.2.1 dX9_isWord__73 (by decide) (fun c26 => ?_) (fun c26 => ?_)
                · have hf := if_t hf c26
                  exact w_X9_isWord__112 C K hr hlk hR hf _ _ _ h (lv_sub hl [] rfl)
                · have hf := if_f hf c26
                  refine lv_aload_n C.1 C.2.1 dX9_isWord__76 rfl (lv_at hl 0 rfl) ?_
                  refine lv_iconst (v := (5 : Int32)) C.1 C.2.1 dX9_isWord__77 (by decide) ?_
                  refine lv_iload C.1 C.2.1 dX9_isWord__78 (lv_at hl 6 rfl) ?_
                  obtain ⟨q27, hq_q27, hf⟩ := ob_ hf
                  refine x_az K h (x_V C K h [.int (5 : Int32), .int x6] (c_X9_isLetter l κ G cy ad H.size σ a0 (5 : Int32) x6 hk_a0 hq_q27) mi_X9_isLetter rfl im_yX9_isLetter se_yX9_isLetter ml_RX9_181 cl_9 hk_a0 ⟨rfl, rfl, Nat.le_trans (Nat.le_of_ble_eq_true rfl) hR.1, Nat.le_trans (Nat.le_of_ble_eq_true rfl) hR.2⟩ hl (Nat.le_of_ble_eq_true rfl) dX9_isWord__80 ⟨Nat.zero_le _, Nat.zero_le _⟩ rfl) (fun H locs h hX hz28 => ?_)
                  refine lv_if_eq (tgt := 112) C.1 C.2.1 dX9_isWord__83 (by decide) (fun c29 => ?_) (fun c29 => ?_)
                  · have hf := if_t hf c29
                    exact w_X9_isWord__112 C K hr hlk hR hf _ _ _ h (lv_sub hl [] rfl)
                  · have hf := if_f hf c29
                    refine lv_aload_n C.1 C.2.1 dX9_isWord__86 rfl (lv_at hl 0 rfl) ?_
                    refine lv_bipush (v := (6 : Int32)) C.1 C.2.1 dX9_isWord__87 (by decide) ?_
                    refine lv_iload C.1 C.2.1 dX9_isWord__89 (lv_at hl 7 rfl) ?_
                    obtain ⟨q30, hq_q30, hf⟩ := ob_ hf
                    refine x_az K h (x_V C K h [.int (6 : Int32), .int x7] (c_X9_isLetter l κ G cy ad H.size σ a0 (6 : Int32) x7 hk_a0 hq_q30) mi_X9_isLetter rfl im_yX9_isLetter se_yX9_isLetter ml_RX9_181 cl_9 hk_a0 ⟨rfl, rfl, Nat.le_trans (Nat.le_of_ble_eq_true rfl) hR.1, Nat.le_trans (Nat.le_of_ble_eq_true rfl) hR.2⟩ hl (Nat.le_of_ble_eq_true rfl) dX9_isWord__91 ⟨Nat.zero_le _, Nat.zero_le _⟩ rfl) (fun H locs h hX hz31 => ?_)
                    refine lv_if_eq (tgt := 112) C.1 C.2.1 dX9_isWord__94 (by decide) (fun c32 => ?_) (fun c32 => ?_)
                    · have hf := if_t hf c32
                      exact w_X9_isWord__112 C K hr hlk hR hf _ _ _ h (lv_sub hl [] rfl)
                    · have hf := if_f hf c32
                      refine lv_aload_n C.1 C.2.1 dX9_isWord__97 rfl (lv_at hl 0 rfl) ?_
                      refine lv_bipush (v := (7 : Int32)) C.1 C.2.1 dX9_isWord__98 (by decide) ?_
                      refine lv_iload C.1 C.2.1 dX9_isWord__100 (lv_at hl 8 rfl) ?_
                      obtain ⟨q33, hq_q33, hf⟩ := ob_ hf
                      refine x_az K h (x_V C K h [.int (7 : Int32), .int x8] (c_X9_isLetter l κ G cy ad H.size σ a0 (7 : Int32) x8 hk_a0 hq_q33) mi_X9_isLetter rfl im_yX9_isLetter se_yX9_isLetter ml_RX9_181 cl_9 hk_a0 ⟨rfl, rfl, Nat.le_trans (Nat.le_of_ble_eq_true rfl) hR.1, Nat.le_trans (Nat.le_of_ble_eq_true rfl) hR.2⟩ hl (Nat.le_of_ble_eq_true rfl) dX9_isWord__102 ⟨Nat.zero_le _, Nat.zero_le _⟩ rfl) (fun H locs h hX hz34 => ?_)
                      refine lv_if_eq (tgt := 112) C.1 C.2.1 dX9_isWord__105 (by decide) (fun c35 => ?_) (fun c35 => ?_)
                      · have hf := if_t hf c35
                        exact w_X9_isWord__112 C K hr hlk hR hf _ _ _ h (lv_sub hl [] rfl)
                      · have hf := if_f hf c35
                        refine lv_iconst (v := (1 : Int32)) C.1 C.2.1 dX9_isWord__108 (by decide) ?_
                        refine lv_goto (tgt := 113) C.1 C.2.1 dX9_isWord__109 (by decide) ?_
                        exact x_rzz C hr hlk h Ex_.rf (by decide) (Option.some.inj hf) rfl dX9_isWord__113
theorem c_X9_isWord_ (l : Launch) (κ : Ka_) (G : va_G) (cy : Nat → ClassId) (ad : Nat → Nat) (sz : Nat) (σ : St_) (a0 : Nat) (x1 : Int32) (x2 : Int32) (x3 : Int32) (x4 : Int32) (x5 : Int32) (x6 : Int32) (x7 : Int32) (x8 : Int32) (hk_a0 : kd_ σ a0 = 9) {q : Int32} (hf : f_X9_isWord_ σ a0 x1 x2 x3 x4 x5 x6 x7 x8 = some q) : Met l yX9_isWord_ (Cond.code yX9_isWord_ cX9_isWord_ 9 (some .boolean) :: wU_) { frames := 2, cells := 0, slots := 0, locals := 43 } (va_Pc [.ref (ad a0), .int x1, .int x2, .int x3, .int x4, .int x5, .int x6, .int x7, .int x8] (Pr_ κ G cy ad σ sz)) (Qz_ G cy ad σ σ sz q) 0 0 (va_A (wl_ cy ad σ) sz) :=
  x_met (by decide) (fun p e R s m below meth c ls hR C hr hlk hin _ K h hl => w_X9_isWord_ C K hr hlk ⟨hR.1, hR.2.1⟩ a0 x1 x2 x3 x4 x5 x6 x7 x8 hk_a0 hf s.heap [] ls h hl) (Nat.le_of_ble_eq_true rfl)
-- X9_isSign
theorem mi_X9_isSign : Mi_ yX9_isSign cX9_isSign 2 (some .boolean) 1 := ⟨co_yX9_isSign, in_RX9, by decide, by decide, by decide +kernel⟩
def f_X9_isSign (σ : St_) (a0 : Nat) (x1 : Int32) : Int32 := if (si_ σ a0 25) = 0 then if (si_ σ a0 21) = (3 : Int32) then if (lg_cmp (sl_ σ a0 23) x1.toInt64) = 0 then (1 : Int32) else (0 : Int32) else (0 : Int32) else (0 : Int32)
set_option maxHeartbeats 4000000 in
set_option maxRecDepth 100000 in
theorem w_X9_isSign {p : Program} {l : Launch} {e : Env} {R : Room} {s : State} {m : MethodId} {args : Array Value} {below : List Frame} {meth : Method} {c : Code} {κ : Ka_} {G : va_G} {cy : Nat → ClassId} {ad : Nat → Nat} {sz : Nat} {σ : St_} (C : CallFix p m c cX9_isSign 2 s args wU_ RX9) (K : Kx_ κ G cy (va_A (wl_ cy ad σ) sz) s) (hr : meth.sig.returnType = some .boolean) (hlk : meth.locks = false) (hR : 0 ≤ R.frames ∧ 0 ≤ R.locals) {q : Int32} : ∀ (a0 : Nat) (x1 : Int32), kd_ σ a0 = 9 → f_X9_isSign σ a0 x1 = q → ∀ (H : Heap) (locs : List Loc) (ls : Array Slot), Ht_ G cy (va_A (wl_ cy ad σ) sz) s ad σ H locs → lv_has ls 2 [(0, .ref (ad a0)), (1, .int x1)] → W p l e R s m args below meth c H locs 0 0 (MQ below (Qz_ G cy ad σ σ sz q) args s 0 0 (va_A (wl_ cy ad σ) sz)) (F0 m 0 ls []) := by
  intro a0 x1 hk_a0 hf H locs ls h hl
  have hf : (if (si_ σ a0 25) = 0 then if (si_ σ a0 21) = (3 : Int32) then if (lg_cmp (sl_ σ a0 23) x1.toInt64) = 0 then (1 : Int32) else (0 : Int32) else (0 : Int32) else (0 : Int32)) = q := hf
  refine lv_aload_n C.1 C.2.1 dX9_isSign_0 rfl (lv_at hl 0 rfl) ?_
  refine x_get (v := .int (si_ σ a0 25)) C K h cl_9 hk_a0 25 (by decide) fl_RX9_174 rfl dX9_isSign_1 ?_
  refine lv_if_ne (tgt := 29) C.1 C.2.1 dX9_isSign_4 (by decide) (fun c2 => ?_) (fun c2 => ?_)
  · have hf := if_f hf c2
    refine lv_iconst (v := (0 : Int32)) C.1 C.2.1 dX9_isSign_29 (by decide) ?_
    exact x_rzz C hr hlk h Ex_.rf (by decide) hf rfl dX9_isSign_30
  · have hf := if_t hf c2
    refine lv_aload_n C.1 C.2.1 dX9_isSign_7 rfl (lv_at hl 0 rfl) ?_
    refine x_get (v := .int (si_ σ a0 21)) C K h cl_9 hk_a0 21 (by decide) fl_RX9_159 rfl dX9_isSign_8 ?_
    refine lv_iconst (v := (3 : Int32)) C.1 C.2.1 dX9_isSign_11 (by decide) ?_
    refine lv_icmp_ne (tgt := 29) C.1 C.2.1 dX9_isSign_12 (by decide) (fun c3 => ?_) (fun c3 => ?_)
    · have hf := if_f hf c3
      refine lv_iconst (v := (0 : Int32)) C.1 C.2.1 dX9_isSign_29 (by decide) ?_
      exact x_rzz C hr hlk h Ex_.rf (by decide) hf rfl dX9_isSign_30
    · have hf := if_t hf c3
      refine lv_aload_n C.1 C.2.1 dX9_isSign_15 rfl (lv_at hl 0 rfl) ?_
      refine x_get (v := .long (sl_ σ a0 23)) C K h cl_9 hk_a0 23 (by decide) fl_RX9_170 rfl dX9_isSign_16 ?_
      refine lv_iload_n C.1 C.2.1 dX9_isSign_19 rfl (lv_at hl 1 rfl) ?_
      refine lv_i2l C.1 C.2.1 dX9_isSign_20 rfl ?_
      refine W.lcmp C.1 C.2.1 dX9_isSign_21 ?_
      refine lv_if_ne (tgt := 29) C.1 C.2.1 dX9_isSign_22 (by decide) (fun c4 => ?_) (fun c4 => ?_)
      · have hf := if_f hf c4
        refine lv_iconst (v := (0 : Int32)) C.1 C.2.1 dX9_isSign_29 (by decide) ?_
        exact x_rzz C hr hlk h Ex_.rf (by decide) hf rfl dX9_isSign_30
      · have hf := if_t hf c4
        refine lv_iconst (v := (1 : Int32)) C.1 C.2.1 dX9_isSign_25 (by decide) ?_
        refine lv_goto (tgt := 30) C.1 C.2.1 dX9_isSign_26 (by decide) ?_
        exact x_rzz C hr hlk h Ex_.rf (by decide) hf rfl dX9_isSign_30
theorem c_X9_isSign (l : Launch) (κ : Ka_) (G : va_G) (cy : Nat → ClassId) (ad : Nat → Nat) (sz : Nat) (σ : St_) (a0 : Nat) (x1 : Int32) (hk_a0 : kd_ σ a0 = 9) {q : Int32} (hf : f_X9_isSign σ a0 x1 = q) : Met l yX9_isSign (Cond.code yX9_isSign cX9_isSign 2 (some .boolean) :: wU_) { frames := 0, cells := 0, slots := 0, locals := 0 } (va_Pc [.ref (ad a0), .int x1] (Pr_ κ G cy ad σ sz)) (Qz_ G cy ad σ σ sz q) 0 0 (va_A (wl_ cy ad σ) sz) :=
  x_met (by decide) (fun p e R s m below meth c ls hR C hr hlk hin _ K h hl => w_X9_isSign C K hr hlk ⟨hR.1, hR.2.1⟩ a0 x1 hk_a0 hf s.heap [] ls h hl) (Nat.le_of_ble_eq_true rfl)
-- X9_opens
theorem mi_X9_opens : Mi_ yX9_opens cX9_opens 1 (some .boolean) 0 := ⟨co_yX9_opens, in_RX9, by decide, by decide, by decide +kernel⟩
def f_X9_opens (fu : Nat) (σ : St_) (a0 : Nat) : Option (Int32 × St_) := if (si_ σ a0 24) = (5 : Int32) then some ((0 : Int32), f_X9_fail σ a0) else (f_X9_next fu (ui_ σ a0 24 ((si_ σ a0 24) + (1 : Int32))) a0).bind fun q2 => some ((1 : Int32), q2)
set_option maxHeartbeats 4000000 in
set_option maxRecDepth 100000 in
theorem w_X9_opens {p : Program} {l : Launch} {e : Env} {R : Room} {s : State} {m : MethodId} {args : Array Value} {below : List Frame} {meth : Method} {c : Code} {κ : Ka_} {G : va_G} {cy : Nat → ClassId} {ad : Nat → Nat} {sz : Nat} {σ0 : St_} (fu : Nat) (C : CallFix p m c cX9_opens 1 s args wU_ RX9) (K : Kx_ κ G cy (va_A (wl_ cy ad σ0) sz) s) (hr : meth.sig.returnType = some .boolean) (hlk : meth.locks = false) (hR : 2 ≤ R.frames ∧ 47 ≤ R.locals) {q : Int32 × St_} : ∀ (σ : St_) (a0 : Nat), Ex_ σ0 σ → kd_ σ a0 = 9 → f_X9_opens fu σ a0 = some q → ∀ (H : Heap) (locs : List Loc) (ls : Array Slot), Ht_ G cy (va_A (wl_ cy ad σ0) sz) s ad σ H locs → lv_has ls 1 [(0, .ref (ad a0))] → W p l e R s m args below meth c H locs 0 0 (MQ below (Qz_ G cy ad σ0 q.2 sz q.1) args s 0 0 (va_A (wl_ cy ad σ0) sz)) (F0 m 0 ls []) := by
  intro σ a0 hE hk_a0 hf H locs ls h hl
  have hf : (if (si_ σ a0 24) = (5 : Int32) then some ((0 : Int32), f_X9_fail σ a0) else (f_X9_next fu (ui_ σ a0 24 ((si_ σ a0 24) + (1 : Int32))) a0).bind fun q2 => some ((1 : Int32), q2)) = some q := hf
  refine lv_aload_n C.1 C.2.1 dX9_opens_0 rfl (lv_at hl 0 rfl) ?_
  refine x_get (v := .int (si_ σ a0 24)) C K h cl_9 hk_a0 24 (by decide) fl_RX9_184 rfl dX9_opens_1 ?_
  refine lv_iconst (v := (5 : Int32)) C.1 C.2.1 dX9_opens_4 (by decide) ?_
  refine lv_icmp_ne (tgt := 14) C.1 C.2.1 dX9_opens_5 (by decide) (fun c1 => ?_) (fun c1 => ?_)
  · have hf := if_f hf c1
    refine lv_aload_n C.1 C.2.1 dX9_opens_14 rfl (lv_at hl 0 rfl) ?_
    refine lv_dup C.1 C.2.1 dX9_opens_15 rfl ?_
    refine x_get (v := .int (si_ σ a0 24)) C K h cl_9 hk_a0 24 (by decide) fl_RX9_184 rfl dX9_opens_16 ?_
    refine lv_iconst (v := (1 : Int32)) C.1 C.2.1 dX9_opens_19 (by decide) ?_
    refine lv_iadd C.1 C.2.1 dX9_opens_20 ?_
    refine x_putI C K h cl_9 hk_a0 24 (by decide) fl_RX9_184 rfl rfl rfl (Nat.le_of_ble_eq_true rfl) (fun _ _ _ => rfl) dX9_opens_21 (fun H locs h => ?_)
    have hE := hE.up (up_i σ a0 24 ((si_ σ a0 24) + (1 : Int32)))
    refine lv_aload_n C.1 C.2.1 dX9_opens_24 rfl (lv_at hl 0 rfl) ?_
    obtain ⟨q2, hq_q2, hf⟩ := ob_ hf
    refine x_av K h (x_V C K h [] (c_X9_next fu l κ G cy ad H.size (ui_ σ a0 24 ((si_ σ a0 24) + (1 : Int32))) a0 hk_a0 hq_q2) mi_X9_next rfl im_yX9_next se_yX9_next ml_RX9_190 cl_9 hk_a0 ⟨rfl, rfl, Nat.le_trans (Nat.le_of_ble_eq_true rfl) hR.1, Nat.le_trans (Nat.le_of_ble_eq_true rfl) hR.2⟩ hl (Nat.le_of_ble_eq_true rfl) dX9_opens_25 ⟨Nat.zero_le _, Nat.zero_le _⟩ rfl) (fun H locs h hX => ?_)
    have hE := hE.trans hX
    have hk_a0 := hX.k hk_a0 (by decide)
    refine lv_iconst (v := (1 : Int32)) C.1 C.2.1 dX9_opens_28 (by decide) ?_
    exact x_rzz C hr hlk h hE (by decide) (pf_1 (Option.some.inj hf)) (pf_2 (Option.some.inj hf)) dX9_opens_29
  · have hf := if_t hf c1
    refine lv_aload_n C.1 C.2.1 dX9_opens_8 rfl (lv_at hl 0 rfl) ?_
    refine x_av K h (x_V C K h [] (c_X9_fail l κ G cy ad H.size σ a0 hk_a0 rfl) mi_X9_fail rfl im_yX9_fail se_yX9_fail ml_RX9_187 cl_9 hk_a0 ⟨rfl, rfl, Nat.le_trans (Nat.le_of_ble_eq_true rfl) hR.1, Nat.le_trans (Nat.le_of_ble_eq_true rfl) hR.2⟩ hl (Nat.le_of_ble_eq_true rfl) dX9_opens_9 ⟨Nat.zero_le _, Nat.zero_le _⟩ rfl) (fun H locs h hX => ?_)
    have hE := hE.trans hX
    have hk_a0 := hX.k hk_a0 (by decide)
    refine lv_iconst (v := (0 : Int32)) C.1 C.2.1 dX9_opens_12 (by decide) ?_
    exact x_rzz C hr hlk h hE (by decide) (pf_1 (Option.some.inj hf)) (pf_2 (Option.some.inj hf)) dX9_opens_13
theorem c_X9_opens (fu : Nat) (l : Launch) (κ : Ka_) (G : va_G) (cy : Nat → ClassId) (ad : Nat → Nat) (sz : Nat) (σ : St_) (a0 : Nat) (hk_a0 : kd_ σ a0 = 9) {q : Int32 × St_} (hf : f_X9_opens fu σ a0 = some q) : Met l yX9_opens (Cond.code yX9_opens cX9_opens 1 (some .boolean) :: wU_) { frames := 2, cells := 0, slots := 0, locals := 47 } (va_Pc [.ref (ad a0)] (Pr_ κ G cy ad σ sz)) (Qz_ G cy ad σ q.2 sz q.1) 0 0 (va_A (wl_ cy ad σ) sz) :=
  x_met (by decide) (fun p e R s m below meth c ls hR C hr hlk hin _ K h hl => w_X9_opens fu C K hr hlk ⟨hR.1, hR.2.1⟩ σ a0 Ex_.rf hk_a0 hf s.heap [] ls h hl) (Nat.le_of_ble_eq_true rfl)
-- X9_name
theorem mi_X9_name : Mi_ yX9_name cX9_name 1 (some .int) 0 := ⟨co_yX9_name, in_RX9, by decide, by decide, by decide +kernel⟩
def f_X9_name (σ : St_) (a0 : Nat) : Option (Int32 × St_) := (f_X9_isWord_ σ a0 (119 : Int32) (111 : Int32) (114 : Int32) (100 : Int32) (0 : Int32) (0 : Int32) (0 : Int32) (0 : Int32)).bind fun q1 => if q1 = 0 then (f_X9_isWord_ σ a0 (110 : Int32) (117 : Int32) (109 : Int32) (98 : Int32) (101 : Int32) (114 : Int32) (0 : Int32) (0 : Int32)).bind fun q4 => if q4 = 0 then (f_X9_isWord_ σ a0 (99 : Int32) (111 : Int32) (108 : Int32) (117 : Int32) (109 : Int32) (110 : Int32) (0 : Int32) (0 : Int32)).bind fun q7 => if q7 = 0 then (f_X9_isWord_ σ a0 (114 : Int32) (111 : Int32) (119 : Int32) (0 : Int32) (0 : Int32) (0 : Int32) (0 : Int32) (0 : Int32)).bind fun q10 => if q10 = 0 then (f_X9_isWord_ σ a0 (110 : Int32) (105 : Int32) (103 : Int32) (104 : Int32) (116 : Int32) (0 : Int32) (0 : Int32) (0 : Int32)).bind fun q13 => if q13 = 0 then (f_X9_isWord_ σ a0 (102 : Int32) (108 : Int32) (111 : Int32) (119 : Int32) (110 : Int32) (0 : Int32) (0 : Int32) (0 : Int32)).bind fun q16 => if q16 = 0 then some ((0 : Int32), f_X9_fail σ a0) else some (si_ σ a0 17, σ) else some (si_ σ a0 16, σ) else some (si_ σ a0 15, σ) else some (si_ σ a0 14, σ) else some (si_ σ a0 13, σ) else some (si_ σ a0 12, σ)
set_option maxHeartbeats 4000000 in
set_option maxRecDepth 100000 in
theorem w_X9_name {p : Program} {l : Launch} {e : Env} {R : Room} {s : State} {m : MethodId} {args : Array Value} {below : List Frame} {meth : Method} {c : Code} {κ : Ka_} {G : va_G} {cy : Nat → ClassId} {ad : Nat → Nat} {sz : Nat} {σ0 : St_} (C : CallFix p m c cX9_name 1 s args wU_ RX9) (K : Kx_ κ G cy (va_A (wl_ cy ad σ0) sz) s) (hr : meth.sig.returnType = some .int) (hlk : meth.locks = false) (hR : 3 ≤ R.frames ∧ 71 ≤ R.locals) {q : Int32 × St_} : ∀ (σ : St_) (a0 : Nat), Ex_ σ0 σ → kd_ σ a0 = 9 → f_X9_name σ a0 = some q → ∀ (H : Heap) (locs : List Loc) (ls : Array Slot), Ht_ G cy (va_A (wl_ cy ad σ0) sz) s ad σ H locs → lv_has ls 1 [(0, .ref (ad a0))] → W p l e R s m args below meth c H locs 0 0 (MQ below (Qi_ G cy ad σ0 q.2 sz q.1) args s 0 0 (va_A (wl_ cy ad σ0) sz)) (F0 m 0 ls []) := by
  intro σ a0 hE hk_a0 hf H locs ls h hl
  have hf : ((f_X9_isWord_ σ a0 (119 : Int32) (111 : Int32) (114 : Int32) (100 : Int32) (0 : Int32) (0 : Int32) (0 : Int32) (0 : Int32)).bind fun q1 => if q1 = 0 then (f_X9_isWord_ σ a0 (110 : Int32) (117 : Int32) (109 : Int32) (98 : Int32) (101 : Int32) (114 : Int32) (0 : Int32) (0 : Int32)).bind fun q4 => if q4 = 0 then (f_X9_isWord_ σ a0 (99 : Int32) (111 : Int32) (108 : Int32) (117 : Int32) (109 : Int32) (110 : Int32) (0 : Int32) (0 : Int32)).bind fun q7 => if q7 = 0 then (f_X9_isWord_ σ a0 (114 : Int32) (111 : Int32) (119 : Int32) (0 : Int32) (0 : Int32) (0 : Int32) (0 : Int32) (0 : Int32)).bind fun q10 => if q10 = 0 then (f_X9_isWord_ σ a0 (110 : Int32) (105 : Int32) (103 : Int32) (104 : Int32) (116 : Int32) (0 : Int32) (0 : Int32) (0 : Int32)).bind fun q13 => if q13 = 0 then (f_X9_isWord_ σ a0 (102 : Int32) (108 : Int32) (111 : Int32) (119 : Int32) (110 : Int32) (0 : Int32) (0 : Int32) (0 : Int32)).bind fun q16 => if q16 = 0 then some ((0 : Int32), f_X9_fail σ a0) else some (si_ σ a0 17, σ) else some (si_ σ a0 16, σ) else some (si_ σ a0 15, σ) else some (si_ σ a0 14, σ) else some (si_ σ a0 13, σ) else some (si_ σ a0 12, σ)) = some q := hf
  refine lv_aload_n C.1 C.2.1 dX9_name_0 rfl (lv_at hl 0 rfl) ?_
  refine lv_bipush (v := (119 : Int32)) C.1 C.2.1 dX9_name_1 (by decide) ?_
  refine lv_bipush (v := (111 : Int32)) C.1 C.2.1 dX9_name_3 (by decide) ?_
  refine lv_bipush (v := (114 : Int32)) C.1 C.2.1 dX9_name_5 (by decide) ?_
  refine lv_bipush (v := (100 : Int32)) C.1 C.2.1 dX9_name_7 (by decide) ?_
  refine lv_iconst (v := (0 : Int32)) C.1 C.2.1 dX9_name_9 (by decide) ?_
  refine lv_iconst (v := (0 : Int32)) C.1 C.2.1 dX9_name_10 (by decide) ?_
  refine lv_iconst (v := (0 : Int32)) C.1 C.2.1 dX9_name_11 (by decide) ?_
  refine lv_iconst (v := (0 : Int32)) C.1 C.2.1 dX9_name_12 (by decide) ?_
  obtain ⟨q1, hq_q1, hf⟩ := ob_ hf
  refine x_az K h (x_V C K h [.int (119 : Int32), .int (111 : Int32), .int (114 : Int32), .int (100 : Int32), .int (0 : Int32), .int (0 : Int32), .int (0 : Int32), .int (0 : Int32)] (c_X9_isWord_ l κ G cy ad H.size σ a0 (119 : Int32) (111 : Int32) (114 : Int32) (100 : Int32) (0 : Int32) (0 : Int32) (0 : Int32) (0 : Int32) hk_a0 hq_q1) mi_X9_isWord_ rfl im_yX9_isWord_ se_yX9_isWord_ ml_RX9_193 cl_9 hk_a0 ⟨rfl, rfl, Nat.le_trans (Nat.le_of_ble_eq_true rfl) hR.1, Nat.le_trans (Nat.le_of_ble_eq_true rfl) hR.2⟩ hl (Nat.le_of_ble_eq_true rfl) dX9_name_13 ⟨Nat.zero_le _, Nat.zero_le _⟩ rfl) (fun H locs h hX hz2 => ?_)
  refine lv_if_eq (tgt := 24) C.1 C.2.1 dX9_name_16 (by decide) (fun c3 => ?_) (fun c3 => ?_)
  · have hf := if_t hf c3
    refine lv_aload_n C.1 C.2.1 dX9_name_24 rfl (lv_at hl 0 rfl) ?_
    refine lv_bipush (v := (110 : Int32)) C.1 C.2.1 dX9_name_25 (by decide) ?_
    refine lv_bipush (v := (117 : Int32)) C.1 C.2.1 dX9_name_27 (by decide) ?_
    refine lv_bipush (v := (109 : Int32)) C.1 C.2.1 dX9_name_29 (by decide) ?_
    refine lv_bipush (v := (98 : Int32)) C.1 C.2.1 dX9_name_31 (by decide) ?_
    refine lv_bipush (v := (101 : Int32)) C.1 C.2.1 dX9_name_33 (by decide) ?_
    refine lv_bipush (v := (114 : Int32)) C.1 C.2.1 dX9_name_35 (by decide) ?_
    refine lv_iconst (v := (0 : Int32)) C.1 C.2.1 dX9_name_37 (by decide) ?_
    refine lv_iconst (v := (0 : Int32)) C.1 C.2.1 dX9_name_38 (by decide) ?_
    obtain ⟨q4, hq_q4, hf⟩ := ob_ hf
    refine x_az K h (x_V C K h [.int (110 : Int32), .int (117 : Int32), .int (109 : Int32), .int (98 : Int32), .int (101 : Int32), .int (114 : Int32), .int (0 : Int32), .int (0 : Int32)] (c_X9_isWord_ l κ G cy ad H.size σ a0 (110 : Int32) (117 : Int32) (109 : Int32) (98 : Int32) (101 : Int32) (114 : Int32) (0 : Int32) (0 : Int32) hk_a0 hq_q4) mi_X9_isWord_ rfl im_yX9_isWord_ se_yX9_isWord_ ml_RX9_193 cl_9 hk_a0 ⟨rfl, rfl, Nat.le_trans (Nat.le_of_ble_eq_true rfl) hR.1, Nat.le_trans (Nat.le_of_ble_eq_true rfl) hR.2⟩ hl (Nat.le_of_ble_eq_true rfl) dX9_name_39 ⟨Nat.zero_le _, Nat.zero_le _⟩ rfl) (fun H locs h hX hz5 => ?_)
    refine lv_if_eq (tgt := 50) C.1 C.2.1 dX9_name_42 (by decide) (fun c6 => ?_) (fun c6 => ?_)
    · have hf := if_t hf c6
      refine lv_aload_n C.1 C.2.1 dX9_name_50 rfl (lv_at hl 0 rfl) ?_
      refine lv_bipush (v := (99 : Int32)) C.1 C.2.1 dX9_name_51 (by decide) ?_
      refine lv_bipush (v := (111 : Int32)) C.1 C.2.1 dX9_name_53 (by decide) ?_
      refine lv_bipush (v := (108 : Int32)) C.1 C.2.1 dX9_name_55 (by decide) ?_
      refine lv_bipush (v := (117 : Int32)) C.1 C.2.1 dX9_name_57 (by decide) ?_
      refine lv_bipush (v := (109 : Int32)) C.1 C.2.1 dX9_name_59 (by decide) ?_
      refine lv_bipush (v := (110 : Int32)) C.1 C.2.1 dX9_name_61 (by decide) ?_
      refine lv_iconst (v := (0 : Int32)) C.1 C.2.1 dX9_name_63 (by decide) ?_
      refine lv_iconst (v := (0 : Int32)) C.1 C.2.1 dX9_name_64 (by decide) ?_
      obtain ⟨q7, hq_q7, hf⟩ := ob_ hf
      refine x_az K h (x_V C K h [.int (99 : Int32), .int (111 : Int32), .int (108 : Int32), .int (117 : Int32), .int (109 : Int32), .int (110 : Int32), .int (0 : Int32), .int (0 : Int32)] (c_X9_isWord_ l κ G cy ad H.size σ a0 (99 : Int32) (111 : Int32) (108 : Int32) (117 : Int32) (109 : Int32) (110 : Int32) (0 : Int32) (0 : Int32) hk_a0 hq_q7) mi_X9_isWord_ rfl im_yX9_isWord_ se_yX9_isWord_ ml_RX9_193 cl_9 hk_a0 ⟨rfl, rfl, Nat.le_trans (Nat.le_of_ble_eq_true rfl) hR.1, Nat.le_trans (Nat.le_of_ble_eq_true rfl) hR.2⟩ hl (Nat.le_of_ble_eq_true rfl) dX9_name_65 ⟨Nat.zero_le _, Nat.zero_le _⟩ rfl) (fun H locs h hX hz8 => ?_)
      refine lv_if_eq (tgt := 76) C.1 C.2.1 dX9_name_68 (by decide) (fun c9 => ?_) (fun c9 => ?_)
      · have hf := if_t hf c9
        refine lv_aload_n C.1 C.2.1 dX9_name_76 rfl (lv_at hl 0 rfl) ?_
        refine lv_bipush (v := (114 : Int32)) C.1 C.2.1 dX9_name_77 (by decide) ?_
        refine lv_bipush (v := (111 : Int32)) C.1 C.2.1 dX9_name_79 (by decide) ?_
        refine lv_bipush (v := (119 : Int32)) C.1 C.2.1 dX9_name_81 (by decide) ?_
        refine lv_iconst (v := (0 : Int32)) C.1 C.2.1 dX9_name_83 (by decide) ?_
        refine lv_iconst (v := (0 : Int32)) C.1 C.2.1 dX9_name_84 (by decide) ?_
        refine lv_iconst (v := (0 : Int32)) C.1 C.2.1 dX9_name_85 (by decide) ?_
        refine lv_iconst (v := (0 : Int32)) C.1 C.2.1 dX9_name_86 (by decide) ?_
        refine lv_iconst (v := (0 : Int32)) C.1 C.2.1 dX9_name_87 (by decide) ?_
        obtain ⟨q10, hq_q10, hf⟩ := ob_ hf
        refine x_az K h (x_V C K h [.int (114 : Int32), .int (111 : Int32), .int (119 : Int32), .int (0 : Int32), .int (0 : Int32), .int (0 : Int32), .int (0 : Int32), .int (0 : Int32)] (c_X9_isWord_ l κ G cy ad H.size σ a0 (114 : Int32) (111 : Int32) (119 : Int32) (0 : Int32) (0 : Int32) (0 : Int32) (0 : Int32) (0 : Int32) hk_a0 hq_q10) mi_X9_isWord_ rfl im_yX9_isWord_ se_yX9_isWord_ ml_RX9_193 cl_9 hk_a0 ⟨rfl, rfl, Nat.le_trans (Nat.le_of_ble_eq_true rfl) hR.1, Nat.le_trans (Nat.le_of_ble_eq_true rfl) hR.2⟩ hl (Nat.le_of_ble_eq_true rfl) dX9_name_88 ⟨Nat.zero_le _, Nat.zero_le _⟩ rfl) (fun H locs h hX hz11 => ?_)
        refine lv_if_eq (tgt := 99) C.1 C.2.1 dX9_name_91 (by decide) (fun c12 => ?_) (fun c12 => ?_)
        · have hf := if_t hf c12
          refine lv_aload_n C.1 C.2.1 dX9_name_99 rfl (lv_at hl 0 rfl) ?_
          refine lv_bipush (v := (110 : Int32)) C.1 C.2.1 dX9_name_100 (by decide) ?_
          refine lv_bipush (v := (105 : Int32)) C.1 C.2.1 dX9_name_102 (by decide) ?_
          refine lv_bipush (v := (103 : Int32)) C.1 C.2.1 dX9_name_104 (by decide) ?_
          refine lv_bipush (v := (104 : Int32)) C.1 C.2.1 dX9_name_106 (by decide) ?_
          refine lv_bipush (v := (116 : Int32)) C.1 C.2.1 dX9_name_108 (by decide) ?_
          refine lv_iconst (v := (0 : Int32)) C.1 C.2.1 dX9_name_110 (by decide) ?_
          refine lv_iconst (v := (0 : Int32)) C.1 C.2.1 dX9_name_111 (by decide) ?_
          refine lv_iconst (v := (0 : Int32)) C.1 C.2.1 dX9_name_112 (by decide) ?_
          obtain ⟨q13, hq_q13, hf⟩ := ob_ hf
          refine x_az K h (x_V C K h [.int (110 : Int32), .int (105 : Int32), .int (103 : Int32), .int (104 : Int32), .int (116 : Int32), .int (0 : Int32), .int (0 : Int32), .int (0 : Int32)] (c_X9_isWord_ l κ G cy ad H.size σ a0 (110 : Int32) (105 : Int32) (103 : Int32) (104 : Int32) (116 : Int32) (0 : Int32) (0 : Int32) (0 : Int32) hk_a0 hq_q13) mi_X9_isWord_ rfl im_yX9_isWord_ se_yX9_isWord_ ml_RX9_193 cl_9 hk_a0 ⟨rfl, rfl, Nat.le_trans (Nat.le_of_ble_eq_true rfl) hR.1, Nat.le_trans (Nat.le_of_ble_eq_true rfl) hR.2⟩ hl (Nat.le_of_ble_eq_true rfl) dX9_name_113 ⟨Nat.zero_le _, Nat.zero_le _⟩ rfl) (fun H locs h hX hz14 => ?_)
          refine lv_if_eq (tgt := 124) C.1 C.2.1 dX9_name_116 (by decide) (fun c15 => ?_) (fun c15 => ?_)
          · have hf := if_t hf c15
            refine lv_aload_n C.1 C.2.1 dX9_name_124 rfl (lv_at hl 0 rfl) ?_
            refine lv_bipush (v := (102 : Int32)) C.1 C.2.1 dX9_name_125 (by decide) ?_
            refine lv_bipush (v := (108 : Int32)) C.1 C.2.1 dX9_name_127 (by decide) ?_
            refine lv_bipush (v := (111 : Int32)) C.1 C.2.1 dX9_name_129 (by decide) ?_
            refine lv_bipush (v := (119 : Int32)) C.1 C.2.1 dX9_name_131 (by decide) ?_
            refine lv_bipush (v := (110 : Int32)) C.1 C.2.1 dX9_name_133 (by decide) ?_
            refine lv_iconst (v := (0 : Int32)) C.1 C.2.1 dX9_name_135 (by decide) ?_
            refine lv_iconst (v := (0 : Int32)) C.1 C.2.1 dX9_name_136 (by decide) ?_
            refine lv_iconst (v := (0 : Int32)) C.1 C.2.1 dX9_name_137 (by decide) ?_
            obtain ⟨q16, hq_q16, hf⟩ := ob_ hf
            refine x_az K h (x_V C K h [.int (102 : Int32), .int (108 : Int32), .int (111 : Int32), .int (119 : Int32), .int (110 : Int32), .int (0 : Int32), .int (0 : Int32), .int (0 : Int32)] (c_X9_isWord_ l κ G cy ad H.size σ a0 (102 : Int32) (108 : Int32) (111 : Int32) (119 : Int32) (110 : Int32) (0 : Int32) (0 : Int32) (0 : Int32) hk_a0 hq_q16) mi_X9_isWord_ rfl im_yX9_isWord_ se_yX9_isWord_ ml_RX9_193 cl_9 hk_a0 ⟨rfl, rfl, Nat.le_trans (Nat.le_of_ble_eq_true rfl) hR.1, Nat.le_trans (Nat.le_of_ble_eq_true rfl) hR.2⟩ hl (Nat.le_of_ble_eq_true rfl) dX9_name_138 ⟨Nat.zero_le _, Nat.zero_le _⟩ rfl) (fun H locs h hX hz17 => ?_)
            refine lv_if_eq (tgt := 149) C.1 C.2.1 dX9_name_141 (by decide) (fun c18 => ?_) (fun c18 => ?_)
            · have hf := if_t hf c18
              refine lv_aload_n C.1 C.2.1 dX9_name_149 rfl (lv_at hl 0 rfl) ?_
              refine x_av K h (x_V C K h [] (c_X9_fail l κ G cy ad H.size σ a0 hk_a0 rfl) mi_X9_fail rfl im_yX9_fail se_yX9_fail ml_RX9_187 cl_9 hk_a0 ⟨rfl, rfl, Nat.le_trans (Nat.le_of_ble_eq_true rfl) hR.1, Nat.le_trans (Nat.le_of_ble_eq_true rfl) hR.2⟩ hl (Nat.le_of_ble_eq_true rfl) dX9_name_150 ⟨Nat.zero_le _, Nat.zero_le _⟩ rfl) (fun H locs h hX => ?_)
              have hE := hE.trans hX
              have hk_a0 := hX.k hk_a0 (by decide)
              refine lv_iconst (v := (0 : Int32)) C.1 C.2.1 dX9_name_153 (by decide) ?_
              exact x_ri C hr hlk h hE (pf_1 (Option.some.inj hf)) (pf_2 (Option.some.inj hf)) dX9_name_154
            · have hf := if_f hf c18
              refine lv_aload_n C.1 C.2.1 dX9_name_144 rfl (lv_at hl 0 rfl) ?_
              refine x_get (v := .int (si_ σ a0 17)) C K h cl_9 hk_a0 17 (by decide) fl_RX9_212 rfl dX9_name_145 ?_
              exact x_ri C hr hlk h hE (pf_1 (Option.some.inj hf)) (pf_2 (Option.some.inj hf)) dX9_name_148
          · have hf := if_f hf c15
            refine lv_aload_n C.1 C.2.1 dX9_name_119 rfl (lv_at hl 0 rfl) ?_
            refine x_get (v := .int (si_ σ a0 16)) C K h cl_9 hk_a0 16 (by decide) fl_RX9_209 rfl dX9_name_120 ?_
            exact x_ri C hr hlk h hE (pf_1 (Option.some.inj hf)) (pf_2 (Option.some.inj hf)) dX9_name_123
        · have hf := if_f hf c12
          refine lv_aload_n C.1 C.2.1 dX9_name_94 rfl (lv_at hl 0 rfl) ?_
          refine x_get (v := .int (si_ σ a0 15)) C K h cl_9 hk_a0 15 (by decide) fl_RX9_206 rfl dX9_name_95 ?_
          exact x_ri C hr hlk h hE (pf_1 (Option.some.inj hf)) (pf_2 (Option.some.inj hf)) dX9_name_98
      · have hf := if_f hf c9
        refine lv_aload_n C.1 C.2.1 dX9_name_71 rfl (lv_at hl 0 rfl) ?_
        refine x_get (v := .int (si_ σ a0 14)) C K h cl_9 hk_a0 14 (by decide) fl_RX9_203 rfl dX9_name_72 ?_
        exact x_ri C hr hlk h hE (pf_1 (Option.some.inj hf)) (pf_2 (Option.some.inj hf)) dX9_name_75
    · have hf := if_f hf c6
      refine lv_aload_n C.1 C.2.1 dX9_name_45 rfl (lv_at hl 0 rfl) ?_
      refine x_get (v := .int (si_ σ a0 13)) C K h cl_9 hk_a0 13 (by decide) fl_RX9_200 rfl dX9_name_46 ?_
      exact x_ri C hr hlk h hE (pf_1 (Option.some.inj hf)) (pf_2 (Option.some.inj hf)) dX9_name_49
  · have hf := if_f hf c3
    refine lv_aload_n C.1 C.2.1 dX9_name_19 rfl (lv_at hl 0 rfl) ?_
    refine x_get (v := .int (si_ σ a0 12)) C K h cl_9 hk_a0 12 (by decide) fl_RX9_197 rfl dX9_name_20 ?_
    exact x_ri C hr hlk h hE (pf_1 (Option.some.inj hf)) (pf_2 (Option.some.inj hf)) dX9_name_23
theorem c_X9_name (l : Launch) (κ : Ka_) (G : va_G) (cy : Nat → ClassId) (ad : Nat → Nat) (sz : Nat) (σ : St_) (a0 : Nat) (hk_a0 : kd_ σ a0 = 9) {q : Int32 × St_} (hf : f_X9_name σ a0 = some q) : Met l yX9_name (Cond.code yX9_name cX9_name 1 (some .int) :: wU_) { frames := 3, cells := 0, slots := 0, locals := 71 } (va_Pc [.ref (ad a0)] (Pr_ κ G cy ad σ sz)) (Qi_ G cy ad σ q.2 sz q.1) 0 0 (va_A (wl_ cy ad σ) sz) :=
  x_met (by decide) (fun p e R s m below meth c ls hR C hr hlk hin _ K h hl => w_X9_name C K hr hlk ⟨hR.1, hR.2.1⟩ σ a0 Ex_.rf hk_a0 hf s.heap [] ls h hl) (Nat.le_of_ble_eq_true rfl)
