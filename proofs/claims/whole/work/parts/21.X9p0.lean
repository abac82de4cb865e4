-- X9_atom5
theorem mi_X9_atom5 : Mi_ yX9_atom5 cX9_atom5 2 (some .int) 0 := ⟨co_yX9_atom5, in_RX9, by decide, by decide, by decide +kernel⟩
def f_X9_atom5_64 (fu : Nat) (σ : St_) (v0 : Nat) (v1 : Int32) : Option (Int32 × St_) := if (si_ σ v0 25) = 0 then if (si_ σ v0 21) = (1 : Int32) then (f_X9_name σ v0).bind fun q5 => if (si_ q5.2 v0 25) = 0 then (f_X9_next fu q5.2 v0).bind fun q7 => some (q5.1, q7) else some (q5.1, q5.2) else some (v1, f_X9_fail σ v0) else some (v1, f_X9_fail σ v0)
set_option maxHeartbeats 4000000 in
set_option maxRecDepth 100000 in
theorem w_X9_atom5_64 {p : Program} {l : Launch} {e : Env} {R : Room} {s : State} {m : MethodId} {args : Array Value} {below : List Frame} {meth : Method} {c : Code} {κ : Ka_} {G : va_G} {cy : Nat → ClassId} {ad : Nat → Nat} {sz : Nat} {σ0 : St_} (fu : Nat) (C : CallFix p m c cX9_atom5 2 s args wU_ RX9) (K : Kx_ κ G cy (va_A (wl_ cy ad σ0) sz) s) (hr : meth.sig.returnType = some .int) (hlk : meth.locks = false) (hR : 4 ≤ R.frames ∧ 91 ≤ R.locals) {q : Int32 × St_} : ∀ (σ : St_) (v0 : Nat) (v1 : Int32), Ex_ σ0 σ → kd_ σ v0 = 9 → f_X9_atom5_64 fu σ v0 v1 = some q → ∀ (H : Heap) (locs : List Loc) (ls : Array Slot), Ht_ G cy (va_A (wl_ cy ad σ0) sz) s ad σ H locs → lv_has ls 2 [(0, .ref (ad v0)), (1, .int v1)] → W p l e R s m args below meth c H locs 0 0 (MQ below (Qi_ G cy ad σ0 q.2 sz q.1) args s 0 0 (va_A (wl_ cy ad σ0) sz)) (F0 m 64 ls []) := by
  intro σ v0 v1 hE hk_v0 hf H locs ls h hl
  have hf : (if (si_ σ v0 25) = 0 then if (si_ σ v0 21) = (1 : Int32) then (f_X9_name σ v0).bind fun q5 => if (si_ q5.2 v0 25) = 0 then (f_X9_next fu q5.2 v0).bind fun q7 => some (q5.1, q7) else some (q5.1, q5.2) else some (v1, f_X9_fail σ v0) else some (v1, f_X9_fail σ v0)) = some q := hf
  refine lv_aload_n C.1 C.2.1 dX9_atom5_64 rfl (lv_at hl 0 rfl) ?_
  refine x_get (v := .int (si_ σ v0 25)) C K h cl_9 hk_v0 25 (by decide) fl_RX9_174 rfl dX9_atom5_65 ?_
  refine lv_if_ne (tgt := 98) C.1 C.2.1 dX9_atom5_68 (by decide) (fun c1 => ?_) (fun c1 => ?_)
  · have hf := if_f hf c1
    refine lv_aload_n C.1 C.2.1 dX9_atom5_98 rfl (lv_at hl 0 rfl) ?_
    refine x_av K h (x_V C K h [] (c_X9_fail l κ G cy ad H.size σ v0 hk_v0 rfl) mi_X9_fail rfl im_yX9_fail se_yX9_fail ml_RX9_187 cl_9 hk_v0 ⟨rfl, rfl, Nat.le_trans (Nat.le_of_ble_eq_true rfl) hR.1, Nat.le_trans (Nat.le_of_ble_eq_true rfl) hR.2⟩ hl (Nat.le_of_ble_eq_true rfl) dX9_atom5_99 ⟨Nat.zero_le _, Nat.zero_le _⟩ rfl) (fun H locs h hX => ?_)
    have hE := hE.trans hX
    have hk_v0 := hX.k hk_v0 (by decide)
    refine lv_iload_n C.1 C.2.1 dX9_atom5_102 rfl (lv_at hl 1 rfl) ?_
    exact x_ri C hr hlk h hE (pf_1 (Option.some.inj hf)) (pf_2 (Option.some.inj hf)) dX9_atom5_103
  · have hf := if_t hf c1
    refine lv_aload_n C.1 C.2.1 dX9_atom5_71 rfl (lv_at hl 0 rfl) ?_
    refine x_get (v := .int (si_ σ v0 21)) C K h cl_9 hk_v0 21 (by decide) fl_RX9_159 rfl dX9_atom5_72 ?_
    refine lv_iconst (v := (1 : Int32)) C.1 C.2.1 dX9_atom5_75 (by decide) ?_
    refine lv_icmp_ne (tgt := 98) C.1 C.2.1 dX9_atom5_76 (by decide) (fun c3 => ?_) (fun c3 => ?_)
    · have hf := if_f hf c3
      refine lv_aload_n C.1 C.2.1 dX9_atom5_98 rfl (lv_at hl 0 rfl) ?_
      refine x_av K h (x_V C K h [] (c_X9_fail l κ G cy ad H.size σ v0 hk_v0 rfl) mi_X9_fail rfl im_yX9_fail se_yX9_fail ml_RX9_187 cl_9 hk_v0 ⟨rfl, rfl, Nat.le_trans (Nat.le_of_ble_eq_true rfl) hR.1, Nat.le_trans (Nat.le_of_ble_eq_true rfl) hR.2⟩ hl (Nat.le_of_ble_eq_true rfl) dX9_atom5_99 ⟨Nat.zero_le _, Nat.zero_le _⟩ rfl) (fun H locs h hX => ?_)
      have hE := hE.trans hX
      have hk_v0 := hX.k hk_v0 (by decide)
      refine lv_iload_n C.1 C.2.1 dX9_atom5_102 rfl (lv_at hl 1 rfl) ?_
      exact x_ri C hr hlk h hE (pf_1 (Option.some.inj hf)) (pf_2 (Option.some.inj hf)) dX9_atom5_103
    · have hf := if_t hf c3
      refine lv_aload_n C.1 C.2.1 dX9_atom5_79 rfl (lv_at hl 0 rfl) ?_
      obtain ⟨q5, hq_q5, hf⟩ := ob_ hf
      refine x_ai K h (x_V C K h [] (c_X9_name l κ G cy ad H.size σ v0 hk_v0 hq_q5) mi_X9_name rfl im_yX9_name se_yX9_name ml_RX9_222 cl_9 hk_v0 ⟨rfl, rfl, Nat.le_trans (Nat.le_of_ble_eq_true rfl) hR.1, Nat.le_trans (Nat.le_of_ble_eq_true rfl) hR.2⟩ hl (Nat.le_of_ble_eq_true rfl) dX9_atom5_80 ⟨Nat.zero_le _, Nat.zero_le _⟩ rfl) (fun H locs h hX => ?_)
      have hE := hE.trans hX
      have hk_v0 := hX.k hk_v0 (by decide)
      refine lv_istore_n (i := 1) (lv' := [(1, .int q5.1), (0, .ref (ad v0))]) C.1 C.2.1 dX9_atom5_83 rfl hl (by decide) rfl (fun ls hl => ?_)
      refine lv_aload_n C.1 C.2.1 dX9_atom5_84 rfl (lv_at hl 1 rfl) ?_
      refine x_get (v := .int (si_ q5.2 v0 25)) C K h cl_9 hk_v0 25 (by decide) fl_RX9_174 rfl dX9_atom5_85 ?_
      refine lv_if_ne (tgt := 102) C.1 C.2.1 dX9_atom5_88 (by decide) (fun c6 => ?_) (fun c6 => ?_)
      · have hf := if_f hf c6
        refine lv_iload_n C.1 C.2.1 dX9_atom5_102 rfl (lv_at hl 0 rfl) ?_
        exact x_ri C hr hlk h hE (pf_1 (Option.some.inj hf)) (pf_2 (Option.some.inj hf)) dX9_atom5_103
      · have hf := if_t hf c6
        refine lv_aload_n C.1 C.2.1 dX9_atom5_91 rfl (lv_at hl 1 rfl) ?_
        obtain ⟨q7, hq_q7, hf⟩ := ob_ hf
        refine x_av K h (x_V C K h [] (c_X9_next fu l κ G cy ad H.size q5.2 v0 hk_v0 hq_q7) mi_X9_next rfl im_yX9_next se_yX9_next ml_RX9_190 cl_9 hk_v0 ⟨rfl, rfl, Nat.le_trans (Nat.le_of_ble_eq_true rfl) hR.1, Nat.le_trans (Nat.le_of_ble_eq_true rfl) hR.2⟩ hl (Nat.le_of_ble_eq_true rfl) dX9_atom5_92 ⟨Nat.zero_le _, Nat.zero_le _⟩ rfl) (fun H locs h hX => ?_)
        have hE := hE.trans hX
        have hk_v0 := hX.k hk_v0 (by decide)
        refine lv_goto (tgt := 102) C.1 C.2.1 dX9_atom5_95 (by decide) ?_
        refine lv_iload_n C.1 C.2.1 dX9_atom5_102 rfl (lv_at hl 0 rfl) ?_
        exact x_ri C hr hlk h hE (pf_1 (Option.some.inj hf)) (pf_2 (Option.some.inj hf)) dX9_atom5_103
def f_X9_atom5 (fu : Nat) (σ : St_) (a0 : Nat) : Option (Int32 × St_) := if (f_X9_isSign σ a0 (45 : Int32)) = 0 then if (f_X9_isSign σ a0 (40 : Int32)) = 0 then if (si_ σ a0 25) = 0 then if (si_ σ a0 21) = (2 : Int32) then (f_X9_next fu σ a0).bind fun q9 => some ((sl_ σ a0 23).toInt32, q9) else f_X9_atom5_64 fu σ a0 (0 : Int32) else f_X9_atom5_64 fu σ a0 (0 : Int32) else (f_X9_opens fu σ a0).bind fun q10 => some ((0 : Int32), q10.2) else (f_X9_opens fu σ a0).bind fun q12 => some ((0 : Int32), q12.2)
set_option maxHeartbeats 4000000 in
set_option maxRecDepth 100000 in
theorem w_X9_atom5 {p : Program} {l : Launch} {e : Env} {R : Room} {s : State} {m : MethodId} {args : Array Value} {below : List Frame} {meth : Method} {c : Code} {κ : Ka_} {G : va_G} {cy : Nat → ClassId} {ad : Nat → Nat} {sz : Nat} {σ0 : St_} (fu : Nat) (C : CallFix p m c cX9_atom5 2 s args wU_ RX9) (K : Kx_ κ G cy (va_A (wl_ cy ad σ0) sz) s) (hr : meth.sig.returnType = some .int) (hlk : meth.locks = false) (hR : 4 ≤ R.frames ∧ 91 ≤ R.locals) {q : Int32 × St_} : ∀ (σ : St_) (a0 : Nat), Ex_ σ0 σ → kd_ σ a0 = 9 → f_X9_atom5 fu σ a0 = some q → ∀ (H : Heap) (locs : List Loc) (ls : Array Slot), Ht_ G cy (va_A (wl_ cy ad σ0) sz) s ad σ H locs → lv_has ls 2 [(0, .ref (ad a0))] → W p l e R s m args below meth c H locs 0 0 (MQ below (Qi_ G cy ad σ0 q.2 sz q.1) args s 0 0 (va_A (wl_ cy ad σ0) sz)) (F0 m 0 ls []) := by
  intro σ a0 hE hk_a0 hf H locs ls h hl
  have hf : (if (f_X9_isSign σ a0 (45 : Int32)) = 0 then if (f_X9_isSign σ a0 (40 : Int32)) = 0 then if (si_ σ a0 25) = 0 then if (si_ σ a0 21) = (2 : Int32) then (f_X9_next fu σ a0).bind fun q9 => some ((sl_ σ a0 23).toInt32, q9) else f_X9_atom5_64 fu σ a0 (0 : Int32) else f_X9_atom5_64 fu σ a0 (0 : Int32) else (f_X9_opens fu σ a0).bind fun q10 => some ((0 : Int32), q10.2) else (f_X9_opens fu σ a0).bind fun q12 => some ((0 : Int32), q12.2)) = some q := hf
  refine lv_iconst (v := (0 : Int32)) C.1 C.2.1 dX9_atom5_0 (by decide) ?_
  refine lv_istore_n (i := 1) (lv' := [(1, .int (0 : Int32)), (0, .ref (ad a0))]) C.1 C.2.1 dX9_atom5_1 rfl hl (by decide) rfl (fun ls hl => ?_)
  refine lv_aload_n C.1 C.2.1 dX9_atom5_2 rfl (lv_at hl 1 rfl) ?_
  refine lv_bipush (v := (45 : Int32)) C.1 C.2.1 dX9_atom5_3 (by decide) ?_
  refine x_az K h (x_V C K h [.int (45 : Int32)] (c_X9_isSign l κ G cy ad H.size σ a0 (45 : Int32) hk_a0 rfl) mi_X9_isSign rfl im_yX9_isSign se_yX9_isSign ml_RX9_215 cl_9 hk_a0 ⟨rfl, rfl, Nat.le_trans (Nat.le_of_ble_eq_true rfl) hR.1, Nat.le_trans (Nat.le_of_ble_eq_true rfl) hR.2⟩ hl (Nat.le_of_ble_eq_true rfl) dX9_atom5_5 ⟨Nat.zero_le _, Nat.zero_le _⟩ rfl) (fun H locs h hX hz2 => ?_)
  refine lv_if_eq (tgt := 19) C.1 C.2.1 dX9_atom5_8 (by decide) (fun c3 => ?_) (fun c3 => ?_)
  · have hf := if_t hf c3
    refine lv_aload_n C.1 C.2.1 dX9_atom5_19 rfl (lv_at hl 1 rfl) ?_
    refine lv_bipush (v := (40 : Int32)) C.1 C.2.1 dX9_atom5_20 (by decide) ?_
    refine x_az K h (x_V C K h [.int (40 : Int32)] (c_X9_isSign l κ G cy ad H.size σ a0 (40 : Int32) hk_a0 rfl) mi_X9_isSign rfl im_yX9_isSign se_yX9_isSign ml_RX9_215 cl_9 hk_a0 ⟨rfl, rfl, Nat.le_trans (Nat.le_of_ble_eq_true rfl) hR.1, Nat.le_trans (Nat.le_of_ble_eq_true rfl) hR.2⟩ hl (Nat.le_of_ble_eq_true rfl) dX9_atom5_22 ⟨Nat.zero_le _, Nat.zero_le _⟩ rfl) (fun H locs h hX hz5 => ?_)
    refine lv_if_eq (tgt := 36) C.1 C.2.1 dX9_atom5_25 (by decide) (fun c6 => ?_) (fun c6 => ?_)
    · have hf := if_t hf c6
      refine lv_aload_n C.1 C.2.1 dX9_atom5_36 rfl (lv_at hl 1 rfl) ?_
      refine x_get (v := .int (si_ σ a0 25)) C K h cl_9 hk_a0 25 (by decide) fl_RX9_174 rfl dX9_atom5_37 ?_
      refine lv_if_ne (tgt := 64) C.1 C.2.1 dX9_atom5_40 (by decide) (fun c7 => ?_) (fun c7 => ?_)
      · have hf := if_f hf c7
        exact w_X9_atom5_64 fu C K hr hlk hR σ a0 (0 : Int32) hE hk_a0 hf _ _ _ h (lv_sub hl [1, 0] rfl)
      · have hf := if_t hf c7
        refine lv_aload_n C.1 C.2.1 dX9_atom5_43 rfl (lv_at hl 1 rfl) ?_
        refine x_get (v := .int (si_ σ a0 21)) C K h cl_9 hk_a0 21 (by decide) fl_RX9_159 rfl dX9_atom5_44 ?_
        refine lv_iconst (v := (2 : Int32)) C.1 C.2.1 dX9_atom5_47 (by decide) ?_
        refine lv_icmp_ne (tgt := 64) C.1 C.2.1 dX9_atom5_48 (by decide) (fun c8 => ?_) (fun c8 => ?_)
        · have hf := if_f hf c8
          exact w_X9_atom5_64 fu C K hr hlk hR σ a0 (0 : Int32) hE hk_a0 hf _ _ _ h (lv_sub hl [1, 0] rfl)
        · have hf := if_t hf c8
          refine lv_aload_n C.1 C.2.1 dX9_atom5_51 rfl (lv_at hl 1 rfl) ?_
          refine x_get (v := .long (sl_ σ a0 23)) C K h cl_9 hk_a0 23 (by decide) fl_RX9_170 rfl dX9_atom5_52 ?_
          refine lv_l2i C.1 C.2.1 dX9_atom5_55 rfl ?_
          refine lv_istore_n (i := 1) (lv' := [(1, .int ((sl_ σ a0 23).toInt32)), (0, .ref (ad a0))]) C.1 C.2.1 dX9_atom5_56 rfl hl (by decide) rfl (fun ls hl => ?_)
          refine lv_aload_n C.1 C.2.1 dX9_atom5_57 rfl (lv_at hl 1 rfl) ?_
          obtain ⟨q9, hq_q9, hf⟩ := ob_ hf
          refine x_av K h (x_V C K h [] (c_X9_next fu l κ G cy ad H.size σ a0 hk_a0 hq_q9) mi_X9_next rfl im_yX9_next se_yX9_next ml_RX9_190 cl_9 hk_a0 ⟨rfl, rfl, Nat.le_trans (Nat.le_of_ble_eq_true rfl) hR.1, Nat.le_trans (Nat.le_of_ble_eq_true rfl) hR.2⟩ hl (Nat.le_of_ble_eq_true rfl) dX9_atom5_58 ⟨Nat.zero_le _, Nat.zero_le _⟩ rfl) (fun H locs h hX => ?_)
          have hE := hE.trans hX
          have hk_a0 := hX.k hk_a0 (by decide)
          refine lv_goto (tgt := 102) C.1 C.2.1 dX9_atom5_61 (by decide) ?_
          refine lv_iload_n C.1 C.2.1 dX9_atom5_102 rfl (lv_at hl 0 rfl) ?_
          exact x_ri C hr hlk h hE (pf_1 (Option.some.inj hf)) (pf_2 (Option.some.inj hf)) dX9_atom5_103
    · have hf := if_f hf c6
      refine lv_aload_n C.1 C.2.1 dX9_atom5_28 rfl (lv_at hl 1 rfl) ?_
      obtain ⟨q10, hq_q10, hf⟩ := ob_ hf
      refine x_az K h (x_V C K h [] (c_X9_opens fu l κ G cy ad H.size σ a0 hk_a0 hq_q10) mi_X9_opens rfl im_yX9_opens se_yX9_opens ml_RX9_218 cl_9 hk_a0 ⟨rfl, rfl, Nat.le_trans (Nat.le_of_ble_eq_true rfl) hR.1, Nat.le_trans (Nat.le_of_ble_eq_true rfl) hR.2⟩ hl (Nat.le_of_ble_eq_true rfl) dX9_atom5_29 ⟨Nat.zero_le _, Nat.zero_le _⟩ rfl) (fun H locs h hX hz11 => ?_)
      have hE := hE.trans hX
      have hk_a0 := hX.k hk_a0 (by decide)
      refine lv_pop C.1 C.2.1 dX9_atom5_32 rfl ?_
      refine lv_goto (tgt := 102) C.1 C.2.1 dX9_atom5_33 (by decide) ?_
      refine lv_iload_n C.1 C.2.1 dX9_atom5_102 rfl (lv_at hl 0 rfl) ?_
      exact x_ri C hr hlk h hE (pf_1 (Option.some.inj hf)) (pf_2 (Option.some.inj hf)) dX9_atom5_103
  · have hf := if_f hf c3
    refine lv_aload_n C.1 C.2.1 dX9_atom5_11 rfl (lv_at hl 1 rfl) ?_
    obtain ⟨q12, hq_q12, hf⟩ := ob_ hf
    refine x_az K h (x_V C K h [] (c_X9_opens fu l κ G cy ad H.size σ a0 hk_a0 hq_q12) mi_X9_opens rfl im_yX9_opens se_yX9_opens ml_RX9_218 cl_9 hk_a0 ⟨rfl, rfl, Nat.le_trans (Nat.le_of_ble_eq_true rfl) hR.1, Nat.le_trans (Nat.le_of_ble_eq_true rfl) hR.2⟩ hl (Nat.le_of_ble_eq_true rfl) dX9_atom5_12 ⟨Nat.zero_le _, Nat.zero_le _⟩ rfl) (fun H locs h hX hz13 => ?_)
    have hE := hE.trans hX
    have hk_a0 := hX.k hk_a0 (by decide)
    refine lv_pop C.1 C.2.1 dX9_atom5_15 rfl ?_
    refine lv_goto (tgt := 102) C.1 C.2.1 dX9_atom5_16 (by decide) ?_
    refine lv_iload_n C.1 C.2.1 dX9_atom5_102 rfl (lv_at hl 0 rfl) ?_
    exact x_ri C hr hlk h hE (pf_1 (Option.some.inj hf)) (pf_2 (Option.some.inj hf)) dX9_atom5_103
theorem c_X9_atom5 (fu : Nat) (l : Launch) (κ : Ka_) (G : va_G) (cy : Nat → ClassId) (ad : Nat → Nat) (sz : Nat) (σ : St_) (a0 : Nat) (hk_a0 : kd_ σ a0 = 9) {q : Int32 × St_} (hf : f_X9_atom5 fu σ a0 = some q) : Met l yX9_atom5 (Cond.code yX9_atom5 cX9_atom5 2 (some .int) :: wU_) { frames := 4, cells := 0, slots := 0, locals := 91 } (va_Pc [.ref (ad a0)] (Pr_ κ G cy ad σ sz)) (Qi_ G cy ad σ q.2 sz q.1) 0 0 (va_A (wl_ cy ad σ) sz) :=
  x_met (by decide) (fun p e R s m below meth c ls hR C hr hlk hin _ K h hl => w_X9_atom5 fu C K hr hlk ⟨hR.1, hR.2.1⟩ σ a0 Ex_.rf hk_a0 hf s.heap [] ls h hl) (Nat.le_of_ble_eq_true rfl)
-- X9_term5
theorem mi_X9_term5 : Mi_ yX9_term5 cX9_term5 2 (some .int) 0 := ⟨co_yX9_term5, in_RX9, by decide, by decide, by decide +kernel⟩
def f_X9_term5_5 (fu : Nat) : Nat → St_ → Nat → Int32 → Option (Int32 × St_)
  | 0 => fun _ _ _ => none
  | n + 1 => fun σ  v0  v1 => if (f_X9_isSign σ v0 (42 : Int32)) = 0 then some (v1, σ) else (f_X9_next fu σ v0).bind fun q4 => (f_X9_atom5 fu q4 v0).bind fun q5 => (f_X9_term5_5 fu n) q5.2 v0 (v1 * q5.1)
set_option maxHeartbeats 4000000 in
set_option maxRecDepth 100000 in
theorem w_X9_term5_5 {p : Program} {l : Launch} {e : Env} {R : Room} {s : State} {m : MethodId} {args : Array Value} {below : List Frame} {meth : Method} {c : Code} {κ : Ka_} {G : va_G} {cy : Nat → ClassId} {ad : Nat → Nat} {sz : Nat} {σ0 : St_} (fu : Nat) (C : CallFix p m c cX9_term5 2 s args wU_ RX9) (K : Kx_ κ G cy (va_A (wl_ cy ad σ0) sz) s) (hr : meth.sig.returnType = some .int) (hlk : meth.locks = false) (hR : 5 ≤ R.frames ∧ 112 ≤ R.locals) {q : Int32 × St_} : ∀ n : Nat, ∀ (σ : St_) (v0 : Nat) (v1 : Int32), Ex_ σ0 σ → kd_ σ v0 = 9 → f_X9_term5_5 fu n σ v0 v1 = some q → ∀ (H : Heap) (locs : List Loc) (ls : Array Slot), Ht_ G cy (va_A (wl_ cy ad σ0) sz) s ad σ H locs → lv_has ls 2 [(0, .ref (ad v0)), (1, .int v1)] → W p l e R s m args below meth c H locs 0 0 (MQ below (Qi_ G cy ad σ0 q.2 sz q.1) args s 0 0 (va_A (wl_ cy ad σ0) sz)) (F0 m 5 ls []) := by
  intro n
  induction n with
  | zero =>
    intro σ v0 v1 hE hk_v0 hf H locs ls h hl
    cases hf
  | succ n ih =>
    intro σ v0 v1 hE hk_v0 hf H locs ls h hl
    have hf : (if (f_X9_isSign σ v0 (42 : Int32)) = 0 then some (v1, σ) else (f_X9_next fu σ v0).bind fun q4 => (f_X9_atom5 fu q4 v0).bind fun q5 => (f_X9_term5_5 fu n) q5.2 v0 (v1 * q5.1)) = some q := hf
    refine lv_aload_n C.1 C.2.1 dX9_term5_5 rfl (lv_at hl 0 rfl) ?_
    refine lv_bipush (v := (42 : Int32)) C.1 C.2.1 dX9_term5_6 (by decide) ?_
    refine x_az K h (x_V C K h [.int (42 : Int32)] (c_X9_isSign l κ G cy ad H.size σ v0 (42 : Int32) hk_v0 rfl) mi_X9_isSign rfl im_yX9_isSign se_yX9_isSign ml_RX9_215 cl_9 hk_v0 ⟨rfl, rfl, Nat.le_trans (Nat.le_of_ble_eq_true rfl) hR.1, Nat.le_trans (Nat.le_of_ble_eq_true rfl) hR.2⟩ hl (Nat.le_of_ble_eq_true rfl) dX9_term5_8 ⟨Nat.zero_le _, Nat.zero_le _⟩ rfl) (fun H locs h hX hz2 => ?_)
    refine lv_if_eq (tgt := 28) C.1 C.2.1 dX9_term5_11 (by decide) (fun c3 => ?_) (fun c3 => ?_)
    · have hf := if_t hf c3
      refine lv_iload_n C.1 C.2.1 dX9_term5_28 rfl (lv_at hl 1 rfl) ?_
      exact x_ri C hr hlk h hE (pf_1 (Option.some.inj hf)) (pf_2 (Option.some.inj hf)) dX9_term5_29
    · have hf := if_f hf c3
      refine lv_aload_n C.1 C.2.1 dX9_term5_14 rfl (lv_at hl 0 rfl) ?_
      obtain ⟨q4, hq_q4, hf⟩ := ob_ hf
      refine x_av K h (x_V C K h [] (c_X9_next fu l κ G cy ad H.size σ v0 hk_v0 hq_q4) mi_X9_next rfl im_yX9_next se_yX9_next ml_RX9_190 cl_9 hk_v0 ⟨rfl, rfl, Nat.le_trans (Nat.le_of_ble_eq_true rfl) hR.1, Nat.le_trans (Nat.le_of_ble_eq_true rfl) hR.2⟩ hl (Nat.le_of_ble_eq_true rfl) dX9_term5_15 ⟨Nat.zero_le _, Nat.zero_le _⟩ rfl) (fun H locs h hX => ?_)
      have hE := hE.trans hX
      have hk_v0 := hX.k hk_v0 (by decide)
      refine lv_iload_n C.1 C.2.1 dX9_term5_18 rfl (lv_at hl 1 rfl) ?_
      refine lv_aload_n C.1 C.2.1 dX9_term5_19 rfl (lv_at hl 0 rfl) ?_
      obtain ⟨q5, hq_q5, hf⟩ := ob_ hf
      refine x_ai K h (x_V C K h [] (c_X9_atom5 fu l κ G cy ad H.size q4 v0 hk_v0 hq_q5) mi_X9_atom5 rfl im_yX9_atom5 se_yX9_atom5 ml_RX9_226 cl_9 hk_v0 ⟨rfl, rfl, Nat.le_trans (Nat.le_of_ble_eq_true rfl) hR.1, Nat.le_trans (Nat.le_of_ble_eq_true rfl) hR.2⟩ hl (Nat.le_of_ble_eq_true rfl) dX9_term5_20 ⟨Nat.zero_le _, Nat.zero_le _⟩ rfl) (fun H locs h hX => ?_)
      have hE := hE.trans hX
      have hk_v0 := hX.k hk_v0 (by decide)
      refine lv_imul C.1 C.2.1 dX9_term5_23 ?_
      refine lv_istore_n (i := 1) (lv' := [(1, .int (v1 * q5.1)), (0, .ref (ad v0))]) C.1 C.2.1 dX9_term5_24 rfl hl (by decide) rfl (fun ls hl => ?_)
      refine lv_goto (tgt := 5) C.1 C.2.1 dX9_term5_25 (by decide) ?_
      exact ih q5.2 v0 (v1 * q5.1) hE hk_v0 hf _ _ _ h (lv_sub hl [1, 0] rfl)
def f_X9_term5 (fu : Nat) (σ : St_) (a0 : Nat) : Option (Int32 × St_) := (f_X9_atom5 fu σ a0).bind fun q1 => f_X9_term5_5 fu fu q1.2 a0 q1.1
set_option maxHeartbeats 4000000 in
set_option maxRecDepth 100000 in
theorem w_X9_term5 {p : Program} {l : Launch} {e : Env} {R : Room} {s : State} {m : MethodId} {args : Array Value} {below : List Frame} {meth : Method} {c : Code} {κ : Ka_} {G : va_G} {cy : Nat → ClassId} {ad : Nat → Nat} {sz : Nat} {σ0 : St_} (fu : Nat) (C : CallFix p m c cX9_term5 2 s args wU_ RX9) (K : Kx_ κ G cy (va_A (wl_ cy ad σ0) sz) s) (hr : meth.sig.returnType = some .int) (hlk : meth.locks = false) (hR : 5 ≤ R.frames ∧ 112 ≤ R.locals) {q : Int32 × St_} : ∀ (σ : St_) (a0 : Nat), Ex_ σ0 σ → kd_ σ a0 = 9 → f_X9_term5 fu σ a0 = some q → ∀ (H : Heap) (locs : List Loc) (ls : Array Slot), Ht_ G cy (va_A (wl_ cy ad σ0) sz) s ad σ H locs → lv_has ls 2 [(0, .ref (ad a0))] → W p l e R s m args below meth c H locs 0 0 (MQ below (Qi_ G cy ad σ0 q.2 sz q.1) args s 0 0 (va_A (wl_ cy ad σ0) sz)) (F0 m 0 ls []) := by
  intro σ a0 hE hk_a0 hf H locs ls h hl
  have hf : ((f_X9_atom5 fu σ a0).bind fun q1 => f_X9_term5_5 fu fu q1.2 a0 q1.1) = some q := hf
  refine lv_aload_n C.1 C.2.1 dX9_term5_0 rfl (lv_at hl 0 rfl) ?_
  obtain ⟨q1, hq_q1, hf⟩ := ob_ hf
  refine x_ai K h (x_V C K h [] (c_X9_atom5 fu l κ G cy ad H.size σ a0 hk_a0 hq_q1) mi_X9_atom5 rfl im_yX9_atom5 se_yX9_atom5 ml_RX9_226 cl_9 hk_a0 ⟨rfl, rfl, Nat.le_trans (Nat.le_of_ble_eq_true rfl) hR.1, Nat.le_trans (Nat.le_of_ble_eq_true rfl) hR.2⟩ hl (Nat.le_of_ble_eq_true rfl) dX9_term5_1 ⟨Nat.zero_le _, Nat.zero_le _⟩ rfl) (fun H locs h hX => ?_)
  have hE := hE.trans hX
  have hk_a0 := hX.k hk_a0 (by decide)
  refine lv_istore_n (i := 1) (lv' := [(1, .int q1.1), (0, .ref (ad a0))]) C.1 C.2.1 dX9_term5_4 rfl hl (by decide) rfl (fun ls hl => ?_)
  exact w_X9_term5_5 fu C K hr hlk hR fu q1.2 a0 q1.1 hE hk_a0 hf _ _ _ h (lv_sub hl [1, 0] rfl)
theorem c_X9_term5 (fu : Nat) (l : Launch) (κ : Ka_) (G : va_G) (cy : Nat → ClassId) (ad : Nat → Nat) (sz : Nat) (σ : St_) (a0 : Nat) (hk_a0 : kd_ σ a0 = 9) {q : Int32 × St_} (hf : f_X9_term5 fu σ a0 = some q) : Met l yX9_term5 (Cond.code yX9_term5 cX9_term5 2 (some .int) :: wU_) { frames := 5, cells := 0, slots := 0, locals := 112 } (va_Pc [.ref (ad a0)] (Pr_ κ G cy ad σ sz)) (Qi_ G cy ad σ q.2 sz q.1) 0 0 (va_A (wl_ cy ad σ) sz) :=
  x_met (by decide) (fun p e R s m below meth c ls hR C hr hlk hin _ K h hl => w_X9_term5 fu C K hr hlk ⟨hR.1, hR.2.1⟩ σ a0 Ex_.rf hk_a0 hf s.heap [] ls h hl) (Nat.le_of_ble_eq_true rfl)
-- X9_added5
theorem mi_X9_added5 : Mi_ yX9_added5 cX9_added5 4 (some .int) 0 := ⟨co_yX9_added5, in_RX9, by decide, by decide, by decide +kernel⟩
def f_X9_added5_39 (fu : Nat) (k5 : St_ → Nat → Int32 → Option (Int32 × St_)) (σ : St_) (v0 : Nat) (v1 : Int32) (s0 : Int32) : Option (Int32 × St_) := (f_X9_next fu σ v0).bind fun q1 => (f_X9_term5 fu q1 v0).bind fun q2 => if s0 = 0 then k5 q2.2 v0 (v1 - q2.1) else k5 q2.2 v0 (v1 + q2.1)
set_option maxHeartbeats 4000000 in
set_option maxRecDepth 100000 in
theorem w_X9_added5_39 {p : Program} {l : Launch} {e : Env} {R : Room} {s : State} {m : MethodId} {args : Array Value} {below : List Frame} {meth : Method} {c : Code} {κ : Ka_} {G : va_G} {cy : Nat → ClassId} {ad : Nat → Nat} {sz : Nat} {σ0 : St_} (fu : Nat) (C : CallFix p m c cX9_added5 4 s args wU_ RX9) (K : Kx_ κ G cy (va_A (wl_ cy ad σ0) sz) s) (hr : meth.sig.returnType = some .int) (hlk : meth.locks = false) (hR : 6 ≤ R.frames ∧ 133 ≤ R.locals) {q : Int32 × St_} (k5 : St_ → Nat → Int32 → Option (Int32 × St_)) (hk5 : ∀ (σ : St_) (v0 : Nat) (v1 : Int32), Ex_ σ0 σ → kd_ σ v0 = 9 → k5 σ v0 v1 = some q → ∀ (H : Heap) (locs : List Loc) (ls : Array Slot), Ht_ G cy (va_A (wl_ cy ad σ0) sz) s ad σ H locs → lv_has ls 4 [(0, .ref (ad v0)), (1, .int v1)] → W p l e R s m args below meth c H locs 0 0 (MQ below (Qi_ G cy ad σ0 q.2 sz q.1) args s 0 0 (va_A (wl_ cy ad σ0) sz)) (F0 m 5 ls [])) : ∀ (σ : St_) (v0 : Nat) (v1 : Int32) (s0 : Int32), Ex_ σ0 σ → kd_ σ v0 = 9 → f_X9_added5_39 fu k5 σ v0 v1 s0 = some q → ∀ (H : Heap) (locs : List Loc) (ls : Array Slot), Ht_ G cy (va_A (wl_ cy ad σ0) sz) s ad σ H locs → lv_has ls 4 [(0, .ref (ad v0)), (1, .int v1)] → W p l e R s m args below meth c H locs 0 0 (MQ below (Qi_ G cy ad σ0 q.2 sz q.1) args s 0 0 (va_A (wl_ cy ad σ0) sz)) (F0 m 39 ls [.int s0]) := by
  intro σ v0 v1 s0 hE hk_v0 hf H locs ls h hl
  have hf : ((f_X9_next fu σ v0).bind fun q1 => (f_X9_term5 fu q1 v0).bind fun q2 => if s0 = 0 then k5 q2.2 v0 (v1 - q2.1) else k5 q2.2 v0 (v1 + q2.1)) = some q := hf
  refine lv_istore_n (i := 2) (lv' := [(2, .int s0), (0, .ref (ad v0)), (1, .int v1)]) C.1 C.2.1 dX9_added5_39 rfl hl (by decide) rfl (fun ls hl => ?_)
  refine lv_aload_n C.1 C.2.1 dX9_added5_40 rfl (lv_at hl 1 rfl) ?_
  obtain ⟨q1, hq_q1, hf⟩ := ob_ hf
  refine x_av K h (x_V C K h [] (c_X9_next fu l κ G cy ad H.size σ v0 hk_v0 hq_q1) mi_X9_next rfl im_yX9_next se_yX9_next ml_RX9_190 cl_9 hk_v0 ⟨rfl, rfl, Nat.le_trans (Nat.le_of_ble_eq_true rfl) hR.1, Nat.le_trans (Nat.le_of_ble_eq_true rfl) hR.2⟩ hl (Nat.le_of_ble_eq_true rfl) dX9_added5_41 ⟨Nat.zero_le _, Nat.zero_le _⟩ rfl) (fun H locs h hX => ?_)
  have hE := hE.trans hX
  have hk_v0 := hX.k hk_v0 (by decide)
  refine lv_aload_n C.1 C.2.1 dX9_added5_44 rfl (lv_at hl 1 rfl) ?_
  obtain ⟨q2, hq_q2, hf⟩ := ob_ hf
  refine x_ai K h (x_V C K h [] (c_X9_term5 fu l κ G cy ad H.size q1 v0 hk_v0 hq_q2) mi_X9_term5 rfl im_yX9_term5 se_yX9_term5 ml_RX9_229 cl_9 hk_v0 ⟨rfl, rfl, Nat.le_trans (Nat.le_of_ble_eq_true rfl) hR.1, Nat.le_trans (Nat.le_of_ble_eq_true rfl) hR.2⟩ hl (Nat.le_of_ble_eq_true rfl) dX9_added5_45 ⟨Nat.zero_le _, Nat.zero_le _⟩ rfl) (fun H locs h hX => ?_)
  have hE := hE.trans hX
  have hk_v0 := hX.k hk_v0 (by decide)
  refine lv_istore_n (i := 3) (lv' := [(3, .int q2.1), (2, .int s0), (0, .ref (ad v0)), (1, .int v1)]) C.1 C.2.1 dX9_added5_48 rfl hl (by decide) rfl (fun ls hl => ?_)
  refine lv_iload_n C.1 C.2.1 dX9_added5_49 rfl (lv_at hl 1 rfl) ?_
  refine lv_if_eq (tgt := 59) C.1 C.2.1 dX9_added5_50 (by decide) (fun c3 => ?_) (fun c3 => ?_)
  · have hf := if_t hf c3
    refine lv_iload_n C.1 C.2.1 dX9_added5_59 rfl (lv_at hl 3 rfl) ?_
    refine lv_iload_n C.1 C.2.1 dX9_added5_60 rfl (lv_at hl 0 rfl) ?_
    refine lv_isub C.1 C.2.1 dX9_added5_61 ?_
    refine lv_istore_n (i := 1) (lv' := [(1, .int (v1 - q2.1)), (3, .int q2.1), (2, .int s0), (0, .ref (ad v0))]) C.1 C.2.1 dX9_added5_62 rfl hl (by decide) rfl (fun ls hl => ?_)
    refine lv_goto (tgt := 5) C.1 C.2.1 dX9_added5_63 (by decide) ?_
    exact hk5 q2.2 v0 (v1 - q2.1) hE hk_v0 hf _ _ _ h (lv_sub hl [3, 0] rfl)
  · have hf := if_f hf c3
    refine lv_iload_n C.1 C.2.1 dX9_added5_53 rfl (lv_at hl 3 rfl) ?_
    refine lv_iload_n C.1 C.2.1 dX9_added5_54 rfl (lv_at hl 0 rfl) ?_
    refine lv_iadd C.1 C.2.1 dX9_added5_55 ?_
    refine lv_goto (tgt := 62) C.1 C.2.1 dX9_added5_56 (by decide) ?_
    refine lv_istore_n (i := 1) (lv' := [(1, .int (v1 + q2.1)), (3, .int q2.1), (2, .int s0), (0, .ref (ad v0))]) C.1 C.2.1 dX9_added5_62 rfl hl (by decide) rfl (fun ls hl => ?_)
    refine lv_goto (tgt := 5) C.1 C.2.1 dX9_added5_63 (by decide) ?_
    exact hk5 q2.2 v0 (v1 + q2.1) hE hk_v0 hf _ _ _ h (lv_sub hl [3, 0] rfl)
def f_X9_added5_5 (fu : Nat) : Nat → St_ → Nat → Int32 → Option (Int32 × St_)
  | 0 => fun _ _ _ => none
  | n + 1 => fun σ  v0  v1 => if (f_X9_isSign σ v0 (43 : Int32)) = 0 then if (f_X9_isSign σ v0 (45 : Int32)) = 0 then some (v1, σ) else if (lg_cmp (sl_ σ v0 23) (43 : Int64)) = 0 then f_X9_added5_39 fu (f_X9_added5_5 fu n) σ v0 v1 (1 : Int32) else f_X9_added5_39 fu (f_X9_added5_5 fu n) σ v0 v1 (0 : Int32) else if (lg_cmp (sl_ σ v0 23) (43 : Int64)) = 0 then f_X9_added5_39 fu (f_X9_added5_5 fu n) σ v0 v1 (1 : Int32) else f_X9_added5_39 fu (f_X9_added5_5 fu n) σ v0 v1 (0 : Int32)
set_option maxHeartbeats 4000000 in
set_option maxRecDepth 100000 in
theorem w_X9_added5_5 {p : Program} {l : Launch} {e : Env} {R : Room} {s : State} {m : MethodId} {args : Array Value} {below : List Frame} {meth : Method} {c : Code} {κ : Ka_} {G : va_G} {cy : Nat → ClassId} {ad : Nat → Nat} {sz : Nat} {σ0 : St_} (fu : Nat) (C : CallFix p m c cX9_added5 4 s args wU_ RX9) (K : Kx_ κ G cy (va_A (wl_ cy ad σ0) sz) s) (hr : meth.sig.returnType = some .int) (hlk : meth.locks = false) (hR : 6 ≤ R.frames ∧ 133 ≤ R.locals) {q : Int32 × St_} : ∀ n : Nat, ∀ (σ : St_) (v0 : Nat) (v1 : Int32), Ex_ σ0 σ → kd_ σ v0 = 9 → f_X9_added5_5 fu n σ v0 v1 = some q → ∀ (H : Heap) (locs : List Loc) (ls : Array Slot), Ht_ G cy (va_A (wl_ cy ad σ0) sz) s ad σ H locs → lv_has ls 4 [(0, .ref (ad v0)), (1, .int v1)] → W p l e R s m args below meth c H locs 0 0 (MQ below (Qi_ G cy ad σ0 q.2 sz q.1) args s 0 0 (va_A (wl_ cy ad σ0) sz)) (F0 m 5 ls []) := by
  intro n
  induction n with
  | zero =>
    intro σ v0 v1 hE hk_v0 hf H locs ls h hl
    cases hf
  | succ n ih =>
    intro σ v0 v1 hE hk_v0 hf H locs ls h hl
    have hf : (if (f_X9_isSign σ v0 (43 : Int32)) = 0 then if (f_X9_isSign σ v0 (45 : Int32)) = 0 then some (v1, σ) else if (lg_cmp (sl_ σ v0 23) (43 : Int64)) = 0 then f_X9_added5_39 fu (f_X9_added5_5 fu n) σ v0 v1 (1 : Int32) else f_X9_added5_39 fu (f_X9_added5_5 fu n) σ v0 v1 (0 : Int32) else if (lg_cmp (sl_ σ v0 23) (43 : Int64)) = 0 then f_X9_added5_39 fu (f_X9_added5_5 fu n) σ v0 v1 (1 : Int32) else f_X9_added5_39 fu (f_X9_added5_5 fu n) σ v0 v1 (0 : Int32)) = some q := hf
    refine lv_aload_n C.1 C.2.1 dX9_added5_5 rfl (lv_at hl 0 rfl) ?_
    refine lv_bipush (v := (43 : Int32)) C.1 C.2.1 dX9_added5_6 (by decide) ?_
    refine x_az K h (x_V C K h [.int (43 : Int32)] (c_X9_isSign l κ G cy ad H.size σ v0 (43 : Int32) hk_v0 rfl) mi_X9_isSign rfl im_yX9_isSign se_yX9_isSign ml_RX9_215 cl_9 hk_v0 ⟨rfl, rfl, Nat.le_trans (Nat.le_of_ble_eq_true rfl) hR.1, Nat.le_trans (Nat.le_of_ble_eq_true rfl) hR.2⟩ hl (Nat.le_of_ble_eq_true rfl) dX9_added5_8 ⟨Nat.zero_le _, Nat.zero_le _⟩ rfl) (fun H locs h hX hz2 => ?_)
    refine lv_if_ne (tgt := 23) C.1 C.2.1 dX9_added5_11 (by decide) (fun c3 => ?_) (fun c3 => ?_)
    · have hf := if_f hf c3
      refine lv_aload_n C.1 C.2.1 dX9_added5_23 rfl (lv_at hl 0 rfl) ?_
      refine x_get (v := .long (sl_ σ v0 23)) C K h cl_9 hk_v0 23 (by decide) fl_RX9_170 rfl dX9_added5_24 ?_
      refine lv_ldc2 (v := (43 : Int64)) C.1 C.2.1 C.2.2.2.1 (C.2.2.2.2 _ cl_RX9_232) dX9_added5_27 ?_
      refine W.lcmp C.1 C.2.1 dX9_added5_30 ?_
      refine lv_if_ne (tgt := 38) C.1 C.2.1 dX9_added5_31 (by decide) (fun c4 => ?_) (fun c4 => ?_)
      · have hf := if_f hf c4
        refine lv_iconst (v := (0 : Int32)) C.1 C.2.1 dX9_added5_38 (by decide) ?_
        exact w_X9_added5_39 fu C K hr hlk hR (f_X9_added5_5 fu n) ih σ v0 v1 (0 : Int32) hE hk_v0 hf _ _ _ h (lv_sub hl [0, 1] rfl)
      · have hf := if_t hf c4
        refine lv_iconst (v := (1 : Int32)) C.1 C.2.1 dX9_added5_34 (by decide) ?_
        refine lv_goto (tgt := 39) C.1 C.2.1 dX9_added5_35 (by decide) ?_
        exact w_X9_added5_39 fu C K hr hlk hR (f_X9_added5_5 fu n) ih σ v0 v1 (1 : Int32) hE hk_v0 hf _ _ _ h (lv_sub hl [0, 1] rfl)
    · have hf := if_t hf c3
      refine lv_aload_n C.1 C.2.1 dX9_added5_14 rfl (lv_at hl 0 rfl) ?_
      refine lv_bipush (v := (45 : Int32)) C.1 C.2.1 dX9_added5_15 (by decide) ?_
      refine x_az K h (x_V C K h [.int (45 : Int32)] (c_X9_isSign l κ G cy ad H.size σ v0 (45 : Int32) hk_v0 rfl) mi_X9_isSign rfl im_yX9_isSign se_yX9_isSign ml_RX9_215 cl_9 hk_v0 ⟨rfl, rfl, Nat.le_trans (Nat.le_of_ble_eq_true rfl) hR.1, Nat.le_trans (Nat.le_of_ble_eq_true rfl) hR.2⟩ hl (Nat.le_of_ble_eq_true rfl) dX9_added5_17 ⟨Nat.zero_le _, Nat.zero_le _⟩ rfl) (fun H locs h hX hz6 => ?_)
      refine lv_if_eq (tgt := 66) C.1 C.2.1 dX9_added5_20 (by decide) (fun c7 => ?_) (fun c7 => ?_)
      · have hf := if_t hf c7
        refine lv_iload_n C.1 C.2.1 dX9_added5_66 rfl (lv_at hl 1 rfl) ?_
        exact x_ri C hr hlk h hE (pf_1 (Option.some.inj hf)) (pf_2 (Option.some.inj hf)) dX9_added5_67
      · have hf := if_f hf c7
        refine lv_aload_n C.1 C.2.1 dX9_added5_23 rfl (lv_at hl 0 rfl) ?_
        refine x_get (v := .long (sl_ σ v0 23)) C K h cl_9 hk_v0 23 (by decide) fl_RX9_170 rfl dX9_added5_24 ?_
        refine lv_ldc2 (v := (43 : Int64)) C.1 C.2.1 C.2.2.2.1 (C.2.2.2.2 _ cl_RX9_232) dX9_added5_27 ?_
        refine W.lcmp C.1 C.2.1 dX9_added5_30 ?_
        refine lv_if_ne (tgt := 38) C.1 C.2.1 dX9_added5_31 (by decide) (fun c8 => ?_) (fun c8 => ?_)
        · have hf := if_f hf c8
          refine lv_iconst (v := (0 : Int32)) C.1 C.2.1 dX9_added5_38 (by decide) ?_
          exact w_X9_added5_39 fu C K hr hlk hR (f_X9_added5_5 fu n) ih σ v0 v1 (0 : Int32) hE hk_v0 hf _ _ _ h (lv_sub hl [0, 1] rfl)
        · have hf := if_t hf c8
          refine lv_iconst (v := (1 : Int32)) C.1 C.2.1 dX9_added5_34 (by decide) ?_
          refine lv_goto (tgt := 39) C.1 C.2.1 dX9_added5_35 (by decide) ?_
          exact w_X9_added5_39 fu C K hr hlk hR (f_X9_added5_5 fu n) ih σ v0 v1 (1 : Int32) hE hk_v0 hf _ _ _ h (lv_sub hl [0, 1] rfl)
def f_X9_added5 (fu : Nat) (σ : St_) (a0 : Nat) : Option (Int32 × St_) := (f_X9_term5 fu σ a0).bind fun q1 => f_X9_added5_5 fu fu q1.2 a0 q1.1
set_option maxHeartbeats 4000000 in
set_option maxRecDepth 100000 in
theorem w_X9_added5 {p : Program} {l : Launch} {e : Env} {R : Room} {s : State} {m : MethodId} {args : Array Value} {below : List Frame} {meth : Method} {c : Code} {κ : Ka_} {G : va_G} {cy : Nat → ClassId} {ad : Nat → Nat} {sz : Nat} {σ0 : St_} (fu : Nat) (C : CallFix p m c cX9_added5 4 s args wU_ RX9) (K : Kx_ κ G cy (va_A (wl_ cy ad σ0) sz) s) (hr : meth.sig.returnType = some .int) (hlk : meth.locks = false) (hR : 6 ≤ R.frames ∧ 133 ≤ R.locals) {q : Int32 × St_} : ∀ (σ : St_) (a0 : Nat), Ex_ σ0 σ → kd_ σ a0 = 9 → f_X9_added5 fu σ a0 = some q → ∀ (H : Heap) (locs : List Loc) (ls : Array Slot), Ht_ G cy (va_A (wl_ cy ad σ0) sz) s ad σ H locs → lv_has ls 4 [(0, .ref (ad a0))] → W p l e R s m args below meth c H locs 0 0 (MQ below (Qi_ G cy ad σ0 q.2 sz q.1) args s 0 0 (va_A (wl_ cy ad σ0) sz)) (F0 m 0 ls []) := by
  intro σ a0 hE hk_a0 hf H locs ls h hl
  have hf : ((f_X9_term5 fu σ a0).bind fun q1 => f_X9_added5_5 fu fu q1.2 a0 q1.1) = some q := hf
  refine lv_aload_n C.1 C.2.1 dX9_added5_0 rfl (lv_at hl 0 rfl) ?_
  obtain ⟨q1, hq_q1, hf⟩ := ob_ hf
  refine x_ai K h (x_V C K h [] (c_X9_term5 fu l κ G cy ad H.size σ a0 hk_a0 hq_q1) mi_X9_term5 rfl im_yX9_term5 se_yX9_term5 ml_RX9_229 cl_9 hk_a0 ⟨rfl, rfl, Nat.le_trans (Nat.le_of_ble_eq_true rfl) hR.1, Nat.le_trans (Nat.le_of_ble_eq_true rfl) hR.2⟩ hl (Nat.le_of_ble_eq_true rfl) dX9_added5_1 ⟨Nat.zero_le _, Nat.zero_le _⟩ rfl) (fun H locs h hX => ?_)
  have hE := hE.trans hX
  have hk_a0 := hX.k hk_a0 (by decide)
  refine lv_istore_n (i := 1) (lv' := [(1, .int q1.1), (0, .ref (ad a0))]) C.1 C.2.1 dX9_added5_4 rfl hl (by decide) rfl (fun ls hl => ?_)
  exact w_X9_added5_5 fu C K hr hlk hR fu q1.2 a0 q1.1 hE hk_a0 hf _ _ _ h (lv_sub hl [1, 0] rfl)
theorem c_X9_added5 (fu : Nat) (l : Launch) (κ : Ka_) (G : va_G) (cy : Nat → ClassId) (ad : Nat → Nat) (sz : Nat) (σ : St_) (a0 : Nat) (hk_a0 : kd_ σ a0 = 9) {q : Int32 × St_} (hf : f_X9_added5 fu σ a0 = some q) : Met l yX9_added5 (Cond.code yX9_added5 cX9_added5 4 (some .int) :: wU_) { frames := 6, cells := 0, slots := 0, locals := 133 } (va_Pc [.ref (ad a0)] (Pr_ κ G cy ad σ sz)) (Qi_ G cy ad σ q.2 sz q.1) 0 0 (va_A (wl_ cy ad σ) sz) :=
  x_met (by decide) (fun p e R s m below meth c ls hR C hr hlk hin _ K h hl => w_X9_added5 fu C K hr hlk ⟨hR.1, hR.2.1⟩ σ a0 Ex_.rf hk_a0 hf s.heap [] ls h hl) (Nat.le_of_ble_eq_true rfl)
-- X9_not5
theorem mi_X9_not5 : Mi_ yX9_not5 cX9_not5 4 (some .int) 0 := ⟨co_yX9_not5, in_RX9, by decide, by decide, by decide +kernel⟩
def f_X9_not5_66 (fu : Nat) (σ : St_) (v0 : Nat) (v1 : Int32) (s0 : Int32) : Option (Int32 × St_) := (f_X9_next fu σ v0).bind fun q1 => (f_X9_added5 fu q1 v0).bind fun q2 => if s0 = 0 then if v1 = q2.1 then some ((1 : Int32), q2.2) else some ((0 : Int32), q2.2) else if q2.1 ≤ v1 then some ((0 : Int32), q2.2) else some ((1 : Int32), q2.2)
set_option maxHeartbeats 4000000 in
set_option maxRecDepth 100000 in
theorem w_X9_not5_66 {p : Program} {l : Launch} {e : Env} {R : Room} {s : State} {m : MethodId} {args : Array Value} {below : List Frame} {meth : Method} {c : Code} {κ : Ka_} {G : va_G} {cy : Nat → ClassId} {ad : Nat → Nat} {sz : Nat} {σ0 : St_} (fu : Nat) (C : CallFix p m c cX9_not5 4 s args wU_ RX9) (K : Kx_ κ G cy (va_A (wl_ cy ad σ0) sz) s) (hr : meth.sig.returnType = some .int) (hlk : meth.locks = false) (hR : 7 ≤ R.frames ∧ 156 ≤ R.locals) {q : Int32 × St_} : ∀ (σ : St_) (v0 : Nat) (v1 : Int32) (s0 : Int32), Ex_ σ0 σ → kd_ σ v0 = 9 → f_X9_not5_66 fu σ v0 v1 s0 = some q → ∀ (H : Heap) (locs : List Loc) (ls : Array Slot), Ht_ G cy (va_A (wl_ cy ad σ0) sz) s ad σ H locs → lv_has ls 4 [(0, .ref (ad v0)), (1, .int v1)] → W p l e R s m args below meth c H locs 0 0 (MQ below (Qi_ G cy ad σ0 q.2 sz q.1) args s 0 0 (va_A (wl_ cy ad σ0) sz)) (F0 m 66 ls [.int s0]) := by
  intro σ v0 v1 s0 hE hk_v0 hf H locs ls h hl
  have hf : ((f_X9_next fu σ v0).bind fun q1 => (f_X9_added5 fu q1 v0).bind fun q2 => if s0 = 0 then if v1 = q2.1 then some ((1 : Int32), q2.2) else some ((0 : Int32), q2.2) else if q2.1 ≤ v1 then some ((0 : Int32), q2.2) else some ((1 : Int32), q2.2)) = some q := hf
  refine lv_istore_n (i := 2) (lv' := [(2, .int s0), (0, .ref (ad v0)), (1, .int v1)]) C.1 C.2.1 dX9_not5_66 rfl hl (by decide) rfl (fun ls hl => ?_)
  refine lv_aload_n C.1 C.2.1 dX9_not5_67 rfl (lv_at hl 1 rfl) ?_
  obtain ⟨q1, hq_q1, hf⟩ := ob_ hf
  refine x_av K h (x_V C K h [] (c_X9_next fu l κ G cy ad H.size σ v0 hk_v0 hq_q1) mi_X9_next rfl im_yX9_next se_yX9_next ml_RX9_190 cl_9 hk_v0 ⟨rfl, rfl, Nat.le_trans (Nat.le_of_ble_eq_true rfl) hR.1, Nat.le_trans (Nat.le_of_ble_eq_true rfl) hR.2⟩ hl (Nat.le_of_ble_eq_true rfl) dX9_not5_68 ⟨Nat.zero_le _, Nat.zero_le _⟩ rfl) (fun H locs h hX => ?_)
  have hE := hE.trans hX
  have hk_v0 := hX.k hk_v0 (by decide)
  refine lv_aload_n C.1 C.2.1 dX9_not5_71 rfl (lv_at hl 1 rfl) ?_
  obtain ⟨q2, hq_q2, hf⟩ := ob_ hf
  refine x_ai K h (x_V C K h [] (c_X9_added5 fu l κ G cy ad H.size q1 v0 hk_v0 hq_q2) mi_X9_added5 rfl im_yX9_added5 se_yX9_added5 ml_RX9_234 cl_9 hk_v0 ⟨rfl, rfl, Nat.le_trans (Nat.le_of_ble_eq_true rfl) hR.1, Nat.le_trans (Nat.le_of_ble_eq_true rfl) hR.2⟩ hl (Nat.le_of_ble_eq_true rfl) dX9_not5_72 ⟨Nat.zero_le _, Nat.zero_le _⟩ rfl) (fun H locs h hX => ?_)
  have hE := hE.trans hX
  have hk_v0 := hX.k hk_v0 (by decide)
  refine lv_istore_n (i := 3) (lv' := [(3, .int q2.1), (2, .int s0), (0, .ref (ad v0)), (1, .int v1)]) C.1 C.2.1 dX9_not5_75 rfl hl (by decide) rfl (fun ls hl => ?_)
  refine lv_iload_n C.1 C.2.1 dX9_not5_76 rfl (lv_at hl 1 rfl) ?_
  refine lv_if_eq (tgt := 88) C.1 C.2.1 dX9_not5_77 (by decide) (fun c3 => ?_) (fun c3 => ?_)
  · have hf := if_t hf c3
    refine lv_iload_n C.1 C.2.1 dX9_not5_88 rfl (lv_at hl 3 rfl) ?_
    refine lv_iload_n C.1 C.2.1 dX9_not5_89 rfl (lv_at hl 0 rfl) ?_
    refine lv_icmp_ne (tgt := 97) C.1 C.2.1 dX9_not5_90 (by decide) (fun c4 => ?_) (fun c4 => ?_)
    · have hf := if_f hf c4
      refine lv_iconst (v := (0 : Int32)) C.1 C.2.1 dX9_not5_97 (by decide) ?_
      exact x_ri C hr hlk h hE (pf_1 (Option.some.inj hf)) (pf_2 (Option.some.inj hf)) dX9_not5_98
    · have hf := if_t hf c4
      refine lv_iconst (v := (1 : Int32)) C.1 C.2.1 dX9_not5_93 (by decide) ?_
      refine lv_goto (tgt := 98) C.1 C.2.1 dX9_not5_94 (by decide) ?_
      exact x_ri C hr hlk h hE (pf_1 (Option.some.inj hf)) (pf_2 (Option.some.inj hf)) dX9_not5_98
  · have hf := if_f hf c3
    refine lv_iload_n C.1 C.2.1 dX9_not5_80 rfl (lv_at hl 3 rfl) ?_
    refine lv_iload_n C.1 C.2.1 dX9_not5_81 rfl (lv_at hl 0 rfl) ?_
    refine lv_icmp_ge (tgt := 97) C.1 C.2.1 dX9_not5_82 (by decide) (fun c5 => ?_) (fun c5 => ?_)
    · have hf := if_t hf c5
      refine lv_iconst (v := (0 : Int32)) C.1 C.2.1 dX9_not5_97 (by decide) ?_
      exact x_ri C hr hlk h hE (pf_1 (Option.some.inj hf)) (pf_2 (Option.some.inj hf)) dX9_not5_98
    · have hf := if_f hf c5
      refine lv_goto (tgt := 93) C.1 C.2.1 dX9_not5_85 (by decide) ?_
      refine lv_iconst (v := (1 : Int32)) C.1 C.2.1 dX9_not5_93 (by decide) ?_
      refine lv_goto (tgt := 98) C.1 C.2.1 dX9_not5_94 (by decide) ?_
      exact x_ri C hr hlk h hE (pf_1 (Option.some.inj hf)) (pf_2 (Option.some.inj hf)) dX9_not5_98
def f_X9_not5 (fu : Nat) (σ : St_) (a0 : Nat) : Option (Int32 × St_) := (f_X9_isWord_ σ a0 (110 : Int32) (111 : Int32) (116 : Int32) (0 : Int32) (0 : Int32) (0 : Int32) (0 : Int32) (0 : Int32)).bind fun q1 => if q1 = 0 then (f_X9_added5 fu σ a0).bind fun q4 => if (f_X9_isSign q4.2 a0 (60 : Int32)) = 0 then if (f_X9_isSign q4.2 a0 (61 : Int32)) = 0 then some (q4.1, q4.2) else if (lg_cmp (sl_ q4.2 a0 23) (60 : Int64)) = 0 then f_X9_not5_66 fu q4.2 a0 q4.1 (1 : Int32) else f_X9_not5_66 fu q4.2 a0 q4.1 (0 : Int32) else if (lg_cmp (sl_ q4.2 a0 23) (60 : Int64)) = 0 then f_X9_not5_66 fu q4.2 a0 q4.1 (1 : Int32) else f_X9_not5_66 fu q4.2 a0 q4.1 (0 : Int32) else (f_X9_opens fu σ a0).bind fun q13 => some ((0 : Int32), q13.2)
set_option maxHeartbeats 4000000 in
set_option maxRecDepth 100000 in
theorem w_X9_not5 {p : Program} {l : Launch} {e : Env} {R : Room} {s : State} {m : MethodId} {args : Array Value} {below : List Frame} {meth : Method} {c : Code} {κ : Ka_} {G : va_G} {cy : Nat → ClassId} {ad : Nat → Nat} {sz : Nat} {σ0 : St_} (fu : Nat) (C : CallFix p m c cX9_not5 4 s args wU_ RX9) (K : Kx_ κ G cy (va_A (wl_ cy ad σ0) sz) s) (hr : meth.sig.returnType = some .int) (hlk : meth.locks = false) (hR : 7 ≤ R.frames ∧ 156 ≤ R.locals) {q : Int32 × St_} : ∀ (σ : St_) (a0 : Nat), Ex_ σ0 σ → kd_ σ a0 = 9 → f_X9_not5 fu σ a0 = some q → ∀ (H : Heap) (locs : List Loc) (ls : Array Slot), Ht_ G cy (va_A (wl_ cy ad σ0) sz) s ad σ H locs → lv_has ls 4 [(0, .ref (ad a0))] → W p l e R s m args below meth c H locs 0 0 (MQ below (Qi_ G cy ad σ0 q.2 sz q.1) args s 0 0 (va_A (wl_ cy ad σ0) sz)) (F0 m 0 ls []) := by
  intro σ a0 hE hk_a0 hf H locs ls h hl
  have hf : ((f_X9_isWord_ σ a0 (110 : Int32) (111 : Int32) (116 : Int32) (0 : Int32) (0 : Int32) (0 : Int32) (0 : Int32) (0 : Int32)).bind fun q1 => if q1 = 0 then (f_X9_added5 fu σ a0).bind fun q4 => if (f_X9_isSign q4.2 a0 (60 : Int32)) = 0 then if (f_X9_isSign q4.2 a0 (61 : Int32)) = 0 then some (q4.1, q4.2) else if (lg_cmp (sl_ q4.2 a0 23) (60 : Int64)) = 0 then f_X9_not5_66 fu q4.2 a0 q4.1 (1 : Int32) else f_X9_not5_66 fu q4.2 a0 q4.1 (0 : Int32) else if (lg_cmp (sl_ q4.2 a0 23) (60 : Int64)) = 0 then f_X9_not5_66 fu q4.2 a0 q4.1 (1 : Int32) else f_X9_not5_66 fu q4.2 a0 q4.1 (0 : Int32) else (f_X9_opens fu σ a0).bind fun q13 => some ((0 : Int32), q13.2)) = some q := hf
  refine lv_aload_n C.1 C.2.1 dX9_not5_0 rfl (lv_at hl 0 rfl) ?_
  refine lv_bipush (v := (110 : Int32)) C.1 C.2.1 dX9_not5_1 (by decide) ?_
  refine lv_bipush (v := (111 : Int32)) C.1 C.2.1 dX9_not5_3 (by decide) ?_
  refine lv_bipush (v := (116 : Int32)) C.1 C.2.1 dX9_not5_5 (by decide) ?_
  refine lv_iconst (v := (0 : Int32)) C.1 C.2.1 dX9_not5_7 (by decide) ?_
  refine lv_iconst (v := (0 : Int32)) C.1 C.2.1 dX9_not5_8 (by decide) ?_
  refine lv_iconst (v := (0 : Int32)) C.1 C.2.1 dX9_not5_9 (by decide) ?_
  refine lv_iconst (v := (0 : Int32)) C.1 C.2.1 dX9_not5_10 (by decide) ?_
  refine lv_iconst (v := (0 : Int32)) C.1 C.2.1 dX9_not5_11 (by decide) ?_
  obtain ⟨q1, hq_q1, hf⟩ := ob_ hf
  refine x_az K h (x_V C K h [.int (110 : Int32), .int (111 : Int32), .int (116 : Int32), .int (0 : Int32), .int (0 : Int32), .int (0 : Int32), .int (0 : Int32), .int (0 : Int32)] (c_X9_isWord_ l κ G cy ad H.size σ a0 (110 : Int32) (111 : Int32) (116 : Int32) (0 : Int32) (0 : Int32) (0 : Int32) (0 : Int32) (0 : Int32) hk_a0 hq_q1) mi_X9_isWord_ rfl im_yX9_isWord_ se_yX9_isWord_ ml_RX9_193 cl_9 hk_a0 ⟨rfl, rfl, Nat.le_trans (Nat.le_of_ble_eq_true rfl) hR.1, Nat.le_trans (Nat.le_of_ble_eq_true rfl) hR.2⟩ hl (Nat.le_of_ble_eq_true rfl) dX9_not5_12 ⟨Nat.zero_le _, Nat.zero_le _⟩ rfl) (fun H locs h hX hz2 => ?_)
  refine lv_if_eq (tgt := 25) C.1 C.2.1 dX9_not5_15 (by decide) (fun c3 => ?_) (fun c3 => ?_)
  · have hf := if_t hf c3
    refine lv_aload_n C.1 C.2.1 dX9_not5_25 rfl (lv_at hl 0 rfl) ?_
    obtain ⟨q4, hq_q4, hf⟩ := ob_ hf
    refine x_ai K h (x_V C K h [] (c_X9_added5 fu l κ G cy ad H.size σ a0 hk_a0 hq_q4) mi_X9_added5 rfl im_yX9_added5 se_yX9_added5 ml_RX9_234 cl_9 hk_a0 ⟨rfl, rfl, Nat.le_trans (Nat.le_of_ble_eq_true rfl) hR.1, Nat.le_trans (Nat.le_of_ble_eq_true rfl) hR.2⟩ hl (Nat.le_of_ble_eq_true rfl) dX9_not5_26 ⟨Nat.zero_le _, Nat.zero_le _⟩ rfl) (fun H locs h hX => ?_)
    have hE := hE.trans hX
    have hk_a0 := hX.k hk_a0 (by decide)
    refine lv_istore_n (i := 1) (lv' := [(1, .int q4.1), (0, .ref (ad a0))]) C.1 C.2.1 dX9_not5_29 rfl hl (by decide) rfl (fun ls hl => ?_)
    refine lv_aload_n C.1 C.2.1 dX9_not5_30 rfl (lv_at hl 1 rfl) ?_
    refine lv_bipush (v := (60 : Int32)) C.1 C.2.1 dX9_not5_31 (by decide) ?_
    refine x_az K h (x_V C K h [.int (60 : Int32)] (c_X9_isSign l κ G cy ad H.size q4.2 a0 (60 : Int32) hk_a0 rfl) mi_X9_isSign rfl im_yX9_isSign se_yX9_isSign ml_RX9_215 cl_9 hk_a0 ⟨rfl, rfl, Nat.le_trans (Nat.le_of_ble_eq_true rfl) hR.1, Nat.le_trans (Nat.le_of_ble_eq_true rfl) hR.2⟩ hl (Nat.le_of_ble_eq_true rfl) dX9_not5_33 ⟨Nat.zero_le _, Nat.zero_le _⟩ rfl) (fun H locs h hX hz6 => ?_)
    refine lv_if_ne (tgt := 50) C.1 C.2.1 dX9_not5_36 (by decide) (fun c7 => ?_) (fun c7 => ?_)
    · have hf := if_f hf c7
      refine lv_aload_n C.1 C.2.1 dX9_not5_50 rfl (lv_at hl 1 rfl) ?_
      refine x_get (v := .long (sl_ q4.2 a0 23)) C K h cl_9 hk_a0 23 (by decide) fl_RX9_170 rfl dX9_not5_51 ?_
      refine lv_ldc2 (v := (60 : Int64)) C.1 C.2.1 C.2.2.2.1 (C.2.2.2.2 _ cl_RX9_237) dX9_not5_54 ?_
      refine W.lcmp C.1 C.2.1 dX9_not5_57 ?_
      refine lv_if_ne (tgt := 65) C.1 C.2.1 dX9_not5_58 (by decide) (fun c8 => ?_) (fun c8 => ?_)
      · have hf := if_f hf c8
        refine lv_iconst (v := (0 : Int32)) C.1 C.2.1 dX9_not5_65 (by decide) ?_
        exact w_X9_not5_66 fu C K hr hlk hR q4.2 a0 q4.1 (0 : Int32) hE hk_a0 hf _ _ _ h (lv_sub hl [1, 0] rfl)
      · have hf := if_t hf c8
        refine lv_iconst (v := (1 : Int32)) C.1 C.2.1 dX9_not5_61 (by decide) ?_
        refine lv_goto (tgt := 66) C.1 C.2.1 dX9_not5_62 (by decide) ?_
        exact w_X9_not5_66 fu C K hr hlk hR q4.2 a0 q4.1 (1 : Int32) hE hk_a0 hf _ _ _ h (lv_sub hl [1, 0] rfl)
    · have hf := if_t hf c7
      refine lv_aload_n C.1 C.2.1 dX9_not5_39 rfl (lv_at hl 1 rfl) ?_
      refine lv_bipush (v := (61 : Int32)) C.1 C.2.1 dX9_not5_40 (by decide) ?_
      refine x_az K h (x_V C K h [.int (61 : Int32)] (c_X9_isSign l κ G cy ad H.size q4.2 a0 (61 : Int32) hk_a0 rfl) mi_X9_isSign rfl im_yX9_isSign se_yX9_isSign ml_RX9_215 cl_9 hk_a0 ⟨rfl, rfl, Nat.le_trans (Nat.le_of_ble_eq_true rfl) hR.1, Nat.le_trans (Nat.le_of_ble_eq_true rfl) hR.2⟩ hl (Nat.le_of_ble_eq_true rfl) dX9_not5_42 ⟨Nat.zero_le _, Nat.zero_le _⟩ rfl) (fun H locs h hX hz10 => ?_)
      refine lv_if_ne (tgt := 50) C.1 C.2.1 dX9_not5_45 (by decide) (fun c11 => ?_) (fun c11 => ?_)
      · have hf := if_f hf c11
        refine lv_aload_n C.1 C.2.1 dX9_not5_50 rfl (lv_at hl 1 rfl) ?_
        refine x_get (v := .long (sl_ q4.2 a0 23)) C K h cl_9 hk_a0 23 (by decide) fl_RX9_170 rfl dX9_not5_51 ?_
        refine lv_ldc2 (v := (60 : Int64)) C.1 C.2.1 C.2.2.2.1 (C.2.2.2.2 _ cl_RX9_237) dX9_not5_54 ?_
        refine W.lcmp C.1 C.2.1 dX9_not5_57 ?_
        refine lv_if_ne (tgt := 65) C.1 C.2.1 dX9_not5_58 (by decide) (fun c12 => ?_) (fun c12 => ?_)
        · have hf := if_f hf c12
          refine lv_iconst (v := (0 : Int32)) C.1 C.2.1 dX9_not5_65 (by decide) ?_
          exact w_X9_not5_66 fu C K hr hlk hR q4.2 a0 q4.1 (0 : Int32) hE hk_a0 hf _ _ _ h (lv_sub hl [1, 0] rfl)
        · have hf := if_t hf c12
          refine lv_iconst (v := (1 : Int32)) C.1 C.2.1 dX9_not5_61 (by decide) ?_
          refine lv_goto (tgt := 66) C.1 C.2.1 dX9_not5_62 (by decide) ?_
          exact w_X9_not5_66 fu C K hr hlk hR q4.2 a0 q4.1 (1 : Int32) hE hk_a0 hf _ _ _ h (lv_sub hl [1, 0] rfl)
      · have hf := if_t hf c11
        refine lv_iload_n C.1 C.2.1 dX9_not5_48 rfl (lv_at hl 0 rfl) ?_
        exact x_ri C hr hlk h hE (pf_1 (Option.some.inj hf)) (pf_2 (Option.some.inj hf)) dX9_not5_49
  · have hf := if_f hf c3
    refine lv_aload_n C.1 C.2.1 dX9_not5_18 rfl (lv_at hl 0 rfl) ?_
    obtain ⟨q13, hq_q13, hf⟩ := ob_ hf
    refine x_az K h (x_V C K h [] (c_X9_opens fu l κ G cy ad H.size σ a0 hk_a0 hq_q13) mi_X9_opens rfl im_yX9_opens se_yX9_opens ml_RX9_218 cl_9 hk_a0 ⟨rfl, rfl, Nat.le_trans (Nat.le_of_ble_eq_true rfl) hR.1, Nat.le_trans (Nat.le_of_ble_eq_true rfl) hR.2⟩ hl (Nat.le_of_ble_eq_true rfl) dX9_not5_19 ⟨Nat.zero_le _, Nat.zero_le _⟩ rfl) (fun H locs h hX hz14 => ?_)
    have hE := hE.trans hX
    have hk_a0 := hX.k hk_a0 (by decide)
    refine lv_pop C.1 C.2.1 dX9_not5_22 rfl ?_
    refine lv_iconst (v := (0 : Int32)) C.1 C.2.1 dX9_not5_23 (by decide) ?_
    exact x_ri C hr hlk h hE (pf_1 (Option.some.inj hf)) (pf_2 (Option.some.inj hf)) dX9_not5_24
theorem c_X9_not5 (fu : Nat) (l : Launch) (κ : Ka_) (G : va_G) (cy : Nat → ClassId) (ad : Nat → Nat) (sz : Nat) (σ : St_) (a0 : Nat) (hk_a0 : kd_ σ a0 = 9) {q : Int32 × St_} (hf : f_X9_not5 fu σ a0 = some q) : Met l yX9_not5 (Cond.code yX9_not5 cX9_not5 4 (some .int) :: wU_) { frames := 7, cells := 0, slots := 0, locals := 156 } (va_Pc [.ref (ad a0)] (Pr_ κ G cy ad σ sz)) (Qi_ G cy ad σ q.2 sz q.1) 0 0 (va_A (wl_ cy ad σ) sz) :=
  x_met (by decide) (fun p e R s m below meth c ls hR C hr hlk hin _ K h hl => w_X9_not5 fu C K hr hlk ⟨hR.1, hR.2.1⟩ σ a0 Ex_.rf hk_a0 hf s.heap [] ls h hl) (Nat.le_of_ble_eq_true rfl)
-- X9_both5
theorem mi_X9_both5 : Mi_ yX9_both5 cX9_both5 3 (some .int) 0 := ⟨co_yX9_both5, in_RX9, by decide, by decide, by decide +kernel⟩
def f_X9_both5_5 (fu : Nat) : Nat → St_ → Nat → Int32 → Option (Int32 × St_)
  | 0 => fun _ _ _ => none
  | n + 1 => fun σ  v0  v1 => (f_X9_isWord_ σ v0 (97 : Int32) (110 : Int32) (100 : Int32) (0 : Int32) (0 : Int32) (0 : Int32) (0 : Int32) (0 : Int32)).bind fun q1 => if q1 = 0 then some (v1, σ) else (f_X9_next fu σ v0).bind fun q4 => (f_X9_not5 fu q4 v0).bind fun q5 => if v1 = 0 then (f_X9_both5_5 fu n) q5.2 v0 (0 : Int32) else if q5.1 = 0 then (f_X9_both5_5 fu n) q5.2 v0 (0 : Int32) else (f_X9_both5_5 fu n) q5.2 v0 (1 : Int32)
set_option maxHeartbeats 4000000 in
set_option maxRecDepth 100000 in
theorem w_X9_both5_5 {p : Program} {l : Launch} {e : Env} {R : Room} {s : State} {m : MethodId} {args : Array Value} {below : List Frame} {meth : Method} {c : Code} {κ : Ka_} {G : va_G} {cy : Nat → ClassId} {ad : Nat → Nat} {sz : Nat} {σ0 : St_} (fu : Nat) (C : CallFix p m c cX9_both5 3 s args wU_ RX9) (K : Kx_ κ G cy (va_A (wl_ cy ad σ0) sz) s) (hr : meth.sig.returnType = some .int) (hlk : meth.locks = false) (hR : 8 ≤ R.frames ∧ 179 ≤ R.locals) {q : Int32 × St_} : ∀ n : Nat, ∀ (σ : St_) (v0 : Nat) (v1 : Int32), Ex_ σ0 σ → kd_ σ v0 = 9 → f_X9_both5_5 fu n σ v0 v1 = some q → ∀ (H : Heap) (locs : List Loc) (ls : Array Slot), Ht_ G cy (va_A (wl_ cy ad σ0) sz) s ad σ H locs → lv_has ls 3 [(0, .ref (ad v0)), (1, .int v1)] → W p l e R s m args below meth c H locs 0 0 (MQ below (Qi_ G cy ad σ0 q.2 sz q.1) args s 0 0 (va_A (wl_ cy ad σ0) sz)) (F0 m 5 ls []) := by
  intro n
  induction n with
  | zero =>
    intro σ v0 v1 hE hk_v0 hf H locs ls h hl
    cases hf
  | succ n ih =>
    intro σ v0 v1 hE hk_v0 hf H locs ls h hl
    have hf : ((f_X9_isWord_ σ v0 (97 : Int32) (110 : Int32) (100 : Int32) (0 : Int32) (0 : Int32) (0 : Int32) (0 : Int32) (0 : Int32)).bind fun q1 => if q1 = 0 then some (v1, σ) else (f_X9_next fu σ v0).bind fun q4 => (f_X9_not5 fu q4 v0).bind fun q5 => if v1 = 0 then (f_X9_both5_5 fu n) q5.2 v0 (0 : Int32) else if q5.1 = 0 then (f_X9_both5_5 fu n) q5.2 v0 (0 : Int32) else (f_X9_both5_5 fu n) q5.2 v0 (1 : Int32)) = some q := hf
    refine lv_aload_n C.1 C.2.1 dX9_both5_5 rfl (lv_at hl 0 rfl) ?_
    refine lv_bipush (v := (97 : Int32)) C.1 C.2.1 dX9_both5_6 (by decide) ?_
    refine lv_bipush (v := (110 : Int32)) C.1 C.2.1 dX9_both5_8 (by decide) ?_
    refine lv_bipush (v := (100 : Int32)) C.1 C.2.1 dX9_both5_10 (by decide) ?_
    refine lv_iconst (v := (0 : Int32)) C.1 C.2.1 dX9_both5_12 (by decide) ?_
    refine lv_iconst (v := (0 : Int32)) C.1 C.2.1 dX9_both5_13 (by decide) ?_
    refine lv_iconst (v := (0 : Int32)) C.1 C.2.1 dX9_both5_14 (by decide) ?_
    refine lv_iconst (v := (0 : Int32)) C.1 C.2.1 dX9_both5_15 (by decide) ?_
    refine lv_iconst (v := (0 : Int32)) C.1 C.2.1 dX9_both5_16 (by decide) ?_
    obtain ⟨q1, hq_q1, hf⟩ := ob_ hf
    refine x_az K h (x_V C K h [.int (97 : Int32), .int (110 : Int32), .int (100 : Int32), .int (0 : Int32), .int (0 : Int32), .int (0 : Int32), .int (0 : Int32), .int (0 : Int32)] (c_X9_isWord_ l κ G cy ad H.size σ v0 (97 : Int32) (110 : Int32) (100 : Int32) (0 : Int32) (0 : Int32) (0 : Int32) (0 : Int32) (0 : Int32) hk_v0 hq_q1) mi_X9_isWord_ rfl im_yX9_isWord_ se_yX9_isWord_ ml_RX9_193 cl_9 hk_v0 ⟨rfl, rfl, Nat.le_trans (Nat.le_of_ble_eq_true rfl) hR.1, Nat.le_trans (Nat.le_of_ble_eq_true rfl) hR.2⟩ hl (Nat.le_of_ble_eq_true rfl) dX9_both5_17 ⟨Nat.zero_le _, Nat.zero_le _⟩ rfl) (fun H locs h hX hz2 => ?_)
    refine lv_if_eq (tgt := 49) C.1 C.2.1 dX9_both5_20 (by decide) (fun c3 => ?_) (fun c3 => ?_)
    · have hf := if_t hf c3
      refine lv_iload_n C.1 C.2.1 dX9_both5_49 rfl (lv_at hl 1 rfl) ?_
      exact x_ri C hr hlk h hE (pf_1 (Option.some.inj hf)) (pf_2 (Option.some.inj hf)) dX9_both5_50
    · have hf := if_f hf c3
      refine lv_aload_n C.1 C.2.1 dX9_both5_23 rfl (lv_at hl 0 rfl) ?_
      obtain ⟨q4, hq_q4, hf⟩ := ob_ hf
      refine x_av K h (x_V C K h [] (c_X9_next fu l κ G cy ad H.size σ v0 hk_v0 hq_q4) mi_X9_next rfl im_yX9_next se_yX9_next ml_RX9_190 cl_9 hk_v0 ⟨rfl, rfl, Nat.le_trans (Nat.le_of_ble_eq_true rfl) hR.1, Nat.le_trans (Nat.le_of_ble_eq_true rfl) hR.2⟩ hl (Nat.le_of_ble_eq_true rfl) dX9_both5_24 ⟨Nat.zero_le _, Nat.zero_le _⟩ rfl) (fun H locs h hX => ?_)
      have hE := hE.trans hX
      have hk_v0 := hX.k hk_v0 (by decide)
      refine lv_aload_n C.1 C.2.1 dX9_both5_27 rfl (lv_at hl 0 rfl) ?_
      obtain ⟨q5, hq_q5, hf⟩ := ob_ hf
      refine x_ai K h (x_V C K h [] (c_X9_not5 fu l κ G cy ad H.size q4 v0 hk_v0 hq_q5) mi_X9_not5 rfl im_yX9_not5 se_yX9_not5 ml_RX9_239 cl_9 hk_v0 ⟨rfl, rfl, Nat.le_trans (Nat.le_of_ble_eq_true rfl) hR.1, Nat.le_trans (Nat.le_of_ble_eq_true rfl) hR.2⟩ hl (Nat.le_of_ble_eq_true rfl) dX9_both5_28 ⟨Nat.zero_le _, Nat.zero_le _⟩ rfl) (fun H locs h hX => ?_)
      have hE := hE.trans hX
      have hk_v0 := hX.k hk_v0 (by decide)
      refine lv_istore_n (i := 2) (lv' := [(2, .int q5.1), (0, .ref (ad v0)), (1, .int v1)]) C.1 C.2.1 dX9_both5_31 rfl hl (by decide) rfl (fun ls hl => ?_)
      refine lv_iload_n C.1 C.2.1 dX9_both5_32 rfl (lv_at hl 2 rfl) ?_
      refine lv_if_eq (tgt := 44) C.1 C.2.1 dX9_both5_33 (by decide) (fun c6 => ?_) (fun c6 => ?_)
      · have hf := if_t hf c6
        refine lv_iconst (v := (0 : Int32)) C.1 C.2.1 dX9_both5_44 (by decide) ?_
        refine lv_istore_n (i := 1) (lv' := [(1, .int (0 : Int32)), (2, .int q5.1), (0, .ref (ad v0))]) C.1 C.2.1 dX9_both5_45 rfl hl (by decide) rfl (fun ls hl => ?_)
        refine lv_goto (tgt := 5) C.1 C.2.1 dX9_both5_46 (by decide) ?_
        exact ih q5.2 v0 (0 : Int32) hE hk_v0 hf _ _ _ h (lv_sub hl [2, 0] rfl)
      · have hf := if_f hf c6
        refine lv_iload_n C.1 C.2.1 dX9_both5_36 rfl (lv_at hl 0 rfl) ?_
        refine lv_if_eq (tgt := 44) C.1 C.2.1 dX9_both5_37 (by decide) (fun c7 => ?_) (fun c7 => ?_)
        · have hf := if_t hf c7
          refine lv_iconst (v := (0 : Int32)) C.1 C.2.1 dX9_both5_44 (by decide) ?_
          refine lv_istore_n (i := 1) (lv' := [(1, .int (0 : Int32)), (2, .int q5.1), (0, .ref (ad v0))]) C.1 C.2.1 dX9_both5_45 rfl hl (by decide) rfl (fun ls hl => ?_)
          refine lv_goto (tgt := 5) C.1 C.2.1 dX9_both5_46 (by decide) ?_
          exact ih q5.2 v0 (0 : Int32) hE hk_v0 hf _ _ _ h (lv_sub hl [2, 0] rfl)
        · have hf := if_f hf c7
          refine lv_iconst (v := (1 : Int32)) C.1 C.2.1 dX9_both5_40 (by decide) ?_
          refine lv_goto (tgt := 45) C.1 C.2.1 dX9_both5_41 (by decide) ?_
          refine lv_istore_n (i := 1) (lv' := [(1, .int (1 : Int32)), (2, .int q5.1), (0, .ref (ad v0))]) C.1 C.2.1 dX9_both5_45 rfl hl (by decide) rfl (fun ls hl => ?_)
          refine lv_goto (tgt := 5) C.1 C.2.1 dX9_both5_46 (by decide) ?_
          exact ih q5.2 v0 (1 : Int32) hE hk_v0 hf _ _ _ h (lv_sub hl [2, 0] rfl)
def f_X9_both5 (fu : Nat) (σ : St_) (a0 : Nat) : Option (Int32 × St_) := (f_X9_not5 fu σ a0).bind fun q1 => f_X9_both5_5 fu fu q1.2 a0 q1.1
set_option maxHeartbeats 4000000 in
set_option maxRecDepth 100000 in
theorem w_X9_both5 {p : Program} {l : Launch} {e : Env} {R : Room} {s : State} {m : MethodId} {args : Array Value} {below : List Frame} {meth : Method} {c : Code} {κ : Ka_} {G : va_G} {cy : Nat → ClassId} {ad : Nat → Nat} {sz : Nat} {σ0 : St_} (fu : Nat) (C : CallFix p m c cX9_both5 3 s args wU_ RX9) (K : Kx_ κ G cy (va_A (wl_ cy ad σ0) sz) s) (hr : meth.sig.returnType = some .int) (hlk : meth.locks = false) (hR : 8 ≤ R.frames ∧ 179 ≤ R.locals) {q : Int32 × St_} : ∀ (σ : St_) (a0 : Nat), Ex_ σ0 σ → kd_ σ a0 = 9 → f_X9_both5 fu σ a0 = some q → ∀ (H : Heap) (locs : List Loc) (ls : Array Slot), Ht_ G cy (va_A (wl_ cy ad σ0) sz) s ad σ H locs → lv_has ls 3 [(0, .ref (ad a0))] → W p l e R s m args below meth c H locs 0 0 (MQ below (Qi_ G cy ad σ0 q.2 sz q.1) args s 0 0 (va_A (wl_ cy ad σ0) sz)) (F0 m 0 ls []) := by
  intro σ a0 hE hk_a0 hf H locs ls h hl
  have hf : ((f_X9_not5 fu σ a0).bind fun q1 => f_X9_both5_5 fu fu q1.2 a0 q1.1) = some q := hf
  refine lv_aload_n C.1 C.2.1 dX9_both5_0 rfl (lv_at hl 0 rfl) ?_
  obtain ⟨q1, hq_q1, hf⟩ := ob_ hf
  refine x_ai K h (x_V C K h [] (c_X9_not5 fu l κ G cy ad H.size σ a0 hk_a0 hq_q1) mi_X9_not5 rfl im_yX9_not5 se_yX9_not5 ml_RX9_239 cl_9 hk_a0 ⟨rfl, rfl, Nat.le_trans (Nat.le_of_ble_eq_true rfl) hR.1, Nat.le_trans (Nat.le_of_ble_eq_true rfl) hR.2⟩ hl (Nat.le_of_ble_eq_true rfl) dX9_both5_1 ⟨Nat.zero_le _, Nat.zero_le _⟩ rfl) (fun H locs h hX => ?_)
  have hE := hE.trans hX
  have hk_a0 := hX.k hk_a0 (by decide)
  refine lv_istore_n (i := 1) (lv' := [(1, .int q1.1), (0, .ref (ad a0))]) C.1 C.2.1 dX9_both5_4 rfl hl (by decide) rfl (fun ls hl => ?_)
  exact w_X9_both5_5 fu C K hr hlk hR fu q1.2 a0 q1.1 hE hk_a0 hf _ _ _ h (lv_sub hl [1, 0] rfl)
theorem c_X9_both5 (fu : Nat) (l : Launch) (κ : Ka_) (G : va_G) (cy : Nat → ClassId) (ad : Nat → Nat) (sz : Nat) (σ : St_) (a0 : Nat) (hk_a0 : kd_ σ a0 = 9) {q : Int32 × St_} (hf : f_X9_both5 fu σ a0 = some q) : Met l yX9_both5 (Cond.code yX9_both5 cX9_both5 3 (some .int) :: wU_) { frames := 8, cells := 0, slots := 0, locals := 179 } (va_Pc [.ref (ad a0)] (Pr_ κ G cy ad σ sz)) (Qi_ G cy ad σ q.2 sz q.1) 0 0 (va_A (wl_ cy ad σ) sz) :=
  x_met (by decide) (fun p e R s m below meth c ls hR C hr hlk hin _ K h hl => w_X9_both5 fu C K hr hlk ⟨hR.1, hR.2.1⟩ σ a0 Ex_.rf hk_a0 hf s.heap [] ls h hl) (Nat.le_of_ble_eq_true rfl)
-- X9_either5
theorem mi_X9_either5 : Mi_ yX9_either5 cX9_either5 3 (some .int) 0 := ⟨co_yX9_either5, in_RX9, by decide, by decide, by decide +kernel⟩
def f_X9_either5_5 (fu : Nat) : Nat → St_ → Nat → Int32 → Option (Int32 × St_)
  | 0 => fun _ _ _ => none
  | n + 1 => fun σ  v0  v1 => (f_X9_isWord_ σ v0 (111 : Int32) (114 : Int32) (0 : Int32) (0 : Int32) (0 : Int32) (0 : Int32) (0 : Int32) (0 : Int32)).bind fun q1 => if q1 = 0 then some (v1, σ) else (f_X9_next fu σ v0).bind fun q4 => (f_X9_both5 fu q4 v0).bind fun q5 => if v1 = 0 then if q5.1 = 0 then (f_X9_either5_5 fu n) q5.2 v0 (0 : Int32) else (f_X9_either5_5 fu n) q5.2 v0 (1 : Int32) else (f_X9_either5_5 fu n) q5.2 v0 (1 : Int32)
set_option maxHeartbeats 4000000 in
set_option maxRecDepth 100000 in
theorem w_X9_either5_5 {p : Program} {l : Launch} {e : Env} {R : Room} {s : State} {m : MethodId} {args : Array Value} {below : List Frame} {meth : Method} {c : Code} {κ : Ka_} {G : va_G} {cy : Nat → ClassId} {ad : Nat → Nat} {sz : Nat} {σ0 : St_} (fu : Nat) (C : CallFix p m c cX9_either5 3 s args wU_ RX9) (K : Kx_ κ G cy (va_A (wl_ cy ad σ0) sz) s) (hr : meth.sig.returnType = some .int) (hlk : meth.locks = false) (hR : 9 ≤ R.frames ∧ 201 ≤ R.locals) {q : Int32 × St_} : ∀ n : Nat, ∀ (σ : St_) (v0 : Nat) (v1 : Int32), Ex_ σ0 σ → kd_ σ v0 = 9 → f_X9_either5_5 fu n σ v0 v1 = some q → ∀ (H : Heap) (locs : List Loc) (ls : Array Slot), Ht_ G cy (va_A (wl_ cy ad σ0) sz) s ad σ H locs → lv_has ls 3 [(0, .ref (ad v0)), (1, .int v1)] → W p l e R s m args below meth c H locs 0 0 (MQ below (Qi_ G cy ad σ0 q.2 sz q.1) args s 0 0 (va_A (wl_ cy ad σ0) sz)) (F0 m 5 ls []) := by
  intro n
  induction n with
  | zero =>
    intro σ v0 v1 hE hk_v0 hf H locs ls h hl
    cases hf
  | succ n ih =>
    intro σ v0 v1 hE hk_v0 hf H locs ls h hl
    have hf : ((f_X9_isWord_ σ v0 (111 : Int32) (114 : Int32) (0 : Int32) (0 : Int32) (0 : Int32) (0 : Int32) (0 : Int32) (0 : Int32)).bind fun q1 => if q1 = 0 then some (v1, σ) else (f_X9_next fu σ v0).bind fun q4 => (f_X9_both5 fu q4 v0).bind fun q5 => if v1 = 0 then if q5.1 = 0 then (f_X9_either5_5 fu n) q5.2 v0 (0 : Int32) else (f_X9_either5_5 fu n) q5.2 v0 (1 : Int32) else (f_X9_either5_5 fu n) q5.2 v0 (1 : Int32)) = some q := hf
    refine lv_aload_n C.1 C.2.1 dX9_either5_5 rfl (lv_at hl 0 rfl) ?_
    refine lv_bipush (v := (111 : Int32)) C.1 C.2.1 dX9_either5_6 (by decide) ?_
    refine lv_bipush (v := (114 : Int32)) C.1 C.2.1 dX9_either5_8 (by decide) ?_
    refine lv_iconst (v := (0 : Int32)) C.1 C.2.1 dX9_either5_10 (by decide) ?_
    refine lv_iconst (v := (0 : Int32)) C.1 C.2.1 dX9_either5_11 (by decide) ?_
    refine lv_iconst (v := (0 : Int32)) C.1 C.2.1 dX9_either5_12 (by decide) ?_
    refine lv_iconst (v := (0 : Int32)) C.1 C.2.1 dX9_either5_13 (by decide) ?_
    refine lv_iconst (v := (0 : Int32)) C.1 C.2.1 dX9_either5_14 (by decide) ?_
    refine lv_iconst (v := (0 : Int32)) C.1 C.2.1 dX9_either5_15 (by decide) ?_
    obtain ⟨q1, hq_q1, hf⟩ := ob_ hf
    refine x_az K h (x_V C K h [.int (111 : Int32), .int (114 : Int32), .int (0 : Int32), .int (0 : Int32), .int (0 : Int32), .int (0 : Int32), .int (0 : Int32), .int (0 : Int32)] (c_X9_isWord_ l κ G cy ad H.size σ v0 (111 : Int32) (114 : Int32) (0 : Int32) (0 : Int32) (0 : Int32) (0 : Int32) (0 : Int32) (0 : Int32) hk_v0 hq_q1) mi_X9_isWord_ rfl im_yX9_isWord_ se_yX9_isWord_ ml_RX9_193 cl_9 hk_v0 ⟨rfl, rfl, Nat.le_trans (Nat.le_of_ble_eq_true rfl) hR.1, Nat.le_trans (Nat.le_of_ble_eq_true rfl) hR.2⟩ hl (Nat.le_of_ble_eq_true rfl) dX9_either5_16 ⟨Nat.zero_le _, Nat.zero_le _⟩ rfl) (fun H locs h hX hz2 => ?_)
    refine lv_if_eq (tgt := 48) C.1 C.2.1 dX9_either5_19 (by decide) (fun c3 => ?_) (fun c3 => ?_)
    · have hf := if_t hf c3
      refine lv_iload_n C.1 C.2.1 dX9_either5_48 rfl (lv_at hl 1 rfl) ?_
      exact x_ri C hr hlk h hE (pf_1 (Option.some.inj hf)) (pf_2 (Option.some.inj hf)) dX9_either5_49
    · have hf := if_f hf c3
      refine lv_aload_n C.1 C.2.1 dX9_either5_22 rfl (lv_at hl 0 rfl) ?_
      obtain ⟨q4, hq_q4, hf⟩ := ob_ hf
      refine x_av K h (x_V C K h [] (c_X9_next fu l κ G cy ad H.size σ v0 hk_v0 hq_q4) mi_X9_next rfl im_yX9_next se_yX9_next ml_RX9_190 cl_9 hk_v0 ⟨rfl, rfl, Nat.le_trans (Nat.le_of_ble_eq_true rfl) hR.1, Nat.le_trans (Nat.le_of_ble_eq_true rfl) hR.2⟩ hl (Nat.le_of_ble_eq_true rfl) dX9_either5_23 ⟨Nat.zero_le _, Nat.zero_le _⟩ rfl) (fun H locs h hX => ?_)
      have hE := hE.trans hX
      have hk_v0 := hX.k hk_v0 (by decide)
      refine lv_aload_n C.1 C.2.1 dX9_either5_26 rfl (lv_at hl 0 rfl) ?_
      obtain ⟨q5, hq_q5, hf⟩ := ob_ hf
      refine x_ai K h (x_V C K h [] (c_X9_both5 fu l κ G cy ad H.size q4 v0 hk_v0 hq_q5) mi_X9_both5 rfl im_yX9_both5 se_yX9_both5 ml_RX9_242 cl_9 hk_v0 ⟨rfl, rfl, Nat.le_trans (Nat.le_of_ble_eq_true rfl) hR.1, Nat.le_trans (Nat.le_of_ble_eq_true rfl) hR.2⟩ hl (Nat.le_of_ble_eq_true rfl) dX9_either5_27 ⟨Nat.zero_le _, Nat.zero_le _⟩ rfl) (fun H locs h hX => ?_)
      have hE := hE.trans hX
      have hk_v0 := hX.k hk_v0 (by decide)
      refine lv_istore_n (i := 2) (lv' := [(2, .int q5.1), (0, .ref (ad v0)), (1, .int v1)]) C.1 C.2.1 dX9_either5_30 rfl hl (by decide) rfl (fun ls hl => ?_)
      refine lv_iload_n C.1 C.2.1 dX9_either5_31 rfl (lv_at hl 2 rfl) ?_
      refine lv_if_ne (tgt := 39) C.1 C.2.1 dX9_either5_32 (by decide) (fun c6 => ?_) (fun c6 => ?_)
      · have hf := if_f hf c6
        refine lv_iconst (v := (1 : Int32)) C.1 C.2.1 dX9_either5_39 (by decide) ?_
        refine lv_goto (tgt := 44) C.1 C.2.1 dX9_either5_40 (by decide) ?_
        refine lv_istore_n (i := 1) (lv' := [(1, .int (1 : Int32)), (2, .int q5.1), (0, .ref (ad v0))]) C.1 C.2.1 dX9_either5_44 rfl hl (by decide) rfl (fun ls hl => ?_)
        refine lv_goto (tgt := 5) C.1 C.2.1 dX9_either5_45 (by decide) ?_
        exact ih q5.2 v0 (1 : Int32) hE hk_v0 hf _ _ _ h (lv_sub hl [2, 0] rfl)
      · have hf := if_t hf c6
        refine lv_iload_n C.1 C.2.1 dX9_either5_35 rfl (lv_at hl 0 rfl) ?_
        refine lv_if_eq (tgt := 43) C.1 C.2.1 dX9_either5_36 (by decide) (fun c7 => ?_) (fun c7 => ?_)
        · have hf := if_t hf c7
          refine lv_iconst (v := (0 : Int32)) C.1 C.2.1 dX9_either5_43 (by decide) ?_
          refine lv_istore_n (i := 1) (lv' := [(1, .int (0 : Int32)), (2, .int q5.1), (0, .ref (ad v0))]) C.1 C.2.1 dX9_either5_44 rfl hl (by decide) rfl (fun ls hl => ?_)
          refine lv_goto (tgt := 5) C.1 C.2.1 dX9_either5_45 (by decide) ?_
          exact ih q5.2 v0 (0 : Int32) hE hk_v0 hf _ _ _ h (lv_sub hl [2, 0] rfl)
        · have hf := if_f hf c7
          refine lv_iconst (v := (1 : Int32)) C.1 C.2.1 dX9_either5_39 (by decide) ?_
          refine lv_goto (tgt := 44) C.1 C.2.1 dX9_either5_40 (by decide) ?_
          refine lv_istore_n (i := 1) (lv' := [(1, .int (1 : Int32)), (2, .int q5.1), (0, .ref (ad v0))]) C.1 C.2.1 dX9_either5_44 rfl hl (by decide) rfl (fun ls hl => ?_)
          refine lv_goto (tgt := 5) C.1 C.2.1 dX9_either5_45 (by decide) ?_
          exact ih q5.2 v0 (1 : Int32) hE hk_v0 hf _ _ _ h (lv_sub hl [2, 0] rfl)
def f_X9_either5 (fu : Nat) (σ : St_) (a0 : Nat) : Option (Int32 × St_) := (f_X9_both5 fu σ a0).bind fun q1 => f_X9_either5_5 fu fu q1.2 a0 q1.1
set_option maxHeartbeats 4000000 in
set_option maxRecDepth 100000 in
theorem w_X9_either5 {p : Program} {l : Launch} {e : Env} {R : Room} {s : State} {m : MethodId} {args : Array Value} {below : List Frame} {meth : Method} {c : Code} {κ : Ka_} {G : va_G} {cy : Nat → ClassId} {ad : Nat → Nat} {sz : Nat} {σ0 : St_} (fu : Nat) (C : CallFix p m c cX9_either5 3 s args wU_ RX9) (K : Kx_ κ G cy (va_A (wl_ cy ad σ0) sz) s) (hr : meth.sig.returnType = some .int) (hlk : meth.locks = false) (hR : 9 ≤ R.frames ∧ 201 ≤ R.locals) {q : Int32 × St_} : ∀ (σ : St_) (a0 : Nat), Ex_ σ0 σ → kd_ σ a0 = 9 → f_X9_either5 fu σ a0 = some q → ∀ (H : Heap) (locs : List Loc) (ls : Array Slot), Ht_ G cy (va_A (wl_ cy ad σ0) sz) s ad σ H locs → lv_has ls 3 [(0, .ref (ad a0))] → W p l e R s m args below meth c H locs 0 0 (MQ below (Qi_ G cy ad σ0 q.2 sz q.1) args s 0 0 (va_A (wl_ cy ad σ0) sz)) (F0 m 0 ls []) := by
  intro σ a0 hE hk_a0 hf H locs ls h hl
  have hf : ((f_X9_both5 fu σ a0).bind fun q1 => f_X9_either5_5 fu fu q1.2 a0 q1.1) = some q := hf
  refine lv_aload_n C.1 C.2.1 dX9_either5_0 rfl (lv_at hl 0 rfl) ?_
  obtain ⟨q1, hq_q1, hf⟩ := ob_ hf
  refine x_ai K h (x_V C K h [] (c_X9_both5 fu l κ G cy ad H.size σ a0 hk_a0 hq_q1) mi_X9_both5 rfl im_yX9_both5 se_yX9_both5 ml_RX9_242 cl_9 hk_a0 ⟨rfl, rfl, Nat.le_trans (Nat.le_of_ble_eq_true rfl) hR.1, Nat.le_trans (Nat.le_of_ble_eq_true rfl) hR.2⟩ hl (Nat.le_of_ble_eq_true rfl) dX9_either5_1 ⟨Nat.zero_le _, Nat.zero_le _⟩ rfl) (fun H locs h hX => ?_)
  have hE := hE.trans hX
  have hk_a0 := hX.k hk_a0 (by decide)
  refine lv_istore_n (i := 1) (lv' := [(1, .int q1.1), (0, .ref (ad a0))]) C.1 C.2.1 dX9_either5_4 rfl hl (by decide) rfl (fun ls hl => ?_)
  exact w_X9_either5_5 fu C K hr hlk hR fu q1.2 a0 q1.1 hE hk_a0 hf _ _ _ h (lv_sub hl [1, 0] rfl)
theorem c_X9_either5 (fu : Nat) (l : Launch) (κ : Ka_) (G : va_G) (cy : Nat → ClassId) (ad : Nat → Nat) (sz : Nat) (σ : St_) (a0 : Nat) (hk_a0 : kd_ σ a0 = 9) {q : Int32 × St_} (hf : f_X9_either5 fu σ a0 = some q) : Met l yX9_either5 (Cond.code yX9_either5 cX9_either5 3 (some .int) :: wU_) { frames := 9, cells := 0, slots := 0, locals := 201 } (va_Pc [.ref (ad a0)] (Pr_ κ G cy ad σ sz)) (Qi_ G cy ad σ q.2 sz q.1) 0 0 (va_A (wl_ cy ad σ) sz) :=
  x_met (by decide) (fun p e R s m below meth c ls hR C hr hlk hin _ K h hl => w_X9_either5 fu C K hr hlk ⟨hR.1, hR.2.1⟩ σ a0 Ex_.rf hk_a0 hf s.heap [] ls h hl) (Nat.le_of_ble_eq_true rfl)
