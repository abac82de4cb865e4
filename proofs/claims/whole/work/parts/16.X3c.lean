-- X3_readPart
theorem mi_X3_readPart : Mi_ yX3_readPart cX3_readPart 2 (some .boolean) 1 := ⟨co_yX3_readPart, in_RX3, by decide, by decide, by decide +kernel⟩
def f_X3_readPart (fu : Nat) (σ : St_) (a0 : Nat) (x1 : Int32) : Option (Int32 × St_) := (f_X3_pass σ a0 x1).bind fun q2 => if q2.1 = 0 then some ((0 : Int32), q2.2) else (f_X3_readOrC fu q2.2 a0 (0 : Int32)).bind fun q5 => if q5.1 = 0 then some ((0 : Int32), q5.2) else (f_X3_pass q5.2 a0 (59 : Int32)).bind fun q8 => if q8.1 = 0 then some ((0 : Int32), q8.2) else some ((1 : Int32), q8.2)
set_option maxHeartbeats 4000000 in
set_option maxRecDepth 100000 in
theorem w_X3_readPart {p : Program} {l : Launch} {e : Env} {R : Room} {s : State} {m : MethodId} {args : Array Value} {below : List Frame} {meth : Method} {c : Code} {κ : Ka_} {G : va_G} {cy : Nat → ClassId} {ad : Nat → Nat} {sz : Nat} {σ0 : St_} (fu : Nat) (C : CallFix p m c cX3_readPart 2 s args wU_ RX3) (K : Kx_ κ G cy (va_A (wl_ cy ad σ0) sz) s) (hr : meth.sig.returnType = some .boolean) (hlk : meth.locks = false) (hR : 161 ≤ R.frames ∧ 8100 ≤ R.locals) {q : Int32 × St_} : ∀ (σ : St_) (a0 : Nat) (x1 : Int32), Ex_ σ0 σ → kd_ σ a0 = 3 → f_X3_readPart fu σ a0 x1 = some q → ∀ (H : Heap) (locs : List Loc) (ls : Array Slot), Ht_ G cy (va_A (wl_ cy ad σ0) sz) s ad σ H locs → lv_has ls 2 [(0, .ref (ad a0)), (1, .int x1)] → W p l e R s m args below meth c H locs 0 0 (MQ below (Qz_ G cy ad σ0 q.2 sz q.1) args s 0 0 (va_A (wl_ cy ad σ0) sz)) (F0 m 0 ls []) := by
  intro σ a0 x1 hE hk_a0 hf H locs ls h hl
  have hf : ((f_X3_pass σ a0 x1).bind fun q2 => if q2.1 = 0 then some ((0 : Int32), q2.2) else (f_X3_readOrC fu q2.2 a0 (0 : Int32)).bind fun q5 => if q5.1 = 0 then some ((0 : Int32), q5.2) else (f_X3_pass q5.2 a0 (59 : Int32)).bind fun q8 => if q8.1 = 0 then some ((0 : Int32), q8.2) else some ((1 : Int32), q8.2)) = some q := hf
  refine lv_aload_n C.1 C.2.1 dX3_readPart_0 rfl (lv_at hl 0 rfl) ?_
  refine lv_iload_n C.1 C.2.1 dX3_readPart_1 rfl (lv_at hl 1 rfl) ?_
  obtain ⟨q2, hq_q2, hf⟩ := ob_ hf
  refine x_az K h (x_V C K h [.int x1] (c_X3_pass l κ G cy ad H.size σ a0 x1 hk_a0 hq_q2) mi_X3_pass rfl im_yX3_pass se_yX3_pass ml_RX3_145 cl_3 hk_a0 ⟨rfl, rfl, Nat.le_trans (Nat.le_of_ble_eq_true rfl) hR.1, Nat.le_trans (Nat.le_of_ble_eq_true rfl) hR.2⟩ hl (Nat.le_of_ble_eq_true rfl) dX3_readPart_2 ⟨Nat.zero_le _, Nat.zero_le _⟩ rfl) (fun H locs h hX hz3 => ?_)
  have hE := hE.trans hX
  have hk_a0 := hX.k hk_a0 (by decide)
  refine lv_if_eq (tgt := 29) C.1 C.2.1 dX3_readPart_5 (by decide) (fun c4 => ?_) (fun c4 => ?_)
  · have hf := if_t hf c4
    refine lv_iconst (v := (0 : Int32)) C.1 C.2.1 dX3_readPart_29 (by decide) ?_
    exact x_rzz C hr hlk h hE (by decide) (pf_1 (Option.some.inj hf)) (pf_2 (Option.some.inj hf)) dX3_readPart_30
  · have hf := if_f hf c4
    refine lv_aload_n C.1 C.2.1 dX3_readPart_8 rfl (lv_at hl 0 rfl) ?_
    refine lv_iconst (v := (0 : Int32)) C.1 C.2.1 dX3_readPart_9 (by decide) ?_
    obtain ⟨q5, hq_q5, hf⟩ := ob_ hf
    refine x_az K h (x_V C K h [.int (0 : Int32)] (c_X3_readOrC fu l κ G cy ad H.size q2.2 a0 (0 : Int32) hk_a0 hq_q5) mi_X3_readOr rfl im_yX3_readOr se_yX3_readOr ml_RX3_148 cl_3 hk_a0 ⟨rfl, rfl, Nat.le_trans (Nat.le_of_ble_eq_true rfl) hR.1, Nat.le_trans (Nat.le_of_ble_eq_true rfl) hR.2⟩ hl (Nat.le_of_ble_eq_true rfl) dX3_readPart_10 ⟨Nat.zero_le _, Nat.zero_le _⟩ rfl) (fun H locs h hX hz6 => ?_)
    have hE := hE.trans hX
    have hk_a0 := hX.k hk_a0 (by decide)
    refine lv_if_eq (tgt := 29) C.1 C.2.1 dX3_readPart_13 (by decide) (fun c7 => ?_) (fun c7 => ?_)
    · have hf := if_t hf c7
      refine lv_iconst (v := (0 : Int32)) C.1 C.2.1 dX3_readPart_29 (by decide) ?_
      exact x_rzz C hr hlk h hE (by decide) (pf_1 (Option.some.inj hf)) (pf_2 (Option.some.inj hf)) dX3_readPart_30
    · have hf := if_f hf c7
      refine lv_aload_n C.1 C.2.1 dX3_readPart_16 rfl (lv_at hl 0 rfl) ?_
      refine lv_bipush (v := (59 : Int32)) C.1 C.2.1 dX3_readPart_17 (by decide) ?_
      obtain ⟨q8, hq_q8, hf⟩ := ob_ hf
      refine x_az K h (x_V C K h [.int (59 : Int32)] (c_X3_pass l κ G cy ad H.size q5.2 a0 (59 : Int32) hk_a0 hq_q8) mi_X3_pass rfl im_yX3_pass se_yX3_pass ml_RX3_145 cl_3 hk_a0 ⟨rfl, rfl, Nat.le_trans (Nat.le_of_ble_eq_true rfl) hR.1, Nat.le_trans (Nat.le_of_ble_eq_true rfl) hR.2⟩ hl (Nat.le_of_ble_eq_true rfl) dX3_readPart_19 ⟨Nat.zero_le _, Nat.zero_le _⟩ rfl) (fun H locs h hX hz9 => ?_)
      have hE := hE.trans hX
      have hk_a0 := hX.k hk_a0 (by decide)
      refine lv_if_eq (tgt := 29) C.1 C.2.1 dX3_readPart_22 (by decide) (fun c10 => ?_) (fun c10 => ?_)
      · have hf := if_t hf c10
        refine lv_iconst (v := (0 : Int32)) C.1 C.2.1 dX3_readPart_29 (by decide) ?_
        exact x_rzz C hr hlk h hE (by decide) (pf_1 (Option.some.inj hf)) (pf_2 (Option.some.inj hf)) dX3_readPart_30
      · have hf := if_f hf c10
        refine lv_iconst (v := (1 : Int32)) C.1 C.2.1 dX3_readPart_25 (by decide) ?_
        refine lv_goto (tgt := 30) C.1 C.2.1 dX3_readPart_26 (by decide) ?_
        exact x_rzz C hr hlk h hE (by decide) (pf_1 (Option.some.inj hf)) (pf_2 (Option.some.inj hf)) dX3_readPart_30
theorem c_X3_readPart (fu : Nat) (l : Launch) (κ : Ka_) (G : va_G) (cy : Nat → ClassId) (ad : Nat → Nat) (sz : Nat) (σ : St_) (a0 : Nat) (x1 : Int32) (hk_a0 : kd_ σ a0 = 3) {q : Int32 × St_} (hf : f_X3_readPart fu σ a0 x1 = some q) : Met l yX3_readPart (Cond.code yX3_readPart cX3_readPart 2 (some .boolean) :: wU_) { frames := 161, cells := 0, slots := 0, locals := 8100 } (va_Pc [.ref (ad a0), .int x1] (Pr_ κ G cy ad σ sz)) (Qz_ G cy ad σ q.2 sz q.1) 0 0 (va_A (wl_ cy ad σ) sz) :=
  x_met (by decide) (fun p e R s m below meth c ls hR C hr hlk hin _ K h hl => w_X3_readPart fu C K hr hlk ⟨hR.1, hR.2.1⟩ σ a0 x1 Ex_.rf hk_a0 hf s.heap [] ls h hl) (Nat.le_of_ble_eq_true rfl)
-- X3_reads
theorem mi_X3_reads : Mi_ yX3_reads cX3_reads 1 (some .boolean) 0 := ⟨co_yX3_reads, in_RX3, by decide, by decide, by decide +kernel⟩
def f_X3_reads (fu : Nat) (σ : St_) (a0 : Nat) : Option (Int32 × St_) := (f_X3_findTokens fu σ a0).bind fun q1 => (f_X3_readPart fu (ui_ (ui_ q1 a0 6 (0 : Int32)) a0 8 (0 : Int32)) a0 (4 : Int32)).bind fun q2 => if q2.1 = 0 then some ((0 : Int32), q2.2) else (f_X3_readPart fu (ui_ q2.2 a0 9 (si_ q2.2 a0 8)) a0 (5 : Int32)).bind fun q5 => if q5.1 = 0 then some ((0 : Int32), q5.2) else (f_X3_readPart fu (ui_ q5.2 a0 10 (si_ q5.2 a0 8)) a0 (6 : Int32)).bind fun q8 => if q8.1 = 0 then some ((0 : Int32), q8.2) else (f_X3_token q8.2 a0).bind fun q11 => if q11 = 0 then some ((1 : Int32), q8.2) else some ((0 : Int32), q8.2)
set_option maxHeartbeats 4000000 in
set_option maxRecDepth 100000 in
theorem w_X3_reads {p : Program} {l : Launch} {e : Env} {R : Room} {s : State} {m : MethodId} {args : Array Value} {below : List Frame} {meth : Method} {c : Code} {κ : Ka_} {G : va_G} {cy : Nat → ClassId} {ad : Nat → Nat} {sz : Nat} {σ0 : St_} (fu : Nat) (C : CallFix p m c cX3_reads 1 s args wU_ RX3) (K : Kx_ κ G cy (va_A (wl_ cy ad σ0) sz) s) (hr : meth.sig.returnType = some .boolean) (hlk : meth.locks = false) (hR : 162 ≤ R.frames ∧ 8121 ≤ R.locals) {q : Int32 × St_} : ∀ (σ : St_) (a0 : Nat), Ex_ σ0 σ → kd_ σ a0 = 3 → f_X3_reads fu σ a0 = some q → ∀ (H : Heap) (locs : List Loc) (ls : Array Slot), Ht_ G cy (va_A (wl_ cy ad σ0) sz) s ad σ H locs → lv_has ls 1 [(0, .ref (ad a0))] → W p l e R s m args below meth c H locs 0 0 (MQ below (Qz_ G cy ad σ0 q.2 sz q.1) args s 0 0 (va_A (wl_ cy ad σ0) sz)) (F0 m 0 ls []) := by
  intro σ a0 hE hk_a0 hf H locs ls h hl
  have hf : ((f_X3_findTokens fu σ a0).bind fun q1 => (f_X3_readPart fu (ui_ (ui_ q1 a0 6 (0 : Int32)) a0 8 (0 : Int32)) a0 (4 : Int32)).bind fun q2 => if q2.1 = 0 then some ((0 : Int32), q2.2) else (f_X3_readPart fu (ui_ q2.2 a0 9 (si_ q2.2 a0 8)) a0 (5 : Int32)).bind fun q5 => if q5.1 = 0 then some ((0 : Int32), q5.2) else (f_X3_readPart fu (ui_ q5.2 a0 10 (si_ q5.2 a0 8)) a0 (6 : Int32)).bind fun q8 => if q8.1 = 0 then some ((0 : Int32), q8.2) else (f_X3_token q8.2 a0).bind fun q11 => if q11 = 0 then some ((1 : Int32), q8.2) else some ((0 : Int32), q8.2)) = some q := hf
  refine lv_aload_n C.1 C.2.1 dX3_reads_0 rfl (lv_at hl 0 rfl) ?_
  obtain ⟨q1, hq_q1, hf⟩ := ob_ hf
  refine x_av K h (x_V C K h [] (c_X3_findTokens fu l κ G cy ad H.size σ a0 hk_a0 hq_q1) mi_X3_findTokens rfl im_yX3_findTokens se_yX3_findTokens ml_RX3_50 cl_3 hk_a0 ⟨rfl, rfl, Nat.le_trans (Nat.le_of_ble_eq_true rfl) hR.1, Nat.le_trans (Nat.le_of_ble_eq_true rfl) hR.2⟩ hl (Nat.le_of_ble_eq_true rfl) dX3_reads_1 ⟨Nat.zero_le _, Nat.zero_le _⟩ rfl) (fun H locs h hX => ?_)
  have hE := hE.trans hX
  have hk_a0 := hX.k hk_a0 (by decide)
  refine lv_aload_n C.1 C.2.1 dX3_reads_4 rfl (lv_at hl 0 rfl) ?_
  refine lv_iconst (v := (0 : Int32)) C.1 C.2.1 dX3_reads_5 (by decide) ?_
  refine x_putI C K h cl_3 hk_a0 6 (by decide) fl_RX3_31 rfl rfl rfl (Nat.le_of_ble_eq_true rfl) (fun _ _ _ => rfl) dX3_reads_6 (fun H locs h => ?_)
  have hE := hE.up (up_i q1 a0 6 (0 : Int32))
  refine lv_aload_n C.1 C.2.1 dX3_reads_9 rfl (lv_at hl 0 rfl) ?_
  refine lv_iconst (v := (0 : Int32)) C.1 C.2.1 dX3_reads_10 (by decide) ?_
  refine x_putI C K h cl_3 hk_a0 8 (by decide) fl_RX3_37 rfl rfl rfl (Nat.le_of_ble_eq_true rfl) (fun _ _ _ => rfl) dX3_reads_11 (fun H locs h => ?_)
  have hE := hE.up (up_i (ui_ q1 a0 6 (0 : Int32)) a0 8 (0 : Int32))
  refine lv_aload_n C.1 C.2.1 dX3_reads_14 rfl (lv_at hl 0 rfl) ?_
  refine lv_iconst (v := (4 : Int32)) C.1 C.2.1 dX3_reads_15 (by decide) ?_
  obtain ⟨q2, hq_q2, hf⟩ := ob_ hf
  refine x_az K h (x_V C K h [.int (4 : Int32)] (c_X3_readPart fu l κ G cy ad H.size (ui_ (ui_ q1 a0 6 (0 : Int32)) a0 8 (0 : Int32)) a0 (4 : Int32) hk_a0 hq_q2) mi_X3_readPart rfl im_yX3_readPart se_yX3_readPart ml_RX3_53 cl_3 hk_a0 ⟨rfl, rfl, Nat.le_trans (Nat.le_of_ble_eq_true rfl) hR.1, Nat.le_trans (Nat.le_of_ble_eq_true rfl) hR.2⟩ hl (Nat.le_of_ble_eq_true rfl) dX3_reads_16 ⟨Nat.zero_le _, Nat.zero_le _⟩ rfl) (fun H locs h hX hz3 => ?_)
  have hE := hE.trans hX
  have hk_a0 := hX.k hk_a0 (by decide)
  refine lv_if_ne (tgt := 24) C.1 C.2.1 dX3_reads_19 (by decide) (fun c4 => ?_) (fun c4 => ?_)
  · have hf := if_f hf c4
    refine lv_aload_n C.1 C.2.1 dX3_reads_24 rfl (lv_at hl 0 rfl) ?_
    refine lv_aload_n C.1 C.2.1 dX3_reads_25 rfl (lv_at hl 0 rfl) ?_
    refine x_get (v := .int (si_ q2.2 a0 8)) C K h cl_3 hk_a0 8 (by decide) fl_RX3_37 rfl dX3_reads_26 ?_
    refine x_putI C K h cl_3 hk_a0 9 (by decide) fl_RX3_40 rfl rfl rfl (Nat.le_of_ble_eq_true rfl) (fun _ _ _ => rfl) dX3_reads_29 (fun H locs h => ?_)
    have hE := hE.up (up_i q2.2 a0 9 (si_ q2.2 a0 8))
    refine lv_aload_n C.1 C.2.1 dX3_reads_32 rfl (lv_at hl 0 rfl) ?_
    refine lv_iconst (v := (5 : Int32)) C.1 C.2.1 dX3_reads_33 (by decide) ?_
    obtain ⟨q5, hq_q5, hf⟩ := ob_ hf
    refine x_az K h (x_V C K h [.int (5 : Int32)] (c_X3_readPart fu l κ G cy ad H.size (ui_ q2.2 a0 9 (si_ q2.2 a0 8)) a0 (5 : Int32) hk_a0 hq_q5) mi_X3_readPart rfl im_yX3_readPart se_yX3_readPart ml_RX3_53 cl_3 hk_a0 ⟨rfl, rfl, Nat.le_trans (Nat.le_of_ble_eq_true rfl) hR.1, Nat.le_trans (Nat.le_of_ble_eq_true rfl) hR.2⟩ hl (Nat.le_of_ble_eq_true rfl) dX3_reads_34 ⟨Nat.zero_le _, Nat.zero_le _⟩ rfl) (fun H locs h hX hz6 => ?_)
    have hE := hE.trans hX
    have hk_a0 := hX.k hk_a0 (by decide)
    refine lv_if_ne (tgt := 42) C.1 C.2.1 dX3_reads_37 (by decide) (fun c7 => ?_) (fun c7 => ?_)
    · have hf := if_f hf c7
      refine lv_aload_n C.1 C.2.1 dX3_reads_42 rfl (lv_at hl 0 rfl) ?_
      refine lv_aload_n C.1 C.2.1 dX3_reads_43 rfl (lv_at hl 0 rfl) ?_
      refine x_get (v := .int (si_ q5.2 a0 8)) C K h cl_3 hk_a0 8 (by decide) fl_RX3_37 rfl dX3_reads_44 ?_
      refine x_putI C K h cl_3 hk_a0 10 (by decide) fl_RX3_43 rfl rfl rfl (Nat.le_of_ble_eq_true rfl) (fun _ _ _ => rfl) dX3_reads_47 (fun H locs h => ?_)
      have hE := hE.up (up_i q5.2 a0 10 (si_ q5.2 a0 8))
      refine lv_aload_n C.1 C.2.1 dX3_reads_50 rfl (lv_at hl 0 rfl) ?_
      refine lv_bipush (v := (6 : Int32)) C.1 C.2.1 dX3_reads_51 (by decide) ?_
      obtain ⟨q8, hq_q8, hf⟩ := ob_ hf
      refine x_az K h (x_V C K h [.int (6 : Int32)] (c_X3_readPart fu l κ G cy ad H.size (ui_ q5.2 a0 10 (si_ q5.2 a0 8)) a0 (6 : Int32) hk_a0 hq_q8) mi_X3_readPart rfl im_yX3_readPart se_yX3_readPart ml_RX3_53 cl_3 hk_a0 ⟨rfl, rfl, Nat.le_trans (Nat.le_of_ble_eq_true rfl) hR.1, Nat.le_trans (Nat.le_of_ble_eq_true rfl) hR.2⟩ hl (Nat.le_of_ble_eq_true rfl) dX3_reads_53 ⟨Nat.zero_le _, Nat.zero_le _⟩ rfl) (fun H locs h hX hz9 => ?_)
      have hE := hE.trans hX
      have hk_a0 := hX.k hk_a0 (by decide)
      refine lv_if_eq (tgt := 70) C.1 C.2.1 dX3_reads_56 (by decide) (fun c10 => ?_) (fun c10 => ?_)
      · have hf := if_t hf c10
        refine lv_iconst (v := (0 : Int32)) C.1 C.2.1 dX3_reads_70 (by decide) ?_
        exact x_rzz C hr hlk h hE (by decide) (pf_1 (Option.some.inj hf)) (pf_2 (Option.some.inj hf)) dX3_reads_71
      · have hf := if_f hf c10
        refine lv_aload_n C.1 C.2.1 dX3_reads_59 rfl (lv_at hl 0 rfl) ?_
        obtain ⟨q11, hq_q11, hf⟩ := ob_ hf
        refine x_ai K h (x_V C K h [] (c_X3_token l κ G cy ad H.size q8.2 a0 hk_a0 hq_q11) mi_X3_token rfl im_yX3_token se_yX3_token ml_RX3_57 cl_3 hk_a0 ⟨rfl, rfl, Nat.le_trans (Nat.le_of_ble_eq_true rfl) hR.1, Nat.le_trans (Nat.le_of_ble_eq_true rfl) hR.2⟩ hl (Nat.le_of_ble_eq_true rfl) dX3_reads_60 ⟨Nat.zero_le _, Nat.zero_le _⟩ rfl) (fun H locs h hX => ?_)
        refine lv_if_ne (tgt := 70) C.1 C.2.1 dX3_reads_63 (by decide) (fun c12 => ?_) (fun c12 => ?_)
        · have hf := if_f hf c12
          refine lv_iconst (v := (0 : Int32)) C.1 C.2.1 dX3_reads_70 (by decide) ?_
          exact x_rzz C hr hlk h hE (by decide) (pf_1 (Option.some.inj hf)) (pf_2 (Option.some.inj hf)) dX3_reads_71
        · have hf := if_t hf c12
          refine lv_iconst (v := (1 : Int32)) C.1 C.2.1 dX3_reads_66 (by decide) ?_
          refine lv_goto (tgt := 71) C.1 C.2.1 dX3_reads_67 (by decide) ?_
          exact x_rzz C hr hlk h hE (by decide) (pf_1 (Option.some.inj hf)) (pf_2 (Option.some.inj hf)) dX3_reads_71
    · have hf := if_t hf c7
      refine lv_iconst (v := (0 : Int32)) C.1 C.2.1 dX3_reads_40 (by decide) ?_
      exact x_rzz C hr hlk h hE (by decide) (pf_1 (Option.some.inj hf)) (pf_2 (Option.some.inj hf)) dX3_reads_41
  · have hf := if_t hf c4
    refine lv_iconst (v := (0 : Int32)) C.1 C.2.1 dX3_reads_22 (by decide) ?_
    exact x_rzz C hr hlk h hE (by decide) (pf_1 (Option.some.inj hf)) (pf_2 (Option.some.inj hf)) dX3_reads_23
theorem c_X3_reads (fu : Nat) (l : Launch) (κ : Ka_) (G : va_G) (cy : Nat → ClassId) (ad : Nat → Nat) (sz : Nat) (σ : St_) (a0 : Nat) (hk_a0 : kd_ σ a0 = 3) {q : Int32 × St_} (hf : f_X3_reads fu σ a0 = some q) : Met l yX3_reads (Cond.code yX3_reads cX3_reads 1 (some .boolean) :: wU_) { frames := 162, cells := 0, slots := 0, locals := 8121 } (va_Pc [.ref (ad a0)] (Pr_ κ G cy ad σ sz)) (Qz_ G cy ad σ q.2 sz q.1) 0 0 (va_A (wl_ cy ad σ) sz) :=
  x_met (by decide) (fun p e R s m below meth c ls hR C hr hlk hin _ K h hl => w_X3_reads fu C K hr hlk ⟨hR.1, hR.2.1⟩ σ a0 Ex_.rf hk_a0 hf s.heap [] ls h hl) (Nat.le_of_ble_eq_true rfl)
