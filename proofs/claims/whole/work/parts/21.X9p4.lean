-- X9_atom1
theorem mi_X9_atom1 : Mi_ yX9_atom1 cX9_atom1 2 (some .int) 0 := ⟨co_yX9_atom1, in_RX9, by decide, by decide, by decide +kernel⟩
def f_X9_atom1_161 (fu : Nat) (σ : St_) (v1 : Int32) : Option (Int32 × St_) := some (v1, σ)
set_option maxHeartbeats 4000000 in
set_option maxRecDepth 100000 in
theorem w_X9_atom1_161 {p : Program} {l : Launch} {e : Env} {R : Room} {s : State} {m : MethodId} {args : Array Value} {below : List Frame} {meth : Method} {c : Code} {κ : Ka_} {G : va_G} {cy : Nat → ClassId} {ad : Nat → Nat} {sz : Nat} {σ0 : St_} (fu : Nat) (C : CallFix p m c cX9_atom1 2 s args wU_ RX9) (K : Kx_ κ G cy (va_A (wl_ cy ad σ0) sz) s) (hr : meth.sig.returnType = some .int) (hlk : meth.locks = false) (hR : 28 ≤ R.frames ∧ 619 ≤ R.locals) {q : Int32 × St_} : ∀ (σ : St_) (v1 : Int32), Ex_ σ0 σ → f_X9_atom1_161 fu σ v1 = some q → ∀ (H : Heap) (locs : List Loc) (ls : Array Slot), Ht_ G cy (va_A (wl_ cy ad σ0) sz) s ad σ H locs → lv_has ls 2 [(1, .int v1)] → W p l e R s m args below meth c H locs 0 0 (MQ below (Qi_ G cy ad σ0 q.2 sz q.1) args s 0 0 (va_A (wl_ cy ad σ0) sz)) (F0 m 161 ls []) := by
  intro σ v1 hE hf H locs ls h hl
  have hf : (some (v1, σ)) = some q := hf
  refine lv_iload_n C.1 C.2.1 dX9_atom1_161 rfl (lv_at hl 0 rfl) ?_
  exact x_ri C hr hlk h hE (pf_1 (Option.some.inj hf)) (pf_2 (Option.some.inj hf)) dX9_atom1_162
def f_X9_atom1_123 (fu : Nat) (σ : St_) (v0 : Nat) (v1 : Int32) : Option (Int32 × St_) := if (si_ σ v0 25) = 0 then if (si_ σ v0 21) = (1 : Int32) then (f_X9_name σ v0).bind fun q5 => if (si_ q5.2 v0 25) = 0 then (f_X9_next fu q5.2 v0).bind fun q7 => f_X9_atom1_161 fu q7 q5.1 else f_X9_atom1_161 fu q5.2 q5.1 else f_X9_atom1_161 fu (f_X9_fail σ v0) v1 else f_X9_atom1_161 fu (f_X9_fail σ v0) v1
set_option maxHeartbeats 4000000 in
set_option maxRecDepth 100000 in
theorem w_X9_atom1_123 {p : Program} {l : Launch} {e : Env} {R : Room} {s : State} {m : MethodId} {args : Array Value} {below : List Frame} {meth : Method} {c : Code} {κ : Ka_} {G : va_G} {cy : Nat → ClassId} {ad : Nat → Nat} {sz : Nat} {σ0 : St_} (fu : Nat) (C : CallFix p m c cX9_atom1 2 s args wU_ RX9) (K : Kx_ κ G cy (va_A (wl_ cy ad σ0) sz) s) (hr : meth.sig.returnType = some .int) (hlk : meth.locks = false) (hR : 28 ≤ R.frames ∧ 619 ≤ R.locals) {q : Int32 × St_} : ∀ (σ : St_) (v0 : Nat) (v1 : Int32), Ex_ σ0 σ → kd_ σ v0 = 9 → f_X9_atom1_123 fu σ v0 v1 = some q → ∀ (H : Heap) (locs : List Loc) (ls : Array Slot), Ht_ G cy (va_A (wl_ cy ad σ0) sz) s ad σ H locs → lv_has ls 2 [(0, .ref (ad v0)), (1, .int v1)] → W p l e R s m args below meth c H locs 0 0 (MQ below (Qi_ G cy ad σ0 q.2 sz q.1) args s 0 0 (va_A (wl_ cy ad σ0) sz)) (F0 m 123 ls []) := by
  intro σ v0 v1 hE hk_v0 hf H locs ls h hl
  have hf : (if (si_ σ v0 25) = 0 then if (si_ σ v0 21) = (1 : Int32) then (f_X9_name σ v0).bind fun q5 => if (si_ q5.2 v0 25) = 0 then (f_X9_next fu q5.2 v0).bind fun q7 => f_X9_atom1_161 fu q7 q5.1 else f_X9_atom1_161 fu q5.2 q5.1 else f_X9_atom1_161 fu (f_X9_fail σ v0) v1 else f_X9_atom1_161 fu (f_X9_fail σ v0) v1) = some q := hf
  refine lv_aload_n C.1 C.2.1 dX9_atom1_123 rfl (lv_at hl 0 rfl) ?_
  refine x_get (v := .int (si_ σ v0 25)) C K h cl_9 hk_v0 25 (by decide) fl_RX9_174 rfl dX9_atom1_124 ?_
  refine lv_if_ne (tgt := 157) C.1 C.2.1 dX9_atom1_127 (by decide) (fun c1 => ?_) (fun c1 => ?_)
  · have hf := if_f hf c1
    refine lv_aload_n C.1 C.2.1 dX9_atom1_157 rfl (lv_at hl 0 rfl) ?_
    refine x_av K h (x_V C K h [] (c_X9_fail l κ G cy ad H.size σ v0 hk_v0 rfl) mi_X9_fail rfl im_yX9_fail se_yX9_fail ml_RX9_187 cl_9 hk_v0 ⟨rfl, rfl, Nat.le_trans (Nat.le_of_ble_eq_true rfl) hR.1, Nat.le_trans (Nat.le_of_ble_eq_true rfl) hR.2⟩ hl (Nat.le_of_ble_eq_true rfl) dX9_atom1_158 ⟨Nat.zero_le _, Nat.zero_le _⟩ rfl) (fun H locs h hX => ?_)
    have hE := hE.trans hX
    have hk_v0 := hX.k hk_v0 (by decide)
    exact w_X9_atom1_161 fu C K hr hlk hR (f_X9_fail σ v0) v1 hE hf _ _ _ h (lv_sub hl [1] rfl)
  · have hf := if_t hf c1
    refine lv_aload_n C.1 C.2.1 dX9_atom1_130 rfl (lv_at hl 0 rfl) ?_
    refine x_get (v := .int (si_ σ v0 21)) C K h cl_9 hk_v0 21 (by decide) fl_RX9_159 rfl dX9_atom1_131 ?_
    refine lv_iconst (v := (1 : Int32)) C.1 C.2.1 dX9_atom1_134 (by decide) ?_
    refine lv_icmp_ne (tgt := 157) C.1 C.2.1 dX9_atom1_135 (by decide) (fun c3 => ?_) (fun c3 => ?_)
    · have hf := if_f hf c3
      refine lv_aload_n C.1 C.2.1 dX9_atom1_157 rfl (lv_at hl 0 rfl) ?_
      refine x_av K h (x_V C K h [] (c_X9_fail l κ G cy ad H.size σ v0 hk_v0 rfl) mi_X9_fail rfl im_yX9_fail se_yX9_fail ml_RX9_187 cl_9 hk_v0 ⟨rfl, rfl, Nat.le_trans (Nat.le_of_ble_eq_true rfl) hR.1, Nat.le_trans (Nat.le_of_ble_eq_true rfl) hR.2⟩ hl (Nat.le_of_ble_eq_true rfl) dX9_atom1_158 ⟨Nat.zero_le _, Nat.zero_le _⟩ rfl) (fun H locs h hX => ?_)
      have hE := hE.trans hX
      have hk_v0 := hX.k hk_v0 (by decide)
      exact w_X9_atom1_161 fu C K hr hlk hR (f_X9_fail σ v0) v1 hE hf _ _ _ h (lv_sub hl [1] rfl)
    · have hf := if_t hf c3
      refine lv_aload_n C.1 C.2.1 dX9_atom1_138 rfl (lv_at hl 0 rfl) ?_
      obtain ⟨q5, hq_q5, hf⟩ := ob_ hf
      refine x_ai K h (x_V C K h [] (c_X9_name l κ G cy ad H.size σ v0 hk_v0 hq_q5) mi_X9_name rfl im_yX9_name se_yX9_name ml_RX9_222 cl_9 hk_v0 ⟨rfl, rfl, Nat.le_trans (Nat.le_of_ble_eq_true rfl) hR.1, Nat.le_trans (Nat.le_of_ble_eq_true rfl) hR.2⟩ hl (Nat.le_of_ble_eq_true rfl) dX9_atom1_139 ⟨Nat.zero_le _, Nat.zero_le _⟩ rfl) (fun H locs h hX => ?_)
      have hE := hE.trans hX
      have hk_v0 := hX.k hk_v0 (by decide)
      refine lv_istore_n (i := 1) (lv' := [(1, .int q5.1), (0, .ref (ad v0))]) C.1 C.2.1 dX9_atom1_142 rfl hl (by decide) rfl (fun ls hl => ?_)
      refine lv_aload_n C.1 C.2.1 dX9_atom1_143 rfl (lv_at hl 1 rfl) ?_
      refine x_get (v := .int (si_ q5.2 v0 25)) C K h cl_9 hk_v0 25 (by decide) fl_RX9_174 rfl dX9_atom1_144 ?_
      refine lv_if_ne (tgt := 161) C.1 C.2.1 dX9_atom1_147 (by decide) (fun c6 => ?_) (fun c6 => ?_)
      · have hf := if_f hf c6
        exact w_X9_atom1_161 fu C K hr hlk hR q5.2 q5.1 hE hf _ _ _ h (lv_sub hl [0] rfl)
      · have hf := if_t hf c6
        refine lv_aload_n C.1 C.2.1 dX9_atom1_150 rfl (lv_at hl 1 rfl) ?_
        obtain ⟨q7, hq_q7, hf⟩ := ob_ hf
        refine x_av K h (x_V C K h [] (c_X9_next fu l κ G cy ad H.size q5.2 v0 hk_v0 hq_q7) mi_X9_next rfl im_yX9_next se_yX9_next ml_RX9_190 cl_9 hk_v0 ⟨rfl, rfl, Nat.le_trans (Nat.le_of_ble_eq_true rfl) hR.1, Nat.le_trans (Nat.le_of_ble_eq_true rfl) hR.2⟩ hl (Nat.le_of_ble_eq_true rfl) dX9_atom1_151 ⟨Nat.zero_le _, Nat.zero_le _⟩ rfl) (fun H locs h hX => ?_)
        have hE := hE.trans hX
        have hk_v0 := hX.k hk_v0 (by decide)
        refine lv_goto (tgt := 161) C.1 C.2.1 dX9_atom1_154 (by decide) ?_
        exact w_X9_atom1_161 fu C K hr hlk hR q7 q5.1 hE hf _ _ _ h (lv_sub hl [0] rfl)
def f_X9_atom1_71 (fu : Nat) (σ : St_) (v0 : Nat) (v1 : Int32) : Option (Int32 × St_) := if (si_ (ui_ σ v0 24 ((si_ σ v0 24) - (1 : Int32))) v0 25) = 0 then (f_X9_next fu (ui_ σ v0 24 ((si_ σ v0 24) - (1 : Int32))) v0).bind fun q2 => f_X9_atom1_161 fu q2 v1 else f_X9_atom1_161 fu (ui_ σ v0 24 ((si_ σ v0 24) - (1 : Int32))) v1
set_option maxHeartbeats 4000000 in
set_option maxRecDepth 100000 in
theorem w_X9_atom1_71 {p : Program} {l : Launch} {e : Env} {R : Room} {s : State} {m : MethodId} {args : Array Value} {below : List Frame} {meth : Method} {c : Code} {κ : Ka_} {G : va_G} {cy : Nat → ClassId} {ad : Nat → Nat} {sz : Nat} {σ0 : St_} (fu : Nat) (C : CallFix p m c cX9_atom1 2 s args wU_ RX9) (K : Kx_ κ G cy (va_A (wl_ cy ad σ0) sz) s) (hr : meth.sig.returnType = some .int) (hlk : meth.locks = false) (hR : 28 ≤ R.frames ∧ 619 ≤ R.locals) {q : Int32 × St_} : ∀ (σ : St_) (v0 : Nat) (v1 : Int32), Ex_ σ0 σ → kd_ σ v0 = 9 → f_X9_atom1_71 fu σ v0 v1 = some q → ∀ (H : Heap) (locs : List Loc) (ls : Array Slot), Ht_ G cy (va_A (wl_ cy ad σ0) sz) s ad σ H locs → lv_has ls 2 [(0, .ref (ad v0)), (1, .int v1)] → W p l e R s m args below meth c H locs 0 0 (MQ below (Qi_ G cy ad σ0 q.2 sz q.1) args s 0 0 (va_A (wl_ cy ad σ0) sz)) (F0 m 71 ls []) := by
  intro σ v0 v1 hE hk_v0 hf H locs ls h hl
  have hf : (if (si_ (ui_ σ v0 24 ((si_ σ v0 24) - (1 : Int32))) v0 25) = 0 then (f_X9_next fu (ui_ σ v0 24 ((si_ σ v0 24) - (1 : Int32))) v0).bind fun q2 => f_X9_atom1_161 fu q2 v1 else f_X9_atom1_161 fu (ui_ σ v0 24 ((si_ σ v0 24) - (1 : Int32))) v1) = some q := hf
  refine lv_aload_n C.1 C.2.1 dX9_atom1_71 rfl (lv_at hl 0 rfl) ?_
  refine lv_dup C.1 C.2.1 dX9_atom1_72 rfl ?_
  refine x_get (v := .int (si_ σ v0 24)) C K h cl_9 hk_v0 24 (by decide) fl_RX9_184 rfl dX9_atom1_73 ?_
  refine lv_iconst (v := (1 : Int32)) C.1 C.2.1 dX9_atom1_76 (by decide) ?_
  refine lv_isub C.1 C.2.1 dX9_atom1_77 ?_
  refine x_putI C K h cl_9 hk_v0 24 (by decide) fl_RX9_184 rfl rfl rfl (Nat.le_of_ble_eq_true rfl) (fun _ _ _ => rfl) dX9_atom1_78 (fun H locs h => ?_)
  have hE := hE.up (up_i σ v0 24 ((si_ σ v0 24) - (1 : Int32)))
  refine lv_aload_n C.1 C.2.1 dX9_atom1_81 rfl (lv_at hl 0 rfl) ?_
  refine x_get (v := .int (si_ (ui_ σ v0 24 ((si_ σ v0 24) - (1 : Int32))) v0 25)) C K h cl_9 hk_v0 25 (by decide) fl_RX9_174 rfl dX9_atom1_82 ?_
  refine lv_if_ne (tgt := 161) C.1 C.2.1 dX9_atom1_85 (by decide) (fun c1 => ?_) (fun c1 => ?_)
  · have hf := if_f hf c1
    exact w_X9_atom1_161 fu C K hr hlk hR (ui_ σ v0 24 ((si_ σ v0 24) - (1 : Int32))) v1 hE hf _ _ _ h (lv_sub hl [1] rfl)
  · have hf := if_t hf c1
    refine lv_aload_n C.1 C.2.1 dX9_atom1_88 rfl (lv_at hl 0 rfl) ?_
    obtain ⟨q2, hq_q2, hf⟩ := ob_ hf
    refine x_av K h (x_V C K h [] (c_X9_next fu l κ G cy ad H.size (ui_ σ v0 24 ((si_ σ v0 24) - (1 : Int32))) v0 hk_v0 hq_q2) mi_X9_next rfl im_yX9_next se_yX9_next ml_RX9_190 cl_9 hk_v0 ⟨rfl, rfl, Nat.le_trans (Nat.le_of_ble_eq_true rfl) hR.1, Nat.le_trans (Nat.le_of_ble_eq_true rfl) hR.2⟩ hl (Nat.le_of_ble_eq_true rfl) dX9_atom1_89 ⟨Nat.zero_le _, Nat.zero_le _⟩ rfl) (fun H locs h hX => ?_)
    have hE := hE.trans hX
    have hk_v0 := hX.k hk_v0 (by decide)
    refine lv_goto (tgt := 161) C.1 C.2.1 dX9_atom1_92 (by decide) ?_
    exact w_X9_atom1_161 fu C K hr hlk hR q2 v1 hE hf _ _ _ h (lv_sub hl [1] rfl)
def f_X9_atom1 (fu : Nat) (σ : St_) (a0 : Nat) : Option (Int32 × St_) := if (f_X9_isSign σ a0 (45 : Int32)) = 0 then if (f_X9_isSign σ a0 (40 : Int32)) = 0 then if (si_ σ a0 25) = 0 then if (si_ σ a0 21) = (2 : Int32) then (f_X9_next fu σ a0).bind fun q9 => f_X9_atom1_161 fu q9 ((sl_ σ a0 23).toInt32) else f_X9_atom1_123 fu σ a0 (0 : Int32) else f_X9_atom1_123 fu σ a0 (0 : Int32) else (f_X9_opens fu σ a0).bind fun q10 => if q10.1 = 0 then f_X9_atom1_161 fu q10.2 (0 : Int32) else (f_X9_either2 fu q10.2 a0).bind fun q13 => if (f_X9_isSign q13.2 a0 (41 : Int32)) = 0 then f_X9_atom1_71 fu (f_X9_fail q13.2 a0) a0 q13.1 else f_X9_atom1_71 fu q13.2 a0 q13.1 else (f_X9_opens fu σ a0).bind fun q18 => if q18.1 = 0 then f_X9_atom1_161 fu q18.2 (0 : Int32) else (f_X9_atom2 fu q18.2 a0).bind fun q21 => f_X9_atom1_161 fu (ui_ q21.2 a0 24 ((si_ q21.2 a0 24) - (1 : Int32))) (-q21.1)
set_option maxHeartbeats 4000000 in
set_option maxRecDepth 100000 in
theorem w_X9_atom1 {p : Program} {l : Launch} {e : Env} {R : Room} {s : State} {m : MethodId} {args : Array Value} {below : List Frame} {meth : Method} {c : Code} {κ : Ka_} {G : va_G} {cy : Nat → ClassId} {ad : Nat → Nat} {sz : Nat} {σ0 : St_} (fu : Nat) (C : CallFix p m c cX9_atom1 2 s args wU_ RX9) (K : Kx_ κ G cy (va_A (wl_ cy ad σ0) sz) s) (hr : meth.sig.returnType = some .int) (hlk : meth.locks = false) (hR : 28 ≤ R.frames ∧ 619 ≤ R.locals) {q : Int32 × St_} : ∀ (σ : St_) (a0 : Nat), Ex_ σ0 σ → kd_ σ a0 = 9 → f_X9_atom1 fu σ a0 = some q → ∀ (H : Heap) (locs : List Loc) (ls : Array Slot), Ht_ G cy (va_A (wl_ cy ad σ0) sz) s ad σ H locs → lv_has ls 2 [(0, .ref (ad a0))] → W p l e R s m args below meth c H locs 0 0 (MQ below (Qi_ G cy ad σ0 q.2 sz q.1) args s 0 0 (va_A (wl_ cy ad σ0) sz)) (F0 m 0 ls []) := by
  intro σ a0 hE hk_a0 hf H locs ls h hl
  have hf : (if (f_X9_isSign σ a0 (45 : Int32)) = 0 then if (f_X9_isSign σ a0 (40 : Int32)) = 0 then if (si_ σ a0 25) = 0 then if (si_ σ a0 21) = (2 : Int32) then (f_X9_next fu σ a0).bind fun q9 => f_X9_atom1_161 fu q9 ((sl_ σ a0 23).toInt32) else f_X9_atom1_123 fu σ a0 (0 : Int32) else f_X9_atom1_123 fu σ a0 (0 : Int32) else (f_X9_opens fu σ a0).bind fun q10 => if q10.1 = 0 then f_X9_atom1_161 fu q10.2 (0 : Int32) else (f_X9_either2 fu q10.2 a0).bind fun q13 => if (f_X9_isSign q13.2 a0 (41 : Int32)) = 0 then f_X9_atom1_71 fu (f_X9_fail q13.2 a0) a0 q13.1 else f_X9_atom1_71 fu q13.2 a0 q13.1 else (f_X9_opens fu σ a0).bind fun q18 => if q18.1 = 0 then f_X9_atom1_161 fu q18.2 (0 : Int32) else (f_X9_atom2 fu q18.2 a0).bind fun q21 => f_X9_atom1_161 fu (ui_ q21.2 a0 24 ((si_ q21.2 a0 24) - (1 : Int32))) (-q21.1)) = some q := hf
  refine lv_iconst (v := (0 : Int32)) C.1 C.2.1 dX9_atom1_0 (by decide) ?_
  refine lv_istore_n (i := 1) (lv' := [(1, .int (0 : Int32)), (0, .ref (ad a0))]) C.1 C.2.1 dX9_atom1_1 rfl hl (by decide) rfl (fun ls hl => ?_)
  refine lv_aload_n C.1 C.2.1 dX9_atom1_2 rfl (lv_at hl 1 rfl) ?_
  refine lv_bipush (v := (45 : Int32)) C.1 C.2.1 dX9_atom1_3 (by decide) ?_
  refine x_az K h (x_V C K h [.int (45 : Int32)] (c_X9_isSign l κ G cy ad H.size σ a0 (45 : Int32) hk_a0 rfl) mi_X9_isSign rfl im_yX9_isSign se_yX9_isSign ml_RX9_215 cl_9 hk_a0 ⟨rfl, rfl, Nat.le_trans (Nat.le_of_ble_eq_true rfl) hR.1, Nat.le_trans (Nat.le_of_ble_eq_true rfl) hR.2⟩ hl (Nat.le_of_ble_eq_true rfl) dX9_atom1_5 ⟨Nat.zero_le _, Nat.zero_le _⟩ rfl) (fun H locs h hX hz2 => ?_)
  refine lv_if_eq (tgt := 37) C.1 C.2.1 dX9_atom1_8 (by decide) (fun c3 => ?_) (fun c3 => ?_)
  · have hf := if_t hf c3
    refine lv_aload_n C.1 C.2.1 dX9_atom1_37 rfl (lv_at hl 1 rfl) ?_
    refine lv_bipush (v := (40 : Int32)) C.1 C.2.1 dX9_atom1_38 (by decide) ?_
    refine x_az K h (x_V C K h [.int (40 : Int32)] (c_X9_isSign l κ G cy ad H.size σ a0 (40 : Int32) hk_a0 rfl) mi_X9_isSign rfl im_yX9_isSign se_yX9_isSign ml_RX9_215 cl_9 hk_a0 ⟨rfl, rfl, Nat.le_trans (Nat.le_of_ble_eq_true rfl) hR.1, Nat.le_trans (Nat.le_of_ble_eq_true rfl) hR.2⟩ hl (Nat.le_of_ble_eq_true rfl) dX9_atom1_40 ⟨Nat.zero_le _, Nat.zero_le _⟩ rfl) (fun H locs h hX hz5 => ?_)
    refine lv_if_eq (tgt := 95) C.1 C.2.1 dX9_atom1_43 (by decide) (fun c6 => ?_) (fun c6 => ?_)
    · have hf := if_t hf c6
      refine lv_aload_n C.1 C.2.1 dX9_atom1_95 rfl (lv_at hl 1 rfl) ?_
      refine x_get (v := .int (si_ σ a0 25)) C K h cl_9 hk_a0 25 (by decide) fl_RX9_174 rfl dX9_atom1_96 ?_
      refine lv_if_ne (tgt := 123) C.1 C.2.1 dX9_atom1_99 (by decide) (fun c7 => ?_) (fun c7 => ?_)
      · have hf := if_f hf c7
        exact w_X9_atom1_123 fu C K hr hlk hR σ a0 (0 : Int32) hE hk_a0 hf _ _ _ h (lv_sub hl [1, 0] rfl)
      · have hf := if_t hf c7
        refine lv_aload_n C.1 C.2.1 dX9_atom1_102 rfl (lv_at hl 1 rfl) ?_
        refine x_get (v := .int (si_ σ a0 21)) C K h cl_9 hk_a0 21 (by decide) fl_RX9_159 rfl dX9_atom1_103 ?_
        refine lv_iconst (v := (2 : Int32)) C.1 C.2.1 dX9_atom1_106 (by decide) ?_
        refine lv_icmp_ne (tgt := 123) C.1 C.2.1 dX9_atom1_107 (by decide) (fun c8 => ?_) (fun c8 => ?_)
        · have hf := if_f hf c8
          exact w_X9_atom1_123 fu C K hr hlk hR σ a0 (0 : Int32) hE hk_a0 hf _ _ _ h (lv_sub hl [1, 0] rfl)
        · have hf := if_t hf c8
          refine lv_aload_n C.1 C.2.1 dX9_atom1_110 rfl (lv_at hl 1 rfl) ?_
          refine x_get (v := .long (sl_ σ a0 23)) C K h cl_9 hk_a0 23 (by decide) fl_RX9_170 rfl dX9_atom1_111 ?_
          refine lv_l2i C.1 C.2.1 dX9_atom1_114 rfl ?_
          refine lv_istore_n (i := 1) (lv' := [(1, .int ((sl_ σ a0 23).toInt32)), (0, .ref (ad a0))]) C.1 C.2.1 dX9_atom1_115 rfl hl (by decide) rfl (fun ls hl => ?_)
          refine lv_aload_n C.1 C.2.1 dX9_atom1_116 rfl (lv_at hl 1 rfl) ?_
          obtain ⟨q9, hq_q9, hf⟩ := ob_ hf
          refine x_av K h (x_V C K h [] (c_X9_next fu l κ G cy ad H.size σ a0 hk_a0 hq_q9) mi_X9_next rfl im_yX9_next se_yX9_next ml_RX9_190 cl_9 hk_a0 ⟨rfl, rfl, Nat.le_trans (Nat.le_of_ble_eq_true rfl) hR.1, Nat.le_trans (Nat.le_of_ble_eq_true rfl) hR.2⟩ hl (Nat.le_of_ble_eq_true rfl) dX9_atom1_117 ⟨Nat.zero_le _, Nat.zero_le _⟩ rfl) (fun H locs h hX => ?_)
          have hE := hE.trans hX
          have hk_a0 := hX.k hk_a0 (by decide)
          refine lv_goto (tgt := 161) C.1 C.2.1 dX9_atom1_120 (by decide) ?_
          exact w_X9_atom1_161 fu C K hr hlk hR q9 ((sl_ σ a0 23).toInt32) hE hf _ _ _ h (lv_sub hl [0] rfl)
    · have hf := if_f hf c6
      refine lv_aload_n C.1 C.2.1 dX9_atom1_46 rfl (lv_at hl 1 rfl) ?_
      obtain ⟨q10, hq_q10, hf⟩ := ob_ hf
      refine x_az K h (x_V C K h [] (c_X9_opens fu l κ G cy ad H.size σ a0 hk_a0 hq_q10) mi_X9_opens rfl im_yX9_opens se_yX9_opens ml_RX9_218 cl_9 hk_a0 ⟨rfl, rfl, Nat.le_trans (Nat.le_of_ble_eq_true rfl) hR.1, Nat.le_trans (Nat.le_of_ble_eq_true rfl) hR.2⟩ hl (Nat.le_of_ble_eq_true rfl) dX9_atom1_47 ⟨Nat.zero_le _, Nat.zero_le _⟩ rfl) (fun H locs h hX hz11 => ?_)
      have hE := hE.trans hX
      have hk_a0 := hX.k hk_a0 (by decide)
      refine lv_if_eq (tgt := 161) C.1 C.2.1 dX9_atom1_50 (by decide) (fun c12 => ?_) (fun c12 => ?_)
      · have hf := if_t hf c12
        exact w_X9_atom1_161 fu C K hr hlk hR q10.2 (0 : Int32) hE hf _ _ _ h (lv_sub hl [0] rfl)
      · have hf := if_f hf c12
        refine lv_aload_n C.1 C.2.1 dX9_atom1_53 rfl (lv_at hl 1 rfl) ?_
        obtain ⟨q13, hq_q13, hf⟩ := ob_ hf
        refine x_ai K h (x_V C K h [] (c_X9_either2 fu l κ G cy ad H.size q10.2 a0 hk_a0 hq_q13) mi_X9_either2 rfl im_yX9_either2 se_yX9_either2 ml_RX9_299 cl_9 hk_a0 ⟨rfl, rfl, Nat.le_trans (Nat.le_of_ble_eq_true rfl) hR.1, Nat.le_trans (Nat.le_of_ble_eq_true rfl) hR.2⟩ hl (Nat.le_of_ble_eq_true rfl) dX9_atom1_54 ⟨Nat.zero_le _, Nat.zero_le _⟩ rfl) (fun H locs h hX => ?_)
        have hE := hE.trans hX
        have hk_a0 := hX.k hk_a0 (by decide)
        refine lv_istore_n (i := 1) (lv' := [(1, .int q13.1), (0, .ref (ad a0))]) C.1 C.2.1 dX9_atom1_57 rfl hl (by decide) rfl (fun ls hl => ?_)
        refine lv_aload_n C.1 C.2.1 dX9_atom1_58 rfl (lv_at hl 1 rfl) ?_
        refine lv_bipush (v := (41 : Int32)) C.1 C.2.1 dX9_atom1_59 (by decide) ?_
        refine x_az K h (x_V C K h [.int (41 : Int32)] (c_X9_isSign l κ G cy ad H.size q13.2 a0 (41 : Int32) hk_a0 rfl) mi_X9_isSign rfl im_yX9_isSign se_yX9_isSign ml_RX9_215 cl_9 hk_a0 ⟨rfl, rfl, Nat.le_trans (Nat.le_of_ble_eq_true rfl) hR.1, Nat.le_trans (Nat.le_of_ble_eq_true rfl) hR.2⟩ hl (Nat.le_of_ble_eq_true rfl) dX9_atom1_61 ⟨Nat.zero_le _, Nat.zero_le _⟩ rfl) (fun H locs h hX hz15 => ?_)
        refine lv_if_ne (tgt := 71) C.1 C.2.1 dX9_atom1_64 (by decide) (fun c16 => ?_) (fun c16 => ?_)
        · have hf := if_f hf c16
          exact w_X9_atom1_71 fu C K hr hlk hR q13.2 a0 q13.1 hE hk_a0 hf _ _ _ h (lv_sub hl [1, 0] rfl)
        · have hf := if_t hf c16
          refine lv_aload_n C.1 C.2.1 dX9_atom1_67 rfl (lv_at hl 1 rfl) ?_
          refine x_av K h (x_V C K h [] (c_X9_fail l κ G cy ad H.size q13.2 a0 hk_a0 rfl) mi_X9_fail rfl im_yX9_fail se_yX9_fail ml_RX9_187 cl_9 hk_a0 ⟨rfl, rfl, Nat.le_trans (Nat.le_of_ble_eq_true rfl) hR.1, Nat.le_trans (Nat.le_of_ble_eq_true rfl) hR.2⟩ hl (Nat.le_of_ble_eq_true rfl) dX9_atom1_68 ⟨Nat.zero_le _, Nat.zero_le _⟩ rfl) (fun H locs h hX => ?_)
          have hE := hE.trans hX
          have hk_a0 := hX.k hk_a0 (by decide)
          exact w_X9_atom1_71 fu C K hr hlk hR (f_X9_fail q13.2 a0) a0 q13.1 hE hk_a0 hf _ _ _ h (lv_sub hl [1, 0] rfl)
  · have hf := if_f hf c3
    refine lv_aload_n C.1 C.2.1 dX9_atom1_11 rfl (lv_at hl 1 rfl) ?_
    obtain ⟨q18, hq_q18, hf⟩ := ob_ hf
    refine x_az K h (x_V C K h [] (c_X9_opens fu l κ G cy ad H.size σ a0 hk_a0 hq_q18) mi_X9_opens rfl im_yX9_opens se_yX9_opens ml_RX9_218 cl_9 hk_a0 ⟨rfl, rfl, Nat.le_trans (Nat.le_of_ble_eq_true rfl) hR.1, Nat.le_trans (Nat.le_of_ble_eq_true rfl) hR.2⟩ hl (Nat.le_of_ble_eq_true rfl) dX9_atom1_12 ⟨Nat.zero_le _, Nat.zero_le _⟩ rfl) (fun H locs h hX hz19 => ?_)
    have hE := hE.trans hX
    have hk_a0 := hX.k hk_a0 (by decide)
    refine lv_if_eq (tgt := 161) C.1 C.2.1 dX9_atom1_15 (by decide) (fun c20 => ?_) (fun c20 => ?_)
    · have hf := if_t hf c20
      exact w_X9_atom1_161 fu C K hr hlk hR q18.2 (0 : Int32) hE hf _ _ _ h (lv_sub hl [0] rfl)
    · have hf := if_f hf c20
      refine lv_aload_n C.1 C.2.1 dX9_atom1_18 rfl (lv_at hl 1 rfl) ?_
      obtain ⟨q21, hq_q21, hf⟩ := ob_ hf
      refine x_ai K h (x_V C K h [] (c_X9_atom2 fu l κ G cy ad H.size q18.2 a0 hk_a0 hq_q21) mi_X9_atom2 rfl im_yX9_atom2 se_yX9_atom2 ml_RX9_284 cl_9 hk_a0 ⟨rfl, rfl, Nat.le_trans (Nat.le_of_ble_eq_true rfl) hR.1, Nat.le_trans (Nat.le_of_ble_eq_true rfl) hR.2⟩ hl (Nat.le_of_ble_eq_true rfl) dX9_atom1_19 ⟨Nat.zero_le _, Nat.zero_le _⟩ rfl) (fun H locs h hX => ?_)
      have hE := hE.trans hX
      have hk_a0 := hX.k hk_a0 (by decide)
      refine lv_ineg C.1 C.2.1 dX9_atom1_22 ?_
      refine lv_istore_n (i := 1) (lv' := [(1, .int (-q21.1)), (0, .ref (ad a0))]) C.1 C.2.1 dX9_atom1_23 rfl hl (by decide) rfl (fun ls hl => ?_)
      refine lv_aload_n C.1 C.2.1 dX9_atom1_24 rfl (lv_at hl 1 rfl) ?_
      refine lv_dup C.1 C.2.1 dX9_atom1_25 rfl ?_
      refine x_get (v := .int (si_ q21.2 a0 24)) C K h cl_9 hk_a0 24 (by decide) fl_RX9_184 rfl dX9_atom1_26 ?_
      refine lv_iconst (v := (1 : Int32)) C.1 C.2.1 dX9_atom1_29 (by decide) ?_
      refine lv_isub C.1 C.2.1 dX9_atom1_30 ?_
      refine x_putI C K h cl_9 hk_a0 24 (by decide) fl_RX9_184 rfl rfl rfl (Nat.le_of_ble_eq_true rfl) (fun _ _ _ => rfl) dX9_atom1_31 (fun H locs h => ?_)
      have hE := hE.up (up_i q21.2 a0 24 ((si_ q21.2 a0 24) - (1 : Int32)))
      refine lv_goto (tgt := 161) C.1 C.2.1 dX9_atom1_34 (by decide) ?_
      exact w_X9_atom1_161 fu C K hr hlk hR (ui_ q21.2 a0 24 ((si_ q21.2 a0 24) - (1 : Int32))) (-q21.1) hE hf _ _ _ h (lv_sub hl [0] rfl)
theorem c_X9_atom1 (fu : Nat) (l : Launch) (κ : Ka_) (G : va_G) (cy : Nat → ClassId) (ad : Nat → Nat) (sz : Nat) (σ : St_) (a0 : Nat) (hk_a0 : kd_ σ a0 = 9) {q : Int32 × St_} (hf : f_X9_atom1 fu σ a0 = some q) : Met l yX9_atom1 (Cond.code yX9_atom1 cX9_atom1 2 (some .int) :: wU_) { frames := 28, cells := 0, slots := 0, locals := 619 } (va_Pc [.ref (ad a0)] (Pr_ κ G cy ad σ sz)) (Qi_ G cy ad σ q.2 sz q.1) 0 0 (va_A (wl_ cy ad σ) sz) :=
  x_met (by decide) (fun p e R s m below meth c ls hR C hr hlk hin _ K h hl => w_X9_atom1 fu C K hr hlk ⟨hR.1, hR.2.1⟩ σ a0 Ex_.rf hk_a0 hf s.heap [] ls h hl) (Nat.le_of_ble_eq_true rfl)
-- X9_term1
theorem mi_X9_term1 : Mi_ yX9_term1 cX9_term1 2 (some .int) 0 := ⟨co_yX9_term1, in_RX9, by decide, by decide, by decide +kernel⟩
def f_X9_term1_5 (fu : Nat) : Nat → St_ → Nat → Int32 → Option (Int32 × St_)
  | 0 => fun _ _ _ => none
  | n + 1 => fun σ  v0  v1 => if (f_X9_isSign σ v0 (42 : Int32)) = 0 then some (v1, σ) else (f_X9_next fu σ v0).bind fun q4 => (f_X9_atom1 fu q4 v0).bind fun q5 => (f_X9_term1_5 fu n) q5.2 v0 (v1 * q5.1)
set_option maxHeartbeats 4000000 in
set_option maxRecDepth 100000 in
theorem w_X9_term1_5 {p : Program} {l : Launch} {e : Env} {R : Room} {s : State} {m : MethodId} {args : Array Value} {below : List Frame} {meth : Method} {c : Code} {κ : Ka_} {G : va_G} {cy : Nat → ClassId} {ad : Nat → Nat} {sz : Nat} {σ0 : St_} (fu : Nat) (C : CallFix p m c cX9_term1 2 s args wU_ RX9) (K : Kx_ κ G cy (va_A (wl_ cy ad σ0) sz) s) (hr : meth.sig.returnType = some .int) (hlk : meth.locks = false) (hR : 29 ≤ R.frames ∧ 640 ≤ R.locals) {q : Int32 × St_} : ∀ n : Nat, ∀ (σ : St_) (v0 : Nat) (v1 : Int32), Ex_ σ0 σ → kd_ σ v0 = 9 → f_X9_term1_5 fu n σ v0 v1 = some q → ∀ (H : Heap) (locs : List Loc) (ls : Array Slot), Ht_ G cy (va_A (wl_ cy ad σ0) sz) s ad σ H locs → lv_has ls 2 [(0, .ref (ad v0)), (1, .int v1)] → W p l e R s m args below meth c H locs 0 0 (MQ below (Qi_ G cy ad σ0 q.2 sz q.1) args s 0 0 (va_A (wl_ cy ad σ0) sz)) (F0 m 5 ls []) := by
  intro n
  induction n with
  | zero =>
    intro σ v0 v1 hE hk_v0 hf H locs ls h hl
    cases hf
  | succ n ih =>
    intro σ v0 v1 hE hk_v0 hf H locs ls h hl
    have hf : (if (f_X9_isSign σ v0 (42 : Int32)) = 0 then some (v1, σ) else (f_X9_next fu σ v0).bind fun q4 => (f_X9_atom1 fu q4 v0).bind fun q5 => (f_X9_term1_5 fu n) q5.2 v0 (v1 * q5.1)) = some q := hf
    refine lv_aload_n C.1 C.2.1 dX9_term1_5 rfl (lv_at hl 0 rfl) ?_
    refine lv_bipush (v := (42 : Int32)) C.1 C.2.1 dX9_term1_6 (by decide) ?_
    refine x_az K h (x_V C K h [.int (42 : Int32)] (c_X9_isSign l κ G cy ad H.size σ v0 (42 : Int32) hk_v0 rfl) mi_X9_isSign rfl im_yX9_isSign se_yX9_isSign ml_RX9_215 cl_9 hk_v0 ⟨rfl, rfl, Nat.le_trans (Nat.le_of_ble_eq_true rfl) hR.1, Nat.le_trans (Nat.le_of_ble_eq_true rfl) hR.2⟩ hl (Nat.le_of_ble_eq_true rfl) dX9_term1_8 ⟨Nat.zero_le _, Nat.zero_le _⟩ rfl) (fun H locs h hX hz2 => ?_)
    refine lv_if_eq (tgt := 28) C.1 C.2.1 dX9_term1_11 (by decide) (fun c3 => ?_) (fun c3 => ?_)
    · have hf := if_t hf c3
      refine lv_iload_n C.1 C.2.1 dX9_term1_28 rfl (lv_at hl 1 rfl) ?_
      exact x_ri C hr hlk h hE (pf_1 (Option.some.inj hf)) (pf_2 (Option.some.inj hf)) dX9_term1_29
    · have hf := if_f hf c3
      refine lv_aload_n C.1 C.2.1 dX9_term1_14 rfl (lv_at hl 0 rfl) ?_
      obtain ⟨q4, hq_q4, hf⟩ := ob_ hf
      refine x_av K h (x_V C K h [] (c_X9_next fu l κ G cy ad H.size σ v0 hk_v0 hq_q4) mi_X9_next rfl im_yX9_next se_yX9_next ml_RX9_190 cl_9 hk_v0 ⟨rfl, rfl, Nat.le_trans (Nat.le_of_ble_eq_true rfl) hR.1, Nat.le_trans (Nat.le_of_ble_eq_true rfl) hR.2⟩ hl (Nat.le_of_ble_eq_true rfl) dX9_term1_15 ⟨Nat.zero_le _, Nat.zero_le _⟩ rfl) (fun H locs h hX => ?_)
      have hE := hE.trans hX
      have hk_v0 := hX.k hk_v0 (by decide)
      refine lv_iload_n C.1 C.2.1 dX9_term1_18 rfl (lv_at hl 1 rfl) ?_
      refine lv_aload_n C.1 C.2.1 dX9_term1_19 rfl (lv_at hl 0 rfl) ?_
      obtain ⟨q5, hq_q5, hf⟩ := ob_ hf
      refine x_ai K h (x_V C K h [] (c_X9_atom1 fu l κ G cy ad H.size q4 v0 hk_v0 hq_q5) mi_X9_atom1 rfl im_yX9_atom1 se_yX9_atom1 ml_RX9_302 cl_9 hk_v0 ⟨rfl, rfl, Nat.le_trans (Nat.le_of_ble_eq_true rfl) hR.1, Nat.le_trans (Nat.le_of_ble_eq_true rfl) hR.2⟩ hl (Nat.le_of_ble_eq_true rfl) dX9_term1_20 ⟨Nat.zero_le _, Nat.zero_le _⟩ rfl) (fun H locs h hX => ?_)
      have hE := hE.trans hX
      have hk_v0 := hX.k hk_v0 (by decide)
      refine lv_imul C.1 C.2.1 dX9_term1_23 ?_
      refine lv_istore_n (i := 1) (lv' := [(1, .int (v1 * q5.1)), (0, .ref (ad v0))]) C.1 C.2.1 dX9_term1_24 rfl hl (by decide) rfl (fun ls hl => ?_)
      refine lv_goto (tgt := 5) C.1 C.2.1 dX9_term1_25 (by decide) ?_
      exact ih q5.2 v0 (v1 * q5.1) hE hk_v0 hf _ _ _ h (lv_sub hl [1, 0] rfl)
def f_X9_term1 (fu : Nat) (σ : St_) (a0 : Nat) : Option (Int32 × St_) := (f_X9_atom1 fu σ a0).bind fun q1 => f_X9_term1_5 fu fu q1.2 a0 q1.1
set_option maxHeartbeats 4000000 in
set_option maxRecDepth 100000 in
theorem w_X9_term1 {p : Program} {l : Launch} {e : Env} {R : Room} {s : State} {m : MethodId} {args : Array Value} {below : List Frame} {meth : Method} {c : Code} {κ : Ka_} {G : va_G} {cy : Nat → ClassId} {ad : Nat → Nat} {sz : Nat} {σ0 : St_} (fu : Nat) (C : CallFix p m c cX9_term1 2 s args wU_ RX9) (K : Kx_ κ G cy (va_A (wl_ cy ad σ0) sz) s) (hr : meth.sig.returnType = some .int) (hlk : meth.locks = false) (hR : 29 ≤ R.frames ∧ 640 ≤ R.locals) {q : Int32 × St_} : ∀ (σ : St_) (a0 : Nat), Ex_ σ0 σ → kd_ σ a0 = 9 → f_X9_term1 fu σ a0 = some q → ∀ (H : Heap) (locs : List Loc) (ls : Array Slot), Ht_ G cy (va_A (wl_ cy ad σ0) sz) s ad σ H locs → lv_has ls 2 [(0, .ref (ad a0))] → W p l e R s m args below meth c H locs 0 0 (MQ below (Qi_ G cy ad σ0 q.2 sz q.1) args s 0 0 (va_A (wl_ cy ad σ0) sz)) (F0 m 0 ls []) := by
  intro σ a0 hE hk_a0 hf H locs ls h hl
  have hf : ((f_X9_atom1 fu σ a0).bind fun q1 => f_X9_term1_5 fu fu q1.2 a0 q1.1) = some q := hf
  refine lv_aload_n C.1 C.2.1 dX9_term1_0 rfl (lv_at hl 0 rfl) ?_
  obtain ⟨q1, hq_q1, hf⟩ := ob_ hf
  refine x_ai K h (x_V C K h [] (c_X9_atom1 fu l κ G cy ad H.size σ a0 hk_a0 hq_q1) mi_X9_atom1 rfl im_yX9_atom1 se_yX9_atom1 ml_RX9_302 cl_9 hk_a0 ⟨rfl, rfl, Nat.le_trans (Nat.le_of_ble_eq_true rfl) hR.1, Nat.le_trans (Nat.le_of_ble_eq_true rfl) hR.2⟩ hl (Nat.le_of_ble_eq_true rfl) dX9_term1_1 ⟨Nat.zero_le _, Nat.zero_le _⟩ rfl) (fun H locs h hX => ?_)
  have hE := hE.trans hX
  have hk_a0 := hX.k hk_a0 (by decide)
  refine lv_istore_n (i := 1) (lv' := [(1, .int q1.1), (0, .ref (ad a0))]) C.1 C.2.1 dX9_term1_4 rfl hl (by decide) rfl (fun ls hl => ?_)
  exact w_X9_term1_5 fu C K hr hlk hR fu q1.2 a0 q1.1 hE hk_a0 hf _ _ _ h (lv_sub hl [1, 0] rfl)
theorem c_X9_term1 (fu : Nat) (l : Launch) (κ : Ka_) (G : va_G) (cy : Nat → ClassId) (ad : Nat → Nat) (sz : Nat) (σ : St_) (a0 : Nat) (hk_a0 : kd_ σ a0 = 9) {q : Int32 × St_} (hf : f_X9_term1 fu σ a0 = some q) : Met l yX9_term1 (Cond.code yX9_term1 cX9_term1 2 (some .int) :: wU_) { frames := 29, cells := 0, slots := 0, locals := 640 } (va_Pc [.ref (ad a0)] (Pr_ κ G cy ad σ sz)) (Qi_ G cy ad σ q.2 sz q.1) 0 0 (va_A (wl_ cy ad σ) sz) :=
  x_met (by decide) (fun p e R s m below meth c ls hR C hr hlk hin _ K h hl => w_X9_term1 fu C K hr hlk ⟨hR.1, hR.2.1⟩ σ a0 Ex_.rf hk_a0 hf s.heap [] ls h hl) (Nat.le_of_ble_eq_true rfl)
-- X9_added1
theorem mi_X9_added1 : Mi_ yX9_added1 cX9_added1 4 (some .int) 0 := ⟨co_yX9_added1, in_RX9, by decide, by decide, by decide +kernel⟩
def f_X9_added1_39 (fu : Nat) (k5 : St_ → Nat → Int32 → Option (Int32 × St_)) (σ : St_) (v0 : Nat) (v1 : Int32) (s0 : Int32) : Option (Int32 × St_) := (f_X9_next fu σ v0).bind fun q1 => (f_X9_term1 fu q1 v0).bind fun q2 => if s0 = 0 then k5 q2.2 v0 (v1 - q2.1) else k5 q2.2 v0 (v1 + q2.1)
set_option maxHeartbeats 4000000 in
set_option maxRecDepth 100000 in
theorem w_X9_added1_39 {p : Program} {l : Launch} {e : Env} {R : Room} {s : State} {m : MethodId} {args : Array Value} {below : List Frame} {meth : Method} {c : Code} {κ : Ka_} {G : va_G} {cy : Nat → ClassId} {ad : Nat → Nat} {sz : Nat} {σ0 : St_} (fu : Nat) (C : CallFix p m c cX9_added1 4 s args wU_ RX9) (K : Kx_ κ G cy (va_A (wl_ cy ad σ0) sz) s) (hr : meth.sig.returnType = some .int) (hlk : meth.locks = false) (hR : 30 ≤ R.frames ∧ 661 ≤ R.locals) {q : Int32 × St_} (k5 : St_ → Nat → Int32 → Option (Int32 × St_)) (hk5 : ∀ (σ : St_) (v0 : Nat) (v1 : Int32), Ex_ σ0 σ → kd_ σ v0 = 9 → k5 σ v0 v1 = some q → ∀ (H : Heap) (locs : List Loc) (ls : Array Slot), Ht_ G cy (va_A (wl_ cy ad σ0) sz) s ad σ H locs → lv_has ls 4 [(0, .ref (ad v0)), (1, .int v1)] → W p l e R s m args below meth c H locs 0 0 (MQ below (Qi_ G cy ad σ0 q.2 sz q.1) args s 0 0 (va_A (wl_ cy ad σ0) sz)) (F0 m 5 ls [])) : ∀ (σ : St_) (v0 : Nat) (v1 : Int32) (s0 : Int32), Ex_ σ0 σ → kd_ σ v0 = 9 → f_X9_added1_39 fu k5 σ v0 v1 s0 = some q → ∀ (H : Heap) (locs : List Loc) (ls : Array Slot), Ht_ G cy (va_A (wl_ cy ad σ0) sz) s ad σ H locs → lv_has ls 4 [(0, .ref (ad v0)), (1, .int v1)] → W p l e R s m args below meth c H locs 0 0 (MQ below (Qi_ G cy ad σ0 q.2 sz q.1) args s 0 0 (va_A (wl_ cy ad σ0) sz)) (F0 m 39 ls [.int s0]) := by
  intro σ v0 v1 s0 hE hk_v0 hf H locs ls h hl
  have hf : ((f_X9_next fu σ v0).bind fun q1 => (f_X9_term1 fu q1 v0).bind fun q2 => if s0 = 0 then k5 q2.2 v0 (v1 - q2.1) else k5 q2.2 v0 (v1 + q2.1)) = some q := hf
  refine lv_istore_n (i := 2) (lv' := [(2, .int s0), (0, .ref (ad v0)), (1, .int v1)]) C.1 C.2.1 dX9_added1_39 rfl hl (by decide) rfl (fun ls hl => ?_)
  refine lv_aload_n C.1 C.2.1 dX9_added1_40 rfl (lv_at hl 1 rfl) ?_
  obtain ⟨q1, hq_q1, hf⟩ := ob_ hf
  refine x_av K h (x_V C K h [] (c_X9_next fu l κ G cy ad H.size σ v0 hk_v0 hq_q1) mi_X9_next rfl im_yX9_next se_yX9_next ml_RX9_190 cl_9 hk_v0 ⟨rfl, rfl, Nat.le_trans (Nat.le_of_ble_eq_true rfl) hR.1, Nat.le_trans (Nat.le_of_ble_eq_true rfl) hR.2⟩ hl (Nat.le_of_ble_eq_true rfl) dX9_added1_41 ⟨Nat.zero_le _, Nat.zero_le _⟩ rfl) (fun H locs h hX => ?_)
  have hE := hE.trans hX
  have hk_v0 := hX.k hk_v0 (by decide)
  refine lv_aload_n C.1 C.2.1 dX9_added1_44 rfl (lv_at hl 1 rfl) ?_
  obtain ⟨q2, hq_q2, hf⟩ := ob_ hf
  refine x_ai K h (x_V C K h [] (c_X9_term1 fu l κ G cy ad H.size q1 v0 hk_v0 hq_q2) mi_X9_term1 rfl im_yX9_term1 se_yX9_term1 ml_RX9_305 cl_9 hk_v0 ⟨rfl, rfl, Nat.le_trans (Nat.le_of_ble_eq_true rfl) hR.1, Nat.le_trans (Nat.le_of_ble_eq_true rfl) hR.2⟩ hl (Nat.le_of_ble_eq_true rfl) dX9_added1_45 ⟨Nat.zero_le _, Nat.zero_le _⟩ rfl) (fun H locs h hX => ?_)
  have hE := hE.trans hX
  have hk_v0 := hX.k hk_v0 (by decide)
  refine lv_istore_n (i := 3) (lv' := [(3, .int q2.1), (2, .int s0), (0, .ref (ad v0)), (1, .int v1)]) C.1 C.2.1 dX9_added1_48 rfl hl (by decide) rfl (fun ls hl => ?_)
  refine lv_iload_n C.1 C.2.1 dX9_added1_49 rfl (lv_at hl 1 rfl) ?_
  refine lv_if_eq (tgt := 59) C.1 C.2.1 dX9_added1_50 (by decide) (fun c3 => ?_) (fun c3 => ?_)
  · have hf := if_t hf c3
    refine lv_iload_n C.1 C.2.1 dX9_added1_59 rfl (lv_at hl 3 rfl) ?_
    refine lv_iload_n C.1 C.2.1 dX9_added1_60 rfl (lv_at hl 0 rfl) ?_
    refine lv_isub C.1 C.2.1 dX9_added1_61 ?_
    refine lv_istore_n (i := 1) (lv' := [(1, .int (v1 - q2.1)), (3, .int q2.1), (2, .int s0), (0, .ref (ad v0))]) C.1 C.2.1 dX9_added1_62 rfl hl (by decide) rfl (fun ls hl => ?_)
    refine lv_goto (tgt := 5) C.1 C.2.1 dX9_added1_63 (by decide) ?_
    exact hk5 q2.2 v0 (v1 - q2.1) hE hk_v0 hf _ _ _ h (lv_sub hl [3, 0] rfl)
  · have hf := if_f hf c3
    refine lv_iload_n C.1 C.2.1 dX9_added1_53 rfl (lv_at hl 3 rfl) ?_
    refine lv_iload_n C.1 C.2.1 dX9_added1_54 rfl (lv_at hl 0 rfl) ?_
    refine lv_iadd C.1 C.2.1 dX9_added1_55 ?_
    refine lv_goto (tgt := 62) C.1 C.2.1 dX9_added1_56 (by decide) ?_
    refine lv_istore_n (i := 1) (lv' := [(1, .int (v1 + q2.1)), (3, .int q2.1), (2, .int s0), (0, .ref (ad v0))]) C.1 C.2.1 dX9_added1_62 rfl hl (by decide) rfl (fun ls hl => ?_)
    refine lv_goto (tgt := 5) C.1 C.2.1 dX9_added1_63 (by decide) ?_
    exact hk5 q2.2 v0 (v1 + q2.1) hE hk_v0 hf _ _ _ h (lv_sub hl [3, 0] rfl)
def f_X9_added1_5 (fu : Nat) : Nat → St_ → Nat → Int32 → Option (Int32 × St_)
  | 0 => fun _ _ _ => none
  | n + 1 => fun σ  v0  v1 => if (f_X9_isSign σ v0 (43 : Int32)) = 0 then if (f_X9_isSign σ v0 (45 : Int32)) = 0 then some (v1, σ) else if (lg_cmp (sl_ σ v0 23) (43 : Int64)) = 0 then f_X9_added1_39 fu (f_X9_added1_5 fu n) σ v0 v1 (1 : Int32) else f_X9_added1_39 fu (f_X9_added1_5 fu n) σ v0 v1 (0 : Int32) else if (lg_cmp (sl_ σ v0 23) (43 : Int64)) = 0 then f_X9_added1_39 fu (f_X9_added1_5 fu n) σ v0 v1 (1 : Int32) else f_X9_added1_39 fu (f_X9_added1_5 fu n) σ v0 v1 (0 : Int32)
set_option maxHeartbeats 4000000 in
set_option maxRecDepth 100000 in
theorem w_X9_added1_5 {p : Program} {l : Launch} {e : Env} {R : Room} {s : State} {m : MethodId} {args : Array Value} {below : List Frame} {meth : Method} {c : Code} {κ : Ka_} {G : va_G} {cy : Nat → ClassId} {ad : Nat → Nat} {sz : Nat} {σ0 : St_} (fu : Nat) (C : CallFix p m c cX9_added1 4 s args wU_ RX9) (K : Kx_ κ G cy (va_A (wl_ cy ad σ0) sz) s) (hr : meth.sig.returnType = some .int) (hlk : meth.locks = false) (hR : 30 ≤ R.frames ∧ 661 ≤ R.locals) {q : Int32 × St_} : ∀ n : Nat, ∀ (σ : St_) (v0 : Nat) (v1 : Int32), Ex_ σ0 σ → kd_ σ v0 = 9 → f_X9_added1_5 fu n σ v0 v1 = some q → ∀ (H : Heap) (locs : List Loc) (ls : Array Slot), Ht_ G cy (va_A (wl_ cy ad σ0) sz) s ad σ H locs → lv_has ls 4 [(0, .ref (ad v0)), (1, .int v1)] → W p l e R s m args below meth c H locs 0 0 (MQ below (Qi_ G cy ad σ0 q.2 sz q.1) args s 0 0 (va_A (wl_ cy ad σ0) sz)) (F0 m 5 ls []) := by
  intro n
  induction n with
  | zero =>
    intro σ v0 v1 hE hk_v0 hf H locs ls h hl
    cases hf
  | succ n ih =>
    intro σ v0 v1 hE hk_v0 hf H locs ls h hl
    have hf : (if (f_X9_isSign σ v0 (43 : Int32)) = 0 then if (f_X9_isSign σ v0 (45 : Int32)) = 0 then some (v1, σ) else if (lg_cmp (sl_ σ v0 23) (43 : Int64)) = 0 then f_X9_added1_39 fu (f_X9_added1_5 fu n) σ v0 v1 (1 : Int32) else f_X9_added1_39 fu (f_X9_added1_5 fu n) σ v0 v1 (0 : Int32) else if (lg_cmp (sl_ σ v0 23) (43 : Int64)) = 0 then f_X9_added1_39 fu (f_X9_added1_5 fu n) σ v0 v1 (1 : Int32) else f_X9_added1_39 fu (f_X9_added1_5 fu n) σ v0 v1 (0 : Int32)) = some q := hf
    refine lv_aload_n C.1 C.2.1 dX9_added1_5 rfl (lv_at hl 0 rfl) ?_
    refine lv_bipush (v := (43 : Int32)) C.1 C.2.1 dX9_added1_6 (by decide) ?_
    refine x_az K h (x_V C K h [.int (43 : Int32)] (c_X9_isSign l κ G cy ad H.size σ v0 (43 : Int32) hk_v0 rfl) mi_X9_isSign rfl im_yX9_isSign se_yX9_isSign ml_RX9_215 cl_9 hk_v0 ⟨rfl, rfl, Nat.le_trans (Nat.le_of_ble_eq_true rfl) hR.1, Nat.le_trans (Nat.le_of_ble_eq_true rfl) hR.2⟩ hl (Nat.le_of_ble_eq_true rfl) dX9_added1_8 ⟨Nat.zero_le _, Nat.zero_le _⟩ rfl) (fun H locs h hX hz2 => ?_)
    refine lv_if_ne (tgt := 23) C.1 C.2.1 dX9_added1_11 (by decide) (fun c3 => ?_) (fun c3 => ?_)
    · have hf := if_f hf c3
      refine lv_aload_n C.1 C.2.1 dX9_added1_23 rfl (lv_at hl 0 rfl) ?_
      refine x_get (v := .long (sl_ σ v0 23)) C K h cl_9 hk_v0 23 (by decide) fl_RX9_170 rfl dX9_added1_24 ?_
      refine lv_ldc2 (v := (43 : Int64)) C.1 C.2.1 C.2.2.2.1 (C.2.2.2.2 _ cl_RX9_232) dX9_added1_27 ?_
      refine W.lcmp C.1 C.2.1 dX9_added1_30 ?_
      refine lv_if_ne (tgt := 38) C.1 C.2.1 dX9_added1_31 (by decide) (fun c4 => ?_) (fun c4 => ?_)
      · have hf := if_f hf c4
        refine lv_iconst (v := (0 : Int32)) C.1 C.2.1 dX9_added1_38 (by decide) ?_
        exact w_X9_added1_39 fu C K hr hlk hR (f_X9_added1_5 fu n) ih σ v0 v1 (0 : Int32) hE hk_v0 hf _ _ _ h (lv_sub hl [0, 1] rfl)
      · have hf := if_t hf c4
        refine lv_iconst (v := (1 : Int32)) C.1 C.2.1 dX9_added1_34 (by decide) ?_
        refine lv_goto (tgt := 39) C.1 C.2.1 dX9_added1_35 (by decide) ?_
        exact w_X9_added1_39 fu C K hr hlk hR (f_X9_added1_5 fu n) ih σ v0 v1 (1 : Int32) hE hk_v0 hf _ _ _ h (lv_sub hl [0, 1] rfl)
    · have hf := if_t hf c3
      refine lv_aload_n C.1 C.2.1 dX9_added1_14 rfl (lv_at hl 0 rfl) ?_
      refine lv_bipush (v := (45 : Int32)) C.1 C.2.1 dX9_added1_15 (by decide) ?_
      refine x_az K h (x_V C K h [.int (45 : Int32)] (c_X9_isSign l κ G cy ad H.size σ v0 (45 : Int32) hk_v0 rfl) mi_X9_isSign rfl im_yX9_isSign se_yX9_isSign ml_RX9_215 cl_9 hk_v0 ⟨rfl, rfl, Nat.le_trans (Nat.le_of_ble_eq_true rfl) hR.1, Nat.le_trans (Nat.le_of_ble_eq_true rfl) hR.2⟩ hl (Nat.le_of_ble_eq_true rfl) dX9_added1_17 ⟨Nat.zero_le _, Nat.zero_le _⟩ rfl) (fun H locs h hX hz6 => ?_)
      refine lv_if_eq (tgt := 66) C.1 C.2.1 dX9_added1_20 (by decide) (fun c7 => ?_) (fun c7 => ?_)
      · have hf := if_t hf c7
        refine lv_iload_n C.1 C.2.1 dX9_added1_66 rfl (lv_at hl 1 rfl) ?_
        exact x_ri C hr hlk h hE (pf_1 (Option.some.inj hf)) (pf_2 (Option.some.inj hf)) dX9_added1_67
      · have hf := if_f hf c7
        refine lv_aload_n C.1 C.2.1 dX9_added1_23 rfl (lv_at hl 0 rfl) ?_
        refine x_get (v := .long (sl_ σ v0 23)) C K h cl_9 hk_v0 23 (by decide) fl_RX9_170 rfl dX9_added1_24 ?_
        refine lv_ldc2 (v := (43 : Int64)) C.1 C.2.1 C.2.2.2.1 (C.2.2.2.2 _ cl_RX9_232) dX9_added1_27 ?_
        refine W.lcmp C.1 C.2.1 dX9_added1_30 ?_
        refine lv_if_ne (tgt := 38) C.1 C.2.1 dX9_added1_31 (by decide) (fun c8 => ?_) (fun c8 => ?_)
        · have hf := if_f hf c8
          refine lv_iconst (v := (0 : Int32)) C.1 C.2.1 dX9_added1_38 (by decide) ?_
          exact w_X9_added1_39 fu C K hr hlk hR (f_X9_added1_5 fu n) ih σ v0 v1 (0 : Int32) hE hk_v0 hf _ _ _ h (lv_sub hl [0, 1] rfl)
        · have hf := if_t hf c8
          refine lv_iconst (v := (1 : Int32)) C.1 C.2.1 dX9_added1_34 (by decide) ?_
          refine lv_goto (tgt := 39) C.1 C.2.1 dX9_added1_35 (by decide) ?_
          exact w_X9_added1_39 fu C K hr hlk hR (f_X9_added1_5 fu n) ih σ v0 v1 (1 : Int32) hE hk_v0 hf _ _ _ h (lv_sub hl [0, 1] rfl)
def f_X9_added1 (fu : Nat) (σ : St_) (a0 : Nat) : Option (Int32 × St_) := (f_X9_term1 fu σ a0).bind fun q1 => f_X9_added1_5 fu fu q1.2 a0 q1.1
set_option maxHeartbeats 4000000 in
set_option maxRecDepth 100000 in
theorem w_X9_added1 {p : Program} {l : Launch} {e : Env} {R : Room} {s : State} {m : MethodId} {args : Array Value} {below : List Frame} {meth : Method} {c : Code} {κ : Ka_} {G : va_G} {cy : Nat → ClassId} {ad : Nat → Nat} {sz : Nat} {σ0 : St_} (fu : Nat) (C : CallFix p m c cX9_added1 4 s args wU_ RX9) (K : Kx_ κ G cy (va_A (wl_ cy ad σ0) sz) s) (hr : meth.sig.returnType = some .int) (hlk : meth.locks = false) (hR : 30 ≤ R.frames ∧ 661 ≤ R.locals) {q : Int32 × St_} : ∀ (σ : St_) (a0 : Nat), Ex_ σ0 σ → kd_ σ a0 = 9 → f_X9_added1 fu σ a0 = some q → ∀ (H : Heap) (locs : List Loc) (ls : Array Slot), Ht_ G cy (va_A (wl_ cy ad σ0) sz) s ad σ H locs → lv_has ls 4 [(0, .ref (ad a0))] → W p l e R s m args below meth c H locs 0 0 (MQ below (Qi_ G cy ad σ0 q.2 sz q.1) args s 0 0 (va_A (wl_ cy ad σ0) sz)) (F0 m 0 ls []) := by
  intro σ a0 hE hk_a0 hf H locs ls h hl
  have hf : ((f_X9_term1 fu σ a0).bind fun q1 => f_X9_added1_5 fu fu q1.2 a0 q1.1) = some q := hf
  refine lv_aload_n C.1 C.2.1 dX9_added1_0 rfl (lv_at hl 0 rfl) ?_
  obtain ⟨q1, hq_q1, hf⟩ := ob_ hf
  refine x_ai K h (x_V C K h [] (c_X9_term1 fu l κ G cy ad H.size σ a0 hk_a0 hq_q1) mi_X9_term1 rfl im_yX9_term1 se_yX9_term1 ml_RX9_305 cl_9 hk_a0 ⟨rfl, rfl, Nat.le_trans (Nat.le_of_ble_eq_true rfl) hR.1, Nat.le_trans (Nat.le_of_ble_eq_true rfl) hR.2⟩ hl (Nat.le_of_ble_eq_true rfl) dX9_added1_1 ⟨Nat.zero_le _, Nat.zero_le _⟩ rfl) (fun H locs h hX => ?_)
  have hE := hE.trans hX
  have hk_a0 := hX.k hk_a0 (by decide)
  refine lv_istore_n (i := 1) (lv' := [(1, .int q1.1), (0, .ref (ad a0))]) C.1 C.2.1 dX9_added1_4 rfl hl (by decide) rfl (fun ls hl => ?_)
  exact w_X9_added1_5 fu C K hr hlk hR fu q1.2 a0 q1.1 hE hk_a0 hf _ _ _ h (lv_sub hl [1, 0] rfl)
theorem c_X9_added1 (fu : Nat) (l : Launch) (κ : Ka_) (G : va_G) (cy : Nat → ClassId) (ad : Nat → Nat) (sz : Nat) (σ : St_) (a0 : Nat) (hk_a0 : kd_ σ a0 = 9) {q : Int32 × St_} (hf : f_X9_added1 fu σ a0 = some q) : Met l yX9_added1 (Cond.code yX9_added1 cX9_added1 4 (some .int) :: wU_) { frames := 30, cells := 0, slots := 0, locals := 661 } (va_Pc [.ref (ad a0)] (Pr_ κ G cy ad σ sz)) (Qi_ G cy ad σ q.2 sz q.1) 0 0 (va_A (wl_ cy ad σ) sz) :=
  x_met (by decide) (fun p e R s m below meth c ls hR C hr hlk hin _ K h hl => w_X9_added1 fu C K hr hlk ⟨hR.1, hR.2.1⟩ σ a0 Ex_.rf hk_a0 hf s.heap [] ls h hl) (Nat.le_of_ble_eq_true rfl)
-- X9_not1
theorem mi_X9_not1 : Mi_ yX9_not1 cX9_not1 4 (some .int) 0 := ⟨co_yX9_not1, in_RX9, by decide, by decide, by decide +kernel⟩
def f_X9_not1_93 (fu : Nat) (σ : St_) (v0 : Nat) (v1 : Int32) (s0 : Int32) : Option (Int32 × St_) := (f_X9_next fu σ v0).bind fun q1 => (f_X9_added1 fu q1 v0).bind fun q2 => if s0 = 0 then if v1 = q2.1 then some ((1 : Int32), q2.2) else some ((0 : Int32), q2.2) else if q2.1 ≤ v1 then some ((0 : Int32), q2.2) else some ((1 : Int32), q2.2)
set_option maxHeartbeats 4000000 in
set_option maxRecDepth 100000 in
theorem w_X9_not1_93 {p : Program} {l : Launch} {e : Env} {R : Room} {s : State} {m : MethodId} {args : Array Value} {below : List Frame} {meth : Method} {c : Code} {κ : Ka_} {G : va_G} {cy : Nat → ClassId} {ad : Nat → Nat} {sz : Nat} {σ0 : St_} (fu : Nat) (C : CallFix p m c cX9_not1 4 s args wU_ RX9) (K : Kx_ κ G cy (va_A (wl_ cy ad σ0) sz) s) (hr : meth.sig.returnType = some .int) (hlk : meth.locks = false) (hR : 31 ≤ R.frames ∧ 684 ≤ R.locals) {q : Int32 × St_} : ∀ (σ : St_) (v0 : Nat) (v1 : Int32) (s0 : Int32), Ex_ σ0 σ → kd_ σ v0 = 9 → f_X9_not1_93 fu σ v0 v1 s0 = some q → ∀ (H : Heap) (locs : List Loc) (ls : Array Slot), Ht_ G cy (va_A (wl_ cy ad σ0) sz) s ad σ H locs → lv_has ls 4 [(0, .ref (ad v0)), (1, .int v1)] → W p l e R s m args below meth c H locs 0 0 (MQ below (Qi_ G cy ad σ0 q.2 sz q.1) args s 0 0 (va_A (wl_ cy ad σ0) sz)) (F0 m 93 ls [.int s0]) := by
  intro σ v0 v1 s0 hE hk_v0 hf H locs ls h hl
  have hf : ((f_X9_next fu σ v0).bind fun q1 => (f_X9_added1 fu q1 v0).bind fun q2 => if s0 = 0 then if v1 = q2.1 then some ((1 : Int32), q2.2) else some ((0 : Int32), q2.2) else if q2.1 ≤ v1 then some ((0 : Int32), q2.2) else some ((1 : Int32), q2.2)) = some q := hf
  refine lv_istore_n (i := 2) (lv' := [(2, .int s0), (0, .ref (ad v0)), (1, .int v1)]) C.1 C.2.1 dX9_not1_93 rfl hl (by decide) rfl (fun ls hl => ?_)
  refine lv_aload_n C.1 C.2.1 dX9_not1_94 rfl (lv_at hl 1 rfl) ?_
  obtain ⟨q1, hq_q1, hf⟩ := ob_ hf
  refine x_av K h (x_V C K h [] (c_X9_next fu l κ G cy ad H.size σ v0 hk_v0 hq_q1) mi_X9_next rfl im_yX9_next se_yX9_next ml_RX9_190 cl_9 hk_v0 ⟨rfl, rfl, Nat.le_trans (Nat.le_of_ble_eq_true rfl) hR.1, Nat.le_trans (Nat.le_of_ble_eq_true rfl) hR.2⟩ hl (Nat.le_of_ble_eq_true rfl) dX9_not1_95 ⟨Nat.zero_le _, Nat.zero_le _⟩ rfl) (fun H locs h hX => ?_)
  have hE := hE.trans hX
  have hk_v0 := hX.k hk_v0 (by decide)
  refine lv_aload_n C.1 C.2.1 dX9_not1_98 rfl (lv_at hl 1 rfl) ?_
  obtain ⟨q2, hq_q2, hf⟩ := ob_ hf
  refine x_ai K h (x_V C K h [] (c_X9_added1 fu l κ G cy ad H.size q1 v0 hk_v0 hq_q2) mi_X9_added1 rfl im_yX9_added1 se_yX9_added1 ml_RX9_308 cl_9 hk_v0 ⟨rfl, rfl, Nat.le_trans (Nat.le_of_ble_eq_true rfl) hR.1, Nat.le_trans (Nat.le_of_ble_eq_true rfl) hR.2⟩ hl (Nat.le_of_ble_eq_true rfl) dX9_not1_99 ⟨Nat.zero_le _, Nat.zero_le _⟩ rfl) (fun H locs h hX => ?_)
  have hE := hE.trans hX
  have hk_v0 := hX.k hk_v0 (by decide)
  refine lv_istore_n (i := 3) (lv' := [(3, .int q2.1), (2, .int s0), (0, .ref (ad v0)), (1, .int v1)]) C.1 C.2.1 dX9_not1_102 rfl hl (by decide) rfl (fun ls hl => ?_)
  refine lv_iload_n C.1 C.2.1 dX9_not1_103 rfl (lv_at hl 1 rfl) ?_
  refine lv_if_eq (tgt := 115) C.1 C.2.1 dX9_not1_104 (by decide) (fun c3 => ?_) (fun c3 => ?_)
  · have hf := if_t hf c3
    refine lv_iload_n C.1 C.2.1 dX9_not1_115 rfl (lv_at hl 3 rfl) ?_
    refine lv_iload_n C.1 C.2.1 dX9_not1_116 rfl (lv_at hl 0 rfl) ?_
    refine lv_icmp_ne (tgt := 124) C.1 C.2.1 dX9_not1_117 (by decide) (fun c4 => ?_) (fun c4 => ?_)
    · have hf := if_f hf c4
      refine lv_iconst (v := (0 : Int32)) C.1 C.2.1 dX9_not1_124 (by decide) ?_
      exact x_ri C hr hlk h hE (pf_1 (Option.some.inj hf)) (pf_2 (Option.some.inj hf)) dX9_not1_125
    · have hf := if_t hf c4
      refine lv_iconst (v := (1 : Int32)) C.1 C.2.1 dX9_not1_120 (by decide) ?_
      refine lv_goto (tgt := 125) C.1 C.2.1 dX9_not1_121 (by decide) ?_
      exact x_ri C hr hlk h hE (pf_1 (Option.some.inj hf)) (pf_2 (Option.some.inj hf)) dX9_not1_125
  · have hf := if_f hf c3
    refine lv_iload_n C.1 C.2.1 dX9_not1_107 rfl (lv_at hl 3 rfl) ?_
    refine lv_iload_n C.1 C.2.1 dX9_not1_108 rfl (lv_at hl 0 rfl) ?_
    refine lv_icmp_ge (tgt := 124) C.1 C.2.1 dX9_not1_109 (by decide) (fun c5 => ?_) (fun c5 => ?_)
    · have hf := if_t hf c5
      refine lv_iconst (v := (0 : Int32)) C.1 C.2.1 dX9_not1_124 (by decide) ?_
      exact x_ri C hr hlk h hE (pf_1 (Option.some.inj hf)) (pf_2 (Option.some.inj hf)) dX9_not1_125
    · have hf := if_f hf c5
      refine lv_goto (tgt := 120) C.1 C.2.1 dX9_not1_112 (by decide) ?_
      refine lv_iconst (v := (1 : Int32)) C.1 C.2.1 dX9_not1_120 (by decide) ?_
      refine lv_goto (tgt := 125) C.1 C.2.1 dX9_not1_121 (by decide) ?_
      exact x_ri C hr hlk h hE (pf_1 (Option.some.inj hf)) (pf_2 (Option.some.inj hf)) dX9_not1_125
def f_X9_not1 (fu : Nat) (σ : St_) (a0 : Nat) : Option (Int32 × St_) := (f_X9_isWord_ σ a0 (110 : Int32) (111 : Int32) (116 : Int32) (0 : Int32) (0 : Int32) (0 : Int32) (0 : Int32) (0 : Int32)).bind fun q1 => if q1 = 0 then (f_X9_added1 fu σ a0).bind fun q4 => if (f_X9_isSign q4.2 a0 (60 : Int32)) = 0 then if (f_X9_isSign q4.2 a0 (61 : Int32)) = 0 then some (q4.1, q4.2) else if (lg_cmp (sl_ q4.2 a0 23) (60 : Int64)) = 0 then f_X9_not1_93 fu q4.2 a0 q4.1 (1 : Int32) else f_X9_not1_93 fu q4.2 a0 q4.1 (0 : Int32) else if (lg_cmp (sl_ q4.2 a0 23) (60 : Int64)) = 0 then f_X9_not1_93 fu q4.2 a0 q4.1 (1 : Int32) else f_X9_not1_93 fu q4.2 a0 q4.1 (0 : Int32) else (f_X9_opens fu σ a0).bind fun q13 => if q13.1 = 0 then some ((0 : Int32), q13.2) else (f_X9_not2 fu q13.2 a0).bind fun q16 => if q16.1 = 0 then some ((1 : Int32), ui_ q16.2 a0 24 ((si_ q16.2 a0 24) - (1 : Int32))) else some ((0 : Int32), ui_ q16.2 a0 24 ((si_ q16.2 a0 24) - (1 : Int32)))
set_option maxHeartbeats 4000000 in
set_option maxRecDepth 100000 in
theorem w_X9_not1 {p : Program} {l : Launch} {e : Env} {R : Room} {s : State} {m : MethodId} {args : Array Value} {below : List Frame} {meth : Method} {c : Code} {κ : Ka_} {G : va_G} {cy : Nat → ClassId} {ad : Nat → Nat} {sz : Nat} {σ0 : St_} (fu : Nat) (C : CallFix p m c cX9_not1 4 s args wU_ RX9) (K : Kx_ κ G cy (va_A (wl_ cy ad σ0) sz) s) (hr : meth.sig.returnType = some .int) (hlk : meth.locks = false) (hR : 31 ≤ R.frames ∧ 684 ≤ R.locals) {q : Int32 × St_} : ∀ (σ : St_) (a0 : Nat), Ex_ σ0 σ → kd_ σ a0 = 9 → f_X9_not1 fu σ a0 = some q → ∀ (H : Heap) (locs : List Loc) (ls : Array Slot), Ht_ G cy (va_A (wl_ cy ad σ0) sz) s ad σ H locs → lv_has ls 4 [(0, .ref (ad a0))] → W p l e R s m args below meth c H locs 0 0 (MQ below (Qi_ G cy ad σ0 q.2 sz q.1) args s 0 0 (va_A (wl_ cy ad σ0) sz)) (F0 m 0 ls []) := by
  intro σ a0 hE hk_a0 hf H locs ls h hl
  have hf : ((f_X9_isWord_ σ a0 (110 : Int32) (111 : Int32) (116 : Int32) (0 : Int32) (0 : Int32) (0 : Int32) (0 : Int32) (0 : Int32)).bind fun q1 => if q1 = 0 then (f_X9_added1 fu σ a0).bind fun q4 => if (f_X9_isSign q4.2 a0 (60 : Int32)) = 0 then if (f_X9_isSign q4.2 a0 (61 : Int32)) = 0 then some (q4.1, q4.2) else if (lg_cmp (sl_ q4.2 a0 23) (60 : Int64)) = 0 then f_X9_not1_93 fu q4.2 a0 q4.1 (1 : Int32) else f_X9_not1_93 fu q4.2 a0 q4.1 (0 : Int32) else if (lg_cmp (sl_ q4.2 a0 23) (60 : Int64)) = 0 then f_X9_not1_93 fu q4.2 a0 q4.1 (1 : Int32) else f_X9_not1_93 fu q4.2 a0 q4.1 (0 : Int32) else (f_X9_opens fu σ a0).bind fun q13 => if q13.1 = 0 then some ((0 : Int32), q13.2) else (f_X9_not2 fu q13.2 a0).bind fun q16 => if q16.1 = 0 then some ((1 : Int32), ui_ q16.2 a0 24 ((si_ q16.2 a0 24) - (1 : Int32))) else some ((0 : Int32), ui_ q16.2 a0 24 ((si_ q16.2 a0 24) - (1 : Int32)))) = some q := hf
  refine lv_aload_n C.1 C.2.1 dX9_not1_0 rfl (lv_at hl 0 rfl) ?_
  refine lv_bipush (v := (110 : Int32)) C.1 C.2.1 dX9_not1_1 (by decide) ?_
  refine lv_bipush (v := (111 : Int32)) C.1 C.2.1 dX9_not1_3 (by decide) ?_
  refine lv_bipush (v := (116 : Int32)) C.1 C.2.1 dX9_not1_5 (by decide) ?_
  refine lv_iconst (v := (0 : Int32)) C.1 C.2.1 dX9_not1_7 (by decide) ?_
  refine lv_iconst (v := (0 : Int32)) C.1 C.2.1 dX9_not1_8 (by decide) ?_
  refine lv_iconst (v := (0 : Int32)) C.1 C.2.1 dX9_not1_9 (by decide) ?_
  refine lv_iconst (v := (0 : Int32)) C.1 C.2.1 dX9_not1_10 (by decide) ?_
  refine lv_iconst (v := (0 : Int32)) C.1 C.2.1 dX9_not1_11 (by decide) ?_
  obtain ⟨q1, hq_q1, hf⟩ := ob_ hf
  refine x_az K h (x_V C K h [.int (110 : Int32), .int (111 : Int32), .int (116 : Int32), .int (0 : Int32), .int (0 : Int32), .int (0 : Int32), .int (0 : Int32), .int (0 : Int32)] (c_X9_isWord_ l κ G cy ad H.size σ a0 (110 : Int32) (111 : Int32) (116 : Int32) (0 : Int32) (0 : Int32) (0 : Int32) (0 : Int32) (0 : Int32) hk_a0 hq_q1) mi_X9_isWord_ rfl im_yX9_isWord_ se_yX9_isWord_ ml_RX9_193 cl_9 hk_a0 ⟨rfl, rfl, Nat.le_trans (Nat.le_of_ble_eq_true rfl) hR.1, Nat.le_trans (Nat.le_of_ble_eq_true rfl) hR.2⟩ hl (Nat.le_of_ble_eq_true rfl) dX9_not1_12 ⟨Nat.zero_le _, Nat.zero_le _⟩ rfl) (fun H locs h hX hz2 => ?_)
  refine lv_if_eq (tgt := 52) C.1 C.2.1 dX9_not1_15 (by decide) (fun c3 => ?_) (fun c3 => ?_)
  · have hf := if_t hf c3
    refine lv_aload_n C.1 C.2.1 dX9_not1_52 rfl (lv_at hl 0 rfl) ?_
    obtain ⟨q4, hq_q4, hf⟩ := ob_ hf
    refine x_ai K h (x_V C K h [] (c_X9_added1 fu l κ G cy ad H.size σ a0 hk_a0 hq_q4) mi_X9_added1 rfl im_yX9_added1 se_yX9_added1 ml_RX9_308 cl_9 hk_a0 ⟨rfl, rfl, Nat.le_trans (Nat.le_of_ble_eq_true rfl) hR.1, Nat.le_trans (Nat.le_of_ble_eq_true rfl) hR.2⟩ hl (Nat.le_of_ble_eq_true rfl) dX9_not1_53 ⟨Nat.zero_le _, Nat.zero_le _⟩ rfl) (fun H locs h hX => ?_)
    have hE := hE.trans hX
    have hk_a0 := hX.k hk_a0 (by decide)
    refine lv_istore_n (i := 1) (lv' := [(1, .int q4.1), (0, .ref (ad a0))]) C.1 C.2.1 dX9_not1_56 rfl hl (by decide) rfl (fun ls hl => ?_)
    refine lv_aload_n C.1 C.2.1 dX9_not1_57 rfl (lv_at hl 1 rfl) ?_
    refine lv_bipush (v := (60 : Int32)) C.1 C.2.1 dX9_not1_58 (by decide) ?_
    refine x_az K h (x_V C K h [.int (60 : Int32)] (c_X9_isSign l κ G cy ad H.size q4.2 a0 (60 : Int32) hk_a0 rfl) mi_X9_isSign rfl im_yX9_isSign se_yX9_isSign ml_RX9_215 cl_9 hk_a0 ⟨rfl, rfl, Nat.le_trans (Nat.le_of_ble_eq_true rfl) hR.1, Nat.le_trans (Nat.le_of_ble_eq_true rfl) hR.2⟩ hl (Nat.le_of_ble_eq_true rfl) dX9_not1_60 ⟨Nat.zero_le _, Nat.zero_le _⟩ rfl) (fun H locs h hX hz6 => ?_)
    refine lv_if_ne (tgt := 77) C.1 C.2.1 dX9_not1_63 (by decide) (fun c7 => ?_) (fun c7 => ?_)
    · have hf := if_f hf c7
      refine lv_aload_n C.1 C.2.1 dX9_not1_77 rfl (lv_at hl 1 rfl) ?_
      refine x_get (v := .long (sl_ q4.2 a0 23)) C K h cl_9 hk_a0 23 (by decide) fl_RX9_170 rfl dX9_not1_78 ?_
      refine lv_ldc2 (v := (60 : Int64)) C.1 C.2.1 C.2.2.2.1 (C.2.2.2.2 _ cl_RX9_237) dX9_not1_81 ?_
      refine W.lcmp C.1 C.2.1 dX9_not1_84 ?_
      refine lv_if_ne (tgt := 92) C.1 C.2.1 dX9_not1_85 (by decide) (fun c8 => ?_) (fun c8 => ?_)
      · have hf := if_f hf c8
        refine lv_iconst (v := (0 : Int32)) C.1 C.2.1 dX9_not1_92 (by decide) ?_
        exact w_X9_not1_93 fu C K hr hlk hR q4.2 a0 q4.1 (0 : Int32) hE hk_a0 hf _ _ _ h (lv_sub hl [1, 0] rfl)
      · have hf := if_t hf c8
        refine lv_iconst (v := (1 : Int32)) C.1 C.2.1 dX9_not1_88 (by decide) ?_
        refine lv_goto (tgt := 93) C.1 C.2.1 dX9_not1_89 (by decide) ?_
        exact w_X9_not1_93 fu C K hr hlk hR q4.2 a0 q4.1 (1 : Int32) hE hk_a0 hf _ _ _ h (lv_sub hl [1, 0] rfl)
    · have hf := if_t hf c7
      refine lv_aload_n C.1 C.2.1 dX9_not1_66 rfl (lv_at hl 1 rfl) ?_
      refine lv_bipush (v := (61 : Int32)) C.1 C.2.1 dX9_not1_67 (by decide) ?_
      refine x_az K h (x_V C K h [.int (61 : Int32)] (c_X9_isSign l κ G cy ad H.size q4.2 a0 (61 : Int32) hk_a0 rfl) mi_X9_isSign rfl im_yX9_isSign se_yX9_isSign ml_RX9_215 cl_9 hk_a0 ⟨rfl, rfl, Nat.le_trans (Nat.le_of_ble_eq_true rfl) hR.1, Nat.le_trans (Nat.le_of_ble_eq_true rfl) hR.2⟩ hl (Nat.le_of_ble_eq_true rfl) dX9_not1_69 ⟨Nat.zero_le _, Nat.zero_le _⟩ rfl) (fun H locs h hX hz10 => ?_)
      refine lv_if_ne (tgt := 77) C.1 C.2.1 dX9_not1_72 (by decide) (fun c11 => ?_) (fun c11 => ?_)
      · have hf := if_f hf c11
        refine lv_aload_n C.1 C.2.1 dX9_not1_77 rfl (lv_at hl 1 rfl) ?_
        refine x_get (v := .long (sl_ q4.2 a0 23)) C K h cl_9 hk_a0 23 (by decide) fl_RX9_170 rfl dX9_not1_78 ?_
        refine lv_ldc2 (v := (60 : Int64)) C.1 C.2.1 C.2.2.2.1 (C.2.2.2.2 _ cl_RX9_237) dX9_not1_81 ?_
        refine W.lcmp C.1 C.2.1 dX9_not1_84 ?_
        refine lv_if_ne (tgt := 92) C.1 C.2.1 dX9_not1_85 (by decide) (fun c12 => ?_) (fun c12 => ?_)
        · have hf := if_f hf c12
          refine lv_iconst (v := (0 : Int32)) C.1 C.2.1 dX9_not1_92 (by decide) ?_
          exact w_X9_not1_93 fu C K hr hlk hR q4.2 a0 q4.1 (0 : Int32) hE hk_a0 hf _ _ _ h (lv_sub hl [1, 0] rfl)
        · have hf := if_t hf c12
          refine lv_iconst (v := (1 : Int32)) C.1 C.2.1 dX9_not1_88 (by decide) ?_
          refine lv_goto (tgt := 93) C.1 C.2.1 dX9_not1_89 (by decide) ?_
          exact w_X9_not1_93 fu C K hr hlk hR q4.2 a0 q4.1 (1 : Int32) hE hk_a0 hf _ _ _ h (lv_sub hl [1, 0] rfl)
      · have hf := if_t hf c11
        refine lv_iload_n C.1 C.2.1 dX9_not1_75 rfl (lv_at hl 0 rfl) ?_
        exact x_ri C hr hlk h hE (pf_1 (Option.some.inj hf)) (pf_2 (Option.some.inj hf)) dX9_not1_76
  · have hf := if_f hf c3
    refine lv_aload_n C.1 C.2.1 dX9_not1_18 rfl (lv_at hl 0 rfl) ?_
    obtain ⟨q13, hq_q13, hf⟩ := ob_ hf
    refine x_az K h (x_V C K h [] (c_X9_opens fu l κ G cy ad H.size σ a0 hk_a0 hq_q13) mi_X9_opens rfl im_yX9_opens se_yX9_opens ml_RX9_218 cl_9 hk_a0 ⟨rfl, rfl, Nat.le_trans (Nat.le_of_ble_eq_true rfl) hR.1, Nat.le_trans (Nat.le_of_ble_eq_true rfl) hR.2⟩ hl (Nat.le_of_ble_eq_true rfl) dX9_not1_19 ⟨Nat.zero_le _, Nat.zero_le _⟩ rfl) (fun H locs h hX hz14 => ?_)
    have hE := hE.trans hX
    have hk_a0 := hX.k hk_a0 (by decide)
    refine lv_if_ne (tgt := 27) C.1 C.2.1 dX9_not1_22 (by decide) (fun c15 => ?_) (fun c15 => ?_)
    · have hf := if_f hf c15
      refine lv_aload_n C.1 C.2.1 dX9_not1_27 rfl (lv_at hl 0 rfl) ?_
      obtain ⟨q16, hq_q16, hf⟩ := ob_ hf
      refine x_ai K h (x_V C K h [] (c_X9_not2 fu l κ G cy ad H.size q13.2 a0 hk_a0 hq_q16) mi_X9_not2 rfl im_yX9_not2 se_yX9_not2 ml_RX9_293 cl_9 hk_a0 ⟨rfl, rfl, Nat.le_trans (Nat.le_of_ble_eq_true rfl) hR.1, Nat.le_trans (Nat.le_of_ble_eq_true rfl) hR.2⟩ hl (Nat.le_of_ble_eq_true rfl) dX9_not1_28 ⟨Nat.zero_le _, Nat.zero_le _⟩ rfl) (fun H locs h hX => ?_)
      have hE := hE.trans hX
      have hk_a0 := hX.k hk_a0 (by decide)
      refine lv_istore_n (i := 1) (lv' := [(1, .int q16.1), (0, .ref (ad a0))]) C.1 C.2.1 dX9_not1_31 rfl hl (by decide) rfl (fun ls hl => ?_)
      refine lv_aload_n C.1 C.2.1 dX9_not1_32 rfl (lv_at hl 1 rfl) ?_
      refine lv_dup C.1 C.2.1 dX9_not1_33 rfl ?_
      refine x_get (v := .int (si_ q16.2 a0 24)) C K h cl_9 hk_a0 24 (by decide) fl_RX9_184 rfl dX9_not1_34 ?_
      refine lv_iconst (v := (1 : Int32)) C.1 C.2.1 dX9_not1_37 (by decide) ?_
      refine lv_isub C.1 C.2.1 dX9_not1_38 ?_
      refine x_putI C K h cl_9 hk_a0 24 (by decide) fl_RX9_184 rfl rfl rfl (Nat.le_of_ble_eq_true rfl) (fun _ _ _ => rfl) dX9_not1_39 (fun H locs h => ?_)
      have hE := hE.up (up_i q16.2 a0 24 ((si_ q16.2 a0 24) - (1 : Int32)))
      refine lv_iload_n C.1 C.2.1 dX9_not1_42 rfl (lv_at hl 0 rfl) ?_
      refine lv_if_ne (tgt := 50) C.1 C.2.1 dX9_not1_43 (by decide) (fun c17 => ?_) (fun c17 => ?_)
      · have hf := if_f hf c17
        refine lv_iconst (v := (0 : Int32)) C.1 C.2.1 dX9_not1_50 (by decide) ?_
        exact x_ri C hr hlk h hE (pf_1 (Option.some.inj hf)) (pf_2 (Option.some.inj hf)) dX9_not1_51
      · have hf := if_t hf c17
        refine lv_iconst (v := (1 : Int32)) C.1 C.2.1 dX9_not1_46 (by decide) ?_
        refine lv_goto (tgt := 51) C.1 C.2.1 dX9_not1_47 (by decide) ?_
        exact x_ri C hr hlk h hE (pf_1 (Option.some.inj hf)) (pf_2 (Option.some.inj hf)) dX9_not1_51
    · have hf := if_t hf c15
      refine lv_iconst (v := (0 : Int32)) C.1 C.2.1 dX9_not1_25 (by decide) ?_
      exact x_ri C hr hlk h hE (pf_1 (Option.some.inj hf)) (pf_2 (Option.some.inj hf)) dX9_not1_26
theorem c_X9_not1 (fu : Nat) (l : Launch) (κ : Ka_) (G : va_G) (cy : Nat → ClassId) (ad : Nat → Nat) (sz : Nat) (σ : St_) (a0 : Nat) (hk_a0 : kd_ σ a0 = 9) {q : Int32 × St_} (hf : f_X9_not1 fu σ a0 = some q) : Met l yX9_not1 (Cond.code yX9_not1 cX9_not1 4 (some .int) :: wU_) { frames := 31, cells := 0, slots := 0, locals := 684 } (va_Pc [.ref (ad a0)] (Pr_ κ G cy ad σ sz)) (Qi_ G cy ad σ q.2 sz q.1) 0 0 (va_A (wl_ cy ad σ) sz) :=
  x_met (by decide) (fun p e R s m below meth c ls hR C hr hlk hin _ K h hl => w_X9_not1 fu C K hr hlk ⟨hR.1, hR.2.1⟩ σ a0 Ex_.rf hk_a0 hf s.heap [] ls h hl) (Nat.le_of_ble_eq_true rfl)
-- X9_both1
theorem mi_X9_both1 : Mi_ yX9_both1 cX9_both1 3 (some .int) 0 := ⟨co_yX9_both1, in_RX9, by decide, by decide, by decide +kernel⟩
def f_X9_both1_5 (fu : Nat) : Nat → St_ → Nat → Int32 → Option (Int32 × St_)
  | 0 => fun _ _ _ => none
  | n + 1 => fun σ  v0  v1 => (f_X9_isWord_ σ v0 (97 : Int32) (110 : Int32) (100 : Int32) (0 : Int32) (0 : Int32) (0 : Int32) (0 : Int32) (0 : Int32)).bind fun q1 => if q1 = 0 then some (v1, σ) else (f_X9_next fu σ v0).bind fun q4 => (f_X9_not1 fu q4 v0).bind fun q5 => if v1 = 0 then (f_X9_both1_5 fu n) q5.2 v0 (0 : Int32) else if q5.1 = 0 then (f_X9_both1_5 fu n) q5.2 v0 (0 : Int32) else (f_X9_both1_5 fu n) q5.2 v0 (1 : Int32)
set_option maxHeartbeats 4000000 in
set_option maxRecDepth 100000 in
theorem w_X9_both1_5 {p : Program} {l : Launch} {e : Env} {R : Room} {s : State} {m : MethodId} {args : Array Value} {below : List Frame} {meth : Method} {c : Code} {κ : Ka_} {G : va_G} {cy : Nat → ClassId} {ad : Nat → Nat} {sz : Nat} {σ0 : St_} (fu : Nat) (C : CallFix p m c cX9_both1 3 s args wU_ RX9) (K : Kx_ κ G cy (va_A (wl_ cy ad σ0) sz) s) (hr : meth.sig.returnType = some .int) (hlk : meth.locks = false) (hR : 32 ≤ R.frames ∧ 707 ≤ R.locals) {q : Int32 × St_} : ∀ n : Nat, ∀ (σ : St_) (v0 : Nat) (v1 : Int32), Ex_ σ0 σ → kd_ σ v0 = 9 → f_X9_both1_5 fu n σ v0 v1 = some q → ∀ (H : Heap) (locs : List Loc) (ls : Array Slot), Ht_ G cy (va_A (wl_ cy ad σ0) sz) s ad σ H locs → lv_has ls 3 [(0, .ref (ad v0)), (1, .int v1)] → W p l e R s m args below meth c H locs 0 0 (MQ below (Qi_ G cy ad σ0 q.2 sz q.1) args s 0 0 (va_A (wl_ cy ad σ0) sz)) (F0 m 5 ls []) := by
  intro n
  induction n with
  | zero =>
    intro σ v0 v1 hE hk_v0 hf H locs ls h hl
    cases hf
  | succ n ih =>
    intro σ v0 v1 hE hk_v0 hf H locs ls h hl
    have hf : ((f_X9_isWord_ σ v0 (97 : Int32) (110 : Int32) (100 : Int32) (0 : Int32) (0 : Int32) (0 : Int32) (0 : Int32) (0 : Int32)).bind fun q1 => if q1 = 0 then some (v1, σ) else (f_X9_next fu σ v0).bind fun q4 => (f_X9_not1 fu q4 v0).bind fun q5 => if v1 = 0 then (f_X9_both1_5 fu n) q5.2 v0 (0 : Int32) else if q5.1 = 0 then (f_X9_both1_5 fu n) q5.2 v0 (0 : Int32) else (f_X9_both1_5 fu n) q5.2 v0 (1 : Int32)) = some q := hf
    refine lv_aload_n C.1 C.2.1 dX9_both1_5 rfl (lv_at hl 0 rfl) ?_
    refine lv_bipush (v := (97 : Int32)) C.1 C.2.1 dX9_both1_6 (by decide) ?_
    refine lv_bipush (v := (110 : Int32)) C.1 C.2.1 dX9_both1_8 (by decide) ?_
    refine lv_bipush (v := (100 : Int32)) C.1 C.2.1 dX9_both1_10 (by decide) ?_
    refine lv_iconst (v := (0 : Int32)) C.1 C.2.1 dX9_both1_12 (by decide) ?_
    refine lv_iconst (v := (0 : Int32)) C.1 C.2.1 dX9_both1_13 (by decide) ?_
    refine lv_iconst (v := (0 : Int32)) C.1 C.2.1 dX9_both1_14 (by decide) ?_
    refine lv_iconst (v := (0 : Int32)) C.1 C.2.1 dX9_both1_15 (by decide) ?_
    refine lv_iconst (v := (0 : Int32)) C.1 C.2.1 dX9_both1_16 (by decide) ?_
    obtain ⟨q1, hq_q1, hf⟩ := ob_ hf
    refine x_az K h (x_V C K h [.int (97 : Int32), .int (110 : Int32), .int (100 : Int32), .int (0 : Int32), .int (0 : Int32), .int (0 : Int32), .int (0 : Int32), .int (0 : Int32)] (c_X9_isWord_ l κ G cy ad H.size σ v0 (97 : Int32) (110 : Int32) (100 : Int32) (0 : Int32) (0 : Int32) (0 : Int32) (0 : Int32) (0 : Int32) hk_v0 hq_q1) mi_X9_isWord_ rfl im_yX9_isWord_ se_yX9_isWord_ ml_RX9_193 cl_9 hk_v0 ⟨rfl, rfl, Nat.le_trans (Nat.le_of_ble_eq_true rfl) hR.1, Nat.le_trans (Nat.le_of_ble_eq_true rfl) hR.2⟩ hl (Nat.le_of_ble_eq_true rfl) dX9_both1_17 ⟨Nat.zero_le _, Nat.zero_le _⟩ rfl) (fun H locs h hX hz2 => ?_)
    refine lv_if_eq (tgt := 49) C.1 C.2.1 dX9_both1_20 (by decide) (fun c3 => ?_) (fun c3 => ?_)
    · have hf := if_t hf c3
      refine lv_iload_n C.1 C.2.1 dX9_both1_49 rfl (lv_at hl 1 rfl) ?_
      exact x_ri C hr hlk h hE (pf_1 (Option.some.inj hf)) (pf_2 (Option.some.inj hf)) dX9_both1_50
    · have hf := if_f hf c3
      refine lv_aload_n C.1 C.2.1 dX9_both1_23 rfl (lv_at hl 0 rfl) ?_
      obtain ⟨q4, hq_q4, hf⟩ := ob_ hf
      refine x_av K h (x_V C K h [] (c_X9_next fu l κ G cy ad H.size σ v0 hk_v0 hq_q4) mi_X9_next rfl im_yX9_next se_yX9_next ml_RX9_190 cl_9 hk_v0 ⟨rfl, rfl, Nat.le_trans (Nat.le_of_ble_eq_true rfl) hR.1, Nat.le_trans (Nat.le_of_ble_eq_true rfl) hR.2⟩ hl (Nat.le_of_ble_eq_true rfl) dX9_both1_24 ⟨Nat.zero_le _, Nat.zero_le _⟩ rfl) (fun H locs h hX => ?_)
      have hE := hE.trans hX
      have hk_v0 := hX.k hk_v0 (by decide)
      refine lv_aload_n C.1 C.2.1 dX9_both1_27 rfl (lv_at hl 0 rfl) ?_
      obtain ⟨q5, hq_q5, hf⟩ := ob_ hf
      refine x_ai K h (x_V C K h [] (c_X9_not1 fu l κ G cy ad H.size q4 v0 hk_v0 hq_q5) mi_X9_not1 rfl im_yX9_not1 se_yX9_not1 ml_RX9_311 cl_9 hk_v0 ⟨rfl, rfl, Nat.le_trans (Nat.le_of_ble_eq_true rfl) hR.1, Nat.le_trans (Nat.le_of_ble_eq_true rfl) hR.2⟩ hl (Nat.le_of_ble_eq_true rfl) dX9_both1_28 ⟨Nat.zero_le _, Nat.zero_le _⟩ rfl) (fun H locs h hX => ?_)
      have hE := hE.trans hX
      have hk_v0 := hX.k hk_v0 (by decide)
      refine lv_istore_n (i := 2) (lv' := [(2, .int q5.1), (0, .ref (ad v0)), (1, .int v1)]) C.1 C.2.1 dX9_both1_31 rfl hl (by decide) rfl (fun ls hl => ?_)
      refine lv_iload_n C.1 C.2.1 dX9_both1_32 rfl (lv_at hl 2 rfl) ?_
      refine lv_if_eq (tgt := 44) C.1 C.2.1 dX9_both1_33 (by decide) (fun c6 => ?_) (fun c6 => ?_)
      · have hf := if_t hf c6
        refine lv_iconst (v := (0 : Int32)) C.1 C.2.1 dX9_both1_44 (by decide) ?_
        refine lv_istore_n (i := 1) (lv' := [(1, .int (0 : Int32)), (2, .int q5.1), (0, .ref (ad v0))]) C.1 C.2.1 dX9_both1_45 rfl hl (by decide) rfl (fun ls hl => ?_)
        refine lv_goto (tgt := 5) C.1 C.2.1 dX9_both1_46 (by decide) ?_
        exact ih q5.2 v0 (0 : Int32) hE hk_v0 hf _ _ _ h (lv_sub hl [2, 0] rfl)
      · have hf := if_f hf c6
        refine lv_iload_n C.1 C.2.1 dX9_both1_36 rfl (lv_at hl 0 rfl) ?_
        refine lv_if_eq (tgt := 44) C.1 C.2.1 dX9_both1_37 (by decide) (fun c7 => ?_) (fun c7 => ?_)
        · have hf := if_t hf c7
          refine lv_iconst (v := (0 : Int32)) C.1 C.2.1 dX9_both1_44 (by decide) ?_
          refine lv_istore_n (i := 1) (lv' := [(1, .int (0 : Int32)), (2, .int q5.1), (0, .ref (ad v0))]) C.1 C.2.1 dX9_both1_45 rfl hl (by decide) rfl (fun ls hl => ?_)
          refine lv_goto (tgt := 5) C.1 C.2.1 dX9_both1_46 (by decide) ?_
          exact ih q5.2 v0 (0 : Int32) hE hk_v0 hf _ _ _ h (lv_sub hl [2, 0] rfl)
        · have hf := if_f hf c7
          refine lv_iconst (v := (1 : Int32)) C.1 C.2.1 dX9_both1_40 (by decide) ?_
          refine lv_goto (tgt := 45) C.1 C.2.1 dX9_both1_41 (by decide) ?_
          refine lv_istore_n (i := 1) (lv' := [(1, .int (1 : Int32)), (2, .int q5.1), (0, .ref (ad v0))]) C.1 C.2.1 dX9_both1_45 rfl hl (by decide) rfl (fun ls hl => ?_)
          refine lv_goto (tgt := 5) C.1 C.2.1 dX9_both1_46 (by decide) ?_
          exact ih q5.2 v0 (1 : Int32) hE hk_v0 hf _ _ _ h (lv_sub hl [2, 0] rfl)
def f_X9_both1 (fu : Nat) (σ : St_) (a0 : Nat) : Option (Int32 × St_) := (f_X9_not1 fu σ a0).bind fun q1 => f_X9_both1_5 fu fu q1.2 a0 q1.1
set_option maxHeartbeats 4000000 in
set_option maxRecDepth 100000 in
theorem w_X9_both1 {p : Program} {l : Launch} {e : Env} {R : Room} {s : State} {m : MethodId} {args : Array Value} {below : List Frame} {meth : Method} {c : Code} {κ : Ka_} {G : va_G} {cy : Nat → ClassId} {ad : Nat → Nat} {sz : Nat} {σ0 : St_} (fu : Nat) (C : CallFix p m c cX9_both1 3 s args wU_ RX9) (K : Kx_ κ G cy (va_A (wl_ cy ad σ0) sz) s) (hr : meth.sig.returnType = some .int) (hlk : meth.locks = false) (hR : 32 ≤ R.frames ∧ 707 ≤ R.locals) {q : Int32 × St_} : ∀ (σ : St_) (a0 : Nat), Ex_ σ0 σ → kd_ σ a0 = 9 → f_X9_both1 fu σ a0 = some q → ∀ (H : Heap) (locs : List Loc) (ls : Array Slot), Ht_ G cy (va_A (wl_ cy ad σ0) sz) s ad σ H locs → lv_has ls 3 [(0, .ref (ad a0))] → W p l e R s m args below meth c H locs 0 0 (MQ below (Qi_ G cy ad σ0 q.2 sz q.1) args s 0 0 (va_A (wl_ cy ad σ0) sz)) (F0 m 0 ls []) := by
  intro σ a0 hE hk_a0 hf H locs ls h hl
  have hf : ((f_X9_not1 fu σ a0).bind fun q1 => f_X9_both1_5 fu fu q1.2 a0 q1.1) = some q := hf
  refine lv_aload_n C.1 C.2.1 dX9_both1_0 rfl (lv_at hl 0 rfl) ?_
  obtain ⟨q1, hq_q1, hf⟩ := ob_ hf
  refine x_ai K h (x_V C K h [] (c_X9_not1 fu l κ G cy ad H.size σ a0 hk_a0 hq_q1) mi_X9_not1 rfl im_yX9_not1 se_yX9_not1 ml_RX9_311 cl_9 hk_a0 ⟨rfl, rfl, Nat.le_trans (Nat.le_of_ble_eq_true rfl) hR.1, Nat.le_trans (Nat.le_of_ble_eq_true rfl) hR.2⟩ hl (Nat.le_of_ble_eq_true rfl) dX9_both1_1 ⟨Nat.zero_le _, Nat.zero_le _⟩ rfl) (fun H locs h hX => ?_)
  have hE := hE.trans hX
  have hk_a0 := hX.k hk_a0 (by decide)
  refine lv_istore_n (i := 1) (lv' := [(1, .int q1.1), (0, .ref (ad a0))]) C.1 C.2.1 dX9_both1_4 rfl hl (by decide) rfl (fun ls hl => ?_)
  exact w_X9_both1_5 fu C K hr hlk hR fu q1.2 a0 q1.1 hE hk_a0 hf _ _ _ h (lv_sub hl [1, 0] rfl)
theorem c_X9_both1 (fu : Nat) (l : Launch) (κ : Ka_) (G : va_G) (cy : Nat → ClassId) (ad : Nat → Nat) (sz : Nat) (σ : St_) (a0 : Nat) (hk_a0 : kd_ σ a0 = 9) {q : Int32 × St_} (hf : f_X9_both1 fu σ a0 = some q) : Met l yX9_both1 (Cond.code yX9_both1 cX9_both1 3 (some .int) :: wU_) { frames := 32, cells := 0, slots := 0, locals := 707 } (va_Pc [.ref (ad a0)] (Pr_ κ G cy ad σ sz)) (Qi_ G cy ad σ q.2 sz q.1) 0 0 (va_A (wl_ cy ad σ) sz) :=
  x_met (by decide) (fun p e R s m below meth c ls hR C hr hlk hin _ K h hl => w_X9_both1 fu C K hr hlk ⟨hR.1, hR.2.1⟩ σ a0 Ex_.rf hk_a0 hf s.heap [] ls h hl) (Nat.le_of_ble_eq_true rfl)
-- X9_either1
theorem mi_X9_either1 : Mi_ yX9_either1 cX9_either1 3 (some .int) 0 := ⟨co_yX9_either1, in_RX9, by decide, by decide, by decide +kernel⟩
def f_X9_either1_5 (fu : Nat) : Nat → St_ → Nat → Int32 → Option (Int32 × St_)
  | 0 => fun _ _ _ => none
  | n + 1 => fun σ  v0  v1 => (f_X9_isWord_ σ v0 (111 : Int32) (114 : Int32) (0 : Int32) (0 : Int32) (0 : Int32) (0 : Int32) (0 : Int32) (0 : Int32)).bind fun q1 => if q1 = 0 then some (v1, σ) else (f_X9_next fu σ v0).bind fun q4 => (f_X9_both1 fu q4 v0).bind fun q5 => if v1 = 0 then if q5.1 = 0 then (f_X9_either1_5 fu n) q5.2 v0 (0 : Int32) else (f_X9_either1_5 fu n) q5.2 v0 (1 : Int32) else (f_X9_either1_5 fu n) q5.2 v0 (1 : Int32)
set_option maxHeartbeats 4000000 in
set_option maxRecDepth 100000 in
theorem w_X9_either1_5 {p : Program} {l : Launch} {e : Env} {R : Room} {s : State} {m : MethodId} {args : Array Value} {below : List Frame} {meth : Method} {c : Code} {κ : Ka_} {G : va_G} {cy : Nat → ClassId} {ad : Nat → Nat} {sz : Nat} {σ0 : St_} (fu : Nat) (C : CallFix p m c cX9_either1 3 s args wU_ RX9) (K : Kx_ κ G cy (va_A (wl_ cy ad σ0) sz) s) (hr : meth.sig.returnType = some .int) (hlk : meth.locks = false) (hR : 33 ≤ R.frames ∧ 729 ≤ R.locals) {q : Int32 × St_} : ∀ n : Nat, ∀ (σ : St_) (v0 : Nat) (v1 : Int32), Ex_ σ0 σ → kd_ σ v0 = 9 → f_X9_either1_5 fu n σ v0 v1 = some q → ∀ (H : Heap) (locs : List Loc) (ls : Array Slot), Ht_ G cy (va_A (wl_ cy ad σ0) sz) s ad σ H locs → lv_has ls 3 [(0, .ref (ad v0)), (1, .int v1)] → W p l e R s m args below meth c H locs 0 0 (MQ below (Qi_ G cy ad σ0 q.2 sz q.1) args s 0 0 (va_A (wl_ cy ad σ0) sz)) (F0 m 5 ls []) := by
  intro n
  induction n with
  | zero =>
    intro σ v0 v1 hE hk_v0 hf H locs ls h hl
    cases hf
  | succ n ih =>
    intro σ v0 v1 hE hk_v0 hf H locs ls h hl
    have hf : ((f_X9_isWord_ σ v0 (111 : Int32) (114 : Int32) (0 : Int32) (0 : Int32) (0 : Int32) (0 : Int32) (0 : Int32) (0 : Int32)).bind fun q1 => if q1 = 0 then some (v1, σ) else (f_X9_next fu σ v0).bind fun q4 => (f_X9_both1 fu q4 v0).bind fun q5 => if v1 = 0 then if q5.1 = 0 then (f_X9_either1_5 fu n) q5.2 v0 (0 : Int32) else (f_X9_either1_5 fu n) q5.2 v0 (1 : Int32) else (f_X9_either1_5 fu n) q5.2 v0 (1 : Int32)) = some q := hf
    refine lv_aload_n C.1 C.2.1 dX9_either1_5 rfl (lv_at hl 0 rfl) ?_
    refine lv_bipush (v := (111 : Int32)) C.1 C.2.1 dX9_either1_6 (by decide) ?_
    refine lv_bipush (v := (114 : Int32)) C.1 C.2.1 dX9_either1_8 (by decide) ?_
    refine lv_iconst (v := (0 : Int32)) C.1 C.2.1 dX9_either1_10 (by decide) ?_
    refine lv_iconst (v := (0 : Int32)) C.1 C.2.1 dX9_either1_11 (by decide) ?_
    refine lv_iconst (v := (0 : Int32)) C.1 C.2.1 dX9_either1_12 (by decide) ?_
    refine lv_iconst (v := (0 : Int32)) C.1 C.2.1 dX9_either1_13 (by decide) ?_
    refine lv_iconst (v := (0 : Int32)) C.1 C.2.1 dX9_either1_14 (by decide) ?_
    refine lv_iconst (v := (0 : Int32)) C.1 C.2.1 dX9_either1_15 (by decide) ?_
    obtain ⟨q1, hq_q1, hf⟩ := ob_ hf
    refine x_az K h (x_V C K h [.int (111 : Int32), .int (114 : Int32), .int (0 : Int32), .int (0 : Int32), .int (0 : Int32), .int (0 : Int32), .int (0 : Int32), .int (0 : Int32)] (c_X9_isWord_ l κ G cy ad H.size σ v0 (111 : Int32) (114 : Int32) (0 : Int32) (0 : Int32) (0 : Int32) (0 : Int32) (0 : Int32) (0 : Int32) hk_v0 hq_q1) mi_X9_isWord_ rfl im_yX9_isWord_ se_yX9_isWord_ ml_RX9_193 cl_9 hk_v0 ⟨rfl, rfl, Nat.le_trans (Nat.le_of_ble_eq_true rfl) hR.1, Nat.le_trans (Nat.le_of_ble_eq_true rfl) hR.2⟩ hl (Nat.le_of_ble_eq_true rfl) dX9_either1_16 ⟨Nat.zero_le _, Nat.zero_le _⟩ rfl) (fun H locs h hX hz2 => ?_)
    refine lv_if_eq (tgt := 48) C.1 C.2.1 dX9_either1_19 (by decide) (fun c3 => ?_) (fun c3 => ?_)
    · have hf := if_t hf c3
      refine lv_iload_n C.1 C.2.1 dX9_either1_48 rfl (lv_at hl 1 rfl) ?_
      exact x_ri C hr hlk h hE (pf_1 (Option.some.inj hf)) (pf_2 (Option.some.inj hf)) dX9_either1_49
    · have hf := if_f hf c3
      refine lv_aload_n C.1 C.2.1 dX9_either1_22 rfl (lv_at hl 0 rfl) ?_
      obtain ⟨q4, hq_q4, hf⟩ := ob_ hf
      refine x_av K h (x_V C K h [] (c_X9_next fu l κ G cy ad H.size σ v0 hk_v0 hq_q4) mi_X9_next rfl im_yX9_next se_yX9_next ml_RX9_190 cl_9 hk_v0 ⟨rfl, rfl, Nat.le_trans (Nat.le_of_ble_eq_true rfl) hR.1, Nat.le_trans (Nat.le_of_ble_eq_true rfl) hR.2⟩ hl (Nat.le_of_ble_eq_true rfl) dX9_either1_23 ⟨Nat.zero_le _, Nat.zero_le _⟩ rfl) (fun H locs h hX => ?_)
      have hE := hE.trans hX
      have hk_v0 := hX.k hk_v0 (by decide)
      refine lv_aload_n C.1 C.2.1 dX9_either1_26 rfl (lv_at hl 0 rfl) ?_
      obtain ⟨q5, hq_q5, hf⟩ := ob_ hf
      refine x_ai K h (x_V C K h [] (c_X9_both1 fu l κ G cy ad H.size q4 v0 hk_v0 hq_q5) mi_X9_both1 rfl im_yX9_both1 se_yX9_both1 ml_RX9_314 cl_9 hk_v0 ⟨rfl, rfl, Nat.le_trans (Nat.le_of_ble_eq_true rfl) hR.1, Nat.le_trans (Nat.le_of_ble_eq_true rfl) hR.2⟩ hl (Nat.le_of_ble_eq_true rfl) dX9_either1_27 ⟨Nat.zero_le _, Nat.zero_le _⟩ rfl) (fun H locs h hX => ?_)
      have hE := hE.trans hX
      have hk_v0 := hX.k hk_v0 (by decide)
      refine lv_istore_n (i := 2) (lv' := [(2, .int q5.1), (0, .ref (ad v0)), (1, .int v1)]) C.1 C.2.1 dX9_either1_30 rfl hl (by decide) rfl (fun ls hl => ?_)
      refine lv_iload_n C.1 C.2.1 dX9_either1_31 rfl (lv_at hl 2 rfl) ?_
      refine lv_if_ne (tgt := 39) C.1 C.2.1 dX9_either1_32 (by decide) (fun c6 => ?_) (fun c6 => ?_)
      · have hf := if_f hf c6
        refine lv_iconst (v := (1 : Int32)) C.1 C.2.1 dX9_either1_39 (by decide) ?_
        refine lv_goto (tgt := 44) C.1 C.2.1 dX9_either1_40 (by decide) ?_
        refine lv_istore_n (i := 1) (lv' := [(1, .int (1 : Int32)), (2, .int q5.1), (0, .ref (ad v0))]) C.1 C.2.1 dX9_either1_44 rfl hl (by decide) rfl (fun ls hl => ?_)
        refine lv_goto (tgt := 5) C.1 C.2.1 dX9_either1_45 (by decide) ?_
        exact ih q5.2 v0 (1 : Int32) hE hk_v0 hf _ _ _ h (lv_sub hl [2, 0] rfl)
      · have hf := if_t hf c6
        refine lv_iload_n C.1 C.2.1 dX9_either1_35 rfl (lv_at hl 0 rfl) ?_
        refine lv_if_eq (tgt := 43) C.1 C.2.1 dX9_either1_36 (by decide) (fun c7 => ?_) (fun c7 => ?_)
        · have hf := if_t hf c7
          refine lv_iconst (v := (0 : Int32)) C.1 C.2.1 dX9_either1_43 (by decide) ?_
          refine lv_istore_n (i := 1) (lv' := [(1, .int (0 : Int32)), (2, .int q5.1), (0, .ref (ad v0))]) C.1 C.2.1 dX9_either1_44 rfl hl (by decide) rfl (fun ls hl => ?_)
          refine lv_goto (tgt := 5) C.1 C.2.1 dX9_either1_45 (by decide) ?_
          exact ih q5.2 v0 (0 : Int32) hE hk_v0 hf _ _ _ h (lv_sub hl [2, 0] rfl)
        · have hf := if_f hf c7
          refine lv_iconst (v := (1 : Int32)) C.1 C.2.1 dX9_either1_39 (by decide) ?_
          refine lv_goto (tgt := 44) C.1 C.2.1 dX9_either1_40 (by decide) ?_
          refine lv_istore_n (i := 1) (lv' := [(1, .int (1 : Int32)), (2, .int q5.1), (0, .ref (ad v0))]) C.1 C.2.1 dX9_either1_44 rfl hl (by decide) rfl (fun ls hl => ?_)
          refine lv_goto (tgt := 5) C.1 C.2.1 dX9_either1_45 (by decide) ?_
          exact ih q5.2 v0 (1 : Int32) hE hk_v0 hf _ _ _ h (lv_sub hl [2, 0] rfl)
def f_X9_either1 (fu : Nat) (σ : St_) (a0 : Nat) : Option (Int32 × St_) := (f_X9_both1 fu σ a0).bind fun q1 => f_X9_either1_5 fu fu q1.2 a0 q1.1
set_option maxHeartbeats 4000000 in
set_option maxRecDepth 100000 in
theorem w_X9_either1 {p : Program} {l : Launch} {e : Env} {R : Room} {s : State} {m : MethodId} {args : Array Value} {below : List Frame} {meth : Method} {c : Code} {κ : Ka_} {G : va_G} {cy : Nat → ClassId} {ad : Nat → Nat} {sz : Nat} {σ0 : St_} (fu : Nat) (C : CallFix p m c cX9_either1 3 s args wU_ RX9) (K : Kx_ κ G cy (va_A (wl_ cy ad σ0) sz) s) (hr : meth.sig.returnType = some .int) (hlk : meth.locks = false) (hR : 33 ≤ R.frames ∧ 729 ≤ R.locals) {q : Int32 × St_} : ∀ (σ : St_) (a0 : Nat), Ex_ σ0 σ → kd_ σ a0 = 9 → f_X9_either1 fu σ a0 = some q → ∀ (H : Heap) (locs : List Loc) (ls : Array Slot), Ht_ G cy (va_A (wl_ cy ad σ0) sz) s ad σ H locs → lv_has ls 3 [(0, .ref (ad a0))] → W p l e R s m args below meth c H locs 0 0 (MQ below (Qi_ G cy ad σ0 q.2 sz q.1) args s 0 0 (va_A (wl_ cy ad σ0) sz)) (F0 m 0 ls []) := by
  intro σ a0 hE hk_a0 hf H locs ls h hl
  have hf : ((f_X9_both1 fu σ a0).bind fun q1 => f_X9_either1_5 fu fu q1.2 a0 q1.1) = some q := hf
  refine lv_aload_n C.1 C.2.1 dX9_either1_0 rfl (lv_at hl 0 rfl) ?_
  obtain ⟨q1, hq_q1, hf⟩ := ob_ hf
  refine x_ai K h (x_V C K h [] (c_X9_both1 fu l κ G cy ad H.size σ a0 hk_a0 hq_q1) mi_X9_both1 rfl im_yX9_both1 se_yX9_both1 ml_RX9_314 cl_9 hk_a0 ⟨rfl, rfl, Nat.le_trans (Nat.le_of_ble_eq_true rfl) hR.1, Nat.le_trans (Nat.le_of_ble_eq_true rfl) hR.2⟩ hl (Nat.le_of_ble_eq_true rfl) dX9_either1_1 ⟨Nat.zero_le _, Nat.zero_le _⟩ rfl) (fun H locs h hX => ?_)
  have hE := hE.trans hX
  have hk_a0 := hX.k hk_a0 (by decide)
  refine lv_istore_n (i := 1) (lv' := [(1, .int q1.1), (0, .ref (ad a0))]) C.1 C.2.1 dX9_either1_4 rfl hl (by decide) rfl (fun ls hl => ?_)
  exact w_X9_either1_5 fu C K hr hlk hR fu q1.2 a0 q1.1 hE hk_a0 hf _ _ _ h (lv_sub hl [1, 0] rfl)
theorem c_X9_either1 (fu : Nat) (l : Launch) (κ : Ka_) (G : va_G) (cy : Nat → ClassId) (ad : Nat → Nat) (sz : Nat) (σ : St_) (a0 : Nat) (hk_a0 : kd_ σ a0 = 9) {q : Int32 × St_} (hf : f_X9_either1 fu σ a0 = some q) : Met l yX9_either1 (Cond.code yX9_either1 cX9_either1 3 (some .int) :: wU_) { frames := 33, cells := 0, slots := 0, locals := 729 } (va_Pc [.ref (ad a0)] (Pr_ κ G cy ad σ sz)) (Qi_ G cy ad σ q.2 sz q.1) 0 0 (va_A (wl_ cy ad σ) sz) :=
  x_met (by decide) (fun p e R s m below meth c ls hR C hr hlk hin _ K h hl => w_X9_either1 fu C K hr hlk ⟨hR.1, hR.2.1⟩ σ a0 Ex_.rf hk_a0 hf s.heap [] ls h hl) (Nat.le_of_ble_eq_true rfl)
