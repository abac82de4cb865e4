/-! the reader: methods that call each other; the three that come back are given -/
abbrev Rc_ : Type := St_ → Nat → Int32 → Option (Int32 × St_)
theorem mi_X3_readOne : Mi_ yX3_readOne cX3_readOne 3 (some .boolean) 1 := ⟨co_yX3_readOne, in_RX3, by decide, by decide, by decide +kernel⟩
theorem mi_X3_readTerm : Mi_ yX3_readTerm cX3_readTerm 3 (some .boolean) 1 := ⟨co_yX3_readTerm, in_RX3, by decide, by decide, by decide +kernel⟩
theorem mi_X3_readSum : Mi_ yX3_readSum cX3_readSum 4 (some .boolean) 1 := ⟨co_yX3_readSum, in_RX3, by decide, by decide, by decide +kernel⟩
theorem mi_X3_readComparison : Mi_ yX3_readComparison cX3_readComparison 3 (some .boolean) 1 := ⟨co_yX3_readComparison, in_RX3, by decide, by decide, by decide +kernel⟩
theorem mi_X3_readNot : Mi_ yX3_readNot cX3_readNot 2 (some .boolean) 1 := ⟨co_yX3_readNot, in_RX3, by decide, by decide, by decide +kernel⟩
theorem mi_X3_readAnd : Mi_ yX3_readAnd cX3_readAnd 3 (some .boolean) 1 := ⟨co_yX3_readAnd, in_RX3, by decide, by decide, by decide +kernel⟩
theorem mi_X3_readOr : Mi_ yX3_readOr cX3_readOr 3 (some .boolean) 1 := ⟨co_yX3_readOr, in_RX3, by decide, by decide, by decide +kernel⟩
def Rs_ (l : Launch) (rOr rNot rOne : Rc_) (dd : Nat) : Prop := (∀ (κ : Ka_) (G : va_G) (cy : Nat → ClassId) (ad : Nat → Nat) (sz : Nat) (σ : St_) (a : Nat) (x : Int32) {q : Int32 × St_}, kd_ σ a = 3 → rOr σ a x = some q → Met l yX3_readOr (Cond.code yX3_readOr cX3_readOr 3 (some .boolean) :: wU_) { frames := 20 * dd + 20, cells := 0, slots := 0, locals := 1000 * dd + 1000 } (va_Pc [.ref (ad a), .int x] (Pr_ κ G cy ad σ sz)) (Qz_ G cy ad σ q.2 sz q.1) 0 0 (va_A (wl_ cy ad σ) sz)) ∧ (∀ (κ : Ka_) (G : va_G) (cy : Nat → ClassId) (ad : Nat → Nat) (sz : Nat) (σ : St_) (a : Nat) (x : Int32) {q : Int32 × St_}, kd_ σ a = 3 → rNot σ a x = some q → Met l yX3_readNot (Cond.code yX3_readNot cX3_readNot 2 (some .boolean) :: wU_) { frames := 20 * dd + 20, cells := 0, slots := 0, locals := 1000 * dd + 1000 } (va_Pc [.ref (ad a), .int x] (Pr_ κ G cy ad σ sz)) (Qz_ G cy ad σ q.2 sz q.1) 0 0 (va_A (wl_ cy ad σ) sz)) ∧ (∀ (κ : Ka_) (G : va_G) (cy : Nat → ClassId) (ad : Nat → Nat) (sz : Nat) (σ : St_) (a : Nat) (x : Int32) {q : Int32 × St_}, kd_ σ a = 3 → rOne σ a x = some q → Met l yX3_readOne (Cond.code yX3_readOne cX3_readOne 3 (some .boolean) :: wU_) { frames := 20 * dd + 20, cells := 0, slots := 0, locals := 1000 * dd + 1000 } (va_Pc [.ref (ad a), .int x] (Pr_ κ G cy ad σ sz)) (Qz_ G cy ad σ q.2 sz q.1) 0 0 (va_A (wl_ cy ad σ) sz))
-- X3_readOne
def f_X3_readOne_57 (rOr rNot rOne : Rc_) (fu : Nat) (σ : St_) (v0 : Nat) (v1 : Int32) (v2 : Int32) : Option (Int32 × St_) := if v1 < (5 : Int32) then if v2 = (40 : Int32) then (rOr (f_X3_goOn σ v0) v0 (v1 + (1 : Int32))).bind fun q8 => if q8.1 = 0 then some ((0 : Int32), q8.2) else (f_X3_pass q8.2 v0 (41 : Int32)).bind fun q11 => if q11.1 = 0 then some ((0 : Int32), q11.2) else some ((1 : Int32), q11.2) else (rOne (f_X3_goOn σ v0) v0 (v1 + (1 : Int32))).bind fun q4 => if q4.1 = 0 then some ((0 : Int32), q4.2) else (f_X3_emit q4.2 v0 (3 : Int32)).bind fun q7 => some ((1 : Int32), q7) else some ((0 : Int32), σ)
set_option maxHeartbeats 4000000 in
set_option maxRecDepth 100000 in
theorem w_X3_readOne_57 {p : Program} {l : Launch} {e : Env} {R : Room} {s : State} {m : MethodId} {args : Array Value} {below : List Frame} {meth : Method} {c : Code} {κ : Ka_} {G : va_G} {cy : Nat → ClassId} {ad : Nat → Nat} {sz : Nat} {σ0 : St_} (fu : Nat) (rOr rNot rOne : Rc_) {dd : Nat} (hrec : Rs_ l rOr rNot rOne dd)  (C : CallFix p m c cX3_readOne 3 s args wU_ RX3) (K : Kx_ κ G cy (va_A (wl_ cy ad σ0) sz) s) (hr : meth.sig.returnType = some .boolean) (hlk : meth.locks = false) (hR : (20 * dd + 21) ≤ R.frames ∧ (1000 * dd + 1040) ≤ R.locals) {q : Int32 × St_} : ∀ (σ : St_) (v0 : Nat) (v1 : Int32) (v2 : Int32), Ex_ σ0 σ → kd_ σ v0 = 3 → f_X3_readOne_57 rOr rNot rOne fu σ v0 v1 v2 = some q → ∀ (H : Heap) (locs : List Loc) (ls : Array Slot), Ht_ G cy (va_A (wl_ cy ad σ0) sz) s ad σ H locs → lv_has ls 3 [(0, .ref (ad v0)), (1, .int v1), (2, .int v2)] → W p l e R s m args below meth c H locs 0 0 (MQ below (Qz_ G cy ad σ0 q.2 sz q.1) args s 0 0 (va_A (wl_ cy ad σ0) sz)) (F0 m 57 ls []) := by
  intro σ v0 v1 v2 hE hk_v0 hf H locs ls h hl
  have hf : (if v1 < (5 : Int32) then if v2 = (40 : Int32) then (rOr (f_X3_goOn σ v0) v0 (v1 + (1 : Int32))).bind fun q8 => if q8.1 = 0 then some ((0 : Int32), q8.2) else (f_X3_pass q8.2 v0 (41 : Int32)).bind fun q11 => if q11.1 = 0 then some ((0 : Int32), q11.2) else some ((1 : Int32), q11.2) else (rOne (f_X3_goOn σ v0) v0 (v1 + (1 : Int32))).bind fun q4 => if q4.1 = 0 then some ((0 : Int32), q4.2) else (f_X3_emit q4.2 v0 (3 : Int32)).bind fun q7 => some ((1 : Int32), q7) else some ((0 : Int32), σ)) = some q := hf
  refine lv_iload_n C.1 C.2.1 dX3_readOne_57 rfl (lv_at hl 1 rfl) ?_
  refine lv_iconst (v := (5 : Int32)) C.1 C.2.1 dX3_readOne_58 (by decide) ?_
  refine lv_icmp_lt (tgt := 64) C.1 C.2.1 dX3_readOne_59 (by decide) (fun c1 => ?_) (fun c1 => ?_)
  · have hf := if_t hf c1
    refine lv_aload_n C.1 C.2.1 dX3_readOne_64 rfl (lv_at hl 0 rfl) ?_
    refine x_av K h (x_V C K h [] (c_X3_goOn l κ G cy ad H.size σ v0 hk_v0 rfl) mi_X3_goOn rfl im_yX3_goOn se_yX3_goOn ml_RX3_142 cl_3 hk_v0 ⟨rfl, rfl, Nat.le_trans (show 0 + 1 ≤ (20 * dd + 21) by omega) hR.1, Nat.le_trans (show 8 + (1 + 11) + (0) ≤ (1000 * dd + 1040) by omega) hR.2⟩ hl (Nat.le_of_ble_eq_true rfl) dX3_readOne_65 ⟨Nat.zero_le _, Nat.zero_le _⟩ rfl) (fun H locs h hX => ?_)
    have hE := hE.trans hX
    have hk_v0 := hX.k hk_v0 (by decide)
    refine lv_iload_n C.1 C.2.1 dX3_readOne_68 rfl (lv_at hl 2 rfl) ?_
    refine lv_bipush (v := (40 : Int32)) C.1 C.2.1 dX3_readOne_69 (by decide) ?_
    refine lv_icmp_ne (tgt := 99) C.1 C.2.1 dX3_readOne_71 (by decide) (fun c3 => ?_) (fun c3 => ?_)
    · have hf := if_f hf c3
      refine lv_aload_n C.1 C.2.1 dX3_readOne_99 rfl (lv_at hl 0 rfl) ?_
      refine lv_iload_n C.1 C.2.1 dX3_readOne_100 rfl (lv_at hl 1 rfl) ?_
      refine lv_iconst (v := (1 : Int32)) C.1 C.2.1 dX3_readOne_101 (by decide) ?_
      refine lv_iadd C.1 C.2.1 dX3_readOne_102 ?_
      obtain ⟨q4, hq_q4, hf⟩ := ob_ hf
      refine x_az K h (x_V C K h [.int (v1 + (1 : Int32))] (hrec.2.2 κ G cy ad H.size (f_X3_goOn σ v0) v0 (v1 + (1 : Int32)) hk_v0 hq_q4) mi_X3_readOne rfl im_yX3_readOne se_yX3_readOne ml_RX3_170 cl_3 hk_v0 ⟨rfl, rfl, Nat.le_trans (show 20 * dd + 20 + 1 ≤ (20 * dd + 21) by omega) hR.1, Nat.le_trans (show 8 + (3 + 11) + (1000 * dd + 1000) ≤ (1000 * dd + 1040) by omega) hR.2⟩ hl (Nat.le_of_ble_eq_true rfl) dX3_readOne_103 ⟨Nat.zero_le _, Nat.zero_le _⟩ rfl) (fun H locs h hX hz5 => ?_)
      have hE := hE.trans hX
      have hk_v0 := hX.k hk_v0 (by decide)
      refine lv_if_ne (tgt := 111) C.1 C.2.1 dX3_readOne_106 (by decide) (fun c6 => ?_) (fun c6 => ?_)
      · have hf := if_f hf c6
        refine lv_aload_n C.1 C.2.1 dX3_readOne_111 rfl (lv_at hl 0 rfl) ?_
        refine lv_iconst (v := (3 : Int32)) C.1 C.2.1 dX3_readOne_112 (by decide) ?_
        obtain ⟨q7, hq_q7, hf⟩ := ob_ hf
        refine x_av K h (x_V C K h [.int (3 : Int32)] (c_X3_emit l κ G cy ad H.size q4.2 v0 (3 : Int32) hk_v0 hq_q7) mi_X3_emit rfl im_yX3_emit se_yX3_emit ml_RX3_154 cl_3 hk_v0 ⟨rfl, rfl, Nat.le_trans (show 1 + 1 ≤ (20 * dd + 21) by omega) hR.1, Nat.le_trans (show 8 + (2 + 11) + (21) ≤ (1000 * dd + 1040) by omega) hR.2⟩ hl (Nat.le_of_ble_eq_true rfl) dX3_readOne_113 ⟨Nat.zero_le _, Nat.zero_le _⟩ rfl) (fun H locs h hX => ?_)
        have hE := hE.trans hX
        have hk_v0 := hX.k hk_v0 (by decide)
        refine lv_iconst (v := (1 : Int32)) C.1 C.2.1 dX3_readOne_116 (by decide) ?_
        exact x_rzz C hr hlk h hE (by decide) (pf_1 (Option.some.inj hf)) (pf_2 (Option.some.inj hf)) dX3_readOne_117
      · have hf := if_t hf c6
        refine lv_iconst (v := (0 : Int32)) C.1 C.2.1 dX3_readOne_109 (by decide) ?_
        exact x_rzz C hr hlk h hE (by decide) (pf_1 (Option.some.inj hf)) (pf_2 (Option.some.inj hf)) dX3_readOne_110
    · have hf := if_t hf c3
      refine lv_aload_n C.1 C.2.1 dX3_readOne_74 rfl (lv_at hl 0 rfl) ?_
      refine lv_iload_n C.1 C.2.1 dX3_readOne_75 rfl (lv_at hl 1 rfl) ?_
      refine lv_iconst (v := (1 : Int32)) C.1 C.2.1 dX3_readOne_76 (by decide) ?_
      refine lv_iadd C.1 C.2.1 dX3_readOne_77 ?_
      obtain ⟨q8, hq_q8, hf⟩ := ob_ hf
      refine x_az K h (x_V C K h [.int (v1 + (1 : Int32))] (hrec.1 κ G cy ad H.size (f_X3_goOn σ v0) v0 (v1 + (1 : Int32)) hk_v0 hq_q8) mi_X3_readOr rfl im_yX3_readOr se_yX3_readOr ml_RX3_148 cl_3 hk_v0 ⟨rfl, rfl, Nat.le_trans (show 20 * dd + 20 + 1 ≤ (20 * dd + 21) by omega) hR.1, Nat.le_trans (show 8 + (3 + 11) + (1000 * dd + 1000) ≤ (1000 * dd + 1040) by omega) hR.2⟩ hl (Nat.le_of_ble_eq_true rfl) dX3_readOne_78 ⟨Nat.zero_le _, Nat.zero_le _⟩ rfl) (fun H locs h hX hz9 => ?_)
      have hE := hE.trans hX
      have hk_v0 := hX.k hk_v0 (by decide)
      refine lv_if_eq (tgt := 97) C.1 C.2.1 dX3_readOne_81 (by decide) (fun c10 => ?_) (fun c10 => ?_)
      · have hf := if_t hf c10
        refine lv_iconst (v := (0 : Int32)) C.1 C.2.1 dX3_readOne_97 (by decide) ?_
        exact x_rzz C hr hlk h hE (by decide) (pf_1 (Option.some.inj hf)) (pf_2 (Option.some.inj hf)) dX3_readOne_98
      · have hf := if_f hf c10
        refine lv_aload_n C.1 C.2.1 dX3_readOne_84 rfl (lv_at hl 0 rfl) ?_
        refine lv_bipush (v := (41 : Int32)) C.1 C.2.1 dX3_readOne_85 (by decide) ?_
        obtain ⟨q11, hq_q11, hf⟩ := ob_ hf
        refine x_az K h (x_V C K h [.int (41 : Int32)] (c_X3_pass l κ G cy ad H.size q8.2 v0 (41 : Int32) hk_v0 hq_q11) mi_X3_pass rfl im_yX3_pass se_yX3_pass ml_RX3_145 cl_3 hk_v0 ⟨rfl, rfl, Nat.le_trans (show 1 + 1 ≤ (20 * dd + 21) by omega) hR.1, Nat.le_trans (show 8 + (2 + 11) + (20) ≤ (1000 * dd + 1040) by omega) hR.2⟩ hl (Nat.le_of_ble_eq_true rfl) dX3_readOne_87 ⟨Nat.zero_le _, Nat.zero_le _⟩ rfl) (fun H locs h hX hz12 => ?_)
        have hE := hE.trans hX
        have hk_v0 := hX.k hk_v0 (by decide)
        refine lv_if_eq (tgt := 97) C.1 C.2.1 dX3_readOne_90 (by decide) (fun c13 => ?_) (fun c13 => ?_)
        · have hf := if_t hf c13
          refine lv_iconst (v := (0 : Int32)) C.1 C.2.1 dX3_readOne_97 (by decide) ?_
          exact x_rzz C hr hlk h hE (by decide) (pf_1 (Option.some.inj hf)) (pf_2 (Option.some.inj hf)) dX3_readOne_98
        · have hf := if_f hf c13
          refine lv_iconst (v := (1 : Int32)) C.1 C.2.1 dX3_readOne_93 (by decide) ?_
          refine lv_goto (tgt := 98) C.1 C.2.1 dX3_readOne_94 (by decide) ?_
          exact x_rzz C hr hlk h hE (by decide) (pf_1 (Option.some.inj hf)) (pf_2 (Option.some.inj hf)) dX3_readOne_98
  · have hf := if_f hf c1
    refine lv_iconst (v := (0 : Int32)) C.1 C.2.1 dX3_readOne_62 (by decide) ?_
    exact x_rzz C hr hlk h hE (by decide) (pf_1 (Option.some.inj hf)) (pf_2 (Option.some.inj hf)) dX3_readOne_63
def f_X3_readOne (rOr rNot rOne : Rc_) (fu : Nat) (σ : St_) (a0 : Nat) (x1 : Int32) : Option (Int32 × St_) := (f_X3_token σ a0).bind fun q2 => if q2 = (2 : Int32) then (f_X3_readNumber σ a0).bind fun q11 => some (q11.1, q11.2) else if (f_X8_isBelow (q2 - (16 : Int32)) (6 : Int32)) = 0 then if q2 = (45 : Int32) then f_X3_readOne_57 rOr rNot rOne fu σ a0 x1 q2 else if q2 = (40 : Int32) then f_X3_readOne_57 rOr rNot rOne fu σ a0 x1 q2 else some ((0 : Int32), σ) else (f_X3_emit (f_X3_goOn σ a0) a0 (((q2 - (16 : Int32)) <<< ((4 : Int32) &&& 31)) ||| (1 : Int32))).bind fun q10 => some ((1 : Int32), q10)
set_option maxHeartbeats 4000000 in
set_option maxRecDepth 100000 in
theorem w_X3_readOne {p : Program} {l : Launch} {e : Env} {R : Room} {s : State} {m : MethodId} {args : Array Value} {below : List Frame} {meth : Method} {c : Code} {κ : Ka_} {G : va_G} {cy : Nat → ClassId} {ad : Nat → Nat} {sz : Nat} {σ0 : St_} (fu : Nat) (rOr rNot rOne : Rc_) {dd : Nat} (hrec : Rs_ l rOr rNot rOne dd)  (C : CallFix p m c cX3_readOne 3 s args wU_ RX3) (K : Kx_ κ G cy (va_A (wl_ cy ad σ0) sz) s) (hr : meth.sig.returnType = some .boolean) (hlk : meth.locks = false) (hR : (20 * dd + 21) ≤ R.frames ∧ (1000 * dd + 1040) ≤ R.locals) {q : Int32 × St_} : ∀ (σ : St_) (a0 : Nat) (x1 : Int32), Ex_ σ0 σ → kd_ σ a0 = 3 → f_X3_readOne rOr rNot rOne fu σ a0 x1 = some q → ∀ (H : Heap) (locs : List Loc) (ls : Array Slot), Ht_ G cy (va_A (wl_ cy ad σ0) sz) s ad σ H locs → lv_has ls 3 [(0, .ref (ad a0)), (1, .int x1)] → W p l e R s m args below meth c H locs 0 0 (MQ below (Qz_ G cy ad σ0 q.2 sz q.1) args s 0 0 (va_A (wl_ cy ad σ0) sz)) (F0 m 0 ls []) := by
  intro σ a0 x1 hE hk_a0 hf H locs ls h hl
  have hf : ((f_X3_token σ a0).bind fun q2 => if q2 = (2 : Int32) then (f_X3_readNumber σ a0).bind fun q11 => some (q11.1, q11.2) else if (f_X8_isBelow (q2 - (16 : Int32)) (6 : Int32)) = 0 then if q2 = (45 : Int32) then f_X3_readOne_57 rOr rNot rOne fu σ a0 x1 q2 else if q2 = (40 : Int32) then f_X3_readOne_57 rOr rNot rOne fu σ a0 x1 q2 else some ((0 : Int32), σ) else (f_X3_emit (f_X3_goOn σ a0) a0 (((q2 - (16 : Int32)) <<< ((4 : Int32) &&& 31)) ||| (1 : Int32))).bind fun q10 => some ((1 : Int32), q10)) = some q := hf
  refine lv_aload_n C.1 C.2.1 dX3_readOne_0 rfl (lv_at hl 0 rfl) ?_
  obtain ⟨q2, hq_q2, hf⟩ := ob_ hf
  refine x_ai K h (x_V C K h [] (c_X3_token l κ G cy ad H.size σ a0 hk_a0 hq_q2) mi_X3_token rfl im_yX3_token se_yX3_token ml_RX3_57 cl_3 hk_a0 ⟨rfl, rfl, Nat.le_trans (show 0 + 1 ≤ (20 * dd + 21) by omega) hR.1, Nat.le_trans (show 8 + (1 + 11) + (0) ≤ (1000 * dd + 1040) by omega) hR.2⟩ hl (Nat.le_of_ble_eq_true rfl) dX3_readOne_1 ⟨Nat.zero_le _, Nat.zero_le _⟩ rfl) (fun H locs h hX => ?_)
  refine lv_istore_n (i := 2) (lv' := [(2, .int q2), (0, .ref (ad a0)), (1, .int x1)]) C.1 C.2.1 dX3_readOne_4 rfl hl (by decide) rfl (fun ls hl => ?_)
  refine lv_iload_n C.1 C.2.1 dX3_readOne_5 rfl (lv_at hl 0 rfl) ?_
  refine lv_iconst (v := (2 : Int32)) C.1 C.2.1 dX3_readOne_6 (by decide) ?_
  refine lv_icmp_ne (tgt := 15) C.1 C.2.1 dX3_readOne_7 (by decide) (fun c3 => ?_) (fun c3 => ?_)
  · have hf := if_f hf c3
    refine lv_iload_n C.1 C.2.1 dX3_readOne_15 rfl (lv_at hl 0 rfl) ?_
    refine lv_bipush (v := (16 : Int32)) C.1 C.2.1 dX3_readOne_16 (by decide) ?_
    refine lv_isub C.1 C.2.1 dX3_readOne_18 ?_
    refine lv_bipush (v := (6 : Int32)) C.1 C.2.1 dX3_readOne_19 (by decide) ?_
    refine x_az K h (x_SN C K h [.int (q2 - (16 : Int32)), .int (6 : Int32)] (c_X8_isBelow l κ G cy ad H.size σ (q2 - (16 : Int32)) (6 : Int32) rfl) mi_X8_isBelow rfl st_yX8_isBelow nm_RX3_46 ⟨rfl, rfl, Nat.le_trans (show 0 + 1 ≤ (20 * dd + 21) by omega) hR.1, Nat.le_trans (show 8 + (2 + 11) + (0) ≤ (1000 * dd + 1040) by omega) hR.2⟩ hl (Nat.le_of_ble_eq_true rfl) dX3_readOne_21 ⟨Nat.zero_le _, Nat.zero_le _⟩ rfl) (fun H locs h hX hz5 => ?_)
    refine lv_if_eq (tgt := 45) C.1 C.2.1 dX3_readOne_24 (by decide) (fun c6 => ?_) (fun c6 => ?_)
    · have hf := if_t hf c6
      refine lv_iload_n C.1 C.2.1 dX3_readOne_45 rfl (lv_at hl 0 rfl) ?_
      refine lv_bipush (v := (45 : Int32)) C.1 C.2.1 dX3_readOne_46 (by decide) ?_
      refine lv_icmp_eq (tgt := 57) C.1 C.2.1 dX3_readOne_48 (by decide) (fun c7 => ?_) (fun c7 => ?_)
      · have hf := if_t hf c7
        exact w_X3_readOne_57 fu rOr rNot rOne hrec C K hr hlk hR σ a0 x1 q2 hE hk_a0 hf _ _ _ h (lv_sub hl [1, 2, 0] rfl)
      · have hf := if_f hf c7
        refine lv_iload_n C.1 C.2.1 dX3_readOne_51 rfl (lv_at hl 0 rfl) ?_
        refine lv_bipush (v := (40 : Int32)) C.1 C.2.1 dX3_readOne_52 (by decide) ?_
        refine lv_icmp_ne (tgt := 62) C.1 C.2.1 dX3_readOne_54 (by decide) (fun c8 => ?_) (fun c8 => ?_)
        · have hf := if_f hf c8
          refine lv_iconst (v := (0 : Int32)) C.1 C.2.1 dX3_readOne_62 (by decide) ?_
          exact x_rzz C hr hlk h hE (by decide) (pf_1 (Option.some.inj hf)) (pf_2 (Option.some.inj hf)) dX3_readOne_63
        · have hf := if_t hf c8
          exact w_X3_readOne_57 fu rOr rNot rOne hrec C K hr hlk hR σ a0 x1 q2 hE hk_a0 hf _ _ _ h (lv_sub hl [1, 2, 0] rfl)
    · have hf := if_f hf c6
      refine lv_aload_n C.1 C.2.1 dX3_readOne_27 rfl (lv_at hl 1 rfl) ?_
      refine x_av K h (x_V C K h [] (c_X3_goOn l κ G cy ad H.size σ a0 hk_a0 rfl) mi_X3_goOn rfl im_yX3_goOn se_yX3_goOn ml_RX3_142 cl_3 hk_a0 ⟨rfl, rfl, Nat.le_trans (show 0 + 1 ≤ (20 * dd + 21) by omega) hR.1, Nat.le_trans (show 8 + (1 + 11) + (0) ≤ (1000 * dd + 1040) by omega) hR.2⟩ hl (Nat.le_of_ble_eq_true rfl) dX3_readOne_28 ⟨Nat.zero_le _, Nat.zero_le _⟩ rfl) (fun H locs h hX => ?_)
      have hE := hE.trans hX
      have hk_a0 := hX.k hk_a0 (by decide)
      refine lv_aload_n C.1 C.2.1 dX3_readOne_31 rfl (lv_at hl 1 rfl) ?_
      refine lv_iload_n C.1 C.2.1 dX3_readOne_32 rfl (lv_at hl 0 rfl) ?_
      refine lv_bipush (v := (16 : Int32)) C.1 C.2.1 dX3_readOne_33 (by decide) ?_
      refine lv_isub C.1 C.2.1 dX3_readOne_35 ?_
      refine lv_iconst (v := (4 : Int32)) C.1 C.2.1 dX3_readOne_36 (by decide) ?_
      refine lv_ishl C.1 C.2.1 dX3_readOne_37 ?_
      refine lv_iconst (v := (1 : Int32)) C.1 C.2.1 dX3_readOne_38 (by decide) ?_
      refine lv_ior C.1 C.2.1 dX3_readOne_39 ?_
      obtain ⟨q10, hq_q10, hf⟩ := ob_ hf
      refine x_av K h (x_V C K h [.int (((q2 - (16 : Int32)) <<< ((4 : Int32) &&& 31)) ||| (1 : Int32))] (c_X3_emit l κ G cy ad H.size (f_X3_goOn σ a0) a0 (((q2 - (16 : Int32)) <<< ((4 : Int32) &&& 31)) ||| (1 : Int32)) hk_a0 hq_q10) mi_X3_emit rfl im_yX3_emit se_yX3_emit ml_RX3_154 cl_3 hk_a0 ⟨rfl, rfl, Nat.le_trans (show 1 + 1 ≤ (20 * dd + 21) by omega) hR.1, Nat.le_trans (show 8 + (2 + 11) + (21) ≤ (1000 * dd + 1040) by omega) hR.2⟩ hl (Nat.le_of_ble_eq_true rfl) dX3_readOne_40 ⟨Nat.zero_le _, Nat.zero_le _⟩ rfl) (fun H locs h hX => ?_)
      have hE := hE.trans hX
      have hk_a0 := hX.k hk_a0 (by decide)
      refine lv_iconst (v := (1 : Int32)) C.1 C.2.1 dX3_readOne_43 (by decide) ?_
      exact x_rzz C hr hlk h hE (by decide) (pf_1 (Option.some.inj hf)) (pf_2 (Option.some.inj hf)) dX3_readOne_44
  · have hf := if_t hf c3
    refine lv_aload_n C.1 C.2.1 dX3_readOne_10 rfl (lv_at hl 1 rfl) ?_
    obtain ⟨q11, hq_q11, hf⟩ := ob_ hf
    refine x_az K h (x_V C K h [] (c_X3_readNumber l κ G cy ad H.size σ a0 hk_a0 hq_q11) mi_X3_readNumber rfl im_yX3_readNumber se_yX3_readNumber ml_RX3_173 cl_3 hk_a0 ⟨rfl, rfl, Nat.le_trans (show 2 + 1 ≤ (20 * dd + 21) by omega) hR.1, Nat.le_trans (show 8 + (1 + 11) + (42) ≤ (1000 * dd + 1040) by omega) hR.2⟩ hl (Nat.le_of_ble_eq_true rfl) dX3_readOne_11 ⟨Nat.zero_le _, Nat.zero_le _⟩ rfl) (fun H locs h hX hz12 => ?_)
    have hE := hE.trans hX
    have hk_a0 := hX.k hk_a0 (by decide)
    exact x_rzz C hr hlk h hE hz12 (pf_1 (Option.some.inj hf)) (pf_2 (Option.some.inj hf)) dX3_readOne_14
theorem c_X3_readOne (fu : Nat) (l : Launch) (κ : Ka_) (G : va_G) (cy : Nat → ClassId) (ad : Nat → Nat) (sz : Nat) (σ : St_) (rOr rNot rOne : Rc_) {dd : Nat} (hrec : Rs_ l rOr rNot rOne dd) (a0 : Nat) (x1 : Int32) (hk_a0 : kd_ σ a0 = 3) {q : Int32 × St_} (hf : f_X3_readOne rOr rNot rOne fu σ a0 x1 = some q) : Met l yX3_readOne (Cond.code yX3_readOne cX3_readOne 3 (some .boolean) :: wU_) { frames := (20 * dd + 21), cells := 0, slots := 0, locals := (1000 * dd + 1040) } (va_Pc [.ref (ad a0), .int x1] (Pr_ κ G cy ad σ sz)) (Qz_ G cy ad σ q.2 sz q.1) 0 0 (va_A (wl_ cy ad σ) sz) :=
  x_met (by decide) (fun p e R s m below meth c ls hR C hr hlk hin _ K h hl => w_X3_readOne fu rOr rNot rOne hrec C K hr hlk ⟨hR.1, hR.2.1⟩ σ a0 x1 Ex_.rf hk_a0 hf s.heap [] ls h hl) (Nat.le_of_ble_eq_true rfl)
-- X3_readTerm
def f_X3_readTerm_12 (rOr rNot rOne : Rc_) (fu : Nat) : Nat → St_ → Nat → Int32 → Int32 → Option (Int32 × St_)
  | 0 => fun _ _ _ _ => none
  | n + 1 => fun σ  v0  v1  v2 => if (160 : Int32) ≤ v2 then some ((1 : Int32), σ) else (f_X3_token σ v0).bind fun q2 => if q2 = (42 : Int32) then (f_X3_readOne rOr rNot rOne fu (f_X3_goOn σ v0) v0 v1).bind fun q5 => if q5.1 = 0 then some ((0 : Int32), q5.2) else (f_X3_emit q5.2 v0 (10 : Int32)).bind fun q8 => (f_X3_readTerm_12 rOr rNot rOne fu n) q8 v0 v1 (v2 + (1 : Int32)) else some ((1 : Int32), σ)
set_option maxHeartbeats 4000000 in
set_option maxRecDepth 100000 in
theorem w_X3_readTerm_12 {p : Program} {l : Launch} {e : Env} {R : Room} {s : State} {m : MethodId} {args : Array Value} {below : List Frame} {meth : Method} {c : Code} {κ : Ka_} {G : va_G} {cy : Nat → ClassId} {ad : Nat → Nat} {sz : Nat} {σ0 : St_} (fu : Nat) (rOr rNot rOne : Rc_) {dd : Nat} (hrec : Rs_ l rOr rNot rOne dd)  (C : CallFix p m c cX3_readTerm 3 s args wU_ RX3) (K : Kx_ κ G cy (va_A (wl_ cy ad σ0) sz) s) (hr : meth.sig.returnType = some .boolean) (hlk : meth.locks = false) (hR : (20 * dd + 22) ≤ R.frames ∧ (1000 * dd + 1080) ≤ R.locals) {q : Int32 × St_} : ∀ n : Nat, ∀ (σ : St_) (v0 : Nat) (v1 : Int32) (v2 : Int32), Ex_ σ0 σ → kd_ σ v0 = 3 → f_X3_readTerm_12 rOr rNot rOne fu n σ v0 v1 v2 = some q → ∀ (H : Heap) (locs : List Loc) (ls : Array Slot), Ht_ G cy (va_A (wl_ cy ad σ0) sz) s ad σ H locs → lv_has ls 3 [(0, .ref (ad v0)), (1, .int v1), (2, .int v2)] → W p l e R s m args below meth c H locs 0 0 (MQ below (Qz_ G cy ad σ0 q.2 sz q.1) args s 0 0 (va_A (wl_ cy ad σ0) sz)) (F0 m 12 ls []) := by
  intro n
  induction n with
  | zero =>
    intro σ v0 v1 v2 hE hk_v0 hf H locs ls h hl
    cases hf
  | succ n ih =>
    intro σ v0 v1 v2 hE hk_v0 hf H locs ls h hl
    have hf : (if (160 : Int32) ≤ v2 then some ((1 : Int32), σ) else (f_X3_token σ v0).bind fun q2 => if q2 = (42 : Int32) then (f_X3_readOne rOr rNot rOne fu (f_X3_goOn σ v0) v0 v1).bind fun q5 => if q5.1 = 0 then some ((0 : Int32), q5.2) else (f_X3_emit q5.2 v0 (10 : Int32)).bind fun q8 => (f_X3_readTerm_12 rOr rNot rOne fu n) q8 v0 v1 (v2 + (1 : Int32)) else some ((1 : Int32), σ)) = some q := hf
    refine lv_iload_n C.1 C.2.1 dX3_readTerm_12 rfl (lv_at hl 2 rfl) ?_
    refine lv_sipush (v := (160 : Int32)) C.1 C.2.1 dX3_readTerm_13 (by decide) ?_
    refine lv_icmp_ge (tgt := 54) C.1 C.2.1 dX3_readTerm_16 (by decide) (fun c1 => ?_) (fun c1 => ?_)
    · have hf := if_t hf c1
      refine lv_iconst (v := (1 : Int32)) C.1 C.2.1 dX3_readTerm_54 (by decide) ?_
      exact x_rzz C hr hlk h hE (by decide) (pf_1 (Option.some.inj hf)) (pf_2 (Option.some.inj hf)) dX3_readTerm_55
    · have hf := if_f hf c1
      refine lv_aload_n C.1 C.2.1 dX3_readTerm_19 rfl (lv_at hl 0 rfl) ?_
      obtain ⟨q2, hq_q2, hf⟩ := ob_ hf
      refine x_ai K h (x_V C K h [] (c_X3_token l κ G cy ad H.size σ v0 hk_v0 hq_q2) mi_X3_token rfl im_yX3_token se_yX3_token ml_RX3_57 cl_3 hk_v0 ⟨rfl, rfl, Nat.le_trans (show 0 + 1 ≤ (20 * dd + 22) by omega) hR.1, Nat.le_trans (show 8 + (1 + 11) + (0) ≤ (1000 * dd + 1080) by omega) hR.2⟩ hl (Nat.le_of_ble_eq_true rfl) dX3_readTerm_20 ⟨Nat.zero_le _, Nat.zero_le _⟩ rfl) (fun H locs h hX => ?_)
      refine lv_bipush (v := (42 : Int32)) C.1 C.2.1 dX3_readTerm_23 (by decide) ?_
      refine lv_icmp_ne (tgt := 54) C.1 C.2.1 dX3_readTerm_25 (by decide) (fun c3 => ?_) (fun c3 => ?_)
      · have hf := if_f hf c3
        refine lv_iconst (v := (1 : Int32)) C.1 C.2.1 dX3_readTerm_54 (by decide) ?_
        exact x_rzz C hr hlk h hE (by decide) (pf_1 (Option.some.inj hf)) (pf_2 (Option.some.inj hf)) dX3_readTerm_55
      · have hf := if_t hf c3
        refine lv_aload_n C.1 C.2.1 dX3_readTerm_28 rfl (lv_at hl 0 rfl) ?_
        refine x_av K h (x_V C K h [] (c_X3_goOn l κ G cy ad H.size σ v0 hk_v0 rfl) mi_X3_goOn rfl im_yX3_goOn se_yX3_goOn ml_RX3_142 cl_3 hk_v0 ⟨rfl, rfl, Nat.le_trans (show 0 + 1 ≤ (20 * dd + 22) by omega) hR.1, Nat.le_trans (show 8 + (1 + 11) + (0) ≤ (1000 * dd + 1080) by omega) hR.2⟩ hl (Nat.le_of_ble_eq_true rfl) dX3_readTerm_29 ⟨Nat.zero_le _, Nat.zero_le _⟩ rfl) (fun H locs h hX => ?_)
        have hE := hE.trans hX
        have hk_v0 := hX.k hk_v0 (by decide)
        refine lv_aload_n C.1 C.2.1 dX3_readTerm_32 rfl (lv_at hl 0 rfl) ?_
        refine lv_iload_n C.1 C.2.1 dX3_readTerm_33 rfl (lv_at hl 1 rfl) ?_
        obtain ⟨q5, hq_q5, hf⟩ := ob_ hf
        refine x_az K h (x_V C K h [.int v1] (c_X3_readOne fu l κ G cy ad H.size (f_X3_goOn σ v0) rOr rNot rOne hrec v0 v1 hk_v0 hq_q5) mi_X3_readOne rfl im_yX3_readOne se_yX3_readOne ml_RX3_170 cl_3 hk_v0 ⟨rfl, rfl, Nat.le_trans (show 20 * dd + 21 + 1 ≤ (20 * dd + 22) by omega) hR.1, Nat.le_trans (show 8 + (3 + 11) + (1000 * dd + 1040) ≤ (1000 * dd + 1080) by omega) hR.2⟩ hl (Nat.le_of_ble_eq_true rfl) dX3_readTerm_34 ⟨Nat.zero_le _, Nat.zero_le _⟩ rfl) (fun H locs h hX hz6 => ?_)
        have hE := hE.trans hX
        have hk_v0 := hX.k hk_v0 (by decide)
        refine lv_if_ne (tgt := 42) C.1 C.2.1 dX3_readTerm_37 (by decide) (fun c7 => ?_) (fun c7 => ?_)
        · have hf := if_f hf c7
          refine lv_aload_n C.1 C.2.1 dX3_readTerm_42 rfl (lv_at hl 0 rfl) ?_
          refine lv_bipush (v := (10 : Int32)) C.1 C.2.1 dX3_readTerm_43 (by decide) ?_
          obtain ⟨q8, hq_q8, hf⟩ := ob_ hf
          refine x_av K h (x_V C K h [.int (10 : Int32)] (c_X3_emit l κ G cy ad H.size q5.2 v0 (10 : Int32) hk_v0 hq_q8) mi_X3_emit rfl im_yX3_emit se_yX3_emit ml_RX3_154 cl_3 hk_v0 ⟨rfl, rfl, Nat.le_trans (show 1 + 1 ≤ (20 * dd + 22) by omega) hR.1, Nat.le_trans (show 8 + (2 + 11) + (21) ≤ (1000 * dd + 1080) by omega) hR.2⟩ hl (Nat.le_of_ble_eq_true rfl) dX3_readTerm_45 ⟨Nat.zero_le _, Nat.zero_le _⟩ rfl) (fun H locs h hX => ?_)
          have hE := hE.trans hX
          have hk_v0 := hX.k hk_v0 (by decide)
          refine lv_iinc (v := v2 + (1 : Int32)) (lv' := [(2, .int (v2 + (1 : Int32))), (0, .ref (ad v0)), (1, .int v1)]) C.1 C.2.1 dX3_readTerm_48 hl (k := 2) rfl rfl (by decide) rfl (fun ls hl => ?_)
          refine lv_goto (tgt := 12) C.1 C.2.1 dX3_readTerm_51 (by decide) ?_
          exact ih q8 v0 v1 (v2 + (1 : Int32)) hE hk_v0 hf _ _ _ h (lv_sub hl [1, 2, 0] rfl)
        · have hf := if_t hf c7
          refine lv_iconst (v := (0 : Int32)) C.1 C.2.1 dX3_readTerm_40 (by decide) ?_
          exact x_rzz C hr hlk h hE (by decide) (pf_1 (Option.some.inj hf)) (pf_2 (Option.some.inj hf)) dX3_readTerm_41
def f_X3_readTerm (rOr rNot rOne : Rc_) (fu : Nat) (σ : St_) (a0 : Nat) (x1 : Int32) : Option (Int32 × St_) := (f_X3_readOne rOr rNot rOne fu σ a0 x1).bind fun q2 => if q2.1 = 0 then some ((0 : Int32), q2.2) else f_X3_readTerm_12 rOr rNot rOne fu fu q2.2 a0 x1 (0 : Int32)
set_option maxHeartbeats 4000000 in
set_option maxRecDepth 100000 in
theorem w_X3_readTerm {p : Program} {l : Launch} {e : Env} {R : Room} {s : State} {m : MethodId} {args : Array Value} {below : List Frame} {meth : Method} {c : Code} {κ : Ka_} {G : va_G} {cy : Nat → ClassId} {ad : Nat → Nat} {sz : Nat} {σ0 : St_} (fu : Nat) (rOr rNot rOne : Rc_) {dd : Nat} (hrec : Rs_ l rOr rNot rOne dd)  (C : CallFix p m c cX3_readTerm 3 s args wU_ RX3) (K : Kx_ κ G cy (va_A (wl_ cy ad σ0) sz) s) (hr : meth.sig.returnType = some .boolean) (hlk : meth.locks = false) (hR : (20 * dd + 22) ≤ R.frames ∧ (1000 * dd + 1080) ≤ R.locals) {q : Int32 × St_} : ∀ (σ : St_) (a0 : Nat) (x1 : Int32), Ex_ σ0 σ → kd_ σ a0 = 3 → f_X3_readTerm rOr rNot rOne fu σ a0 x1 = some q → ∀ (H : Heap) (locs : List Loc) (ls : Array Slot), Ht_ G cy (va_A (wl_ cy ad σ0) sz) s ad σ H locs → lv_has ls 3 [(0, .ref (ad a0)), (1, .int x1)] → W p l e R s m args below meth c H locs 0 0 (MQ below (Qz_ G cy ad σ0 q.2 sz q.1) args s 0 0 (va_A (wl_ cy ad σ0) sz)) (F0 m 0 ls []) := by
  intro σ a0 x1 hE hk_a0 hf H locs ls h hl
  have hf : ((f_X3_readOne rOr rNot rOne fu σ a0 x1).bind fun q2 => if q2.1 = 0 then some ((0 : Int32), q2.2) else f_X3_readTerm_12 rOr rNot rOne fu fu q2.2 a0 x1 (0 : Int32)) = some q := hf
  refine lv_aload_n C.1 C.2.1 dX3_readTerm_0 rfl (lv_at hl 0 rfl) ?_
  refine lv_iload_n C.1 C.2.1 dX3_readTerm_1 rfl (lv_at hl 1 rfl) ?_
  obtain ⟨q2, hq_q2, hf⟩ := ob_ hf
  refine x_az K h (x_V C K h [.int x1] (c_X3_readOne fu l κ G cy ad H.size σ rOr rNot rOne hrec a0 x1 hk_a0 hq_q2) mi_X3_readOne rfl im_yX3_readOne se_yX3_readOne ml_RX3_170 cl_3 hk_a0 ⟨rfl, rfl, Nat.le_trans (show 20 * dd + 21 + 1 ≤ (20 * dd + 22) by omega) hR.1, Nat.le_trans (show 8 + (3 + 11) + (1000 * dd + 1040) ≤ (1000 * dd + 1080) by omega) hR.2⟩ hl (Nat.le_of_ble_eq_true rfl) dX3_readTerm_2 ⟨Nat.zero_le _, Nat.zero_le _⟩ rfl) (fun H locs h hX hz3 => ?_)
  have hE := hE.trans hX
  have hk_a0 := hX.k hk_a0 (by decide)
  refine lv_if_ne (tgt := 10) C.1 C.2.1 dX3_readTerm_5 (by decide) (fun c4 => ?_) (fun c4 => ?_)
  · have hf := if_f hf c4
    refine lv_iconst (v := (0 : Int32)) C.1 C.2.1 dX3_readTerm_10 (by decide) ?_
    refine lv_istore_n (i := 2) (lv' := [(2, .int (0 : Int32)), (0, .ref (ad a0)), (1, .int x1)]) C.1 C.2.1 dX3_readTerm_11 rfl hl (by decide) rfl (fun ls hl => ?_)
    exact w_X3_readTerm_12 fu rOr rNot rOne hrec C K hr hlk hR fu q2.2 a0 x1 (0 : Int32) hE hk_a0 hf _ _ _ h (lv_sub hl [1, 2, 0] rfl)
  · have hf := if_t hf c4
    refine lv_iconst (v := (0 : Int32)) C.1 C.2.1 dX3_readTerm_8 (by decide) ?_
    exact x_rzz C hr hlk h hE (by decide) (pf_1 (Option.some.inj hf)) (pf_2 (Option.some.inj hf)) dX3_readTerm_9
theorem c_X3_readTerm (fu : Nat) (l : Launch) (κ : Ka_) (G : va_G) (cy : Nat → ClassId) (ad : Nat → Nat) (sz : Nat) (σ : St_) (rOr rNot rOne : Rc_) {dd : Nat} (hrec : Rs_ l rOr rNot rOne dd) (a0 : Nat) (x1 : Int32) (hk_a0 : kd_ σ a0 = 3) {q : Int32 × St_} (hf : f_X3_readTerm rOr rNot rOne fu σ a0 x1 = some q) : Met l yX3_readTerm (Cond.code yX3_readTerm cX3_readTerm 3 (some .boolean) :: wU_) { frames := (20 * dd + 22), cells := 0, slots := 0, locals := (1000 * dd + 1080) } (va_Pc [.ref (ad a0), .int x1] (Pr_ κ G cy ad σ sz)) (Qz_ G cy ad σ q.2 sz q.1) 0 0 (va_A (wl_ cy ad σ) sz) :=
  x_met (by decide) (fun p e R s m below meth c ls hR C hr hlk hin _ K h hl => w_X3_readTerm fu rOr rNot rOne hrec C K hr hlk ⟨hR.1, hR.2.1⟩ σ a0 x1 Ex_.rf hk_a0 hf s.heap [] ls h hl) (Nat.le_of_ble_eq_true rfl)
-- X3_readSum
def f_X3_readSum_37 (rOr rNot rOne : Rc_) (fu : Nat) (k12 : St_ → Nat → Int32 → Int32 → Option (Int32 × St_)) (σ : St_) (v0 : Nat) (v1 : Int32) (v2 : Int32) : Option (Int32 × St_) := (f_X3_token σ v0).bind fun q1 => (f_X3_readTerm rOr rNot rOne fu (f_X3_goOn σ v0) v0 v1).bind fun q3 => if q3.1 = 0 then some ((0 : Int32), q3.2) else if q1 = (43 : Int32) then (f_X3_emit q3.2 v0 (8 : Int32)).bind fun q8 => k12 q8 v0 v1 (v2 + (1 : Int32)) else (f_X3_emit q3.2 v0 (9 : Int32)).bind fun q7 => k12 q7 v0 v1 (v2 + (1 : Int32))
set_option maxHeartbeats 4000000 in
set_option maxRecDepth 100000 in
theorem w_X3_readSum_37 {p : Program} {l : Launch} {e : Env} {R : Room} {s : State} {m : MethodId} {args : Array Value} {below : List Frame} {meth : Method} {c : Code} {κ : Ka_} {G : va_G} {cy : Nat → ClassId} {ad : Nat → Nat} {sz : Nat} {σ0 : St_} (fu : Nat) (rOr rNot rOne : Rc_) {dd : Nat} (hrec : Rs_ l rOr rNot rOne dd)  (C : CallFix p m c cX3_readSum 4 s args wU_ RX3) (K : Kx_ κ G cy (va_A (wl_ cy ad σ0) sz) s) (hr : meth.sig.returnType = some .boolean) (hlk : meth.locks = false) (hR : (20 * dd + 23) ≤ R.frames ∧ (1000 * dd + 1120) ≤ R.locals) {q : Int32 × St_} (k12 : St_ → Nat → Int32 → Int32 → Option (Int32 × St_)) (hk12 : ∀ (σ : St_) (v0 : Nat) (v1 : Int32) (v2 : Int32), Ex_ σ0 σ → kd_ σ v0 = 3 → k12 σ v0 v1 v2 = some q → ∀ (H : Heap) (locs : List Loc) (ls : Array Slot), Ht_ G cy (va_A (wl_ cy ad σ0) sz) s ad σ H locs → lv_has ls 4 [(0, .ref (ad v0)), (1, .int v1), (2, .int v2)] → W p l e R s m args below meth c H locs 0 0 (MQ below (Qz_ G cy ad σ0 q.2 sz q.1) args s 0 0 (va_A (wl_ cy ad σ0) sz)) (F0 m 12 ls [])) : ∀ (σ : St_) (v0 : Nat) (v1 : Int32) (v2 : Int32), Ex_ σ0 σ → kd_ σ v0 = 3 → f_X3_readSum_37 rOr rNot rOne fu k12 σ v0 v1 v2 = some q → ∀ (H : Heap) (locs : List Loc) (ls : Array Slot), Ht_ G cy (va_A (wl_ cy ad σ0) sz) s ad σ H locs → lv_has ls 4 [(0, .ref (ad v0)), (1, .int v1), (2, .int v2)] → W p l e R s m args below meth c H locs 0 0 (MQ below (Qz_ G cy ad σ0 q.2 sz q.1) args s 0 0 (va_A (wl_ cy ad σ0) sz)) (F0 m 37 ls []) := by
  intro σ v0 v1 v2 hE hk_v0 hf H locs ls h hl
  have hf : ((f_X3_token σ v0).bind fun q1 => (f_X3_readTerm rOr rNot rOne fu (f_X3_goOn σ v0) v0 v1).bind fun q3 => if q3.1 = 0 then some ((0 : Int32), q3.2) else if q1 = (43 : Int32) then (f_X3_emit q3.2 v0 (8 : Int32)).bind fun q8 => k12 q8 v0 v1 (v2 + (1 : Int32)) else (f_X3_emit q3.2 v0 (9 : Int32)).bind fun q7 => k12 q7 v0 v1 (v2 + (1 : Int32))) = some q := hf
  refine lv_aload_n C.1 C.2.1 dX3_readSum_37 rfl (lv_at hl 0 rfl) ?_
  obtain ⟨q1, hq_q1, hf⟩ := ob_ hf
  refine x_ai K h (x_V C K h [] (c_X3_token l κ G cy ad H.size σ v0 hk_v0 hq_q1) mi_X3_token rfl im_yX3_token se_yX3_token ml_RX3_57 cl_3 hk_v0 ⟨rfl, rfl, Nat.le_trans (show 0 + 1 ≤ (20 * dd + 23) by omega) hR.1, Nat.le_trans (show 8 + (1 + 11) + (0) ≤ (1000 * dd + 1120) by omega) hR.2⟩ hl (Nat.le_of_ble_eq_true rfl) dX3_readSum_38 ⟨Nat.zero_le _, Nat.zero_le _⟩ rfl) (fun H locs h hX => ?_)
  refine lv_istore_n (i := 3) (lv' := [(3, .int q1), (0, .ref (ad v0)), (1, .int v1), (2, .int v2)]) C.1 C.2.1 dX3_readSum_41 rfl hl (by decide) rfl (fun ls hl => ?_)
  refine lv_aload_n C.1 C.2.1 dX3_readSum_42 rfl (lv_at hl 1 rfl) ?_
  refine x_av K h (x_V C K h [] (c_X3_goOn l κ G cy ad H.size σ v0 hk_v0 rfl) mi_X3_goOn rfl im_yX3_goOn se_yX3_goOn ml_RX3_142 cl_3 hk_v0 ⟨rfl, rfl, Nat.le_trans (show 0 + 1 ≤ (20 * dd + 23) by omega) hR.1, Nat.le_trans (show 8 + (1 + 11) + (0) ≤ (1000 * dd + 1120) by omega) hR.2⟩ hl (Nat.le_of_ble_eq_true rfl) dX3_readSum_43 ⟨Nat.zero_le _, Nat.zero_le _⟩ rfl) (fun H locs h hX => ?_)
  have hE := hE.trans hX
  have hk_v0 := hX.k hk_v0 (by decide)
  refine lv_aload_n C.1 C.2.1 dX3_readSum_46 rfl (lv_at hl 1 rfl) ?_
  refine lv_iload_n C.1 C.2.1 dX3_readSum_47 rfl (lv_at hl 2 rfl) ?_
  obtain ⟨q3, hq_q3, hf⟩ := ob_ hf
  refine x_az K h (x_V C K h [.int v1] (c_X3_readTerm fu l κ G cy ad H.size (f_X3_goOn σ v0) rOr rNot rOne hrec v0 v1 hk_v0 hq_q3) mi_X3_readTerm rfl im_yX3_readTerm se_yX3_readTerm ml_RX3_167 cl_3 hk_v0 ⟨rfl, rfl, Nat.le_trans (show 20 * dd + 22 + 1 ≤ (20 * dd + 23) by omega) hR.1, Nat.le_trans (show 8 + (3 + 11) + (1000 * dd + 1080) ≤ (1000 * dd + 1120) by omega) hR.2⟩ hl (Nat.le_of_ble_eq_true rfl) dX3_readSum_48 ⟨Nat.zero_le _, Nat.zero_le _⟩ rfl) (fun H locs h hX hz4 => ?_)
  have hE := hE.trans hX
  have hk_v0 := hX.k hk_v0 (by decide)
  refine lv_if_ne (tgt := 56) C.1 C.2.1 dX3_readSum_51 (by decide) (fun c5 => ?_) (fun c5 => ?_)
  · have hf := if_f hf c5
    refine lv_aload_n C.1 C.2.1 dX3_readSum_56 rfl (lv_at hl 1 rfl) ?_
    refine lv_iload_n C.1 C.2.1 dX3_readSum_57 rfl (lv_at hl 0 rfl) ?_
    refine lv_bipush (v := (43 : Int32)) C.1 C.2.1 dX3_readSum_58 (by decide) ?_
    refine lv_icmp_ne (tgt := 68) C.1 C.2.1 dX3_readSum_60 (by decide) (fun c6 => ?_) (fun c6 => ?_)
    · have hf := if_f hf c6
      refine lv_bipush (v := (9 : Int32)) C.1 C.2.1 dX3_readSum_68 (by decide) ?_
      obtain ⟨q7, hq_q7, hf⟩ := ob_ hf
      refine x_av K h (x_V C K h [.int (9 : Int32)] (c_X3_emit l κ G cy ad H.size q3.2 v0 (9 : Int32) hk_v0 hq_q7) mi_X3_emit rfl im_yX3_emit se_yX3_emit ml_RX3_154 cl_3 hk_v0 ⟨rfl, rfl, Nat.le_trans (show 1 + 1 ≤ (20 * dd + 23) by omega) hR.1, Nat.le_trans (show 8 + (2 + 11) + (21) ≤ (1000 * dd + 1120) by omega) hR.2⟩ hl (Nat.le_of_ble_eq_true rfl) dX3_readSum_70 ⟨Nat.zero_le _, Nat.zero_le _⟩ rfl) (fun H locs h hX => ?_)
      have hE := hE.trans hX
      have hk_v0 := hX.k hk_v0 (by decide)
      refine lv_iinc (v := v2 + (1 : Int32)) (lv' := [(2, .int (v2 + (1 : Int32))), (3, .int q1), (0, .ref (ad v0)), (1, .int v1)]) C.1 C.2.1 dX3_readSum_73 hl (k := 3) rfl rfl (by decide) rfl (fun ls hl => ?_)
      refine lv_goto (tgt := 12) C.1 C.2.1 dX3_readSum_76 (by decide) ?_
      exact hk12 q7 v0 v1 (v2 + (1 : Int32)) hE hk_v0 hf _ _ _ h (lv_sub hl [2, 3, 0] rfl)
    · have hf := if_t hf c6
      refine lv_bipush (v := (8 : Int32)) C.1 C.2.1 dX3_readSum_63 (by decide) ?_
      refine lv_goto (tgt := 70) C.1 C.2.1 dX3_readSum_65 (by decide) ?_
      obtain ⟨q8, hq_q8, hf⟩ := ob_ hf
      refine x_av K h (x_V C K h [.int (8 : Int32)] (c_X3_emit l κ G cy ad H.size q3.2 v0 (8 : Int32) hk_v0 hq_q8) mi_X3_emit rfl im_yX3_emit se_yX3_emit ml_RX3_154 cl_3 hk_v0 ⟨rfl, rfl, Nat.le_trans (show 1 + 1 ≤ (20 * dd + 23) by omega) hR.1, Nat.le_trans (show 8 + (2 + 11) + (21) ≤ (1000 * dd + 1120) by omega) hR.2⟩ hl (Nat.le_of_ble_eq_true rfl) dX3_readSum_70 ⟨Nat.zero_le _, Nat.zero_le _⟩ rfl) (fun H locs h hX => ?_)
      have hE := hE.trans hX
      have hk_v0 := hX.k hk_v0 (by decide)
      refine lv_iinc (v := v2 + (1 : Int32)) (lv' := [(2, .int (v2 + (1 : Int32))), (3, .int q1), (0, .ref (ad v0)), (1, .int v1)]) C.1 C.2.1 dX3_readSum_73 hl (k := 3) rfl rfl (by decide) rfl (fun ls hl => ?_)
      refine lv_goto (tgt := 12) C.1 C.2.1 dX3_readSum_76 (by decide) ?_
      exact hk12 q8 v0 v1 (v2 + (1 : Int32)) hE hk_v0 hf _ _ _ h (lv_sub hl [2, 3, 0] rfl)
  · have hf := if_t hf c5
    refine lv_iconst (v := (0 : Int32)) C.1 C.2.1 dX3_readSum_54 (by decide) ?_
    exact x_rzz C hr hlk h hE (by decide) (pf_1 (Option.some.inj hf)) (pf_2 (Option.some.inj hf)) dX3_readSum_55
def f_X3_readSum_12 (rOr rNot rOne : Rc_) (fu : Nat) : Nat → St_ → Nat → Int32 → Int32 → Option (Int32 × St_)
  | 0 => fun _ _ _ _ => none
  | n + 1 => fun σ  v0  v1  v2 => if (160 : Int32) ≤ v2 then some ((1 : Int32), σ) else (f_X3_token σ v0).bind fun q2 => if q2 = (43 : Int32) then f_X3_readSum_37 rOr rNot rOne fu (f_X3_readSum_12 rOr rNot rOne fu n) σ v0 v1 v2 else (f_X3_token σ v0).bind fun q4 => if q4 = (45 : Int32) then f_X3_readSum_37 rOr rNot rOne fu (f_X3_readSum_12 rOr rNot rOne fu n) σ v0 v1 v2 else some ((1 : Int32), σ)
set_option maxHeartbeats 4000000 in
set_option maxRecDepth 100000 in
theorem w_X3_readSum_12 {p : Program} {l : Launch} {e : Env} {R : Room} {s : State} {m : MethodId} {args : Array Value} {below : List Frame} {meth : Method} {c : Code} {κ : Ka_} {G : va_G} {cy : Nat → ClassId} {ad : Nat → Nat} {sz : Nat} {σ0 : St_} (fu : Nat) (rOr rNot rOne : Rc_) {dd : Nat} (hrec : Rs_ l rOr rNot rOne dd)  (C : CallFix p m c cX3_readSum 4 s args wU_ RX3) (K : Kx_ κ G cy (va_A (wl_ cy ad σ0) sz) s) (hr : meth.sig.returnType = some .boolean) (hlk : meth.locks = false) (hR : (20 * dd + 23) ≤ R.frames ∧ (1000 * dd + 1120) ≤ R.locals) {q : Int32 × St_} : ∀ n : Nat, ∀ (σ : St_) (v0 : Nat) (v1 : Int32) (v2 : Int32), Ex_ σ0 σ → kd_ σ v0 = 3 → f_X3_readSum_12 rOr rNot rOne fu n σ v0 v1 v2 = some q → ∀ (H : Heap) (locs : List Loc) (ls : Array Slot), Ht_ G cy (va_A (wl_ cy ad σ0) sz) s ad σ H locs → lv_has ls 4 [(0, .ref (ad v0)), (1, .int v1), (2, .int v2)] → W p l e R s m args below meth c H locs 0 0 (MQ below (Qz_ G cy ad σ0 q.2 sz q.1) args s 0 0 (va_A (wl_ cy ad σ0) sz)) (F0 m 12 ls []) := by
  intro n
  induction n with
  | zero =>
    intro σ v0 v1 v2 hE hk_v0 hf H locs ls h hl
    cases hf
  | succ n ih =>
    intro σ v0 v1 v2 hE hk_v0 hf H locs ls h hl
    have hf : (if (160 : Int32) ≤ v2 then some ((1 : Int32), σ) else (f_X3_token σ v0).bind fun q2 => if q2 = (43 : Int32) then f_X3_readSum_37 rOr rNot rOne fu (f_X3_readSum_12 rOr rNot rOne fu n) σ v0 v1 v2 else (f_X3_token σ v0).bind fun q4 => if q4 = (45 : Int32) then f_X3_readSum_37 rOr rNot rOne fu (f_X3_readSum_12 rOr rNot rOne fu n) σ v0 v1 v2 else some ((1 : Int32), σ)) = some q := hf
    refine lv_iload_n C.1 C.2.1 dX3_readSum_12 rfl (lv_at hl 2 rfl) ?_
    refine lv_sipush (v := (160 : Int32)) C.1 C.2.1 dX3_readSum_13 (by decide) ?_
    refine lv_icmp_ge (tgt := 79) C.1 C.2.1 dX3_readSum_16 (by decide) (fun c1 => ?_) (fun c1 => ?_)
    · have hf := if_t hf c1
      refine lv_iconst (v := (1 : Int32)) C.1 C.2.1 dX3_readSum_79 (by decide) ?_
      exact x_rzz C hr hlk h hE (by decide) (pf_1 (Option.some.inj hf)) (pf_2 (Option.some.inj hf)) dX3_readSum_80
    · have hf := if_f hf c1
      refine lv_aload_n C.1 C.2.1 dX3_readSum_19 rfl (lv_at hl 0 rfl) ?_
      obtain ⟨q2, hq_q2, hf⟩ := ob_ hf
      refine x_ai K h (x_V C K h [] (c_X3_token l κ G cy ad H.size σ v0 hk_v0 hq_q2) mi_X3_token rfl im_yX3_token se_yX3_token ml_RX3_57 cl_3 hk_v0 ⟨rfl, rfl, Nat.le_trans (show 0 + 1 ≤ (20 * dd + 23) by omega) hR.1, Nat.le_trans (show 8 + (1 + 11) + (0) ≤ (1000 * dd + 1120) by omega) hR.2⟩ hl (Nat.le_of_ble_eq_true rfl) dX3_readSum_20 ⟨Nat.zero_le _, Nat.zero_le _⟩ rfl) (fun H locs h hX => ?_)
      refine lv_bipush (v := (43 : Int32)) C.1 C.2.1 dX3_readSum_23 (by decide) ?_
      refine lv_icmp_eq (tgt := 37) C.1 C.2.1 dX3_readSum_25 (by decide) (fun c3 => ?_) (fun c3 => ?_)
      · have hf := if_t hf c3
        exact w_X3_readSum_37 fu rOr rNot rOne hrec C K hr hlk hR (f_X3_readSum_12 rOr rNot rOne fu n) ih σ v0 v1 v2 hE hk_v0 hf _ _ _ h (lv_sub hl [0, 1, 2] rfl)
      · have hf := if_f hf c3
        refine lv_aload_n C.1 C.2.1 dX3_readSum_28 rfl (lv_at hl 0 rfl) ?_
        obtain ⟨q4, hq_q4, hf⟩ := ob_ hf
        refine x_ai K h (x_V C K h [] (c_X3_token l κ G cy ad H.size σ v0 hk_v0 hq_q4) mi_X3_token rfl im_yX3_token se_yX3_token ml_RX3_57 cl_3 hk_v0 ⟨rfl, rfl, Nat.le_trans (show 0 + 1 ≤ (20 * dd + 23) by omega) hR.1, Nat.le_trans (show 8 + (1 + 11) + (0) ≤ (1000 * dd + 1120) by omega) hR.2⟩ hl (Nat.le_of_ble_eq_true rfl) dX3_readSum_29 ⟨Nat.zero_le _, Nat.zero_le _⟩ rfl) (fun H locs h hX => ?_)
        refine lv_bipush (v := (45 : Int32)) C.1 C.2.1 dX3_readSum_32 (by decide) ?_
        refine lv_icmp_ne (tgt := 79) C.1 C.2.1 dX3_readSum_34 (by decide) (fun c5 => ?_) (fun c5 => ?_)
        · have hf := if_f hf c5
          refine lv_iconst (v := (1 : Int32)) C.1 C.2.1 dX3_readSum_79 (by decide) ?_
          exact x_rzz C hr hlk h hE (by decide) (pf_1 (Option.some.inj hf)) (pf_2 (Option.some.inj hf)) dX3_readSum_80
        · have hf := if_t hf c5
          exact w_X3_readSum_37 fu rOr rNot rOne hrec C K hr hlk hR (f_X3_readSum_12 rOr rNot rOne fu n) ih σ v0 v1 v2 hE hk_v0 hf _ _ _ h (lv_sub hl [0, 1, 2] rfl)
def f_X3_readSum (rOr rNot rOne : Rc_) (fu : Nat) (σ : St_) (a0 : Nat) (x1 : Int32) : Option (Int32 × St_) := (f_X3_readTerm rOr rNot rOne fu σ a0 x1).bind fun q2 => if q2.1 = 0 then some ((0 : Int32), q2.2) else f_X3_readSum_12 rOr rNot rOne fu fu q2.2 a0 x1 (0 : Int32)
set_option maxHeartbeats 4000000 in
set_option maxRecDepth 100000 in
theorem w_X3_readSum {p : Program} {l : Launch} {e : Env} {R : Room} {s : State} {m : MethodId} {args : Array Value} {below : List Frame} {meth : Method} {c : Code} {κ : Ka_} {G : va_G} {cy : Nat → ClassId} {ad : Nat → Nat} {sz : Nat} {σ0 : St_} (fu : Nat) (rOr rNot rOne : Rc_) {dd : Nat} (hrec : Rs_ l rOr rNot rOne dd)  (C : CallFix p m c cX3_readSum 4 s args wU_ RX3) (K : Kx_ κ G cy (va_A (wl_ cy ad σ0) sz) s) (hr : meth.sig.returnType = some .boolean) (hlk : meth.locks = false) (hR : (20 * dd + 23) ≤ R.frames ∧ (1000 * dd + 1120) ≤ R.locals) {q : Int32 × St_} : ∀ (σ : St_) (a0 : Nat) (x1 : Int32), Ex_ σ0 σ → kd_ σ a0 = 3 → f_X3_readSum rOr rNot rOne fu σ a0 x1 = some q → ∀ (H : Heap) (locs : List Loc) (ls : Array Slot), Ht_ G cy (va_A (wl_ cy ad σ0) sz) s ad σ H locs → lv_has ls 4 [(0, .ref (ad a0)), (1, .int x1)] → W p l e R s m args below meth c H locs 0 0 (MQ below (Qz_ G cy ad σ0 q.2 sz q.1) args s 0 0 (va_A (wl_ cy ad σ0) sz)) (F0 m 0 ls []) := by
  intro σ a0 x1 hE hk_a0 hf H locs ls h hl
  have hf : ((f_X3_readTerm rOr rNot rOne fu σ a0 x1).bind fun q2 => if q2.1 = 0 then some ((0 : Int32), q2.2) else f_X3_readSum_12 rOr rNot rOne fu fu q2.2 a0 x1 (0 : Int32)) = some q := hf
  refine lv_aload_n C.1 C.2.1 dX3_readSum_0 rfl (lv_at hl 0 rfl) ?_
  refine lv_iload_n C.1 C.2.1 dX3_readSum_1 rfl (lv_at hl 1 rfl) ?_
  obtain ⟨q2, hq_q2, hf⟩ := ob_ hf
  refine x_az K h (x_V C K h [.int x1] (c_X3_readTerm fu l κ G cy ad H.size σ rOr rNot rOne hrec a0 x1 hk_a0 hq_q2) mi_X3_readTerm rfl im_yX3_readTerm se_yX3_readTerm ml_RX3_167 cl_3 hk_a0 ⟨rfl, rfl, Nat.le_trans (show 20 * dd + 22 + 1 ≤ (20 * dd + 23) by omega) hR.1, Nat.le_trans (show 8 + (3 + 11) + (1000 * dd + 1080) ≤ (1000 * dd + 1120) by omega) hR.2⟩ hl (Nat.le_of_ble_eq_true rfl) dX3_readSum_2 ⟨Nat.zero_le _, Nat.zero_le _⟩ rfl) (fun H locs h hX hz3 => ?_)
  have hE := hE.trans hX
  have hk_a0 := hX.k hk_a0 (by decide)
  refine lv_if_ne (tgt := 10) C.1 C.2.1 dX3_readSum_5 (by decide) (fun c4 => ?_) (fun c4 => ?_)
  · have hf := if_f hf c4
    refine lv_iconst (v := (0 : Int32)) C.1 C.2.1 dX3_readSum_10 (by decide) ?_
    refine lv_istore_n (i := 2) (lv' := [(2, .int (0 : Int32)), (0, .ref (ad a0)), (1, .int x1)]) C.1 C.2.1 dX3_readSum_11 rfl hl (by decide) rfl (fun ls hl => ?_)
    exact w_X3_readSum_12 fu rOr rNot rOne hrec C K hr hlk hR fu q2.2 a0 x1 (0 : Int32) hE hk_a0 hf _ _ _ h (lv_sub hl [1, 2, 0] rfl)
  · have hf := if_t hf c4
    refine lv_iconst (v := (0 : Int32)) C.1 C.2.1 dX3_readSum_8 (by decide) ?_
    exact x_rzz C hr hlk h hE (by decide) (pf_1 (Option.some.inj hf)) (pf_2 (Option.some.inj hf)) dX3_readSum_9
theorem c_X3_readSum (fu : Nat) (l : Launch) (κ : Ka_) (G : va_G) (cy : Nat → ClassId) (ad : Nat → Nat) (sz : Nat) (σ : St_) (rOr rNot rOne : Rc_) {dd : Nat} (hrec : Rs_ l rOr rNot rOne dd) (a0 : Nat) (x1 : Int32) (hk_a0 : kd_ σ a0 = 3) {q : Int32 × St_} (hf : f_X3_readSum rOr rNot rOne fu σ a0 x1 = some q) : Met l yX3_readSum (Cond.code yX3_readSum cX3_readSum 4 (some .boolean) :: wU_) { frames := (20 * dd + 23), cells := 0, slots := 0, locals := (1000 * dd + 1120) } (va_Pc [.ref (ad a0), .int x1] (Pr_ κ G cy ad σ sz)) (Qz_ G cy ad σ q.2 sz q.1) 0 0 (va_A (wl_ cy ad σ) sz) :=
  x_met (by decide) (fun p e R s m below meth c ls hR C hr hlk hin _ K h hl => w_X3_readSum fu rOr rNot rOne hrec C K hr hlk ⟨hR.1, hR.2.1⟩ σ a0 x1 Ex_.rf hk_a0 hf s.heap [] ls h hl) (Nat.le_of_ble_eq_true rfl)
-- X3_readComparison
def f_X3_readComparison_29 (rOr rNot rOne : Rc_) (fu : Nat) (σ : St_) (v0 : Nat) (v1 : Int32) (v2 : Int32) : Option (Int32 × St_) := (f_X3_readSum rOr rNot rOne fu (f_X3_goOn σ v0) v0 v1).bind fun q2 => if q2.1 = 0 then some ((0 : Int32), q2.2) else if v2 = (60 : Int32) then (f_X3_emit q2.2 v0 (6 : Int32)).bind fun q7 => some ((1 : Int32), q7) else (f_X3_emit q2.2 v0 (7 : Int32)).bind fun q6 => some ((1 : Int32), q6)
set_option maxHeartbeats 4000000 in
set_option maxRecDepth 100000 in
theorem w_X3_readComparison_29 {p : Program} {l : Launch} {e : Env} {R : Room} {s : State} {m : MethodId} {args : Array Value} {below : List Frame} {meth : Method} {c : Code} {κ : Ka_} {G : va_G} {cy : Nat → ClassId} {ad : Nat → Nat} {sz : Nat} {σ0 : St_} (fu : Nat) (rOr rNot rOne : Rc_) {dd : Nat} (hrec : Rs_ l rOr rNot rOne dd)  (C : CallFix p m c cX3_readComparison 3 s args wU_ RX3) (K : Kx_ κ G cy (va_A (wl_ cy ad σ0) sz) s) (hr : meth.sig.returnType = some .boolean) (hlk : meth.locks = false) (hR : (20 * dd + 24) ≤ R.frames ∧ (1000 * dd + 1160) ≤ R.locals) {q : Int32 × St_} : ∀ (σ : St_) (v0 : Nat) (v1 : Int32) (v2 : Int32), Ex_ σ0 σ → kd_ σ v0 = 3 → f_X3_readComparison_29 rOr rNot rOne fu σ v0 v1 v2 = some q → ∀ (H : Heap) (locs : List Loc) (ls : Array Slot), Ht_ G cy (va_A (wl_ cy ad σ0) sz) s ad σ H locs → lv_has ls 3 [(0, .ref (ad v0)), (1, .int v1), (2, .int v2)] → W p l e R s m args below meth c H locs 0 0 (MQ below (Qz_ G cy ad σ0 q.2 sz q.1) args s 0 0 (va_A (wl_ cy ad σ0) sz)) (F0 m 29 ls []) := by
  intro σ v0 v1 v2 hE hk_v0 hf H locs ls h hl
  have hf : ((f_X3_readSum rOr rNot rOne fu (f_X3_goOn σ v0) v0 v1).bind fun q2 => if q2.1 = 0 then some ((0 : Int32), q2.2) else if v2 = (60 : Int32) then (f_X3_emit q2.2 v0 (6 : Int32)).bind fun q7 => some ((1 : Int32), q7) else (f_X3_emit q2.2 v0 (7 : Int32)).bind fun q6 => some ((1 : Int32), q6)) = some q := hf
  refine lv_aload_n C.1 C.2.1 dX3_readComparison_29 rfl (lv_at hl 0 rfl) ?_
  refine x_av K h (x_V C K h [] (c_X3_goOn l κ G cy ad H.size σ v0 hk_v0 rfl) mi_X3_goOn rfl im_yX3_goOn se_yX3_goOn ml_RX3_142 cl_3 hk_v0 ⟨rfl, rfl, Nat.le_trans (show 0 + 1 ≤ (20 * dd + 24) by omega) hR.1, Nat.le_trans (show 8 + (1 + 11) + (0) ≤ (1000 * dd + 1160) by omega) hR.2⟩ hl (Nat.le_of_ble_eq_true rfl) dX3_readComparison_30 ⟨Nat.zero_le _, Nat.zero_le _⟩ rfl) (fun H locs h hX => ?_)
  have hE := hE.trans hX
  have hk_v0 := hX.k hk_v0 (by decide)
  refine lv_aload_n C.1 C.2.1 dX3_readComparison_33 rfl (lv_at hl 0 rfl) ?_
  refine lv_iload_n C.1 C.2.1 dX3_readComparison_34 rfl (lv_at hl 1 rfl) ?_
  obtain ⟨q2, hq_q2, hf⟩ := ob_ hf
  refine x_az K h (x_V C K h [.int v1] (c_X3_readSum fu l κ G cy ad H.size (f_X3_goOn σ v0) rOr rNot rOne hrec v0 v1 hk_v0 hq_q2) mi_X3_readSum rfl im_yX3_readSum se_yX3_readSum ml_RX3_164 cl_3 hk_v0 ⟨rfl, rfl, Nat.le_trans (show 20 * dd + 23 + 1 ≤ (20 * dd + 24) by omega) hR.1, Nat.le_trans (show 8 + (4 + 11) + (1000 * dd + 1120) ≤ (1000 * dd + 1160) by omega) hR.2⟩ hl (Nat.le_of_ble_eq_true rfl) dX3_readComparison_35 ⟨Nat.zero_le _, Nat.zero_le _⟩ rfl) (fun H locs h hX hz3 => ?_)
  have hE := hE.trans hX
  have hk_v0 := hX.k hk_v0 (by decide)
  refine lv_if_ne (tgt := 43) C.1 C.2.1 dX3_readComparison_38 (by decide) (fun c4 => ?_) (fun c4 => ?_)
  · have hf := if_f hf c4
    refine lv_aload_n C.1 C.2.1 dX3_readComparison_43 rfl (lv_at hl 0 rfl) ?_
    refine lv_iload_n C.1 C.2.1 dX3_readComparison_44 rfl (lv_at hl 2 rfl) ?_
    refine lv_bipush (v := (60 : Int32)) C.1 C.2.1 dX3_readComparison_45 (by decide) ?_
    refine lv_icmp_ne (tgt := 55) C.1 C.2.1 dX3_readComparison_47 (by decide) (fun c5 => ?_) (fun c5 => ?_)
    · have hf := if_f hf c5
      refine lv_bipush (v := (7 : Int32)) C.1 C.2.1 dX3_readComparison_55 (by decide) ?_
      obtain ⟨q6, hq_q6, hf⟩ := ob_ hf
      refine x_av K h (x_V C K h [.int (7 : Int32)] (c_X3_emit l κ G cy ad H.size q2.2 v0 (7 : Int32) hk_v0 hq_q6) mi_X3_emit rfl im_yX3_emit se_yX3_emit ml_RX3_154 cl_3 hk_v0 ⟨rfl, rfl, Nat.le_trans (show 1 + 1 ≤ (20 * dd + 24) by omega) hR.1, Nat.le_trans (show 8 + (2 + 11) + (21) ≤ (1000 * dd + 1160) by omega) hR.2⟩ hl (Nat.le_of_ble_eq_true rfl) dX3_readComparison_57 ⟨Nat.zero_le _, Nat.zero_le _⟩ rfl) (fun H locs h hX => ?_)
      have hE := hE.trans hX
      have hk_v0 := hX.k hk_v0 (by decide)
      refine lv_iconst (v := (1 : Int32)) C.1 C.2.1 dX3_readComparison_60 (by decide) ?_
      exact x_rzz C hr hlk h hE (by decide) (pf_1 (Option.some.inj hf)) (pf_2 (Option.some.inj hf)) dX3_readComparison_61
    · have hf := if_t hf c5
      refine lv_bipush (v := (6 : Int32)) C.1 C.2.1 dX3_readComparison_50 (by decide) ?_
      refine lv_goto (tgt := 57) C.1 C.2.1 dX3_readComparison_52 (by decide) ?_
      obtain ⟨q7, hq_q7, hf⟩ := ob_ hf
      refine x_av K h (x_V C K h [.int (6 : Int32)] (c_X3_emit l κ G cy ad H.size q2.2 v0 (6 : Int32) hk_v0 hq_q7) mi_X3_emit rfl im_yX3_emit se_yX3_emit ml_RX3_154 cl_3 hk_v0 ⟨rfl, rfl, Nat.le_trans (show 1 + 1 ≤ (20 * dd + 24) by omega) hR.1, Nat.le_trans (show 8 + (2 + 11) + (21) ≤ (1000 * dd + 1160) by omega) hR.2⟩ hl (Nat.le_of_ble_eq_true rfl) dX3_readComparison_57 ⟨Nat.zero_le _, Nat.zero_le _⟩ rfl) (fun H locs h hX => ?_)
      have hE := hE.trans hX
      have hk_v0 := hX.k hk_v0 (by decide)
      refine lv_iconst (v := (1 : Int32)) C.1 C.2.1 dX3_readComparison_60 (by decide) ?_
      exact x_rzz C hr hlk h hE (by decide) (pf_1 (Option.some.inj hf)) (pf_2 (Option.some.inj hf)) dX3_readComparison_61
  · have hf := if_t hf c4
    refine lv_iconst (v := (0 : Int32)) C.1 C.2.1 dX3_readComparison_41 (by decide) ?_
    exact x_rzz C hr hlk h hE (by decide) (pf_1 (Option.some.inj hf)) (pf_2 (Option.some.inj hf)) dX3_readComparison_42
def f_X3_readComparison (rOr rNot rOne : Rc_) (fu : Nat) (σ : St_) (a0 : Nat) (x1 : Int32) : Option (Int32 × St_) := (f_X3_readSum rOr rNot rOne fu σ a0 x1).bind fun q2 => if q2.1 = 0 then some ((0 : Int32), q2.2) else (f_X3_token q2.2 a0).bind fun q5 => if q5 = (60 : Int32) then f_X3_readComparison_29 rOr rNot rOne fu q2.2 a0 x1 q5 else if q5 = (61 : Int32) then f_X3_readComparison_29 rOr rNot rOne fu q2.2 a0 x1 q5 else some ((1 : Int32), q2.2)
set_option maxHeartbeats 4000000 in
set_option maxRecDepth 100000 in
theorem w_X3_readComparison {p : Program} {l : Launch} {e : Env} {R : Room} {s : State} {m : MethodId} {args : Array Value} {below : List Frame} {meth : Method} {c : Code} {κ : Ka_} {G : va_G} {cy : Nat → ClassId} {ad : Nat → Nat} {sz : Nat} {σ0 : St_} (fu : Nat) (rOr rNot rOne : Rc_) {dd : Nat} (hrec : Rs_ l rOr rNot rOne dd)  (C : CallFix p m c cX3_readComparison 3 s args wU_ RX3) (K : Kx_ κ G cy (va_A (wl_ cy ad σ0) sz) s) (hr : meth.sig.returnType = some .boolean) (hlk : meth.locks = false) (hR : (20 * dd + 24) ≤ R.frames ∧ (1000 * dd + 1160) ≤ R.locals) {q : Int32 × St_} : ∀ (σ : St_) (a0 : Nat) (x1 : Int32), Ex_ σ0 σ → kd_ σ a0 = 3 → f_X3_readComparison rOr rNot rOne fu σ a0 x1 = some q → ∀ (H : Heap) (locs : List Loc) (ls : Array Slot), Ht_ G cy (va_A (wl_ cy ad σ0) sz) s ad σ H locs → lv_has ls 3 [(0, .ref (ad a0)), (1, .int x1)] → W p l e R s m args below meth c H locs 0 0 (MQ below (Qz_ G cy ad σ0 q.2 sz q.1) args s 0 0 (va_A (wl_ cy ad σ0) sz)) (F0 m 0 ls []) := by
  intro σ a0 x1 hE hk_a0 hf H locs ls h hl
  have hf : ((f_X3_readSum rOr rNot rOne fu σ a0 x1).bind fun q2 => if q2.1 = 0 then some ((0 : Int32), q2.2) else (f_X3_token q2.2 a0).bind fun q5 => if q5 = (60 : Int32) then f_X3_readComparison_29 rOr rNot rOne fu q2.2 a0 x1 q5 else if q5 = (61 : Int32) then f_X3_readComparison_29 rOr rNot rOne fu q2.2 a0 x1 q5 else some ((1 : Int32), q2.2)) = some q := hf
  refine lv_aload_n C.1 C.2.1 dX3_readComparison_0 rfl (lv_at hl 0 rfl) ?_
  refine lv_iload_n C.1 C.2.1 dX3_readComparison_1 rfl (lv_at hl 1 rfl) ?_
  obtain ⟨q2, hq_q2, hf⟩ := ob_ hf
  refine x_az K h (x_V C K h [.int x1] (c_X3_readSum fu l κ G cy ad H.size σ rOr rNot rOne hrec a0 x1 hk_a0 hq_q2) mi_X3_readSum rfl im_yX3_readSum se_yX3_readSum ml_RX3_164 cl_3 hk_a0 ⟨rfl, rfl, Nat.le_trans (show 20 * dd + 23 + 1 ≤ (20 * dd + 24) by omega) hR.1, Nat.le_trans (show 8 + (4 + 11) + (1000 * dd + 1120) ≤ (1000 * dd + 1160) by omega) hR.2⟩ hl (Nat.le_of_ble_eq_true rfl) dX3_readComparison_2 ⟨Nat.zero_le _, Nat.zero_le _⟩ rfl) (fun H locs h hX hz3 => ?_)
  have hE := hE.trans hX
  have hk_a0 := hX.k hk_a0 (by decide)
  refine lv_if_ne (tgt := 10) C.1 C.2.1 dX3_readComparison_5 (by decide) (fun c4 => ?_) (fun c4 => ?_)
  · have hf := if_f hf c4
    refine lv_aload_n C.1 C.2.1 dX3_readComparison_10 rfl (lv_at hl 0 rfl) ?_
    obtain ⟨q5, hq_q5, hf⟩ := ob_ hf
    refine x_ai K h (x_V C K h [] (c_X3_token l κ G cy ad H.size q2.2 a0 hk_a0 hq_q5) mi_X3_token rfl im_yX3_token se_yX3_token ml_RX3_57 cl_3 hk_a0 ⟨rfl, rfl, Nat.le_trans (show 0 + 1 ≤ (20 * dd + 24) by omega) hR.1, Nat.le_trans (show 8 + (1 + 11) + (0) ≤ (1000 * dd + 1160) by omega) hR.2⟩ hl (Nat.le_of_ble_eq_true rfl) dX3_readComparison_11 ⟨Nat.zero_le _, Nat.zero_le _⟩ rfl) (fun H locs h hX => ?_)
    refine lv_istore_n (i := 2) (lv' := [(2, .int q5), (0, .ref (ad a0)), (1, .int x1)]) C.1 C.2.1 dX3_readComparison_14 rfl hl (by decide) rfl (fun ls hl => ?_)
    refine lv_iload_n C.1 C.2.1 dX3_readComparison_15 rfl (lv_at hl 0 rfl) ?_
    refine lv_bipush (v := (60 : Int32)) C.1 C.2.1 dX3_readComparison_16 (by decide) ?_
    refine lv_icmp_eq (tgt := 29) C.1 C.2.1 dX3_readComparison_18 (by decide) (fun c6 => ?_) (fun c6 => ?_)
    · have hf := if_t hf c6
      exact w_X3_readComparison_29 fu rOr rNot rOne hrec C K hr hlk hR q2.2 a0 x1 q5 hE hk_a0 hf _ _ _ h (lv_sub hl [1, 2, 0] rfl)
    · have hf := if_f hf c6
      refine lv_iload_n C.1 C.2.1 dX3_readComparison_21 rfl (lv_at hl 0 rfl) ?_
      refine lv_bipush (v := (61 : Int32)) C.1 C.2.1 dX3_readComparison_22 (by decide) ?_
      refine lv_icmp_eq (tgt := 29) C.1 C.2.1 dX3_readComparison_24 (by decide) (fun c7 => ?_) (fun c7 => ?_)
      · have hf := if_t hf c7
        exact w_X3_readComparison_29 fu rOr rNot rOne hrec C K hr hlk hR q2.2 a0 x1 q5 hE hk_a0 hf _ _ _ h (lv_sub hl [1, 2, 0] rfl)
      · have hf := if_f hf c7
        refine lv_iconst (v := (1 : Int32)) C.1 C.2.1 dX3_readComparison_27 (by decide) ?_
        exact x_rzz C hr hlk h hE (by decide) (pf_1 (Option.some.inj hf)) (pf_2 (Option.some.inj hf)) dX3_readComparison_28
  · have hf := if_t hf c4
    refine lv_iconst (v := (0 : Int32)) C.1 C.2.1 dX3_readComparison_8 (by decide) ?_
    exact x_rzz C hr hlk h hE (by decide) (pf_1 (Option.some.inj hf)) (pf_2 (Option.some.inj hf)) dX3_readComparison_9
theorem c_X3_readComparison (fu : Nat) (l : Launch) (κ : Ka_) (G : va_G) (cy : Nat → ClassId) (ad : Nat → Nat) (sz : Nat) (σ : St_) (rOr rNot rOne : Rc_) {dd : Nat} (hrec : Rs_ l rOr rNot rOne dd) (a0 : Nat) (x1 : Int32) (hk_a0 : kd_ σ a0 = 3) {q : Int32 × St_} (hf : f_X3_readComparison rOr rNot rOne fu σ a0 x1 = some q) : Met l yX3_readComparison (Cond.code yX3_readComparison cX3_readComparison 3 (some .boolean) :: wU_) { frames := (20 * dd + 24), cells := 0, slots := 0, locals := (1000 * dd + 1160) } (va_Pc [.ref (ad a0), .int x1] (Pr_ κ G cy ad σ sz)) (Qz_ G cy ad σ q.2 sz q.1) 0 0 (va_A (wl_ cy ad σ) sz) :=
  x_met (by decide) (fun p e R s m below meth c ls hR C hr hlk hin _ K h hl => w_X3_readComparison fu rOr rNot rOne hrec C K hr hlk ⟨hR.1, hR.2.1⟩ σ a0 x1 Ex_.rf hk_a0 hf s.heap [] ls h hl) (Nat.le_of_ble_eq_true rfl)
-- X3_readNot
def f_X3_readNot (rOr rNot rOne : Rc_) (fu : Nat) (σ : St_) (a0 : Nat) (x1 : Int32) : Option (Int32 × St_) := (f_X3_token σ a0).bind fun q2 => if q2 = (9 : Int32) then if x1 < (5 : Int32) then (rNot (f_X3_goOn σ a0) a0 (x1 + (1 : Int32))).bind fun q6 => if q6.1 = 0 then some ((0 : Int32), q6.2) else (f_X3_emit q6.2 a0 (2 : Int32)).bind fun q9 => some ((1 : Int32), q9) else some ((0 : Int32), σ) else (f_X3_readComparison rOr rNot rOne fu σ a0 x1).bind fun q10 => some (q10.1, q10.2)
set_option maxHeartbeats 4000000 in
set_option maxRecDepth 100000 in
theorem w_X3_readNot {p : Program} {l : Launch} {e : Env} {R : Room} {s : State} {m : MethodId} {args : Array Value} {below : List Frame} {meth : Method} {c : Code} {κ : Ka_} {G : va_G} {cy : Nat → ClassId} {ad : Nat → Nat} {sz : Nat} {σ0 : St_} (fu : Nat) (rOr rNot rOne : Rc_) {dd : Nat} (hrec : Rs_ l rOr rNot rOne dd)  (C : CallFix p m c cX3_readNot 2 s args wU_ RX3) (K : Kx_ κ G cy (va_A (wl_ cy ad σ0) sz) s) (hr : meth.sig.returnType = some .boolean) (hlk : meth.locks = false) (hR : (20 * dd + 25) ≤ R.frames ∧ (1000 * dd + 1200) ≤ R.locals) {q : Int32 × St_} : ∀ (σ : St_) (a0 : Nat) (x1 : Int32), Ex_ σ0 σ → kd_ σ a0 = 3 → f_X3_readNot rOr rNot rOne fu σ a0 x1 = some q → ∀ (H : Heap) (locs : List Loc) (ls : Array Slot), Ht_ G cy (va_A (wl_ cy ad σ0) sz) s ad σ H locs → lv_has ls 2 [(0, .ref (ad a0)), (1, .int x1)] → W p l e R s m args below meth c H locs 0 0 (MQ below (Qz_ G cy ad σ0 q.2 sz q.1) args s 0 0 (va_A (wl_ cy ad σ0) sz)) (F0 m 0 ls []) := by
  intro σ a0 x1 hE hk_a0 hf H locs ls h hl
  have hf : ((f_X3_token σ a0).bind fun q2 => if q2 = (9 : Int32) then if x1 < (5 : Int32) then (rNot (f_X3_goOn σ a0) a0 (x1 + (1 : Int32))).bind fun q6 => if q6.1 = 0 then some ((0 : Int32), q6.2) else (f_X3_emit q6.2 a0 (2 : Int32)).bind fun q9 => some ((1 : Int32), q9) else some ((0 : Int32), σ) else (f_X3_readComparison rOr rNot rOne fu σ a0 x1).bind fun q10 => some (q10.1, q10.2)) = some q := hf
  refine lv_aload_n C.1 C.2.1 dX3_readNot_0 rfl (lv_at hl 0 rfl) ?_
  obtain ⟨q2, hq_q2, hf⟩ := ob_ hf
  refine x_ai K h (x_V C K h [] (c_X3_token l κ G cy ad H.size σ a0 hk_a0 hq_q2) mi_X3_token rfl im_yX3_token se_yX3_token ml_RX3_57 cl_3 hk_a0 ⟨rfl, rfl, Nat.le_trans (show 0 + 1 ≤ (20 * dd + 25) by omega) hR.1, Nat.le_trans (show 8 + (1 + 11) + (0) ≤ (1000 * dd + 1200) by omega) hR.2⟩ hl (Nat.le_of_ble_eq_true rfl) dX3_readNot_1 ⟨Nat.zero_le _, Nat.zero_le _⟩ rfl) (fun H locs h hX => ?_)
  refine lv_bipush (v := (9 : Int32)) C.1 C.2.1 dX3_readNot_4 (by decide) ?_
  refine lv_icmp_eq (tgt := 15) C.1 C.2.1 dX3_readNot_6 (by decide) (fun c3 => ?_) (fun c3 => ?_)
  · have hf := if_t hf c3
    refine lv_iload_n C.1 C.2.1 dX3_readNot_15 rfl (lv_at hl 1 rfl) ?_
    refine lv_iconst (v := (5 : Int32)) C.1 C.2.1 dX3_readNot_16 (by decide) ?_
    refine lv_icmp_lt (tgt := 22) C.1 C.2.1 dX3_readNot_17 (by decide) (fun c4 => ?_) (fun c4 => ?_)
    · have hf := if_t hf c4
      refine lv_aload_n C.1 C.2.1 dX3_readNot_22 rfl (lv_at hl 0 rfl) ?_
      refine x_av K h (x_V C K h [] (c_X3_goOn l κ G cy ad H.size σ a0 hk_a0 rfl) mi_X3_goOn rfl im_yX3_goOn se_yX3_goOn ml_RX3_142 cl_3 hk_a0 ⟨rfl, rfl, Nat.le_trans (show 0 + 1 ≤ (20 * dd + 25) by omega) hR.1, Nat.le_trans (show 8 + (1 + 11) + (0) ≤ (1000 * dd + 1200) by omega) hR.2⟩ hl (Nat.le_of_ble_eq_true rfl) dX3_readNot_23 ⟨Nat.zero_le _, Nat.zero_le _⟩ rfl) (fun H locs h hX => ?_)
      have hE := hE.trans hX
      have hk_a0 := hX.k hk_a0 (by decide)
      refine lv_aload_n C.1 C.2.1 dX3_readNot_26 rfl (lv_at hl 0 rfl) ?_
      refine lv_iload_n C.1 C.2.1 dX3_readNot_27 rfl (lv_at hl 1 rfl) ?_
      refine lv_iconst (v := (1 : Int32)) C.1 C.2.1 dX3_readNot_28 (by decide) ?_
      refine lv_iadd C.1 C.2.1 dX3_readNot_29 ?_
      obtain ⟨q6, hq_q6, hf⟩ := ob_ hf
      refine x_az K h (x_V C K h [.int (x1 + (1 : Int32))] (hrec.2.1 κ G cy ad H.size (f_X3_goOn σ a0) a0 (x1 + (1 : Int32)) hk_a0 hq_q6) mi_X3_readNot rfl im_yX3_readNot se_yX3_readNot ml_RX3_158 cl_3 hk_a0 ⟨rfl, rfl, Nat.le_trans (show 20 * dd + 20 + 1 ≤ (20 * dd + 25) by omega) hR.1, Nat.le_trans (show 8 + (2 + 11) + (1000 * dd + 1000) ≤ (1000 * dd + 1200) by omega) hR.2⟩ hl (Nat.le_of_ble_eq_true rfl) dX3_readNot_30 ⟨Nat.zero_le _, Nat.zero_le _⟩ rfl) (fun H locs h hX hz7 => ?_)
      have hE := hE.trans hX
      have hk_a0 := hX.k hk_a0 (by decide)
      refine lv_if_ne (tgt := 38) C.1 C.2.1 dX3_readNot_33 (by decide) (fun c8 => ?_) (fun c8 => ?_)
      · have hf := if_f hf c8
        refine lv_aload_n C.1 C.2.1 dX3_readNot_38 rfl (lv_at hl 0 rfl) ?_
        refine lv_iconst (v := (2 : Int32)) C.1 C.2.1 dX3_readNot_39 (by decide) ?_
        obtain ⟨q9, hq_q9, hf⟩ := ob_ hf
        refine x_av K h (x_V C K h [.int (2 : Int32)] (c_X3_emit l κ G cy ad H.size q6.2 a0 (2 : Int32) hk_a0 hq_q9) mi_X3_emit rfl im_yX3_emit se_yX3_emit ml_RX3_154 cl_3 hk_a0 ⟨rfl, rfl, Nat.le_trans (show 1 + 1 ≤ (20 * dd + 25) by omega) hR.1, Nat.le_trans (show 8 + (2 + 11) + (21) ≤ (1000 * dd + 1200) by omega) hR.2⟩ hl (Nat.le_of_ble_eq_true rfl) dX3_readNot_40 ⟨Nat.zero_le _, Nat.zero_le _⟩ rfl) (fun H locs h hX => ?_)
        have hE := hE.trans hX
        have hk_a0 := hX.k hk_a0 (by decide)
        refine lv_iconst (v := (1 : Int32)) C.1 C.2.1 dX3_readNot_43 (by decide) ?_
        exact x_rzz C hr hlk h hE (by decide) (pf_1 (Option.some.inj hf)) (pf_2 (Option.some.inj hf)) dX3_readNot_44
      · have hf := if_t hf c8
        refine lv_iconst (v := (0 : Int32)) C.1 C.2.1 dX3_readNot_36 (by decide) ?_
        exact x_rzz C hr hlk h hE (by decide) (pf_1 (Option.some.inj hf)) (pf_2 (Option.some.inj hf)) dX3_readNot_37
    · have hf := if_f hf c4
      refine lv_iconst (v := (0 : Int32)) C.1 C.2.1 dX3_readNot_20 (by decide) ?_
      exact x_rzz C hr hlk h hE (by decide) (pf_1 (Option.some.inj hf)) (pf_2 (Option.some.inj hf)) dX3_readNot_21
  · have hf := if_f hf c3
    refine lv_aload_n C.1 C.2.1 dX3_readNot_9 rfl (lv_at hl 0 rfl) ?_
    refine lv_iload_n C.1 C.2.1 dX3_readNot_10 rfl (lv_at hl 1 rfl) ?_
    obtain ⟨q10, hq_q10, hf⟩ := ob_ hf
    refine x_az K h (x_V C K h [.int x1] (c_X3_readComparison fu l κ G cy ad H.size σ rOr rNot rOne hrec a0 x1 hk_a0 hq_q10) mi_X3_readComparison rfl im_yX3_readComparison se_yX3_readComparison ml_RX3_161 cl_3 hk_a0 ⟨rfl, rfl, Nat.le_trans (show 20 * dd + 24 + 1 ≤ (20 * dd + 25) by omega) hR.1, Nat.le_trans (show 8 + (3 + 11) + (1000 * dd + 1160) ≤ (1000 * dd + 1200) by omega) hR.2⟩ hl (Nat.le_of_ble_eq_true rfl) dX3_readNot_11 ⟨Nat.zero_le _, Nat.zero_le _⟩ rfl) (fun H locs h hX hz11 => ?_)
    have hE := hE.trans hX
    have hk_a0 := hX.k hk_a0 (by decide)
    exact x_rzz C hr hlk h hE hz11 (pf_1 (Option.some.inj hf)) (pf_2 (Option.some.inj hf)) dX3_readNot_14
theorem c_X3_readNot (fu : Nat) (l : Launch) (κ : Ka_) (G : va_G) (cy : Nat → ClassId) (ad : Nat → Nat) (sz : Nat) (σ : St_) (rOr rNot rOne : Rc_) {dd : Nat} (hrec : Rs_ l rOr rNot rOne dd) (a0 : Nat) (x1 : Int32) (hk_a0 : kd_ σ a0 = 3) {q : Int32 × St_} (hf : f_X3_readNot rOr rNot rOne fu σ a0 x1 = some q) : Met l yX3_readNot (Cond.code yX3_readNot cX3_readNot 2 (some .boolean) :: wU_) { frames := (20 * dd + 25), cells := 0, slots := 0, locals := (1000 * dd + 1200) } (va_Pc [.ref (ad a0), .int x1] (Pr_ κ G cy ad σ sz)) (Qz_ G cy ad σ q.2 sz q.1) 0 0 (va_A (wl_ cy ad σ) sz) :=
  x_met (by decide) (fun p e R s m below meth c ls hR C hr hlk hin _ K h hl => w_X3_readNot fu rOr rNot rOne hrec C K hr hlk ⟨hR.1, hR.2.1⟩ σ a0 x1 Ex_.rf hk_a0 hf s.heap [] ls h hl) (Nat.le_of_ble_eq_true rfl)
-- X3_readAnd
def f_X3_readAnd_12 (rOr rNot rOne : Rc_) (fu : Nat) : Nat → St_ → Nat → Int32 → Int32 → Option (Int32 × St_)
  | 0 => fun _ _ _ _ => none
  | n + 1 => fun σ  v0  v1  v2 => if (160 : Int32) ≤ v2 then some ((1 : Int32), σ) else (f_X3_token σ v0).bind fun q2 => if q2 = (8 : Int32) then (f_X3_readNot rOr rNot rOne fu (f_X3_goOn σ v0) v0 v1).bind fun q5 => if q5.1 = 0 then some ((0 : Int32), q5.2) else (f_X3_emit q5.2 v0 (5 : Int32)).bind fun q8 => (f_X3_readAnd_12 rOr rNot rOne fu n) q8 v0 v1 (v2 + (1 : Int32)) else some ((1 : Int32), σ)
set_option maxHeartbeats 4000000 in
set_option maxRecDepth 100000 in
theorem w_X3_readAnd_12 {p : Program} {l : Launch} {e : Env} {R : Room} {s : State} {m : MethodId} {args : Array Value} {below : List Frame} {meth : Method} {c : Code} {κ : Ka_} {G : va_G} {cy : Nat → ClassId} {ad : Nat → Nat} {sz : Nat} {σ0 : St_} (fu : Nat) (rOr rNot rOne : Rc_) {dd : Nat} (hrec : Rs_ l rOr rNot rOne dd)  (C : CallFix p m c cX3_readAnd 3 s args wU_ RX3) (K : Kx_ κ G cy (va_A (wl_ cy ad σ0) sz) s) (hr : meth.sig.returnType = some .boolean) (hlk : meth.locks = false) (hR : (20 * dd + 26) ≤ R.frames ∧ (1000 * dd + 1240) ≤ R.locals) {q : Int32 × St_} : ∀ n : Nat, ∀ (σ : St_) (v0 : Nat) (v1 : Int32) (v2 : Int32), Ex_ σ0 σ → kd_ σ v0 = 3 → f_X3_readAnd_12 rOr rNot rOne fu n σ v0 v1 v2 = some q → ∀ (H : Heap) (locs : List Loc) (ls : Array Slot), Ht_ G cy (va_A (wl_ cy ad σ0) sz) s ad σ H locs → lv_has ls 3 [(0, .ref (ad v0)), (1, .int v1), (2, .int v2)] → W p l e R s m args below meth c H locs 0 0 (MQ below (Qz_ G cy ad σ0 q.2 sz q.1) args s 0 0 (va_A (wl_ cy ad σ0) sz)) (F0 m 12 ls []) := by
  intro n
  induction n with
  | zero =>
    intro σ v0 v1 v2 hE hk_v0 hf H locs ls h hl
    cases hf
  | succ n ih =>
    intro σ v0 v1 v2 hE hk_v0 hf H locs ls h hl
    have hf : (if (160 : Int32) ≤ v2 then some ((1 : Int32), σ) else (f_X3_token σ v0).bind fun q2 => if q2 = (8 : Int32) then (f_X3_readNot rOr rNot rOne fu (f_X3_goOn σ v0) v0 v1).bind fun q5 => if q5.1 = 0 then some ((0 : Int32), q5.2) else (f_X3_emit q5.2 v0 (5 : Int32)).bind fun q8 => (f_X3_readAnd_12 rOr rNot rOne fu n) q8 v0 v1 (v2 + (1 : Int32)) else some ((1 : Int32), σ)) = some q := hf
    refine lv_iload_n C.1 C.2.1 dX3_readAnd_12 rfl (lv_at hl 2 rfl) ?_
    refine lv_sipush (v := (160 : Int32)) C.1 C.2.1 dX3_readAnd_13 (by decide) ?_
    refine lv_icmp_ge (tgt := 53) C.1 C.2.1 dX3_readAnd_16 (by decide) (fun c1 => ?_) (fun c1 => ?_)
    · have hf := if_t hf c1
      refine lv_iconst (v := (1 : Int32)) C.1 C.2.1 dX3_readAnd_53 (by decide) ?_
      exact x_rzz C hr hlk h hE (by decide) (pf_1 (Option.some.inj hf)) (pf_2 (Option.some.inj hf)) dX3_readAnd_54
    · have hf := if_f hf c1
      refine lv_aload_n C.1 C.2.1 dX3_readAnd_19 rfl (lv_at hl 0 rfl) ?_
      obtain ⟨q2, hq_q2, hf⟩ := ob_ hf
      refine x_ai K h (x_V C K h [] (c_X3_token l κ G cy ad H.size σ v0 hk_v0 hq_q2) mi_X3_token rfl im_yX3_token se_yX3_token ml_RX3_57 cl_3 hk_v0 ⟨rfl, rfl, Nat.le_trans (show 0 + 1 ≤ (20 * dd + 26) by omega) hR.1, Nat.le_trans (show 8 + (1 + 11) + (0) ≤ (1000 * dd + 1240) by omega) hR.2⟩ hl (Nat.le_of_ble_eq_true rfl) dX3_readAnd_20 ⟨Nat.zero_le _, Nat.zero_le _⟩ rfl) (fun H locs h hX => ?_)
      refine lv_bipush (v := (8 : Int32)) C.1 C.2.1 dX3_readAnd_23 (by decide) ?_
      refine lv_icmp_ne (tgt := 53) C.1 C.2.1 dX3_readAnd_25 (by decide) (fun c3 => ?_) (fun c3 => ?_)
      · have hf := if_f hf c3
        refine lv_iconst (v := (1 : Int32)) C.1 C.2.1 dX3_readAnd_53 (by decide) ?_
        exact x_rzz C hr hlk h hE (by decide) (pf_1 (Option.some.inj hf)) (pf_2 (Option.some.inj hf)) dX3_readAnd_54
      · have hf := if_t hf c3
        refine lv_aload_n C.1 C.2.1 dX3_readAnd_28 rfl (lv_at hl 0 rfl) ?_
        refine x_av K h (x_V C K h [] (c_X3_goOn l κ G cy ad H.size σ v0 hk_v0 rfl) mi_X3_goOn rfl im_yX3_goOn se_yX3_goOn ml_RX3_142 cl_3 hk_v0 ⟨rfl, rfl, Nat.le_trans (show 0 + 1 ≤ (20 * dd + 26) by omega) hR.1, Nat.le_trans (show 8 + (1 + 11) + (0) ≤ (1000 * dd + 1240) by omega) hR.2⟩ hl (Nat.le_of_ble_eq_true rfl) dX3_readAnd_29 ⟨Nat.zero_le _, Nat.zero_le _⟩ rfl) (fun H locs h hX => ?_)
        have hE := hE.trans hX
        have hk_v0 := hX.k hk_v0 (by decide)
        refine lv_aload_n C.1 C.2.1 dX3_readAnd_32 rfl (lv_at hl 0 rfl) ?_
        refine lv_iload_n C.1 C.2.1 dX3_readAnd_33 rfl (lv_at hl 1 rfl) ?_
        obtain ⟨q5, hq_q5, hf⟩ := ob_ hf
        refine x_az K h (x_V C K h [.int v1] (c_X3_readNot fu l κ G cy ad H.size (f_X3_goOn σ v0) rOr rNot rOne hrec v0 v1 hk_v0 hq_q5) mi_X3_readNot rfl im_yX3_readNot se_yX3_readNot ml_RX3_158 cl_3 hk_v0 ⟨rfl, rfl, Nat.le_trans (show 20 * dd + 25 + 1 ≤ (20 * dd + 26) by omega) hR.1, Nat.le_trans (show 8 + (2 + 11) + (1000 * dd + 1200) ≤ (1000 * dd + 1240) by omega) hR.2⟩ hl (Nat.le_of_ble_eq_true rfl) dX3_readAnd_34 ⟨Nat.zero_le _, Nat.zero_le _⟩ rfl) (fun H locs h hX hz6 => ?_)
        have hE := hE.trans hX
        have hk_v0 := hX.k hk_v0 (by decide)
        refine lv_if_ne (tgt := 42) C.1 C.2.1 dX3_readAnd_37 (by decide) (fun c7 => ?_) (fun c7 => ?_)
        · have hf := if_f hf c7
          refine lv_aload_n C.1 C.2.1 dX3_readAnd_42 rfl (lv_at hl 0 rfl) ?_
          refine lv_iconst (v := (5 : Int32)) C.1 C.2.1 dX3_readAnd_43 (by decide) ?_
          obtain ⟨q8, hq_q8, hf⟩ := ob_ hf
          refine x_av K h (x_V C K h [.int (5 : Int32)] (c_X3_emit l κ G cy ad H.size q5.2 v0 (5 : Int32) hk_v0 hq_q8) mi_X3_emit rfl im_yX3_emit se_yX3_emit ml_RX3_154 cl_3 hk_v0 ⟨rfl, rfl, Nat.le_trans (show 1 + 1 ≤ (20 * dd + 26) by omega) hR.1, Nat.le_trans (show 8 + (2 + 11) + (21) ≤ (1000 * dd + 1240) by omega) hR.2⟩ hl (Nat.le_of_ble_eq_true rfl) dX3_readAnd_44 ⟨Nat.zero_le _, Nat.zero_le _⟩ rfl) (fun H locs h hX => ?_)
          have hE := hE.trans hX
          have hk_v0 := hX.k hk_v0 (by decide)
          refine lv_iinc (v := v2 + (1 : Int32)) (lv' := [(2, .int (v2 + (1 : Int32))), (0, .ref (ad v0)), (1, .int v1)]) C.1 C.2.1 dX3_readAnd_47 hl (k := 2) rfl rfl (by decide) rfl (fun ls hl => ?_)
          refine lv_goto (tgt := 12) C.1 C.2.1 dX3_readAnd_50 (by decide) ?_
          exact ih q8 v0 v1 (v2 + (1 : Int32)) hE hk_v0 hf _ _ _ h (lv_sub hl [1, 2, 0] rfl)
        · have hf := if_t hf c7
          refine lv_iconst (v := (0 : Int32)) C.1 C.2.1 dX3_readAnd_40 (by decide) ?_
          exact x_rzz C hr hlk h hE (by decide) (pf_1 (Option.some.inj hf)) (pf_2 (Option.some.inj hf)) dX3_readAnd_41
def f_X3_readAnd (rOr rNot rOne : Rc_) (fu : Nat) (σ : St_) (a0 : Nat) (x1 : Int32) : Option (Int32 × St_) := (f_X3_readNot rOr rNot rOne fu σ a0 x1).bind fun q2 => if q2.1 = 0 then some ((0 : Int32), q2.2) else f_X3_readAnd_12 rOr rNot rOne fu fu q2.2 a0 x1 (0 : Int32)
set_option maxHeartbeats 4000000 in
set_option maxRecDepth 100000 in
theorem w_X3_readAnd {p : Program} {l : Launch} {e : Env} {R : Room} {s : State} {m : MethodId} {args : Array Value} {below : List Frame} {meth : Method} {c : Code} {κ : Ka_} {G : va_G} {cy : Nat → ClassId} {ad : Nat → Nat} {sz : Nat} {σ0 : St_} (fu : Nat) (rOr rNot rOne : Rc_) {dd : Nat} (hrec : Rs_ l rOr rNot rOne dd)  (C : CallFix p m c cX3_readAnd 3 s args wU_ RX3) (K : Kx_ κ G cy (va_A (wl_ cy ad σ0) sz) s) (hr : meth.sig.returnType = some .boolean) (hlk : meth.locks = false) (hR : (20 * dd + 26) ≤ R.frames ∧ (1000 * dd + 1240) ≤ R.locals) {q : Int32 × St_} : ∀ (σ : St_) (a0 : Nat) (x1 : Int32), Ex_ σ0 σ → kd_ σ a0 = 3 → f_X3_readAnd rOr rNot rOne fu σ a0 x1 = some q → ∀ (H : Heap) (locs : List Loc) (ls : Array Slot), Ht_ G cy (va_A (wl_ cy ad σ0) sz) s ad σ H locs → lv_has ls 3 [(0, .ref (ad a0)), (1, .int x1)] → W p l e R s m args below meth c H locs 0 0 (MQ below (Qz_ G cy ad σ0 q.2 sz q.1) args s 0 0 (va_A (wl_ cy ad σ0) sz)) (F0 m 0 ls []) := by
  intro σ a0 x1 hE hk_a0 hf H locs ls h hl
  have hf : ((f_X3_readNot rOr rNot rOne fu σ a0 x1).bind fun q2 => if q2.1 = 0 then some ((0 : Int32), q2.2) else f_X3_readAnd_12 rOr rNot rOne fu fu q2.2 a0 x1 (0 : Int32)) = some q := hf
  refine lv_aload_n C.1 C.2.1 dX3_readAnd_0 rfl (lv_at hl 0 rfl) ?_
  refine lv_iload_n C.1 C.2.1 dX3_readAnd_1 rfl (lv_at hl 1 rfl) ?_
  obtain ⟨q2, hq_q2, hf⟩ := ob_ hf
  refine x_az K h (x_V C K h [.int x1] (c_X3_readNot fu l κ G cy ad H.size σ rOr rNot rOne hrec a0 x1 hk_a0 hq_q2) mi_X3_readNot rfl im_yX3_readNot se_yX3_readNot ml_RX3_158 cl_3 hk_a0 ⟨rfl, rfl, Nat.le_trans (show 20 * dd + 25 + 1 ≤ (20 * dd + 26) by omega) hR.1, Nat.le_trans (show 8 + (2 + 11) + (1000 * dd + 1200) ≤ (1000 * dd + 1240) by omega) hR.2⟩ hl (Nat.le_of_ble_eq_true rfl) dX3_readAnd_2 ⟨Nat.zero_le _, Nat.zero_le _⟩ rfl) (fun H locs h hX hz3 => ?_)
  have hE := hE.trans hX
  have hk_a0 := hX.k hk_a0 (by decide)
  refine lv_if_ne (tgt := 10) C.1 C.2.1 dX3_readAnd_5 (by decide) (fun c4 => ?_) (fun c4 => ?_)
  · have hf := if_f hf c4
    refine lv_iconst (v := (0 : Int32)) C.1 C.2.1 dX3_readAnd_10 (by decide) ?_
    refine lv_istore_n (i := 2) (lv' := [(2, .int (0 : Int32)), (0, .ref (ad a0)), (1, .int x1)]) C.1 C.2.1 dX3_readAnd_11 rfl hl (by decide) rfl (fun ls hl => ?_)
    exact w_X3_readAnd_12 fu rOr rNot rOne hrec C K hr hlk hR fu q2.2 a0 x1 (0 : Int32) hE hk_a0 hf _ _ _ h (lv_sub hl [1, 2, 0] rfl)
  · have hf := if_t hf c4
    refine lv_iconst (v := (0 : Int32)) C.1 C.2.1 dX3_readAnd_8 (by decide) ?_
    exact x_rzz C hr hlk h hE (by decide) (pf_1 (Option.some.inj hf)) (pf_2 (Option.some.inj hf)) dX3_readAnd_9
theorem c_X3_readAnd (fu : Nat) (l : Launch) (κ : Ka_) (G : va_G) (cy : Nat → ClassId) (ad : Nat → Nat) (sz : Nat) (σ : St_) (rOr rNot rOne : Rc_) {dd : Nat} (hrec : Rs_ l rOr rNot rOne dd) (a0 : Nat) (x1 : Int32) (hk_a0 : kd_ σ a0 = 3) {q : Int32 × St_} (hf : f_X3_readAnd rOr rNot rOne fu σ a0 x1 = some q) : Met l yX3_readAnd (Cond.code yX3_readAnd cX3_readAnd 3 (some .boolean) :: wU_) { frames := (20 * dd + 26), cells := 0, slots := 0, locals := (1000 * dd + 1240) } (va_Pc [.ref (ad a0), .int x1] (Pr_ κ G cy ad σ sz)) (Qz_ G cy ad σ q.2 sz q.1) 0 0 (va_A (wl_ cy ad σ) sz) :=
  x_met (by decide) (fun p e R s m below meth c ls hR C hr hlk hin _ K h hl => w_X3_readAnd fu rOr rNot rOne hrec C K hr hlk ⟨hR.1, hR.2.1⟩ σ a0 x1 Ex_.rf hk_a0 hf s.heap [] ls h hl) (Nat.le_of_ble_eq_true rfl)
-- X3_readOr
def f_X3_readOr_12 (rOr rNot rOne : Rc_) (fu : Nat) : Nat → St_ → Nat → Int32 → Int32 → Option (Int32 × St_)
  | 0 => fun _ _ _ _ => none
  | n + 1 => fun σ  v0  v1  v2 => if (160 : Int32) ≤ v2 then some ((1 : Int32), σ) else (f_X3_token σ v0).bind fun q2 => if q2 = (7 : Int32) then (f_X3_readAnd rOr rNot rOne fu (f_X3_goOn σ v0) v0 v1).bind fun q5 => if q5.1 = 0 then some ((0 : Int32), q5.2) else (f_X3_emit q5.2 v0 (4 : Int32)).bind fun q8 => (f_X3_readOr_12 rOr rNot rOne fu n) q8 v0 v1 (v2 + (1 : Int32)) else some ((1 : Int32), σ)
set_option maxHeartbeats 4000000 in
set_option maxRecDepth 100000 in
theorem w_X3_readOr_12 {p : Program} {l : Launch} {e : Env} {R : Room} {s : State} {m : MethodId} {args : Array Value} {below : List Frame} {meth : Method} {c : Code} {κ : Ka_} {G : va_G} {cy : Nat → ClassId} {ad : Nat → Nat} {sz : Nat} {σ0 : St_} (fu : Nat) (rOr rNot rOne : Rc_) {dd : Nat} (hrec : Rs_ l rOr rNot rOne dd)  (C : CallFix p m c cX3_readOr 3 s args wU_ RX3) (K : Kx_ κ G cy (va_A (wl_ cy ad σ0) sz) s) (hr : meth.sig.returnType = some .boolean) (hlk : meth.locks = false) (hR : (20 * dd + 27) ≤ R.frames ∧ (1000 * dd + 1280) ≤ R.locals) {q : Int32 × St_} : ∀ n : Nat, ∀ (σ : St_) (v0 : Nat) (v1 : Int32) (v2 : Int32), Ex_ σ0 σ → kd_ σ v0 = 3 → f_X3_readOr_12 rOr rNot rOne fu n σ v0 v1 v2 = some q → ∀ (H : Heap) (locs : List Loc) (ls : Array Slot), Ht_ G cy (va_A (wl_ cy ad σ0) sz) s ad σ H locs → lv_has ls 3 [(0, .ref (ad v0)), (1, .int v1), (2, .int v2)] → W p l e R s m args below meth c H locs 0 0 (MQ below (Qz_ G cy ad σ0 q.2 sz q.1) args s 0 0 (va_A (wl_ cy ad σ0) sz)) (F0 m 12 ls []) := by
  intro n
  induction n with
  | zero =>
    intro σ v0 v1 v2 hE hk_v0 hf H locs ls h hl
    cases hf
  | succ n ih =>
    intro σ v0 v1 v2 hE hk_v0 hf H locs ls h hl
    have hf : (if (160 : Int32) ≤ v2 then some ((1 : Int32), σ) else (f_X3_token σ v0).bind fun q2 => if q2 = (7 : Int32) then (f_X3_readAnd rOr rNot rOne fu (f_X3_goOn σ v0) v0 v1).bind fun q5 => if q5.1 = 0 then some ((0 : Int32), q5.2) else (f_X3_emit q5.2 v0 (4 : Int32)).bind fun q8 => (f_X3_readOr_12 rOr rNot rOne fu n) q8 v0 v1 (v2 + (1 : Int32)) else some ((1 : Int32), σ)) = some q := hf
    refine lv_iload_n C.1 C.2.1 dX3_readOr_12 rfl (lv_at hl 2 rfl) ?_
    refine lv_sipush (v := (160 : Int32)) C.1 C.2.1 dX3_readOr_13 (by decide) ?_
    refine lv_icmp_ge (tgt := 53) C.1 C.2.1 dX3_readOr_16 (by decide) (fun c1 => ?_) (fun c1 => ?_)
    · have hf := if_t hf c1
      refine lv_iconst (v := (1 : Int32)) C.1 C.2.1 dX3_readOr_53 (by decide) ?_
      exact x_rzz C hr hlk h hE (by decide) (pf_1 (Option.some.inj hf)) (pf_2 (Option.some.inj hf)) dX3_readOr_54
    · have hf := if_f hf c1
      refine lv_aload_n C.1 C.2.1 dX3_readOr_19 rfl (lv_at hl 0 rfl) ?_
      obtain ⟨q2, hq_q2, hf⟩ := ob_ hf
      refine x_ai K h (x_V C K h [] (c_X3_token l κ G cy ad H.size σ v0 hk_v0 hq_q2) mi_X3_token rfl im_yX3_token se_yX3_token ml_RX3_57 cl_3 hk_v0 ⟨rfl, rfl, Nat.le_trans (show 0 + 1 ≤ (20 * dd + 27) by omega) hR.1, Nat.le_trans (show 8 + (1 + 11) + (0) ≤ (1000 * dd + 1280) by omega) hR.2⟩ hl (Nat.le_of_ble_eq_true rfl) dX3_readOr_20 ⟨Nat.zero_le _, Nat.zero_le _⟩ rfl) (fun H locs h hX => ?_)
      refine lv_bipush (v := (7 : Int32)) C.1 C.2.1 dX3_readOr_23 (by decide) ?_
      refine lv_icmp_ne (tgt := 53) C.1 C.2.1 dX3_readOr_25 (by decide) (fun c3 => ?_) (fun c3 => ?_)
      · have hf := if_f hf c3
        refine lv_iconst (v := (1 : Int32)) C.1 C.2.1 dX3_readOr_53 (by decide) ?_
        exact x_rzz C hr hlk h hE (by decide) (pf_1 (Option.some.inj hf)) (pf_2 (Option.some.inj hf)) dX3_readOr_54
      · have hf := if_t hf c3
        refine lv_aload_n C.1 C.2.1 dX3_readOr_28 rfl (lv_at hl 0 rfl) ?_
        refine x_av K h (x_V C K h [] (c_X3_goOn l κ G cy ad H.size σ v0 hk_v0 rfl) mi_X3_goOn rfl im_yX3_goOn se_yX3_goOn ml_RX3_142 cl_3 hk_v0 ⟨rfl, rfl, Nat.le_trans (show 0 + 1 ≤ (20 * dd + 27) by omega) hR.1, Nat.le_trans (show 8 + (1 + 11) + (0) ≤ (1000 * dd + 1280) by omega) hR.2⟩ hl (Nat.le_of_ble_eq_true rfl) dX3_readOr_29 ⟨Nat.zero_le _, Nat.zero_le _⟩ rfl) (fun H locs h hX => ?_)
        have hE := hE.trans hX
        have hk_v0 := hX.k hk_v0 (by decide)
        refine lv_aload_n C.1 C.2.1 dX3_readOr_32 rfl (lv_at hl 0 rfl) ?_
        refine lv_iload_n C.1 C.2.1 dX3_readOr_33 rfl (lv_at hl 1 rfl) ?_
        obtain ⟨q5, hq_q5, hf⟩ := ob_ hf
        refine x_az K h (x_V C K h [.int v1] (c_X3_readAnd fu l κ G cy ad H.size (f_X3_goOn σ v0) rOr rNot rOne hrec v0 v1 hk_v0 hq_q5) mi_X3_readAnd rfl im_yX3_readAnd se_yX3_readAnd ml_RX3_151 cl_3 hk_v0 ⟨rfl, rfl, Nat.le_trans (show 20 * dd + 26 + 1 ≤ (20 * dd + 27) by omega) hR.1, Nat.le_trans (show 8 + (3 + 11) + (1000 * dd + 1240) ≤ (1000 * dd + 1280) by omega) hR.2⟩ hl (Nat.le_of_ble_eq_true rfl) dX3_readOr_34 ⟨Nat.zero_le _, Nat.zero_le _⟩ rfl) (fun H locs h hX hz6 => ?_)
        have hE := hE.trans hX
        have hk_v0 := hX.k hk_v0 (by decide)
        refine lv_if_ne (tgt := 42) C.1 C.2.1 dX3_readOr_37 (by decide) (fun c7 => ?_) (fun c7 => ?_)
        · have hf := if_f hf c7
          refine lv_aload_n C.1 C.2.1 dX3_readOr_42 rfl (lv_at hl 0 rfl) ?_
          refine lv_iconst (v := (4 : Int32)) C.1 C.2.1 dX3_readOr_43 (by decide) ?_
          obtain ⟨q8, hq_q8, hf⟩ := ob_ hf
          refine x_av K h (x_V C K h [.int (4 : Int32)] (c_X3_emit l κ G cy ad H.size q5.2 v0 (4 : Int32) hk_v0 hq_q8) mi_X3_emit rfl im_yX3_emit se_yX3_emit ml_RX3_154 cl_3 hk_v0 ⟨rfl, rfl, Nat.le_trans (show 1 + 1 ≤ (20 * dd + 27) by omega) hR.1, Nat.le_trans (show 8 + (2 + 11) + (21) ≤ (1000 * dd + 1280) by omega) hR.2⟩ hl (Nat.le_of_ble_eq_true rfl) dX3_readOr_44 ⟨Nat.zero_le _, Nat.zero_le _⟩ rfl) (fun H locs h hX => ?_)
          have hE := hE.trans hX
          have hk_v0 := hX.k hk_v0 (by decide)
          refine lv_iinc (v := v2 + (1 : Int32)) (lv' := [(2, .int (v2 + (1 : Int32))), (0, .ref (ad v0)), (1, .int v1)]) C.1 C.2.1 dX3_readOr_47 hl (k := 2) rfl rfl (by decide) rfl (fun ls hl => ?_)
          refine lv_goto (tgt := 12) C.1 C.2.1 dX3_readOr_50 (by decide) ?_
          exact ih q8 v0 v1 (v2 + (1 : Int32)) hE hk_v0 hf _ _ _ h (lv_sub hl [1, 2, 0] rfl)
        · have hf := if_t hf c7
          refine lv_iconst (v := (0 : Int32)) C.1 C.2.1 dX3_readOr_40 (by decide) ?_
          exact x_rzz C hr hlk h hE (by decide) (pf_1 (Option.some.inj hf)) (pf_2 (Option.some.inj hf)) dX3_readOr_41
def f_X3_readOr (rOr rNot rOne : Rc_) (fu : Nat) (σ : St_) (a0 : Nat) (x1 : Int32) : Option (Int32 × St_) := (f_X3_readAnd rOr rNot rOne fu σ a0 x1).bind fun q2 => if q2.1 = 0 then some ((0 : Int32), q2.2) else f_X3_readOr_12 rOr rNot rOne fu fu q2.2 a0 x1 (0 : Int32)
set_option maxHeartbeats 4000000 in
set_option maxRecDepth 100000 in
theorem w_X3_readOr {p : Program} {l : Launch} {e : Env} {R : Room} {s : State} {m : MethodId} {args : Array Value} {below : List Frame} {meth : Method} {c : Code} {κ : Ka_} {G : va_G} {cy : Nat → ClassId} {ad : Nat → Nat} {sz : Nat} {σ0 : St_} (fu : Nat) (rOr rNot rOne : Rc_) {dd : Nat} (hrec : Rs_ l rOr rNot rOne dd)  (C : CallFix p m c cX3_readOr 3 s args wU_ RX3) (K : Kx_ κ G cy (va_A (wl_ cy ad σ0) sz) s) (hr : meth.sig.returnType = some .boolean) (hlk : meth.locks = false) (hR : (20 * dd + 27) ≤ R.frames ∧ (1000 * dd + 1280) ≤ R.locals) {q : Int32 × St_} : ∀ (σ : St_) (a0 : Nat) (x1 : Int32), Ex_ σ0 σ → kd_ σ a0 = 3 → f_X3_readOr rOr rNot rOne fu σ a0 x1 = some q → ∀ (H : Heap) (locs : List Loc) (ls : Array Slot), Ht_ G cy (va_A (wl_ cy ad σ0) sz) s ad σ H locs → lv_has ls 3 [(0, .ref (ad a0)), (1, .int x1)] → W p l e R s m args below meth c H locs 0 0 (MQ below (Qz_ G cy ad σ0 q.2 sz q.1) args s 0 0 (va_A (wl_ cy ad σ0) sz)) (F0 m 0 ls []) := by
  intro σ a0 x1 hE hk_a0 hf H locs ls h hl
  have hf : ((f_X3_readAnd rOr rNot rOne fu σ a0 x1).bind fun q2 => if q2.1 = 0 then some ((0 : Int32), q2.2) else f_X3_readOr_12 rOr rNot rOne fu fu q2.2 a0 x1 (0 : Int32)) = some q := hf
  refine lv_aload_n C.1 C.2.1 dX3_readOr_0 rfl (lv_at hl 0 rfl) ?_
  refine lv_iload_n C.1 C.2.1 dX3_readOr_1 rfl (lv_at hl 1 rfl) ?_
  obtain ⟨q2, hq_q2, hf⟩ := ob_ hf
  refine x_az K h (x_V C K h [.int x1] (c_X3_readAnd fu l κ G cy ad H.size σ rOr rNot rOne hrec a0 x1 hk_a0 hq_q2) mi_X3_readAnd rfl im_yX3_readAnd se_yX3_readAnd ml_RX3_151 cl_3 hk_a0 ⟨rfl, rfl, Nat.le_trans (show 20 * dd + 26 + 1 ≤ (20 * dd + 27) by omega) hR.1, Nat.le_trans (show 8 + (3 + 11) + (1000 * dd + 1240) ≤ (1000 * dd + 1280) by omega) hR.2⟩ hl (Nat.le_of_ble_eq_true rfl) dX3_readOr_2 ⟨Nat.zero_le _, Nat.zero_le _⟩ rfl) (fun H locs h hX hz3 => ?_)
  have hE := hE.trans hX
  have hk_a0 := hX.k hk_a0 (by decide)
  refine lv_if_ne (tgt := 10) C.1 C.2.1 dX3_readOr_5 (by decide) (fun c4 => ?_) (fun c4 => ?_)
  · have hf := if_f hf c4
    refine lv_iconst (v := (0 : Int32)) C.1 C.2.1 dX3_readOr_10 (by decide) ?_
    refine lv_istore_n (i := 2) (lv' := [(2, .int (0 : Int32)), (0, .ref (ad a0)), (1, .int x1)]) C.1 C.2.1 dX3_readOr_11 rfl hl (by decide) rfl (fun ls hl => ?_)
    exact w_X3_readOr_12 fu rOr rNot rOne hrec C K hr hlk hR fu q2.2 a0 x1 (0 : Int32) hE hk_a0 hf _ _ _ h (lv_sub hl [1, 2, 0] rfl)
  · have hf := if_t hf c4
    refine lv_iconst (v := (0 : Int32)) C.1 C.2.1 dX3_readOr_8 (by decide) ?_
    exact x_rzz C hr hlk h hE (by decide) (pf_1 (Option.some.inj hf)) (pf_2 (Option.some.inj hf)) dX3_readOr_9
theorem c_X3_readOr (fu : Nat) (l : Launch) (κ : Ka_) (G : va_G) (cy : Nat → ClassId) (ad : Nat → Nat) (sz : Nat) (σ : St_) (rOr rNot rOne : Rc_) {dd : Nat} (hrec : Rs_ l rOr rNot rOne dd) (a0 : Nat) (x1 : Int32) (hk_a0 : kd_ σ a0 = 3) {q : Int32 × St_} (hf : f_X3_readOr rOr rNot rOne fu σ a0 x1 = some q) : Met l yX3_readOr (Cond.code yX3_readOr cX3_readOr 3 (some .boolean) :: wU_) { frames := (20 * dd + 27), cells := 0, slots := 0, locals := (1000 * dd + 1280) } (va_Pc [.ref (ad a0), .int x1] (Pr_ κ G cy ad σ sz)) (Qz_ G cy ad σ q.2 sz q.1) 0 0 (va_A (wl_ cy ad σ) sz) :=
  x_met (by decide) (fun p e R s m below meth c ls hR C hr hlk hin _ K h hl => w_X3_readOr fu rOr rNot rOne hrec C K hr hlk ⟨hR.1, hR.2.1⟩ σ a0 x1 Ex_.rf hk_a0 hf s.heap [] ls h hl) (Nat.le_of_ble_eq_true rfl)
def R3_ (fu : Nat) : Nat → Rc_ × Rc_ × Rc_
  | 0 => (fun _ _ _ => none, fun _ _ _ => none, fun _ _ _ => none)
  | d + 1 => (f_X3_readOr (R3_ fu d).1 (R3_ fu d).2.1 (R3_ fu d).2.2 fu, f_X3_readNot (R3_ fu d).1 (R3_ fu d).2.1 (R3_ fu d).2.2 fu, f_X3_readOne (R3_ fu d).1 (R3_ fu d).2.1 (R3_ fu d).2.2 fu)
theorem rs3_ (l : Launch) (fu : Nat) : ∀ d : Nat, Rs_ l (R3_ fu d).1 (R3_ fu d).2.1 (R3_ fu d).2.2 d := by
  intro d
  induction d with
  | zero => exact ⟨(fun _ _ _ _ _ _ _ _ _ _ h => by cases h), (fun _ _ _ _ _ _ _ _ _ _ h => by cases h), (fun _ _ _ _ _ _ _ _ _ _ h => by cases h)⟩
  | succ d ih => exact ⟨fun κ G cy ad sz σ a x q hk hf => x_met (by decide) (fun p e R s m below meth c ls hR C hr hlk hin _ K h hl => w_X3_readOr fu (R3_ fu d).1 (R3_ fu d).2.1 (R3_ fu d).2.2 ih C K hr hlk ⟨Nat.le_trans (show 20 * d + 27 ≤ 20 * (d + 1) + 20 by omega) hR.1, Nat.le_trans (show 1000 * d + 1280 ≤ 1000 * (d + 1) + 1000 by omega) hR.2.1⟩ σ a x Ex_.rf hk hf s.heap [] ls h hl) (Nat.le_of_ble_eq_true rfl), fun κ G cy ad sz σ a x q hk hf => x_met (by decide) (fun p e R s m below meth c ls hR C hr hlk hin _ K h hl => w_X3_readNot fu (R3_ fu d).1 (R3_ fu d).2.1 (R3_ fu d).2.2 ih C K hr hlk ⟨Nat.le_trans (show 20 * d + 25 ≤ 20 * (d + 1) + 20 by omega) hR.1, Nat.le_trans (show 1000 * d + 1200 ≤ 1000 * (d + 1) + 1000 by omega) hR.2.1⟩ σ a x Ex_.rf hk hf s.heap [] ls h hl) (Nat.le_of_ble_eq_true rfl), fun κ G cy ad sz σ a x q hk hf => x_met (by decide) (fun p e R s m below meth c ls hR C hr hlk hin _ K h hl => w_X3_readOne fu (R3_ fu d).1 (R3_ fu d).2.1 (R3_ fu d).2.2 ih C K hr hlk ⟨Nat.le_trans (show 20 * d + 21 ≤ 20 * (d + 1) + 20 by omega) hR.1, Nat.le_trans (show 1000 * d + 1040 ≤ 1000 * (d + 1) + 1000 by omega) hR.2.1⟩ σ a x Ex_.rf hk hf s.heap [] ls h hl) (Nat.le_of_ble_eq_true rfl)⟩
def f_X3_readOrC (fu : Nat) (σ : St_) (a : Nat) (x : Int32) : Option (Int32 × St_) := (R3_ fu 7).1 σ a x
theorem c_X3_readOrC (fu : Nat) (l : Launch) (κ : Ka_) (G : va_G) (cy : Nat → ClassId) (ad : Nat → Nat) (sz : Nat) (σ : St_) (a : Nat) (x : Int32) (hk : kd_ σ a = 3) {q : Int32 × St_} (hf : f_X3_readOrC fu σ a x = some q) : Met l yX3_readOr (Cond.code yX3_readOr cX3_readOr 3 (some .boolean) :: wU_) { frames := 160, cells := 0, slots := 0, locals := 8000 } (va_Pc [.ref (ad a), .int x] (Pr_ κ G cy ad σ sz)) (Qz_ G cy ad σ q.2 sz q.1) 0 0 (va_A (wl_ cy ad σ) sz) := (rs3_ l fu 7).1 κ G cy ad sz σ a x hk hf
