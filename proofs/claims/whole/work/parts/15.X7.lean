-- X7_discover
theorem mi_X7_discover : Mi_ yX7_discover cX7_discover 5 none 4 := ⟨co_yX7_discover, in_RX7, by decide, by decide, by decide +kernel⟩
def f_X7_discover (σ : St_) (a0 : Nat) (x1 : Int32) (x2 : Int32) (x3 : Int32) (x4 : Int32) : Option St_ := if (f_X8_isBelow x1 (36 : Int32)) = 0 then some σ else (dr_ σ 10 (sr_ σ a0 0)).bind fun b8 => (ix_ x1 (ln_ σ b8)).bind fun j9 => if (si_ σ b8 j9) = (-1 : Int32) then if (f_X8_isBelow (si_ σ a0 5) (36 : Int32)) = 0 then some σ else (ix_ x1 (ln_ σ b8)).bind fun j14 => (dr_ (ui_ σ b8 j14 x4) 10 (sr_ (ui_ σ b8 j14 x4) a0 1)).bind fun b15 => (ix_ x1 (ln_ (ui_ σ b8 j14 x4) b15)).bind fun j16 => (dr_ (ui_ (ui_ σ b8 j14 x4) b15 j16 x2) 10 (sr_ (ui_ (ui_ σ b8 j14 x4) b15 j16 x2) a0 2)).bind fun b17 => (ix_ x1 (ln_ (ui_ (ui_ σ b8 j14 x4) b15 j16 x2) b17)).bind fun j18 => (dr_ (ui_ (ui_ (ui_ σ b8 j14 x4) b15 j16 x2) b17 j18 x3) 10 (sr_ (ui_ (ui_ (ui_ σ b8 j14 x4) b15 j16 x2) b17 j18 x3) a0 3)).bind fun b19 => (ix_ (si_ (ui_ (ui_ (ui_ σ b8 j14 x4) b15 j16 x2) b17 j18 x3) a0 5) (ln_ (ui_ (ui_ (ui_ σ b8 j14 x4) b15 j16 x2) b17 j18 x3) b19)).bind fun j20 => some (ui_ (ui_ (ui_ (ui_ (ui_ σ b8 j14 x4) b15 j16 x2) b17 j18 x3) b19 j20 x1) a0 5 ((si_ (ui_ (ui_ (ui_ (ui_ σ b8 j14 x4) b15 j16 x2) b17 j18 x3) b19 j20 x1) a0 5) + (1 : Int32))) else some σ
set_option maxHeartbeats 4000000 in
set_option maxRecDepth 100000 in
theorem w_X7_discover {p : Program} {l : Launch} {e : Env} {R : Room} {s : State} {m : MethodId} {args : Array Value} {below : List Frame} {meth : Method} {c : Code} {κ : Ka_} {G : va_G} {cy : Nat → ClassId} {ad : Nat → Nat} {sz : Nat} {σ0 : St_} (C : CallFix p m c cX7_discover 5 s args wU_ RX7) (K : Kx_ κ G cy (va_A (wl_ cy ad σ0) sz) s) (hr : meth.sig.returnType = none) (hlk : meth.locks = false) (hR : 1 ≤ R.frames ∧ 21 ≤ R.locals) {q : St_} : ∀ (σ : St_) (a0 : Nat) (x1 : Int32) (x2 : Int32) (x3 : Int32) (x4 : Int32), Ex_ σ0 σ → kd_ σ a0 = 7 → f_X7_discover σ a0 x1 x2 x3 x4 = some q → ∀ (H : Heap) (locs : List Loc) (ls : Array Slot), Ht_ G cy (va_A (wl_ cy ad σ0) sz) s ad σ H locs → lv_has ls 5 [(0, .ref (ad a0)), (1, .int x1), (2, .int x2), (3, .int x3), (4, .int x4)] → W p l e R s m args below meth c H locs 0 0 (MQ below (Qv_ G cy ad σ0 q sz) args s 0 0 (va_A (wl_ cy ad σ0) sz)) (F0 m 0 ls []) := by
  intro σ a0 x1 x2 x3 x4 hE hk_a0 hf H locs ls h hl
  have hf : (if (f_X8_isBelow x1 (36 : Int32)) = 0 then some σ else (dr_ σ 10 (sr_ σ a0 0)).bind fun b8 => (ix_ x1 (ln_ σ b8)).bind fun j9 => if (si_ σ b8 j9) = (-1 : Int32) then if (f_X8_isBelow (si_ σ a0 5) (36 : Int32)) = 0 then some σ else (ix_ x1 (ln_ σ b8)).bind fun j14 => (dr_ (ui_ σ b8 j14 x4) 10 (sr_ (ui_ σ b8 j14 x4) a0 1)).bind fun b15 => (ix_ x1 (ln_ (ui_ σ b8 j14 x4) b15)).bind fun j16 => (dr_ (ui_ (ui_ σ b8 j14 x4) b15 j16 x2) 10 (sr_ (ui_ (ui_ σ b8 j14 x4) b15 j16 x2) a0 2)).bind fun b17 => (ix_ x1 (ln_ (ui_ (ui_ σ b8 j14 x4) b15 j16 x2) b17)).bind fun j18 => (dr_ (ui_ (ui_ (ui_ σ b8 j14 x4) b15 j16 x2) b17 j18 x3) 10 (sr_ (ui_ (ui_ (ui_ σ b8 j14 x4) b15 j16 x2) b17 j18 x3) a0 3)).bind fun b19 => (ix_ (si_ (ui_ (ui_ (ui_ σ b8 j14 x4) b15 j16 x2) b17 j18 x3) a0 5) (ln_ (ui_ (ui_ (ui_ σ b8 j14 x4) b15 j16 x2) b17 j18 x3) b19)).bind fun j20 => some (ui_ (ui_ (ui_ (ui_ (ui_ σ b8 j14 x4) b15 j16 x2) b17 j18 x3) b19 j20 x1) a0 5 ((si_ (ui_ (ui_ (ui_ (ui_ σ b8 j14 x4) b15 j16 x2) b17 j18 x3) b19 j20 x1) a0 5) + (1 : Int32))) else some σ) = some q := hf
  refine lv_iload_n C.1 C.2.1 dX7_discover_0 rfl (lv_at hl 1 rfl) ?_
  refine lv_bipush (v := (36 : Int32)) C.1 C.2.1 dX7_discover_1 (by decide) ?_
  refine x_az K h (x_SN C K h [.int x1, .int (36 : Int32)] (c_X8_isBelow l κ G cy ad H.size σ x1 (36 : Int32) rfl) mi_X8_isBelow rfl st_yX8_isBelow nm_RX7_52 ⟨rfl, rfl, Nat.le_trans (Nat.le_of_ble_eq_true rfl) hR.1, Nat.le_trans (Nat.le_of_ble_eq_true rfl) hR.2⟩ hl (Nat.le_of_ble_eq_true rfl) dX7_discover_3 ⟨Nat.zero_le _, Nat.zero_le _⟩ rfl) (fun H locs h hX hz6 => ?_)
  refine lv_if_eq (tgt := 73) C.1 C.2.1 dX7_discover_6 (by decide) (fun c7 => ?_) (fun c7 => ?_)
  · have hf := if_t hf c7
    exact x_rv C hr hlk h hE (Option.some.inj hf) dX7_discover_73
  · have hf := if_f hf c7
    refine lv_aload_n C.1 C.2.1 dX7_discover_9 rfl (lv_at hl 0 rfl) ?_
    obtain ⟨b8, hb_b8, hf⟩ := ob_ hf
    obtain ⟨hq_b8, hk_b8⟩ := dr_in hb_b8
    refine x_get (v := .ref (ad b8)) C K h cl_7 hk_a0 0 (by decide) fl_RX7_9 (hv_r (o := sr_ σ a0 0) rfl hq_b8) dX7_discover_10 ?_
    refine lv_iload_n C.1 C.2.1 dX7_discover_13 rfl (lv_at hl 1 rfl) ?_
    obtain ⟨j9, hj_j9, hf⟩ := ob_ hf
    refine x_iald C K h hk_b8 hj_j9 dX7_discover_14 ?_
    refine lv_iconst (v := (-1 : Int32)) C.1 C.2.1 dX7_discover_15 (by decide) ?_
    refine lv_icmp_ne (tgt := 73) C.1 C.2.1 dX7_discover_16 (by decide) (fun c10 => ?_) (fun c10 => ?_)
    · have hf := if_f hf c10
      exact x_rv C hr hlk h hE (Option.some.inj hf) dX7_discover_73
    · have hf := if_t hf c10
      refine lv_aload_n C.1 C.2.1 dX7_discover_19 rfl (lv_at hl 0 rfl) ?_
      refine x_get (v := .int (si_ σ a0 5)) C K h cl_7 hk_a0 5 (by decide) fl_RX7_27 rfl dX7_discover_20 ?_
      refine lv_bipush (v := (36 : Int32)) C.1 C.2.1 dX7_discover_23 (by decide) ?_
      refine x_az K h (x_SN C K h [.int (si_ σ a0 5), .int (36 : Int32)] (c_X8_isBelow l κ G cy ad H.size σ (si_ σ a0 5) (36 : Int32) rfl) mi_X8_isBelow rfl st_yX8_isBelow nm_RX7_52 ⟨rfl, rfl, Nat.le_trans (Nat.le_of_ble_eq_true rfl) hR.1, Nat.le_trans (Nat.le_of_ble_eq_true rfl) hR.2⟩ hl (Nat.le_of_ble_eq_true rfl) dX7_discover_25 ⟨Nat.zero_le _, Nat.zero_le _⟩ rfl) (fun H locs h hX hz12 => ?_)
      refine lv_if_eq (tgt := 73) C.1 C.2.1 dX7_discover_28 (by decide) (fun c13 => ?_) (fun c13 => ?_)
      · have hf := if_t hf c13
        exact x_rv C hr hlk h hE (Option.some.inj hf) dX7_discover_73
      · have hf := if_f hf c13
        refine lv_aload_n C.1 C.2.1 dX7_discover_31 rfl (lv_at hl 0 rfl) ?_
        refine x_get (v := .ref (ad b8)) C K h cl_7 hk_a0 0 (by decide) fl_RX7_9 (hv_r (o := sr_ σ a0 0) rfl hq_b8) dX7_discover_32 ?_
        refine lv_iload_n C.1 C.2.1 dX7_discover_35 rfl (lv_at hl 1 rfl) ?_
        refine lv_iload C.1 C.2.1 dX7_discover_36 (lv_at hl 4 rfl) ?_
        obtain ⟨j14, hj_j14, hf⟩ := ob_ hf
        refine x_iast C K h hk_b8 hj_j14 dX7_discover_38 (fun H locs h => ?_)
        have hE := hE.up (up_i σ b8 j14 x4)
        refine lv_aload_n C.1 C.2.1 dX7_discover_39 rfl (lv_at hl 0 rfl) ?_
        obtain ⟨b15, hb_b15, hf⟩ := ob_ hf
        obtain ⟨hq_b15, hk_b15⟩ := dr_in hb_b15
        refine x_get (v := .ref (ad b15)) C K h cl_7 hk_a0 1 (by decide) fl_RX7_15 (hv_r (o := sr_ (ui_ σ b8 j14 x4) a0 1) rfl hq_b15) dX7_discover_40 ?_
        refine lv_iload_n C.1 C.2.1 dX7_discover_43 rfl (lv_at hl 1 rfl) ?_
        refine lv_iload_n C.1 C.2.1 dX7_discover_44 rfl (lv_at hl 2 rfl) ?_
        obtain ⟨j16, hj_j16, hf⟩ := ob_ hf
        refine x_iast C K h hk_b15 hj_j16 dX7_discover_45 (fun H locs h => ?_)
        have hE := hE.up (up_i (ui_ σ b8 j14 x4) b15 j16 x2)
        refine lv_aload_n C.1 C.2.1 dX7_discover_46 rfl (lv_at hl 0 rfl) ?_
        obtain ⟨b17, hb_b17, hf⟩ := ob_ hf
        obtain ⟨hq_b17, hk_b17⟩ := dr_in hb_b17
        refine x_get (v := .ref (ad b17)) C K h cl_7 hk_a0 2 (by decide) fl_RX7_18 (hv_r (o := sr_ (ui_ (ui_ σ b8 j14 x4) b15 j16 x2) a0 2) rfl hq_b17) dX7_discover_47 ?_
        refine lv_iload_n C.1 C.2.1 dX7_discover_50 rfl (lv_at hl 1 rfl) ?_
        refine lv_iload_n C.1 C.2.1 dX7_discover_51 rfl (lv_at hl 3 rfl) ?_
        obtain ⟨j18, hj_j18, hf⟩ := ob_ hf
        refine x_iast C K h hk_b17 hj_j18 dX7_discover_52 (fun H locs h => ?_)
        have hE := hE.up (up_i (ui_ (ui_ σ b8 j14 x4) b15 j16 x2) b17 j18 x3)
        refine lv_aload_n C.1 C.2.1 dX7_discover_53 rfl (lv_at hl 0 rfl) ?_
        obtain ⟨b19, hb_b19, hf⟩ := ob_ hf
        obtain ⟨hq_b19, hk_b19⟩ := dr_in hb_b19
        refine x_get (v := .ref (ad b19)) C K h cl_7 hk_a0 3 (by decide) fl_RX7_21 (hv_r (o := sr_ (ui_ (ui_ (ui_ σ b8 j14 x4) b15 j16 x2) b17 j18 x3) a0 3) rfl hq_b19) dX7_discover_54 ?_
        refine lv_aload_n C.1 C.2.1 dX7_discover_57 rfl (lv_at hl 0 rfl) ?_
        refine x_get (v := .int (si_ (ui_ (ui_ (ui_ σ b8 j14 x4) b15 j16 x2) b17 j18 x3) a0 5)) C K h cl_7 hk_a0 5 (by decide) fl_RX7_27 rfl dX7_discover_58 ?_
        refine lv_iload_n C.1 C.2.1 dX7_discover_61 rfl (lv_at hl 1 rfl) ?_
        obtain ⟨j20, hj_j20, hf⟩ := ob_ hf
        refine x_iast C K h hk_b19 hj_j20 dX7_discover_62 (fun H locs h => ?_)
        have hE := hE.up (up_i (ui_ (ui_ (ui_ σ b8 j14 x4) b15 j16 x2) b17 j18 x3) b19 j20 x1)
        refine lv_aload_n C.1 C.2.1 dX7_discover_63 rfl (lv_at hl 0 rfl) ?_
        refine lv_dup C.1 C.2.1 dX7_discover_64 rfl ?_
        refine x_get (v := .int (si_ (ui_ (ui_ (ui_ (ui_ σ b8 j14 x4) b15 j16 x2) b17 j18 x3) b19 j20 x1) a0 5)) C K h cl_7 hk_a0 5 (by decide) fl_RX7_27 rfl dX7_discover_65 ?_
        refine lv_iconst (v := (1 : Int32)) C.1 C.2.1 dX7_discover_68 (by decide) ?_
        refine lv_iadd C.1 C.2.1 dX7_discover_69 ?_
        refine x_putI C K h cl_7 hk_a0 5 (by decide) fl_RX7_27 rfl rfl rfl (Nat.le_of_ble_eq_true rfl) (fun _ _ _ => rfl) dX7_discover_70 (fun H locs h => ?_)
        have hE := hE.up (up_i (ui_ (ui_ (ui_ (ui_ σ b8 j14 x4) b15 j16 x2) b17 j18 x3) b19 j20 x1) a0 5 ((si_ (ui_ (ui_ (ui_ (ui_ σ b8 j14 x4) b15 j16 x2) b17 j18 x3) b19 j20 x1) a0 5) + (1 : Int32)))
        exact x_rv C hr hlk h hE (Option.some.inj hf) dX7_discover_73
theorem c_X7_discover (l : Launch) (κ : Ka_) (G : va_G) (cy : Nat → ClassId) (ad : Nat → Nat) (sz : Nat) (σ : St_) (a0 : Nat) (x1 : Int32) (x2 : Int32) (x3 : Int32) (x4 : Int32) (hk_a0 : kd_ σ a0 = 7) {q : St_} (hf : f_X7_discover σ a0 x1 x2 x3 x4 = some q) : Met l yX7_discover (Cond.code yX7_discover cX7_discover 5 none :: wU_) { frames := 1, cells := 0, slots := 0, locals := 21 } (va_Pc [.ref (ad a0), .int x1, .int x2, .int x3, .int x4] (Pr_ κ G cy ad σ sz)) (Qv_ G cy ad σ q sz) 0 0 (va_A (wl_ cy ad σ) sz) :=
  x_met (by decide) (fun p e R s m below meth c ls hR C hr hlk hin _ K h hl => w_X7_discover C K hr hlk ⟨hR.1, hR.2.1⟩ σ a0 x1 x2 x3 x4 Ex_.rf hk_a0 hf s.heap [] ls h hl) (Nat.le_of_ble_eq_true rfl)
-- X7_leave
theorem mi_X7_leave : Mi_ yX7_leave cX7_leave 6 none 2 := ⟨co_yX7_leave, in_RX7, by decide, by decide, by decide +kernel⟩
def f_X7_leave_15 (fu : Nat) : Nat → St_ → Nat → Nat → Int32 → Int32 → Int32 → Option St_
  | 0 => fun _ _ _ _ _ _ => none
  | n + 1 => fun σ  v0  v1  v2  v3  v4 => if (8 : Int32) ≤ v4 then if v3 = 0 then some (ul_ σ v0 7 ((sl_ σ v0 7) ||| ((1 : Int64) <<< (v2.toInt64 &&& 63)))) else some (ul_ σ v0 7 ((sl_ σ v0 7) ||| (0 : Int64))) else (f_X6_goal fu σ v1 v2 v4).bind fun q3 => (dr_ q3.2 10 (sr_ q3.2 v0 4)).bind fun b4 => (ix_ ((v2 * (8 : Int32)) + v4) (ln_ q3.2 b4)).bind fun j5 => if q3.1 = v2 then (f_X7_leave_15 fu n) (ui_ q3.2 b4 j5 q3.1) v0 v1 v2 v3 (v4 + (1 : Int32)) else (dr_ (ui_ (ui_ q3.2 b4 j5 q3.1) v0 6 ((si_ (ui_ q3.2 b4 j5 q3.1) v0 6) ||| ((1 : Int32) <<< (v4 &&& 31)))) 10 (sr_ (ui_ (ui_ q3.2 b4 j5 q3.1) v0 6 ((si_ (ui_ q3.2 b4 j5 q3.1) v0 6) ||| ((1 : Int32) <<< (v4 &&& 31)))) v0 0)).bind fun b7 => (ix_ v2 (ln_ (ui_ (ui_ q3.2 b4 j5 q3.1) v0 6 ((si_ (ui_ q3.2 b4 j5 q3.1) v0 6) ||| ((1 : Int32) <<< (v4 &&& 31)))) b7)).bind fun j8 => (f_X7_discover (ui_ (ui_ q3.2 b4 j5 q3.1) v0 6 ((si_ (ui_ q3.2 b4 j5 q3.1) v0 6) ||| ((1 : Int32) <<< (v4 &&& 31)))) v0 q3.1 v2 v4 ((si_ (ui_ (ui_ q3.2 b4 j5 q3.1) v0 6 ((si_ (ui_ q3.2 b4 j5 q3.1) v0 6) ||| ((1 : Int32) <<< (v4 &&& 31)))) b7 j8) + (1 : Int32))).bind fun q9 => (f_X7_leave_15 fu n) q9 v0 v1 v2 (1 : Int32) (v4 + (1 : Int32))
set_option maxHeartbeats 4000000 in
set_option maxRecDepth 100000 in
theorem w_X7_leave_15 {p : Program} {l : Launch} {e : Env} {R : Room} {s : State} {m : MethodId} {args : Array Value} {below : List Frame} {meth : Method} {c : Code} {κ : Ka_} {G : va_G} {cy : Nat → ClassId} {ad : Nat → Nat} {sz : Nat} {σ0 : St_} (fu : Nat) (C : CallFix p m c cX7_leave 6 s args wU_ RX7) (K : Kx_ κ G cy (va_A (wl_ cy ad σ0) sz) s) (hr : meth.sig.returnType = none) (hlk : meth.locks = false) (hR : 3 ≤ R.frames ∧ 77 ≤ R.locals) {q : St_} : ∀ n : Nat, ∀ (σ : St_) (v0 : Nat) (v1 : Nat) (v2 : Int32) (v3 : Int32) (v4 : Int32), Ex_ σ0 σ → kd_ σ v0 = 7 → kd_ σ v1 = 6 → f_X7_leave_15 fu n σ v0 v1 v2 v3 v4 = some q → ∀ (H : Heap) (locs : List Loc) (ls : Array Slot), Ht_ G cy (va_A (wl_ cy ad σ0) sz) s ad σ H locs → lv_has ls 6 [(0, .ref (ad v0)), (1, .ref (ad v1)), (2, .int v2), (3, .int v3), (4, .int v4)] → W p l e R s m args below meth c H locs 0 0 (MQ below (Qv_ G cy ad σ0 q sz) args s 0 0 (va_A (wl_ cy ad σ0) sz)) (F0 m 15 ls []) := by
  intro n
  induction n with
  | zero =>
    intro σ v0 v1 v2 v3 v4 hE hk_v0 hk_v1 hf H locs ls h hl
    cases hf
  | succ n ih =>
    intro σ v0 v1 v2 v3 v4 hE hk_v0 hk_v1 hf H locs ls h hl
    have hf : (if (8 : Int32) ≤ v4 then if v3 = 0 then some (ul_ σ v0 7 ((sl_ σ v0 7) ||| ((1 : Int64) <<< (v2.toInt64 &&& 63)))) else some (ul_ σ v0 7 ((sl_ σ v0 7) ||| (0 : Int64))) else (f_X6_goal fu σ v1 v2 v4).bind fun q3 => (dr_ q3.2 10 (sr_ q3.2 v0 4)).bind fun b4 => (ix_ ((v2 * (8 : Int32)) + v4) (ln_ q3.2 b4)).bind fun j5 => if q3.1 = v2 then (f_X7_leave_15 fu n) (ui_ q3.2 b4 j5 q3.1) v0 v1 v2 v3 (v4 + (1 : Int32)) else (dr_ (ui_ (ui_ q3.2 b4 j5 q3.1) v0 6 ((si_ (ui_ q3.2 b4 j5 q3.1) v0 6) ||| ((1 : Int32) <<< (v4 &&& 31)))) 10 (sr_ (ui_ (ui_ q3.2 b4 j5 q3.1) v0 6 ((si_ (ui_ q3.2 b4 j5 q3.1) v0 6) ||| ((1 : Int32) <<< (v4 &&& 31)))) v0 0)).bind fun b7 => (ix_ v2 (ln_ (ui_ (ui_ q3.2 b4 j5 q3.1) v0 6 ((si_ (ui_ q3.2 b4 j5 q3.1) v0 6) ||| ((1 : Int32) <<< (v4 &&& 31)))) b7)).bind fun j8 => (f_X7_discover (ui_ (ui_ q3.2 b4 j5 q3.1) v0 6 ((si_ (ui_ q3.2 b4 j5 q3.1) v0 6) ||| ((1 : Int32) <<< (v4 &&& 31)))) v0 q3.1 v2 v4 ((si_ (ui_ (ui_ q3.2 b4 j5 q3.1) v0 6 ((si_ (ui_ q3.2 b4 j5 q3.1) v0 6) ||| ((1 : Int32) <<< (v4 &&& 31)))) b7 j8) + (1 : Int32))).bind fun q9 => (f_X7_leave_15 fu n) q9 v0 v1 v2 (1 : Int32) (v4 + (1 : Int32))) = some q := hf
    refine lv_iload C.1 C.2.1 dX7_leave_15 (lv_at hl 4 rfl) ?_
    refine lv_bipush (v := (8 : Int32)) C.1 C.2.1 dX7_leave_17 (by decide) ?_
    refine lv_icmp_ge (tgt := 89) C.1 C.2.1 dX7_leave_19 (by decide) (fun c1 => ?_) (fun c1 => ?_)
    · have hf := if_t hf c1
      refine lv_aload_n C.1 C.2.1 dX7_leave_89 rfl (lv_at hl 0 rfl) ?_
      refine lv_dup C.1 C.2.1 dX7_leave_90 rfl ?_
      refine x_get (v := .long (sl_ σ v0 7)) C K h cl_7 hk_v0 7 (by decide) fl_RX7_34 rfl dX7_leave_91 ?_
      refine lv_iload_n C.1 C.2.1 dX7_leave_94 rfl (lv_at hl 3 rfl) ?_
      refine lv_if_eq (tgt := 102) C.1 C.2.1 dX7_leave_95 (by decide) (fun c2 => ?_) (fun c2 => ?_)
      · have hf := if_t hf c2
        refine lv_lconst (v := (1 : Int64)) C.1 C.2.1 dX7_leave_102 (by decide) ?_
        refine lv_iload_n C.1 C.2.1 dX7_leave_103 rfl (lv_at hl 2 rfl) ?_
        refine lv_lshl C.1 C.2.1 dX7_leave_104 rfl ?_
        refine lv_lor C.1 C.2.1 dX7_leave_105 ?_
        refine x_putL C K h cl_7 hk_v0 7 (by decide) fl_RX7_34 rfl rfl rfl (Nat.le_of_ble_eq_true rfl) (fun _ _ _ => rfl) dX7_leave_106 (fun H locs h => ?_)
        have hE := hE.up (up_l σ v0 7 ((sl_ σ v0 7) ||| ((1 : Int64) <<< (v2.toInt64 &&& 63))))
        exact x_rv C hr hlk h hE (Option.some.inj hf) dX7_leave_109
      · have hf := if_f hf c2
        refine lv_lconst (v := (0 : Int64)) C.1 C.2.1 dX7_leave_98 (by decide) ?_
        refine lv_goto (tgt := 105) C.1 C.2.1 dX7_leave_99 (by decide) ?_
        refine lv_lor C.1 C.2.1 dX7_leave_105 ?_
        refine x_putL C K h cl_7 hk_v0 7 (by decide) fl_RX7_34 rfl rfl rfl (Nat.le_of_ble_eq_true rfl) (fun _ _ _ => rfl) dX7_leave_106 (fun H locs h => ?_)
        have hE := hE.up (up_l σ v0 7 ((sl_ σ v0 7) ||| (0 : Int64)))
        exact x_rv C hr hlk h hE (Option.some.inj hf) dX7_leave_109
    · have hf := if_f hf c1
      refine lv_aload_n C.1 C.2.1 dX7_leave_22 rfl (lv_at hl 1 rfl) ?_
      refine lv_iload_n C.1 C.2.1 dX7_leave_23 rfl (lv_at hl 2 rfl) ?_
      refine lv_iload C.1 C.2.1 dX7_leave_24 (lv_at hl 4 rfl) ?_
      obtain ⟨q3, hq_q3, hf⟩ := ob_ hf
      refine x_ai K h (x_VN C K h [.int v2, .int v4] (c_X6_goal fu l κ G cy ad H.size σ v1 v2 v4 hk_v1 hq_q3) mi_X6_goal rfl im_yX6_goal se_yX6_goal nm_RX7_56 cl_6 hk_v1 ⟨rfl, rfl, Nat.le_trans (Nat.le_of_ble_eq_true rfl) hR.1, Nat.le_trans (Nat.le_of_ble_eq_true rfl) hR.2⟩ hl (Nat.le_of_ble_eq_true rfl) dX7_leave_26 ⟨Nat.zero_le _, Nat.zero_le _⟩ rfl) (fun H locs h hX => ?_)
      have hE := hE.trans hX
      have hk_v0 := hX.k hk_v0 (by decide)
      have hk_v1 := hX.k hk_v1 (by decide)
      refine lv_istore (i := 5) (lv' := [(5, .int q3.1), (0, .ref (ad v0)), (1, .ref (ad v1)), (2, .int v2), (3, .int v3), (4, .int v4)]) C.1 C.2.1 dX7_leave_29 hl (by decide) rfl (fun ls hl => ?_)
      refine lv_aload_n C.1 C.2.1 dX7_leave_31 rfl (lv_at hl 1 rfl) ?_
      obtain ⟨b4, hb_b4, hf⟩ := ob_ hf
      obtain ⟨hq_b4, hk_b4⟩ := dr_in hb_b4
      refine x_get (v := .ref (ad b4)) C K h cl_7 hk_v0 4 (by decide) fl_RX7_24 (hv_r (o := sr_ q3.2 v0 4) rfl hq_b4) dX7_leave_32 ?_
      refine lv_iload_n C.1 C.2.1 dX7_leave_35 rfl (lv_at hl 3 rfl) ?_
      refine lv_bipush (v := (8 : Int32)) C.1 C.2.1 dX7_leave_36 (by decide) ?_
      refine lv_imul C.1 C.2.1 dX7_leave_38 ?_
      refine lv_iload C.1 C.2.1 dX7_leave_39 (lv_at hl 5 rfl) ?_
      refine lv_iadd C.1 C.2.1 dX7_leave_41 ?_
      refine lv_iload C.1 C.2.1 dX7_leave_42 (lv_at hl 0 rfl) ?_
      obtain ⟨j5, hj_j5, hf⟩ := ob_ hf
      refine x_iast C K h hk_b4 hj_j5 dX7_leave_44 (fun H locs h => ?_)
      have hE := hE.up (up_i q3.2 b4 j5 q3.1)
      refine lv_iload C.1 C.2.1 dX7_leave_45 (lv_at hl 0 rfl) ?_
      refine lv_iload_n C.1 C.2.1 dX7_leave_47 rfl (lv_at hl 3 rfl) ?_
      refine lv_icmp_eq (tgt := 83) C.1 C.2.1 dX7_leave_48 (by decide) (fun c6 => ?_) (fun c6 => ?_)
      · have hf := if_t hf c6
        refine lv_iinc (v := v4 + (1 : Int32)) (lv' := [(4, .int (v4 + (1 : Int32))), (5, .int q3.1), (0, .ref (ad v0)), (1, .ref (ad v1)), (2, .int v2), (3, .int v3)]) C.1 C.2.1 dX7_leave_83 hl (k := 5) rfl rfl (by decide) rfl (fun ls hl => ?_)
        refine lv_goto (tgt := 15) C.1 C.2.1 dX7_leave_86 (by decide) ?_
        exact ih (ui_ q3.2 b4 j5 q3.1) v0 v1 v2 v3 (v4 + (1 : Int32)) hE hk_v0 hk_v1 hf _ _ _ h (lv_sub hl [2, 3, 4, 5, 0] rfl)
      · have hf := if_f hf c6
        refine lv_iconst (v := (1 : Int32)) C.1 C.2.1 dX7_leave_51 (by decide) ?_
        refine lv_istore_n (i := 3) (lv' := [(3, .int (1 : Int32)), (5, .int q3.1), (0, .ref (ad v0)), (1, .ref (ad v1)), (2, .int v2), (4, .int v4)]) C.1 C.2.1 dX7_leave_52 rfl hl (by decide) rfl (fun ls hl => ?_)
        refine lv_aload_n C.1 C.2.1 dX7_leave_53 rfl (lv_at hl 2 rfl) ?_
        refine lv_dup C.1 C.2.1 dX7_leave_54 rfl ?_
        refine x_get (v := .int (si_ (ui_ q3.2 b4 j5 q3.1) v0 6)) C K h cl_7 hk_v0 6 (by decide) fl_RX7_31 rfl dX7_leave_55 ?_
        refine lv_iconst (v := (1 : Int32)) C.1 C.2.1 dX7_leave_58 (by decide) ?_
        refine lv_iload C.1 C.2.1 dX7_leave_59 (lv_at hl 5 rfl) ?_
        refine lv_ishl C.1 C.2.1 dX7_leave_61 ?_
        refine lv_ior C.1 C.2.1 dX7_leave_62 ?_
        refine x_putI C K h cl_7 hk_v0 6 (by decide) fl_RX7_31 rfl rfl rfl (Nat.le_of_ble_eq_true rfl) (fun _ _ _ => rfl) dX7_leave_63 (fun H locs h => ?_)
        have hE := hE.up (up_i (ui_ q3.2 b4 j5 q3.1) v0 6 ((si_ (ui_ q3.2 b4 j5 q3.1) v0 6) ||| ((1 : Int32) <<< (v4 &&& 31))))
        refine lv_aload_n C.1 C.2.1 dX7_leave_66 rfl (lv_at hl 2 rfl) ?_
        refine lv_iload C.1 C.2.1 dX7_leave_67 (lv_at hl 1 rfl) ?_
        refine lv_iload_n C.1 C.2.1 dX7_leave_69 rfl (lv_at hl 4 rfl) ?_
        refine lv_iload C.1 C.2.1 dX7_leave_70 (lv_at hl 5 rfl) ?_
        refine lv_aload_n C.1 C.2.1 dX7_leave_72 rfl (lv_at hl 2 rfl) ?_
        obtain ⟨b7, hb_b7, hf⟩ := ob_ hf
        obtain ⟨hq_b7, hk_b7⟩ := dr_in hb_b7
        refine x_get (v := .ref (ad b7)) C K h cl_7 hk_v0 0 (by decide) fl_RX7_9 (hv_r (o := sr_ (ui_ (ui_ q3.2 b4 j5 q3.1) v0 6 ((si_ (ui_ q3.2 b4 j5 q3.1) v0 6) ||| ((1 : Int32) <<< (v4 &&& 31)))) v0 0) rfl hq_b7) dX7_leave_73 ?_
        refine lv_iload_n C.1 C.2.1 dX7_leave_76 rfl (lv_at hl 4 rfl) ?_
        obtain ⟨j8, hj_j8, hf⟩ := ob_ hf
        refine x_iald C K h hk_b7 hj_j8 dX7_leave_77 ?_
        refine lv_iconst (v := (1 : Int32)) C.1 C.2.1 dX7_leave_78 (by decide) ?_
        refine lv_iadd C.1 C.2.1 dX7_leave_79 ?_
        obtain ⟨q9, hq_q9, hf⟩ := ob_ hf
        refine x_av K h (x_V C K h [.int q3.1, .int v2, .int v4, .int ((si_ (ui_ (ui_ q3.2 b4 j5 q3.1) v0 6 ((si_ (ui_ q3.2 b4 j5 q3.1) v0 6) ||| ((1 : Int32) <<< (v4 &&& 31)))) b7 j8) + (1 : Int32))] (c_X7_discover l κ G cy ad H.size (ui_ (ui_ q3.2 b4 j5 q3.1) v0 6 ((si_ (ui_ q3.2 b4 j5 q3.1) v0 6) ||| ((1 : Int32) <<< (v4 &&& 31)))) v0 q3.1 v2 v4 ((si_ (ui_ (ui_ q3.2 b4 j5 q3.1) v0 6 ((si_ (ui_ q3.2 b4 j5 q3.1) v0 6) ||| ((1 : Int32) <<< (v4 &&& 31)))) b7 j8) + (1 : Int32)) hk_v0 hq_q9) mi_X7_discover rfl im_yX7_discover se_yX7_discover ml_RX7_44 cl_7 hk_v0 ⟨rfl, rfl, Nat.le_trans (Nat.le_of_ble_eq_true rfl) hR.1, Nat.le_trans (Nat.le_of_ble_eq_true rfl) hR.2⟩ hl (Nat.le_of_ble_eq_true rfl) dX7_leave_80 ⟨Nat.zero_le _, Nat.zero_le _⟩ rfl) (fun H locs h hX => ?_)
        have hE := hE.trans hX
        have hk_v0 := hX.k hk_v0 (by decide)
        have hk_v1 := hX.k hk_v1 (by decide)
        refine lv_iinc (v := v4 + (1 : Int32)) (lv' := [(4, .int (v4 + (1 : Int32))), (3, .int (1 : Int32)), (5, .int q3.1), (0, .ref (ad v0)), (1, .ref (ad v1)), (2, .int v2)]) C.1 C.2.1 dX7_leave_83 hl (k := 5) rfl rfl (by decide) rfl (fun ls hl => ?_)
        refine lv_goto (tgt := 15) C.1 C.2.1 dX7_leave_86 (by decide) ?_
        exact ih q9 v0 v1 v2 (1 : Int32) (v4 + (1 : Int32)) hE hk_v0 hk_v1 hf _ _ _ h (lv_sub hl [3, 4, 5, 1, 0] rfl)
def f_X7_leave (fu : Nat) (σ : St_) (a0 : Nat) (x1 : Nat) (x2 : Int32) : Option St_ := if (f_X8_isBelow x2 (36 : Int32)) = 0 then some σ else f_X7_leave_15 fu fu σ a0 x1 x2 (0 : Int32) (0 : Int32)
set_option maxHeartbeats 4000000 in
set_option maxRecDepth 100000 in
theorem w_X7_leave {p : Program} {l : Launch} {e : Env} {R : Room} {s : State} {m : MethodId} {args : Array Value} {below : List Frame} {meth : Method} {c : Code} {κ : Ka_} {G : va_G} {cy : Nat → ClassId} {ad : Nat → Nat} {sz : Nat} {σ0 : St_} (fu : Nat) (C : CallFix p m c cX7_leave 6 s args wU_ RX7) (K : Kx_ κ G cy (va_A (wl_ cy ad σ0) sz) s) (hr : meth.sig.returnType = none) (hlk : meth.locks = false) (hR : 3 ≤ R.frames ∧ 77 ≤ R.locals) {q : St_} : ∀ (σ : St_) (a0 : Nat) (x1 : Nat) (x2 : Int32), Ex_ σ0 σ → kd_ σ a0 = 7 → kd_ σ x1 = 6 → f_X7_leave fu σ a0 x1 x2 = some q → ∀ (H : Heap) (locs : List Loc) (ls : Array Slot), Ht_ G cy (va_A (wl_ cy ad σ0) sz) s ad σ H locs → lv_has ls 6 [(0, .ref (ad a0)), (1, .ref (ad x1)), (2, .int x2)] → W p l e R s m args below meth c H locs 0 0 (MQ below (Qv_ G cy ad σ0 q sz) args s 0 0 (va_A (wl_ cy ad σ0) sz)) (F0 m 0 ls []) := by
  intro σ a0 x1 x2 hE hk_a0 hk_x1 hf H locs ls h hl
  have hf : (if (f_X8_isBelow x2 (36 : Int32)) = 0 then some σ else f_X7_leave_15 fu fu σ a0 x1 x2 (0 : Int32) (0 : Int32)) = some q := hf
  refine lv_iload_n C.1 C.2.1 dX7_leave_0 rfl (lv_at hl 2 rfl) ?_
  refine lv_bipush (v := (36 : Int32)) C.1 C.2.1 dX7_leave_1 (by decide) ?_
  refine x_az K h (x_SN C K h [.int x2, .int (36 : Int32)] (c_X8_isBelow l κ G cy ad H.size σ x2 (36 : Int32) rfl) mi_X8_isBelow rfl st_yX8_isBelow nm_RX7_52 ⟨rfl, rfl, Nat.le_trans (Nat.le_of_ble_eq_true rfl) hR.1, Nat.le_trans (Nat.le_of_ble_eq_true rfl) hR.2⟩ hl (Nat.le_of_ble_eq_true rfl) dX7_leave_3 ⟨Nat.zero_le _, Nat.zero_le _⟩ rfl) (fun H locs h hX hz4 => ?_)
  refine lv_if_ne (tgt := 10) C.1 C.2.1 dX7_leave_6 (by decide) (fun c5 => ?_) (fun c5 => ?_)
  · have hf := if_f hf c5
    refine lv_iconst (v := (0 : Int32)) C.1 C.2.1 dX7_leave_10 (by decide) ?_
    refine lv_istore_n (i := 3) (lv' := [(3, .int (0 : Int32)), (0, .ref (ad a0)), (1, .ref (ad x1)), (2, .int x2)]) C.1 C.2.1 dX7_leave_11 rfl hl (by decide) rfl (fun ls hl => ?_)
    refine lv_iconst (v := (0 : Int32)) C.1 C.2.1 dX7_leave_12 (by decide) ?_
    refine lv_istore (i := 4) (lv' := [(4, .int (0 : Int32)), (3, .int (0 : Int32)), (0, .ref (ad a0)), (1, .ref (ad x1)), (2, .int x2)]) C.1 C.2.1 dX7_leave_13 hl (by decide) rfl (fun ls hl => ?_)
    exact w_X7_leave_15 fu C K hr hlk hR fu σ a0 x1 x2 (0 : Int32) (0 : Int32) hE hk_a0 hk_x1 hf _ _ _ h (lv_sub hl [2, 3, 4, 1, 0] rfl)
  · have hf := if_t hf c5
    exact x_rv C hr hlk h hE (Option.some.inj hf) dX7_leave_9
theorem c_X7_leave (fu : Nat) (l : Launch) (κ : Ka_) (G : va_G) (cy : Nat → ClassId) (ad : Nat → Nat) (sz : Nat) (σ : St_) (a0 : Nat) (x1 : Nat) (x2 : Int32) (hk_a0 : kd_ σ a0 = 7) (hk_x1 : kd_ σ x1 = 6) {q : St_} (hf : f_X7_leave fu σ a0 x1 x2 = some q) : Met l yX7_leave (Cond.code yX7_leave cX7_leave 6 none :: wU_) { frames := 3, cells := 0, slots := 0, locals := 77 } (va_Pc [.ref (ad a0), .ref (ad x1), .int x2] (Pr_ κ G cy ad σ sz)) (Qv_ G cy ad σ q sz) 0 0 (va_A (wl_ cy ad σ) sz) :=
  x_met (by decide) (fun p e R s m below meth c ls hR C hr hlk hin _ K h hl => w_X7_leave fu C K hr hlk ⟨hR.1, hR.2.1⟩ σ a0 x1 x2 Ex_.rf hk_a0 hk_x1 hf s.heap [] ls h hl) (Nat.le_of_ble_eq_true rfl)
-- X7_explore
theorem mi_X7_explore : Mi_ yX7_explore cX7_explore 4 none 2 := ⟨co_yX7_explore, in_RX7, by decide, by decide, by decide +kernel⟩
def f_X7_explore_33 (fu : Nat) : Nat → St_ → Nat → Nat → Int32 → Option St_
  | 0 => fun _ _ _ _ => none
  | n + 1 => fun σ  v0  v1  v3 => if (si_ σ v0 5) ≤ v3 then some σ else if (36 : Int32) ≤ v3 then some σ else (dr_ σ 10 (sr_ σ v0 3)).bind fun b3 => (ix_ v3 (ln_ σ b3)).bind fun j4 => (f_X7_leave fu σ v0 v1 (si_ σ b3 j4)).bind fun q5 => (f_X7_explore_33 fu n) q5 v0 v1 (v3 + (1 : Int32))
set_option maxHeartbeats 4000000 in
set_option maxRecDepth 100000 in
theorem w_X7_explore_33 {p : Program} {l : Launch} {e : Env} {R : Room} {s : State} {m : MethodId} {args : Array Value} {below : List Frame} {meth : Method} {c : Code} {κ : Ka_} {G : va_G} {cy : Nat → ClassId} {ad : Nat → Nat} {sz : Nat} {σ0 : St_} (fu : Nat) (C : CallFix p m c cX7_explore 4 s args wU_ RX7) (K : Kx_ κ G cy (va_A (wl_ cy ad σ0) sz) s) (hr : meth.sig.returnType = none) (hlk : meth.locks = false) (hR : 4 ≤ R.frames ∧ 102 ≤ R.locals) {q : St_} : ∀ n : Nat, ∀ (σ : St_) (v0 : Nat) (v1 : Nat) (v3 : Int32), Ex_ σ0 σ → kd_ σ v0 = 7 → kd_ σ v1 = 6 → f_X7_explore_33 fu n σ v0 v1 v3 = some q → ∀ (H : Heap) (locs : List Loc) (ls : Array Slot), Ht_ G cy (va_A (wl_ cy ad σ0) sz) s ad σ H locs → lv_has ls 4 [(0, .ref (ad v0)), (1, .ref (ad v1)), (3, .int v3)] → W p l e R s m args below meth c H locs 0 0 (MQ below (Qv_ G cy ad σ0 q sz) args s 0 0 (va_A (wl_ cy ad σ0) sz)) (F0 m 33 ls []) := by
  intro n
  induction n with
  | zero =>
    intro σ v0 v1 v3 hE hk_v0 hk_v1 hf H locs ls h hl
    cases hf
  | succ n ih =>
    intro σ v0 v1 v3 hE hk_v0 hk_v1 hf H locs ls h hl
    have hf : (if (si_ σ v0 5) ≤ v3 then some σ else if (36 : Int32) ≤ v3 then some σ else (dr_ σ 10 (sr_ σ v0 3)).bind fun b3 => (ix_ v3 (ln_ σ b3)).bind fun j4 => (f_X7_leave fu σ v0 v1 (si_ σ b3 j4)).bind fun q5 => (f_X7_explore_33 fu n) q5 v0 v1 (v3 + (1 : Int32))) = some q := hf
    refine lv_iload_n C.1 C.2.1 dX7_explore_33 rfl (lv_at hl 2 rfl) ?_
    refine lv_aload_n C.1 C.2.1 dX7_explore_34 rfl (lv_at hl 0 rfl) ?_
    refine x_get (v := .int (si_ σ v0 5)) C K h cl_7 hk_v0 5 (by decide) fl_RX7_27 rfl dX7_explore_35 ?_
    refine lv_icmp_ge (tgt := 64) C.1 C.2.1 dX7_explore_38 (by decide) (fun c1 => ?_) (fun c1 => ?_)
    · have hf := if_t hf c1
      exact x_rv C hr hlk h hE (Option.some.inj hf) dX7_explore_64
    · have hf := if_f hf c1
      refine lv_iload_n C.1 C.2.1 dX7_explore_41 rfl (lv_at hl 2 rfl) ?_
      refine lv_bipush (v := (36 : Int32)) C.1 C.2.1 dX7_explore_42 (by decide) ?_
      refine lv_icmp_ge (tgt := 64) C.1 C.2.1 dX7_explore_44 (by decide) (fun c2 => ?_) (fun c2 => ?_)
      · have hf := if_t hf c2
        exact x_rv C hr hlk h hE (Option.some.inj hf) dX7_explore_64
      · have hf := if_f hf c2
        refine lv_aload_n C.1 C.2.1 dX7_explore_47 rfl (lv_at hl 0 rfl) ?_
        refine lv_aload_n C.1 C.2.1 dX7_explore_48 rfl (lv_at hl 1 rfl) ?_
        refine lv_aload_n C.1 C.2.1 dX7_explore_49 rfl (lv_at hl 0 rfl) ?_
        obtain ⟨b3, hb_b3, hf⟩ := ob_ hf
        obtain ⟨hq_b3, hk_b3⟩ := dr_in hb_b3
        refine x_get (v := .ref (ad b3)) C K h cl_7 hk_v0 3 (by decide) fl_RX7_21 (hv_r (o := sr_ σ v0 3) rfl hq_b3) dX7_explore_50 ?_
        refine lv_iload_n C.1 C.2.1 dX7_explore_53 rfl (lv_at hl 2 rfl) ?_
        obtain ⟨j4, hj_j4, hf⟩ := ob_ hf
        refine x_iald C K h hk_b3 hj_j4 dX7_explore_54 ?_
        obtain ⟨q5, hq_q5, hf⟩ := ob_ hf
        refine x_av K h (x_V C K h [.ref (ad v1), .int (si_ σ b3 j4)] (c_X7_leave fu l κ G cy ad H.size σ v0 v1 (si_ σ b3 j4) hk_v0 hk_v1 hq_q5) mi_X7_leave rfl im_yX7_leave se_yX7_leave ml_RX7_48 cl_7 hk_v0 ⟨rfl, rfl, Nat.le_trans (Nat.le_of_ble_eq_true rfl) hR.1, Nat.le_trans (Nat.le_of_ble_eq_true rfl) hR.2⟩ hl (Nat.le_of_ble_eq_true rfl) dX7_explore_55 ⟨Nat.zero_le _, Nat.zero_le _⟩ rfl) (fun H locs h hX => ?_)
        have hE := hE.trans hX
        have hk_v0 := hX.k hk_v0 (by decide)
        have hk_v1 := hX.k hk_v1 (by decide)
        refine lv_iinc (v := v3 + (1 : Int32)) (lv' := [(3, .int (v3 + (1 : Int32))), (0, .ref (ad v0)), (1, .ref (ad v1))]) C.1 C.2.1 dX7_explore_58 hl (k := 2) rfl rfl (by decide) rfl (fun ls hl => ?_)
        refine lv_goto (tgt := 33) C.1 C.2.1 dX7_explore_61 (by decide) ?_
        exact ih q5 v0 v1 (v3 + (1 : Int32)) hE hk_v0 hk_v1 hf _ _ _ h (lv_sub hl [1, 2, 0] rfl)
def f_X7_explore (fu : Nat) (σ : St_) (a0 : Nat) (x1 : Nat) (x2 : Int32) : Option St_ := (dr_ σ 10 (sr_ σ a0 0)).bind fun b3 => (f_J7_fill_53178 fu σ b3 (-1 : Int32)).bind fun q4 => (f_X7_discover (ul_ (ui_ (ui_ q4 a0 5 (0 : Int32)) a0 6 (0 : Int32)) a0 7 (0 : Int64)) a0 x2 x2 (0 : Int32) (0 : Int32)).bind fun q5 => f_X7_explore_33 fu fu q5 a0 x1 (0 : Int32)
set_option maxHeartbeats 4000000 in
set_option maxRecDepth 100000 in
theorem w_X7_explore {p : Program} {l : Launch} {e : Env} {R : Room} {s : State} {m : MethodId} {args : Array Value} {below : List Frame} {meth : Method} {c : Code} {κ : Ka_} {G : va_G} {cy : Nat → ClassId} {ad : Nat → Nat} {sz : Nat} {σ0 : St_} (fu : Nat) (C : CallFix p m c cX7_explore 4 s args wU_ RX7) (K : Kx_ κ G cy (va_A (wl_ cy ad σ0) sz) s) (hr : meth.sig.returnType = none) (hlk : meth.locks = false) (hR : 4 ≤ R.frames ∧ 102 ≤ R.locals) {q : St_} : ∀ (σ : St_) (a0 : Nat) (x1 : Nat) (x2 : Int32), Ex_ σ0 σ → kd_ σ a0 = 7 → kd_ σ x1 = 6 → f_X7_explore fu σ a0 x1 x2 = some q → ∀ (H : Heap) (locs : List Loc) (ls : Array Slot), Ht_ G cy (va_A (wl_ cy ad σ0) sz) s ad σ H locs → lv_has ls 4 [(0, .ref (ad a0)), (1, .ref (ad x1)), (2, .int x2)] → W p l e R s m args below meth c H locs 0 0 (MQ below (Qv_ G cy ad σ0 q sz) args s 0 0 (va_A (wl_ cy ad σ0) sz)) (F0 m 0 ls []) := by
  intro σ a0 x1 x2 hE hk_a0 hk_x1 hf H locs ls h hl
  have hf : ((dr_ σ 10 (sr_ σ a0 0)).bind fun b3 => (f_J7_fill_53178 fu σ b3 (-1 : Int32)).bind fun q4 => (f_X7_discover (ul_ (ui_ (ui_ q4 a0 5 (0 : Int32)) a0 6 (0 : Int32)) a0 7 (0 : Int64)) a0 x2 x2 (0 : Int32) (0 : Int32)).bind fun q5 => f_X7_explore_33 fu fu q5 a0 x1 (0 : Int32)) = some q := hf
  refine lv_aload_n C.1 C.2.1 dX7_explore_0 rfl (lv_at hl 0 rfl) ?_
  obtain ⟨b3, hb_b3, hf⟩ := ob_ hf
  obtain ⟨hq_b3, hk_b3⟩ := dr_in hb_b3
  refine x_get (v := .ref (ad b3)) C K h cl_7 hk_a0 0 (by decide) fl_RX7_9 (hv_r (o := sr_ σ a0 0) rfl hq_b3) dX7_explore_1 ?_
  refine lv_iconst (v := (-1 : Int32)) C.1 C.2.1 dX7_explore_4 (by decide) ?_
  obtain ⟨q4, hq_q4, hf⟩ := ob_ hf
  refine x_av K h (x_S C K h [.ref (ad b3), .int (-1 : Int32)] (c_J7_fill_53178 fu l κ G cy ad H.size σ b3 (-1 : Int32) hk_b3 hq_q4) mi_J7_fill_53178 rfl st_yJ7_fill_53178 ml_RX7_38 ⟨rfl, rfl, Nat.le_trans (Nat.le_of_ble_eq_true rfl) hR.1, Nat.le_trans (Nat.le_of_ble_eq_true rfl) hR.2⟩ hl (Nat.le_of_ble_eq_true rfl) dX7_explore_5 ⟨Nat.zero_le _, Nat.zero_le _⟩ rfl) (fun H locs h hX => ?_)
  have hE := hE.trans hX
  have hk_a0 := hX.k hk_a0 (by decide)
  have hk_x1 := hX.k hk_x1 (by decide)
  refine lv_aload_n C.1 C.2.1 dX7_explore_8 rfl (lv_at hl 0 rfl) ?_
  refine lv_iconst (v := (0 : Int32)) C.1 C.2.1 dX7_explore_9 (by decide) ?_
  refine x_putI C K h cl_7 hk_a0 5 (by decide) fl_RX7_27 rfl rfl rfl (Nat.le_of_ble_eq_true rfl) (fun _ _ _ => rfl) dX7_explore_10 (fun H locs h => ?_)
  have hE := hE.up (up_i q4 a0 5 (0 : Int32))
  refine lv_aload_n C.1 C.2.1 dX7_explore_13 rfl (lv_at hl 0 rfl) ?_
  refine lv_iconst (v := (0 : Int32)) C.1 C.2.1 dX7_explore_14 (by decide) ?_
  refine x_putI C K h cl_7 hk_a0 6 (by decide) fl_RX7_31 rfl rfl rfl (Nat.le_of_ble_eq_true rfl) (fun _ _ _ => rfl) dX7_explore_15 (fun H locs h => ?_)
  have hE := hE.up (up_i (ui_ q4 a0 5 (0 : Int32)) a0 6 (0 : Int32))
  refine lv_aload_n C.1 C.2.1 dX7_explore_18 rfl (lv_at hl 0 rfl) ?_
  refine lv_lconst (v := (0 : Int64)) C.1 C.2.1 dX7_explore_19 (by decide) ?_
  refine x_putL C K h cl_7 hk_a0 7 (by decide) fl_RX7_34 rfl rfl rfl (Nat.le_of_ble_eq_true rfl) (fun _ _ _ => rfl) dX7_explore_20 (fun H locs h => ?_)
  have hE := hE.up (up_l (ui_ (ui_ q4 a0 5 (0 : Int32)) a0 6 (0 : Int32)) a0 7 (0 : Int64))
  refine lv_aload_n C.1 C.2.1 dX7_explore_23 rfl (lv_at hl 0 rfl) ?_
  refine lv_iload_n C.1 C.2.1 dX7_explore_24 rfl (lv_at hl 2 rfl) ?_
  refine lv_iload_n C.1 C.2.1 dX7_explore_25 rfl (lv_at hl 2 rfl) ?_
  refine lv_iconst (v := (0 : Int32)) C.1 C.2.1 dX7_explore_26 (by decide) ?_
  refine lv_iconst (v := (0 : Int32)) C.1 C.2.1 dX7_explore_27 (by decide) ?_
  obtain ⟨q5, hq_q5, hf⟩ := ob_ hf
  refine x_av K h (x_V C K h [.int x2, .int x2, .int (0 : Int32), .int (0 : Int32)] (c_X7_discover l κ G cy ad H.size (ul_ (ui_ (ui_ q4 a0 5 (0 : Int32)) a0 6 (0 : Int32)) a0 7 (0 : Int64)) a0 x2 x2 (0 : Int32) (0 : Int32) hk_a0 hq_q5) mi_X7_discover rfl im_yX7_discover se_yX7_discover ml_RX7_44 cl_7 hk_a0 ⟨rfl, rfl, Nat.le_trans (Nat.le_of_ble_eq_true rfl) hR.1, Nat.le_trans (Nat.le_of_ble_eq_true rfl) hR.2⟩ hl (Nat.le_of_ble_eq_true rfl) dX7_explore_28 ⟨Nat.zero_le _, Nat.zero_le _⟩ rfl) (fun H locs h hX => ?_)
  have hE := hE.trans hX
  have hk_a0 := hX.k hk_a0 (by decide)
  have hk_x1 := hX.k hk_x1 (by decide)
  refine lv_iconst (v := (0 : Int32)) C.1 C.2.1 dX7_explore_31 (by decide) ?_
  refine lv_istore_n (i := 3) (lv' := [(3, .int (0 : Int32)), (0, .ref (ad a0)), (1, .ref (ad x1)), (2, .int x2)]) C.1 C.2.1 dX7_explore_32 rfl hl (by decide) rfl (fun ls hl => ?_)
  exact w_X7_explore_33 fu C K hr hlk hR fu q5 a0 x1 (0 : Int32) hE hk_a0 hk_x1 hf _ _ _ h (lv_sub hl [1, 2, 0] rfl)
theorem c_X7_explore (fu : Nat) (l : Launch) (κ : Ka_) (G : va_G) (cy : Nat → ClassId) (ad : Nat → Nat) (sz : Nat) (σ : St_) (a0 : Nat) (x1 : Nat) (x2 : Int32) (hk_a0 : kd_ σ a0 = 7) (hk_x1 : kd_ σ x1 = 6) {q : St_} (hf : f_X7_explore fu σ a0 x1 x2 = some q) : Met l yX7_explore (Cond.code yX7_explore cX7_explore 4 none :: wU_) { frames := 4, cells := 0, slots := 0, locals := 102 } (va_Pc [.ref (ad a0), .ref (ad x1), .int x2] (Pr_ κ G cy ad σ sz)) (Qv_ G cy ad σ q sz) 0 0 (va_A (wl_ cy ad σ) sz) :=
  x_met (by decide) (fun p e R s m below meth c ls hR C hr hlk hin _ K h hl => w_X7_explore fu C K hr hlk ⟨hR.1, hR.2.1⟩ σ a0 x1 x2 Ex_.rf hk_a0 hk_x1 hf s.heap [] ls h hl) (Nat.le_of_ble_eq_true rfl)
-- X7_start
theorem mi_X7_start : Mi_ yX7_start cX7_start 1 (some .int) 0 := ⟨co_yX7_start, in_RX7, by decide, by decide, by decide +kernel⟩
def f_X7_start (σ : St_) (a0 : Nat) : Option Int32 := (dr_ σ 10 (sr_ σ a0 3)).bind fun b1 => (ix_ (0 : Int32) (ln_ σ b1)).bind fun j2 => some (si_ σ b1 j2)
set_option maxHeartbeats 4000000 in
set_option maxRecDepth 100000 in
theorem w_X7_start {p : Program} {l : Launch} {e : Env} {R : Room} {s : State} {m : MethodId} {args : Array Value} {below : List Frame} {meth : Method} {c : Code} {κ : Ka_} {G : va_G} {cy : Nat → ClassId} {ad : Nat → Nat} {sz : Nat} {σ : St_} (C : CallFix p m c cX7_start 1 s args wU_ RX7) (K : Kx_ κ G cy (va_A (wl_ cy ad σ) sz) s) (hr : meth.sig.returnType = some .int) (hlk : meth.locks = false) (hR : 0 ≤ R.frames ∧ 0 ≤ R.locals) {q : Int32} : ∀ (a0 : Nat), kd_ σ a0 = 7 → f_X7_start σ a0 = some q → ∀ (H : Heap) (locs : List Loc) (ls : Array Slot), Ht_ G cy (va_A (wl_ cy ad σ) sz) s ad σ H locs → lv_has ls 1 [(0, .ref (ad a0))] → W p l e R s m args below meth c H locs 0 0 (MQ below (Qi_ G cy ad σ σ sz q) args s 0 0 (va_A (wl_ cy ad σ) sz)) (F0 m 0 ls []) := by
  intro a0 hk_a0 hf H locs ls h hl
  have hf : ((dr_ σ 10 (sr_ σ a0 3)).bind fun b1 => (ix_ (0 : Int32) (ln_ σ b1)).bind fun j2 => some (si_ σ b1 j2)) = some q := hf
  refine lv_aload_n C.1 C.2.1 dX7_start_0 rfl (lv_at hl 0 rfl) ?_
  obtain ⟨b1, hb_b1, hf⟩ := ob_ hf
  obtain ⟨hq_b1, hk_b1⟩ := dr_in hb_b1
  refine x_get (v := .ref (ad b1)) C K h cl_7 hk_a0 3 (by decide) fl_RX7_21 (hv_r (o := sr_ σ a0 3) rfl hq_b1) dX7_start_1 ?_
  refine lv_iconst (v := (0 : Int32)) C.1 C.2.1 dX7_start_4 (by decide) ?_
  obtain ⟨j2, hj_j2, hf⟩ := ob_ hf
  refine x_iald C K h hk_b1 hj_j2 dX7_start_5 ?_
  exact x_ri C hr hlk h Ex_.rf (Option.some.inj hf) rfl dX7_start_6
theorem c_X7_start (l : Launch) (κ : Ka_) (G : va_G) (cy : Nat → ClassId) (ad : Nat → Nat) (sz : Nat) (σ : St_) (a0 : Nat) (hk_a0 : kd_ σ a0 = 7) {q : Int32} (hf : f_X7_start σ a0 = some q) : Met l yX7_start (Cond.code yX7_start cX7_start 1 (some .int) :: wU_) { frames := 0, cells := 0, slots := 0, locals := 0 } (va_Pc [.ref (ad a0)] (Pr_ κ G cy ad σ sz)) (Qi_ G cy ad σ σ sz q) 0 0 (va_A (wl_ cy ad σ) sz) :=
  x_met (by decide) (fun p e R s m below meth c ls hR C hr hlk hin _ K h hl => w_X7_start C K hr hlk ⟨hR.1, hR.2.1⟩ a0 hk_a0 hf s.heap [] ls h hl) (Nat.le_of_ble_eq_true rfl)
-- X7_goalOf
theorem mi_X7_goalOf : Mi_ yX7_goalOf cX7_goalOf 4 (some .int) 2 := ⟨co_yX7_goalOf, in_RX7, by decide, by decide, by decide +kernel⟩
def f_X7_goalOf (σ : St_) (a0 : Nat) (x1 : Int32) (x2 : Int32) : Option Int32 := (dr_ σ 10 (sr_ σ a0 4)).bind fun b3 => if (f_X8_isBelow ((x1 * (8 : Int32)) + x2) (nI (ln_ σ b3))) = 0 then some x1 else (ix_ ((x1 * (8 : Int32)) + x2) (ln_ σ b3)).bind fun j7 => some (si_ σ b3 j7)
set_option maxHeartbeats 4000000 in
set_option maxRecDepth 100000 in
theorem w_X7_goalOf {p : Program} {l : Launch} {e : Env} {R : Room} {s : State} {m : MethodId} {args : Array Value} {below : List Frame} {meth : Method} {c : Code} {κ : Ka_} {G : va_G} {cy : Nat → ClassId} {ad : Nat → Nat} {sz : Nat} {σ : St_} (C : CallFix p m c cX7_goalOf 4 s args wU_ RX7) (K : Kx_ κ G cy (va_A (wl_ cy ad σ) sz) s) (hr : meth.sig.returnType = some .int) (hlk : meth.locks = false) (hR : 1 ≤ R.frames ∧ 21 ≤ R.locals) {q : Int32} : ∀ (a0 : Nat) (x1 : Int32) (x2 : Int32), kd_ σ a0 = 7 → f_X7_goalOf σ a0 x1 x2 = some q → ∀ (H : Heap) (locs : List Loc) (ls : Array Slot), Ht_ G cy (va_A (wl_ cy ad σ) sz) s ad σ H locs → lv_has ls 4 [(0, .ref (ad a0)), (1, .int x1), (2, .int x2)] → W p l e R s m args below meth c H locs 0 0 (MQ below (Qi_ G cy ad σ σ sz q) args s 0 0 (va_A (wl_ cy ad σ) sz)) (F0 m 0 ls []) := by
  intro a0 x1 x2 hk_a0 hf H locs ls h hl
  have hf : ((dr_ σ 10 (sr_ σ a0 4)).bind fun b3 => if (f_X8_isBelow ((x1 * (8 : Int32)) + x2) (nI (ln_ σ b3))) = 0 then some x1 else (ix_ ((x1 * (8 : Int32)) + x2) (ln_ σ b3)).bind fun j7 => some (si_ σ b3 j7)) = some q := hf
  refine lv_iload_n C.1 C.2.1 dX7_goalOf_0 rfl (lv_at hl 1 rfl) ?_
  refine lv_bipush (v := (8 : Int32)) C.1 C.2.1 dX7_goalOf_1 (by decide) ?_
  refine lv_imul C.1 C.2.1 dX7_goalOf_3 ?_
  refine lv_iload_n C.1 C.2.1 dX7_goalOf_4 rfl (lv_at hl 2 rfl) ?_
  refine lv_iadd C.1 C.2.1 dX7_goalOf_5 ?_
  refine lv_istore_n (i := 3) (lv' := [(3, .int ((x1 * (8 : Int32)) + x2)), (0, .ref (ad a0)), (1, .int x1), (2, .int x2)]) C.1 C.2.1 dX7_goalOf_6 rfl hl (by decide) rfl (fun ls hl => ?_)
  refine lv_iload_n C.1 C.2.1 dX7_goalOf_7 rfl (lv_at hl 0 rfl) ?_
  refine lv_aload_n C.1 C.2.1 dX7_goalOf_8 rfl (lv_at hl 1 rfl) ?_
  obtain ⟨b3, hb_b3, hf⟩ := ob_ hf
  obtain ⟨hq_b3, hk_b3⟩ := dr_in hb_b3
  refine x_get (v := .ref (ad b3)) C K h cl_7 hk_a0 4 (by decide) fl_RX7_24 (hv_r (o := sr_ σ a0 4) rfl hq_b3) dX7_goalOf_9 ?_
  refine x_ilen C K h hk_b3 dX7_goalOf_12 ?_
  refine x_az K h (x_SN C K h [.int ((x1 * (8 : Int32)) + x2), .int (nI (ln_ σ b3))] (c_X8_isBelow l κ G cy ad H.size σ ((x1 * (8 : Int32)) + x2) (nI (ln_ σ b3)) rfl) mi_X8_isBelow rfl st_yX8_isBelow nm_RX7_52 ⟨rfl, rfl, Nat.le_trans (Nat.le_of_ble_eq_true rfl) hR.1, Nat.le_trans (Nat.le_of_ble_eq_true rfl) hR.2⟩ hl (Nat.le_of_ble_eq_true rfl) dX7_goalOf_13 ⟨Nat.zero_le _, Nat.zero_le _⟩ rfl) (fun H locs h hX hz5 => ?_)
  refine lv_if_eq (tgt := 28) C.1 C.2.1 dX7_goalOf_16 (by decide) (fun c6 => ?_) (fun c6 => ?_)
  · have hf := if_t hf c6
    refine lv_iload_n C.1 C.2.1 dX7_goalOf_28 rfl (lv_at hl 2 rfl) ?_
    exact x_ri C hr hlk h Ex_.rf (Option.some.inj hf) rfl dX7_goalOf_29
  · have hf := if_f hf c6
    refine lv_aload_n C.1 C.2.1 dX7_goalOf_19 rfl (lv_at hl 1 rfl) ?_
    refine x_get (v := .ref (ad b3)) C K h cl_7 hk_a0 4 (by decide) fl_RX7_24 (hv_r (o := sr_ σ a0 4) rfl hq_b3) dX7_goalOf_20 ?_
    refine lv_iload_n C.1 C.2.1 dX7_goalOf_23 rfl (lv_at hl 0 rfl) ?_
    obtain ⟨j7, hj_j7, hf⟩ := ob_ hf
    refine x_iald C K h hk_b3 hj_j7 dX7_goalOf_24 ?_
    refine lv_goto (tgt := 29) C.1 C.2.1 dX7_goalOf_25 (by decide) ?_
    exact x_ri C hr hlk h Ex_.rf (Option.some.inj hf) rfl dX7_goalOf_29
theorem c_X7_goalOf (l : Launch) (κ : Ka_) (G : va_G) (cy : Nat → ClassId) (ad : Nat → Nat) (sz : Nat) (σ : St_) (a0 : Nat) (x1 : Int32) (x2 : Int32) (hk_a0 : kd_ σ a0 = 7) {q : Int32} (hf : f_X7_goalOf σ a0 x1 x2 = some q) : Met l yX7_goalOf (Cond.code yX7_goalOf cX7_goalOf 4 (some .int) :: wU_) { frames := 1, cells := 0, slots := 0, locals := 21 } (va_Pc [.ref (ad a0), .int x1, .int x2] (Pr_ κ G cy ad σ sz)) (Qi_ G cy ad σ σ sz q) 0 0 (va_A (wl_ cy ad σ) sz) :=
  x_met (by decide) (fun p e R s m below meth c ls hR C hr hlk hin _ K h hl => w_X7_goalOf C K hr hlk ⟨hR.1, hR.2.1⟩ a0 x1 x2 hk_a0 hf s.heap [] ls h hl) (Nat.le_of_ble_eq_true rfl)
-- X7_stepsTo
theorem mi_X7_stepsTo : Mi_ yX7_stepsTo cX7_stepsTo 2 (some .int) 1 := ⟨co_yX7_stepsTo, in_RX7, by decide, by decide, by decide +kernel⟩
def f_X7_stepsTo (σ : St_) (a0 : Nat) (x1 : Int32) : Option Int32 := if (f_X8_isBelow x1 (36 : Int32)) = 0 then some (-1 : Int32) else (dr_ σ 10 (sr_ σ a0 0)).bind fun b5 => (ix_ x1 (ln_ σ b5)).bind fun j6 => some (si_ σ b5 j6)
set_option maxHeartbeats 4000000 in
set_option maxRecDepth 100000 in
theorem w_X7_stepsTo {p : Program} {l : Launch} {e : Env} {R : Room} {s : State} {m : MethodId} {args : Array Value} {below : List Frame} {meth : Method} {c : Code} {κ : Ka_} {G : va_G} {cy : Nat → ClassId} {ad : Nat → Nat} {sz : Nat} {σ : St_} (C : CallFix p m c cX7_stepsTo 2 s args wU_ RX7) (K : Kx_ κ G cy (va_A (wl_ cy ad σ) sz) s) (hr : meth.sig.returnType = some .int) (hlk : meth.locks = false) (hR : 1 ≤ R.frames ∧ 21 ≤ R.locals) {q : Int32} : ∀ (a0 : Nat) (x1 : Int32), kd_ σ a0 = 7 → f_X7_stepsTo σ a0 x1 = some q → ∀ (H : Heap) (locs : List Loc) (ls : Array Slot), Ht_ G cy (va_A (wl_ cy ad σ) sz) s ad σ H locs → lv_has ls 2 [(0, .ref (ad a0)), (1, .int x1)] → W p l e R s m args below meth c H locs 0 0 (MQ below (Qi_ G cy ad σ σ sz q) args s 0 0 (va_A (wl_ cy ad σ) sz)) (F0 m 0 ls []) := by
  intro a0 x1 hk_a0 hf H locs ls h hl
  have hf : (if (f_X8_isBelow x1 (36 : Int32)) = 0 then some (-1 : Int32) else (dr_ σ 10 (sr_ σ a0 0)).bind fun b5 => (ix_ x1 (ln_ σ b5)).bind fun j6 => some (si_ σ b5 j6)) = some q := hf
  refine lv_iload_n C.1 C.2.1 dX7_stepsTo_0 rfl (lv_at hl 1 rfl) ?_
  refine lv_bipush (v := (36 : Int32)) C.1 C.2.1 dX7_stepsTo_1 (by decide) ?_
  refine x_az K h (x_SN C K h [.int x1, .int (36 : Int32)] (c_X8_isBelow l κ G cy ad H.size σ x1 (36 : Int32) rfl) mi_X8_isBelow rfl st_yX8_isBelow nm_RX7_52 ⟨rfl, rfl, Nat.le_trans (Nat.le_of_ble_eq_true rfl) hR.1, Nat.le_trans (Nat.le_of_ble_eq_true rfl) hR.2⟩ hl (Nat.le_of_ble_eq_true rfl) dX7_stepsTo_3 ⟨Nat.zero_le _, Nat.zero_le _⟩ rfl) (fun H locs h hX hz3 => ?_)
  refine lv_if_eq (tgt := 18) C.1 C.2.1 dX7_stepsTo_6 (by decide) (fun c4 => ?_) (fun c4 => ?_)
  · have hf := if_t hf c4
    refine lv_iconst (v := (-1 : Int32)) C.1 C.2.1 dX7_stepsTo_18 (by decide) ?_
    exact x_ri C hr hlk h Ex_.rf (Option.some.inj hf) rfl dX7_stepsTo_19
  · have hf := if_f hf c4
    refine lv_aload_n C.1 C.2.1 dX7_stepsTo_9 rfl (lv_at hl 0 rfl) ?_
    obtain ⟨b5, hb_b5, hf⟩ := ob_ hf
    obtain ⟨hq_b5, hk_b5⟩ := dr_in hb_b5
    refine x_get (v := .ref (ad b5)) C K h cl_7 hk_a0 0 (by decide) fl_RX7_9 (hv_r (o := sr_ σ a0 0) rfl hq_b5) dX7_stepsTo_10 ?_
    refine lv_iload_n C.1 C.2.1 dX7_stepsTo_13 rfl (lv_at hl 1 rfl) ?_
    obtain ⟨j6, hj_j6, hf⟩ := ob_ hf
    refine x_iald C K h hk_b5 hj_j6 dX7_stepsTo_14 ?_
    refine lv_goto (tgt := 19) C.1 C.2.1 dX7_stepsTo_15 (by decide) ?_
    exact x_ri C hr hlk h Ex_.rf (Option.some.inj hf) rfl dX7_stepsTo_19
theorem c_X7_stepsTo (l : Launch) (κ : Ka_) (G : va_G) (cy : Nat → ClassId) (ad : Nat → Nat) (sz : Nat) (σ : St_) (a0 : Nat) (x1 : Int32) (hk_a0 : kd_ σ a0 = 7) {q : Int32} (hf : f_X7_stepsTo σ a0 x1 = some q) : Met l yX7_stepsTo (Cond.code yX7_stepsTo cX7_stepsTo 2 (some .int) :: wU_) { frames := 1, cells := 0, slots := 0, locals := 21 } (va_Pc [.ref (ad a0), .int x1] (Pr_ κ G cy ad σ sz)) (Qi_ G cy ad σ σ sz q) 0 0 (va_A (wl_ cy ad σ) sz) :=
  x_met (by decide) (fun p e R s m below meth c ls hR C hr hlk hin _ K h hl => w_X7_stepsTo C K hr hlk ⟨hR.1, hR.2.1⟩ a0 x1 hk_a0 hf s.heap [] ls h hl) (Nat.le_of_ble_eq_true rfl)
-- X7_digitsTo
theorem mi_X7_digitsTo : Mi_ yX7_digitsTo cX7_digitsTo 7 (some .int) 1 := ⟨co_yX7_digitsTo, in_RX7, by decide, by decide, by decide +kernel⟩
def f_X7_digitsTo_30 (fu : Nat) (σ : St_) : Nat → Nat → Int32 → Int32 → Int32 → Int32 → Int32 → Option Int32
  | 0 => fun _ _ _ _ _ _ => none
  | n + 1 => fun v0  v2  v3  v4  v5  v6 => if v2 ≤ v6 then some v3 else if (f_X8_isBelow v5 (36 : Int32)) = 0 then some v3 else (dr_ σ 10 (sr_ σ v0 2)).bind fun b5 => (ix_ v5 (ln_ σ b5)).bind fun j6 => (dr_ σ 10 (sr_ σ v0 1)).bind fun b7 => (ix_ v5 (ln_ σ b7)).bind fun j8 => (f_X7_digitsTo_30 fu σ n) v0 v2 (v3 + (((si_ σ b5 j6) + (1 : Int32)) * v4)) (v4 * (10 : Int32)) (si_ σ b7 j8) (v6 + (1 : Int32))
set_option maxHeartbeats 4000000 in
set_option maxRecDepth 100000 in
theorem w_X7_digitsTo_30 {p : Program} {l : Launch} {e : Env} {R : Room} {s : State} {m : MethodId} {args : Array Value} {below : List Frame} {meth : Method} {c : Code} {κ : Ka_} {G : va_G} {cy : Nat → ClassId} {ad : Nat → Nat} {sz : Nat} {σ : St_} (fu : Nat) (C : CallFix p m c cX7_digitsTo 7 s args wU_ RX7) (K : Kx_ κ G cy (va_A (wl_ cy ad σ) sz) s) (hr : meth.sig.returnType = some .int) (hlk : meth.locks = false) (hR : 2 ≤ R.frames ∧ 42 ≤ R.locals) {q : Int32} : ∀ n : Nat, ∀ (v0 : Nat) (v2 : Int32) (v3 : Int32) (v4 : Int32) (v5 : Int32) (v6 : Int32), kd_ σ v0 = 7 → f_X7_digitsTo_30 fu σ n v0 v2 v3 v4 v5 v6 = some q → ∀ (H : Heap) (locs : List Loc) (ls : Array Slot), Ht_ G cy (va_A (wl_ cy ad σ) sz) s ad σ H locs → lv_has ls 7 [(0, .ref (ad v0)), (2, .int v2), (3, .int v3), (4, .int v4), (5, .int v5), (6, .int v6)] → W p l e R s m args below meth c H locs 0 0 (MQ below (Qi_ G cy ad σ σ sz q) args s 0 0 (va_A (wl_ cy ad σ) sz)) (F0 m 30 ls []) := by
  intro n
  induction n with
  | zero =>
    intro v0 v2 v3 v4 v5 v6 hk_v0 hf H locs ls h hl
    cases hf
  | succ n ih =>
    intro v0 v2 v3 v4 v5 v6 hk_v0 hf H locs ls h hl
    have hf : (if v2 ≤ v6 then some v3 else if (f_X8_isBelow v5 (36 : Int32)) = 0 then some v3 else (dr_ σ 10 (sr_ σ v0 2)).bind fun b5 => (ix_ v5 (ln_ σ b5)).bind fun j6 => (dr_ σ 10 (sr_ σ v0 1)).bind fun b7 => (ix_ v5 (ln_ σ b7)).bind fun j8 => (f_X7_digitsTo_30 fu σ n) v0 v2 (v3 + (((si_ σ b5 j6) + (1 : Int32)) * v4)) (v4 * (10 : Int32)) (si_ σ b7 j8) (v6 + (1 : Int32))) = some q := hf
    refine lv_iload C.1 C.2.1 dX7_digitsTo_30 (lv_at hl 5 rfl) ?_
    refine lv_iload_n C.1 C.2.1 dX7_digitsTo_32 rfl (lv_at hl 1 rfl) ?_
    refine lv_icmp_ge (tgt := 83) C.1 C.2.1 dX7_digitsTo_33 (by decide) (fun c1 => ?_) (fun c1 => ?_)
    · have hf := if_t hf c1
      refine lv_iload_n C.1 C.2.1 dX7_digitsTo_83 rfl (lv_at hl 2 rfl) ?_
      exact x_ri C hr hlk h Ex_.rf (Option.some.inj hf) rfl dX7_digitsTo_84
    · have hf := if_f hf c1
      refine lv_iload C.1 C.2.1 dX7_digitsTo_36 (lv_at hl 4 rfl) ?_
      refine lv_bipush (v := (36 : Int32)) C.1 C.2.1 dX7_digitsTo_38 (by decide) ?_
      refine x_az K h (x_SN C K h [.int v5, .int (36 : Int32)] (c_X8_isBelow l κ G cy ad H.size σ v5 (36 : Int32) rfl) mi_X8_isBelow rfl st_yX8_isBelow nm_RX7_52 ⟨rfl, rfl, Nat.le_trans (Nat.le_of_ble_eq_true rfl) hR.1, Nat.le_trans (Nat.le_of_ble_eq_true rfl) hR.2⟩ hl (Nat.le_of_ble_eq_true rfl) dX7_digitsTo_40 ⟨Nat.zero_le _, Nat.zero_le _⟩ rfl) (fun H locs h hX hz3 => ?_)
      refine lv_if_eq (tgt := 83) C.1 C.2.1 dX7_digitsTo_43 (by decide) (fun c4 => ?_) (fun c4 => ?_)
      · have hf := if_t hf c4
        refine lv_iload_n C.1 C.2.1 dX7_digitsTo_83 rfl (lv_at hl 2 rfl) ?_
        exact x_ri C hr hlk h Ex_.rf (Option.some.inj hf) rfl dX7_digitsTo_84
      · have hf := if_f hf c4
        refine lv_iload_n C.1 C.2.1 dX7_digitsTo_46 rfl (lv_at hl 2 rfl) ?_
        refine lv_aload_n C.1 C.2.1 dX7_digitsTo_47 rfl (lv_at hl 0 rfl) ?_
        obtain ⟨b5, hb_b5, hf⟩ := ob_ hf
        obtain ⟨hq_b5, hk_b5⟩ := dr_in hb_b5
        refine x_get (v := .ref (ad b5)) C K h cl_7 hk_v0 2 (by decide) fl_RX7_18 (hv_r (o := sr_ σ v0 2) rfl hq_b5) dX7_digitsTo_48 ?_
        refine lv_iload C.1 C.2.1 dX7_digitsTo_51 (lv_at hl 4 rfl) ?_
        obtain ⟨j6, hj_j6, hf⟩ := ob_ hf
        refine x_iald C K h hk_b5 hj_j6 dX7_digitsTo_53 ?_
        refine lv_iconst (v := (1 : Int32)) C.1 C.2.1 dX7_digitsTo_54 (by decide) ?_
        refine lv_iadd C.1 C.2.1 dX7_digitsTo_55 ?_
        refine lv_iload C.1 C.2.1 dX7_digitsTo_56 (lv_at hl 3 rfl) ?_
        refine lv_imul C.1 C.2.1 dX7_digitsTo_58 ?_
        refine lv_iadd C.1 C.2.1 dX7_digitsTo_59 ?_
        refine lv_istore_n (i := 3) (lv' := [(3, .int (v3 + (((si_ σ b5 j6) + (1 : Int32)) * v4))), (0, .ref (ad v0)), (2, .int v2), (4, .int v4), (5, .int v5), (6, .int v6)]) C.1 C.2.1 dX7_digitsTo_60 rfl hl (by decide) rfl (fun ls hl => ?_)
        refine lv_iload C.1 C.2.1 dX7_digitsTo_61 (lv_at hl 3 rfl) ?_
        refine lv_bipush (v := (10 : Int32)) C.1 C.2.1 dX7_digitsTo_63 (by decide) ?_
        refine lv_imul C.1 C.2.1 dX7_digitsTo_65 ?_
        refine lv_istore (i := 4) (lv' := [(4, .int (v4 * (10 : Int32))), (3, .int (v3 + (((si_ σ b5 j6) + (1 : Int32)) * v4))), (0, .ref (ad v0)), (2, .int v2), (5, .int v5), (6, .int v6)]) C.1 C.2.1 dX7_digitsTo_66 hl (by decide) rfl (fun ls hl => ?_)
        refine lv_aload_n C.1 C.2.1 dX7_digitsTo_68 rfl (lv_at hl 2 rfl) ?_
        obtain ⟨b7, hb_b7, hf⟩ := ob_ hf
        obtain ⟨hq_b7, hk_b7⟩ := dr_in hb_b7
        refine x_get (v := .ref (ad b7)) C K h cl_7 hk_v0 1 (by decide) fl_RX7_15 (hv_r (o := sr_ σ v0 1) rfl hq_b7) dX7_digitsTo_69 ?_
        refine lv_iload C.1 C.2.1 dX7_digitsTo_72 (lv_at hl 4 rfl) ?_
        obtain ⟨j8, hj_j8, hf⟩ := ob_ hf
        refine x_iald C K h hk_b7 hj_j8 dX7_digitsTo_74 ?_
        refine lv_istore (i := 5) (lv' := [(5, .int (si_ σ b7 j8)), (4, .int (v4 * (10 : Int32))), (3, .int (v3 + (((si_ σ b5 j6) + (1 : Int32)) * v4))), (0, .ref (ad v0)), (2, .int v2), (6, .int v6)]) C.1 C.2.1 dX7_digitsTo_75 hl (by decide) rfl (fun ls hl => ?_)
        refine lv_iinc (v := v6 + (1 : Int32)) (lv' := [(6, .int (v6 + (1 : Int32))), (5, .int (si_ σ b7 j8)), (4, .int (v4 * (10 : Int32))), (3, .int (v3 + (((si_ σ b5 j6) + (1 : Int32)) * v4))), (0, .ref (ad v0)), (2, .int v2)]) C.1 C.2.1 dX7_digitsTo_77 hl (k := 5) rfl rfl (by decide) rfl (fun ls hl => ?_)
        refine lv_goto (tgt := 30) C.1 C.2.1 dX7_digitsTo_80 (by decide) ?_
        exact ih v0 v2 (v3 + (((si_ σ b5 j6) + (1 : Int32)) * v4)) (v4 * (10 : Int32)) (si_ σ b7 j8) (v6 + (1 : Int32)) hk_v0 hf _ _ _ h (lv_sub hl [4, 5, 3, 2, 1, 0] rfl)
def f_X7_digitsTo (fu : Nat) (σ : St_) (a0 : Nat) (x1 : Int32) : Option Int32 := (f_X7_stepsTo σ a0 x1).bind fun q2 => if q2 = (-1 : Int32) then some (-1 : Int32) else if q2 ≤ (9 : Int32) then f_X7_digitsTo_30 fu σ fu a0 q2 (0 : Int32) (1 : Int32) x1 (0 : Int32) else some (-1 : Int32)
set_option maxHeartbeats 4000000 in
set_option maxRecDepth 100000 in
theorem w_X7_digitsTo {p : Program} {l : Launch} {e : Env} {R : Room} {s : State} {m : MethodId} {args : Array Value} {below : List Frame} {meth : Method} {c : Code} {κ : Ka_} {G : va_G} {cy : Nat → ClassId} {ad : Nat → Nat} {sz : Nat} {σ : St_} (fu : Nat) (C : CallFix p m c cX7_digitsTo 7 s args wU_ RX7) (K : Kx_ κ G cy (va_A (wl_ cy ad σ) sz) s) (hr : meth.sig.returnType = some .int) (hlk : meth.locks = false) (hR : 2 ≤ R.frames ∧ 42 ≤ R.locals) {q : Int32} : ∀ (a0 : Nat) (x1 : Int32), kd_ σ a0 = 7 → f_X7_digitsTo fu σ a0 x1 = some q → ∀ (H : Heap) (locs : List Loc) (ls : Array Slot), Ht_ G cy (va_A (wl_ cy ad σ) sz) s ad σ H locs → lv_has ls 7 [(0, .ref (ad a0)), (1, .int x1)] → W p l e R s m args below meth c H locs 0 0 (MQ below (Qi_ G cy ad σ σ sz q) args s 0 0 (va_A (wl_ cy ad σ) sz)) (F0 m 0 ls []) := by
  intro a0 x1 hk_a0 hf H locs ls h hl
  have hf : ((f_X7_stepsTo σ a0 x1).bind fun q2 => if q2 = (-1 : Int32) then some (-1 : Int32) else if q2 ≤ (9 : Int32) then f_X7_digitsTo_30 fu σ fu a0 q2 (0 : Int32) (1 : Int32) x1 (0 : Int32) else some (-1 : Int32)) = some q := hf
  refine lv_aload_n C.1 C.2.1 dX7_digitsTo_0 rfl (lv_at hl 0 rfl) ?_
  refine lv_iload_n C.1 C.2.1 dX7_digitsTo_1 rfl (lv_at hl 1 rfl) ?_
  obtain ⟨q2, hq_q2, hf⟩ := ob_ hf
  refine x_ai K h (x_V C K h [.int x1] (c_X7_stepsTo l κ G cy ad H.size σ a0 x1 hk_a0 hq_q2) mi_X7_stepsTo rfl im_yX7_stepsTo se_yX7_stepsTo ml_RX7_62 cl_7 hk_a0 ⟨rfl, rfl, Nat.le_trans (Nat.le_of_ble_eq_true rfl) hR.1, Nat.le_trans (Nat.le_of_ble_eq_true rfl) hR.2⟩ hl (Nat.le_of_ble_eq_true rfl) dX7_digitsTo_2 ⟨Nat.zero_le _, Nat.zero_le _⟩ rfl) (fun H locs h hX => ?_)
  refine lv_istore_n (i := 2) (lv' := [(2, .int q2), (0, .ref (ad a0)), (1, .int x1)]) C.1 C.2.1 dX7_digitsTo_5 rfl hl (by decide) rfl (fun ls hl => ?_)
  refine lv_iload_n C.1 C.2.1 dX7_digitsTo_6 rfl (lv_at hl 0 rfl) ?_
  refine lv_iconst (v := (-1 : Int32)) C.1 C.2.1 dX7_digitsTo_7 (by decide) ?_
  refine lv_icmp_eq (tgt := 17) C.1 C.2.1 dX7_digitsTo_8 (by decide) (fun c3 => ?_) (fun c3 => ?_)
  · have hf := if_t hf c3
    refine lv_iconst (v := (-1 : Int32)) C.1 C.2.1 dX7_digitsTo_17 (by decide) ?_
    exact x_ri C hr hlk h Ex_.rf (Option.some.inj hf) rfl dX7_digitsTo_18
  · have hf := if_f hf c3
    refine lv_iload_n C.1 C.2.1 dX7_digitsTo_11 rfl (lv_at hl 0 rfl) ?_
    refine lv_bipush (v := (9 : Int32)) C.1 C.2.1 dX7_digitsTo_12 (by decide) ?_
    refine lv_icmp_le (tgt := 19) C.1 C.2.1 dX7_digitsTo_14 (by decide) (fun c4 => ?_) (fun c4 => ?_)
    · have hf := if_t hf c4
      refine lv_iconst (v := (0 : Int32)) C.1 C.2.1 dX7_digitsTo_19 (by decide) ?_
      refine lv_istore_n (i := 3) (lv' := [(3, .int (0 : Int32)), (2, .int q2), (0, .ref (ad a0)), (1, .int x1)]) C.1 C.2.1 dX7_digitsTo_20 rfl hl (by decide) rfl (fun ls hl => ?_)
      refine lv_iconst (v := (1 : Int32)) C.1 C.2.1 dX7_digitsTo_21 (by decide) ?_
      refine lv_istore (i := 4) (lv' := [(4, .int (1 : Int32)), (3, .int (0 : Int32)), (2, .int q2), (0, .ref (ad a0)), (1, .int x1)]) C.1 C.2.1 dX7_digitsTo_22 hl (by decide) rfl (fun ls hl => ?_)
      refine lv_iload_n C.1 C.2.1 dX7_digitsTo_24 rfl (lv_at hl 4 rfl) ?_
      refine lv_istore (i := 5) (lv' := [(5, .int x1), (4, .int (1 : Int32)), (3, .int (0 : Int32)), (2, .int q2), (0, .ref (ad a0)), (1, .int x1)]) C.1 C.2.1 dX7_digitsTo_25 hl (by decide) rfl (fun ls hl => ?_)
      refine lv_iconst (v := (0 : Int32)) C.1 C.2.1 dX7_digitsTo_27 (by decide) ?_
      refine lv_istore (i := 6) (lv' := [(6, .int (0 : Int32)), (5, .int x1), (4, .int (1 : Int32)), (3, .int (0 : Int32)), (2, .int q2), (0, .ref (ad a0)), (1, .int x1)]) C.1 C.2.1 dX7_digitsTo_28 hl (by decide) rfl (fun ls hl => ?_)
      exact w_X7_digitsTo_30 fu C K hr hlk hR fu a0 q2 (0 : Int32) (1 : Int32) x1 (0 : Int32) hk_a0 hf _ _ _ h (lv_sub hl [5, 4, 3, 2, 1, 0] rfl)
    · have hf := if_f hf c4
      refine lv_iconst (v := (-1 : Int32)) C.1 C.2.1 dX7_digitsTo_17 (by decide) ?_
      exact x_ri C hr hlk h Ex_.rf (Option.some.inj hf) rfl dX7_digitsTo_18
theorem c_X7_digitsTo (fu : Nat) (l : Launch) (κ : Ka_) (G : va_G) (cy : Nat → ClassId) (ad : Nat → Nat) (sz : Nat) (σ : St_) (a0 : Nat) (x1 : Int32) (hk_a0 : kd_ σ a0 = 7) {q : Int32} (hf : f_X7_digitsTo fu σ a0 x1 = some q) : Met l yX7_digitsTo (Cond.code yX7_digitsTo cX7_digitsTo 7 (some .int) :: wU_) { frames := 2, cells := 0, slots := 0, locals := 42 } (va_Pc [.ref (ad a0), .int x1] (Pr_ κ G cy ad σ sz)) (Qi_ G cy ad σ σ sz q) 0 0 (va_A (wl_ cy ad σ) sz) :=
  x_met (by decide) (fun p e R s m below meth c ls hR C hr hlk hin _ K h hl => w_X7_digitsTo fu C K hr hlk ⟨hR.1, hR.2.1⟩ a0 x1 hk_a0 hf s.heap [] ls h hl) (Nat.le_of_ble_eq_true rfl)
-- X7_reached
theorem mi_X7_reached : Mi_ yX7_reached cX7_reached 4 (some .long) 0 := ⟨co_yX7_reached, in_RX7, by decide, by decide, by decide +kernel⟩
def f_X7_reached_4 (fu : Nat) (σ : St_) : Nat → Nat → Int64 → Int32 → Option Int64
  | 0 => fun _ _ _ => none
  | n + 1 => fun v0  v1  v3 => if (si_ σ v0 5) ≤ v3 then some v1 else if (36 : Int32) ≤ v3 then some v1 else (dr_ σ 10 (sr_ σ v0 3)).bind fun b3 => (ix_ v3 (ln_ σ b3)).bind fun j4 => (f_X7_reached_4 fu σ n) v0 (v1 ||| ((1 : Int64) <<< ((si_ σ b3 j4).toInt64 &&& 63))) (v3 + (1 : Int32))
set_option maxHeartbeats 4000000 in
set_option maxRecDepth 100000 in
theorem w_X7_reached_4 {p : Program} {l : Launch} {e : Env} {R : Room} {s : State} {m : MethodId} {args : Array Value} {below : List Frame} {meth : Method} {c : Code} {κ : Ka_} {G : va_G} {cy : Nat → ClassId} {ad : Nat → Nat} {sz : Nat} {σ : St_} (fu : Nat) (C : CallFix p m c cX7_reached 4 s args wU_ RX7) (K : Kx_ κ G cy (va_A (wl_ cy ad σ) sz) s) (hr : meth.sig.returnType = some .long) (hlk : meth.locks = false) (hR : 0 ≤ R.frames ∧ 0 ≤ R.locals) {q : Int64} : ∀ n : Nat, ∀ (v0 : Nat) (v1 : Int64) (v3 : Int32), kd_ σ v0 = 7 → f_X7_reached_4 fu σ n v0 v1 v3 = some q → ∀ (H : Heap) (locs : List Loc) (ls : Array Slot), Ht_ G cy (va_A (wl_ cy ad σ) sz) s ad σ H locs → lv_has ls 4 [(0, .ref (ad v0)), (1, .long v1), (3, .int v3)] → W p l e R s m args below meth c H locs 0 0 (MQ below (Ql_ G cy ad σ σ sz q) args s 0 0 (va_A (wl_ cy ad σ) sz)) (F0 m 4 ls []) := by
  intro n
  induction n with
  | zero =>
    intro v0 v1 v3 hk_v0 hf H locs ls h hl
    cases hf
  | succ n ih =>
    intro v0 v1 v3 hk_v0 hf H locs ls h hl
    have hf : (if (si_ σ v0 5) ≤ v3 then some v1 else if (36 : Int32) ≤ v3 then some v1 else (dr_ σ 10 (sr_ σ v0 3)).bind fun b3 => (ix_ v3 (ln_ σ b3)).bind fun j4 => (f_X7_reached_4 fu σ n) v0 (v1 ||| ((1 : Int64) <<< ((si_ σ b3 j4).toInt64 &&& 63))) (v3 + (1 : Int32))) = some q := hf
    refine lv_iload_n C.1 C.2.1 dX7_reached_4 rfl (lv_at hl 2 rfl) ?_
    refine lv_aload_n C.1 C.2.1 dX7_reached_5 rfl (lv_at hl 0 rfl) ?_
    refine x_get (v := .int (si_ σ v0 5)) C K h cl_7 hk_v0 5 (by decide) fl_RX7_27 rfl dX7_reached_6 ?_
    refine lv_icmp_ge (tgt := 35) C.1 C.2.1 dX7_reached_9 (by decide) (fun c1 => ?_) (fun c1 => ?_)
    · have hf := if_t hf c1
      refine lv_lload_n C.1 C.2.1 dX7_reached_35 rfl (lv_at hl 1 rfl) ?_
      exact x_rl C hr hlk h Ex_.rf (Option.some.inj hf) rfl dX7_reached_36
    · have hf := if_f hf c1
      refine lv_iload_n C.1 C.2.1 dX7_reached_12 rfl (lv_at hl 2 rfl) ?_
      refine lv_bipush (v := (36 : Int32)) C.1 C.2.1 dX7_reached_13 (by decide) ?_
      refine lv_icmp_ge (tgt := 35) C.1 C.2.1 dX7_reached_15 (by decide) (fun c2 => ?_) (fun c2 => ?_)
      · have hf := if_t hf c2
        refine lv_lload_n C.1 C.2.1 dX7_reached_35 rfl (lv_at hl 1 rfl) ?_
        exact x_rl C hr hlk h Ex_.rf (Option.some.inj hf) rfl dX7_reached_36
      · have hf := if_f hf c2
        refine lv_lload_n C.1 C.2.1 dX7_reached_18 rfl (lv_at hl 1 rfl) ?_
        refine lv_lconst (v := (1 : Int64)) C.1 C.2.1 dX7_reached_19 (by decide) ?_
        refine lv_aload_n C.1 C.2.1 dX7_reached_20 rfl (lv_at hl 0 rfl) ?_
        obtain ⟨b3, hb_b3, hf⟩ := ob_ hf
        obtain ⟨hq_b3, hk_b3⟩ := dr_in hb_b3
        refine x_get (v := .ref (ad b3)) C K h cl_7 hk_v0 3 (by decide) fl_RX7_21 (hv_r (o := sr_ σ v0 3) rfl hq_b3) dX7_reached_21 ?_
        refine lv_iload_n C.1 C.2.1 dX7_reached_24 rfl (lv_at hl 2 rfl) ?_
        obtain ⟨j4, hj_j4, hf⟩ := ob_ hf
        refine x_iald C K h hk_b3 hj_j4 dX7_reached_25 ?_
        refine lv_lshl C.1 C.2.1 dX7_reached_26 rfl ?_
        refine lv_lor C.1 C.2.1 dX7_reached_27 ?_
        refine lv_lstore_n (i := 1) (lv' := [(1, .long (v1 ||| ((1 : Int64) <<< ((si_ σ b3 j4).toInt64 &&& 63)))), (0, .ref (ad v0)), (3, .int v3)]) C.1 C.2.1 dX7_reached_28 rfl hl (by decide) rfl (fun ls hl => ?_)
        refine lv_iinc (v := v3 + (1 : Int32)) (lv' := [(3, .int (v3 + (1 : Int32))), (1, .long (v1 ||| ((1 : Int64) <<< ((si_ σ b3 j4).toInt64 &&& 63)))), (0, .ref (ad v0))]) C.1 C.2.1 dX7_reached_29 hl (k := 2) rfl rfl (by decide) rfl (fun ls hl => ?_)
        refine lv_goto (tgt := 4) C.1 C.2.1 dX7_reached_32 (by decide) ?_
        exact ih v0 (v1 ||| ((1 : Int64) <<< ((si_ σ b3 j4).toInt64 &&& 63))) (v3 + (1 : Int32)) hk_v0 hf _ _ _ h (lv_sub hl [2, 1, 0] rfl)
def f_X7_reached (fu : Nat) (σ : St_) (a0 : Nat) : Option Int64 := f_X7_reached_4 fu σ fu a0 (0 : Int64) (0 : Int32)
set_option maxHeartbeats 4000000 in
set_option maxRecDepth 100000 in
theorem w_X7_reached {p : Program} {l : Launch} {e : Env} {R : Room} {s : State} {m : MethodId} {args : Array Value} {below : List Frame} {meth : Method} {c : Code} {κ : Ka_} {G : va_G} {cy : Nat → ClassId} {ad : Nat → Nat} {sz : Nat} {σ : St_} (fu : Nat) (C : CallFix p m c cX7_reached 4 s args wU_ RX7) (K : Kx_ κ G cy (va_A (wl_ cy ad σ) sz) s) (hr : meth.sig.returnType = some .long) (hlk : meth.locks = false) (hR : 0 ≤ R.frames ∧ 0 ≤ R.locals) {q : Int64} : ∀ (a0 : Nat), kd_ σ a0 = 7 → f_X7_reached fu σ a0 = some q → ∀ (H : Heap) (locs : List Loc) (ls : Array Slot), Ht_ G cy (va_A (wl_ cy ad σ) sz) s ad σ H locs → lv_has ls 4 [(0, .ref (ad a0))] → W p l e R s m args below meth c H locs 0 0 (MQ below (Ql_ G cy ad σ σ sz q) args s 0 0 (va_A (wl_ cy ad σ) sz)) (F0 m 0 ls []) := by
  intro a0 hk_a0 hf H locs ls h hl
  have hf : (f_X7_reached_4 fu σ fu a0 (0 : Int64) (0 : Int32)) = some q := hf
  refine lv_lconst (v := (0 : Int64)) C.1 C.2.1 dX7_reached_0 (by decide) ?_
  refine lv_lstore_n (i := 1) (lv' := [(1, .long (0 : Int64)), (0, .ref (ad a0))]) C.1 C.2.1 dX7_reached_1 rfl hl (by decide) rfl (fun ls hl => ?_)
  refine lv_iconst (v := (0 : Int32)) C.1 C.2.1 dX7_reached_2 (by decide) ?_
  refine lv_istore_n (i := 3) (lv' := [(3, .int (0 : Int32)), (1, .long (0 : Int64)), (0, .ref (ad a0))]) C.1 C.2.1 dX7_reached_3 rfl hl (by decide) rfl (fun ls hl => ?_)
  exact w_X7_reached_4 fu C K hr hlk hR fu a0 (0 : Int64) (0 : Int32) hk_a0 hf _ _ _ h (lv_sub hl [2, 1, 0] rfl)
theorem c_X7_reached (fu : Nat) (l : Launch) (κ : Ka_) (G : va_G) (cy : Nat → ClassId) (ad : Nat → Nat) (sz : Nat) (σ : St_) (a0 : Nat) (hk_a0 : kd_ σ a0 = 7) {q : Int64} (hf : f_X7_reached fu σ a0 = some q) : Met l yX7_reached (Cond.code yX7_reached cX7_reached 4 (some .long) :: wU_) { frames := 0, cells := 0, slots := 0, locals := 0 } (va_Pc [.ref (ad a0)] (Pr_ κ G cy ad σ sz)) (Ql_ G cy ad σ σ sz q) 0 0 (va_A (wl_ cy ad σ) sz) :=
  x_met (by decide) (fun p e R s m below meth c ls hR C hr hlk hin _ K h hl => w_X7_reached fu C K hr hlk ⟨hR.1, hR.2.1⟩ a0 hk_a0 hf s.heap [] ls h hl) (Nat.le_of_ble_eq_true rfl)
-- X7_sinks
theorem mi_X7_sinks : Mi_ yX7_sinks cX7_sinks 1 (some .long) 0 := ⟨co_yX7_sinks, in_RX7, by decide, by decide, by decide +kernel⟩
def f_X7_sinks (σ : St_) (a0 : Nat) : Int64 := sl_ σ a0 7
set_option maxHeartbeats 4000000 in
set_option maxRecDepth 100000 in
theorem w_X7_sinks {p : Program} {l : Launch} {e : Env} {R : Room} {s : State} {m : MethodId} {args : Array Value} {below : List Frame} {meth : Method} {c : Code} {κ : Ka_} {G : va_G} {cy : Nat → ClassId} {ad : Nat → Nat} {sz : Nat} {σ : St_} (C : CallFix p m c cX7_sinks 1 s args wU_ RX7) (K : Kx_ κ G cy (va_A (wl_ cy ad σ) sz) s) (hr : meth.sig.returnType = some .long) (hlk : meth.locks = false) (hR : 0 ≤ R.frames ∧ 0 ≤ R.locals) {q : Int64} : ∀ (a0 : Nat), kd_ σ a0 = 7 → f_X7_sinks σ a0 = q → ∀ (H : Heap) (locs : List Loc) (ls : Array Slot), Ht_ G cy (va_A (wl_ cy ad σ) sz) s ad σ H locs → lv_has ls 1 [(0, .ref (ad a0))] → W p l e R s m args below meth c H locs 0 0 (MQ below (Ql_ G cy ad σ σ sz q) args s 0 0 (va_A (wl_ cy ad σ) sz)) (F0 m 0 ls []) := by
  intro a0 hk_a0 hf H locs ls h hl
  have hf : (sl_ σ a0 7) = q := hf
  refine lv_aload_n C.1 C.2.1 dX7_sinks_0 rfl (lv_at hl 0 rfl) ?_
  refine x_get (v := .long (sl_ σ a0 7)) C K h cl_7 hk_a0 7 (by decide) fl_RX7_34 rfl dX7_sinks_1 ?_
  exact x_rl C hr hlk h Ex_.rf hf rfl dX7_sinks_4
theorem c_X7_sinks (l : Launch) (κ : Ka_) (G : va_G) (cy : Nat → ClassId) (ad : Nat → Nat) (sz : Nat) (σ : St_) (a0 : Nat) (hk_a0 : kd_ σ a0 = 7) {q : Int64} (hf : f_X7_sinks σ a0 = q) : Met l yX7_sinks (Cond.code yX7_sinks cX7_sinks 1 (some .long) :: wU_) { frames := 0, cells := 0, slots := 0, locals := 0 } (va_Pc [.ref (ad a0)] (Pr_ κ G cy ad σ sz)) (Ql_ G cy ad σ σ sz q) 0 0 (va_A (wl_ cy ad σ) sz) :=
  x_met (by decide) (fun p e R s m below meth c ls hR C hr hlk hin _ K h hl => w_X7_sinks C K hr hlk ⟨hR.1, hR.2.1⟩ a0 hk_a0 hf s.heap [] ls h hl) (Nat.le_of_ble_eq_true rfl)
-- X7_idleWords
theorem mi_X7_idleWords : Mi_ yX7_idleWords cX7_idleWords 1 (some .int) 0 := ⟨co_yX7_idleWords, in_RX7, by decide, by decide, by decide +kernel⟩
def f_X7_idleWords (σ : St_) (a0 : Nat) : Int32 := (255 : Int32) &&& ((si_ σ a0 6) ^^^ (-1 : Int32))
set_option maxHeartbeats 4000000 in
set_option maxRecDepth 100000 in
theorem w_X7_idleWords {p : Program} {l : Launch} {e : Env} {R : Room} {s : State} {m : MethodId} {args : Array Value} {below : List Frame} {meth : Method} {c : Code} {κ : Ka_} {G : va_G} {cy : Nat → ClassId} {ad : Nat → Nat} {sz : Nat} {σ : St_} (C : CallFix p m c cX7_idleWords 1 s args wU_ RX7) (K : Kx_ κ G cy (va_A (wl_ cy ad σ) sz) s) (hr : meth.sig.returnType = some .int) (hlk : meth.locks = false) (hR : 0 ≤ R.frames ∧ 0 ≤ R.locals) {q : Int32} : ∀ (a0 : Nat), kd_ σ a0 = 7 → f_X7_idleWords σ a0 = q → ∀ (H : Heap) (locs : List Loc) (ls : Array Slot), Ht_ G cy (va_A (wl_ cy ad σ) sz) s ad σ H locs → lv_has ls 1 [(0, .ref (ad a0))] → W p l e R s m args below meth c H locs 0 0 (MQ below (Qi_ G cy ad σ σ sz q) args s 0 0 (va_A (wl_ cy ad σ) sz)) (F0 m 0 ls []) := by
  intro a0 hk_a0 hf H locs ls h hl
  have hf : ((255 : Int32) &&& ((si_ σ a0 6) ^^^ (-1 : Int32))) = q := hf
  refine lv_sipush (v := (255 : Int32)) C.1 C.2.1 dX7_idleWords_0 (by decide) ?_
  refine lv_aload_n C.1 C.2.1 dX7_idleWords_3 rfl (lv_at hl 0 rfl) ?_
  refine x_get (v := .int (si_ σ a0 6)) C K h cl_7 hk_a0 6 (by decide) fl_RX7_31 rfl dX7_idleWords_4 ?_
  refine lv_iconst (v := (-1 : Int32)) C.1 C.2.1 dX7_idleWords_7 (by decide) ?_
  refine lv_ixor C.1 C.2.1 dX7_idleWords_8 ?_
  refine lv_iand C.1 C.2.1 dX7_idleWords_9 ?_
  exact x_ri C hr hlk h Ex_.rf hf rfl dX7_idleWords_10
theorem c_X7_idleWords (l : Launch) (κ : Ka_) (G : va_G) (cy : Nat → ClassId) (ad : Nat → Nat) (sz : Nat) (σ : St_) (a0 : Nat) (hk_a0 : kd_ σ a0 = 7) {q : Int32} (hf : f_X7_idleWords σ a0 = q) : Met l yX7_idleWords (Cond.code yX7_idleWords cX7_idleWords 1 (some .int) :: wU_) { frames := 0, cells := 0, slots := 0, locals := 0 } (va_Pc [.ref (ad a0)] (Pr_ κ G cy ad σ sz)) (Qi_ G cy ad σ σ sz q) 0 0 (va_A (wl_ cy ad σ) sz) :=
  x_met (by decide) (fun p e R s m below meth c ls hR C hr hlk hin _ K h hl => w_X7_idleWords C K hr hlk ⟨hR.1, hR.2.1⟩ a0 hk_a0 hf s.heap [] ls h hl) (Nat.le_of_ble_eq_true rfl)
-- X7_furthestCell
theorem mi_X7_furthestCell : Mi_ yX7_furthestCell cX7_furthestCell 3 (some .int) 0 := ⟨co_yX7_furthestCell, in_RX7, by decide, by decide, by decide +kernel⟩
def f_X7_furthestCell_4 (fu : Nat) (σ : St_) : Nat → Nat → Int32 → Int32 → Option Int32
  | 0 => fun _ _ _ => none
  | n + 1 => fun v0  v1  v2 => if (36 : Int32) ≤ v2 then some v1 else (dr_ σ 10 (sr_ σ v0 0)).bind fun b2 => (ix_ v2 (ln_ σ b2)).bind fun j3 => (ix_ v1 (ln_ σ b2)).bind fun j4 => if (si_ σ b2 j3) ≤ (si_ σ b2 j4) then (f_X7_furthestCell_4 fu σ n) v0 v1 (v2 + (1 : Int32)) else (f_X7_furthestCell_4 fu σ n) v0 v2 (v2 + (1 : Int32))
set_option maxHeartbeats 4000000 in
set_option maxRecDepth 100000 in
theorem w_X7_furthestCell_4 {p : Program} {l : Launch} {e : Env} {R : Room} {s : State} {m : MethodId} {args : Array Value} {below : List Frame} {meth : Method} {c : Code} {κ : Ka_} {G : va_G} {cy : Nat → ClassId} {ad : Nat → Nat} {sz : Nat} {σ : St_} (fu : Nat) (C : CallFix p m c cX7_furthestCell 3 s args wU_ RX7) (K : Kx_ κ G cy (va_A (wl_ cy ad σ) sz) s) (hr : meth.sig.returnType = some .int) (hlk : meth.locks = false) (hR : 0 ≤ R.frames ∧ 0 ≤ R.locals) {q : Int32} : ∀ n : Nat, ∀ (v0 : Nat) (v1 : Int32) (v2 : Int32), kd_ σ v0 = 7 → f_X7_furthestCell_4 fu σ n v0 v1 v2 = some q → ∀ (H : Heap) (locs : List Loc) (ls : Array Slot), Ht_ G cy (va_A (wl_ cy ad σ) sz) s ad σ H locs → lv_has ls 3 [(0, .ref (ad v0)), (1, .int v1), (2, .int v2)] → W p l e R s m args below meth c H locs 0 0 (MQ below (Qi_ G cy ad σ σ sz q) args s 0 0 (va_A (wl_ cy ad σ) sz)) (F0 m 4 ls []) := by
  intro n
  induction n with
  | zero =>
    intro v0 v1 v2 hk_v0 hf H locs ls h hl
    cases hf
  | succ n ih =>
    intro v0 v1 v2 hk_v0 hf H locs ls h hl
    have hf : (if (36 : Int32) ≤ v2 then some v1 else (dr_ σ 10 (sr_ σ v0 0)).bind fun b2 => (ix_ v2 (ln_ σ b2)).bind fun j3 => (ix_ v1 (ln_ σ b2)).bind fun j4 => if (si_ σ b2 j3) ≤ (si_ σ b2 j4) then (f_X7_furthestCell_4 fu σ n) v0 v1 (v2 + (1 : Int32)) else (f_X7_furthestCell_4 fu σ n) v0 v2 (v2 + (1 : Int32))) = some q := hf
    refine lv_iload_n C.1 C.2.1 dX7_furthestCell_4 rfl (lv_at hl 2 rfl) ?_
    refine lv_bipush (v := (36 : Int32)) C.1 C.2.1 dX7_furthestCell_5 (by decide) ?_
    refine lv_icmp_ge (tgt := 37) C.1 C.2.1 dX7_furthestCell_7 (by decide) (fun c1 => ?_) (fun c1 => ?_)
    · have hf := if_t hf c1
      refine lv_iload_n C.1 C.2.1 dX7_furthestCell_37 rfl (lv_at hl 1 rfl) ?_
      exact x_ri C hr hlk h Ex_.rf (Option.some.inj hf) rfl dX7_furthestCell_38
    · have hf := if_f hf c1
      refine lv_aload_n C.1 C.2.1 dX7_furthestCell_10 rfl (lv_at hl 0 rfl) ?_
      obtain ⟨b2, hb_b2, hf⟩ := ob_ hf
      obtain ⟨hq_b2, hk_b2⟩ := dr_in hb_b2
      refine x_get (v := .ref (ad b2)) C K h cl_7 hk_v0 0 (by decide) fl_RX7_9 (hv_r (o := sr_ σ v0 0) rfl hq_b2) dX7_furthestCell_11 ?_
      refine lv_iload_n C.1 C.2.1 dX7_furthestCell_14 rfl (lv_at hl 2 rfl) ?_
      obtain ⟨j3, hj_j3, hf⟩ := ob_ hf
      refine x_iald C K h hk_b2 hj_j3 dX7_furthestCell_15 ?_
      refine lv_aload_n C.1 C.2.1 dX7_furthestCell_16 rfl (lv_at hl 0 rfl) ?_
      refine x_get (v := .ref (ad b2)) C K h cl_7 hk_v0 0 (by decide) fl_RX7_9 (hv_r (o := sr_ σ v0 0) rfl hq_b2) dX7_furthestCell_17 ?_
      refine lv_iload_n C.1 C.2.1 dX7_furthestCell_20 rfl (lv_at hl 1 rfl) ?_
      obtain ⟨j4, hj_j4, hf⟩ := ob_ hf
      refine x_iald C K h hk_b2 hj_j4 dX7_furthestCell_21 ?_
      refine lv_icmp_le (tgt := 29) C.1 C.2.1 dX7_furthestCell_22 (by decide) (fun c5 => ?_) (fun c5 => ?_)
      · have hf := if_t hf c5
        refine lv_iload_n C.1 C.2.1 dX7_furthestCell_29 rfl (lv_at hl 1 rfl) ?_
        refine lv_istore_n (i := 1) (lv' := [(1, .int v1), (0, .ref (ad v0)), (2, .int v2)]) C.1 C.2.1 dX7_furthestCell_30 rfl hl (by decide) rfl (fun ls hl => ?_)
        refine lv_iinc (v := v2 + (1 : Int32)) (lv' := [(2, .int (v2 + (1 : Int32))), (1, .int v1), (0, .ref (ad v0))]) C.1 C.2.1 dX7_furthestCell_31 hl (k := 2) rfl rfl (by decide) rfl (fun ls hl => ?_)
        refine lv_goto (tgt := 4) C.1 C.2.1 dX7_furthestCell_34 (by decide) ?_
        exact ih v0 v1 (v2 + (1 : Int32)) hk_v0 hf _ _ _ h (lv_sub hl [2, 1, 0] rfl)
      · have hf := if_f hf c5
        refine lv_iload_n C.1 C.2.1 dX7_furthestCell_25 rfl (lv_at hl 2 rfl) ?_
        refine lv_goto (tgt := 30) C.1 C.2.1 dX7_furthestCell_26 (by decide) ?_
        refine lv_istore_n (i := 1) (lv' := [(1, .int v2), (0, .ref (ad v0)), (2, .int v2)]) C.1 C.2.1 dX7_furthestCell_30 rfl hl (by decide) rfl (fun ls hl => ?_)
        refine lv_iinc (v := v2 + (1 : Int32)) (lv' := [(2, .int (v2 + (1 : Int32))), (1, .int v2), (0, .ref (ad v0))]) C.1 C.2.1 dX7_furthestCell_31 hl (k := 2) rfl rfl (by decide) rfl (fun ls hl => ?_)
        refine lv_goto (tgt := 4) C.1 C.2.1 dX7_furthestCell_34 (by decide) ?_
        exact ih v0 v2 (v2 + (1 : Int32)) hk_v0 hf _ _ _ h (lv_sub hl [2, 1, 0] rfl)
def f_X7_furthestCell (fu : Nat) (σ : St_) (a0 : Nat) : Option Int32 := f_X7_furthestCell_4 fu σ fu a0 (0 : Int32) (1 : Int32)
set_option maxHeartbeats 4000000 in
set_option maxRecDepth 100000 in
theorem w_X7_furthestCell {p : Program} {l : Launch} {e : Env} {R : Room} {s : State} {m : MethodId} {args : Array Value} {below : List Frame} {meth : Method} {c : Code} {κ : Ka_} {G : va_G} {cy : Nat → ClassId} {ad : Nat → Nat} {sz : Nat} {σ : St_} (fu : Nat) (C : CallFix p m c cX7_furthestCell 3 s args wU_ RX7) (K : Kx_ κ G cy (va_A (wl_ cy ad σ) sz) s) (hr : meth.sig.returnType = some .int) (hlk : meth.locks = false) (hR : 0 ≤ R.frames ∧ 0 ≤ R.locals) {q : Int32} : ∀ (a0 : Nat), kd_ σ a0 = 7 → f_X7_furthestCell fu σ a0 = some q → ∀ (H : Heap) (locs : List Loc) (ls : Array Slot), Ht_ G cy (va_A (wl_ cy ad σ) sz) s ad σ H locs → lv_has ls 3 [(0, .ref (ad a0))] → W p l e R s m args below meth c H locs 0 0 (MQ below (Qi_ G cy ad σ σ sz q) args s 0 0 (va_A (wl_ cy ad σ) sz)) (F0 m 0 ls []) := by
  intro a0 hk_a0 hf H locs ls h hl
  have hf : (f_X7_furthestCell_4 fu σ fu a0 (0 : Int32) (1 : Int32)) = some q := hf
  refine lv_iconst (v := (0 : Int32)) C.1 C.2.1 dX7_furthestCell_0 (by decide) ?_
  refine lv_istore_n (i := 1) (lv' := [(1, .int (0 : Int32)), (0, .ref (ad a0))]) C.1 C.2.1 dX7_furthestCell_1 rfl hl (by decide) rfl (fun ls hl => ?_)
  refine lv_iconst (v := (1 : Int32)) C.1 C.2.1 dX7_furthestCell_2 (by decide) ?_
  refine lv_istore_n (i := 2) (lv' := [(2, .int (1 : Int32)), (1, .int (0 : Int32)), (0, .ref (ad a0))]) C.1 C.2.1 dX7_furthestCell_3 rfl hl (by decide) rfl (fun ls hl => ?_)
  exact w_X7_furthestCell_4 fu C K hr hlk hR fu a0 (0 : Int32) (1 : Int32) hk_a0 hf _ _ _ h (lv_sub hl [2, 1, 0] rfl)
theorem c_X7_furthestCell (fu : Nat) (l : Launch) (κ : Ka_) (G : va_G) (cy : Nat → ClassId) (ad : Nat → Nat) (sz : Nat) (σ : St_) (a0 : Nat) (hk_a0 : kd_ σ a0 = 7) {q : Int32} (hf : f_X7_furthestCell fu σ a0 = some q) : Met l yX7_furthestCell (Cond.code yX7_furthestCell cX7_furthestCell 3 (some .int) :: wU_) { frames := 0, cells := 0, slots := 0, locals := 0 } (va_Pc [.ref (ad a0)] (Pr_ κ G cy ad σ sz)) (Qi_ G cy ad σ σ sz q) 0 0 (va_A (wl_ cy ad σ) sz) :=
  x_met (by decide) (fun p e R s m below meth c ls hR C hr hlk hin _ K h hl => w_X7_furthestCell fu C K hr hlk ⟨hR.1, hR.2.1⟩ a0 hk_a0 hf s.heap [] ls h hl) (Nat.le_of_ble_eq_true rfl)
-- X7_spread
theorem mi_X7_spread : Mi_ yX7_spread cX7_spread 7 none 2 := ⟨co_yX7_spread, in_RX7, by decide, by decide, by decide +kernel⟩
def f_X7_spread_27 (fu : Nat) (k2 : St_ → Nat → Nat → Nat → Int32 → Option St_) : Nat → St_ → Nat → Nat → Nat → Int32 → Int32 → Int32 → Option St_
  | 0 => fun _ _ _ _ _ _ _ => none
  | n + 1 => fun σ  v0  v1  v2  v3  v4  v5 => if (8 : Int32) ≤ v5 then k2 σ v0 v1 v2 (v3 + (1 : Int32)) else (f_X7_goalOf σ v0 v4 v5).bind fun q2 => if (f_X8_isBelow q2 (nI (ln_ σ v2))) = 0 then (f_X7_spread_27 fu k2 n) σ v0 v1 v2 v3 v4 (v5 + (1 : Int32)) else if (f_X8_isBelow v4 (nI (ln_ σ v1))) = 0 then (f_X7_spread_27 fu k2 n) σ v0 v1 v2 v3 v4 (v5 + (1 : Int32)) else (ix_ q2 (ln_ σ v2)).bind fun j9 => (ix_ v4 (ln_ σ v1)).bind fun j10 => (ix_ q2 (ln_ σ v2)).bind fun j11 => (f_X7_spread_27 fu k2 n) (ul_ σ v2 j11 ((sl_ σ v2 j9) + (sl_ σ v1 j10))) v0 v1 v2 v3 v4 (v5 + (1 : Int32))
set_option maxHeartbeats 4000000 in
set_option maxRecDepth 100000 in
theorem w_X7_spread_27 {p : Program} {l : Launch} {e : Env} {R : Room} {s : State} {m : MethodId} {args : Array Value} {below : List Frame} {meth : Method} {c : Code} {κ : Ka_} {G : va_G} {cy : Nat → ClassId} {ad : Nat → Nat} {sz : Nat} {σ0 : St_} (fu : Nat) (C : CallFix p m c cX7_spread 7 s args wU_ RX7) (K : Kx_ κ G cy (va_A (wl_ cy ad σ0) sz) s) (hr : meth.sig.returnType = none) (hlk : meth.locks = false) (hR : 2 ≤ R.frames ∧ 44 ≤ R.locals) {q : St_} (k2 : St_ → Nat → Nat → Nat → Int32 → Option St_) (hk2 : ∀ (σ : St_) (v0 : Nat) (v1 : Nat) (v2 : Nat) (v3 : Int32), Ex_ σ0 σ → kd_ σ v0 = 7 → kd_ σ v1 = 11 → kd_ σ v2 = 11 → k2 σ v0 v1 v2 v3 = some q → ∀ (H : Heap) (locs : List Loc) (ls : Array Slot), Ht_ G cy (va_A (wl_ cy ad σ0) sz) s ad σ H locs → lv_has ls 7 [(0, .ref (ad v0)), (1, .ref (ad v1)), (2, .ref (ad v2)), (3, .int v3)] → W p l e R s m args below meth c H locs 0 0 (MQ below (Qv_ G cy ad σ0 q sz) args s 0 0 (va_A (wl_ cy ad σ0) sz)) (F0 m 2 ls [])) : ∀ n : Nat, ∀ (σ : St_) (v0 : Nat) (v1 : Nat) (v2 : Nat) (v3 : Int32) (v4 : Int32) (v5 : Int32), Ex_ σ0 σ → kd_ σ v0 = 7 → kd_ σ v1 = 11 → kd_ σ v2 = 11 → f_X7_spread_27 fu k2 n σ v0 v1 v2 v3 v4 v5 = some q → ∀ (H : Heap) (locs : List Loc) (ls : Array Slot), Ht_ G cy (va_A (wl_ cy ad σ0) sz) s ad σ H locs → lv_has ls 7 [(0, .ref (ad v0)), (1, .ref (ad v1)), (2, .ref (ad v2)), (3, .int v3), (4, .int v4), (5, .int v5)] → W p l e R s m args below meth c H locs 0 0 (MQ below (Qv_ G cy ad σ0 q sz) args s 0 0 (va_A (wl_ cy ad σ0) sz)) (F0 m 27 ls []) := by
  intro n
  induction n with
  | zero =>
    intro σ v0 v1 v2 v3 v4 v5 hE hk_v0 hk_v1 hk_v2 hf H locs ls h hl
    cases hf
  | succ n ih =>
    intro σ v0 v1 v2 v3 v4 v5 hE hk_v0 hk_v1 hk_v2 hf H locs ls h hl
    have hf : (if (8 : Int32) ≤ v5 then k2 σ v0 v1 v2 (v3 + (1 : Int32)) else (f_X7_goalOf σ v0 v4 v5).bind fun q2 => if (f_X8_isBelow q2 (nI (ln_ σ v2))) = 0 then (f_X7_spread_27 fu k2 n) σ v0 v1 v2 v3 v4 (v5 + (1 : Int32)) else if (f_X8_isBelow v4 (nI (ln_ σ v1))) = 0 then (f_X7_spread_27 fu k2 n) σ v0 v1 v2 v3 v4 (v5 + (1 : Int32)) else (ix_ q2 (ln_ σ v2)).bind fun j9 => (ix_ v4 (ln_ σ v1)).bind fun j10 => (ix_ q2 (ln_ σ v2)).bind fun j11 => (f_X7_spread_27 fu k2 n) (ul_ σ v2 j11 ((sl_ σ v2 j9) + (sl_ σ v1 j10))) v0 v1 v2 v3 v4 (v5 + (1 : Int32))) = some q := hf
    refine lv_iload C.1 C.2.1 dX7_spread_27 (lv_at hl 5 rfl) ?_
    refine lv_bipush (v := (8 : Int32)) C.1 C.2.1 dX7_spread_29 (by decide) ?_
    refine lv_icmp_ge (tgt := 81) C.1 C.2.1 dX7_spread_31 (by decide) (fun c1 => ?_) (fun c1 => ?_)
    · have hf := if_t hf c1
      refine lv_iinc (v := v3 + (1 : Int32)) (lv' := [(3, .int (v3 + (1 : Int32))), (0, .ref (ad v0)), (1, .ref (ad v1)), (2, .ref (ad v2)), (4, .int v4), (5, .int v5)]) C.1 C.2.1 dX7_spread_81 hl (k := 3) rfl rfl (by decide) rfl (fun ls hl => ?_)
      refine lv_goto (tgt := 2) C.1 C.2.1 dX7_spread_84 (by decide) ?_
      exact hk2 σ v0 v1 v2 (v3 + (1 : Int32)) hE hk_v0 hk_v1 hk_v2 hf _ _ _ h (lv_sub hl [1, 2, 3, 0] rfl)
    · have hf := if_f hf c1
      refine lv_aload_n C.1 C.2.1 dX7_spread_34 rfl (lv_at hl 0 rfl) ?_
      refine lv_iload C.1 C.2.1 dX7_spread_35 (lv_at hl 4 rfl) ?_
      refine lv_iload C.1 C.2.1 dX7_spread_37 (lv_at hl 5 rfl) ?_
      obtain ⟨q2, hq_q2, hf⟩ := ob_ hf
      refine x_ai K h (x_V C K h [.int v4, .int v5] (c_X7_goalOf l κ G cy ad H.size σ v0 v4 v5 hk_v0 hq_q2) mi_X7_goalOf rfl im_yX7_goalOf se_yX7_goalOf ml_RX7_66 cl_7 hk_v0 ⟨rfl, rfl, Nat.le_trans (Nat.le_of_ble_eq_true rfl) hR.1, Nat.le_trans (Nat.le_of_ble_eq_true rfl) hR.2⟩ hl (Nat.le_of_ble_eq_true rfl) dX7_spread_39 ⟨Nat.zero_le _, Nat.zero_le _⟩ rfl) (fun H locs h hX => ?_)
      refine lv_istore (i := 6) (lv' := [(6, .int q2), (0, .ref (ad v0)), (1, .ref (ad v1)), (2, .ref (ad v2)), (3, .int v3), (4, .int v4), (5, .int v5)]) C.1 C.2.1 dX7_spread_42 hl (by decide) rfl (fun ls hl => ?_)
      refine lv_iload C.1 C.2.1 dX7_spread_44 (lv_at hl 0 rfl) ?_
      refine lv_aload_n C.1 C.2.1 dX7_spread_46 rfl (lv_at hl 3 rfl) ?_
      refine x_llen C K h hk_v2 dX7_spread_47 ?_
      refine x_az K h (x_SN C K h [.int q2, .int (nI (ln_ σ v2))] (c_X8_isBelow l κ G cy ad H.size σ q2 (nI (ln_ σ v2)) rfl) mi_X8_isBelow rfl st_yX8_isBelow nm_RX7_52 ⟨rfl, rfl, Nat.le_trans (Nat.le_of_ble_eq_true rfl) hR.1, Nat.le_trans (Nat.le_of_ble_eq_true rfl) hR.2⟩ hl (Nat.le_of_ble_eq_true rfl) dX7_spread_48 ⟨Nat.zero_le _, Nat.zero_le _⟩ rfl) (fun H locs h hX hz4 => ?_)
      refine lv_if_eq (tgt := 75) C.1 C.2.1 dX7_spread_51 (by decide) (fun c5 => ?_) (fun c5 => ?_)
      · have hf := if_t hf c5
        refine lv_iinc (v := v5 + (1 : Int32)) (lv' := [(5, .int (v5 + (1 : Int32))), (6, .int q2), (0, .ref (ad v0)), (1, .ref (ad v1)), (2, .ref (ad v2)), (3, .int v3), (4, .int v4)]) C.1 C.2.1 dX7_spread_75 hl (k := 6) rfl rfl (by decide) rfl (fun ls hl => ?_)
        refine lv_goto (tgt := 27) C.1 C.2.1 dX7_spread_78 (by decide) ?_
        exact ih σ v0 v1 v2 v3 v4 (v5 + (1 : Int32)) hE hk_v0 hk_v1 hk_v2 hf _ _ _ h (lv_sub hl [2, 3, 4, 5, 6, 0] rfl)
      · have hf := if_f hf c5
        refine lv_iload C.1 C.2.1 dX7_spread_54 (lv_at hl 5 rfl) ?_
        refine lv_aload_n C.1 C.2.1 dX7_spread_56 rfl (lv_at hl 2 rfl) ?_
        refine x_llen C K h hk_v1 dX7_spread_57 ?_
        refine x_az K h (x_SN C K h [.int v4, .int (nI (ln_ σ v1))] (c_X8_isBelow l κ G cy ad H.size σ v4 (nI (ln_ σ v1)) rfl) mi_X8_isBelow rfl st_yX8_isBelow nm_RX7_52 ⟨rfl, rfl, Nat.le_trans (Nat.le_of_ble_eq_true rfl) hR.1, Nat.le_trans (Nat.le_of_ble_eq_true rfl) hR.2⟩ hl (Nat.le_of_ble_eq_true rfl) dX7_spread_58 ⟨Nat.zero_le _, Nat.zero_le _⟩ rfl) (fun H locs h hX hz7 => ?_)
        refine lv_if_eq (tgt := 75) C.1 C.2.1 dX7_spread_61 (by decide) (fun c8 => ?_) (fun c8 => ?_)
        · have hf := if_t hf c8
          refine lv_iinc (v := v5 + (1 : Int32)) (lv' := [(5, .int (v5 + (1 : Int32))), (6, .int q2), (0, .ref (ad v0)), (1, .ref (ad v1)), (2, .ref (ad v2)), (3, .int v3), (4, .int v4)]) C.1 C.2.1 dX7_spread_75 hl (k := 6) rfl rfl (by decide) rfl (fun ls hl => ?_)
          refine lv_goto (tgt := 27) C.1 C.2.1 dX7_spread_78 (by decide) ?_
          exact ih σ v0 v1 v2 v3 v4 (v5 + (1 : Int32)) hE hk_v0 hk_v1 hk_v2 hf _ _ _ h (lv_sub hl [2, 3, 4, 5, 6, 0] rfl)
        · have hf := if_f hf c8
          refine lv_aload_n C.1 C.2.1 dX7_spread_64 rfl (lv_at hl 3 rfl) ?_
          refine lv_iload C.1 C.2.1 dX7_spread_65 (lv_at hl 0 rfl) ?_
          refine lv_dup2_11 C.1 C.2.1 dX7_spread_67 rfl rfl ?_
          obtain ⟨j9, hj_j9, hf⟩ := ob_ hf
          refine x_lald C K h hk_v2 hj_j9 dX7_spread_68 ?_
          refine lv_aload_n C.1 C.2.1 dX7_spread_69 rfl (lv_at hl 2 rfl) ?_
          refine lv_iload C.1 C.2.1 dX7_spread_70 (lv_at hl 5 rfl) ?_
          obtain ⟨j10, hj_j10, hf⟩ := ob_ hf
          refine x_lald C K h hk_v1 hj_j10 dX7_spread_72 ?_
          refine lv_ladd C.1 C.2.1 dX7_spread_73 ?_
          obtain ⟨j11, hj_j11, hf⟩ := ob_ hf
          refine x_last C K h hk_v2 hj_j11 dX7_spread_74 (fun H locs h => ?_)
          have hE := hE.up (up_l σ v2 j11 ((sl_ σ v2 j9) + (sl_ σ v1 j10)))
          refine lv_iinc (v := v5 + (1 : Int32)) (lv' := [(5, .int (v5 + (1 : Int32))), (6, .int q2), (0, .ref (ad v0)), (1, .ref (ad v1)), (2, .ref (ad v2)), (3, .int v3), (4, .int v4)]) C.1 C.2.1 dX7_spread_75 hl (k := 6) rfl rfl (by decide) rfl (fun ls hl => ?_)
          refine lv_goto (tgt := 27) C.1 C.2.1 dX7_spread_78 (by decide) ?_
          exact ih (ul_ σ v2 j11 ((sl_ σ v2 j9) + (sl_ σ v1 j10))) v0 v1 v2 v3 v4 (v5 + (1 : Int32)) hE hk_v0 hk_v1 hk_v2 hf _ _ _ h (lv_sub hl [2, 3, 4, 5, 6, 0] rfl)
def f_X7_spread_2 (fu : Nat) : Nat → St_ → Nat → Nat → Nat → Int32 → Option St_
  | 0 => fun _ _ _ _ _ => none
  | n + 1 => fun σ  v0  v1  v2  v3 => if (si_ σ v0 5) ≤ v3 then some σ else if (36 : Int32) ≤ v3 then some σ else (dr_ σ 10 (sr_ σ v0 3)).bind fun b3 => (ix_ v3 (ln_ σ b3)).bind fun j4 => f_X7_spread_27 fu (f_X7_spread_2 fu n) fu σ v0 v1 v2 v3 (si_ σ b3 j4) (0 : Int32)
set_option maxHeartbeats 4000000 in
set_option maxRecDepth 100000 in
theorem w_X7_spread_2 {p : Program} {l : Launch} {e : Env} {R : Room} {s : State} {m : MethodId} {args : Array Value} {below : List Frame} {meth : Method} {c : Code} {κ : Ka_} {G : va_G} {cy : Nat → ClassId} {ad : Nat → Nat} {sz : Nat} {σ0 : St_} (fu : Nat) (C : CallFix p m c cX7_spread 7 s args wU_ RX7) (K : Kx_ κ G cy (va_A (wl_ cy ad σ0) sz) s) (hr : meth.sig.returnType = none) (hlk : meth.locks = false) (hR : 2 ≤ R.frames ∧ 44 ≤ R.locals) {q : St_} : ∀ n : Nat, ∀ (σ : St_) (v0 : Nat) (v1 : Nat) (v2 : Nat) (v3 : Int32), Ex_ σ0 σ → kd_ σ v0 = 7 → kd_ σ v1 = 11 → kd_ σ v2 = 11 → f_X7_spread_2 fu n σ v0 v1 v2 v3 = some q → ∀ (H : Heap) (locs : List Loc) (ls : Array Slot), Ht_ G cy (va_A (wl_ cy ad σ0) sz) s ad σ H locs → lv_has ls 7 [(0, .ref (ad v0)), (1, .ref (ad v1)), (2, .ref (ad v2)), (3, .int v3)] → W p l e R s m args below meth c H locs 0 0 (MQ below (Qv_ G cy ad σ0 q sz) args s 0 0 (va_A (wl_ cy ad σ0) sz)) (F0 m 2 ls []) := by
  intro n
  induction n with
  | zero =>
    intro σ v0 v1 v2 v3 hE hk_v0 hk_v1 hk_v2 hf H locs ls h hl
    cases hf
  | succ n ih =>
    intro σ v0 v1 v2 v3 hE hk_v0 hk_v1 hk_v2 hf H locs ls h hl
    have hf : (if (si_ σ v0 5) ≤ v3 then some σ else if (36 : Int32) ≤ v3 then some σ else (dr_ σ 10 (sr_ σ v0 3)).bind fun b3 => (ix_ v3 (ln_ σ b3)).bind fun j4 => f_X7_spread_27 fu (f_X7_spread_2 fu n) fu σ v0 v1 v2 v3 (si_ σ b3 j4) (0 : Int32)) = some q := hf
    refine lv_iload_n C.1 C.2.1 dX7_spread_2 rfl (lv_at hl 3 rfl) ?_
    refine lv_aload_n C.1 C.2.1 dX7_spread_3 rfl (lv_at hl 0 rfl) ?_
    refine x_get (v := .int (si_ σ v0 5)) C K h cl_7 hk_v0 5 (by decide) fl_RX7_27 rfl dX7_spread_4 ?_
    refine lv_icmp_ge (tgt := 87) C.1 C.2.1 dX7_spread_7 (by decide) (fun c1 => ?_) (fun c1 => ?_)
    · have hf := if_t hf c1
      exact x_rv C hr hlk h hE (Option.some.inj hf) dX7_spread_87
    · have hf := if_f hf c1
      refine lv_iload_n C.1 C.2.1 dX7_spread_10 rfl (lv_at hl 3 rfl) ?_
      refine lv_bipush (v := (36 : Int32)) C.1 C.2.1 dX7_spread_11 (by decide) ?_
      refine lv_icmp_ge (tgt := 87) C.1 C.2.1 dX7_spread_13 (by decide) (fun c2 => ?_) (fun c2 => ?_)
      · have hf := if_t hf c2
        exact x_rv C hr hlk h hE (Option.some.inj hf) dX7_spread_87
      · have hf := if_f hf c2
        refine lv_aload_n C.1 C.2.1 dX7_spread_16 rfl (lv_at hl 0 rfl) ?_
        obtain ⟨b3, hb_b3, hf⟩ := ob_ hf
        obtain ⟨hq_b3, hk_b3⟩ := dr_in hb_b3
        refine x_get (v := .ref (ad b3)) C K h cl_7 hk_v0 3 (by decide) fl_RX7_21 (hv_r (o := sr_ σ v0 3) rfl hq_b3) dX7_spread_17 ?_
        refine lv_iload_n C.1 C.2.1 dX7_spread_20 rfl (lv_at hl 3 rfl) ?_
        obtain ⟨j4, hj_j4, hf⟩ := ob_ hf
        refine x_iald C K h hk_b3 hj_j4 dX7_spread_21 ?_
        refine lv_istore (i := 4) (lv' := [(4, .int (si_ σ b3 j4)), (0, .ref (ad v0)), (1, .ref (ad v1)), (2, .ref (ad v2)), (3, .int v3)]) C.1 C.2.1 dX7_spread_22 hl (by decide) rfl (fun ls hl => ?_)
        refine lv_iconst (v := (0 : Int32)) C.1 C.2.1 dX7_spread_24 (by decide) ?_
        refine lv_istore (i := 5) (lv' := [(5, .int (0 : Int32)), (4, .int (si_ σ b3 j4)), (0, .ref (ad v0)), (1, .ref (ad v1)), (2, .ref (ad v2)), (3, .int v3)]) C.1 C.2.1 dX7_spread_25 hl (by decide) rfl (fun ls hl => ?_)
        exact w_X7_spread_27 fu C K hr hlk hR (f_X7_spread_2 fu n) ih fu σ v0 v1 v2 v3 (si_ σ b3 j4) (0 : Int32) hE hk_v0 hk_v1 hk_v2 hf _ _ _ h (lv_sub hl [2, 3, 4, 5, 1, 0] rfl)
def f_X7_spread (fu : Nat) (σ : St_) (a0 : Nat) (x1 : Nat) (x2 : Nat) : Option St_ := f_X7_spread_2 fu fu σ a0 x1 x2 (0 : Int32)
set_option maxHeartbeats 4000000 in
set_option maxRecDepth 100000 in
theorem w_X7_spread {p : Program} {l : Launch} {e : Env} {R : Room} {s : State} {m : MethodId} {args : Array Value} {below : List Frame} {meth : Method} {c : Code} {κ : Ka_} {G : va_G} {cy : Nat → ClassId} {ad : Nat → Nat} {sz : Nat} {σ0 : St_} (fu : Nat) (C : CallFix p m c cX7_spread 7 s args wU_ RX7) (K : Kx_ κ G cy (va_A (wl_ cy ad σ0) sz) s) (hr : meth.sig.returnType = none) (hlk : meth.locks = false) (hR : 2 ≤ R.frames ∧ 44 ≤ R.locals) {q : St_} : ∀ (σ : St_) (a0 : Nat) (x1 : Nat) (x2 : Nat), Ex_ σ0 σ → kd_ σ a0 = 7 → kd_ σ x1 = 11 → kd_ σ x2 = 11 → f_X7_spread fu σ a0 x1 x2 = some q → ∀ (H : Heap) (locs : List Loc) (ls : Array Slot), Ht_ G cy (va_A (wl_ cy ad σ0) sz) s ad σ H locs → lv_has ls 7 [(0, .ref (ad a0)), (1, .ref (ad x1)), (2, .ref (ad x2))] → W p l e R s m args below meth c H locs 0 0 (MQ below (Qv_ G cy ad σ0 q sz) args s 0 0 (va_A (wl_ cy ad σ0) sz)) (F0 m 0 ls []) := by
  intro σ a0 x1 x2 hE hk_a0 hk_x1 hk_x2 hf H locs ls h hl
  have hf : (f_X7_spread_2 fu fu σ a0 x1 x2 (0 : Int32)) = some q := hf
  refine lv_iconst (v := (0 : Int32)) C.1 C.2.1 dX7_spread_0 (by decide) ?_
  refine lv_istore_n (i := 3) (lv' := [(3, .int (0 : Int32)), (0, .ref (ad a0)), (1, .ref (ad x1)), (2, .ref (ad x2))]) C.1 C.2.1 dX7_spread_1 rfl hl (by decide) rfl (fun ls hl => ?_)
  exact w_X7_spread_2 fu C K hr hlk hR fu σ a0 x1 x2 (0 : Int32) hE hk_a0 hk_x1 hk_x2 hf _ _ _ h (lv_sub hl [1, 2, 3, 0] rfl)
theorem c_X7_spread (fu : Nat) (l : Launch) (κ : Ka_) (G : va_G) (cy : Nat → ClassId) (ad : Nat → Nat) (sz : Nat) (σ : St_) (a0 : Nat) (x1 : Nat) (x2 : Nat) (hk_a0 : kd_ σ a0 = 7) (hk_x1 : kd_ σ x1 = 11) (hk_x2 : kd_ σ x2 = 11) {q : St_} (hf : f_X7_spread fu σ a0 x1 x2 = some q) : Met l yX7_spread (Cond.code yX7_spread cX7_spread 7 none :: wU_) { frames := 2, cells := 0, slots := 0, locals := 44 } (va_Pc [.ref (ad a0), .ref (ad x1), .ref (ad x2)] (Pr_ κ G cy ad σ sz)) (Qv_ G cy ad σ q sz) 0 0 (va_A (wl_ cy ad σ) sz) :=
  x_met (by decide) (fun p e R s m below meth c ls hR C hr hlk hin _ K h hl => w_X7_spread fu C K hr hlk ⟨hR.1, hR.2.1⟩ σ a0 x1 x2 Ex_.rf hk_a0 hk_x1 hk_x2 hf s.heap [] ls h hl) (Nat.le_of_ble_eq_true rfl)
-- X2_discover
theorem mi_X2_discover : Mi_ yX2_discover cX2_discover 4 none 3 := ⟨co_yX2_discover, in_RX2, by decide, by decide, by decide +kernel⟩
def f_X2_discover (σ : St_) (a0 : Nat) (x1 : Int32) (x2 : Int32) (x3 : Int32) : Option St_ := if (f_X8_isBelow x1 (36 : Int32)) = 0 then some σ else (dr_ σ 11 (sr_ σ a0 1)).bind fun b7 => (ix_ x1 (ln_ σ b7)).bind fun j8 => if (lg_cmp ((((sl_ σ b7 j8).toUInt64 >>> (x2.toInt64.toUInt64 &&& Int64.toUInt64 63)).toInt64) &&& (1 : Int64)) (1 : Int64)) = 0 then some σ else (dr_ σ 10 (sr_ σ a0 0)).bind fun b10 => if (f_X8_isBelow (si_ σ a0 2) (nI (ln_ σ b10))) = 0 then some σ else (ix_ x1 (ln_ σ b7)).bind fun j14 => (ix_ x1 (ln_ σ b7)).bind fun j15 => (ix_ (si_ (ul_ σ b7 j15 ((sl_ σ b7 j14) ||| ((1 : Int64) <<< (x2.toInt64 &&& 63)))) a0 2) (ln_ (ul_ σ b7 j15 ((sl_ σ b7 j14) ||| ((1 : Int64) <<< (x2.toInt64 &&& 63)))) b10)).bind fun j16 => if x1 = x2 then some (ui_ (ui_ (ui_ (ui_ (ul_ σ b7 j15 ((sl_ σ b7 j14) ||| ((1 : Int64) <<< (x2.toInt64 &&& 63)))) b10 j16 ((x1 * (36 : Int32)) + x2)) a0 2 ((si_ (ui_ (ul_ σ b7 j15 ((sl_ σ b7 j14) ||| ((1 : Int64) <<< (x2.toInt64 &&& 63)))) b10 j16 ((x1 * (36 : Int32)) + x2)) a0 2) + (1 : Int32))) a0 3 x3) a0 4 x1) else some (ui_ (ui_ (ul_ σ b7 j15 ((sl_ σ b7 j14) ||| ((1 : Int64) <<< (x2.toInt64 &&& 63)))) b10 j16 ((x1 * (36 : Int32)) + x2)) a0 2 ((si_ (ui_ (ul_ σ b7 j15 ((sl_ σ b7 j14) ||| ((1 : Int64) <<< (x2.toInt64 &&& 63)))) b10 j16 ((x1 * (36 : Int32)) + x2)) a0 2) + (1 : Int32)))
set_option maxHeartbeats 4000000 in
set_option maxRecDepth 100000 in
theorem w_X2_discover {p : Program} {l : Launch} {e : Env} {R : Room} {s : State} {m : MethodId} {args : Array Value} {below : List Frame} {meth : Method} {c : Code} {κ : Ka_} {G : va_G} {cy : Nat → ClassId} {ad : Nat → Nat} {sz : Nat} {σ0 : St_} (C : CallFix p m c cX2_discover 4 s args wU_ RX2) (K : Kx_ κ G cy (va_A (wl_ cy ad σ0) sz) s) (hr : meth.sig.returnType = none) (hlk : meth.locks = false) (hR : 1 ≤ R.frames ∧ 21 ≤ R.locals) {q : St_} : ∀ (σ : St_) (a0 : Nat) (x1 : Int32) (x2 : Int32) (x3 : Int32), Ex_ σ0 σ → kd_ σ a0 = 2 → f_X2_discover σ a0 x1 x2 x3 = some q → ∀ (H : Heap) (locs : List Loc) (ls : Array Slot), Ht_ G cy (va_A (wl_ cy ad σ0) sz) s ad σ H locs → lv_has ls 4 [(0, .ref (ad a0)), (1, .int x1), (2, .int x2), (3, .int x3)] → W p l e R s m args below meth c H locs 0 0 (MQ below (Qv_ G cy ad σ0 q sz) args s 0 0 (va_A (wl_ cy ad σ0) sz)) (F0 m 0 ls []) := by
  intro σ a0 x1 x2 x3 hE hk_a0 hf H locs ls h hl
  have hf : (if (f_X8_isBelow x1 (36 : Int32)) = 0 then some σ else (dr_ σ 11 (sr_ σ a0 1)).bind fun b7 => (ix_ x1 (ln_ σ b7)).bind fun j8 => if (lg_cmp ((((sl_ σ b7 j8).toUInt64 >>> (x2.toInt64.toUInt64 &&& Int64.toUInt64 63)).toInt64) &&& (1 : Int64)) (1 : Int64)) = 0 then some σ else (dr_ σ 10 (sr_ σ a0 0)).bind fun b10 => if (f_X8_isBelow (si_ σ a0 2) (nI (ln_ σ b10))) = 0 then some σ else (ix_ x1 (ln_ σ b7)).bind fun j14 => (ix_ x1 (ln_ σ b7)).bind fun j15 => (ix_ (si_ (ul_ σ b7 j15 ((sl_ σ b7 j14) ||| ((1 : Int64) <<< (x2.toInt64 &&& 63)))) a0 2) (ln_ (ul_ σ b7 j15 ((sl_ σ b7 j14) ||| ((1 : Int64) <<< (x2.toInt64 &&& 63)))) b10)).bind fun j16 => if x1 = x2 then some (ui_ (ui_ (ui_ (ui_ (ul_ σ b7 j15 ((sl_ σ b7 j14) ||| ((1 : Int64) <<< (x2.toInt64 &&& 63)))) b10 j16 ((x1 * (36 : Int32)) + x2)) a0 2 ((si_ (ui_ (ul_ σ b7 j15 ((sl_ σ b7 j14) ||| ((1 : Int64) <<< (x2.toInt64 &&& 63)))) b10 j16 ((x1 * (36 : Int32)) + x2)) a0 2) + (1 : Int32))) a0 3 x3) a0 4 x1) else some (ui_ (ui_ (ul_ σ b7 j15 ((sl_ σ b7 j14) ||| ((1 : Int64) <<< (x2.toInt64 &&& 63)))) b10 j16 ((x1 * (36 : Int32)) + x2)) a0 2 ((si_ (ui_ (ul_ σ b7 j15 ((sl_ σ b7 j14) ||| ((1 : Int64) <<< (x2.toInt64 &&& 63)))) b10 j16 ((x1 * (36 : Int32)) + x2)) a0 2) + (1 : Int32)))) = some q := hf
  refine lv_iload_n C.1 C.2.1 dX2_discover_0 rfl (lv_at hl 1 rfl) ?_
  refine lv_bipush (v := (36 : Int32)) C.1 C.2.1 dX2_discover_1 (by decide) ?_
  refine x_az K h (x_SN C K h [.int x1, .int (36 : Int32)] (c_X8_isBelow l κ G cy ad H.size σ x1 (36 : Int32) rfl) mi_X8_isBelow rfl st_yX8_isBelow nm_RX2_53 ⟨rfl, rfl, Nat.le_trans (Nat.le_of_ble_eq_true rfl) hR.1, Nat.le_trans (Nat.le_of_ble_eq_true rfl) hR.2⟩ hl (Nat.le_of_ble_eq_true rfl) dX2_discover_3 ⟨Nat.zero_le _, Nat.zero_le _⟩ rfl) (fun H locs h hX hz5 => ?_)
  refine lv_if_eq (tgt := 39) C.1 C.2.1 dX2_discover_6 (by decide) (fun c6 => ?_) (fun c6 => ?_)
  · have hf := if_t hf c6
    exact x_rv C hr hlk h hE (Option.some.inj hf) dX2_discover_39
  · have hf := if_f hf c6
    refine lv_aload_n C.1 C.2.1 dX2_discover_9 rfl (lv_at hl 0 rfl) ?_
    obtain ⟨b7, hb_b7, hf⟩ := ob_ hf
    obtain ⟨hq_b7, hk_b7⟩ := dr_in hb_b7
    refine x_get (v := .ref (ad b7)) C K h cl_2 hk_a0 1 (by decide) fl_RX2_15 (hv_r (o := sr_ σ a0 1) rfl hq_b7) dX2_discover_10 ?_
    refine lv_iload_n C.1 C.2.1 dX2_discover_13 rfl (lv_at hl 1 rfl) ?_
    obtain ⟨j8, hj_j8, hf⟩ := ob_ hf
    refine x_lald C K h hk_b7 hj_j8 dX2_discover_14 ?_
    refine lv_iload_n C.1 C.2.1 dX2_discover_15 rfl (lv_at hl 2 rfl) ?_
    refine lv_lushr C.1 C.2.1 dX2_discover_16 rfl ?_
    refine lv_lconst (v := (1 : Int64)) C.1 C.2.1 dX2_discover_17 (by decide) ?_
    refine lv_land C.1 C.2.1 dX2_discover_18 ?_
    refine lv_lconst (v := (1 : Int64)) C.1 C.2.1 dX2_discover_19 (by decide) ?_
    refine W.lcmp C.1 C.2.1 dX2_discover_20 ?_
    refine lv_if_eq (tgt := 39) C.1 C.2.1 dX2_discover_21 (by decide) (fun c9 => ?_) (fun c9 => ?_)
    · have hf := if_t hf c9
      exact x_rv C hr hlk h hE (Option.some.inj hf) dX2_discover_39
    · have hf := if_f hf c9
      refine lv_aload_n C.1 C.2.1 dX2_discover_24 rfl (lv_at hl 0 rfl) ?_
      refine x_get (v := .int (si_ σ a0 2)) C K h cl_2 hk_a0 2 (by decide) fl_RX2_19 rfl dX2_discover_25 ?_
      refine lv_aload_n C.1 C.2.1 dX2_discover_28 rfl (lv_at hl 0 rfl) ?_
      obtain ⟨b10, hb_b10, hf⟩ := ob_ hf
      obtain ⟨hq_b10, hk_b10⟩ := dr_in hb_b10
      refine x_get (v := .ref (ad b10)) C K h cl_2 hk_a0 0 (by decide) fl_RX2_9 (hv_r (o := sr_ σ a0 0) rfl hq_b10) dX2_discover_29 ?_
      refine x_ilen C K h hk_b10 dX2_discover_32 ?_
      refine x_az K h (x_SN C K h [.int (si_ σ a0 2), .int (nI (ln_ σ b10))] (c_X8_isBelow l κ G cy ad H.size σ (si_ σ a0 2) (nI (ln_ σ b10)) rfl) mi_X8_isBelow rfl st_yX8_isBelow nm_RX2_53 ⟨rfl, rfl, Nat.le_trans (Nat.le_of_ble_eq_true rfl) hR.1, Nat.le_trans (Nat.le_of_ble_eq_true rfl) hR.2⟩ hl (Nat.le_of_ble_eq_true rfl) dX2_discover_33 ⟨Nat.zero_le _, Nat.zero_le _⟩ rfl) (fun H locs h hX hz12 => ?_)
      refine lv_if_ne (tgt := 40) C.1 C.2.1 dX2_discover_36 (by decide) (fun c13 => ?_) (fun c13 => ?_)
      · have hf := if_f hf c13
        refine lv_aload_n C.1 C.2.1 dX2_discover_40 rfl (lv_at hl 0 rfl) ?_
        refine x_get (v := .ref (ad b7)) C K h cl_2 hk_a0 1 (by decide) fl_RX2_15 (hv_r (o := sr_ σ a0 1) rfl hq_b7) dX2_discover_41 ?_
        refine lv_iload_n C.1 C.2.1 dX2_discover_44 rfl (lv_at hl 1 rfl) ?_
        refine lv_dup2_11 C.1 C.2.1 dX2_discover_45 rfl rfl ?_
        obtain ⟨j14, hj_j14, hf⟩ := ob_ hf
        refine x_lald C K h hk_b7 hj_j14 dX2_discover_46 ?_
        refine lv_lconst (v := (1 : Int64)) C.1 C.2.1 dX2_discover_47 (by decide) ?_
        refine lv_iload_n C.1 C.2.1 dX2_discover_48 rfl (lv_at hl 2 rfl) ?_
        refine lv_lshl C.1 C.2.1 dX2_discover_49 rfl ?_
        refine lv_lor C.1 C.2.1 dX2_discover_50 ?_
        obtain ⟨j15, hj_j15, hf⟩ := ob_ hf
        refine x_last C K h hk_b7 hj_j15 dX2_discover_51 (fun H locs h => ?_)
        have hE := hE.up (up_l σ b7 j15 ((sl_ σ b7 j14) ||| ((1 : Int64) <<< (x2.toInt64 &&& 63))))
        refine lv_aload_n C.1 C.2.1 dX2_discover_52 rfl (lv_at hl 0 rfl) ?_
        refine x_get (v := .ref (ad b10)) C K h cl_2 hk_a0 0 (by decide) fl_RX2_9 (hv_r (o := sr_ (ul_ σ b7 j15 ((sl_ σ b7 j14) ||| ((1 : Int64) <<< (x2.toInt64 &&& 63)))) a0 0) rfl hq_b10) dX2_discover_53 ?_
        refine lv_aload_n C.1 C.2.1 dX2_discover_56 rfl (lv_at hl 0 rfl) ?_
        refine x_get (v := .int (si_ (ul_ σ b7 j15 ((sl_ σ b7 j14) ||| ((1 : Int64) <<< (x2.toInt64 &&& 63)))) a0 2)) C K h cl_2 hk_a0 2 (by decide) fl_RX2_19 rfl dX2_discover_57 ?_
        refine lv_iload_n C.1 C.2.1 dX2_discover_60 rfl (lv_at hl 1 rfl) ?_
        refine lv_bipush (v := (36 : Int32)) C.1 C.2.1 dX2_discover_61 (by decide) ?_
        refine lv_imul C.1 C.2.1 dX2_discover_63 ?_
        refine lv_iload_n C.1 C.2.1 dX2_discover_64 rfl (lv_at hl 2 rfl) ?_
        refine lv_iadd C.1 C.2.1 dX2_discover_65 ?_
        obtain ⟨j16, hj_j16, hf⟩ := ob_ hf
        refine x_iast C K h hk_b10 hj_j16 dX2_discover_66 (fun H locs h => ?_)
        have hE := hE.up (up_i (ul_ σ b7 j15 ((sl_ σ b7 j14) ||| ((1 : Int64) <<< (x2.toInt64 &&& 63)))) b10 j16 ((x1 * (36 : Int32)) + x2))
        refine lv_aload_n C.1 C.2.1 dX2_discover_67 rfl (lv_at hl 0 rfl) ?_
        refine lv_dup C.1 C.2.1 dX2_discover_68 rfl ?_
        refine x_get (v := .int (si_ (ui_ (ul_ σ b7 j15 ((sl_ σ b7 j14) ||| ((1 : Int64) <<< (x2.toInt64 &&& 63)))) b10 j16 ((x1 * (36 : Int32)) + x2)) a0 2)) C K h cl_2 hk_a0 2 (by decide) fl_RX2_19 rfl dX2_discover_69 ?_
        refine lv_iconst (v := (1 : Int32)) C.1 C.2.1 dX2_discover_72 (by decide) ?_
        refine lv_iadd C.1 C.2.1 dX2_discover_73 ?_
        refine x_putI C K h cl_2 hk_a0 2 (by decide) fl_RX2_19 rfl rfl rfl (Nat.le_of_ble_eq_true rfl) (fun _ _ _ => rfl) dX2_discover_74 (fun H locs h => ?_)
        have hE := hE.up (up_i (ui_ (ul_ σ b7 j15 ((sl_ σ b7 j14) ||| ((1 : Int64) <<< (x2.toInt64 &&& 63)))) b10 j16 ((x1 * (36 : Int32)) + x2)) a0 2 ((si_ (ui_ (ul_ σ b7 j15 ((sl_ σ b7 j14) ||| ((1 : Int64) <<< (x2.toInt64 &&& 63)))) b10 j16 ((x1 * (36 : Int32)) + x2)) a0 2) + (1 : Int32)))
        refine lv_iload_n C.1 C.2.1 dX2_discover_77 rfl (lv_at hl 1 rfl) ?_
        refine lv_iload_n C.1 C.2.1 dX2_discover_78 rfl (lv_at hl 2 rfl) ?_
        refine lv_icmp_ne (tgt := 92) C.1 C.2.1 dX2_discover_79 (by decide) (fun c17 => ?_) (fun c17 => ?_)
        · have hf := if_f hf c17
          exact x_rv C hr hlk h hE (Option.some.inj hf) dX2_discover_92
        · have hf := if_t hf c17
          refine lv_aload_n C.1 C.2.1 dX2_discover_82 rfl (lv_at hl 0 rfl) ?_
          refine lv_iload_n C.1 C.2.1 dX2_discover_83 rfl (lv_at hl 3 rfl) ?_
          refine x_putI C K h cl_2 hk_a0 3 (by decide) fl_RX2_23 rfl rfl rfl (Nat.le_of_ble_eq_true rfl) (fun _ _ _ => rfl) dX2_discover_84 (fun H locs h => ?_)
          have hE := hE.up (up_i (ui_ (ui_ (ul_ σ b7 j15 ((sl_ σ b7 j14) ||| ((1 : Int64) <<< (x2.toInt64 &&& 63)))) b10 j16 ((x1 * (36 : Int32)) + x2)) a0 2 ((si_ (ui_ (ul_ σ b7 j15 ((sl_ σ b7 j14) ||| ((1 : Int64) <<< (x2.toInt64 &&& 63)))) b10 j16 ((x1 * (36 : Int32)) + x2)) a0 2) + (1 : Int32))) a0 3 x3)
          refine lv_aload_n C.1 C.2.1 dX2_discover_87 rfl (lv_at hl 0 rfl) ?_
          refine lv_iload_n C.1 C.2.1 dX2_discover_88 rfl (lv_at hl 1 rfl) ?_
          refine x_putI C K h cl_2 hk_a0 4 (by decide) fl_RX2_26 rfl rfl rfl (Nat.le_of_ble_eq_true rfl) (fun _ _ _ => rfl) dX2_discover_89 (fun H locs h => ?_)
          have hE := hE.up (up_i (ui_ (ui_ (ui_ (ul_ σ b7 j15 ((sl_ σ b7 j14) ||| ((1 : Int64) <<< (x2.toInt64 &&& 63)))) b10 j16 ((x1 * (36 : Int32)) + x2)) a0 2 ((si_ (ui_ (ul_ σ b7 j15 ((sl_ σ b7 j14) ||| ((1 : Int64) <<< (x2.toInt64 &&& 63)))) b10 j16 ((x1 * (36 : Int32)) + x2)) a0 2) + (1 : Int32))) a0 3 x3) a0 4 x1)
          exact x_rv C hr hlk h hE (Option.some.inj hf) dX2_discover_92
      · have hf := if_t hf c13
        exact x_rv C hr hlk h hE (Option.some.inj hf) dX2_discover_39
theorem c_X2_discover (l : Launch) (κ : Ka_) (G : va_G) (cy : Nat → ClassId) (ad : Nat → Nat) (sz : Nat) (σ : St_) (a0 : Nat) (x1 : Int32) (x2 : Int32) (x3 : Int32) (hk_a0 : kd_ σ a0 = 2) {q : St_} (hf : f_X2_discover σ a0 x1 x2 x3 = some q) : Met l yX2_discover (Cond.code yX2_discover cX2_discover 4 none :: wU_) { frames := 1, cells := 0, slots := 0, locals := 21 } (va_Pc [.ref (ad a0), .int x1, .int x2, .int x3] (Pr_ κ G cy ad σ sz)) (Qv_ G cy ad σ q sz) 0 0 (va_A (wl_ cy ad σ) sz) :=
  x_met (by decide) (fun p e R s m below meth c ls hR C hr hlk hin _ K h hl => w_X2_discover C K hr hlk ⟨hR.1, hR.2.1⟩ σ a0 x1 x2 x3 Ex_.rf hk_a0 hf s.heap [] ls h hl) (Nat.le_of_ble_eq_true rfl)
-- X2_leave
theorem mi_X2_leave : Mi_ yX2_leave cX2_leave 6 none 4 := ⟨co_yX2_leave, in_RX2, by decide, by decide, by decide +kernel⟩
def f_X2_leave_3 (fu : Nat) : Nat → St_ → Nat → Nat → Nat → Int32 → Int32 → Int32 → Option St_
  | 0 => fun _ _ _ _ _ _ _ => none
  | n + 1 => fun σ  v0  v1  v2  v3  v4  v5 => if (8 : Int32) ≤ v5 then some σ else if (si_ σ v0 4) = (-1 : Int32) then (f_X7_goalOf σ v1 (v3 / (36 : Int32)) v5).bind fun q3 => (f_X7_goalOf σ v2 (v3 - v3 / (36 : Int32) * (36 : Int32)) v5).bind fun q4 => (f_X2_discover σ v0 q3 q4 v4).bind fun q5 => (f_X2_leave_3 fu n) q5 v0 v1 v2 v3 v4 (v5 + (1 : Int32)) else some σ
set_option maxHeartbeats 4000000 in
set_option maxRecDepth 100000 in
theorem w_X2_leave_3 {p : Program} {l : Launch} {e : Env} {R : Room} {s : State} {m : MethodId} {args : Array Value} {below : List Frame} {meth : Method} {c : Code} {κ : Ka_} {G : va_G} {cy : Nat → ClassId} {ad : Nat → Nat} {sz : Nat} {σ0 : St_} (fu : Nat) (C : CallFix p m c cX2_leave 6 s args wU_ RX2) (K : Kx_ κ G cy (va_A (wl_ cy ad σ0) sz) s) (hr : meth.sig.returnType = none) (hlk : meth.locks = false) (hR : 2 ≤ R.frames ∧ 44 ≤ R.locals) {q : St_} : ∀ n : Nat, ∀ (σ : St_) (v0 : Nat) (v1 : Nat) (v2 : Nat) (v3 : Int32) (v4 : Int32) (v5 : Int32), Ex_ σ0 σ → kd_ σ v0 = 2 → kd_ σ v1 = 7 → kd_ σ v2 = 7 → f_X2_leave_3 fu n σ v0 v1 v2 v3 v4 v5 = some q → ∀ (H : Heap) (locs : List Loc) (ls : Array Slot), Ht_ G cy (va_A (wl_ cy ad σ0) sz) s ad σ H locs → lv_has ls 6 [(0, .ref (ad v0)), (1, .ref (ad v1)), (2, .ref (ad v2)), (3, .int v3), (4, .int v4), (5, .int v5)] → W p l e R s m args below meth c H locs 0 0 (MQ below (Qv_ G cy ad σ0 q sz) args s 0 0 (va_A (wl_ cy ad σ0) sz)) (F0 m 3 ls []) := by
  intro n
  induction n with
  | zero =>
    intro σ v0 v1 v2 v3 v4 v5 hE hk_v0 hk_v1 hk_v2 hf H locs ls h hl
    cases hf
  | succ n ih =>
    intro σ v0 v1 v2 v3 v4 v5 hE hk_v0 hk_v1 hk_v2 hf H locs ls h hl
    have hf : (if (8 : Int32) ≤ v5 then some σ else if (si_ σ v0 4) = (-1 : Int32) then (f_X7_goalOf σ v1 (v3 / (36 : Int32)) v5).bind fun q3 => (f_X7_goalOf σ v2 (v3 - v3 / (36 : Int32) * (36 : Int32)) v5).bind fun q4 => (f_X2_discover σ v0 q3 q4 v4).bind fun q5 => (f_X2_leave_3 fu n) q5 v0 v1 v2 v3 v4 (v5 + (1 : Int32)) else some σ) = some q := hf
    refine lv_iload C.1 C.2.1 dX2_leave_3 (lv_at hl 5 rfl) ?_
    refine lv_bipush (v := (8 : Int32)) C.1 C.2.1 dX2_leave_5 (by decide) ?_
    refine lv_icmp_ge (tgt := 50) C.1 C.2.1 dX2_leave_7 (by decide) (fun c1 => ?_) (fun c1 => ?_)
    · have hf := if_t hf c1
      exact x_rv C hr hlk h hE (Option.some.inj hf) dX2_leave_50
    · have hf := if_f hf c1
      refine lv_aload_n C.1 C.2.1 dX2_leave_10 rfl (lv_at hl 0 rfl) ?_
      refine x_get (v := .int (si_ σ v0 4)) C K h cl_2 hk_v0 4 (by decide) fl_RX2_26 rfl dX2_leave_11 ?_
      refine lv_iconst (v := (-1 : Int32)) C.1 C.2.1 dX2_leave_14 (by decide) ?_
      refine lv_icmp_ne (tgt := 50) C.1 C.2.1 dX2_leave_15 (by decide) (fun c2 => ?_) (fun c2 => ?_)
      · have hf := if_f hf c2
        exact x_rv C hr hlk h hE (Option.some.inj hf) dX2_leave_50
      · have hf := if_t hf c2
        refine lv_aload_n C.1 C.2.1 dX2_leave_18 rfl (lv_at hl 0 rfl) ?_
        refine lv_aload_n C.1 C.2.1 dX2_leave_19 rfl (lv_at hl 1 rfl) ?_
        refine lv_iload_n C.1 C.2.1 dX2_leave_20 rfl (lv_at hl 3 rfl) ?_
        refine lv_bipush (v := (36 : Int32)) C.1 C.2.1 dX2_leave_21 (by decide) ?_
        refine lv_idiv C.1 C.2.1 dX2_leave_23 (by decide) ?_
        refine lv_iload C.1 C.2.1 dX2_leave_24 (lv_at hl 5 rfl) ?_
        obtain ⟨q3, hq_q3, hf⟩ := ob_ hf
        refine x_ai K h (x_VN C K h [.int (v3 / (36 : Int32)), .int v5] (c_X7_goalOf l κ G cy ad H.size σ v1 (v3 / (36 : Int32)) v5 hk_v1 hq_q3) mi_X7_goalOf rfl im_yX7_goalOf se_yX7_goalOf nm_RX2_49 cl_7 hk_v1 ⟨rfl, rfl, Nat.le_trans (Nat.le_of_ble_eq_true rfl) hR.1, Nat.le_trans (Nat.le_of_ble_eq_true rfl) hR.2⟩ hl (Nat.le_of_ble_eq_true rfl) dX2_leave_26 ⟨Nat.zero_le _, Nat.zero_le _⟩ rfl) (fun H locs h hX => ?_)
        refine lv_aload_n C.1 C.2.1 dX2_leave_29 rfl (lv_at hl 2 rfl) ?_
        refine lv_iload_n C.1 C.2.1 dX2_leave_30 rfl (lv_at hl 3 rfl) ?_
        refine lv_bipush (v := (36 : Int32)) C.1 C.2.1 dX2_leave_31 (by decide) ?_
        refine lv_irem C.1 C.2.1 dX2_leave_33 (by decide) ?_
        refine lv_iload C.1 C.2.1 dX2_leave_34 (lv_at hl 5 rfl) ?_
        obtain ⟨q4, hq_q4, hf⟩ := ob_ hf
        refine x_ai K h (x_VN C K h [.int (v3 - v3 / (36 : Int32) * (36 : Int32)), .int v5] (c_X7_goalOf l κ G cy ad H.size σ v2 (v3 - v3 / (36 : Int32) * (36 : Int32)) v5 hk_v2 hq_q4) mi_X7_goalOf rfl im_yX7_goalOf se_yX7_goalOf nm_RX2_49 cl_7 hk_v2 ⟨rfl, rfl, Nat.le_trans (Nat.le_of_ble_eq_true rfl) hR.1, Nat.le_trans (Nat.le_of_ble_eq_true rfl) hR.2⟩ hl (Nat.le_of_ble_eq_true rfl) dX2_leave_36 ⟨Nat.zero_le _, Nat.zero_le _⟩ rfl) (fun H locs h hX => ?_)
        refine lv_iload C.1 C.2.1 dX2_leave_39 (lv_at hl 4 rfl) ?_
        obtain ⟨q5, hq_q5, hf⟩ := ob_ hf
        refine x_av K h (x_V C K h [.int q3, .int q4, .int v4] (c_X2_discover l κ G cy ad H.size σ v0 q3 q4 v4 hk_v0 hq_q5) mi_X2_discover rfl im_yX2_discover se_yX2_discover ml_RX2_41 cl_2 hk_v0 ⟨rfl, rfl, Nat.le_trans (Nat.le_of_ble_eq_true rfl) hR.1, Nat.le_trans (Nat.le_of_ble_eq_true rfl) hR.2⟩ hl (Nat.le_of_ble_eq_true rfl) dX2_leave_41 ⟨Nat.zero_le _, Nat.zero_le _⟩ rfl) (fun H locs h hX => ?_)
        have hE := hE.trans hX
        have hk_v0 := hX.k hk_v0 (by decide)
        have hk_v1 := hX.k hk_v1 (by decide)
        have hk_v2 := hX.k hk_v2 (by decide)
        refine lv_iinc (v := v5 + (1 : Int32)) (lv' := [(5, .int (v5 + (1 : Int32))), (0, .ref (ad v0)), (1, .ref (ad v1)), (2, .ref (ad v2)), (3, .int v3), (4, .int v4)]) C.1 C.2.1 dX2_leave_44 hl (k := 5) rfl rfl (by decide) rfl (fun ls hl => ?_)
        refine lv_goto (tgt := 3) C.1 C.2.1 dX2_leave_47 (by decide) ?_
        exact ih q5 v0 v1 v2 v3 v4 (v5 + (1 : Int32)) hE hk_v0 hk_v1 hk_v2 hf _ _ _ h (lv_sub hl [1, 2, 3, 4, 5, 0] rfl)
def f_X2_leave (fu : Nat) (σ : St_) (a0 : Nat) (x1 : Nat) (x2 : Nat) (x3 : Int32) (x4 : Int32) : Option St_ := f_X2_leave_3 fu fu σ a0 x1 x2 x3 x4 (0 : Int32)
set_option maxHeartbeats 4000000 in
set_option maxRecDepth 100000 in
theorem w_X2_leave {p : Program} {l : Launch} {e : Env} {R : Room} {s : State} {m : MethodId} {args : Array Value} {below : List Frame} {meth : Method} {c : Code} {κ : Ka_} {G : va_G} {cy : Nat → ClassId} {ad : Nat → Nat} {sz : Nat} {σ0 : St_} (fu : Nat) (C : CallFix p m c cX2_leave 6 s args wU_ RX2) (K : Kx_ κ G cy (va_A (wl_ cy ad σ0) sz) s) (hr : meth.sig.returnType = none) (hlk : meth.locks = false) (hR : 2 ≤ R.frames ∧ 44 ≤ R.locals) {q : St_} : ∀ (σ : St_) (a0 : Nat) (x1 : Nat) (x2 : Nat) (x3 : Int32) (x4 : Int32), Ex_ σ0 σ → kd_ σ a0 = 2 → kd_ σ x1 = 7 → kd_ σ x2 = 7 → f_X2_leave fu σ a0 x1 x2 x3 x4 = some q → ∀ (H : Heap) (locs : List Loc) (ls : Array Slot), Ht_ G cy (va_A (wl_ cy ad σ0) sz) s ad σ H locs → lv_has ls 6 [(0, .ref (ad a0)), (1, .ref (ad x1)), (2, .ref (ad x2)), (3, .int x3), (4, .int x4)] → W p l e R s m args below meth c H locs 0 0 (MQ below (Qv_ G cy ad σ0 q sz) args s 0 0 (va_A (wl_ cy ad σ0) sz)) (F0 m 0 ls []) := by
  intro σ a0 x1 x2 x3 x4 hE hk_a0 hk_x1 hk_x2 hf H locs ls h hl
  have hf : (f_X2_leave_3 fu fu σ a0 x1 x2 x3 x4 (0 : Int32)) = some q := hf
  refine lv_iconst (v := (0 : Int32)) C.1 C.2.1 dX2_leave_0 (by decide) ?_
  refine lv_istore (i := 5) (lv' := [(5, .int (0 : Int32)), (0, .ref (ad a0)), (1, .ref (ad x1)), (2, .ref (ad x2)), (3, .int x3), (4, .int x4)]) C.1 C.2.1 dX2_leave_1 hl (by decide) rfl (fun ls hl => ?_)
  exact w_X2_leave_3 fu C K hr hlk hR fu σ a0 x1 x2 x3 x4 (0 : Int32) hE hk_a0 hk_x1 hk_x2 hf _ _ _ h (lv_sub hl [1, 2, 3, 4, 5, 0] rfl)
theorem c_X2_leave (fu : Nat) (l : Launch) (κ : Ka_) (G : va_G) (cy : Nat → ClassId) (ad : Nat → Nat) (sz : Nat) (σ : St_) (a0 : Nat) (x1 : Nat) (x2 : Nat) (x3 : Int32) (x4 : Int32) (hk_a0 : kd_ σ a0 = 2) (hk_x1 : kd_ σ x1 = 7) (hk_x2 : kd_ σ x2 = 7) {q : St_} (hf : f_X2_leave fu σ a0 x1 x2 x3 x4 = some q) : Met l yX2_leave (Cond.code yX2_leave cX2_leave 6 none :: wU_) { frames := 2, cells := 0, slots := 0, locals := 44 } (va_Pc [.ref (ad a0), .ref (ad x1), .ref (ad x2), .int x3, .int x4] (Pr_ κ G cy ad σ sz)) (Qv_ G cy ad σ q sz) 0 0 (va_A (wl_ cy ad σ) sz) :=
  x_met (by decide) (fun p e R s m below meth c ls hR C hr hlk hin _ K h hl => w_X2_leave fu C K hr hlk ⟨hR.1, hR.2.1⟩ σ a0 x1 x2 x3 x4 Ex_.rf hk_a0 hk_x1 hk_x2 hf s.heap [] ls h hl) (Nat.le_of_ble_eq_true rfl)
-- X2_seek
theorem mi_X2_seek : Mi_ yX2_seek cX2_seek 7 none 2 := ⟨co_yX2_seek, in_RX2, by decide, by decide, by decide +kernel⟩
def f_X2_seek_76 (fu : Nat) (k41 : St_ → Nat → Nat → Nat → Int32 → Int32 → Option St_) : Nat → St_ → Nat → Nat → Nat → Int32 → Int32 → Int32 → Option St_
  | 0 => fun _ _ _ _ _ _ _ => none
  | n + 1 => fun σ  v0  v1  v2  v4  v5  v6 => if v5 ≤ v6 then k41 σ v0 v1 v2 v5 (v4 + (1 : Int32)) else (dr_ σ 10 (sr_ σ v0 0)).bind fun b2 => if (nI (ln_ σ b2)) ≤ v6 then k41 σ v0 v1 v2 v5 (v4 + (1 : Int32)) else if (si_ σ v0 4) = (-1 : Int32) then (ix_ v6 (ln_ σ b2)).bind fun j5 => (f_X2_leave fu σ v0 v1 v2 (si_ σ b2 j5) v4).bind fun q6 => (f_X2_seek_76 fu k41 n) q6 v0 v1 v2 v4 v5 (v6 + (1 : Int32)) else k41 σ v0 v1 v2 v5 (v4 + (1 : Int32))
set_option maxHeartbeats 4000000 in
set_option maxRecDepth 100000 in
theorem w_X2_seek_76 {p : Program} {l : Launch} {e : Env} {R : Room} {s : State} {m : MethodId} {args : Array Value} {below : List Frame} {meth : Method} {c : Code} {κ : Ka_} {G : va_G} {cy : Nat → ClassId} {ad : Nat → Nat} {sz : Nat} {σ0 : St_} (fu : Nat) (C : CallFix p m c cX2_seek 7 s args wU_ RX2) (K : Kx_ κ G cy (va_A (wl_ cy ad σ0) sz) s) (hr : meth.sig.returnType = none) (hlk : meth.locks = false) (hR : 3 ≤ R.frames ∧ 69 ≤ R.locals) {q : St_} (k41 : St_ → Nat → Nat → Nat → Int32 → Int32 → Option St_) (hk41 : ∀ (σ : St_) (v0 : Nat) (v1 : Nat) (v2 : Nat) (v3 : Int32) (v4 : Int32), Ex_ σ0 σ → kd_ σ v0 = 2 → kd_ σ v1 = 7 → kd_ σ v2 = 7 → k41 σ v0 v1 v2 v3 v4 = some q → ∀ (H : Heap) (locs : List Loc) (ls : Array Slot), Ht_ G cy (va_A (wl_ cy ad σ0) sz) s ad σ H locs → lv_has ls 7 [(0, .ref (ad v0)), (1, .ref (ad v1)), (2, .ref (ad v2)), (3, .int v3), (4, .int v4)] → W p l e R s m args below meth c H locs 0 0 (MQ below (Qv_ G cy ad σ0 q sz) args s 0 0 (va_A (wl_ cy ad σ0) sz)) (F0 m 41 ls [])) : ∀ n : Nat, ∀ (σ : St_) (v0 : Nat) (v1 : Nat) (v2 : Nat) (v4 : Int32) (v5 : Int32) (v6 : Int32), Ex_ σ0 σ → kd_ σ v0 = 2 → kd_ σ v1 = 7 → kd_ σ v2 = 7 → f_X2_seek_76 fu k41 n σ v0 v1 v2 v4 v5 v6 = some q → ∀ (H : Heap) (locs : List Loc) (ls : Array Slot), Ht_ G cy (va_A (wl_ cy ad σ0) sz) s ad σ H locs → lv_has ls 7 [(0, .ref (ad v0)), (1, .ref (ad v1)), (2, .ref (ad v2)), (4, .int v4), (5, .int v5), (6, .int v6)] → W p l e R s m args below meth c H locs 0 0 (MQ below (Qv_ G cy ad σ0 q sz) args s 0 0 (va_A (wl_ cy ad σ0) sz)) (F0 m 76 ls []) := by
  intro n
  induction n with
  | zero =>
    intro σ v0 v1 v2 v4 v5 v6 hE hk_v0 hk_v1 hk_v2 hf H locs ls h hl
    cases hf
  | succ n ih =>
    intro σ v0 v1 v2 v4 v5 v6 hE hk_v0 hk_v1 hk_v2 hf H locs ls h hl
    have hf : (if v5 ≤ v6 then k41 σ v0 v1 v2 v5 (v4 + (1 : Int32)) else (dr_ σ 10 (sr_ σ v0 0)).bind fun b2 => if (nI (ln_ σ b2)) ≤ v6 then k41 σ v0 v1 v2 v5 (v4 + (1 : Int32)) else if (si_ σ v0 4) = (-1 : Int32) then (ix_ v6 (ln_ σ b2)).bind fun j5 => (f_X2_leave fu σ v0 v1 v2 (si_ σ b2 j5) v4).bind fun q6 => (f_X2_seek_76 fu k41 n) q6 v0 v1 v2 v4 v5 (v6 + (1 : Int32)) else k41 σ v0 v1 v2 v5 (v4 + (1 : Int32))) = some q := hf
    refine lv_iload C.1 C.2.1 dX2_seek_76 (lv_at hl 5 rfl) ?_
    refine lv_iload C.1 C.2.1 dX2_seek_78 (lv_at hl 4 rfl) ?_
    refine lv_icmp_ge (tgt := 122) C.1 C.2.1 dX2_seek_80 (by decide) (fun c1 => ?_) (fun c1 => ?_)
    · have hf := if_t hf c1
      refine lv_iload C.1 C.2.1 dX2_seek_122 (lv_at hl 4 rfl) ?_
      refine lv_istore_n (i := 3) (lv' := [(3, .int v5), (0, .ref (ad v0)), (1, .ref (ad v1)), (2, .ref (ad v2)), (4, .int v4), (5, .int v5), (6, .int v6)]) C.1 C.2.1 dX2_seek_124 rfl hl (by decide) rfl (fun ls hl => ?_)
      refine lv_iinc (v := v4 + (1 : Int32)) (lv' := [(4, .int (v4 + (1 : Int32))), (3, .int v5), (0, .ref (ad v0)), (1, .ref (ad v1)), (2, .ref (ad v2)), (5, .int v5), (6, .int v6)]) C.1 C.2.1 dX2_seek_125 hl (k := 4) rfl rfl (by decide) rfl (fun ls hl => ?_)
      refine lv_goto (tgt := 41) C.1 C.2.1 dX2_seek_128 (by decide) ?_
      exact hk41 σ v0 v1 v2 v5 (v4 + (1 : Int32)) hE hk_v0 hk_v1 hk_v2 hf _ _ _ h (lv_sub hl [2, 3, 4, 1, 0] rfl)
    · have hf := if_f hf c1
      refine lv_iload C.1 C.2.1 dX2_seek_83 (lv_at hl 5 rfl) ?_
      refine lv_aload_n C.1 C.2.1 dX2_seek_85 rfl (lv_at hl 0 rfl) ?_
      obtain ⟨b2, hb_b2, hf⟩ := ob_ hf
      obtain ⟨hq_b2, hk_b2⟩ := dr_in hb_b2
      refine x_get (v := .ref (ad b2)) C K h cl_2 hk_v0 0 (by decide) fl_RX2_9 (hv_r (o := sr_ σ v0 0) rfl hq_b2) dX2_seek_86 ?_
      refine x_ilen C K h hk_b2 dX2_seek_89 ?_
      refine lv_icmp_ge (tgt := 122) C.1 C.2.1 dX2_seek_90 (by decide) (fun c3 => ?_) (fun c3 => ?_)
      · have hf := if_t hf c3
        refine lv_iload C.1 C.2.1 dX2_seek_122 (lv_at hl 4 rfl) ?_
        refine lv_istore_n (i := 3) (lv' := [(3, .int v5), (0, .ref (ad v0)), (1, .ref (ad v1)), (2, .ref (ad v2)), (4, .int v4), (5, .int v5), (6, .int v6)]) C.1 C.2.1 dX2_seek_124 rfl hl (by decide) rfl (fun ls hl => ?_)
        refine lv_iinc (v := v4 + (1 : Int32)) (lv' := [(4, .int (v4 + (1 : Int32))), (3, .int v5), (0, .ref (ad v0)), (1, .ref (ad v1)), (2, .ref (ad v2)), (5, .int v5), (6, .int v6)]) C.1 C.2.1 dX2_seek_125 hl (k := 4) rfl rfl (by decide) rfl (fun ls hl => ?_)
        refine lv_goto (tgt := 41) C.1 C.2.1 dX2_seek_128 (by decide) ?_
        exact hk41 σ v0 v1 v2 v5 (v4 + (1 : Int32)) hE hk_v0 hk_v1 hk_v2 hf _ _ _ h (lv_sub hl [2, 3, 4, 1, 0] rfl)
      · have hf := if_f hf c3
        refine lv_aload_n C.1 C.2.1 dX2_seek_93 rfl (lv_at hl 0 rfl) ?_
        refine x_get (v := .int (si_ σ v0 4)) C K h cl_2 hk_v0 4 (by decide) fl_RX2_26 rfl dX2_seek_94 ?_
        refine lv_iconst (v := (-1 : Int32)) C.1 C.2.1 dX2_seek_97 (by decide) ?_
        refine lv_icmp_ne (tgt := 122) C.1 C.2.1 dX2_seek_98 (by decide) (fun c4 => ?_) (fun c4 => ?_)
        · have hf := if_f hf c4
          refine lv_iload C.1 C.2.1 dX2_seek_122 (lv_at hl 4 rfl) ?_
          refine lv_istore_n (i := 3) (lv' := [(3, .int v5), (0, .ref (ad v0)), (1, .ref (ad v1)), (2, .ref (ad v2)), (4, .int v4), (5, .int v5), (6, .int v6)]) C.1 C.2.1 dX2_seek_124 rfl hl (by decide) rfl (fun ls hl => ?_)
          refine lv_iinc (v := v4 + (1 : Int32)) (lv' := [(4, .int (v4 + (1 : Int32))), (3, .int v5), (0, .ref (ad v0)), (1, .ref (ad v1)), (2, .ref (ad v2)), (5, .int v5), (6, .int v6)]) C.1 C.2.1 dX2_seek_125 hl (k := 4) rfl rfl (by decide) rfl (fun ls hl => ?_)
          refine lv_goto (tgt := 41) C.1 C.2.1 dX2_seek_128 (by decide) ?_
          exact hk41 σ v0 v1 v2 v5 (v4 + (1 : Int32)) hE hk_v0 hk_v1 hk_v2 hf _ _ _ h (lv_sub hl [2, 3, 4, 1, 0] rfl)
        · have hf := if_t hf c4
          refine lv_aload_n C.1 C.2.1 dX2_seek_101 rfl (lv_at hl 0 rfl) ?_
          refine lv_aload_n C.1 C.2.1 dX2_seek_102 rfl (lv_at hl 1 rfl) ?_
          refine lv_aload_n C.1 C.2.1 dX2_seek_103 rfl (lv_at hl 2 rfl) ?_
          refine lv_aload_n C.1 C.2.1 dX2_seek_104 rfl (lv_at hl 0 rfl) ?_
          refine x_get (v := .ref (ad b2)) C K h cl_2 hk_v0 0 (by decide) fl_RX2_9 (hv_r (o := sr_ σ v0 0) rfl hq_b2) dX2_seek_105 ?_
          refine lv_iload C.1 C.2.1 dX2_seek_108 (lv_at hl 5 rfl) ?_
          obtain ⟨j5, hj_j5, hf⟩ := ob_ hf
          refine x_iald C K h hk_b2 hj_j5 dX2_seek_110 ?_
          refine lv_iload C.1 C.2.1 dX2_seek_111 (lv_at hl 3 rfl) ?_
          obtain ⟨q6, hq_q6, hf⟩ := ob_ hf
          refine x_av K h (x_V C K h [.ref (ad v1), .ref (ad v2), .int (si_ σ b2 j5), .int v4] (c_X2_leave fu l κ G cy ad H.size σ v0 v1 v2 (si_ σ b2 j5) v4 hk_v0 hk_v1 hk_v2 hq_q6) mi_X2_leave rfl im_yX2_leave se_yX2_leave ml_RX2_45 cl_2 hk_v0 ⟨rfl, rfl, Nat.le_trans (Nat.le_of_ble_eq_true rfl) hR.1, Nat.le_trans (Nat.le_of_ble_eq_true rfl) hR.2⟩ hl (Nat.le_of_ble_eq_true rfl) dX2_seek_113 ⟨Nat.zero_le _, Nat.zero_le _⟩ rfl) (fun H locs h hX => ?_)
          have hE := hE.trans hX
          have hk_v0 := hX.k hk_v0 (by decide)
          have hk_v1 := hX.k hk_v1 (by decide)
          have hk_v2 := hX.k hk_v2 (by decide)
          refine lv_iinc (v := v6 + (1 : Int32)) (lv' := [(6, .int (v6 + (1 : Int32))), (0, .ref (ad v0)), (1, .ref (ad v1)), (2, .ref (ad v2)), (4, .int v4), (5, .int v5)]) C.1 C.2.1 dX2_seek_116 hl (k := 5) rfl rfl (by decide) rfl (fun ls hl => ?_)
          refine lv_goto (tgt := 76) C.1 C.2.1 dX2_seek_119 (by decide) ?_
          exact ih q6 v0 v1 v2 v4 v5 (v6 + (1 : Int32)) hE hk_v0 hk_v1 hk_v2 hf _ _ _ h (lv_sub hl [1, 2, 3, 4, 5, 0] rfl)
def f_X2_seek_41 (fu : Nat) : Nat → St_ → Nat → Nat → Nat → Int32 → Int32 → Option St_
  | 0 => fun _ _ _ _ _ _ => none
  | n + 1 => fun σ  v0  v1  v2  v3  v4 => (dr_ σ 10 (sr_ σ v0 0)).bind fun b1 => if (nI (ln_ σ b1)) ≤ v4 then some σ else if (si_ σ v0 2) ≤ v3 then some σ else if (si_ σ v0 4) = (-1 : Int32) then f_X2_seek_76 fu (f_X2_seek_41 fu n) fu σ v0 v1 v2 v4 (si_ σ v0 2) v3 else some σ
set_option maxHeartbeats 4000000 in
set_option maxRecDepth 100000 in
theorem w_X2_seek_41 {p : Program} {l : Launch} {e : Env} {R : Room} {s : State} {m : MethodId} {args : Array Value} {below : List Frame} {meth : Method} {c : Code} {κ : Ka_} {G : va_G} {cy : Nat → ClassId} {ad : Nat → Nat} {sz : Nat} {σ0 : St_} (fu : Nat) (C : CallFix p m c cX2_seek 7 s args wU_ RX2) (K : Kx_ κ G cy (va_A (wl_ cy ad σ0) sz) s) (hr : meth.sig.returnType = none) (hlk : meth.locks = false) (hR : 3 ≤ R.frames ∧ 69 ≤ R.locals) {q : St_} : ∀ n : Nat, ∀ (σ : St_) (v0 : Nat) (v1 : Nat) (v2 : Nat) (v3 : Int32) (v4 : Int32), Ex_ σ0 σ → kd_ σ v0 = 2 → kd_ σ v1 = 7 → kd_ σ v2 = 7 → f_X2_seek_41 fu n σ v0 v1 v2 v3 v4 = some q → ∀ (H : Heap) (locs : List Loc) (ls : Array Slot), Ht_ G cy (va_A (wl_ cy ad σ0) sz) s ad σ H locs → lv_has ls 7 [(0, .ref (ad v0)), (1, .ref (ad v1)), (2, .ref (ad v2)), (3, .int v3), (4, .int v4)] → W p l e R s m args below meth c H locs 0 0 (MQ below (Qv_ G cy ad σ0 q sz) args s 0 0 (va_A (wl_ cy ad σ0) sz)) (F0 m 41 ls []) := by
  intro n
  induction n with
  | zero =>
    intro σ v0 v1 v2 v3 v4 hE hk_v0 hk_v1 hk_v2 hf H locs ls h hl
    cases hf
  | succ n ih =>
    intro σ v0 v1 v2 v3 v4 hE hk_v0 hk_v1 hk_v2 hf H locs ls h hl
    have hf : ((dr_ σ 10 (sr_ σ v0 0)).bind fun b1 => if (nI (ln_ σ b1)) ≤ v4 then some σ else if (si_ σ v0 2) ≤ v3 then some σ else if (si_ σ v0 4) = (-1 : Int32) then f_X2_seek_76 fu (f_X2_seek_41 fu n) fu σ v0 v1 v2 v4 (si_ σ v0 2) v3 else some σ) = some q := hf
    refine lv_iload C.1 C.2.1 dX2_seek_41 (lv_at hl 4 rfl) ?_
    refine lv_aload_n C.1 C.2.1 dX2_seek_43 rfl (lv_at hl 0 rfl) ?_
    obtain ⟨b1, hb_b1, hf⟩ := ob_ hf
    obtain ⟨hq_b1, hk_b1⟩ := dr_in hb_b1
    refine x_get (v := .ref (ad b1)) C K h cl_2 hk_v0 0 (by decide) fl_RX2_9 (hv_r (o := sr_ σ v0 0) rfl hq_b1) dX2_seek_44 ?_
    refine x_ilen C K h hk_b1 dX2_seek_47 ?_
    refine lv_icmp_ge (tgt := 131) C.1 C.2.1 dX2_seek_48 (by decide) (fun c2 => ?_) (fun c2 => ?_)
    · have hf := if_t hf c2
      exact x_rv C hr hlk h hE (Option.some.inj hf) dX2_seek_131
    · have hf := if_f hf c2
      refine lv_iload_n C.1 C.2.1 dX2_seek_51 rfl (lv_at hl 3 rfl) ?_
      refine lv_aload_n C.1 C.2.1 dX2_seek_52 rfl (lv_at hl 0 rfl) ?_
      refine x_get (v := .int (si_ σ v0 2)) C K h cl_2 hk_v0 2 (by decide) fl_RX2_19 rfl dX2_seek_53 ?_
      refine lv_icmp_ge (tgt := 131) C.1 C.2.1 dX2_seek_56 (by decide) (fun c3 => ?_) (fun c3 => ?_)
      · have hf := if_t hf c3
        exact x_rv C hr hlk h hE (Option.some.inj hf) dX2_seek_131
      · have hf := if_f hf c3
        refine lv_aload_n C.1 C.2.1 dX2_seek_59 rfl (lv_at hl 0 rfl) ?_
        refine x_get (v := .int (si_ σ v0 4)) C K h cl_2 hk_v0 4 (by decide) fl_RX2_26 rfl dX2_seek_60 ?_
        refine lv_iconst (v := (-1 : Int32)) C.1 C.2.1 dX2_seek_63 (by decide) ?_
        refine lv_icmp_ne (tgt := 131) C.1 C.2.1 dX2_seek_64 (by decide) (fun c4 => ?_) (fun c4 => ?_)
        · have hf := if_f hf c4
          exact x_rv C hr hlk h hE (Option.some.inj hf) dX2_seek_131
        · have hf := if_t hf c4
          refine lv_aload_n C.1 C.2.1 dX2_seek_67 rfl (lv_at hl 0 rfl) ?_
          refine x_get (v := .int (si_ σ v0 2)) C K h cl_2 hk_v0 2 (by decide) fl_RX2_19 rfl dX2_seek_68 ?_
          refine lv_istore (i := 5) (lv' := [(5, .int (si_ σ v0 2)), (0, .ref (ad v0)), (1, .ref (ad v1)), (2, .ref (ad v2)), (3, .int v3), (4, .int v4)]) C.1 C.2.1 dX2_seek_71 hl (by decide) rfl (fun ls hl => ?_)
          refine lv_iload_n C.1 C.2.1 dX2_seek_73 rfl (lv_at hl 4 rfl) ?_
          refine lv_istore (i := 6) (lv' := [(6, .int v3), (5, .int (si_ σ v0 2)), (0, .ref (ad v0)), (1, .ref (ad v1)), (2, .ref (ad v2)), (3, .int v3), (4, .int v4)]) C.1 C.2.1 dX2_seek_74 hl (by decide) rfl (fun ls hl => ?_)
          exact w_X2_seek_76 fu C K hr hlk hR (f_X2_seek_41 fu n) ih fu σ v0 v1 v2 v4 (si_ σ v0 2) v3 hE hk_v0 hk_v1 hk_v2 hf _ _ _ h (lv_sub hl [2, 3, 4, 6, 1, 0] rfl)
def f_X2_seek (fu : Nat) (σ : St_) (a0 : Nat) (x1 : Nat) (x2 : Nat) : Option St_ := (dr_ σ 11 (sr_ σ a0 1)).bind fun b3 => (f_J7_fill_d0a16 fu σ b3 (0 : Int64)).bind fun q4 => (f_X7_start (ui_ (ui_ (ui_ q4 a0 2 (0 : Int32)) a0 3 (-1 : Int32)) a0 4 (-1 : Int32)) x1).bind fun q5 => (f_X7_start (ui_ (ui_ (ui_ q4 a0 2 (0 : Int32)) a0 3 (-1 : Int32)) a0 4 (-1 : Int32)) x2).bind fun q6 => (f_X2_discover (ui_ (ui_ (ui_ q4 a0 2 (0 : Int32)) a0 3 (-1 : Int32)) a0 4 (-1 : Int32)) a0 q5 q6 (0 : Int32)).bind fun q7 => f_X2_seek_41 fu fu q7 a0 x1 x2 (0 : Int32) (1 : Int32)
set_option maxHeartbeats 4000000 in
set_option maxRecDepth 100000 in
theorem w_X2_seek {p : Program} {l : Launch} {e : Env} {R : Room} {s : State} {m : MethodId} {args : Array Value} {below : List Frame} {meth : Method} {c : Code} {κ : Ka_} {G : va_G} {cy : Nat → ClassId} {ad : Nat → Nat} {sz : Nat} {σ0 : St_} (fu : Nat) (C : CallFix p m c cX2_seek 7 s args wU_ RX2) (K : Kx_ κ G cy (va_A (wl_ cy ad σ0) sz) s) (hr : meth.sig.returnType = none) (hlk : meth.locks = false) (hR : 3 ≤ R.frames ∧ 69 ≤ R.locals) {q : St_} : ∀ (σ : St_) (a0 : Nat) (x1 : Nat) (x2 : Nat), Ex_ σ0 σ → kd_ σ a0 = 2 → kd_ σ x1 = 7 → kd_ σ x2 = 7 → f_X2_seek fu σ a0 x1 x2 = some q → ∀ (H : Heap) (locs : List Loc) (ls : Array Slot), Ht_ G cy (va_A (wl_ cy ad σ0) sz) s ad σ H locs → lv_has ls 7 [(0, .ref (ad a0)), (1, .ref (ad x1)), (2, .ref (ad x2))] → W p l e R s m args below meth c H locs 0 0 (MQ below (Qv_ G cy ad σ0 q sz) args s 0 0 (va_A (wl_ cy ad σ0) sz)) (F0 m 0 ls []) := by
  intro σ a0 x1 x2 hE hk_a0 hk_x1 hk_x2 hf H locs ls h hl
  have hf : ((dr_ σ 11 (sr_ σ a0 1)).bind fun b3 => (f_J7_fill_d0a16 fu σ b3 (0 : Int64)).bind fun q4 => (f_X7_start (ui_ (ui_ (ui_ q4 a0 2 (0 : Int32)) a0 3 (-1 : Int32)) a0 4 (-1 : Int32)) x1).bind fun q5 => (f_X7_start (ui_ (ui_ (ui_ q4 a0 2 (0 : Int32)) a0 3 (-1 : Int32)) a0 4 (-1 : Int32)) x2).bind fun q6 => (f_X2_discover (ui_ (ui_ (ui_ q4 a0 2 (0 : Int32)) a0 3 (-1 : Int32)) a0 4 (-1 : Int32)) a0 q5 q6 (0 : Int32)).bind fun q7 => f_X2_seek_41 fu fu q7 a0 x1 x2 (0 : Int32) (1 : Int32)) = some q := hf
  refine lv_aload_n C.1 C.2.1 dX2_seek_0 rfl (lv_at hl 0 rfl) ?_
  obtain ⟨b3, hb_b3, hf⟩ := ob_ hf
  obtain ⟨hq_b3, hk_b3⟩ := dr_in hb_b3
  refine x_get (v := .ref (ad b3)) C K h cl_2 hk_a0 1 (by decide) fl_RX2_15 (hv_r (o := sr_ σ a0 1) rfl hq_b3) dX2_seek_1 ?_
  refine lv_lconst (v := (0 : Int64)) C.1 C.2.1 dX2_seek_4 (by decide) ?_
  obtain ⟨q4, hq_q4, hf⟩ := ob_ hf
  refine x_av K h (x_S C K h [.ref (ad b3), .long (0 : Int64)] (c_J7_fill_d0a16 fu l κ G cy ad H.size σ b3 (0 : Int64) hk_b3 hq_q4) mi_J7_fill_d0a16 rfl st_yJ7_fill_d0a16 ml_RX2_29 ⟨rfl, rfl, Nat.le_trans (Nat.le_of_ble_eq_true rfl) hR.1, Nat.le_trans (Nat.le_of_ble_eq_true rfl) hR.2⟩ hl (Nat.le_of_ble_eq_true rfl) dX2_seek_5 ⟨Nat.zero_le _, Nat.zero_le _⟩ rfl) (fun H locs h hX => ?_)
  have hE := hE.trans hX
  have hk_a0 := hX.k hk_a0 (by decide)
  have hk_x1 := hX.k hk_x1 (by decide)
  have hk_x2 := hX.k hk_x2 (by decide)
  refine lv_aload_n C.1 C.2.1 dX2_seek_8 rfl (lv_at hl 0 rfl) ?_
  refine lv_iconst (v := (0 : Int32)) C.1 C.2.1 dX2_seek_9 (by decide) ?_
  refine x_putI C K h cl_2 hk_a0 2 (by decide) fl_RX2_19 rfl rfl rfl (Nat.le_of_ble_eq_true rfl) (fun _ _ _ => rfl) dX2_seek_10 (fun H locs h => ?_)
  have hE := hE.up (up_i q4 a0 2 (0 : Int32))
  refine lv_aload_n C.1 C.2.1 dX2_seek_13 rfl (lv_at hl 0 rfl) ?_
  refine lv_iconst (v := (-1 : Int32)) C.1 C.2.1 dX2_seek_14 (by decide) ?_
  refine x_putI C K h cl_2 hk_a0 3 (by decide) fl_RX2_23 rfl rfl rfl (Nat.le_of_ble_eq_true rfl) (fun _ _ _ => rfl) dX2_seek_15 (fun H locs h => ?_)
  have hE := hE.up (up_i (ui_ q4 a0 2 (0 : Int32)) a0 3 (-1 : Int32))
  refine lv_aload_n C.1 C.2.1 dX2_seek_18 rfl (lv_at hl 0 rfl) ?_
  refine lv_iconst (v := (-1 : Int32)) C.1 C.2.1 dX2_seek_19 (by decide) ?_
  refine x_putI C K h cl_2 hk_a0 4 (by decide) fl_RX2_26 rfl rfl rfl (Nat.le_of_ble_eq_true rfl) (fun _ _ _ => rfl) dX2_seek_20 (fun H locs h => ?_)
  have hE := hE.up (up_i (ui_ (ui_ q4 a0 2 (0 : Int32)) a0 3 (-1 : Int32)) a0 4 (-1 : Int32))
  refine lv_aload_n C.1 C.2.1 dX2_seek_23 rfl (lv_at hl 0 rfl) ?_
  refine lv_aload_n C.1 C.2.1 dX2_seek_24 rfl (lv_at hl 1 rfl) ?_
  obtain ⟨q5, hq_q5, hf⟩ := ob_ hf
  refine x_ai K h (x_VN C K h [] (c_X7_start l κ G cy ad H.size (ui_ (ui_ (ui_ q4 a0 2 (0 : Int32)) a0 3 (-1 : Int32)) a0 4 (-1 : Int32)) x1 hk_x1 hq_q5) mi_X7_start rfl im_yX7_start se_yX7_start nm_RX2_35 cl_7 hk_x1 ⟨rfl, rfl, Nat.le_trans (Nat.le_of_ble_eq_true rfl) hR.1, Nat.le_trans (Nat.le_of_ble_eq_true rfl) hR.2⟩ hl (Nat.le_of_ble_eq_true rfl) dX2_seek_25 ⟨Nat.zero_le _, Nat.zero_le _⟩ rfl) (fun H locs h hX => ?_)
  refine lv_aload_n C.1 C.2.1 dX2_seek_28 rfl (lv_at hl 2 rfl) ?_
  obtain ⟨q6, hq_q6, hf⟩ := ob_ hf
  refine x_ai K h (x_VN C K h [] (c_X7_start l κ G cy ad H.size (ui_ (ui_ (ui_ q4 a0 2 (0 : Int32)) a0 3 (-1 : Int32)) a0 4 (-1 : Int32)) x2 hk_x2 hq_q6) mi_X7_start rfl im_yX7_start se_yX7_start nm_RX2_35 cl_7 hk_x2 ⟨rfl, rfl, Nat.le_trans (Nat.le_of_ble_eq_true rfl) hR.1, Nat.le_trans (Nat.le_of_ble_eq_true rfl) hR.2⟩ hl (Nat.le_of_ble_eq_true rfl) dX2_seek_29 ⟨Nat.zero_le _, Nat.zero_le _⟩ rfl) (fun H locs h hX => ?_)
  refine lv_iconst (v := (0 : Int32)) C.1 C.2.1 dX2_seek_32 (by decide) ?_
  obtain ⟨q7, hq_q7, hf⟩ := ob_ hf
  refine x_av K h (x_V C K h [.int q5, .int q6, .int (0 : Int32)] (c_X2_discover l κ G cy ad H.size (ui_ (ui_ (ui_ q4 a0 2 (0 : Int32)) a0 3 (-1 : Int32)) a0 4 (-1 : Int32)) a0 q5 q6 (0 : Int32) hk_a0 hq_q7) mi_X2_discover rfl im_yX2_discover se_yX2_discover ml_RX2_41 cl_2 hk_a0 ⟨rfl, rfl, Nat.le_trans (Nat.le_of_ble_eq_true rfl) hR.1, Nat.le_trans (Nat.le_of_ble_eq_true rfl) hR.2⟩ hl (Nat.le_of_ble_eq_true rfl) dX2_seek_33 ⟨Nat.zero_le _, Nat.zero_le _⟩ rfl) (fun H locs h hX => ?_)
  have hE := hE.trans hX
  have hk_a0 := hX.k hk_a0 (by decide)
  have hk_x1 := hX.k hk_x1 (by decide)
  have hk_x2 := hX.k hk_x2 (by decide)
  refine lv_iconst (v := (0 : Int32)) C.1 C.2.1 dX2_seek_36 (by decide) ?_
  refine lv_istore_n (i := 3) (lv' := [(3, .int (0 : Int32)), (0, .ref (ad a0)), (1, .ref (ad x1)), (2, .ref (ad x2))]) C.1 C.2.1 dX2_seek_37 rfl hl (by decide) rfl (fun ls hl => ?_)
  refine lv_iconst (v := (1 : Int32)) C.1 C.2.1 dX2_seek_38 (by decide) ?_
  refine lv_istore (i := 4) (lv' := [(4, .int (1 : Int32)), (3, .int (0 : Int32)), (0, .ref (ad a0)), (1, .ref (ad x1)), (2, .ref (ad x2))]) C.1 C.2.1 dX2_seek_39 hl (by decide) rfl (fun ls hl => ?_)
  exact w_X2_seek_41 fu C K hr hlk hR fu q7 a0 x1 x2 (0 : Int32) (1 : Int32) hE hk_a0 hk_x1 hk_x2 hf _ _ _ h (lv_sub hl [2, 3, 4, 1, 0] rfl)
theorem c_X2_seek (fu : Nat) (l : Launch) (κ : Ka_) (G : va_G) (cy : Nat → ClassId) (ad : Nat → Nat) (sz : Nat) (σ : St_) (a0 : Nat) (x1 : Nat) (x2 : Nat) (hk_a0 : kd_ σ a0 = 2) (hk_x1 : kd_ σ x1 = 7) (hk_x2 : kd_ σ x2 = 7) {q : St_} (hf : f_X2_seek fu σ a0 x1 x2 = some q) : Met l yX2_seek (Cond.code yX2_seek cX2_seek 7 none :: wU_) { frames := 3, cells := 0, slots := 0, locals := 69 } (va_Pc [.ref (ad a0), .ref (ad x1), .ref (ad x2)] (Pr_ κ G cy ad σ sz)) (Qv_ G cy ad σ q sz) 0 0 (va_A (wl_ cy ad σ) sz) :=
  x_met (by decide) (fun p e R s m below meth c ls hR C hr hlk hin _ K h hl => w_X2_seek fu C K hr hlk ⟨hR.1, hR.2.1⟩ σ a0 x1 x2 Ex_.rf hk_a0 hk_x1 hk_x2 hf s.heap [] ls h hl) (Nat.le_of_ble_eq_true rfl)
