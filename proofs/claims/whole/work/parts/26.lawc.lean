set_option maxHeartbeats 4000000 in
set_option maxRecDepth 100000 in
theorem law_highest {p : Program} {l : Launch} {e : Env} {s : State} {m : MethodId} {below : List Frame} {meth : Method} {c : Code} {b L : Nat} {xs : Nat → Int32} {κ : Ka_} {G : va_G} {cy : Nat → ClassId} (hL : L ≤ 3072) (C : CallFix p m c code 4 s #[Value.ref b] wU_ RL) (hX : va_X b L xs s s.heap) (hbl : b < s.heap.size) (K : Kx_ κ G cy (fun q : Nat => s.heap.size ≤ q) s) (Rel : St_ → St_ → Prop) (hs : Sims_ Rel) {k : Nat} (hk : 6 * k + 6 ≤ L) (END : ∀ (adx adm : Nat → Nat) (σx σm : St_), Rel σx σm → ∀ (H : Heap) (locs : List Loc) (ls : Array Slot), Ht_ G cy (fun q : Nat => s.heap.size ≤ q) s adx σx H locs → Ht_ G cy (fun q : Nat => s.heap.size ≤ q) s adm σm H locs → Dj_ adx σx adm σm → lv_has ls 4 [(0, .ref b), (1, .ref (adx 0)), (2, .ref (adm 0)), (3, .int (nI (6 * k)))] → W p l e room_1 s m #[Value.ref b] below meth c H locs (1000 + 4 * (k + 1)) (20000 + 483 * (k + 1)) (lw_Z below #[Value.ref b] s) (F0 m 1161 ls [])) : ∀ (adx adm : Nat → Nat) (σx σm : St_), Rel σx σm → ∀ (H : Heap) (locs : List Loc) (ls : Array Slot), Ht_ G cy (fun q : Nat => s.heap.size ≤ q) s adx σx H locs → Ht_ G cy (fun q : Nat => s.heap.size ≤ q) s adm σm H locs → Dj_ adx σx adm σm → lv_has ls 4 [(0, .ref b), (1, .ref (adx 0)), (2, .ref (adm 0)), (3, .int (nI (6 * k)))] → W p l e room_1 s m #[Value.ref b] below meth c H locs (1000 + 4 * k) (20000 + 483 * k) (lw_Z below #[Value.ref b] s) (F0 m 660 ls []) := by
  intro adx adm σx σm hrel H locs ls h ho hd hl
  have hbA : ¬ (fun q : Nat => s.heap.size ≤ q) b := Nat.not_le.mpr hbl
  obtain ⟨hkx, hkm⟩ := hs.1 σx σm hrel
  obtain ⟨r, σx', σm', hfx, hfm, hrel'⟩ := hs.2.2.2.2.2.2.2.2.2.2.2.2.2.2.2.2.1 σx σm hrel (xs (6 * k + 1))
  refine lv_aload_n C.1 C.2.1 dL_law_660 rfl (lv_at hl 1 rfl) ?_
  refine lv_aload_n C.1 C.2.1 dL_law_661 rfl (lv_at hl 0 rfl) ?_
  refine lv_iload_n C.1 C.2.1 dL_law_662 rfl (lv_at hl 3 rfl) ?_
  refine lv_iconst (v := (1 : Int32)) C.1 C.2.1 dL_law_663 (by decide) ?_
  refine lv_iadd C.1 C.2.1 dL_law_664 ?_
  refine x_scr (j := 6 * k + 1) C hX hbl hbA h.2.2.1 (nI_add (6 * k) 1) (by omega) (by omega) dL_law_665 ?_
  refine l_i K h ho hd (x_V C K h [.int (xs (6 * k + 1))] (c_X8_highest FU_ l κ G cy adx H.size σx 0 (xs (6 * k + 1)) hkx hfx) mi_X8_highest rfl im_yX8_highest se_yX8_highest ml_RL_76 cl_8 hkx ⟨rfl, rfl, Nat.le_of_ble_eq_true rfl, Nat.le_of_ble_eq_true rfl⟩ hl (Nat.le_of_ble_eq_true rfl) dL_law_666 ⟨by show _ ≤ 600000; omega, by show _ ≤ 7302250; omega⟩ rfl) (fun H locs h ho hd => ?_)
  refine lv_aload_n C.1 C.2.1 dL_law_669 rfl (lv_at hl 2 rfl) ?_
  refine lv_aload_n C.1 C.2.1 dL_law_670 rfl (lv_at hl 0 rfl) ?_
  refine lv_iload_n C.1 C.2.1 dL_law_671 rfl (lv_at hl 3 rfl) ?_
  refine lv_iconst (v := (1 : Int32)) C.1 C.2.1 dL_law_672 (by decide) ?_
  refine lv_iadd C.1 C.2.1 dL_law_673 ?_
  refine x_scr (j := 6 * k + 1) C hX hbl hbA h.2.2.1 (nI_add (6 * k) 1) (by omega) (by omega) dL_law_674 ?_
  refine l_i K ho h hd.symm (x_V C K ho [.int (xs (6 * k + 1))] (c_X9_highest FU_ l κ G cy adm H.size σm 0 (xs (6 * k + 1)) hkm hfm) mi_X9_highest rfl im_yX9_highest se_yX9_highest ml_RL_79 cl_9 hkm ⟨rfl, rfl, Nat.le_of_ble_eq_true rfl, Nat.le_of_ble_eq_true rfl⟩ hl (Nat.le_of_ble_eq_true rfl) dL_law_675 ⟨by show _ ≤ 600000; omega, by show _ ≤ 7302250; omega⟩ rfl) (fun H locs ho h hd => ?_)
  refine lv_icmp_eq (tgt := 1161) C.1 C.2.1 dL_law_678 (by decide) (fun _ => ?_) (fun z => absurd rfl z)
  refine W.widen (k := 1000 + 4 * (k + 1)) (n := 20000 + 483 * (k + 1)) (by omega) (by omega) ?_
  exact END adx adm σx' σm' hrel' H locs ls h ho hd.symm hl
set_option maxHeartbeats 4000000 in
set_option maxRecDepth 100000 in
theorem law_tells {p : Program} {l : Launch} {e : Env} {s : State} {m : MethodId} {below : List Frame} {meth : Method} {c : Code} {b L : Nat} {xs : Nat → Int32} {κ : Ka_} {G : va_G} {cy : Nat → ClassId} (hL : L ≤ 3072) (C : CallFix p m c code 4 s #[Value.ref b] wU_ RL) (hX : va_X b L xs s s.heap) (hbl : b < s.heap.size) (K : Kx_ κ G cy (fun q : Nat => s.heap.size ≤ q) s) (Rel : St_ → St_ → Prop) (hs : Sims_ Rel) {k : Nat} (hk : 6 * k + 6 ≤ L) (END : ∀ (adx adm : Nat → Nat) (σx σm : St_), Rel σx σm → ∀ (H : Heap) (locs : List Loc) (ls : Array Slot), Ht_ G cy (fun q : Nat => s.heap.size ≤ q) s adx σx H locs → Ht_ G cy (fun q : Nat => s.heap.size ≤ q) s adm σm H locs → Dj_ adx σx adm σm → lv_has ls 4 [(0, .ref b), (1, .ref (adx 0)), (2, .ref (adm 0)), (3, .int (nI (6 * k)))] → W p l e room_1 s m #[Value.ref b] below meth c H locs (1000 + 4 * (k + 1)) (20000 + 483 * (k + 1)) (lw_Z below #[Value.ref b] s) (F0 m 1161 ls [])) : ∀ (adx adm : Nat → Nat) (σx σm : St_), Rel σx σm → ∀ (H : Heap) (locs : List Loc) (ls : Array Slot), Ht_ G cy (fun q : Nat => s.heap.size ≤ q) s adx σx H locs → Ht_ G cy (fun q : Nat => s.heap.size ≤ q) s adm σm H locs → Dj_ adx σx adm σm → lv_has ls 4 [(0, .ref b), (1, .ref (adx 0)), (2, .ref (adm 0)), (3, .int (nI (6 * k)))] → W p l e room_1 s m #[Value.ref b] below meth c H locs (1000 + 4 * k) (20000 + 483 * k) (lw_Z below #[Value.ref b] s) (F0 m 683 ls []) := by
  intro adx adm σx σm hrel H locs ls h ho hd hl
  have hbA : ¬ (fun q : Nat => s.heap.size ≤ q) b := Nat.not_le.mpr hbl
  obtain ⟨hkx, hkm⟩ := hs.1 σx σm hrel
  obtain ⟨r, σx', σm', hfx, hfm, hrel'⟩ := hs.2.2.2.2.2.2.2.2.2.2.2.2.2.2.2.2.2.1 σx σm hrel (xs (6 * k + 1)) (xs (6 * k + 2)) (xs (6 * k + 3))
  refine lv_aload_n C.1 C.2.1 dL_law_683 rfl (lv_at hl 1 rfl) ?_
  refine lv_aload_n C.1 C.2.1 dL_law_684 rfl (lv_at hl 0 rfl) ?_
  refine lv_iload_n C.1 C.2.1 dL_law_685 rfl (lv_at hl 3 rfl) ?_
  refine lv_iconst (v := (1 : Int32)) C.1 C.2.1 dL_law_686 (by decide) ?_
  refine lv_iadd C.1 C.2.1 dL_law_687 ?_
  refine x_scr (j := 6 * k + 1) C hX hbl hbA h.2.2.1 (nI_add (6 * k) 1) (by omega) (by omega) dL_law_688 ?_
  refine lv_aload_n C.1 C.2.1 dL_law_689 rfl (lv_at hl 0 rfl) ?_
  refine lv_iload_n C.1 C.2.1 dL_law_690 rfl (lv_at hl 3 rfl) ?_
  refine lv_iconst (v := (2 : Int32)) C.1 C.2.1 dL_law_691 (by decide) ?_
  refine lv_iadd C.1 C.2.1 dL_law_692 ?_
  refine x_scr (j := 6 * k + 2) C hX hbl hbA h.2.2.1 (nI_add (6 * k) 2) (by omega) (by omega) dL_law_693 ?_
  refine lv_aload_n C.1 C.2.1 dL_law_694 rfl (lv_at hl 0 rfl) ?_
  refine lv_iload_n C.1 C.2.1 dL_law_695 rfl (lv_at hl 3 rfl) ?_
  refine lv_iconst (v := (3 : Int32)) C.1 C.2.1 dL_law_696 (by decide) ?_
  refine lv_iadd C.1 C.2.1 dL_law_697 ?_
  refine x_scr (j := 6 * k + 3) C hX hbl hbA h.2.2.1 (nI_add (6 * k) 3) (by omega) (by omega) dL_law_698 ?_
  refine l_i K h ho hd (x_V C K h [.int (xs (6 * k + 1)), .int (xs (6 * k + 2)), .int (xs (6 * k + 3))] (c_X8_tells FU_ l κ G cy adx H.size σx 0 (xs (6 * k + 1)) (xs (6 * k + 2)) (xs (6 * k + 3)) hkx hfx) mi_X8_tells rfl im_yX8_tells se_yX8_tells ml_RL_80 cl_8 hkx ⟨rfl, rfl, Nat.le_of_ble_eq_true rfl, Nat.le_of_ble_eq_true rfl⟩ hl (Nat.le_of_ble_eq_true rfl) dL_law_699 ⟨by show _ ≤ 600000; omega, by show _ ≤ 7302250; omega⟩ rfl) (fun H locs h ho hd => ?_)
  refine lv_aload_n C.1 C.2.1 dL_law_702 rfl (lv_at hl 2 rfl) ?_
  refine lv_aload_n C.1 C.2.1 dL_law_703 rfl (lv_at hl 0 rfl) ?_
  refine lv_iload_n C.1 C.2.1 dL_law_704 rfl (lv_at hl 3 rfl) ?_
  refine lv_iconst (v := (1 : Int32)) C.1 C.2.1 dL_law_705 (by decide) ?_
  refine lv_iadd C.1 C.2.1 dL_law_706 ?_
  refine x_scr (j := 6 * k + 1) C hX hbl hbA h.2.2.1 (nI_add (6 * k) 1) (by omega) (by omega) dL_law_707 ?_
  refine lv_aload_n C.1 C.2.1 dL_law_708 rfl (lv_at hl 0 rfl) ?_
  refine lv_iload_n C.1 C.2.1 dL_law_709 rfl (lv_at hl 3 rfl) ?_
  refine lv_iconst (v := (2 : Int32)) C.1 C.2.1 dL_law_710 (by decide) ?_
  refine lv_iadd C.1 C.2.1 dL_law_711 ?_
  refine x_scr (j := 6 * k + 2) C hX hbl hbA h.2.2.1 (nI_add (6 * k) 2) (by omega) (by omega) dL_law_712 ?_
  refine lv_aload_n C.1 C.2.1 dL_law_713 rfl (lv_at hl 0 rfl) ?_
  refine lv_iload_n C.1 C.2.1 dL_law_714 rfl (lv_at hl 3 rfl) ?_
  refine lv_iconst (v := (3 : Int32)) C.1 C.2.1 dL_law_715 (by decide) ?_
  refine lv_iadd C.1 C.2.1 dL_law_716 ?_
  refine x_scr (j := 6 * k + 3) C hX hbl hbA h.2.2.1 (nI_add (6 * k) 3) (by omega) (by omega) dL_law_717 ?_
  refine l_i K ho h hd.symm (x_V C K ho [.int (xs (6 * k + 1)), .int (xs (6 * k + 2)), .int (xs (6 * k + 3))] (c_X9_tells FU_ l κ G cy adm H.size σm 0 (xs (6 * k + 1)) (xs (6 * k + 2)) (xs (6 * k + 3)) hkm hfm) mi_X9_tells rfl im_yX9_tells se_yX9_tells ml_RL_83 cl_9 hkm ⟨rfl, rfl, Nat.le_of_ble_eq_true rfl, Nat.le_of_ble_eq_true rfl⟩ hl (Nat.le_of_ble_eq_true rfl) dL_law_718 ⟨by show _ ≤ 600000; omega, by show _ ≤ 7302250; omega⟩ rfl) (fun H locs ho h hd => ?_)
  refine lv_icmp_eq (tgt := 1161) C.1 C.2.1 dL_law_721 (by decide) (fun _ => ?_) (fun z => absurd rfl z)
  refine W.widen (k := 1000 + 4 * (k + 1)) (n := 20000 + 483 * (k + 1)) (by omega) (by omega) ?_
  exact END adx adm σx' σm' hrel' H locs ls h ho hd.symm hl
set_option maxHeartbeats 4000000 in
set_option maxRecDepth 100000 in
theorem law_ways {p : Program} {l : Launch} {e : Env} {s : State} {m : MethodId} {below : List Frame} {meth : Method} {c : Code} {b L : Nat} {xs : Nat → Int32} {κ : Ka_} {G : va_G} {cy : Nat → ClassId} (hL : L ≤ 3072) (C : CallFix p m c code 4 s #[Value.ref b] wU_ RL) (hX : va_X b L xs s s.heap) (hbl : b < s.heap.size) (K : Kx_ κ G cy (fun q : Nat => s.heap.size ≤ q) s) (Rel : St_ → St_ → Prop) (hs : Sims_ Rel) {k : Nat} (hk : 6 * k + 6 ≤ L) (END : ∀ (adx adm : Nat → Nat) (σx σm : St_), Rel σx σm → ∀ (H : Heap) (locs : List Loc) (ls : Array Slot), Ht_ G cy (fun q : Nat => s.heap.size ≤ q) s adx σx H locs → Ht_ G cy (fun q : Nat => s.heap.size ≤ q) s adm σm H locs → Dj_ adx σx adm σm → lv_has ls 4 [(0, .ref b), (1, .ref (adx 0)), (2, .ref (adm 0)), (3, .int (nI (6 * k)))] → W p l e room_1 s m #[Value.ref b] below meth c H locs (1000 + 4 * (k + 1)) (20000 + 483 * (k + 1)) (lw_Z below #[Value.ref b] s) (F0 m 1161 ls [])) : ∀ (adx adm : Nat → Nat) (σx σm : St_), Rel σx σm → ∀ (H : Heap) (locs : List Loc) (ls : Array Slot), Ht_ G cy (fun q : Nat => s.heap.size ≤ q) s adx σx H locs → Ht_ G cy (fun q : Nat => s.heap.size ≤ q) s adm σm H locs → Dj_ adx σx adm σm → lv_has ls 4 [(0, .ref b), (1, .ref (adx 0)), (2, .ref (adm 0)), (3, .int (nI (6 * k)))] → W p l e room_1 s m #[Value.ref b] below meth c H locs (1000 + 4 * k) (20000 + 483 * k) (lw_Z below #[Value.ref b] s) (F0 m 726 ls []) := by
  intro adx adm σx σm hrel H locs ls h ho hd hl
  have hbA : ¬ (fun q : Nat => s.heap.size ≤ q) b := Nat.not_le.mpr hbl
  obtain ⟨hkx, hkm⟩ := hs.1 σx σm hrel
  obtain ⟨r, σx', σm', hfx, hfm, hrel'⟩ := hs.2.2.2.2.2.2.2.2.2.2.2.2.2.2.2.2.2.2.1 σx σm hrel (xs (6 * k + 1)) (xs (6 * k + 2)) (xs (6 * k + 3))
  refine lv_aload_n C.1 C.2.1 dL_law_726 rfl (lv_at hl 1 rfl) ?_
  refine lv_aload_n C.1 C.2.1 dL_law_727 rfl (lv_at hl 0 rfl) ?_
  refine lv_iload_n C.1 C.2.1 dL_law_728 rfl (lv_at hl 3 rfl) ?_
  refine lv_iconst (v := (1 : Int32)) C.1 C.2.1 dL_law_729 (by decide) ?_
  refine lv_iadd C.1 C.2.1 dL_law_730 ?_
  refine x_scr (j := 6 * k + 1) C hX hbl hbA h.2.2.1 (nI_add (6 * k) 1) (by omega) (by omega) dL_law_731 ?_
  refine lv_aload_n C.1 C.2.1 dL_law_732 rfl (lv_at hl 0 rfl) ?_
  refine lv_iload_n C.1 C.2.1 dL_law_733 rfl (lv_at hl 3 rfl) ?_
  refine lv_iconst (v := (2 : Int32)) C.1 C.2.1 dL_law_734 (by decide) ?_
  refine lv_iadd C.1 C.2.1 dL_law_735 ?_
  refine x_scr (j := 6 * k + 2) C hX hbl hbA h.2.2.1 (nI_add (6 * k) 2) (by omega) (by omega) dL_law_736 ?_
  refine lv_aload_n C.1 C.2.1 dL_law_737 rfl (lv_at hl 0 rfl) ?_
  refine lv_iload_n C.1 C.2.1 dL_law_738 rfl (lv_at hl 3 rfl) ?_
  refine lv_iconst (v := (3 : Int32)) C.1 C.2.1 dL_law_739 (by decide) ?_
  refine lv_iadd C.1 C.2.1 dL_law_740 ?_
  refine x_scr (j := 6 * k + 3) C hX hbl hbA h.2.2.1 (nI_add (6 * k) 3) (by omega) (by omega) dL_law_741 ?_
  refine l_l K h ho hd (x_V C K h [.int (xs (6 * k + 1)), .int (xs (6 * k + 2)), .int (xs (6 * k + 3))] (c_X8_ways FU_ l κ G cy adx H.size σx 0 (xs (6 * k + 1)) (xs (6 * k + 2)) (xs (6 * k + 3)) hkx hfx) mi_X8_ways rfl im_yX8_ways se_yX8_ways ml_RL_84 cl_8 hkx ⟨rfl, rfl, Nat.le_of_ble_eq_true rfl, Nat.le_of_ble_eq_true rfl⟩ hl (Nat.le_of_ble_eq_true rfl) dL_law_742 ⟨by show _ ≤ 600000; omega, by show _ ≤ 7302250; omega⟩ rfl) (fun H locs h ho hd => ?_)
  refine lv_aload_n C.1 C.2.1 dL_law_745 rfl (lv_at hl 2 rfl) ?_
  refine lv_aload_n C.1 C.2.1 dL_law_746 rfl (lv_at hl 0 rfl) ?_
  refine lv_iload_n C.1 C.2.1 dL_law_747 rfl (lv_at hl 3 rfl) ?_
  refine lv_iconst (v := (1 : Int32)) C.1 C.2.1 dL_law_748 (by decide) ?_
  refine lv_iadd C.1 C.2.1 dL_law_749 ?_
  refine x_scr (j := 6 * k + 1) C hX hbl hbA h.2.2.1 (nI_add (6 * k) 1) (by omega) (by omega) dL_law_750 ?_
  refine lv_aload_n C.1 C.2.1 dL_law_751 rfl (lv_at hl 0 rfl) ?_
  refine lv_iload_n C.1 C.2.1 dL_law_752 rfl (lv_at hl 3 rfl) ?_
  refine lv_iconst (v := (2 : Int32)) C.1 C.2.1 dL_law_753 (by decide) ?_
  refine lv_iadd C.1 C.2.1 dL_law_754 ?_
  refine x_scr (j := 6 * k + 2) C hX hbl hbA h.2.2.1 (nI_add (6 * k) 2) (by omega) (by omega) dL_law_755 ?_
  refine lv_aload_n C.1 C.2.1 dL_law_756 rfl (lv_at hl 0 rfl) ?_
  refine lv_iload_n C.1 C.2.1 dL_law_757 rfl (lv_at hl 3 rfl) ?_
  refine lv_iconst (v := (3 : Int32)) C.1 C.2.1 dL_law_758 (by decide) ?_
  refine lv_iadd C.1 C.2.1 dL_law_759 ?_
  refine x_scr (j := 6 * k + 3) C hX hbl hbA h.2.2.1 (nI_add (6 * k) 3) (by omega) (by omega) dL_law_760 ?_
  refine l_l K ho h hd.symm (x_V C K ho [.int (xs (6 * k + 1)), .int (xs (6 * k + 2)), .int (xs (6 * k + 3))] (c_X9_ways FU_ l κ G cy adm H.size σm 0 (xs (6 * k + 1)) (xs (6 * k + 2)) (xs (6 * k + 3)) hkm hfm) mi_X9_ways rfl im_yX9_ways se_yX9_ways ml_RL_87 cl_9 hkm ⟨rfl, rfl, Nat.le_of_ble_eq_true rfl, Nat.le_of_ble_eq_true rfl⟩ hl (Nat.le_of_ble_eq_true rfl) dL_law_761 ⟨by show _ ≤ 600000; omega, by show _ ≤ 7302250; omega⟩ rfl) (fun H locs ho h hd => ?_)
  refine W.lcmp C.1 C.2.1 dL_law_764 ?_
  refine lv_if_eq (tgt := 1161) C.1 C.2.1 dL_law_765 (by decide) (fun _ => ?_) (fun z => absurd (lg_same r) z)
  refine W.widen (k := 1000 + 4 * (k + 1)) (n := 20000 + 483 * (k + 1)) (by omega) (by omega) ?_
  exact END adx adm σx' σm' hrel' H locs ls h ho hd.symm hl
set_option maxHeartbeats 4000000 in
set_option maxRecDepth 100000 in
theorem law_drawn {p : Program} {l : Launch} {e : Env} {s : State} {m : MethodId} {below : List Frame} {meth : Method} {c : Code} {b L : Nat} {xs : Nat → Int32} {κ : Ka_} {G : va_G} {cy : Nat → ClassId} (hL : L ≤ 3072) (C : CallFix p m c code 4 s #[Value.ref b] wU_ RL) (hX : va_X b L xs s s.heap) (hbl : b < s.heap.size) (K : Kx_ κ G cy (fun q : Nat => s.heap.size ≤ q) s) (Rel : St_ → St_ → Prop) (hs : Sims_ Rel) {k : Nat} (hk : 6 * k + 6 ≤ L) (END : ∀ (adx adm : Nat → Nat) (σx σm : St_), Rel σx σm → ∀ (H : Heap) (locs : List Loc) (ls : Array Slot), Ht_ G cy (fun q : Nat => s.heap.size ≤ q) s adx σx H locs → Ht_ G cy (fun q : Nat => s.heap.size ≤ q) s adm σm H locs → Dj_ adx σx adm σm → lv_has ls 4 [(0, .ref b), (1, .ref (adx 0)), (2, .ref (adm 0)), (3, .int (nI (6 * k)))] → W p l e room_1 s m #[Value.ref b] below meth c H locs (1000 + 4 * (k + 1)) (20000 + 483 * (k + 1)) (lw_Z below #[Value.ref b] s) (F0 m 1161 ls [])) : ∀ (adx adm : Nat → Nat) (σx σm : St_), Rel σx σm → ∀ (H : Heap) (locs : List Loc) (ls : Array Slot), Ht_ G cy (fun q : Nat => s.heap.size ≤ q) s adx σx H locs → Ht_ G cy (fun q : Nat => s.heap.size ≤ q) s adm σm H locs → Dj_ adx σx adm σm → lv_has ls 4 [(0, .ref b), (1, .ref (adx 0)), (2, .ref (adm 0)), (3, .int (nI (6 * k)))] → W p l e room_1 s m #[Value.ref b] below meth c H locs (1000 + 4 * k) (20000 + 483 * k) (lw_Z below #[Value.ref b] s) (F0 m 770 ls []) := by
  intro adx adm σx σm hrel H locs ls h ho hd hl
  have hbA : ¬ (fun q : Nat => s.heap.size ≤ q) b := Nat.not_le.mpr hbl
  obtain ⟨hkx, hkm⟩ := hs.1 σx σm hrel
  obtain ⟨r, σx', σm', hfx, hfm, hrel'⟩ := hs.2.2.2.2.2.2.2.2.2.2.2.2.2.2.2.2.2.2.2.1 σx σm hrel (xs (6 * k + 1)) (xs (6 * k + 2)) (xs (6 * k + 3))
  refine lv_aload_n C.1 C.2.1 dL_law_770 rfl (lv_at hl 1 rfl) ?_
  refine lv_aload_n C.1 C.2.1 dL_law_771 rfl (lv_at hl 0 rfl) ?_
  refine lv_iload_n C.1 C.2.1 dL_law_772 rfl (lv_at hl 3 rfl) ?_
  refine lv_iconst (v := (1 : Int32)) C.1 C.2.1 dL_law_773 (by decide) ?_
  refine lv_iadd C.1 C.2.1 dL_law_774 ?_
  refine x_scr (j := 6 * k + 1) C hX hbl hbA h.2.2.1 (nI_add (6 * k) 1) (by omega) (by omega) dL_law_775 ?_
  refine lv_aload_n C.1 C.2.1 dL_law_776 rfl (lv_at hl 0 rfl) ?_
  refine lv_iload_n C.1 C.2.1 dL_law_777 rfl (lv_at hl 3 rfl) ?_
  refine lv_iconst (v := (2 : Int32)) C.1 C.2.1 dL_law_778 (by decide) ?_
  refine lv_iadd C.1 C.2.1 dL_law_779 ?_
  refine x_scr (j := 6 * k + 2) C hX hbl hbA h.2.2.1 (nI_add (6 * k) 2) (by omega) (by omega) dL_law_780 ?_
  refine lv_aload_n C.1 C.2.1 dL_law_781 rfl (lv_at hl 0 rfl) ?_
  refine lv_iload_n C.1 C.2.1 dL_law_782 rfl (lv_at hl 3 rfl) ?_
  refine lv_iconst (v := (3 : Int32)) C.1 C.2.1 dL_law_783 (by decide) ?_
  refine lv_iadd C.1 C.2.1 dL_law_784 ?_
  refine x_scr (j := 6 * k + 3) C hX hbl hbA h.2.2.1 (nI_add (6 * k) 3) (by omega) (by omega) dL_law_785 ?_
  refine l_i K h ho hd (x_V C K h [.int (xs (6 * k + 1)), .int (xs (6 * k + 2)), .int (xs (6 * k + 3))] (c_X8_drawn FU_ l κ G cy adx H.size σx 0 (xs (6 * k + 1)) (xs (6 * k + 2)) (xs (6 * k + 3)) hkx hfx) mi_X8_drawn rfl im_yX8_drawn se_yX8_drawn ml_RL_88 cl_8 hkx ⟨rfl, rfl, Nat.le_of_ble_eq_true rfl, Nat.le_of_ble_eq_true rfl⟩ hl (Nat.le_of_ble_eq_true rfl) dL_law_786 ⟨by show _ ≤ 600000; omega, by show _ ≤ 7302250; omega⟩ rfl) (fun H locs h ho hd => ?_)
  refine lv_aload_n C.1 C.2.1 dL_law_789 rfl (lv_at hl 2 rfl) ?_
  refine lv_aload_n C.1 C.2.1 dL_law_790 rfl (lv_at hl 0 rfl) ?_
  refine lv_iload_n C.1 C.2.1 dL_law_791 rfl (lv_at hl 3 rfl) ?_
  refine lv_iconst (v := (1 : Int32)) C.1 C.2.1 dL_law_792 (by decide) ?_
  refine lv_iadd C.1 C.2.1 dL_law_793 ?_
  refine x_scr (j := 6 * k + 1) C hX hbl hbA h.2.2.1 (nI_add (6 * k) 1) (by omega) (by omega) dL_law_794 ?_
  refine lv_aload_n C.1 C.2.1 dL_law_795 rfl (lv_at hl 0 rfl) ?_
  refine lv_iload_n C.1 C.2.1 dL_law_796 rfl (lv_at hl 3 rfl) ?_
  refine lv_iconst (v := (2 : Int32)) C.1 C.2.1 dL_law_797 (by decide) ?_
  refine lv_iadd C.1 C.2.1 dL_law_798 ?_
  refine x_scr (j := 6 * k + 2) C hX hbl hbA h.2.2.1 (nI_add (6 * k) 2) (by omega) (by omega) dL_law_799 ?_
  refine lv_aload_n C.1 C.2.1 dL_law_800 rfl (lv_at hl 0 rfl) ?_
  refine lv_iload_n C.1 C.2.1 dL_law_801 rfl (lv_at hl 3 rfl) ?_
  refine lv_iconst (v := (3 : Int32)) C.1 C.2.1 dL_law_802 (by decide) ?_
  refine lv_iadd C.1 C.2.1 dL_law_803 ?_
  refine x_scr (j := 6 * k + 3) C hX hbl hbA h.2.2.1 (nI_add (6 * k) 3) (by omega) (by omega) dL_law_804 ?_
  refine l_i K ho h hd.symm (x_V C K ho [.int (xs (6 * k + 1)), .int (xs (6 * k + 2)), .int (xs (6 * k + 3))] (c_X9_drawn FU_ l κ G cy adm H.size σm 0 (xs (6 * k + 1)) (xs (6 * k + 2)) (xs (6 * k + 3)) hkm hfm) mi_X9_drawn rfl im_yX9_drawn se_yX9_drawn ml_RL_91 cl_9 hkm ⟨rfl, rfl, Nat.le_of_ble_eq_true rfl, Nat.le_of_ble_eq_true rfl⟩ hl (Nat.le_of_ble_eq_true rfl) dL_law_805 ⟨by show _ ≤ 600000; omega, by show _ ≤ 7302250; omega⟩ rfl) (fun H locs ho h hd => ?_)
  refine lv_icmp_eq (tgt := 1161) C.1 C.2.1 dL_law_808 (by decide) (fun _ => ?_) (fun z => absurd rfl z)
  refine W.widen (k := 1000 + 4 * (k + 1)) (n := 20000 + 483 * (k + 1)) (by omega) (by omega) ?_
  exact END adx adm σx' σm' hrel' H locs ls h ho hd.symm hl
set_option maxHeartbeats 4000000 in
set_option maxRecDepth 100000 in
theorem law_chance {p : Program} {l : Launch} {e : Env} {s : State} {m : MethodId} {below : List Frame} {meth : Method} {c : Code} {b L : Nat} {xs : Nat → Int32} {κ : Ka_} {G : va_G} {cy : Nat → ClassId} (hL : L ≤ 3072) (C : CallFix p m c code 4 s #[Value.ref b] wU_ RL) (hX : va_X b L xs s s.heap) (hbl : b < s.heap.size) (K : Kx_ κ G cy (fun q : Nat => s.heap.size ≤ q) s) (Rel : St_ → St_ → Prop) (hs : Sims_ Rel) {k : Nat} (hk : 6 * k + 6 ≤ L) (END : ∀ (adx adm : Nat → Nat) (σx σm : St_), Rel σx σm → ∀ (H : Heap) (locs : List Loc) (ls : Array Slot), Ht_ G cy (fun q : Nat => s.heap.size ≤ q) s adx σx H locs → Ht_ G cy (fun q : Nat => s.heap.size ≤ q) s adm σm H locs → Dj_ adx σx adm σm → lv_has ls 4 [(0, .ref b), (1, .ref (adx 0)), (2, .ref (adm 0)), (3, .int (nI (6 * k)))] → W p l e room_1 s m #[Value.ref b] below meth c H locs (1000 + 4 * (k + 1)) (20000 + 483 * (k + 1)) (lw_Z below #[Value.ref b] s) (F0 m 1161 ls [])) : ∀ (adx adm : Nat → Nat) (σx σm : St_), Rel σx σm → ∀ (H : Heap) (locs : List Loc) (ls : Array Slot), Ht_ G cy (fun q : Nat => s.heap.size ≤ q) s adx σx H locs → Ht_ G cy (fun q : Nat => s.heap.size ≤ q) s adm σm H locs → Dj_ adx σx adm σm → lv_has ls 4 [(0, .ref b), (1, .ref (adx 0)), (2, .ref (adm 0)), (3, .int (nI (6 * k)))] → W p l e room_1 s m #[Value.ref b] below meth c H locs (1000 + 4 * k) (20000 + 483 * k) (lw_Z below #[Value.ref b] s) (F0 m 813 ls []) := by
  intro adx adm σx σm hrel H locs ls h ho hd hl
  have hbA : ¬ (fun q : Nat => s.heap.size ≤ q) b := Nat.not_le.mpr hbl
  obtain ⟨hkx, hkm⟩ := hs.1 σx σm hrel
  obtain ⟨r, σx', σm', hfx, hfm, hrel'⟩ := hs.2.2.2.2.2.2.2.2.2.2.2.2.2.2.2.2.2.2.2.2.1 σx σm hrel (xs (6 * k + 1)) (xs (6 * k + 2)) (xs (6 * k + 3)) (xs (6 * k + 4)) (xs (6 * k + 5))
  refine lv_aload_n C.1 C.2.1 dL_law_813 rfl (lv_at hl 1 rfl) ?_
  refine lv_aload_n C.1 C.2.1 dL_law_814 rfl (lv_at hl 0 rfl) ?_
  refine lv_iload_n C.1 C.2.1 dL_law_815 rfl (lv_at hl 3 rfl) ?_
  refine lv_iconst (v := (1 : Int32)) C.1 C.2.1 dL_law_816 (by decide) ?_
  refine lv_iadd C.1 C.2.1 dL_law_817 ?_
  refine x_scr (j := 6 * k + 1) C hX hbl hbA h.2.2.1 (nI_add (6 * k) 1) (by omega) (by omega) dL_law_818 ?_
  refine lv_aload_n C.1 C.2.1 dL_law_819 rfl (lv_at hl 0 rfl) ?_
  refine lv_iload_n C.1 C.2.1 dL_law_820 rfl (lv_at hl 3 rfl) ?_
  refine lv_iconst (v := (2 : Int32)) C.1 C.2.1 dL_law_821 (by decide) ?_
  refine lv_iadd C.1 C.2.1 dL_law_822 ?_
  refine x_scr (j := 6 * k + 2) C hX hbl hbA h.2.2.1 (nI_add (6 * k) 2) (by omega) (by omega) dL_law_823 ?_
  refine lv_aload_n C.1 C.2.1 dL_law_824 rfl (lv_at hl 0 rfl) ?_
  refine lv_iload_n C.1 C.2.1 dL_law_825 rfl (lv_at hl 3 rfl) ?_
  refine lv_iconst (v := (3 : Int32)) C.1 C.2.1 dL_law_826 (by decide) ?_
  refine lv_iadd C.1 C.2.1 dL_law_827 ?_
  refine x_scr (j := 6 * k + 3) C hX hbl hbA h.2.2.1 (nI_add (6 * k) 3) (by omega) (by omega) dL_law_828 ?_
  refine lv_aload_n C.1 C.2.1 dL_law_829 rfl (lv_at hl 0 rfl) ?_
  refine lv_iload_n C.1 C.2.1 dL_law_830 rfl (lv_at hl 3 rfl) ?_
  refine lv_iconst (v := (4 : Int32)) C.1 C.2.1 dL_law_831 (by decide) ?_
  refine lv_iadd C.1 C.2.1 dL_law_832 ?_
  refine x_scr (j := 6 * k + 4) C hX hbl hbA h.2.2.1 (nI_add (6 * k) 4) (by omega) (by omega) dL_law_833 ?_
  refine lv_aload_n C.1 C.2.1 dL_law_834 rfl (lv_at hl 0 rfl) ?_
  refine lv_iload_n C.1 C.2.1 dL_law_835 rfl (lv_at hl 3 rfl) ?_
  refine lv_iconst (v := (5 : Int32)) C.1 C.2.1 dL_law_836 (by decide) ?_
  refine lv_iadd C.1 C.2.1 dL_law_837 ?_
  refine x_scr (j := 6 * k + 5) C hX hbl hbA h.2.2.1 (nI_add (6 * k) 5) (by omega) (by omega) dL_law_838 ?_
  refine l_l K h ho hd (x_V C K h [.int (xs (6 * k + 1)), .int (xs (6 * k + 2)), .int (xs (6 * k + 3)), .int (xs (6 * k + 4)), .int (xs (6 * k + 5))] (c_X8_chance FU_ l κ G cy adx H.size σx 0 (xs (6 * k + 1)) (xs (6 * k + 2)) (xs (6 * k + 3)) (xs (6 * k + 4)) (xs (6 * k + 5)) hkx hfx) mi_X8_chance rfl im_yX8_chance se_yX8_chance ml_RL_92 cl_8 hkx ⟨rfl, rfl, Nat.le_of_ble_eq_true rfl, Nat.le_of_ble_eq_true rfl⟩ hl (Nat.le_of_ble_eq_true rfl) dL_law_839 ⟨by show _ ≤ 600000; omega, by show _ ≤ 7302250; omega⟩ rfl) (fun H locs h ho hd => ?_)
  refine lv_aload_n C.1 C.2.1 dL_law_842 rfl (lv_at hl 2 rfl) ?_
  refine lv_aload_n C.1 C.2.1 dL_law_843 rfl (lv_at hl 0 rfl) ?_
  refine lv_iload_n C.1 C.2.1 dL_law_844 rfl (lv_at hl 3 rfl) ?_
  refine lv_iconst (v := (1 : Int32)) C.1 C.2.1 dL_law_845 (by decide) ?_
  refine lv_iadd C.1 C.2.1 dL_law_846 ?_
  refine x_scr (j := 6 * k + 1) C hX hbl hbA h.2.2.1 (nI_add (6 * k) 1) (by omega) (by omega) dL_law_847 ?_
  refine lv_aload_n C.1 C.2.1 dL_law_848 rfl (lv_at hl 0 rfl) ?_
  refine lv_iload_n C.1 C.2.1 dL_law_849 rfl (lv_at hl 3 rfl) ?_
  refine lv_iconst (v := (2 : Int32)) C.1 C.2.1 dL_law_850 (by decide) ?_
  refine lv_iadd C.1 C.2.1 dL_law_851 ?_
  refine x_scr (j := 6 * k + 2) C hX hbl hbA h.2.2.1 (nI_add (6 * k) 2) (by omega) (by omega) dL_law_852 ?_
  refine lv_aload_n C.1 C.2.1 dL_law_853 rfl (lv_at hl 0 rfl) ?_
  refine lv_iload_n C.1 C.2.1 dL_law_854 rfl (lv_at hl 3 rfl) ?_
  refine lv_iconst (v := (3 : Int32)) C.1 C.2.1 dL_law_855 (by decide) ?_
  refine lv_iadd C.1 C.2.1 dL_law_856 ?_
  refine x_scr (j := 6 * k + 3) C hX hbl hbA h.2.2.1 (nI_add (6 * k) 3) (by omega) (by omega) dL_law_857 ?_
  refine lv_aload_n C.1 C.2.1 dL_law_858 rfl (lv_at hl 0 rfl) ?_
  refine lv_iload_n C.1 C.2.1 dL_law_859 rfl (lv_at hl 3 rfl) ?_
  refine lv_iconst (v := (4 : Int32)) C.1 C.2.1 dL_law_860 (by decide) ?_
  refine lv_iadd C.1 C.2.1 dL_law_861 ?_
  refine x_scr (j := 6 * k + 4) C hX hbl hbA h.2.2.1 (nI_add (6 * k) 4) (by omega) (by omega) dL_law_862 ?_
  refine lv_aload_n C.1 C.2.1 dL_law_863 rfl (lv_at hl 0 rfl) ?_
  refine lv_iload_n C.1 C.2.1 dL_law_864 rfl (lv_at hl 3 rfl) ?_
  refine lv_iconst (v := (5 : Int32)) C.1 C.2.1 dL_law_865 (by decide) ?_
  refine lv_iadd C.1 C.2.1 dL_law_866 ?_
  refine x_scr (j := 6 * k + 5) C hX hbl hbA h.2.2.1 (nI_add (6 * k) 5) (by omega) (by omega) dL_law_867 ?_
  refine l_l K ho h hd.symm (x_V C K ho [.int (xs (6 * k + 1)), .int (xs (6 * k + 2)), .int (xs (6 * k + 3)), .int (xs (6 * k + 4)), .int (xs (6 * k + 5))] (c_X9_chance FU_ l κ G cy adm H.size σm 0 (xs (6 * k + 1)) (xs (6 * k + 2)) (xs (6 * k + 3)) (xs (6 * k + 4)) (xs (6 * k + 5)) hkm hfm) mi_X9_chance rfl im_yX9_chance se_yX9_chance ml_RL_96 cl_9 hkm ⟨rfl, rfl, Nat.le_of_ble_eq_true rfl, Nat.le_of_ble_eq_true rfl⟩ hl (Nat.le_of_ble_eq_true rfl) dL_law_868 ⟨by show _ ≤ 600000; omega, by show _ ≤ 7302250; omega⟩ rfl) (fun H locs ho h hd => ?_)
  refine W.lcmp C.1 C.2.1 dL_law_871 ?_
  refine lv_if_eq (tgt := 1161) C.1 C.2.1 dL_law_872 (by decide) (fun _ => ?_) (fun z => absurd (lg_same r) z)
  refine W.widen (k := 1000 + 4 * (k + 1)) (n := 20000 + 483 * (k + 1)) (by omega) (by omega) ?_
  exact END adx adm σx' σm' hrel' H locs ls h ho hd.symm hl
set_option maxHeartbeats 4000000 in
set_option maxRecDepth 100000 in
theorem law_image {p : Program} {l : Launch} {e : Env} {s : State} {m : MethodId} {below : List Frame} {meth : Method} {c : Code} {b L : Nat} {xs : Nat → Int32} {κ : Ka_} {G : va_G} {cy : Nat → ClassId} (hL : L ≤ 3072) (C : CallFix p m c code 4 s #[Value.ref b] wU_ RL) (hX : va_X b L xs s s.heap) (hbl : b < s.heap.size) (K : Kx_ κ G cy (fun q : Nat => s.heap.size ≤ q) s) (Rel : St_ → St_ → Prop) (hs : Sims_ Rel) {k : Nat} (hk : 6 * k + 6 ≤ L) (END : ∀ (adx adm : Nat → Nat) (σx σm : St_), Rel σx σm → ∀ (H : Heap) (locs : List Loc) (ls : Array Slot), Ht_ G cy (fun q : Nat => s.heap.size ≤ q) s adx σx H locs → Ht_ G cy (fun q : Nat => s.heap.size ≤ q) s adm σm H locs → Dj_ adx σx adm σm → lv_has ls 4 [(0, .ref b), (1, .ref (adx 0)), (2, .ref (adm 0)), (3, .int (nI (6 * k)))] → W p l e room_1 s m #[Value.ref b] below meth c H locs (1000 + 4 * (k + 1)) (20000 + 483 * (k + 1)) (lw_Z below #[Value.ref b] s) (F0 m 1161 ls [])) : ∀ (adx adm : Nat → Nat) (σx σm : St_), Rel σx σm → ∀ (H : Heap) (locs : List Loc) (ls : Array Slot), Ht_ G cy (fun q : Nat => s.heap.size ≤ q) s adx σx H locs → Ht_ G cy (fun q : Nat => s.heap.size ≤ q) s adm σm H locs → Dj_ adx σx adm σm → lv_has ls 4 [(0, .ref b), (1, .ref (adx 0)), (2, .ref (adm 0)), (3, .int (nI (6 * k)))] → W p l e room_1 s m #[Value.ref b] below meth c H locs (1000 + 4 * k) (20000 + 483 * k) (lw_Z below #[Value.ref b] s) (F0 m 877 ls []) := by
  intro adx adm σx σm hrel H locs ls h ho hd hl
  have hbA : ¬ (fun q : Nat => s.heap.size ≤ q) b := Nat.not_le.mpr hbl
  obtain ⟨hkx, hkm⟩ := hs.1 σx σm hrel
  obtain ⟨r, σx', σm', hfx, hfm, hrel'⟩ := hs.2.2.2.2.2.2.2.2.2.2.2.2.2.2.2.2.2.2.2.2.2.1 σx σm hrel ()
  refine lv_aload_n C.1 C.2.1 dL_law_877 rfl (lv_at hl 1 rfl) ?_
  refine l_i K h ho hd (x_V C K h [] (c_X8_image FU_ l κ G cy adx H.size σx 0 hkx hfx) mi_X8_image rfl im_yX8_image se_yX8_image ml_RL_97 cl_8 hkx ⟨rfl, rfl, Nat.le_of_ble_eq_true rfl, Nat.le_of_ble_eq_true rfl⟩ hl (Nat.le_of_ble_eq_true rfl) dL_law_878 ⟨by show _ ≤ 600000; omega, by show _ ≤ 7302250; omega⟩ rfl) (fun H locs h ho hd => ?_)
  refine lv_aload_n C.1 C.2.1 dL_law_881 rfl (lv_at hl 2 rfl) ?_
  refine l_i K ho h hd.symm (x_V C K ho [] (c_X9_image FU_ l κ G cy adm H.size σm 0 hkm hfm) mi_X9_image rfl im_yX9_image se_yX9_image ml_RL_100 cl_9 hkm ⟨rfl, rfl, Nat.le_of_ble_eq_true rfl, Nat.le_of_ble_eq_true rfl⟩ hl (Nat.le_of_ble_eq_true rfl) dL_law_882 ⟨by show _ ≤ 600000; omega, by show _ ≤ 7302250; omega⟩ rfl) (fun H locs ho h hd => ?_)
  refine lv_icmp_eq (tgt := 1161) C.1 C.2.1 dL_law_885 (by decide) (fun _ => ?_) (fun z => absurd rfl z)
  refine W.widen (k := 1000 + 4 * (k + 1)) (n := 20000 + 483 * (k + 1)) (by omega) (by omega) ?_
  exact END adx adm σx' σm' hrel' H locs ls h ho hd.symm hl
set_option maxHeartbeats 4000000 in
set_option maxRecDepth 100000 in
theorem law_back {p : Program} {l : Launch} {e : Env} {s : State} {m : MethodId} {below : List Frame} {meth : Method} {c : Code} {b L : Nat} {xs : Nat → Int32} {κ : Ka_} {G : va_G} {cy : Nat → ClassId} (hL : L ≤ 3072) (C : CallFix p m c code 4 s #[Value.ref b] wU_ RL) (hX : va_X b L xs s s.heap) (hbl : b < s.heap.size) (K : Kx_ κ G cy (fun q : Nat => s.heap.size ≤ q) s) (Rel : St_ → St_ → Prop) (hs : Sims_ Rel) {k : Nat} (hk : 6 * k + 6 ≤ L) (END : ∀ (adx adm : Nat → Nat) (σx σm : St_), Rel σx σm → ∀ (H : Heap) (locs : List Loc) (ls : Array Slot), Ht_ G cy (fun q : Nat => s.heap.size ≤ q) s adx σx H locs → Ht_ G cy (fun q : Nat => s.heap.size ≤ q) s adm σm H locs → Dj_ adx σx adm σm → lv_has ls 4 [(0, .ref b), (1, .ref (adx 0)), (2, .ref (adm 0)), (3, .int (nI (6 * k)))] → W p l e room_1 s m #[Value.ref b] below meth c H locs (1000 + 4 * (k + 1)) (20000 + 483 * (k + 1)) (lw_Z below #[Value.ref b] s) (F0 m 1161 ls [])) : ∀ (adx adm : Nat → Nat) (σx σm : St_), Rel σx σm → ∀ (H : Heap) (locs : List Loc) (ls : Array Slot), Ht_ G cy (fun q : Nat => s.heap.size ≤ q) s adx σx H locs → Ht_ G cy (fun q : Nat => s.heap.size ≤ q) s adm σm H locs → Dj_ adx σx adm σm → lv_has ls 4 [(0, .ref b), (1, .ref (adx 0)), (2, .ref (adm 0)), (3, .int (nI (6 * k)))] → W p l e room_1 s m #[Value.ref b] below meth c H locs (1000 + 4 * k) (20000 + 483 * k) (lw_Z below #[Value.ref b] s) (F0 m 890 ls []) := by
  intro adx adm σx σm hrel H locs ls h ho hd hl
  have hbA : ¬ (fun q : Nat => s.heap.size ≤ q) b := Nat.not_le.mpr hbl
  obtain ⟨hkx, hkm⟩ := hs.1 σx σm hrel
  obtain ⟨r, σx', σm', hfx, hfm, hrel'⟩ := hs.2.2.2.2.2.2.2.2.2.2.2.2.2.2.2.2.2.2.2.2.2.2.1 σx σm hrel ()
  refine lv_aload_n C.1 C.2.1 dL_law_890 rfl (lv_at hl 1 rfl) ?_
  refine l_i K h ho hd (x_V C K h [] (c_X8_back FU_ l κ G cy adx H.size σx 0 hkx hfx) mi_X8_back rfl im_yX8_back se_yX8_back ml_RL_101 cl_8 hkx ⟨rfl, rfl, Nat.le_of_ble_eq_true rfl, Nat.le_of_ble_eq_true rfl⟩ hl (Nat.le_of_ble_eq_true rfl) dL_law_891 ⟨by show _ ≤ 600000; omega, by show _ ≤ 7302250; omega⟩ rfl) (fun H locs h ho hd => ?_)
  refine lv_aload_n C.1 C.2.1 dL_law_894 rfl (lv_at hl 2 rfl) ?_
  refine l_i K ho h hd.symm (x_V C K ho [] (c_X9_back FU_ l κ G cy adm H.size σm 0 hkm hfm) mi_X9_back rfl im_yX9_back se_yX9_back ml_RL_104 cl_9 hkm ⟨rfl, rfl, Nat.le_of_ble_eq_true rfl, Nat.le_of_ble_eq_true rfl⟩ hl (Nat.le_of_ble_eq_true rfl) dL_law_895 ⟨by show _ ≤ 600000; omega, by show _ ≤ 7302250; omega⟩ rfl) (fun H locs ho h hd => ?_)
  refine lv_icmp_eq (tgt := 1161) C.1 C.2.1 dL_law_898 (by decide) (fun _ => ?_) (fun z => absurd rfl z)
  refine W.widen (k := 1000 + 4 * (k + 1)) (n := 20000 + 483 * (k + 1)) (by omega) (by omega) ?_
  exact END adx adm σx' σm' hrel' H locs ls h ho hd.symm hl
set_option maxHeartbeats 4000000 in
set_option maxRecDepth 100000 in
theorem law_count {p : Program} {l : Launch} {e : Env} {s : State} {m : MethodId} {below : List Frame} {meth : Method} {c : Code} {b L : Nat} {xs : Nat → Int32} {κ : Ka_} {G : va_G} {cy : Nat → ClassId} (hL : L ≤ 3072) (C : CallFix p m c code 4 s #[Value.ref b] wU_ RL) (hX : va_X b L xs s s.heap) (hbl : b < s.heap.size) (K : Kx_ κ G cy (fun q : Nat => s.heap.size ≤ q) s) (Rel : St_ → St_ → Prop) (hs : Sims_ Rel) {k : Nat} (hk : 6 * k + 6 ≤ L) (END : ∀ (adx adm : Nat → Nat) (σx σm : St_), Rel σx σm → ∀ (H : Heap) (locs : List Loc) (ls : Array Slot), Ht_ G cy (fun q : Nat => s.heap.size ≤ q) s adx σx H locs → Ht_ G cy (fun q : Nat => s.heap.size ≤ q) s adm σm H locs → Dj_ adx σx adm σm → lv_has ls 4 [(0, .ref b), (1, .ref (adx 0)), (2, .ref (adm 0)), (3, .int (nI (6 * k)))] → W p l e room_1 s m #[Value.ref b] below meth c H locs (1000 + 4 * (k + 1)) (20000 + 483 * (k + 1)) (lw_Z below #[Value.ref b] s) (F0 m 1161 ls [])) : ∀ (adx adm : Nat → Nat) (σx σm : St_), Rel σx σm → ∀ (H : Heap) (locs : List Loc) (ls : Array Slot), Ht_ G cy (fun q : Nat => s.heap.size ≤ q) s adx σx H locs → Ht_ G cy (fun q : Nat => s.heap.size ≤ q) s adm σm H locs → Dj_ adx σx adm σm → lv_has ls 4 [(0, .ref b), (1, .ref (adx 0)), (2, .ref (adm 0)), (3, .int (nI (6 * k)))] → W p l e room_1 s m #[Value.ref b] below meth c H locs (1000 + 4 * k) (20000 + 483 * k) (lw_Z below #[Value.ref b] s) (F0 m 903 ls []) := by
  intro adx adm σx σm hrel H locs ls h ho hd hl
  have hbA : ¬ (fun q : Nat => s.heap.size ≤ q) b := Nat.not_le.mpr hbl
  obtain ⟨hkx, hkm⟩ := hs.1 σx σm hrel
  obtain ⟨r, hfx, hfm, hrel'⟩ := hs.2.2.2.2.2.2.2.2.2.2.2.2.2.2.2.2.2.2.2.2.2.2.2.1 σx σm hrel (xs (6 * k + 1))
  refine lv_aload_n C.1 C.2.1 dL_law_903 rfl (lv_at hl 1 rfl) ?_
  refine lv_aload_n C.1 C.2.1 dL_law_904 rfl (lv_at hl 0 rfl) ?_
  refine lv_iload_n C.1 C.2.1 dL_law_905 rfl (lv_at hl 3 rfl) ?_
  refine lv_iconst (v := (1 : Int32)) C.1 C.2.1 dL_law_906 (by decide) ?_
  refine lv_iadd C.1 C.2.1 dL_law_907 ?_
  refine x_scr (j := 6 * k + 1) C hX hbl hbA h.2.2.1 (nI_add (6 * k) 1) (by omega) (by omega) dL_law_908 ?_
  refine l_i K h ho hd (x_V C K h [.int (xs (6 * k + 1))] (c_X8_count FU_ l κ G cy adx H.size σx 0 (xs (6 * k + 1)) hkx hfx) mi_X8_count rfl im_yX8_count se_yX8_count ml_RL_105 cl_8 hkx ⟨rfl, rfl, Nat.le_of_ble_eq_true rfl, Nat.le_of_ble_eq_true rfl⟩ hl (Nat.le_of_ble_eq_true rfl) dL_law_909 ⟨by show _ ≤ 600000; omega, by show _ ≤ 7302250; omega⟩ rfl) (fun H locs h ho hd => ?_)
  refine lv_aload_n C.1 C.2.1 dL_law_912 rfl (lv_at hl 2 rfl) ?_
  refine lv_aload_n C.1 C.2.1 dL_law_913 rfl (lv_at hl 0 rfl) ?_
  refine lv_iload_n C.1 C.2.1 dL_law_914 rfl (lv_at hl 3 rfl) ?_
  refine lv_iconst (v := (1 : Int32)) C.1 C.2.1 dL_law_915 (by decide) ?_
  refine lv_iadd C.1 C.2.1 dL_law_916 ?_
  refine x_scr (j := 6 * k + 1) C hX hbl hbA h.2.2.1 (nI_add (6 * k) 1) (by omega) (by omega) dL_law_917 ?_
  refine l_i K ho h hd.symm (x_V C K ho [.int (xs (6 * k + 1))] (c_X9_count FU_ l κ G cy adm H.size σm 0 (xs (6 * k + 1)) hkm hfm) mi_X9_count rfl im_yX9_count se_yX9_count ml_RL_108 cl_9 hkm ⟨rfl, rfl, Nat.le_of_ble_eq_true rfl, Nat.le_of_ble_eq_true rfl⟩ hl (Nat.le_of_ble_eq_true rfl) dL_law_918 ⟨by show _ ≤ 600000; omega, by show _ ≤ 7302250; omega⟩ rfl) (fun H locs ho h hd => ?_)
  refine lv_icmp_eq (tgt := 1161) C.1 C.2.1 dL_law_921 (by decide) (fun _ => ?_) (fun z => absurd rfl z)
  refine W.widen (k := 1000 + 4 * (k + 1)) (n := 20000 + 483 * (k + 1)) (by omega) (by omega) ?_
  exact END adx adm σx σm hrel' H locs ls h ho hd.symm hl
set_option maxHeartbeats 4000000 in
set_option maxRecDepth 100000 in
theorem law_sheet {p : Program} {l : Launch} {e : Env} {s : State} {m : MethodId} {below : List Frame} {meth : Method} {c : Code} {b L : Nat} {xs : Nat → Int32} {κ : Ka_} {G : va_G} {cy : Nat → ClassId} (hL : L ≤ 3072) (C : CallFix p m c code 4 s #[Value.ref b] wU_ RL) (hX : va_X b L xs s s.heap) (hbl : b < s.heap.size) (K : Kx_ κ G cy (fun q : Nat => s.heap.size ≤ q) s) (Rel : St_ → St_ → Prop) (hs : Sims_ Rel) {k : Nat} (hk : 6 * k + 6 ≤ L) (END : ∀ (adx adm : Nat → Nat) (σx σm : St_), Rel σx σm → ∀ (H : Heap) (locs : List Loc) (ls : Array Slot), Ht_ G cy (fun q : Nat => s.heap.size ≤ q) s adx σx H locs → Ht_ G cy (fun q : Nat => s.heap.size ≤ q) s adm σm H locs → Dj_ adx σx adm σm → lv_has ls 4 [(0, .ref b), (1, .ref (adx 0)), (2, .ref (adm 0)), (3, .int (nI (6 * k)))] → W p l e room_1 s m #[Value.ref b] below meth c H locs (1000 + 4 * (k + 1)) (20000 + 483 * (k + 1)) (lw_Z below #[Value.ref b] s) (F0 m 1161 ls [])) : ∀ (adx adm : Nat → Nat) (σx σm : St_), Rel σx σm → ∀ (H : Heap) (locs : List Loc) (ls : Array Slot), Ht_ G cy (fun q : Nat => s.heap.size ≤ q) s adx σx H locs → Ht_ G cy (fun q : Nat => s.heap.size ≤ q) s adm σm H locs → Dj_ adx σx adm σm → lv_has ls 4 [(0, .ref b), (1, .ref (adx 0)), (2, .ref (adm 0)), (3, .int (nI (6 * k)))] → W p l e room_1 s m #[Value.ref b] below meth c H locs (1000 + 4 * k) (20000 + 483 * k) (lw_Z below #[Value.ref b] s) (F0 m 926 ls []) := by
  intro adx adm σx σm hrel H locs ls h ho hd hl
  have hbA : ¬ (fun q : Nat => s.heap.size ≤ q) b := Nat.not_le.mpr hbl
  obtain ⟨hkx, hkm⟩ := hs.1 σx σm hrel
  obtain ⟨r, σx', σm', hfx, hfm, hrel'⟩ := hs.2.2.2.2.2.2.2.2.2.2.2.2.2.2.2.2.2.2.2.2.2.2.2.2.1 σx σm hrel (xs (6 * k + 1)) (xs (6 * k + 2)) (xs (6 * k + 3))
  refine lv_aload_n C.1 C.2.1 dL_law_926 rfl (lv_at hl 1 rfl) ?_
  refine lv_aload_n C.1 C.2.1 dL_law_927 rfl (lv_at hl 0 rfl) ?_
  refine lv_iload_n C.1 C.2.1 dL_law_928 rfl (lv_at hl 3 rfl) ?_
  refine lv_iconst (v := (1 : Int32)) C.1 C.2.1 dL_law_929 (by decide) ?_
  refine lv_iadd C.1 C.2.1 dL_law_930 ?_
  refine x_scr (j := 6 * k + 1) C hX hbl hbA h.2.2.1 (nI_add (6 * k) 1) (by omega) (by omega) dL_law_931 ?_
  refine lv_aload_n C.1 C.2.1 dL_law_932 rfl (lv_at hl 0 rfl) ?_
  refine lv_iload_n C.1 C.2.1 dL_law_933 rfl (lv_at hl 3 rfl) ?_
  refine lv_iconst (v := (2 : Int32)) C.1 C.2.1 dL_law_934 (by decide) ?_
  refine lv_iadd C.1 C.2.1 dL_law_935 ?_
  refine x_scr (j := 6 * k + 2) C hX hbl hbA h.2.2.1 (nI_add (6 * k) 2) (by omega) (by omega) dL_law_936 ?_
  refine lv_aload_n C.1 C.2.1 dL_law_937 rfl (lv_at hl 0 rfl) ?_
  refine lv_iload_n C.1 C.2.1 dL_law_938 rfl (lv_at hl 3 rfl) ?_
  refine lv_iconst (v := (3 : Int32)) C.1 C.2.1 dL_law_939 (by decide) ?_
  refine lv_iadd C.1 C.2.1 dL_law_940 ?_
  refine x_scr (j := 6 * k + 3) C hX hbl hbA h.2.2.1 (nI_add (6 * k) 3) (by omega) (by omega) dL_law_941 ?_
  refine l_i K h ho hd (x_V C K h [.int (xs (6 * k + 1)), .int (xs (6 * k + 2)), .int (xs (6 * k + 3))] (c_X8_sheet FU_ l κ G cy adx H.size σx 0 (xs (6 * k + 1)) (xs (6 * k + 2)) (xs (6 * k + 3)) hkx hfx) mi_X8_sheet rfl im_yX8_sheet se_yX8_sheet ml_RL_109 cl_8 hkx ⟨rfl, rfl, Nat.le_of_ble_eq_true rfl, Nat.le_of_ble_eq_true rfl⟩ hl (Nat.le_of_ble_eq_true rfl) dL_law_942 ⟨by show _ ≤ 600000; omega, by show _ ≤ 7302250; omega⟩ rfl) (fun H locs h ho hd => ?_)
  refine lv_aload_n C.1 C.2.1 dL_law_945 rfl (lv_at hl 2 rfl) ?_
  refine lv_aload_n C.1 C.2.1 dL_law_946 rfl (lv_at hl 0 rfl) ?_
  refine lv_iload_n C.1 C.2.1 dL_law_947 rfl (lv_at hl 3 rfl) ?_
  refine lv_iconst (v := (1 : Int32)) C.1 C.2.1 dL_law_948 (by decide) ?_
  refine lv_iadd C.1 C.2.1 dL_law_949 ?_
  refine x_scr (j := 6 * k + 1) C hX hbl hbA h.2.2.1 (nI_add (6 * k) 1) (by omega) (by omega) dL_law_950 ?_
  refine lv_aload_n C.1 C.2.1 dL_law_951 rfl (lv_at hl 0 rfl) ?_
  refine lv_iload_n C.1 C.2.1 dL_law_952 rfl (lv_at hl 3 rfl) ?_
  refine lv_iconst (v := (2 : Int32)) C.1 C.2.1 dL_law_953 (by decide) ?_
  refine lv_iadd C.1 C.2.1 dL_law_954 ?_
  refine x_scr (j := 6 * k + 2) C hX hbl hbA h.2.2.1 (nI_add (6 * k) 2) (by omega) (by omega) dL_law_955 ?_
  refine lv_aload_n C.1 C.2.1 dL_law_956 rfl (lv_at hl 0 rfl) ?_
  refine lv_iload_n C.1 C.2.1 dL_law_957 rfl (lv_at hl 3 rfl) ?_
  refine lv_iconst (v := (3 : Int32)) C.1 C.2.1 dL_law_958 (by decide) ?_
  refine lv_iadd C.1 C.2.1 dL_law_959 ?_
  refine x_scr (j := 6 * k + 3) C hX hbl hbA h.2.2.1 (nI_add (6 * k) 3) (by omega) (by omega) dL_law_960 ?_
  refine l_i K ho h hd.symm (x_V C K ho [.int (xs (6 * k + 1)), .int (xs (6 * k + 2)), .int (xs (6 * k + 3))] (c_X9_sheet FU_ l κ G cy adm H.size σm 0 (xs (6 * k + 1)) (xs (6 * k + 2)) (xs (6 * k + 3)) hkm hfm) mi_X9_sheet rfl im_yX9_sheet se_yX9_sheet ml_RL_112 cl_9 hkm ⟨rfl, rfl, Nat.le_of_ble_eq_true rfl, Nat.le_of_ble_eq_true rfl⟩ hl (Nat.le_of_ble_eq_true rfl) dL_law_961 ⟨by show _ ≤ 600000; omega, by show _ ≤ 7302250; omega⟩ rfl) (fun H locs ho h hd => ?_)
  refine lv_icmp_eq (tgt := 1161) C.1 C.2.1 dL_law_964 (by decide) (fun _ => ?_) (fun z => absurd rfl z)
  refine W.widen (k := 1000 + 4 * (k + 1)) (n := 20000 + 483 * (k + 1)) (by omega) (by omega) ?_
  exact END adx adm σx' σm' hrel' H locs ls h ho hd.symm hl
set_option maxHeartbeats 4000000 in
set_option maxRecDepth 100000 in
theorem law_cell {p : Program} {l : Launch} {e : Env} {s : State} {m : MethodId} {below : List Frame} {meth : Method} {c : Code} {b L : Nat} {xs : Nat → Int32} {κ : Ka_} {G : va_G} {cy : Nat → ClassId} (hL : L ≤ 3072) (C : CallFix p m c code 4 s #[Value.ref b] wU_ RL) (hX : va_X b L xs s s.heap) (hbl : b < s.heap.size) (K : Kx_ κ G cy (fun q : Nat => s.heap.size ≤ q) s) (Rel : St_ → St_ → Prop) (hs : Sims_ Rel) {k : Nat} (hk : 6 * k + 6 ≤ L) (END : ∀ (adx adm : Nat → Nat) (σx σm : St_), Rel σx σm → ∀ (H : Heap) (locs : List Loc) (ls : Array Slot), Ht_ G cy (fun q : Nat => s.heap.size ≤ q) s adx σx H locs → Ht_ G cy (fun q : Nat => s.heap.size ≤ q) s adm σm H locs → Dj_ adx σx adm σm → lv_has ls 4 [(0, .ref b), (1, .ref (adx 0)), (2, .ref (adm 0)), (3, .int (nI (6 * k)))] → W p l e room_1 s m #[Value.ref b] below meth c H locs (1000 + 4 * (k + 1)) (20000 + 483 * (k + 1)) (lw_Z below #[Value.ref b] s) (F0 m 1161 ls [])) : ∀ (adx adm : Nat → Nat) (σx σm : St_), Rel σx σm → ∀ (H : Heap) (locs : List Loc) (ls : Array Slot), Ht_ G cy (fun q : Nat => s.heap.size ≤ q) s adx σx H locs → Ht_ G cy (fun q : Nat => s.heap.size ≤ q) s adm σm H locs → Dj_ adx σx adm σm → lv_has ls 4 [(0, .ref b), (1, .ref (adx 0)), (2, .ref (adm 0)), (3, .int (nI (6 * k)))] → W p l e room_1 s m #[Value.ref b] below meth c H locs (1000 + 4 * k) (20000 + 483 * k) (lw_Z below #[Value.ref b] s) (F0 m 969 ls []) := by
  intro adx adm σx σm hrel H locs ls h ho hd hl
  have hbA : ¬ (fun q : Nat => s.heap.size ≤ q) b := Nat.not_le.mpr hbl
  obtain ⟨hkx, hkm⟩ := hs.1 σx σm hrel
  obtain ⟨r, σx', σm', hfx, hfm, hrel'⟩ := hs.2.2.2.2.2.2.2.2.2.2.2.2.2.2.2.2.2.2.2.2.2.2.2.2.2.1 σx σm hrel (xs (6 * k + 1)) (xs (6 * k + 2)) (xs (6 * k + 3))
  refine lv_aload_n C.1 C.2.1 dL_law_969 rfl (lv_at hl 1 rfl) ?_
  refine lv_aload_n C.1 C.2.1 dL_law_970 rfl (lv_at hl 0 rfl) ?_
  refine lv_iload_n C.1 C.2.1 dL_law_971 rfl (lv_at hl 3 rfl) ?_
  refine lv_iconst (v := (1 : Int32)) C.1 C.2.1 dL_law_972 (by decide) ?_
  refine lv_iadd C.1 C.2.1 dL_law_973 ?_
  refine x_scr (j := 6 * k + 1) C hX hbl hbA h.2.2.1 (nI_add (6 * k) 1) (by omega) (by omega) dL_law_974 ?_
  refine lv_aload_n C.1 C.2.1 dL_law_975 rfl (lv_at hl 0 rfl) ?_
  refine lv_iload_n C.1 C.2.1 dL_law_976 rfl (lv_at hl 3 rfl) ?_
  refine lv_iconst (v := (2 : Int32)) C.1 C.2.1 dL_law_977 (by decide) ?_
  refine lv_iadd C.1 C.2.1 dL_law_978 ?_
  refine x_scr (j := 6 * k + 2) C hX hbl hbA h.2.2.1 (nI_add (6 * k) 2) (by omega) (by omega) dL_law_979 ?_
  refine lv_aload_n C.1 C.2.1 dL_law_980 rfl (lv_at hl 0 rfl) ?_
  refine lv_iload_n C.1 C.2.1 dL_law_981 rfl (lv_at hl 3 rfl) ?_
  refine lv_iconst (v := (3 : Int32)) C.1 C.2.1 dL_law_982 (by decide) ?_
  refine lv_iadd C.1 C.2.1 dL_law_983 ?_
  refine x_scr (j := 6 * k + 3) C hX hbl hbA h.2.2.1 (nI_add (6 * k) 3) (by omega) (by omega) dL_law_984 ?_
  refine l_i K h ho hd (x_V C K h [.int (xs (6 * k + 1)), .int (xs (6 * k + 2)), .int (xs (6 * k + 3))] (c_X8_cell l κ G cy adx H.size σx 0 (xs (6 * k + 1)) (xs (6 * k + 2)) (xs (6 * k + 3)) hkx hfx) mi_X8_cell rfl im_yX8_cell se_yX8_cell ml_RL_113 cl_8 hkx ⟨rfl, rfl, Nat.le_of_ble_eq_true rfl, Nat.le_of_ble_eq_true rfl⟩ hl (Nat.le_of_ble_eq_true rfl) dL_law_985 ⟨by show _ ≤ 600000; omega, by show _ ≤ 7302250; omega⟩ rfl) (fun H locs h ho hd => ?_)
  refine lv_aload_n C.1 C.2.1 dL_law_988 rfl (lv_at hl 2 rfl) ?_
  refine lv_aload_n C.1 C.2.1 dL_law_989 rfl (lv_at hl 0 rfl) ?_
  refine lv_iload_n C.1 C.2.1 dL_law_990 rfl (lv_at hl 3 rfl) ?_
  refine lv_iconst (v := (1 : Int32)) C.1 C.2.1 dL_law_991 (by decide) ?_
  refine lv_iadd C.1 C.2.1 dL_law_992 ?_
  refine x_scr (j := 6 * k + 1) C hX hbl hbA h.2.2.1 (nI_add (6 * k) 1) (by omega) (by omega) dL_law_993 ?_
  refine lv_aload_n C.1 C.2.1 dL_law_994 rfl (lv_at hl 0 rfl) ?_
  refine lv_iload_n C.1 C.2.1 dL_law_995 rfl (lv_at hl 3 rfl) ?_
  refine lv_iconst (v := (2 : Int32)) C.1 C.2.1 dL_law_996 (by decide) ?_
  refine lv_iadd C.1 C.2.1 dL_law_997 ?_
  refine x_scr (j := 6 * k + 2) C hX hbl hbA h.2.2.1 (nI_add (6 * k) 2) (by omega) (by omega) dL_law_998 ?_
  refine lv_aload_n C.1 C.2.1 dL_law_999 rfl (lv_at hl 0 rfl) ?_
  refine lv_iload_n C.1 C.2.1 dL_law_1000 rfl (lv_at hl 3 rfl) ?_
  refine lv_iconst (v := (3 : Int32)) C.1 C.2.1 dL_law_1001 (by decide) ?_
  refine lv_iadd C.1 C.2.1 dL_law_1002 ?_
  refine x_scr (j := 6 * k + 3) C hX hbl hbA h.2.2.1 (nI_add (6 * k) 3) (by omega) (by omega) dL_law_1003 ?_
  refine l_i K ho h hd.symm (x_V C K ho [.int (xs (6 * k + 1)), .int (xs (6 * k + 2)), .int (xs (6 * k + 3))] (c_X9_cell l κ G cy adm H.size σm 0 (xs (6 * k + 1)) (xs (6 * k + 2)) (xs (6 * k + 3)) hkm hfm) mi_X9_cell rfl im_yX9_cell se_yX9_cell ml_RL_116 cl_9 hkm ⟨rfl, rfl, Nat.le_of_ble_eq_true rfl, Nat.le_of_ble_eq_true rfl⟩ hl (Nat.le_of_ble_eq_true rfl) dL_law_1004 ⟨by show _ ≤ 600000; omega, by show _ ≤ 7302250; omega⟩ rfl) (fun H locs ho h hd => ?_)
  refine lv_icmp_eq (tgt := 1161) C.1 C.2.1 dL_law_1007 (by decide) (fun _ => ?_) (fun z => absurd rfl z)
  refine W.widen (k := 1000 + 4 * (k + 1)) (n := 20000 + 483 * (k + 1)) (by omega) (by omega) ?_
  exact END adx adm σx' σm' hrel' H locs ls h ho hd.symm hl
set_option maxHeartbeats 4000000 in
set_option maxRecDepth 100000 in
theorem law_copy {p : Program} {l : Launch} {e : Env} {s : State} {m : MethodId} {below : List Frame} {meth : Method} {c : Code} {b L : Nat} {xs : Nat → Int32} {κ : Ka_} {G : va_G} {cy : Nat → ClassId} (hL : L ≤ 3072) (C : CallFix p m c code 4 s #[Value.ref b] wU_ RL) (hX : va_X b L xs s s.heap) (hbl : b < s.heap.size) (K : Kx_ κ G cy (fun q : Nat => s.heap.size ≤ q) s) (Rel : St_ → St_ → Prop) (hs : Sims_ Rel) {k : Nat} (hk : 6 * k + 6 ≤ L) (END : ∀ (adx adm : Nat → Nat) (σx σm : St_), Rel σx σm → ∀ (H : Heap) (locs : List Loc) (ls : Array Slot), Ht_ G cy (fun q : Nat => s.heap.size ≤ q) s adx σx H locs → Ht_ G cy (fun q : Nat => s.heap.size ≤ q) s adm σm H locs → Dj_ adx σx adm σm → lv_has ls 4 [(0, .ref b), (1, .ref (adx 0)), (2, .ref (adm 0)), (3, .int (nI (6 * k)))] → W p l e room_1 s m #[Value.ref b] below meth c H locs (1000 + 4 * (k + 1)) (20000 + 483 * (k + 1)) (lw_Z below #[Value.ref b] s) (F0 m 1161 ls [])) : ∀ (adx adm : Nat → Nat) (σx σm : St_), Rel σx σm → ∀ (H : Heap) (locs : List Loc) (ls : Array Slot), Ht_ G cy (fun q : Nat => s.heap.size ≤ q) s adx σx H locs → Ht_ G cy (fun q : Nat => s.heap.size ≤ q) s adm σm H locs → Dj_ adx σx adm σm → lv_has ls 4 [(0, .ref b), (1, .ref (adx 0)), (2, .ref (adm 0)), (3, .int (nI (6 * k)))] → W p l e room_1 s m #[Value.ref b] below meth c H locs (1000 + 4 * k) (20000 + 483 * k) (lw_Z below #[Value.ref b] s) (F0 m 1012 ls []) := by
  intro adx adm σx σm hrel H locs ls h ho hd hl
  have hbA : ¬ (fun q : Nat => s.heap.size ≤ q) b := Nat.not_le.mpr hbl
  obtain ⟨hkx, hkm⟩ := hs.1 σx σm hrel
  obtain ⟨r, σx', σm', hfx, hfm, hrel'⟩ := hs.2.2.2.2.2.2.2.2.2.2.2.2.2.2.2.2.2.2.2.2.2.2.2.2.2.2.1 σx σm hrel (xs (6 * k + 1)) (xs (6 * k + 2)) (xs (6 * k + 3)) (xs (6 * k + 4)) (xs (6 * k + 5))
  refine lv_aload_n C.1 C.2.1 dL_law_1012 rfl (lv_at hl 1 rfl) ?_
  refine lv_aload_n C.1 C.2.1 dL_law_1013 rfl (lv_at hl 0 rfl) ?_
  refine lv_iload_n C.1 C.2.1 dL_law_1014 rfl (lv_at hl 3 rfl) ?_
  refine lv_iconst (v := (1 : Int32)) C.1 C.2.1 dL_law_1015 (by decide) ?_
  refine lv_iadd C.1 C.2.1 dL_law_1016 ?_
  refine x_scr (j := 6 * k + 1) C hX hbl hbA h.2.2.1 (nI_add (6 * k) 1) (by omega) (by omega) dL_law_1017 ?_
  refine lv_aload_n C.1 C.2.1 dL_law_1018 rfl (lv_at hl 0 rfl) ?_
  refine lv_iload_n C.1 C.2.1 dL_law_1019 rfl (lv_at hl 3 rfl) ?_
  refine lv_iconst (v := (2 : Int32)) C.1 C.2.1 dL_law_1020 (by decide) ?_
  refine lv_iadd C.1 C.2.1 dL_law_1021 ?_
  refine x_scr (j := 6 * k + 2) C hX hbl hbA h.2.2.1 (nI_add (6 * k) 2) (by omega) (by omega) dL_law_1022 ?_
  refine lv_aload_n C.1 C.2.1 dL_law_1023 rfl (lv_at hl 0 rfl) ?_
  refine lv_iload_n C.1 C.2.1 dL_law_1024 rfl (lv_at hl 3 rfl) ?_
  refine lv_iconst (v := (3 : Int32)) C.1 C.2.1 dL_law_1025 (by decide) ?_
  refine lv_iadd C.1 C.2.1 dL_law_1026 ?_
  refine x_scr (j := 6 * k + 3) C hX hbl hbA h.2.2.1 (nI_add (6 * k) 3) (by omega) (by omega) dL_law_1027 ?_
  refine lv_aload_n C.1 C.2.1 dL_law_1028 rfl (lv_at hl 0 rfl) ?_
  refine lv_iload_n C.1 C.2.1 dL_law_1029 rfl (lv_at hl 3 rfl) ?_
  refine lv_iconst (v := (4 : Int32)) C.1 C.2.1 dL_law_1030 (by decide) ?_
  refine lv_iadd C.1 C.2.1 dL_law_1031 ?_
  refine x_scr (j := 6 * k + 4) C hX hbl hbA h.2.2.1 (nI_add (6 * k) 4) (by omega) (by omega) dL_law_1032 ?_
  refine lv_aload_n C.1 C.2.1 dL_law_1033 rfl (lv_at hl 0 rfl) ?_
  refine lv_iload_n C.1 C.2.1 dL_law_1034 rfl (lv_at hl 3 rfl) ?_
  refine lv_iconst (v := (5 : Int32)) C.1 C.2.1 dL_law_1035 (by decide) ?_
  refine lv_iadd C.1 C.2.1 dL_law_1036 ?_
  refine x_scr (j := 6 * k + 5) C hX hbl hbA h.2.2.1 (nI_add (6 * k) 5) (by omega) (by omega) dL_law_1037 ?_
  refine l_i K h ho hd (x_V C K h [.int (xs (6 * k + 1)), .int (xs (6 * k + 2)), .int (xs (6 * k + 3)), .int (xs (6 * k + 4)), .int (xs (6 * k + 5))] (c_X8_copy l κ G cy adx H.size σx 0 (xs (6 * k + 1)) (xs (6 * k + 2)) (xs (6 * k + 3)) (xs (6 * k + 4)) (xs (6 * k + 5)) hkx hfx) mi_X8_copy rfl im_yX8_copy se_yX8_copy ml_RL_117 cl_8 hkx ⟨rfl, rfl, Nat.le_of_ble_eq_true rfl, Nat.le_of_ble_eq_true rfl⟩ hl (Nat.le_of_ble_eq_true rfl) dL_law_1038 ⟨by show _ ≤ 600000; omega, by show _ ≤ 7302250; omega⟩ rfl) (fun H locs h ho hd => ?_)
  refine lv_aload_n C.1 C.2.1 dL_law_1041 rfl (lv_at hl 2 rfl) ?_
  refine lv_aload_n C.1 C.2.1 dL_law_1042 rfl (lv_at hl 0 rfl) ?_
  refine lv_iload_n C.1 C.2.1 dL_law_1043 rfl (lv_at hl 3 rfl) ?_
  refine lv_iconst (v := (1 : Int32)) C.1 C.2.1 dL_law_1044 (by decide) ?_
  refine lv_iadd C.1 C.2.1 dL_law_1045 ?_
  refine x_scr (j := 6 * k + 1) C hX hbl hbA h.2.2.1 (nI_add (6 * k) 1) (by omega) (by omega) dL_law_1046 ?_
  refine lv_aload_n C.1 C.2.1 dL_law_1047 rfl (lv_at hl 0 rfl) ?_
  refine lv_iload_n C.1 C.2.1 dL_law_1048 rfl (lv_at hl 3 rfl) ?_
  refine lv_iconst (v := (2 : Int32)) C.1 C.2.1 dL_law_1049 (by decide) ?_
  refine lv_iadd C.1 C.2.1 dL_law_1050 ?_
  refine x_scr (j := 6 * k + 2) C hX hbl hbA h.2.2.1 (nI_add (6 * k) 2) (by omega) (by omega) dL_law_1051 ?_
  refine lv_aload_n C.1 C.2.1 dL_law_1052 rfl (lv_at hl 0 rfl) ?_
  refine lv_iload_n C.1 C.2.1 dL_law_1053 rfl (lv_at hl 3 rfl) ?_
  refine lv_iconst (v := (3 : Int32)) C.1 C.2.1 dL_law_1054 (by decide) ?_
  refine lv_iadd C.1 C.2.1 dL_law_1055 ?_
  refine x_scr (j := 6 * k + 3) C hX hbl hbA h.2.2.1 (nI_add (6 * k) 3) (by omega) (by omega) dL_law_1056 ?_
  refine lv_aload_n C.1 C.2.1 dL_law_1057 rfl (lv_at hl 0 rfl) ?_
  refine lv_iload_n C.1 C.2.1 dL_law_1058 rfl (lv_at hl 3 rfl) ?_
  refine lv_iconst (v := (4 : Int32)) C.1 C.2.1 dL_law_1059 (by decide) ?_
  refine lv_iadd C.1 C.2.1 dL_law_1060 ?_
  refine x_scr (j := 6 * k + 4) C hX hbl hbA h.2.2.1 (nI_add (6 * k) 4) (by omega) (by omega) dL_law_1061 ?_
  refine lv_aload_n C.1 C.2.1 dL_law_1062 rfl (lv_at hl 0 rfl) ?_
  refine lv_iload_n C.1 C.2.1 dL_law_1063 rfl (lv_at hl 3 rfl) ?_
  refine lv_iconst (v := (5 : Int32)) C.1 C.2.1 dL_law_1064 (by decide) ?_
  refine lv_iadd C.1 C.2.1 dL_law_1065 ?_
  refine x_scr (j := 6 * k + 5) C hX hbl hbA h.2.2.1 (nI_add (6 * k) 5) (by omega) (by omega) dL_law_1066 ?_
  refine l_i K ho h hd.symm (x_V C K ho [.int (xs (6 * k + 1)), .int (xs (6 * k + 2)), .int (xs (6 * k + 3)), .int (xs (6 * k + 4)), .int (xs (6 * k + 5))] (c_X9_copy FU_ l κ G cy adm H.size σm 0 (xs (6 * k + 1)) (xs (6 * k + 2)) (xs (6 * k + 3)) (xs (6 * k + 4)) (xs (6 * k + 5)) hkm hfm) mi_X9_copy rfl im_yX9_copy se_yX9_copy ml_RL_121 cl_9 hkm ⟨rfl, rfl, Nat.le_of_ble_eq_true rfl, Nat.le_of_ble_eq_true rfl⟩ hl (Nat.le_of_ble_eq_true rfl) dL_law_1067 ⟨by show _ ≤ 600000; omega, by show _ ≤ 7302250; omega⟩ rfl) (fun H locs ho h hd => ?_)
  refine lv_icmp_eq (tgt := 1161) C.1 C.2.1 dL_law_1070 (by decide) (fun _ => ?_) (fun z => absurd rfl z)
  refine W.widen (k := 1000 + 4 * (k + 1)) (n := 20000 + 483 * (k + 1)) (by omega) (by omega) ?_
  exact END adx adm σx' σm' hrel' H locs ls h ho hd.symm hl
set_option maxHeartbeats 4000000 in
set_option maxRecDepth 100000 in
theorem law_carpets {p : Program} {l : Launch} {e : Env} {s : State} {m : MethodId} {below : List Frame} {meth : Method} {c : Code} {b L : Nat} {xs : Nat → Int32} {κ : Ka_} {G : va_G} {cy : Nat → ClassId} (hL : L ≤ 3072) (C : CallFix p m c code 4 s #[Value.ref b] wU_ RL) (hX : va_X b L xs s s.heap) (hbl : b < s.heap.size) (K : Kx_ κ G cy (fun q : Nat => s.heap.size ≤ q) s) (Rel : St_ → St_ → Prop) (hs : Sims_ Rel) {k : Nat} (hk : 6 * k + 6 ≤ L) (END : ∀ (adx adm : Nat → Nat) (σx σm : St_), Rel σx σm → ∀ (H : Heap) (locs : List Loc) (ls : Array Slot), Ht_ G cy (fun q : Nat => s.heap.size ≤ q) s adx σx H locs → Ht_ G cy (fun q : Nat => s.heap.size ≤ q) s adm σm H locs → Dj_ adx σx adm σm → lv_has ls 4 [(0, .ref b), (1, .ref (adx 0)), (2, .ref (adm 0)), (3, .int (nI (6 * k)))] → W p l e room_1 s m #[Value.ref b] below meth c H locs (1000 + 4 * (k + 1)) (20000 + 483 * (k + 1)) (lw_Z below #[Value.ref b] s) (F0 m 1161 ls [])) : ∀ (adx adm : Nat → Nat) (σx σm : St_), Rel σx σm → ∀ (H : Heap) (locs : List Loc) (ls : Array Slot), Ht_ G cy (fun q : Nat => s.heap.size ≤ q) s adx σx H locs → Ht_ G cy (fun q : Nat => s.heap.size ≤ q) s adm σm H locs → Dj_ adx σx adm σm → lv_has ls 4 [(0, .ref b), (1, .ref (adx 0)), (2, .ref (adm 0)), (3, .int (nI (6 * k)))] → W p l e room_1 s m #[Value.ref b] below meth c H locs (1000 + 4 * k) (20000 + 483 * k) (lw_Z below #[Value.ref b] s) (F0 m 1075 ls []) := by
  intro adx adm σx σm hrel H locs ls h ho hd hl
  have hbA : ¬ (fun q : Nat => s.heap.size ≤ q) b := Nat.not_le.mpr hbl
  obtain ⟨hkx, hkm⟩ := hs.1 σx σm hrel
  obtain ⟨r, σx', σm', hfx, hfm, hrel'⟩ := hs.2.2.2.2.2.2.2.2.2.2.2.2.2.2.2.2.2.2.2.2.2.2.2.2.2.2.2.1 σx σm hrel (xs (6 * k + 1)) (xs (6 * k + 2)) (xs (6 * k + 3)) (xs (6 * k + 4))
  refine lv_aload_n C.1 C.2.1 dL_law_1075 rfl (lv_at hl 1 rfl) ?_
  refine lv_aload_n C.1 C.2.1 dL_law_1076 rfl (lv_at hl 0 rfl) ?_
  refine lv_iload_n C.1 C.2.1 dL_law_1077 rfl (lv_at hl 3 rfl) ?_
  refine lv_iconst (v := (1 : Int32)) C.1 C.2.1 dL_law_1078 (by decide) ?_
  refine lv_iadd C.1 C.2.1 dL_law_1079 ?_
  refine x_scr (j := 6 * k + 1) C hX hbl hbA h.2.2.1 (nI_add (6 * k) 1) (by omega) (by omega) dL_law_1080 ?_
  refine lv_aload_n C.1 C.2.1 dL_law_1081 rfl (lv_at hl 0 rfl) ?_
  refine lv_iload_n C.1 C.2.1 dL_law_1082 rfl (lv_at hl 3 rfl) ?_
  refine lv_iconst (v := (2 : Int32)) C.1 C.2.1 dL_law_1083 (by decide) ?_
  refine lv_iadd C.1 C.2.1 dL_law_1084 ?_
  refine x_scr (j := 6 * k + 2) C hX hbl hbA h.2.2.1 (nI_add (6 * k) 2) (by omega) (by omega) dL_law_1085 ?_
  refine lv_aload_n C.1 C.2.1 dL_law_1086 rfl (lv_at hl 0 rfl) ?_
  refine lv_iload_n C.1 C.2.1 dL_law_1087 rfl (lv_at hl 3 rfl) ?_
  refine lv_iconst (v := (3 : Int32)) C.1 C.2.1 dL_law_1088 (by decide) ?_
  refine lv_iadd C.1 C.2.1 dL_law_1089 ?_
  refine x_scr (j := 6 * k + 3) C hX hbl hbA h.2.2.1 (nI_add (6 * k) 3) (by omega) (by omega) dL_law_1090 ?_
  refine lv_aload_n C.1 C.2.1 dL_law_1091 rfl (lv_at hl 0 rfl) ?_
  refine lv_iload_n C.1 C.2.1 dL_law_1092 rfl (lv_at hl 3 rfl) ?_
  refine lv_iconst (v := (4 : Int32)) C.1 C.2.1 dL_law_1093 (by decide) ?_
  refine lv_iadd C.1 C.2.1 dL_law_1094 ?_
  refine x_scr (j := 6 * k + 4) C hX hbl hbA h.2.2.1 (nI_add (6 * k) 4) (by omega) (by omega) dL_law_1095 ?_
  refine l_i K h ho hd (x_V C K h [.int (xs (6 * k + 1)), .int (xs (6 * k + 2)), .int (xs (6 * k + 3)), .int (xs (6 * k + 4))] (c_X8_carpets FU_ l κ G cy adx H.size σx 0 (xs (6 * k + 1)) (xs (6 * k + 2)) (xs (6 * k + 3)) (xs (6 * k + 4)) hkx hfx) mi_X8_carpets rfl im_yX8_carpets se_yX8_carpets ml_RL_122 cl_8 hkx ⟨rfl, rfl, Nat.le_of_ble_eq_true rfl, Nat.le_of_ble_eq_true rfl⟩ hl (Nat.le_of_ble_eq_true rfl) dL_law_1096 ⟨by show _ ≤ 600000; omega, by show _ ≤ 7302250; omega⟩ rfl) (fun H locs h ho hd => ?_)
  refine lv_aload_n C.1 C.2.1 dL_law_1099 rfl (lv_at hl 2 rfl) ?_
  refine lv_aload_n C.1 C.2.1 dL_law_1100 rfl (lv_at hl 0 rfl) ?_
  refine lv_iload_n C.1 C.2.1 dL_law_1101 rfl (lv_at hl 3 rfl) ?_
  refine lv_iconst (v := (1 : Int32)) C.1 C.2.1 dL_law_1102 (by decide) ?_
  refine lv_iadd C.1 C.2.1 dL_law_1103 ?_
  refine x_scr (j := 6 * k + 1) C hX hbl hbA h.2.2.1 (nI_add (6 * k) 1) (by omega) (by omega) dL_law_1104 ?_
  refine lv_aload_n C.1 C.2.1 dL_law_1105 rfl (lv_at hl 0 rfl) ?_
  refine lv_iload_n C.1 C.2.1 dL_law_1106 rfl (lv_at hl 3 rfl) ?_
  refine lv_iconst (v := (2 : Int32)) C.1 C.2.1 dL_law_1107 (by decide) ?_
  refine lv_iadd C.1 C.2.1 dL_law_1108 ?_
  refine x_scr (j := 6 * k + 2) C hX hbl hbA h.2.2.1 (nI_add (6 * k) 2) (by omega) (by omega) dL_law_1109 ?_
  refine lv_aload_n C.1 C.2.1 dL_law_1110 rfl (lv_at hl 0 rfl) ?_
  refine lv_iload_n C.1 C.2.1 dL_law_1111 rfl (lv_at hl 3 rfl) ?_
  refine lv_iconst (v := (3 : Int32)) C.1 C.2.1 dL_law_1112 (by decide) ?_
  refine lv_iadd C.1 C.2.1 dL_law_1113 ?_
  refine x_scr (j := 6 * k + 3) C hX hbl hbA h.2.2.1 (nI_add (6 * k) 3) (by omega) (by omega) dL_law_1114 ?_
  refine lv_aload_n C.1 C.2.1 dL_law_1115 rfl (lv_at hl 0 rfl) ?_
  refine lv_iload_n C.1 C.2.1 dL_law_1116 rfl (lv_at hl 3 rfl) ?_
  refine lv_iconst (v := (4 : Int32)) C.1 C.2.1 dL_law_1117 (by decide) ?_
  refine lv_iadd C.1 C.2.1 dL_law_1118 ?_
  refine x_scr (j := 6 * k + 4) C hX hbl hbA h.2.2.1 (nI_add (6 * k) 4) (by omega) (by omega) dL_law_1119 ?_
  refine l_i K ho h hd.symm (x_V C K ho [.int (xs (6 * k + 1)), .int (xs (6 * k + 2)), .int (xs (6 * k + 3)), .int (xs (6 * k + 4))] (c_X9_carpets FU_ l κ G cy adm H.size σm 0 (xs (6 * k + 1)) (xs (6 * k + 2)) (xs (6 * k + 3)) (xs (6 * k + 4)) hkm hfm) mi_X9_carpets rfl im_yX9_carpets se_yX9_carpets ml_RL_125 cl_9 hkm ⟨rfl, rfl, Nat.le_of_ble_eq_true rfl, Nat.le_of_ble_eq_true rfl⟩ hl (Nat.le_of_ble_eq_true rfl) dL_law_1120 ⟨by show _ ≤ 600000; omega, by show _ ≤ 7302250; omega⟩ rfl) (fun H locs ho h hd => ?_)
  refine lv_icmp_eq (tgt := 1161) C.1 C.2.1 dL_law_1123 (by decide) (fun _ => ?_) (fun z => absurd rfl z)
  refine W.widen (k := 1000 + 4 * (k + 1)) (n := 20000 + 483 * (k + 1)) (by omega) (by omega) ?_
  exact END adx adm σx' σm' hrel' H locs ls h ho hd.symm hl
set_option maxHeartbeats 4000000 in
set_option maxRecDepth 100000 in
theorem law_taken {p : Program} {l : Launch} {e : Env} {s : State} {m : MethodId} {below : List Frame} {meth : Method} {c : Code} {b L : Nat} {xs : Nat → Int32} {κ : Ka_} {G : va_G} {cy : Nat → ClassId} (hL : L ≤ 3072) (C : CallFix p m c code 4 s #[Value.ref b] wU_ RL) (hX : va_X b L xs s s.heap) (hbl : b < s.heap.size) (K : Kx_ κ G cy (fun q : Nat => s.heap.size ≤ q) s) (Rel : St_ → St_ → Prop) (hs : Sims_ Rel) {k : Nat} (hk : 6 * k + 6 ≤ L) (END : ∀ (adx adm : Nat → Nat) (σx σm : St_), Rel σx σm → ∀ (H : Heap) (locs : List Loc) (ls : Array Slot), Ht_ G cy (fun q : Nat => s.heap.size ≤ q) s adx σx H locs → Ht_ G cy (fun q : Nat => s.heap.size ≤ q) s adm σm H locs → Dj_ adx σx adm σm → lv_has ls 4 [(0, .ref b), (1, .ref (adx 0)), (2, .ref (adm 0)), (3, .int (nI (6 * k)))] → W p l e room_1 s m #[Value.ref b] below meth c H locs (1000 + 4 * (k + 1)) (20000 + 483 * (k + 1)) (lw_Z below #[Value.ref b] s) (F0 m 1161 ls [])) : ∀ (adx adm : Nat → Nat) (σx σm : St_), Rel σx σm → ∀ (H : Heap) (locs : List Loc) (ls : Array Slot), Ht_ G cy (fun q : Nat => s.heap.size ≤ q) s adx σx H locs → Ht_ G cy (fun q : Nat => s.heap.size ≤ q) s adm σm H locs → Dj_ adx σx adm σm → lv_has ls 4 [(0, .ref b), (1, .ref (adx 0)), (2, .ref (adm 0)), (3, .int (nI (6 * k)))] → W p l e room_1 s m #[Value.ref b] below meth c H locs (1000 + 4 * k) (20000 + 483 * k) (lw_Z below #[Value.ref b] s) (F0 m 1128 ls []) := by
  intro adx adm σx σm hrel H locs ls h ho hd hl
  have hbA : ¬ (fun q : Nat => s.heap.size ≤ q) b := Nat.not_le.mpr hbl
  obtain ⟨hkx, hkm⟩ := hs.1 σx σm hrel
  obtain ⟨r, hfx, hfm, hrel'⟩ := hs.2.2.2.2.2.2.2.2.2.2.2.2.2.2.2.2.2.2.2.2.2.2.2.2.2.2.2.2 σx σm hrel (xs (6 * k + 1)) (xs (6 * k + 2))
  refine lv_aload_n C.1 C.2.1 dL_law_1128 rfl (lv_at hl 1 rfl) ?_
  refine lv_aload_n C.1 C.2.1 dL_law_1129 rfl (lv_at hl 0 rfl) ?_
  refine lv_iload_n C.1 C.2.1 dL_law_1130 rfl (lv_at hl 3 rfl) ?_
  refine lv_iconst (v := (1 : Int32)) C.1 C.2.1 dL_law_1131 (by decide) ?_
  refine lv_iadd C.1 C.2.1 dL_law_1132 ?_
  refine x_scr (j := 6 * k + 1) C hX hbl hbA h.2.2.1 (nI_add (6 * k) 1) (by omega) (by omega) dL_law_1133 ?_
  refine lv_aload_n C.1 C.2.1 dL_law_1134 rfl (lv_at hl 0 rfl) ?_
  refine lv_iload_n C.1 C.2.1 dL_law_1135 rfl (lv_at hl 3 rfl) ?_
  refine lv_iconst (v := (2 : Int32)) C.1 C.2.1 dL_law_1136 (by decide) ?_
  refine lv_iadd C.1 C.2.1 dL_law_1137 ?_
  refine x_scr (j := 6 * k + 2) C hX hbl hbA h.2.2.1 (nI_add (6 * k) 2) (by omega) (by omega) dL_law_1138 ?_
  refine l_i K h ho hd (x_V C K h [.int (xs (6 * k + 1)), .int (xs (6 * k + 2))] (c_X8_taken FU_ l κ G cy adx H.size σx 0 (xs (6 * k + 1)) (xs (6 * k + 2)) hkx hfx) mi_X8_taken rfl im_yX8_taken se_yX8_taken ml_RL_126 cl_8 hkx ⟨rfl, rfl, Nat.le_of_ble_eq_true rfl, Nat.le_of_ble_eq_true rfl⟩ hl (Nat.le_of_ble_eq_true rfl) dL_law_1139 ⟨by show _ ≤ 600000; omega, by show _ ≤ 7302250; omega⟩ rfl) (fun H locs h ho hd => ?_)
  refine lv_aload_n C.1 C.2.1 dL_law_1142 rfl (lv_at hl 2 rfl) ?_
  refine lv_aload_n C.1 C.2.1 dL_law_1143 rfl (lv_at hl 0 rfl) ?_
  refine lv_iload_n C.1 C.2.1 dL_law_1144 rfl (lv_at hl 3 rfl) ?_
  refine lv_iconst (v := (1 : Int32)) C.1 C.2.1 dL_law_1145 (by decide) ?_
  refine lv_iadd C.1 C.2.1 dL_law_1146 ?_
  refine x_scr (j := 6 * k + 1) C hX hbl hbA h.2.2.1 (nI_add (6 * k) 1) (by omega) (by omega) dL_law_1147 ?_
  refine lv_aload_n C.1 C.2.1 dL_law_1148 rfl (lv_at hl 0 rfl) ?_
  refine lv_iload_n C.1 C.2.1 dL_law_1149 rfl (lv_at hl 3 rfl) ?_
  refine lv_iconst (v := (2 : Int32)) C.1 C.2.1 dL_law_1150 (by decide) ?_
  refine lv_iadd C.1 C.2.1 dL_law_1151 ?_
  refine x_scr (j := 6 * k + 2) C hX hbl hbA h.2.2.1 (nI_add (6 * k) 2) (by omega) (by omega) dL_law_1152 ?_
  refine l_i K ho h hd.symm (x_V C K ho [.int (xs (6 * k + 1)), .int (xs (6 * k + 2))] (c_X9_taken FU_ l κ G cy adm H.size σm 0 (xs (6 * k + 1)) (xs (6 * k + 2)) hkm hfm) mi_X9_taken rfl im_yX9_taken se_yX9_taken ml_RL_129 cl_9 hkm ⟨rfl, rfl, Nat.le_of_ble_eq_true rfl, Nat.le_of_ble_eq_true rfl⟩ hl (Nat.le_of_ble_eq_true rfl) dL_law_1153 ⟨by show _ ≤ 600000; omega, by show _ ≤ 7302250; omega⟩ rfl) (fun H locs ho h hd => ?_)
  refine lv_icmp_eq (tgt := 1161) C.1 C.2.1 dL_law_1156 (by decide) (fun _ => ?_) (fun z => absurd rfl z)
  refine W.widen (k := 1000 + 4 * (k + 1)) (n := 20000 + 483 * (k + 1)) (by omega) (by omega) ?_
  exact END adx adm σx σm hrel' H locs ls h ho hd.symm hl
set_option maxHeartbeats 4000000 in
set_option maxRecDepth 100000 in
theorem law_loop {p : Program} {l : Launch} {e : Env} {s : State} {m : MethodId} {below : List Frame} {meth : Method} {c : Code} {b L : Nat} {xs : Nat → Int32} {κ : Ka_} {G : va_G} {cy : Nat → ClassId} (hL : L ≤ 3072) (C : CallFix p m c code 4 s #[Value.ref b] wU_ RL) (hX : va_X b L xs s s.heap) (hbl : b < s.heap.size) (K : Kx_ κ G cy (fun q : Nat => s.heap.size ≤ q) s) (Rel : St_ → St_ → Prop) (hs : Sims_ Rel) (hr : meth.sig.returnType = ret) (hlk : meth.locks = false) : ∀ (n k : Nat), 6 * k ≤ L → L + 6 ≤ 6 * (k + n) → ∀ (adx adm : Nat → Nat) (σx σm : St_), Rel σx σm → ∀ (H : Heap) (locs : List Loc) (ls : Array Slot), Ht_ G cy (fun q : Nat => s.heap.size ≤ q) s adx σx H locs → Ht_ G cy (fun q : Nat => s.heap.size ≤ q) s adm σm H locs → Dj_ adx σx adm σm → lv_has ls 4 [(0, .ref b), (1, .ref (adx 0)), (2, .ref (adm 0)), (3, .int (nI (6 * k)))] → W p l e room_1 s m #[Value.ref b] below meth c H locs (1000 + 4 * k) (20000 + 483 * k) (lw_Z below #[Value.ref b] s) (F0 m 18 ls []) := by
  intro n
  induction n with
  | zero =>
    intro k h1 h2
    exact absurd h2 (by omega)
  | succ n ih =>
    intro k hk hn adx adm σx σm hrel H locs ls h ho hd hl
    have hbA : ¬ (fun q : Nat => s.heap.size ≤ q) b := Nat.not_le.mpr hbl
    refine lv_iload_n C.1 C.2.1 dL_law_18 rfl (lv_at hl 3 rfl) ?_
    refine lv_aload_n C.1 C.2.1 dL_law_19 rfl (lv_at hl 0 rfl) ?_
    refine va_slen C.1 C.2.1 hX hbl hbA h.2.2.1 dL_law_20 ?_
    refine lv_bipush (v := (6 : Int32)) C.1 C.2.1 dL_law_21 (by decide) ?_
    refine lv_isub C.1 C.2.1 dL_law_23 ?_
    refine lv_icmp_gt (tgt := 1167) C.1 C.2.1 dL_law_24 (by decide) (fun _ => ?_) (fun z => ?_)
    · refine lv_iconst (v := 1) C.1 C.2.1 dL_law_1167 (by decide) ?_
      refine va_forget (fun q hq => h.2.2.1.2.2 q hq) ?_
      refine W.widen (k := 600000) (n := 7302250) (by omega) (by omega) ?_
      exact lw_ret C.1 C.2.1 hr hlk dL_law_1168
    · have hk6 : 6 * k + 6 ≤ L := lw_end hL z hk
      have END : ∀ (adx adm : Nat → Nat) (σx σm : St_), Rel σx σm → ∀ (H : Heap) (locs : List Loc) (ls : Array Slot), Ht_ G cy (fun q : Nat => s.heap.size ≤ q) s adx σx H locs → Ht_ G cy (fun q : Nat => s.heap.size ≤ q) s adm σm H locs → Dj_ adx σx adm σm → lv_has ls 4 [(0, .ref b), (1, .ref (adx 0)), (2, .ref (adm 0)), (3, .int (nI (6 * k)))] → W p l e room_1 s m #[Value.ref b] below meth c H locs (1000 + 4 * (k + 1)) (20000 + 483 * (k + 1)) (lw_Z below #[Value.ref b] s) (F0 m 1161 ls []) := by
        intro adx adm σx σm hrel H locs ls h ho hd hl
        refine lv_iinc (v := nI (6 * (k + 1))) (lv' := [(3, .int (nI (6 * (k + 1)))), (0, .ref b), (1, .ref (adx 0)), (2, .ref (adm 0))]) C.1 C.2.1 dL_law_1161 hl (k := 3) rfl (nI_add (6 * k) 6) (by decide) rfl (fun ls hl => ?_)
        refine lv_goto (tgt := 18) C.1 C.2.1 dL_law_1164 (by decide) ?_
        exact ih (k + 1) (by omega) (by omega) adx adm σx σm hrel H locs ls h ho hd (lv_sub hl [1, 2, 3, 0] rfl)
      refine lv_aload_n C.1 C.2.1 dL_law_27 rfl (lv_at hl 0 rfl) ?_
      refine lv_iload_n C.1 C.2.1 dL_law_28 rfl (lv_at hl 3 rfl) ?_
      refine x_scr (j := 6 * k) C hX hbl hbA h.2.2.1 rfl (by omega) (by omega) dL_law_29 ?_
      refine lv_bipush (v := (31 : Int32)) C.1 C.2.1 dL_law_30 (by decide) ?_
      refine lv_iand C.1 C.2.1 dL_law_32 ?_
      generalize xs (6 * k) &&& (31 : Int32) = x
      by_cases c0 : x = (0 : Int32)
      · refine lv_tableIn (off := 123) (tgt := 156) C.1 C.2.1 dL_law_33 (by rw [c0]; decide) (by rw [c0]; decide) (by rw [c0]; rfl) (by decide) ?_
        exact law_set hL C hX hbl K Rel hs hk6 END adx adm σx σm hrel H locs ls h ho hd hl
      by_cases c1 : x = (1 : Int32)
      · refine lv_tableIn (off := 166) (tgt := 199) C.1 C.2.1 dL_law_33 (by rw [c1]; decide) (by rw [c1]; decide) (by rw [c1]; rfl) (by decide) ?_
        exact law_carpet hL C hX hbl K Rel hs hk6 END adx adm σx σm hrel H locs ls h ho hd hl
      by_cases c2 : x = (2 : Int32)
      · refine lv_tableIn (off := 209) (tgt := 242) C.1 C.2.1 dL_law_33 (by rw [c2]; decide) (by rw [c2]; decide) (by rw [c2]; rfl) (by decide) ?_
        exact law_told hL C hX hbl K Rel hs hk6 END adx adm σx σm hrel H locs ls h ho hd hl
      by_cases c3 : x = (3 : Int32)
      · refine lv_tableIn (off := 242) (tgt := 275) C.1 C.2.1 dL_law_33 (by rw [c3]; decide) (by rw [c3]; decide) (by rw [c3]; rfl) (by decide) ?_
        exact law_asks hL C hX hbl K Rel hs hk6 END adx adm σx σm hrel H locs ls h ho hd hl
      by_cases c4 : x = (4 : Int32)
      · refine lv_tableIn (off := 295) (tgt := 328) C.1 C.2.1 dL_law_33 (by rw [c4]; decide) (by rw [c4]; decide) (by rw [c4]; rfl) (by decide) ?_
        exact law_feed hL C hX hbl K Rel hs hk6 END adx adm σx σm hrel H locs ls h ho hd hl
      by_cases c5 : x = (5 : Int32)
      · refine lv_tableIn (off := 318) (tgt := 351) C.1 C.2.1 dL_law_33 (by rw [c5]; decide) (by rw [c5]; decide) (by rw [c5]; rfl) (by decide) ?_
        exact law_text hL C hX hbl K Rel hs hk6 END adx adm σx σm hrel H locs ls h ho hd hl
      by_cases c6 : x = (6 : Int32)
      · refine lv_tableIn (off := 331) (tgt := 364) C.1 C.2.1 dL_law_33 (by rw [c6]; decide) (by rw [c6]; decide) (by rw [c6]; rfl) (by decide) ?_
        exact law_force hL C hX hbl K Rel hs hk6 END adx adm σx σm hrel H locs ls h ho hd hl
      by_cases c7 : x = (7 : Int32)
      · refine lv_tableIn (off := 354) (tgt := 387) C.1 C.2.1 dL_law_33 (by rw [c7]; decide) (by rw [c7]; decide) (by rw [c7]; rfl) (by decide) ?_
        exact law_say hL C hX hbl K Rel hs hk6 END adx adm σx σm hrel H locs ls h ho hd hl
      by_cases c8 : x = (8 : Int32)
      · refine lv_tableIn (off := 387) (tgt := 420) C.1 C.2.1 dL_law_33 (by rw [c8]; decide) (by rw [c8]; decide) (by rw [c8]; rfl) (by decide) ?_
        exact law_flies hL C hX hbl K Rel hs hk6 END adx adm σx σm hrel H locs ls h ho hd hl
      by_cases c9 : x = (9 : Int32)
      · refine lv_tableIn (off := 430) (tgt := 463) C.1 C.2.1 dL_law_33 (by rw [c9]; decide) (by rw [c9]; decide) (by rw [c9]; rfl) (by decide) ?_
        exact law_shortest hL C hX hbl K Rel hs hk6 END adx adm σx σm hrel H locs ls h ho hd hl
      by_cases c10 : x = (10 : Int32)
      · refine lv_tableIn (off := 473) (tgt := 506) C.1 C.2.1 dL_law_33 (by rw [c10]; decide) (by rw [c10]; decide) (by rw [c10]; rfl) (by decide) ?_
        exact law_there hL C hX hbl K Rel hs hk6 END adx adm σx σm hrel H locs ls h ho hd hl
      by_cases c11 : x = (11 : Int32)
      · refine lv_tableIn (off := 507) (tgt := 540) C.1 C.2.1 dL_law_33 (by rw [c11]; decide) (by rw [c11]; decide) (by rw [c11]; rfl) (by decide) ?_
        exact law_furthest hL C hX hbl K Rel hs hk6 END adx adm σx σm hrel H locs ls h ho hd hl
      by_cases c12 : x = (12 : Int32)
      · refine lv_tableIn (off := 540) (tgt := 573) C.1 C.2.1 dL_law_33 (by rw [c12]; decide) (by rw [c12]; decide) (by rw [c12]; rfl) (by decide) ?_
        exact law_meet hL C hX hbl K Rel hs hk6 END adx adm σx σm hrel H locs ls h ho hd hl
      by_cases c13 : x = (13 : Int32)
      · refine lv_tableIn (off := 583) (tgt := 616) C.1 C.2.1 dL_law_33 (by rw [c13]; decide) (by rw [c13]; decide) (by rw [c13]; rfl) (by decide) ?_
        exact law_rows hL C hX hbl K Rel hs hk6 END adx adm σx σm hrel H locs ls h ho hd hl
      by_cases c14 : x = (14 : Int32)
      · refine lv_tableIn (off := 627) (tgt := 660) C.1 C.2.1 dL_law_33 (by rw [c14]; decide) (by rw [c14]; decide) (by rw [c14]; rfl) (by decide) ?_
        exact law_highest hL C hX hbl K Rel hs hk6 END adx adm σx σm hrel H locs ls h ho hd hl
      by_cases c15 : x = (15 : Int32)
      · refine lv_tableIn (off := 650) (tgt := 683) C.1 C.2.1 dL_law_33 (by rw [c15]; decide) (by rw [c15]; decide) (by rw [c15]; rfl) (by decide) ?_
        exact law_tells hL C hX hbl K Rel hs hk6 END adx adm σx σm hrel H locs ls h ho hd hl
      by_cases c16 : x = (16 : Int32)
      · refine lv_tableIn (off := 693) (tgt := 726) C.1 C.2.1 dL_law_33 (by rw [c16]; decide) (by rw [c16]; decide) (by rw [c16]; rfl) (by decide) ?_
        exact law_ways hL C hX hbl K Rel hs hk6 END adx adm σx σm hrel H locs ls h ho hd hl
      by_cases c17 : x = (17 : Int32)
      · refine lv_tableIn (off := 737) (tgt := 770) C.1 C.2.1 dL_law_33 (by rw [c17]; decide) (by rw [c17]; decide) (by rw [c17]; rfl) (by decide) ?_
        exact law_drawn hL C hX hbl K Rel hs hk6 END adx adm σx σm hrel H locs ls h ho hd hl
      by_cases c18 : x = (18 : Int32)
      · refine lv_tableIn (off := 780) (tgt := 813) C.1 C.2.1 dL_law_33 (by rw [c18]; decide) (by rw [c18]; decide) (by rw [c18]; rfl) (by decide) ?_
        exact law_chance hL C hX hbl K Rel hs hk6 END adx adm σx σm hrel H locs ls h ho hd hl
      by_cases c19 : x = (19 : Int32)
      · refine lv_tableIn (off := 844) (tgt := 877) C.1 C.2.1 dL_law_33 (by rw [c19]; decide) (by rw [c19]; decide) (by rw [c19]; rfl) (by decide) ?_
        exact law_image hL C hX hbl K Rel hs hk6 END adx adm σx σm hrel H locs ls h ho hd hl
      by_cases c20 : x = (20 : Int32)
      · refine lv_tableIn (off := 857) (tgt := 890) C.1 C.2.1 dL_law_33 (by rw [c20]; decide) (by rw [c20]; decide) (by rw [c20]; rfl) (by decide) ?_
        exact law_back hL C hX hbl K Rel hs hk6 END adx adm σx σm hrel H locs ls h ho hd hl
      by_cases c21 : x = (21 : Int32)
      · refine lv_tableIn (off := 870) (tgt := 903) C.1 C.2.1 dL_law_33 (by rw [c21]; decide) (by rw [c21]; decide) (by rw [c21]; rfl) (by decide) ?_
        exact law_count hL C hX hbl K Rel hs hk6 END adx adm σx σm hrel H locs ls h ho hd hl
      by_cases c22 : x = (22 : Int32)
      · refine lv_tableIn (off := 893) (tgt := 926) C.1 C.2.1 dL_law_33 (by rw [c22]; decide) (by rw [c22]; decide) (by rw [c22]; rfl) (by decide) ?_
        exact law_sheet hL C hX hbl K Rel hs hk6 END adx adm σx σm hrel H locs ls h ho hd hl
      by_cases c23 : x = (23 : Int32)
      · refine lv_tableIn (off := 936) (tgt := 969) C.1 C.2.1 dL_law_33 (by rw [c23]; decide) (by rw [c23]; decide) (by rw [c23]; rfl) (by decide) ?_
        exact law_cell hL C hX hbl K Rel hs hk6 END adx adm σx σm hrel H locs ls h ho hd hl
      by_cases c24 : x = (24 : Int32)
      · refine lv_tableIn (off := 979) (tgt := 1012) C.1 C.2.1 dL_law_33 (by rw [c24]; decide) (by rw [c24]; decide) (by rw [c24]; rfl) (by decide) ?_
        exact law_copy hL C hX hbl K Rel hs hk6 END adx adm σx σm hrel H locs ls h ho hd hl
      by_cases c25 : x = (25 : Int32)
      · refine lv_tableIn (off := 1042) (tgt := 1075) C.1 C.2.1 dL_law_33 (by rw [c25]; decide) (by rw [c25]; decide) (by rw [c25]; rfl) (by decide) ?_
        exact law_carpets hL C hX hbl K Rel hs hk6 END adx adm σx σm hrel H locs ls h ho hd hl
      by_cases c26 : x = (26 : Int32)
      · refine lv_tableIn (off := 1095) (tgt := 1128) C.1 C.2.1 dL_law_33 (by rw [c26]; decide) (by rw [c26]; decide) (by rw [c26]; rfl) (by decide) ?_
        exact law_taken hL C hX hbl K Rel hs hk6 END adx adm σx σm hrel H locs ls h ho hd hl
      refine lv_tableOut (tgt := 1161) C.1 C.2.1 dL_law_33 (by have e0 := ne_i c0 (z := 0) (by decide); have e1 := ne_i c1 (z := 1) (by decide); have e2 := ne_i c2 (z := 2) (by decide); have e3 := ne_i c3 (z := 3) (by decide); have e4 := ne_i c4 (z := 4) (by decide); have e5 := ne_i c5 (z := 5) (by decide); have e6 := ne_i c6 (z := 6) (by decide); have e7 := ne_i c7 (z := 7) (by decide); have e8 := ne_i c8 (z := 8) (by decide); have e9 := ne_i c9 (z := 9) (by decide); have e10 := ne_i c10 (z := 10) (by decide); have e11 := ne_i c11 (z := 11) (by decide); have e12 := ne_i c12 (z := 12) (by decide); have e13 := ne_i c13 (z := 13) (by decide); have e14 := ne_i c14 (z := 14) (by decide); have e15 := ne_i c15 (z := 15) (by decide); have e16 := ne_i c16 (z := 16) (by decide); have e17 := ne_i c17 (z := 17) (by decide); have e18 := ne_i c18 (z := 18) (by decide); have e19 := ne_i c19 (z := 19) (by decide); have e20 := ne_i c20 (z := 20) (by decide); have e21 := ne_i c21 (z := 21) (by decide); have e22 := ne_i c22 (z := 22) (by decide); have e23 := ne_i c23 (z := 23) (by decide); have e24 := ne_i c24 (z := 24) (by decide); have e25 := ne_i c25 (z := 25) (by decide); have e26 := ne_i c26 (z := 26) (by decide); omega) (by decide) ?_
      refine W.widen (k := 1000 + 4 * (k + 1)) (n := 20000 + 483 * (k + 1)) (by omega) (by omega) ?_
      exact END adx adm σx σm hrel H locs ls h ho hd hl
