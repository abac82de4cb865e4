set_option maxHeartbeats 4000000 in
set_option maxRecDepth 100000 in
theorem law_set {p : Program} {l : Launch} {e : Env} {s : State} {m : MethodId} {below : List Frame} {meth : Method} {c : Code} {b L : Nat} {xs : Nat → Int32} {κ : Ka_} {G : va_G} {cy : Nat → ClassId} (hL : L ≤ 3072) (C : CallFix p m c code 4 s #[Value.ref b] wU_ RL) (hX : va_X b L xs s s.heap) (hbl : b < s.heap.size) (K : Kx_ κ G cy (fun q : Nat => s.heap.size ≤ q) s) (Rel : St_ → St_ → Prop) (hs : Sims_ Rel) {k : Nat} (hk : 6 * k + 6 ≤ L) (END : ∀ (adx adm : Nat → Nat) (σx σm : St_), Rel σx σm → ∀ (H : Heap) (locs : List Loc) (ls : Array Slot), Ht_ G cy (fun q : Nat => s.heap.size ≤ q) s adx σx H locs → Ht_ G cy (fun q : Nat => s.heap.size ≤ q) s adm σm H locs → Dj_ adx σx adm σm → lv_has ls 4 [(0, .ref b), (1, .ref (adx 0)), (2, .ref (adm 0)), (3, .int (nI (6 * k)))] → W p l e room_1 s m #[Value.ref b] below meth c H locs (1000 + 4 * (k + 1)) (20000 + 483 * (k + 1)) (lw_Z below #[Value.ref b] s) (F0 m 1161 ls [])) : ∀ (adx adm : Nat → Nat) (σx σm : St_), Rel σx σm → ∀ (H : Heap) (locs : List Loc) (ls : Array Slot), Ht_ G cy (fun q : Nat => s.heap.size ≤ q) s adx σx H locs → Ht_ G cy (fun q : Nat => s.heap.size ≤ q) s adm σm H locs → Dj_ adx σx adm σm → lv_has ls 4 [(0, .ref b), (1, .ref (adx 0)), (2, .ref (adm 0)), (3, .int (nI (6 * k)))] → W p l e room_1 s m #[Value.ref b] below meth c H locs (1000 + 4 * k) (20000 + 483 * k) (lw_Z below #[Value.ref b] s) (F0 m 156 ls []) := by
  intro adx adm σx σm hrel H locs ls h ho hd hl
  have hbA : ¬ (fun q : Nat => s.heap.size ≤ q) b := Nat.not_le.mpr hbl
  obtain ⟨hkx, hkm⟩ := hs.1 σx σm hrel
  obtain ⟨r, σx', σm', hfx, hfm, hrel'⟩ := hs.2.2.1 σx σm hrel (xs (6 * k + 1)) (xs (6 * k + 2)) (xs (6 * k + 3))
  refine lv_aload_n C.1 C.2.1 dL_law_156 rfl (lv_at hl 1 rfl) ?_
  refine lv_aload_n C.1 C.2.1 dL_law_157 rfl (lv_at hl 0 rfl) ?_
  refine lv_iload_n C.1 C.2.1 dL_law_158 rfl (lv_at hl 3 rfl) ?_
  refine lv_iconst (v := (1 : Int32)) C.1 C.2.1 dL_law_159 (by decide) ?_
  refine lv_iadd C.1 C.2.1 dL_law_160 ?_
  refine x_scr (j := 6 * k + 1) C hX hbl hbA h.2.2.1 (nI_add (6 * k) 1) (by omega) (by omega) dL_law_161 ?_
  refine lv_aload_n C.1 C.2.1 dL_law_162 rfl (lv_at hl 0 rfl) ?_
  refine lv_iload_n C.1 C.2.1 dL_law_163 rfl (lv_at hl 3 rfl) ?_
  refine lv_iconst (v := (2 : Int32)) C.1 C.2.1 dL_law_164 (by decide) ?_
  refine lv_iadd C.1 C.2.1 dL_law_165 ?_
  refine x_scr (j := 6 * k + 2) C hX hbl hbA h.2.2.1 (nI_add (6 * k) 2) (by omega) (by omega) dL_law_166 ?_
  refine lv_aload_n C.1 C.2.1 dL_law_167 rfl (lv_at hl 0 rfl) ?_
  refine lv_iload_n C.1 C.2.1 dL_law_168 rfl (lv_at hl 3 rfl) ?_
  refine lv_iconst (v := (3 : Int32)) C.1 C.2.1 dL_law_169 (by decide) ?_
  refine lv_iadd C.1 C.2.1 dL_law_170 ?_
  refine x_scr (j := 6 * k + 3) C hX hbl hbA h.2.2.1 (nI_add (6 * k) 3) (by omega) (by omega) dL_law_171 ?_
  refine l_i K h ho hd (x_V C K h [.int (xs (6 * k + 1)), .int (xs (6 * k + 2)), .int (xs (6 * k + 3))] (c_X8_set l κ G cy adx H.size σx 0 (xs (6 * k + 1)) (xs (6 * k + 2)) (xs (6 * k + 3)) hkx hfx) mi_X8_set rfl im_yX8_set se_yX8_set ml_RL_13 cl_8 hkx ⟨rfl, rfl, Nat.le_of_ble_eq_true rfl, Nat.le_of_ble_eq_true rfl⟩ hl (Nat.le_of_ble_eq_true rfl) dL_law_172 ⟨by show _ ≤ 600000; omega, by show _ ≤ 7302250; omega⟩ rfl) (fun H locs h ho hd => ?_)
  refine lv_aload_n C.1 C.2.1 dL_law_175 rfl (lv_at hl 2 rfl) ?_
  refine lv_aload_n C.1 C.2.1 dL_law_176 rfl (lv_at hl 0 rfl) ?_
  refine lv_iload_n C.1 C.2.1 dL_law_177 rfl (lv_at hl 3 rfl) ?_
  refine lv_iconst (v := (1 : Int32)) C.1 C.2.1 dL_law_178 (by decide) ?_
  refine lv_iadd C.1 C.2.1 dL_law_179 ?_
  refine x_scr (j := 6 * k + 1) C hX hbl hbA h.2.2.1 (nI_add (6 * k) 1) (by omega) (by omega) dL_law_180 ?_
  refine lv_aload_n C.1 C.2.1 dL_law_181 rfl (lv_at hl 0 rfl) ?_
  refine lv_iload_n C.1 C.2.1 dL_law_182 rfl (lv_at hl 3 rfl) ?_
  refine lv_iconst (v := (2 : Int32)) C.1 C.2.1 dL_law_183 (by decide) ?_
  refine lv_iadd C.1 C.2.1 dL_law_184 ?_
  refine x_scr (j := 6 * k + 2) C hX hbl hbA h.2.2.1 (nI_add (6 * k) 2) (by omega) (by omega) dL_law_185 ?_
  refine lv_aload_n C.1 C.2.1 dL_law_186 rfl (lv_at hl 0 rfl) ?_
  refine lv_iload_n C.1 C.2.1 dL_law_187 rfl (lv_at hl 3 rfl) ?_
  refine lv_iconst (v := (3 : Int32)) C.1 C.2.1 dL_law_188 (by decide) ?_
  refine lv_iadd C.1 C.2.1 dL_law_189 ?_
  refine x_scr (j := 6 * k + 3) C hX hbl hbA h.2.2.1 (nI_add (6 * k) 3) (by omega) (by omega) dL_law_190 ?_
  refine l_i K ho h hd.symm (x_V C K ho [.int (xs (6 * k + 1)), .int (xs (6 * k + 2)), .int (xs (6 * k + 3))] (c_X9_set FU_ l κ G cy adm H.size σm 0 (xs (6 * k + 1)) (xs (6 * k + 2)) (xs (6 * k + 3)) hkm hfm) mi_X9_set rfl im_yX9_set se_yX9_set ml_RL_17 cl_9 hkm ⟨rfl, rfl, Nat.le_of_ble_eq_true rfl, Nat.le_of_ble_eq_true rfl⟩ hl (Nat.le_of_ble_eq_true rfl) dL_law_191 ⟨by show _ ≤ 600000; omega, by show _ ≤ 7302250; omega⟩ rfl) (fun H locs ho h hd => ?_)
  refine lv_icmp_eq (tgt := 1161) C.1 C.2.1 dL_law_194 (by decide) (fun _ => ?_) (fun z => absurd rfl z)
  refine W.widen (k := 1000 + 4 * (k + 1)) (n := 20000 + 483 * (k + 1)) (by omega) (by omega) ?_
  exact END adx adm σx' σm' hrel' H locs ls h ho hd.symm hl
set_option maxHeartbeats 4000000 in
set_option maxRecDepth 100000 in
theorem law_carpet {p : Program} {l : Launch} {e : Env} {s : State} {m : MethodId} {below : List Frame} {meth : Method} {c : Code} {b L : Nat} {xs : Nat → Int32} {κ : Ka_} {G : va_G} {cy : Nat → ClassId} (hL : L ≤ 3072) (C : CallFix p m c code 4 s #[Value.ref b] wU_ RL) (hX : va_X b L xs s s.heap) (hbl : b < s.heap.size) (K : Kx_ κ G cy (fun q : Nat => s.heap.size ≤ q) s) (Rel : St_ → St_ → Prop) (hs : Sims_ Rel) {k : Nat} (hk : 6 * k + 6 ≤ L) (END : ∀ (adx adm : Nat → Nat) (σx σm : St_), Rel σx σm → ∀ (H : Heap) (locs : List Loc) (ls : Array Slot), Ht_ G cy (fun q : Nat => s.heap.size ≤ q) s adx σx H locs → Ht_ G cy (fun q : Nat => s.heap.size ≤ q) s adm σm H locs → Dj_ adx σx adm σm → lv_has ls 4 [(0, .ref b), (1, .ref (adx 0)), (2, .ref (adm 0)), (3, .int (nI (6 * k)))] → W p l e room_1 s m #[Value.ref b] below meth c H locs (1000 + 4 * (k + 1)) (20000 + 483 * (k + 1)) (lw_Z below #[Value.ref b] s) (F0 m 1161 ls [])) : ∀ (adx adm : Nat → Nat) (σx σm : St_), Rel σx σm → ∀ (H : Heap) (locs : List Loc) (ls : Array Slot), Ht_ G cy (fun q : Nat => s.heap.size ≤ q) s adx σx H locs → Ht_ G cy (fun q : Nat => s.heap.size ≤ q) s adm σm H locs → Dj_ adx σx adm σm → lv_has ls 4 [(0, .ref b), (1, .ref (adx 0)), (2, .ref (adm 0)), (3, .int (nI (6 * k)))] → W p l e room_1 s m #[Value.ref b] below meth c H locs (1000 + 4 * k) (20000 + 483 * k) (lw_Z below #[Value.ref b] s) (F0 m 199 ls []) := by
  intro adx adm σx σm hrel H locs ls h ho hd hl
  have hbA : ¬ (fun q : Nat => s.heap.size ≤ q) b := Nat.not_le.mpr hbl
  obtain ⟨hkx, hkm⟩ := hs.1 σx σm hrel
  obtain ⟨r, σx', σm', hfx, hfm, hrel'⟩ := hs.2.2.2.1 σx σm hrel (xs (6 * k + 1)) (xs (6 * k + 2)) (xs (6 * k + 3))
  refine lv_aload_n C.1 C.2.1 dL_law_199 rfl (lv_at hl 1 rfl) ?_
  refine lv_aload_n C.1 C.2.1 dL_law_200 rfl (lv_at hl 0 rfl) ?_
  refine lv_iload_n C.1 C.2.1 dL_law_201 rfl (lv_at hl 3 rfl) ?_
  refine lv_iconst (v := (1 : Int32)) C.1 C.2.1 dL_law_202 (by decide) ?_
  refine lv_iadd C.1 C.2.1 dL_law_203 ?_
  refine x_scr (j := 6 * k + 1) C hX hbl hbA h.2.2.1 (nI_add (6 * k) 1) (by omega) (by omega) dL_law_204 ?_
  refine lv_aload_n C.1 C.2.1 dL_law_205 rfl (lv_at hl 0 rfl) ?_
  refine lv_iload_n C.1 C.2.1 dL_law_206 rfl (lv_at hl 3 rfl) ?_
  refine lv_iconst (v := (2 : Int32)) C.1 C.2.1 dL_law_207 (by decide) ?_
  refine lv_iadd C.1 C.2.1 dL_law_208 ?_
  refine x_scr (j := 6 * k + 2) C hX hbl hbA h.2.2.1 (nI_add (6 * k) 2) (by omega) (by omega) dL_law_209 ?_
  refine lv_aload_n C.1 C.2.1 dL_law_210 rfl (lv_at hl 0 rfl) ?_
  refine lv_iload_n C.1 C.2.1 dL_law_211 rfl (lv_at hl 3 rfl) ?_
  refine lv_iconst (v := (3 : Int32)) C.1 C.2.1 dL_law_212 (by decide) ?_
  refine lv_iadd C.1 C.2.1 dL_law_213 ?_
  refine x_scr (j := 6 * k + 3) C hX hbl hbA h.2.2.1 (nI_add (6 * k) 3) (by omega) (by omega) dL_law_214 ?_
  refine l_i K h ho hd (x_V C K h [.int (xs (6 * k + 1)), .int (xs (6 * k + 2)), .int (xs (6 * k + 3))] (c_X8_carpet l κ G cy adx H.size σx 0 (xs (6 * k + 1)) (xs (6 * k + 2)) (xs (6 * k + 3)) hkx hfx) mi_X8_carpet rfl im_yX8_carpet se_yX8_carpet ml_RL_18 cl_8 hkx ⟨rfl, rfl, Nat.le_of_ble_eq_true rfl, Nat.le_of_ble_eq_true rfl⟩ hl (Nat.le_of_ble_eq_true rfl) dL_law_215 ⟨by show _ ≤ 600000; omega, by show _ ≤ 7302250; omega⟩ rfl) (fun H locs h ho hd => ?_)
  refine lv_aload_n C.1 C.2.1 dL_law_218 rfl (lv_at hl 2 rfl) ?_
  refine lv_aload_n C.1 C.2.1 dL_law_219 rfl (lv_at hl 0 rfl) ?_
  refine lv_iload_n C.1 C.2.1 dL_law_220 rfl (lv_at hl 3 rfl) ?_
  refine lv_iconst (v := (1 : Int32)) C.1 C.2.1 dL_law_221 (by decide) ?_
  refine lv_iadd C.1 C.2.1 dL_law_222 ?_
  refine x_scr (j := 6 * k + 1) C hX hbl hbA h.2.2.1 (nI_add (6 * k) 1) (by omega) (by omega) dL_law_223 ?_
  refine lv_aload_n C.1 C.2.1 dL_law_224 rfl (lv_at hl 0 rfl) ?_
  refine lv_iload_n C.1 C.2.1 dL_law_225 rfl (lv_at hl 3 rfl) ?_
  refine lv_iconst (v := (2 : Int32)) C.1 C.2.1 dL_law_226 (by decide) ?_
  refine lv_iadd C.1 C.2.1 dL_law_227 ?_
  refine x_scr (j := 6 * k + 2) C hX hbl hbA h.2.2.1 (nI_add (6 * k) 2) (by omega) (by omega) dL_law_228 ?_
  refine lv_aload_n C.1 C.2.1 dL_law_229 rfl (lv_at hl 0 rfl) ?_
  refine lv_iload_n C.1 C.2.1 dL_law_230 rfl (lv_at hl 3 rfl) ?_
  refine lv_iconst (v := (3 : Int32)) C.1 C.2.1 dL_law_231 (by decide) ?_
  refine lv_iadd C.1 C.2.1 dL_law_232 ?_
  refine x_scr (j := 6 * k + 3) C hX hbl hbA h.2.2.1 (nI_add (6 * k) 3) (by omega) (by omega) dL_law_233 ?_
  refine l_i K ho h hd.symm (x_V C K ho [.int (xs (6 * k + 1)), .int (xs (6 * k + 2)), .int (xs (6 * k + 3))] (c_X9_carpet l κ G cy adm H.size σm 0 (xs (6 * k + 1)) (xs (6 * k + 2)) (xs (6 * k + 3)) hkm hfm) mi_X9_carpet rfl im_yX9_carpet se_yX9_carpet ml_RL_21 cl_9 hkm ⟨rfl, rfl, Nat.le_of_ble_eq_true rfl, Nat.le_of_ble_eq_true rfl⟩ hl (Nat.le_of_ble_eq_true rfl) dL_law_234 ⟨by show _ ≤ 600000; omega, by show _ ≤ 7302250; omega⟩ rfl) (fun H locs ho h hd => ?_)
  refine lv_icmp_eq (tgt := 1161) C.1 C.2.1 dL_law_237 (by decide) (fun _ => ?_) (fun z => absurd rfl z)
  refine W.widen (k := 1000 + 4 * (k + 1)) (n := 20000 + 483 * (k + 1)) (by omega) (by omega) ?_
  exact END adx adm σx' σm' hrel' H locs ls h ho hd.symm hl
set_option maxHeartbeats 4000000 in
set_option maxRecDepth 100000 in
theorem law_told {p : Program} {l : Launch} {e : Env} {s : State} {m : MethodId} {below : List Frame} {meth : Method} {c : Code} {b L : Nat} {xs : Nat → Int32} {κ : Ka_} {G : va_G} {cy : Nat → ClassId} (hL : L ≤ 3072) (C : CallFix p m c code 4 s #[Value.ref b] wU_ RL) (hX : va_X b L xs s s.heap) (hbl : b < s.heap.size) (K : Kx_ κ G cy (fun q : Nat => s.heap.size ≤ q) s) (Rel : St_ → St_ → Prop) (hs : Sims_ Rel) {k : Nat} (hk : 6 * k + 6 ≤ L) (END : ∀ (adx adm : Nat → Nat) (σx σm : St_), Rel σx σm → ∀ (H : Heap) (locs : List Loc) (ls : Array Slot), Ht_ G cy (fun q : Nat => s.heap.size ≤ q) s adx σx H locs → Ht_ G cy (fun q : Nat => s.heap.size ≤ q) s adm σm H locs → Dj_ adx σx adm σm → lv_has ls 4 [(0, .ref b), (1, .ref (adx 0)), (2, .ref (adm 0)), (3, .int (nI (6 * k)))] → W p l e room_1 s m #[Value.ref b] below meth c H locs (1000 + 4 * (k + 1)) (20000 + 483 * (k + 1)) (lw_Z below #[Value.ref b] s) (F0 m 1161 ls [])) : ∀ (adx adm : Nat → Nat) (σx σm : St_), Rel σx σm → ∀ (H : Heap) (locs : List Loc) (ls : Array Slot), Ht_ G cy (fun q : Nat => s.heap.size ≤ q) s adx σx H locs → Ht_ G cy (fun q : Nat => s.heap.size ≤ q) s adm σm H locs → Dj_ adx σx adm σm → lv_has ls 4 [(0, .ref b), (1, .ref (adx 0)), (2, .ref (adm 0)), (3, .int (nI (6 * k)))] → W p l e room_1 s m #[Value.ref b] below meth c H locs (1000 + 4 * k) (20000 + 483 * k) (lw_Z below #[Value.ref b] s) (F0 m 242 ls []) := by
  intro adx adm σx σm hrel H locs ls h ho hd hl
  have hbA : ¬ (fun q : Nat => s.heap.size ≤ q) b := Nat.not_le.mpr hbl
  obtain ⟨hkx, hkm⟩ := hs.1 σx σm hrel
  obtain ⟨r, σx', σm', hfx, hfm, hrel'⟩ := hs.2.2.2.2.1 σx σm hrel (xs (6 * k + 1)) (xs (6 * k + 2))
  refine lv_aload_n C.1 C.2.1 dL_law_242 rfl (lv_at hl 1 rfl) ?_
  refine lv_aload_n C.1 C.2.1 dL_law_243 rfl (lv_at hl 0 rfl) ?_
  refine lv_iload_n C.1 C.2.1 dL_law_244 rfl (lv_at hl 3 rfl) ?_
  refine lv_iconst (v := (1 : Int32)) C.1 C.2.1 dL_law_245 (by decide) ?_
  refine lv_iadd C.1 C.2.1 dL_law_246 ?_
  refine x_scr (j := 6 * k + 1) C hX hbl hbA h.2.2.1 (nI_add (6 * k) 1) (by omega) (by omega) dL_law_247 ?_
  refine lv_aload_n C.1 C.2.1 dL_law_248 rfl (lv_at hl 0 rfl) ?_
  refine lv_iload_n C.1 C.2.1 dL_law_249 rfl (lv_at hl 3 rfl) ?_
  refine lv_iconst (v := (2 : Int32)) C.1 C.2.1 dL_law_250 (by decide) ?_
  refine lv_iadd C.1 C.2.1 dL_law_251 ?_
  refine x_scr (j := 6 * k + 2) C hX hbl hbA h.2.2.1 (nI_add (6 * k) 2) (by omega) (by omega) dL_law_252 ?_
  refine l_i K h ho hd (x_V C K h [.int (xs (6 * k + 1)), .int (xs (6 * k + 2))] (c_X8_told FU_ l κ G cy adx H.size σx 0 (xs (6 * k + 1)) (xs (6 * k + 2)) hkx hfx) mi_X8_told rfl im_yX8_told se_yX8_told ml_RL_22 cl_8 hkx ⟨rfl, rfl, Nat.le_of_ble_eq_true rfl, Nat.le_of_ble_eq_true rfl⟩ hl (Nat.le_of_ble_eq_true rfl) dL_law_253 ⟨by show _ ≤ 600000; omega, by show _ ≤ 7302250; omega⟩ rfl) (fun H locs h ho hd => ?_)
  refine lv_aload_n C.1 C.2.1 dL_law_256 rfl (lv_at hl 2 rfl) ?_
  refine lv_aload_n C.1 C.2.1 dL_law_257 rfl (lv_at hl 0 rfl) ?_
  refine lv_iload_n C.1 C.2.1 dL_law_258 rfl (lv_at hl 3 rfl) ?_
  refine lv_iconst (v := (1 : Int32)) C.1 C.2.1 dL_law_259 (by decide) ?_
  refine lv_iadd C.1 C.2.1 dL_law_260 ?_
  refine x_scr (j := 6 * k + 1) C hX hbl hbA h.2.2.1 (nI_add (6 * k) 1) (by omega) (by omega) dL_law_261 ?_
  refine lv_aload_n C.1 C.2.1 dL_law_262 rfl (lv_at hl 0 rfl) ?_
  refine lv_iload_n C.1 C.2.1 dL_law_263 rfl (lv_at hl 3 rfl) ?_
  refine lv_iconst (v := (2 : Int32)) C.1 C.2.1 dL_law_264 (by decide) ?_
  refine lv_iadd C.1 C.2.1 dL_law_265 ?_
  refine x_scr (j := 6 * k + 2) C hX hbl hbA h.2.2.1 (nI_add (6 * k) 2) (by omega) (by omega) dL_law_266 ?_
  refine l_i K ho h hd.symm (x_V C K ho [.int (xs (6 * k + 1)), .int (xs (6 * k + 2))] (c_X9_told FU_ l κ G cy adm H.size σm 0 (xs (6 * k + 1)) (xs (6 * k + 2)) hkm hfm) mi_X9_told rfl im_yX9_told se_yX9_told ml_RL_26 cl_9 hkm ⟨rfl, rfl, Nat.le_of_ble_eq_true rfl, Nat.le_of_ble_eq_true rfl⟩ hl (Nat.le_of_ble_eq_true rfl) dL_law_267 ⟨by show _ ≤ 600000; omega, by show _ ≤ 7302250; omega⟩ rfl) (fun H locs ho h hd => ?_)
  refine lv_icmp_eq (tgt := 1161) C.1 C.2.1 dL_law_270 (by decide) (fun _ => ?_) (fun z => absurd rfl z)
  refine W.widen (k := 1000 + 4 * (k + 1)) (n := 20000 + 483 * (k + 1)) (by omega) (by omega) ?_
  exact END adx adm σx' σm' hrel' H locs ls h ho hd.symm hl
set_option maxHeartbeats 4000000 in
set_option maxRecDepth 100000 in
theorem law_asks {p : Program} {l : Launch} {e : Env} {s : State} {m : MethodId} {below : List Frame} {meth : Method} {c : Code} {b L : Nat} {xs : Nat → Int32} {κ : Ka_} {G : va_G} {cy : Nat → ClassId} (hL : L ≤ 3072) (C : CallFix p m c code 4 s #[Value.ref b] wU_ RL) (hX : va_X b L xs s s.heap) (hbl : b < s.heap.size) (K : Kx_ κ G cy (fun q : Nat => s.heap.size ≤ q) s) (Rel : St_ → St_ → Prop) (hs : Sims_ Rel) {k : Nat} (hk : 6 * k + 6 ≤ L) (END : ∀ (adx adm : Nat → Nat) (σx σm : St_), Rel σx σm → ∀ (H : Heap) (locs : List Loc) (ls : Array Slot), Ht_ G cy (fun q : Nat => s.heap.size ≤ q) s adx σx H locs → Ht_ G cy (fun q : Nat => s.heap.size ≤ q) s adm σm H locs → Dj_ adx σx adm σm → lv_has ls 4 [(0, .ref b), (1, .ref (adx 0)), (2, .ref (adm 0)), (3, .int (nI (6 * k)))] → W p l e room_1 s m #[Value.ref b] below meth c H locs (1000 + 4 * (k + 1)) (20000 + 483 * (k + 1)) (lw_Z below #[Value.ref b] s) (F0 m 1161 ls [])) : ∀ (adx adm : Nat → Nat) (σx σm : St_), Rel σx σm → ∀ (H : Heap) (locs : List Loc) (ls : Array Slot), Ht_ G cy (fun q : Nat => s.heap.size ≤ q) s adx σx H locs → Ht_ G cy (fun q : Nat => s.heap.size ≤ q) s adm σm H locs → Dj_ adx σx adm σm → lv_has ls 4 [(0, .ref b), (1, .ref (adx 0)), (2, .ref (adm 0)), (3, .int (nI (6 * k)))] → W p l e room_1 s m #[Value.ref b] below meth c H locs (1000 + 4 * k) (20000 + 483 * k) (lw_Z below #[Value.ref b] s) (F0 m 275 ls []) := by
  intro adx adm σx σm hrel H locs ls h ho hd hl
  have hbA : ¬ (fun q : Nat => s.heap.size ≤ q) b := Nat.not_le.mpr hbl
  obtain ⟨hkx, hkm⟩ := hs.1 σx σm hrel
  obtain ⟨r, σx', σm', hfx, hfm, hrel'⟩ := hs.2.2.2.2.2.1 σx σm hrel (xs (6 * k + 1)) (xs (6 * k + 2)) (xs (6 * k + 3)) (xs (6 * k + 4))
  refine lv_aload_n C.1 C.2.1 dL_law_275 rfl (lv_at hl 1 rfl) ?_
  refine lv_aload_n C.1 C.2.1 dL_law_276 rfl (lv_at hl 0 rfl) ?_
  refine lv_iload_n C.1 C.2.1 dL_law_277 rfl (lv_at hl 3 rfl) ?_
  refine lv_iconst (v := (1 : Int32)) C.1 C.2.1 dL_law_278 (by decide) ?_
  refine lv_iadd C.1 C.2.1 dL_law_279 ?_
  refine x_scr (j := 6 * k + 1) C hX hbl hbA h.2.2.1 (nI_add (6 * k) 1) (by omega) (by omega) dL_law_280 ?_
  refine lv_aload_n C.1 C.2.1 dL_law_281 rfl (lv_at hl 0 rfl) ?_
  refine lv_iload_n C.1 C.2.1 dL_law_282 rfl (lv_at hl 3 rfl) ?_
  refine lv_iconst (v := (2 : Int32)) C.1 C.2.1 dL_law_283 (by decide) ?_
  refine lv_iadd C.1 C.2.1 dL_law_284 ?_
  refine x_scr (j := 6 * k + 2) C hX hbl hbA h.2.2.1 (nI_add (6 * k) 2) (by omega) (by omega) dL_law_285 ?_
  refine lv_aload_n C.1 C.2.1 dL_law_286 rfl (lv_at hl 0 rfl) ?_
  refine lv_iload_n C.1 C.2.1 dL_law_287 rfl (lv_at hl 3 rfl) ?_
  refine lv_iconst (v := (3 : Int32)) C.1 C.2.1 dL_law_288 (by decide) ?_
  refine lv_iadd C.1 C.2.1 dL_law_289 ?_
  refine x_scr (j := 6 * k + 3) C hX hbl hbA h.2.2.1 (nI_add (6 * k) 3) (by omega) (by omega) dL_law_290 ?_
  refine lv_aload_n C.1 C.2.1 dL_law_291 rfl (lv_at hl 0 rfl) ?_
  refine lv_iload_n C.1 C.2.1 dL_law_292 rfl (lv_at hl 3 rfl) ?_
  refine lv_iconst (v := (4 : Int32)) C.1 C.2.1 dL_law_293 (by decide) ?_
  refine lv_iadd C.1 C.2.1 dL_law_294 ?_
  refine x_scr (j := 6 * k + 4) C hX hbl hbA h.2.2.1 (nI_add (6 * k) 4) (by omega) (by omega) dL_law_295 ?_
  refine l_i K h ho hd (x_V C K h [.int (xs (6 * k + 1)), .int (xs (6 * k + 2)), .int (xs (6 * k + 3)), .int (xs (6 * k + 4))] (c_X8_asks FU_ l κ G cy adx H.size σx 0 (xs (6 * k + 1)) (xs (6 * k + 2)) (xs (6 * k + 3)) (xs (6 * k + 4)) hkx hfx) mi_X8_asks rfl im_yX8_asks se_yX8_asks ml_RL_27 cl_8 hkx ⟨rfl, rfl, Nat.le_of_ble_eq_true rfl, Nat.le_of_ble_eq_true rfl⟩ hl (Nat.le_of_ble_eq_true rfl) dL_law_296 ⟨by show _ ≤ 600000; omega, by show _ ≤ 7302250; omega⟩ rfl) (fun H locs h ho hd => ?_)
  refine lv_aload_n C.1 C.2.1 dL_law_299 rfl (lv_at hl 2 rfl) ?_
  refine lv_aload_n C.1 C.2.1 dL_law_300 rfl (lv_at hl 0 rfl) ?_
  refine lv_iload_n C.1 C.2.1 dL_law_301 rfl (lv_at hl 3 rfl) ?_
  refine lv_iconst (v := (1 : Int32)) C.1 C.2.1 dL_law_302 (by decide) ?_
  refine lv_iadd C.1 C.2.1 dL_law_303 ?_
  refine x_scr (j := 6 * k + 1) C hX hbl hbA h.2.2.1 (nI_add (6 * k) 1) (by omega) (by omega) dL_law_304 ?_
  refine lv_aload_n C.1 C.2.1 dL_law_305 rfl (lv_at hl 0 rfl) ?_
  refine lv_iload_n C.1 C.2.1 dL_law_306 rfl (lv_at hl 3 rfl) ?_
  refine lv_iconst (v := (2 : Int32)) C.1 C.2.1 dL_law_307 (by decide) ?_
  refine lv_iadd C.1 C.2.1 dL_law_308 ?_
  refine x_scr (j := 6 * k + 2) C hX hbl hbA h.2.2.1 (nI_add (6 * k) 2) (by omega) (by omega) dL_law_309 ?_
  refine lv_aload_n C.1 C.2.1 dL_law_310 rfl (lv_at hl 0 rfl) ?_
  refine lv_iload_n C.1 C.2.1 dL_law_311 rfl (lv_at hl 3 rfl) ?_
  refine lv_iconst (v := (3 : Int32)) C.1 C.2.1 dL_law_312 (by decide) ?_
  refine lv_iadd C.1 C.2.1 dL_law_313 ?_
  refine x_scr (j := 6 * k + 3) C hX hbl hbA h.2.2.1 (nI_add (6 * k) 3) (by omega) (by omega) dL_law_314 ?_
  refine lv_aload_n C.1 C.2.1 dL_law_315 rfl (lv_at hl 0 rfl) ?_
  refine lv_iload_n C.1 C.2.1 dL_law_316 rfl (lv_at hl 3 rfl) ?_
  refine lv_iconst (v := (4 : Int32)) C.1 C.2.1 dL_law_317 (by decide) ?_
  refine lv_iadd C.1 C.2.1 dL_law_318 ?_
  refine x_scr (j := 6 * k + 4) C hX hbl hbA h.2.2.1 (nI_add (6 * k) 4) (by omega) (by omega) dL_law_319 ?_
  refine l_i K ho h hd.symm (x_V C K ho [.int (xs (6 * k + 1)), .int (xs (6 * k + 2)), .int (xs (6 * k + 3)), .int (xs (6 * k + 4))] (c_X9_asks FU_ l κ G cy adm H.size σm 0 (xs (6 * k + 1)) (xs (6 * k + 2)) (xs (6 * k + 3)) (xs (6 * k + 4)) hkm hfm) mi_X9_asks rfl im_yX9_asks se_yX9_asks ml_RL_31 cl_9 hkm ⟨rfl, rfl, Nat.le_of_ble_eq_true rfl, Nat.le_of_ble_eq_true rfl⟩ hl (Nat.le_of_ble_eq_true rfl) dL_law_320 ⟨by show _ ≤ 600000; omega, by show _ ≤ 7302250; omega⟩ rfl) (fun H locs ho h hd => ?_)
  refine lv_icmp_eq (tgt := 1161) C.1 C.2.1 dL_law_323 (by decide) (fun _ => ?_) (fun z => absurd rfl z)
  refine W.widen (k := 1000 + 4 * (k + 1)) (n := 20000 + 483 * (k + 1)) (by omega) (by omega) ?_
  exact END adx adm σx' σm' hrel' H locs ls h ho hd.symm hl
set_option maxHeartbeats 4000000 in
set_option maxRecDepth 100000 in
theorem law_feed {p : Program} {l : Launch} {e : Env} {s : State} {m : MethodId} {below : List Frame} {meth : Method} {c : Code} {b L : Nat} {xs : Nat → Int32} {κ : Ka_} {G : va_G} {cy : Nat → ClassId} (hL : L ≤ 3072) (C : CallFix p m c code 4 s #[Value.ref b] wU_ RL) (hX : va_X b L xs s s.heap) (hbl : b < s.heap.size) (K : Kx_ κ G cy (fun q : Nat => s.heap.size ≤ q) s) (Rel : St_ → St_ → Prop) (hs : Sims_ Rel) {k : Nat} (hk : 6 * k + 6 ≤ L) (END : ∀ (adx adm : Nat → Nat) (σx σm : St_), Rel σx σm → ∀ (H : Heap) (locs : List Loc) (ls : Array Slot), Ht_ G cy (fun q : Nat => s.heap.size ≤ q) s adx σx H locs → Ht_ G cy (fun q : Nat => s.heap.size ≤ q) s adm σm H locs → Dj_ adx σx adm σm → lv_has ls 4 [(0, .ref b), (1, .ref (adx 0)), (2, .ref (adm 0)), (3, .int (nI (6 * k)))] → W p l e room_1 s m #[Value.ref b] below meth c H locs (1000 + 4 * (k + 1)) (20000 + 483 * (k + 1)) (lw_Z below #[Value.ref b] s) (F0 m 1161 ls [])) : ∀ (adx adm : Nat → Nat) (σx σm : St_), Rel σx σm → ∀ (H : Heap) (locs : List Loc) (ls : Array Slot), Ht_ G cy (fun q : Nat => s.heap.size ≤ q) s adx σx H locs → Ht_ G cy (fun q : Nat => s.heap.size ≤ q) s adm σm H locs → Dj_ adx σx adm σm → lv_has ls 4 [(0, .ref b), (1, .ref (adx 0)), (2, .ref (adm 0)), (3, .int (nI (6 * k)))] → W p l e room_1 s m #[Value.ref b] below meth c H locs (1000 + 4 * k) (20000 + 483 * k) (lw_Z below #[Value.ref b] s) (F0 m 328 ls []) := by
  intro adx adm σx σm hrel H locs ls h ho hd hl
  have hbA : ¬ (fun q : Nat => s.heap.size ≤ q) b := Nat.not_le.mpr hbl
  obtain ⟨hkx, hkm⟩ := hs.1 σx σm hrel
  obtain ⟨r, σx', σm', hfx, hfm, hrel'⟩ := hs.2.2.2.2.2.2.1 σx σm hrel (xs (6 * k + 1))
  refine lv_aload_n C.1 C.2.1 dL_law_328 rfl (lv_at hl 1 rfl) ?_
  refine lv_aload_n C.1 C.2.1 dL_law_329 rfl (lv_at hl 0 rfl) ?_
  refine lv_iload_n C.1 C.2.1 dL_law_330 rfl (lv_at hl 3 rfl) ?_
  refine lv_iconst (v := (1 : Int32)) C.1 C.2.1 dL_law_331 (by decide) ?_
  refine lv_iadd C.1 C.2.1 dL_law_332 ?_
  refine x_scr (j := 6 * k + 1) C hX hbl hbA h.2.2.1 (nI_add (6 * k) 1) (by omega) (by omega) dL_law_333 ?_
  refine l_i K h ho hd (x_V C K h [.int (xs (6 * k + 1))] (c_X8_feed l κ G cy adx H.size σx 0 (xs (6 * k + 1)) hkx hfx) mi_X8_feed rfl im_yX8_feed se_yX8_feed ml_RL_32 cl_8 hkx ⟨rfl, rfl, Nat.le_of_ble_eq_true rfl, Nat.le_of_ble_eq_true rfl⟩ hl (Nat.le_of_ble_eq_true rfl) dL_law_334 ⟨by show _ ≤ 600000; omega, by show _ ≤ 7302250; omega⟩ rfl) (fun H locs h ho hd => ?_)
  refine lv_aload_n C.1 C.2.1 dL_law_337 rfl (lv_at hl 2 rfl) ?_
  refine lv_aload_n C.1 C.2.1 dL_law_338 rfl (lv_at hl 0 rfl) ?_
  refine lv_iload_n C.1 C.2.1 dL_law_339 rfl (lv_at hl 3 rfl) ?_
  refine lv_iconst (v := (1 : Int32)) C.1 C.2.1 dL_law_340 (by decide) ?_
  refine lv_iadd C.1 C.2.1 dL_law_341 ?_
  refine x_scr (j := 6 * k + 1) C hX hbl hbA h.2.2.1 (nI_add (6 * k) 1) (by omega) (by omega) dL_law_342 ?_
  refine l_i K ho h hd.symm (x_V C K ho [.int (xs (6 * k + 1))] (c_X9_feed l κ G cy adm H.size σm 0 (xs (6 * k + 1)) hkm hfm) mi_X9_feed rfl im_yX9_feed se_yX9_feed ml_RL_36 cl_9 hkm ⟨rfl, rfl, Nat.le_of_ble_eq_true rfl, Nat.le_of_ble_eq_true rfl⟩ hl (Nat.le_of_ble_eq_true rfl) dL_law_343 ⟨by show _ ≤ 600000; omega, by show _ ≤ 7302250; omega⟩ rfl) (fun H locs ho h hd => ?_)
  refine lv_icmp_eq (tgt := 1161) C.1 C.2.1 dL_law_346 (by decide) (fun _ => ?_) (fun z => absurd rfl z)
  refine W.widen (k := 1000 + 4 * (k + 1)) (n := 20000 + 483 * (k + 1)) (by omega) (by omega) ?_
  exact END adx adm σx' σm' hrel' H locs ls h ho hd.symm hl
set_option maxHeartbeats 4000000 in
set_option maxRecDepth 100000 in
theorem law_text {p : Program} {l : Launch} {e : Env} {s : State} {m : MethodId} {below : List Frame} {meth : Method} {c : Code} {b L : Nat} {xs : Nat → Int32} {κ : Ka_} {G : va_G} {cy : Nat → ClassId} (hL : L ≤ 3072) (C : CallFix p m c code 4 s #[Value.ref b] wU_ RL) (hX : va_X b L xs s s.heap) (hbl : b < s.heap.size) (K : Kx_ κ G cy (fun q : Nat => s.heap.size ≤ q) s) (Rel : St_ → St_ → Prop) (hs : Sims_ Rel) {k : Nat} (hk : 6 * k + 6 ≤ L) (END : ∀ (adx adm : Nat → Nat) (σx σm : St_), Rel σx σm → ∀ (H : Heap) (locs : List Loc) (ls : Array Slot), Ht_ G cy (fun q : Nat => s.heap.size ≤ q) s adx σx H locs → Ht_ G cy (fun q : Nat => s.heap.size ≤ q) s adm σm H locs → Dj_ adx σx adm σm → lv_has ls 4 [(0, .ref b), (1, .ref (adx 0)), (2, .ref (adm 0)), (3, .int (nI (6 * k)))] → W p l e room_1 s m #[Value.ref b] below meth c H locs (1000 + 4 * (k + 1)) (20000 + 483 * (k + 1)) (lw_Z below #[Value.ref b] s) (F0 m 1161 ls [])) : ∀ (adx adm : Nat → Nat) (σx σm : St_), Rel σx σm → ∀ (H : Heap) (locs : List Loc) (ls : Array Slot), Ht_ G cy (fun q : Nat => s.heap.size ≤ q) s adx σx H locs → Ht_ G cy (fun q : Nat => s.heap.size ≤ q) s adm σm H locs → Dj_ adx σx adm σm → lv_has ls 4 [(0, .ref b), (1, .ref (adx 0)), (2, .ref (adm 0)), (3, .int (nI (6 * k)))] → W p l e room_1 s m #[Value.ref b] below meth c H locs (1000 + 4 * k) (20000 + 483 * k) (lw_Z below #[Value.ref b] s) (F0 m 351 ls []) := by
  intro adx adm σx σm hrel H locs ls h ho hd hl
  have hbA : ¬ (fun q : Nat => s.heap.size ≤ q) b := Nat.not_le.mpr hbl
  obtain ⟨hkx, hkm⟩ := hs.1 σx σm hrel
  have hwx := h.2.2.2
  obtain ⟨r, σx', σm', hfx, hfm, hrel'⟩ := hs.2.2.2.2.2.2.2.1 σx σm hrel ()
  refine lv_aload_n C.1 C.2.1 dL_law_351 rfl (lv_at hl 1 rfl) ?_
  refine l_iA K h ho hd (x_V C K h [] (c_X8_text FU_ l κ G cy adx H.size σx 0 hkx hfx) mi_X8_text rfl im_yX8_text se_yX8_text ml_RL_37 cl_8 hkx ⟨rfl, rfl, Nat.le_of_ble_eq_true rfl, Nat.le_of_ble_eq_true rfl⟩ hl (Nat.le_of_ble_eq_true rfl) dL_law_352 ⟨by show _ ≤ 600000; omega, by show _ ≤ 7302250; omega⟩ rfl) (fun ad1 H locs hag h ho hd => ?_)
  have hz0 : 0 < sn_ σx := by
    rcases Nat.lt_or_ge 0 (sn_ σx) with z | z
    · exact z
    · have := hwx.1 0 z; omega
  rw [← hag 0 hz0] at hl
  refine lv_aload_n C.1 C.2.1 dL_law_355 rfl (lv_at hl 2 rfl) ?_
  refine l_i K ho h hd.symm (x_V C K ho [] (c_X9_text FU_ l κ G cy adm H.size σm 0 hkm hfm) mi_X9_text rfl im_yX9_text se_yX9_text ml_RL_41 cl_9 hkm ⟨rfl, rfl, Nat.le_of_ble_eq_true rfl, Nat.le_of_ble_eq_true rfl⟩ hl (Nat.le_of_ble_eq_true rfl) dL_law_356 ⟨by show _ ≤ 600000; omega, by show _ ≤ 7302250; omega⟩ rfl) (fun H locs ho h hd => ?_)
  refine lv_icmp_eq (tgt := 1161) C.1 C.2.1 dL_law_359 (by decide) (fun _ => ?_) (fun z => absurd rfl z)
  refine W.widen (k := 1000 + 4 * (k + 1)) (n := 20000 + 483 * (k + 1)) (by omega) (by omega) ?_
  exact END ad1 adm σx' σm' hrel' H locs ls h ho hd.symm hl
set_option maxHeartbeats 4000000 in
set_option maxRecDepth 100000 in
theorem law_force {p : Program} {l : Launch} {e : Env} {s : State} {m : MethodId} {below : List Frame} {meth : Method} {c : Code} {b L : Nat} {xs : Nat → Int32} {κ : Ka_} {G : va_G} {cy : Nat → ClassId} (hL : L ≤ 3072) (C : CallFix p m c code 4 s #[Value.ref b] wU_ RL) (hX : va_X b L xs s s.heap) (hbl : b < s.heap.size) (K : Kx_ κ G cy (fun q : Nat => s.heap.size ≤ q) s) (Rel : St_ → St_ → Prop) (hs : Sims_ Rel) {k : Nat} (hk : 6 * k + 6 ≤ L) (END : ∀ (adx adm : Nat → Nat) (σx σm : St_), Rel σx σm → ∀ (H : Heap) (locs : List Loc) (ls : Array Slot), Ht_ G cy (fun q : Nat => s.heap.size ≤ q) s adx σx H locs → Ht_ G cy (fun q : Nat => s.heap.size ≤ q) s adm σm H locs → Dj_ adx σx adm σm → lv_has ls 4 [(0, .ref b), (1, .ref (adx 0)), (2, .ref (adm 0)), (3, .int (nI (6 * k)))] → W p l e room_1 s m #[Value.ref b] below meth c H locs (1000 + 4 * (k + 1)) (20000 + 483 * (k + 1)) (lw_Z below #[Value.ref b] s) (F0 m 1161 ls [])) : ∀ (adx adm : Nat → Nat) (σx σm : St_), Rel σx σm → ∀ (H : Heap) (locs : List Loc) (ls : Array Slot), Ht_ G cy (fun q : Nat => s.heap.size ≤ q) s adx σx H locs → Ht_ G cy (fun q : Nat => s.heap.size ≤ q) s adm σm H locs → Dj_ adx σx adm σm → lv_has ls 4 [(0, .ref b), (1, .ref (adx 0)), (2, .ref (adm 0)), (3, .int (nI (6 * k)))] → W p l e room_1 s m #[Value.ref b] below meth c H locs (1000 + 4 * k) (20000 + 483 * k) (lw_Z below #[Value.ref b] s) (F0 m 364 ls []) := by
  intro adx adm σx σm hrel H locs ls h ho hd hl
  have hbA : ¬ (fun q : Nat => s.heap.size ≤ q) b := Nat.not_le.mpr hbl
  obtain ⟨hkx, hkm⟩ := hs.1 σx σm hrel
  obtain ⟨r, σx', σm', hfx, hfm, hrel'⟩ := hs.2.2.2.2.2.2.2.2.1 σx σm hrel (xs (6 * k + 1))
  refine lv_aload_n C.1 C.2.1 dL_law_364 rfl (lv_at hl 1 rfl) ?_
  refine lv_aload_n C.1 C.2.1 dL_law_365 rfl (lv_at hl 0 rfl) ?_
  refine lv_iload_n C.1 C.2.1 dL_law_366 rfl (lv_at hl 3 rfl) ?_
  refine lv_iconst (v := (1 : Int32)) C.1 C.2.1 dL_law_367 (by decide) ?_
  refine lv_iadd C.1 C.2.1 dL_law_368 ?_
  refine x_scr (j := 6 * k + 1) C hX hbl hbA h.2.2.1 (nI_add (6 * k) 1) (by omega) (by omega) dL_law_369 ?_
  refine l_i K h ho hd (x_V C K h [.int (xs (6 * k + 1))] (c_X8_force l κ G cy adx H.size σx 0 (xs (6 * k + 1)) hkx hfx) mi_X8_force rfl im_yX8_force se_yX8_force ml_RL_42 cl_8 hkx ⟨rfl, rfl, Nat.le_of_ble_eq_true rfl, Nat.le_of_ble_eq_true rfl⟩ hl (Nat.le_of_ble_eq_true rfl) dL_law_370 ⟨by show _ ≤ 600000; omega, by show _ ≤ 7302250; omega⟩ rfl) (fun H locs h ho hd => ?_)
  refine lv_aload_n C.1 C.2.1 dL_law_373 rfl (lv_at hl 2 rfl) ?_
  refine lv_aload_n C.1 C.2.1 dL_law_374 rfl (lv_at hl 0 rfl) ?_
  refine lv_iload_n C.1 C.2.1 dL_law_375 rfl (lv_at hl 3 rfl) ?_
  refine lv_iconst (v := (1 : Int32)) C.1 C.2.1 dL_law_376 (by decide) ?_
  refine lv_iadd C.1 C.2.1 dL_law_377 ?_
  refine x_scr (j := 6 * k + 1) C hX hbl hbA h.2.2.1 (nI_add (6 * k) 1) (by omega) (by omega) dL_law_378 ?_
  refine l_i K ho h hd.symm (x_V C K ho [.int (xs (6 * k + 1))] (c_X9_force l κ G cy adm H.size σm 0 (xs (6 * k + 1)) hkm hfm) mi_X9_force rfl im_yX9_force se_yX9_force ml_RL_45 cl_9 hkm ⟨rfl, rfl, Nat.le_of_ble_eq_true rfl, Nat.le_of_ble_eq_true rfl⟩ hl (Nat.le_of_ble_eq_true rfl) dL_law_379 ⟨by show _ ≤ 600000; omega, by show _ ≤ 7302250; omega⟩ rfl) (fun H locs ho h hd => ?_)
  refine lv_icmp_eq (tgt := 1161) C.1 C.2.1 dL_law_382 (by decide) (fun _ => ?_) (fun z => absurd rfl z)
  refine W.widen (k := 1000 + 4 * (k + 1)) (n := 20000 + 483 * (k + 1)) (by omega) (by omega) ?_
  exact END adx adm σx' σm' hrel' H locs ls h ho hd.symm hl
set_option maxHeartbeats 4000000 in
set_option maxRecDepth 100000 in
theorem law_say {p : Program} {l : Launch} {e : Env} {s : State} {m : MethodId} {below : List Frame} {meth : Method} {c : Code} {b L : Nat} {xs : Nat → Int32} {κ : Ka_} {G : va_G} {cy : Nat → ClassId} (hL : L ≤ 3072) (C : CallFix p m c code 4 s #[Value.ref b] wU_ RL) (hX : va_X b L xs s s.heap) (hbl : b < s.heap.size) (K : Kx_ κ G cy (fun q : Nat => s.heap.size ≤ q) s) (Rel : St_ → St_ → Prop) (hs : Sims_ Rel) {k : Nat} (hk : 6 * k + 6 ≤ L) (END : ∀ (adx adm : Nat → Nat) (σx σm : St_), Rel σx σm → ∀ (H : Heap) (locs : List Loc) (ls : Array Slot), Ht_ G cy (fun q : Nat => s.heap.size ≤ q) s adx σx H locs → Ht_ G cy (fun q : Nat => s.heap.size ≤ q) s adm σm H locs → Dj_ adx σx adm σm → lv_has ls 4 [(0, .ref b), (1, .ref (adx 0)), (2, .ref (adm 0)), (3, .int (nI (6 * k)))] → W p l e room_1 s m #[Value.ref b] below meth c H locs (1000 + 4 * (k + 1)) (20000 + 483 * (k + 1)) (lw_Z below #[Value.ref b] s) (F0 m 1161 ls [])) : ∀ (adx adm : Nat → Nat) (σx σm : St_), Rel σx σm → ∀ (H : Heap) (locs : List Loc) (ls : Array Slot), Ht_ G cy (fun q : Nat => s.heap.size ≤ q) s adx σx H locs → Ht_ G cy (fun q : Nat => s.heap.size ≤ q) s adm σm H locs → Dj_ adx σx adm σm → lv_has ls 4 [(0, .ref b), (1, .ref (adx 0)), (2, .ref (adm 0)), (3, .int (nI (6 * k)))] → W p l e room_1 s m #[Value.ref b] below meth c H locs (1000 + 4 * k) (20000 + 483 * k) (lw_Z below #[Value.ref b] s) (F0 m 387 ls []) := by
  intro adx adm σx σm hrel H locs ls h ho hd hl
  have hbA : ¬ (fun q : Nat => s.heap.size ≤ q) b := Nat.not_le.mpr hbl
  obtain ⟨hkx, hkm⟩ := hs.1 σx σm hrel
  obtain ⟨r, σx', σm', hfx, hfm, hrel'⟩ := hs.2.2.2.2.2.2.2.2.2.1 σx σm hrel (xs (6 * k + 1)) (xs (6 * k + 2))
  refine lv_aload_n C.1 C.2.1 dL_law_387 rfl (lv_at hl 1 rfl) ?_
  refine lv_aload_n C.1 C.2.1 dL_law_388 rfl (lv_at hl 0 rfl) ?_
  refine lv_iload_n C.1 C.2.1 dL_law_389 rfl (lv_at hl 3 rfl) ?_
  refine lv_iconst (v := (1 : Int32)) C.1 C.2.1 dL_law_390 (by decide) ?_
  refine lv_iadd C.1 C.2.1 dL_law_391 ?_
  refine x_scr (j := 6 * k + 1) C hX hbl hbA h.2.2.1 (nI_add (6 * k) 1) (by omega) (by omega) dL_law_392 ?_
  refine lv_aload_n C.1 C.2.1 dL_law_393 rfl (lv_at hl 0 rfl) ?_
  refine lv_iload_n C.1 C.2.1 dL_law_394 rfl (lv_at hl 3 rfl) ?_
  refine lv_iconst (v := (2 : Int32)) C.1 C.2.1 dL_law_395 (by decide) ?_
  refine lv_iadd C.1 C.2.1 dL_law_396 ?_
  refine x_scr (j := 6 * k + 2) C hX hbl hbA h.2.2.1 (nI_add (6 * k) 2) (by omega) (by omega) dL_law_397 ?_
  refine l_i K h ho hd (x_V C K h [.int (xs (6 * k + 1)), .int (xs (6 * k + 2))] (c_X8_say FU_ l κ G cy adx H.size σx 0 (xs (6 * k + 1)) (xs (6 * k + 2)) hkx hfx) mi_X8_say rfl im_yX8_say se_yX8_say ml_RL_46 cl_8 hkx ⟨rfl, rfl, Nat.le_of_ble_eq_true rfl, Nat.le_of_ble_eq_true rfl⟩ hl (Nat.le_of_ble_eq_true rfl) dL_law_398 ⟨by show _ ≤ 600000; omega, by show _ ≤ 7302250; omega⟩ rfl) (fun H locs h ho hd => ?_)
  refine lv_aload_n C.1 C.2.1 dL_law_401 rfl (lv_at hl 2 rfl) ?_
  refine lv_aload_n C.1 C.2.1 dL_law_402 rfl (lv_at hl 0 rfl) ?_
  refine lv_iload_n C.1 C.2.1 dL_law_403 rfl (lv_at hl 3 rfl) ?_
  refine lv_iconst (v := (1 : Int32)) C.1 C.2.1 dL_law_404 (by decide) ?_
  refine lv_iadd C.1 C.2.1 dL_law_405 ?_
  refine x_scr (j := 6 * k + 1) C hX hbl hbA h.2.2.1 (nI_add (6 * k) 1) (by omega) (by omega) dL_law_406 ?_
  refine lv_aload_n C.1 C.2.1 dL_law_407 rfl (lv_at hl 0 rfl) ?_
  refine lv_iload_n C.1 C.2.1 dL_law_408 rfl (lv_at hl 3 rfl) ?_
  refine lv_iconst (v := (2 : Int32)) C.1 C.2.1 dL_law_409 (by decide) ?_
  refine lv_iadd C.1 C.2.1 dL_law_410 ?_
  refine x_scr (j := 6 * k + 2) C hX hbl hbA h.2.2.1 (nI_add (6 * k) 2) (by omega) (by omega) dL_law_411 ?_
  refine l_i K ho h hd.symm (x_V C K ho [.int (xs (6 * k + 1)), .int (xs (6 * k + 2))] (c_X9_say FU_ l κ G cy adm H.size σm 0 (xs (6 * k + 1)) (xs (6 * k + 2)) hkm hfm) mi_X9_say rfl im_yX9_say se_yX9_say ml_RL_49 cl_9 hkm ⟨rfl, rfl, Nat.le_of_ble_eq_true rfl, Nat.le_of_ble_eq_true rfl⟩ hl (Nat.le_of_ble_eq_true rfl) dL_law_412 ⟨by show _ ≤ 600000; omega, by show _ ≤ 7302250; omega⟩ rfl) (fun H locs ho h hd => ?_)
  refine lv_icmp_eq (tgt := 1161) C.1 C.2.1 dL_law_415 (by decide) (fun _ => ?_) (fun z => absurd rfl z)
  refine W.widen (k := 1000 + 4 * (k + 1)) (n := 20000 + 483 * (k + 1)) (by omega) (by omega) ?_
  exact END adx adm σx' σm' hrel' H locs ls h ho hd.symm hl
set_option maxHeartbeats 4000000 in
set_option maxRecDepth 100000 in
theorem law_flies {p : Program} {l : Launch} {e : Env} {s : State} {m : MethodId} {below : List Frame} {meth : Method} {c : Code} {b L : Nat} {xs : Nat → Int32} {κ : Ka_} {G : va_G} {cy : Nat → ClassId} (hL : L ≤ 3072) (C : CallFix p m c code 4 s #[Value.ref b] wU_ RL) (hX : va_X b L xs s s.heap) (hbl : b < s.heap.size) (K : Kx_ κ G cy (fun q : Nat => s.heap.size ≤ q) s) (Rel : St_ → St_ → Prop) (hs : Sims_ Rel) {k : Nat} (hk : 6 * k + 6 ≤ L) (END : ∀ (adx adm : Nat → Nat) (σx σm : St_), Rel σx σm → ∀ (H : Heap) (locs : List Loc) (ls : Array Slot), Ht_ G cy (fun q : Nat => s.heap.size ≤ q) s adx σx H locs → Ht_ G cy (fun q : Nat => s.heap.size ≤ q) s adm σm H locs → Dj_ adx σx adm σm → lv_has ls 4 [(0, .ref b), (1, .ref (adx 0)), (2, .ref (adm 0)), (3, .int (nI (6 * k)))] → W p l e room_1 s m #[Value.ref b] below meth c H locs (1000 + 4 * (k + 1)) (20000 + 483 * (k + 1)) (lw_Z below #[Value.ref b] s) (F0 m 1161 ls [])) : ∀ (adx adm : Nat → Nat) (σx σm : St_), Rel σx σm → ∀ (H : Heap) (locs : List Loc) (ls : Array Slot), Ht_ G cy (fun q : Nat => s.heap.size ≤ q) s adx σx H locs → Ht_ G cy (fun q : Nat => s.heap.size ≤ q) s adm σm H locs → Dj_ adx σx adm σm → lv_has ls 4 [(0, .ref b), (1, .ref (adx 0)), (2, .ref (adm 0)), (3, .int (nI (6 * k)))] → W p l e room_1 s m #[Value.ref b] below meth c H locs (1000 + 4 * k) (20000 + 483 * k) (lw_Z below #[Value.ref b] s) (F0 m 420 ls []) := by
  intro adx adm σx σm hrel H locs ls h ho hd hl
  have hbA : ¬ (fun q : Nat => s.heap.size ≤ q) b := Nat.not_le.mpr hbl
  obtain ⟨hkx, hkm⟩ := hs.1 σx σm hrel
  obtain ⟨r, σx', σm', hfx, hfm, hrel'⟩ := hs.2.2.2.2.2.2.2.2.2.2.1 σx σm hrel (xs (6 * k + 1)) (xs (6 * k + 2)) (xs (6 * k + 3))
  refine lv_aload_n C.1 C.2.1 dL_law_420 rfl (lv_at hl 1 rfl) ?_
  refine lv_aload_n C.1 C.2.1 dL_law_421 rfl (lv_at hl 0 rfl) ?_
  refine lv_iload_n C.1 C.2.1 dL_law_422 rfl (lv_at hl 3 rfl) ?_
  refine lv_iconst (v := (1 : Int32)) C.1 C.2.1 dL_law_423 (by decide) ?_
  refine lv_iadd C.1 C.2.1 dL_law_424 ?_
  refine x_scr (j := 6 * k + 1) C hX hbl hbA h.2.2.1 (nI_add (6 * k) 1) (by omega) (by omega) dL_law_425 ?_
  refine lv_aload_n C.1 C.2.1 dL_law_426 rfl (lv_at hl 0 rfl) ?_
  refine lv_iload_n C.1 C.2.1 dL_law_427 rfl (lv_at hl 3 rfl) ?_
  refine lv_iconst (v := (2 : Int32)) C.1 C.2.1 dL_law_428 (by decide) ?_
  refine lv_iadd C.1 C.2.1 dL_law_429 ?_
  refine x_scr (j := 6 * k + 2) C hX hbl hbA h.2.2.1 (nI_add (6 * k) 2) (by omega) (by omega) dL_law_430 ?_
  refine lv_aload_n C.1 C.2.1 dL_law_431 rfl (lv_at hl 0 rfl) ?_
  refine lv_iload_n C.1 C.2.1 dL_law_432 rfl (lv_at hl 3 rfl) ?_
  refine lv_iconst (v := (3 : Int32)) C.1 C.2.1 dL_law_433 (by decide) ?_
  refine lv_iadd C.1 C.2.1 dL_law_434 ?_
  refine x_scr (j := 6 * k + 3) C hX hbl hbA h.2.2.1 (nI_add (6 * k) 3) (by omega) (by omega) dL_law_435 ?_
  refine l_i K h ho hd (x_V C K h [.int (xs (6 * k + 1)), .int (xs (6 * k + 2)), .int (xs (6 * k + 3))] (c_X8_flies FU_ l κ G cy adx H.size σx 0 (xs (6 * k + 1)) (xs (6 * k + 2)) (xs (6 * k + 3)) hkx hfx) mi_X8_flies rfl im_yX8_flies se_yX8_flies ml_RL_50 cl_8 hkx ⟨rfl, rfl, Nat.le_of_ble_eq_true rfl, Nat.le_of_ble_eq_true rfl⟩ hl (Nat.le_of_ble_eq_true rfl) dL_law_436 ⟨by show _ ≤ 600000; omega, by show _ ≤ 7302250; omega⟩ rfl) (fun H locs h ho hd => ?_)
  refine lv_aload_n C.1 C.2.1 dL_law_439 rfl (lv_at hl 2 rfl) ?_
  refine lv_aload_n C.1 C.2.1 dL_law_440 rfl (lv_at hl 0 rfl) ?_
  refine lv_iload_n C.1 C.2.1 dL_law_441 rfl (lv_at hl 3 rfl) ?_
  refine lv_iconst (v := (1 : Int32)) C.1 C.2.1 dL_law_442 (by decide) ?_
  refine lv_iadd C.1 C.2.1 dL_law_443 ?_
  refine x_scr (j := 6 * k + 1) C hX hbl hbA h.2.2.1 (nI_add (6 * k) 1) (by omega) (by omega) dL_law_444 ?_
  refine lv_aload_n C.1 C.2.1 dL_law_445 rfl (lv_at hl 0 rfl) ?_
  refine lv_iload_n C.1 C.2.1 dL_law_446 rfl (lv_at hl 3 rfl) ?_
  refine lv_iconst (v := (2 : Int32)) C.1 C.2.1 dL_law_447 (by decide) ?_
  refine lv_iadd C.1 C.2.1 dL_law_448 ?_
  refine x_scr (j := 6 * k + 2) C hX hbl hbA h.2.2.1 (nI_add (6 * k) 2) (by omega) (by omega) dL_law_449 ?_
  refine lv_aload_n C.1 C.2.1 dL_law_450 rfl (lv_at hl 0 rfl) ?_
  refine lv_iload_n C.1 C.2.1 dL_law_451 rfl (lv_at hl 3 rfl) ?_
  refine lv_iconst (v := (3 : Int32)) C.1 C.2.1 dL_law_452 (by decide) ?_
  refine lv_iadd C.1 C.2.1 dL_law_453 ?_
  refine x_scr (j := 6 * k + 3) C hX hbl hbA h.2.2.1 (nI_add (6 * k) 3) (by omega) (by omega) dL_law_454 ?_
  refine l_i K ho h hd.symm (x_V C K ho [.int (xs (6 * k + 1)), .int (xs (6 * k + 2)), .int (xs (6 * k + 3))] (c_X9_flies FU_ l κ G cy adm H.size σm 0 (xs (6 * k + 1)) (xs (6 * k + 2)) (xs (6 * k + 3)) hkm hfm) mi_X9_flies rfl im_yX9_flies se_yX9_flies ml_RL_53 cl_9 hkm ⟨rfl, rfl, Nat.le_of_ble_eq_true rfl, Nat.le_of_ble_eq_true rfl⟩ hl (Nat.le_of_ble_eq_true rfl) dL_law_455 ⟨by show _ ≤ 600000; omega, by show _ ≤ 7302250; omega⟩ rfl) (fun H locs ho h hd => ?_)
  refine lv_icmp_eq (tgt := 1161) C.1 C.2.1 dL_law_458 (by decide) (fun _ => ?_) (fun z => absurd rfl z)
  refine W.widen (k := 1000 + 4 * (k + 1)) (n := 20000 + 483 * (k + 1)) (by omega) (by omega) ?_
  exact END adx adm σx' σm' hrel' H locs ls h ho hd.symm hl
set_option maxHeartbeats 4000000 in
set_option maxRecDepth 100000 in
theorem law_shortest {p : Program} {l : Launch} {e : Env} {s : State} {m : MethodId} {below : List Frame} {meth : Method} {c : Code} {b L : Nat} {xs : Nat → Int32} {κ : Ka_} {G : va_G} {cy : Nat → ClassId} (hL : L ≤ 3072) (C : CallFix p m c code 4 s #[Value.ref b] wU_ RL) (hX : va_X b L xs s s.heap) (hbl : b < s.heap.size) (K : Kx_ κ G cy (fun q : Nat => s.heap.size ≤ q) s) (Rel : St_ → St_ → Prop) (hs : Sims_ Rel) {k : Nat} (hk : 6 * k + 6 ≤ L) (END : ∀ (adx adm : Nat → Nat) (σx σm : St_), Rel σx σm → ∀ (H : Heap) (locs : List Loc) (ls : Array Slot), Ht_ G cy (fun q : Nat => s.heap.size ≤ q) s adx σx H locs → Ht_ G cy (fun q : Nat => s.heap.size ≤ q) s adm σm H locs → Dj_ adx σx adm σm → lv_has ls 4 [(0, .ref b), (1, .ref (adx 0)), (2, .ref (adm 0)), (3, .int (nI (6 * k)))] → W p l e room_1 s m #[Value.ref b] below meth c H locs (1000 + 4 * (k + 1)) (20000 + 483 * (k + 1)) (lw_Z below #[Value.ref b] s) (F0 m 1161 ls [])) : ∀ (adx adm : Nat → Nat) (σx σm : St_), Rel σx σm → ∀ (H : Heap) (locs : List Loc) (ls : Array Slot), Ht_ G cy (fun q : Nat => s.heap.size ≤ q) s adx σx H locs → Ht_ G cy (fun q : Nat => s.heap.size ≤ q) s adm σm H locs → Dj_ adx σx adm σm → lv_has ls 4 [(0, .ref b), (1, .ref (adx 0)), (2, .ref (adm 0)), (3, .int (nI (6 * k)))] → W p l e room_1 s m #[Value.ref b] below meth c H locs (1000 + 4 * k) (20000 + 483 * k) (lw_Z below #[Value.ref b] s) (F0 m 463 ls []) := by
  intro adx adm σx σm hrel H locs ls h ho hd hl
  have hbA : ¬ (fun q : Nat => s.heap.size ≤ q) b := Nat.not_le.mpr hbl
  obtain ⟨hkx, hkm⟩ := hs.1 σx σm hrel
  obtain ⟨r, σx', σm', hfx, hfm, hrel'⟩ := hs.2.2.2.2.2.2.2.2.2.2.2.1 σx σm hrel (xs (6 * k + 1)) (xs (6 * k + 2)) (xs (6 * k + 3))
  refine lv_aload_n C.1 C.2.1 dL_law_463 rfl (lv_at hl 1 rfl) ?_
  refine lv_aload_n C.1 C.2.1 dL_law_464 rfl (lv_at hl 0 rfl) ?_
  refine lv_iload_n C.1 C.2.1 dL_law_465 rfl (lv_at hl 3 rfl) ?_
  refine lv_iconst (v := (1 : Int32)) C.1 C.2.1 dL_law_466 (by decide) ?_
  refine lv_iadd C.1 C.2.1 dL_law_467 ?_
  refine x_scr (j := 6 * k + 1) C hX hbl hbA h.2.2.1 (nI_add (6 * k) 1) (by omega) (by omega) dL_law_468 ?_
  refine lv_aload_n C.1 C.2.1 dL_law_469 rfl (lv_at hl 0 rfl) ?_
  refine lv_iload_n C.1 C.2.1 dL_law_470 rfl (lv_at hl 3 rfl) ?_
  refine lv_iconst (v := (2 : Int32)) C.1 C.2.1 dL_law_471 (by decide) ?_
  refine lv_iadd C.1 C.2.1 dL_law_472 ?_
  refine x_scr (j := 6 * k + 2) C hX hbl hbA h.2.2.1 (nI_add (6 * k) 2) (by omega) (by omega) dL_law_473 ?_
  refine lv_aload_n C.1 C.2.1 dL_law_474 rfl (lv_at hl 0 rfl) ?_
  refine lv_iload_n C.1 C.2.1 dL_law_475 rfl (lv_at hl 3 rfl) ?_
  refine lv_iconst (v := (3 : Int32)) C.1 C.2.1 dL_law_476 (by decide) ?_
  refine lv_iadd C.1 C.2.1 dL_law_477 ?_
  refine x_scr (j := 6 * k + 3) C hX hbl hbA h.2.2.1 (nI_add (6 * k) 3) (by omega) (by omega) dL_law_478 ?_
  refine l_i K h ho hd (x_V C K h [.int (xs (6 * k + 1)), .int (xs (6 * k + 2)), .int (xs (6 * k + 3))] (c_X8_shortest FU_ l κ G cy adx H.size σx 0 (xs (6 * k + 1)) (xs (6 * k + 2)) (xs (6 * k + 3)) hkx hfx) mi_X8_shortest rfl im_yX8_shortest se_yX8_shortest ml_RL_54 cl_8 hkx ⟨rfl, rfl, Nat.le_of_ble_eq_true rfl, Nat.le_of_ble_eq_true rfl⟩ hl (Nat.le_of_ble_eq_true rfl) dL_law_479 ⟨by show _ ≤ 600000; omega, by show _ ≤ 7302250; omega⟩ rfl) (fun H locs h ho hd => ?_)
  refine lv_aload_n C.1 C.2.1 dL_law_482 rfl (lv_at hl 2 rfl) ?_
  refine lv_aload_n C.1 C.2.1 dL_law_483 rfl (lv_at hl 0 rfl) ?_
  refine lv_iload_n C.1 C.2.1 dL_law_484 rfl (lv_at hl 3 rfl) ?_
  refine lv_iconst (v := (1 : Int32)) C.1 C.2.1 dL_law_485 (by decide) ?_
  refine lv_iadd C.1 C.2.1 dL_law_486 ?_
  refine x_scr (j := 6 * k + 1) C hX hbl hbA h.2.2.1 (nI_add (6 * k) 1) (by omega) (by omega) dL_law_487 ?_
  refine lv_aload_n C.1 C.2.1 dL_law_488 rfl (lv_at hl 0 rfl) ?_
  refine lv_iload_n C.1 C.2.1 dL_law_489 rfl (lv_at hl 3 rfl) ?_
  refine lv_iconst (v := (2 : Int32)) C.1 C.2.1 dL_law_490 (by decide) ?_
  refine lv_iadd C.1 C.2.1 dL_law_491 ?_
  refine x_scr (j := 6 * k + 2) C hX hbl hbA h.2.2.1 (nI_add (6 * k) 2) (by omega) (by omega) dL_law_492 ?_
  refine lv_aload_n C.1 C.2.1 dL_law_493 rfl (lv_at hl 0 rfl) ?_
  refine lv_iload_n C.1 C.2.1 dL_law_494 rfl (lv_at hl 3 rfl) ?_
  refine lv_iconst (v := (3 : Int32)) C.1 C.2.1 dL_law_495 (by decide) ?_
  refine lv_iadd C.1 C.2.1 dL_law_496 ?_
  refine x_scr (j := 6 * k + 3) C hX hbl hbA h.2.2.1 (nI_add (6 * k) 3) (by omega) (by omega) dL_law_497 ?_
  refine l_i K ho h hd.symm (x_V C K ho [.int (xs (6 * k + 1)), .int (xs (6 * k + 2)), .int (xs (6 * k + 3))] (c_X9_shortest FU_ l κ G cy adm H.size σm 0 (xs (6 * k + 1)) (xs (6 * k + 2)) (xs (6 * k + 3)) hkm hfm) mi_X9_shortest rfl im_yX9_shortest se_yX9_shortest ml_RL_57 cl_9 hkm ⟨rfl, rfl, Nat.le_of_ble_eq_true rfl, Nat.le_of_ble_eq_true rfl⟩ hl (Nat.le_of_ble_eq_true rfl) dL_law_498 ⟨by show _ ≤ 600000; omega, by show _ ≤ 7302250; omega⟩ rfl) (fun H locs ho h hd => ?_)
  refine lv_icmp_eq (tgt := 1161) C.1 C.2.1 dL_law_501 (by decide) (fun _ => ?_) (fun z => absurd rfl z)
  refine W.widen (k := 1000 + 4 * (k + 1)) (n := 20000 + 483 * (k + 1)) (by omega) (by omega) ?_
  exact END adx adm σx' σm' hrel' H locs ls h ho hd.symm hl
set_option maxHeartbeats 4000000 in
set_option maxRecDepth 100000 in
theorem law_there {p : Program} {l : Launch} {e : Env} {s : State} {m : MethodId} {below : List Frame} {meth : Method} {c : Code} {b L : Nat} {xs : Nat → Int32} {κ : Ka_} {G : va_G} {cy : Nat → ClassId} (hL : L ≤ 3072) (C : CallFix p m c code 4 s #[Value.ref b] wU_ RL) (hX : va_X b L xs s s.heap) (hbl : b < s.heap.size) (K : Kx_ κ G cy (fun q : Nat => s.heap.size ≤ q) s) (Rel : St_ → St_ → Prop) (hs : Sims_ Rel) {k : Nat} (hk : 6 * k + 6 ≤ L) (END : ∀ (adx adm : Nat → Nat) (σx σm : St_), Rel σx σm → ∀ (H : Heap) (locs : List Loc) (ls : Array Slot), Ht_ G cy (fun q : Nat => s.heap.size ≤ q) s adx σx H locs → Ht_ G cy (fun q : Nat => s.heap.size ≤ q) s adm σm H locs → Dj_ adx σx adm σm → lv_has ls 4 [(0, .ref b), (1, .ref (adx 0)), (2, .ref (adm 0)), (3, .int (nI (6 * k)))] → W p l e room_1 s m #[Value.ref b] below meth c H locs (1000 + 4 * (k + 1)) (20000 + 483 * (k + 1)) (lw_Z below #[Value.ref b] s) (F0 m 1161 ls [])) : ∀ (adx adm : Nat → Nat) (σx σm : St_), Rel σx σm → ∀ (H : Heap) (locs : List Loc) (ls : Array Slot), Ht_ G cy (fun q : Nat => s.heap.size ≤ q) s adx σx H locs → Ht_ G cy (fun q : Nat => s.heap.size ≤ q) s adm σm H locs → Dj_ adx σx adm σm → lv_has ls 4 [(0, .ref b), (1, .ref (adx 0)), (2, .ref (adm 0)), (3, .int (nI (6 * k)))] → W p l e room_1 s m #[Value.ref b] below meth c H locs (1000 + 4 * k) (20000 + 483 * k) (lw_Z below #[Value.ref b] s) (F0 m 506 ls []) := by
  intro adx adm σx σm hrel H locs ls h ho hd hl
  have hbA : ¬ (fun q : Nat => s.heap.size ≤ q) b := Nat.not_le.mpr hbl
  obtain ⟨hkx, hkm⟩ := hs.1 σx σm hrel
  obtain ⟨r, σx', σm', hfx, hfm, hrel'⟩ := hs.2.2.2.2.2.2.2.2.2.2.2.2.1 σx σm hrel (xs (6 * k + 1)) (xs (6 * k + 2))
  refine lv_aload_n C.1 C.2.1 dL_law_506 rfl (lv_at hl 1 rfl) ?_
  refine lv_aload_n C.1 C.2.1 dL_law_507 rfl (lv_at hl 0 rfl) ?_
  refine lv_iload_n C.1 C.2.1 dL_law_508 rfl (lv_at hl 3 rfl) ?_
  refine lv_iconst (v := (1 : Int32)) C.1 C.2.1 dL_law_509 (by decide) ?_
  refine lv_iadd C.1 C.2.1 dL_law_510 ?_
  refine x_scr (j := 6 * k + 1) C hX hbl hbA h.2.2.1 (nI_add (6 * k) 1) (by omega) (by omega) dL_law_511 ?_
  refine lv_aload_n C.1 C.2.1 dL_law_512 rfl (lv_at hl 0 rfl) ?_
  refine lv_iload_n C.1 C.2.1 dL_law_513 rfl (lv_at hl 3 rfl) ?_
  refine lv_iconst (v := (2 : Int32)) C.1 C.2.1 dL_law_514 (by decide) ?_
  refine lv_iadd C.1 C.2.1 dL_law_515 ?_
  refine x_scr (j := 6 * k + 2) C hX hbl hbA h.2.2.1 (nI_add (6 * k) 2) (by omega) (by omega) dL_law_516 ?_
  refine l_l K h ho hd (x_V C K h [.int (xs (6 * k + 1)), .int (xs (6 * k + 2))] (c_X8_there FU_ l κ G cy adx H.size σx 0 (xs (6 * k + 1)) (xs (6 * k + 2)) hkx hfx) mi_X8_there rfl im_yX8_there se_yX8_there ml_RL_58 cl_8 hkx ⟨rfl, rfl, Nat.le_of_ble_eq_true rfl, Nat.le_of_ble_eq_true rfl⟩ hl (Nat.le_of_ble_eq_true rfl) dL_law_517 ⟨by show _ ≤ 600000; omega, by show _ ≤ 7302250; omega⟩ rfl) (fun H locs h ho hd => ?_)
  refine lv_aload_n C.1 C.2.1 dL_law_520 rfl (lv_at hl 2 rfl) ?_
  refine lv_aload_n C.1 C.2.1 dL_law_521 rfl (lv_at hl 0 rfl) ?_
  refine lv_iload_n C.1 C.2.1 dL_law_522 rfl (lv_at hl 3 rfl) ?_
  refine lv_iconst (v := (1 : Int32)) C.1 C.2.1 dL_law_523 (by decide) ?_
  refine lv_iadd C.1 C.2.1 dL_law_524 ?_
  refine x_scr (j := 6 * k + 1) C hX hbl hbA h.2.2.1 (nI_add (6 * k) 1) (by omega) (by omega) dL_law_525 ?_
  refine lv_aload_n C.1 C.2.1 dL_law_526 rfl (lv_at hl 0 rfl) ?_
  refine lv_iload_n C.1 C.2.1 dL_law_527 rfl (lv_at hl 3 rfl) ?_
  refine lv_iconst (v := (2 : Int32)) C.1 C.2.1 dL_law_528 (by decide) ?_
  refine lv_iadd C.1 C.2.1 dL_law_529 ?_
  refine x_scr (j := 6 * k + 2) C hX hbl hbA h.2.2.1 (nI_add (6 * k) 2) (by omega) (by omega) dL_law_530 ?_
  refine l_l K ho h hd.symm (x_V C K ho [.int (xs (6 * k + 1)), .int (xs (6 * k + 2))] (c_X9_there FU_ l κ G cy adm H.size σm 0 (xs (6 * k + 1)) (xs (6 * k + 2)) hkm hfm) mi_X9_there rfl im_yX9_there se_yX9_there ml_RL_62 cl_9 hkm ⟨rfl, rfl, Nat.le_of_ble_eq_true rfl, Nat.le_of_ble_eq_true rfl⟩ hl (Nat.le_of_ble_eq_true rfl) dL_law_531 ⟨by show _ ≤ 600000; omega, by show _ ≤ 7302250; omega⟩ rfl) (fun H locs ho h hd => ?_)
  refine W.lcmp C.1 C.2.1 dL_law_534 ?_
  refine lv_if_eq (tgt := 1161) C.1 C.2.1 dL_law_535 (by decide) (fun _ => ?_) (fun z => absurd (lg_same r) z)
  refine W.widen (k := 1000 + 4 * (k + 1)) (n := 20000 + 483 * (k + 1)) (by omega) (by omega) ?_
  exact END adx adm σx' σm' hrel' H locs ls h ho hd.symm hl
set_option maxHeartbeats 4000000 in
set_option maxRecDepth 100000 in
theorem law_furthest {p : Program} {l : Launch} {e : Env} {s : State} {m : MethodId} {below : List Frame} {meth : Method} {c : Code} {b L : Nat} {xs : Nat → Int32} {κ : Ka_} {G : va_G} {cy : Nat → ClassId} (hL : L ≤ 3072) (C : CallFix p m c code 4 s #[Value.ref b] wU_ RL) (hX : va_X b L xs s s.heap) (hbl : b < s.heap.size) (K : Kx_ κ G cy (fun q : Nat => s.heap.size ≤ q) s) (Rel : St_ → St_ → Prop) (hs : Sims_ Rel) {k : Nat} (hk : 6 * k + 6 ≤ L) (END : ∀ (adx adm : Nat → Nat) (σx σm : St_), Rel σx σm → ∀ (H : Heap) (locs : List Loc) (ls : Array Slot), Ht_ G cy (fun q : Nat => s.heap.size ≤ q) s adx σx H locs → Ht_ G cy (fun q : Nat => s.heap.size ≤ q) s adm σm H locs → Dj_ adx σx adm σm → lv_has ls 4 [(0, .ref b), (1, .ref (adx 0)), (2, .ref (adm 0)), (3, .int (nI (6 * k)))] → W p l e room_1 s m #[Value.ref b] below meth c H locs (1000 + 4 * (k + 1)) (20000 + 483 * (k + 1)) (lw_Z below #[Value.ref b] s) (F0 m 1161 ls [])) : ∀ (adx adm : Nat → Nat) (σx σm : St_), Rel σx σm → ∀ (H : Heap) (locs : List Loc) (ls : Array Slot), Ht_ G cy (fun q : Nat => s.heap.size ≤ q) s adx σx H locs → Ht_ G cy (fun q : Nat => s.heap.size ≤ q) s adm σm H locs → Dj_ adx σx adm σm → lv_has ls 4 [(0, .ref b), (1, .ref (adx 0)), (2, .ref (adm 0)), (3, .int (nI (6 * k)))] → W p l e room_1 s m #[Value.ref b] below meth c H locs (1000 + 4 * k) (20000 + 483 * k) (lw_Z below #[Value.ref b] s) (F0 m 540 ls []) := by
  intro adx adm σx σm hrel H locs ls h ho hd hl
  have hbA : ¬ (fun q : Nat => s.heap.size ≤ q) b := Nat.not_le.mpr hbl
  obtain ⟨hkx, hkm⟩ := hs.1 σx σm hrel
  obtain ⟨r, σx', σm', hfx, hfm, hrel'⟩ := hs.2.2.2.2.2.2.2.2.2.2.2.2.2.1 σx σm hrel (xs (6 * k + 1)) (xs (6 * k + 2))
  refine lv_aload_n C.1 C.2.1 dL_law_540 rfl (lv_at hl 1 rfl) ?_
  refine lv_aload_n C.1 C.2.1 dL_law_541 rfl (lv_at hl 0 rfl) ?_
  refine lv_iload_n C.1 C.2.1 dL_law_542 rfl (lv_at hl 3 rfl) ?_
  refine lv_iconst (v := (1 : Int32)) C.1 C.2.1 dL_law_543 (by decide) ?_
  refine lv_iadd C.1 C.2.1 dL_law_544 ?_
  refine x_scr (j := 6 * k + 1) C hX hbl hbA h.2.2.1 (nI_add (6 * k) 1) (by omega) (by omega) dL_law_545 ?_
  refine lv_aload_n C.1 C.2.1 dL_law_546 rfl (lv_at hl 0 rfl) ?_
  refine lv_iload_n C.1 C.2.1 dL_law_547 rfl (lv_at hl 3 rfl) ?_
  refine lv_iconst (v := (2 : Int32)) C.1 C.2.1 dL_law_548 (by decide) ?_
  refine lv_iadd C.1 C.2.1 dL_law_549 ?_
  refine x_scr (j := 6 * k + 2) C hX hbl hbA h.2.2.1 (nI_add (6 * k) 2) (by omega) (by omega) dL_law_550 ?_
  refine l_i K h ho hd (x_V C K h [.int (xs (6 * k + 1)), .int (xs (6 * k + 2))] (c_X8_furthest FU_ l κ G cy adx H.size σx 0 (xs (6 * k + 1)) (xs (6 * k + 2)) hkx hfx) mi_X8_furthest rfl im_yX8_furthest se_yX8_furthest ml_RL_63 cl_8 hkx ⟨rfl, rfl, Nat.le_of_ble_eq_true rfl, Nat.le_of_ble_eq_true rfl⟩ hl (Nat.le_of_ble_eq_true rfl) dL_law_551 ⟨by show _ ≤ 600000; omega, by show _ ≤ 7302250; omega⟩ rfl) (fun H locs h ho hd => ?_)
  refine lv_aload_n C.1 C.2.1 dL_law_554 rfl (lv_at hl 2 rfl) ?_
  refine lv_aload_n C.1 C.2.1 dL_law_555 rfl (lv_at hl 0 rfl) ?_
  refine lv_iload_n C.1 C.2.1 dL_law_556 rfl (lv_at hl 3 rfl) ?_
  refine lv_iconst (v := (1 : Int32)) C.1 C.2.1 dL_law_557 (by decide) ?_
  refine lv_iadd C.1 C.2.1 dL_law_558 ?_
  refine x_scr (j := 6 * k + 1) C hX hbl hbA h.2.2.1 (nI_add (6 * k) 1) (by omega) (by omega) dL_law_559 ?_
  refine lv_aload_n C.1 C.2.1 dL_law_560 rfl (lv_at hl 0 rfl) ?_
  refine lv_iload_n C.1 C.2.1 dL_law_561 rfl (lv_at hl 3 rfl) ?_
  refine lv_iconst (v := (2 : Int32)) C.1 C.2.1 dL_law_562 (by decide) ?_
  refine lv_iadd C.1 C.2.1 dL_law_563 ?_
  refine x_scr (j := 6 * k + 2) C hX hbl hbA h.2.2.1 (nI_add (6 * k) 2) (by omega) (by omega) dL_law_564 ?_
  refine l_i K ho h hd.symm (x_V C K ho [.int (xs (6 * k + 1)), .int (xs (6 * k + 2))] (c_X9_furthest FU_ l κ G cy adm H.size σm 0 (xs (6 * k + 1)) (xs (6 * k + 2)) hkm hfm) mi_X9_furthest rfl im_yX9_furthest se_yX9_furthest ml_RL_66 cl_9 hkm ⟨rfl, rfl, Nat.le_of_ble_eq_true rfl, Nat.le_of_ble_eq_true rfl⟩ hl (Nat.le_of_ble_eq_true rfl) dL_law_565 ⟨by show _ ≤ 600000; omega, by show _ ≤ 7302250; omega⟩ rfl) (fun H locs ho h hd => ?_)
  refine lv_icmp_eq (tgt := 1161) C.1 C.2.1 dL_law_568 (by decide) (fun _ => ?_) (fun z => absurd rfl z)
  refine W.widen (k := 1000 + 4 * (k + 1)) (n := 20000 + 483 * (k + 1)) (by omega) (by omega) ?_
  exact END adx adm σx' σm' hrel' H locs ls h ho hd.symm hl
set_option maxHeartbeats 4000000 in
set_option maxRecDepth 100000 in
theorem law_meet {p : Program} {l : Launch} {e : Env} {s : State} {m : MethodId} {below : List Frame} {meth : Method} {c : Code} {b L : Nat} {xs : Nat → Int32} {κ : Ka_} {G : va_G} {cy : Nat → ClassId} (hL : L ≤ 3072) (C : CallFix p m c code 4 s #[Value.ref b] wU_ RL) (hX : va_X b L xs s s.heap) (hbl : b < s.heap.size) (K : Kx_ κ G cy (fun q : Nat => s.heap.size ≤ q) s) (Rel : St_ → St_ → Prop) (hs : Sims_ Rel) {k : Nat} (hk : 6 * k + 6 ≤ L) (END : ∀ (adx adm : Nat → Nat) (σx σm : St_), Rel σx σm → ∀ (H : Heap) (locs : List Loc) (ls : Array Slot), Ht_ G cy (fun q : Nat => s.heap.size ≤ q) s adx σx H locs → Ht_ G cy (fun q : Nat => s.heap.size ≤ q) s adm σm H locs → Dj_ adx σx adm σm → lv_has ls 4 [(0, .ref b), (1, .ref (adx 0)), (2, .ref (adm 0)), (3, .int (nI (6 * k)))] → W p l e room_1 s m #[Value.ref b] below meth c H locs (1000 + 4 * (k + 1)) (20000 + 483 * (k + 1)) (lw_Z below #[Value.ref b] s) (F0 m 1161 ls [])) : ∀ (adx adm : Nat → Nat) (σx σm : St_), Rel σx σm → ∀ (H : Heap) (locs : List Loc) (ls : Array Slot), Ht_ G cy (fun q : Nat => s.heap.size ≤ q) s adx σx H locs → Ht_ G cy (fun q : Nat => s.heap.size ≤ q) s adm σm H locs → Dj_ adx σx adm σm → lv_has ls 4 [(0, .ref b), (1, .ref (adx 0)), (2, .ref (adm 0)), (3, .int (nI (6 * k)))] → W p l e room_1 s m #[Value.ref b] below meth c H locs (1000 + 4 * k) (20000 + 483 * k) (lw_Z below #[Value.ref b] s) (F0 m 573 ls []) := by
  intro adx adm σx σm hrel H locs ls h ho hd hl
  have hbA : ¬ (fun q : Nat => s.heap.size ≤ q) b := Nat.not_le.mpr hbl
  obtain ⟨hkx, hkm⟩ := hs.1 σx σm hrel
  obtain ⟨r, σx', σm', hfx, hfm, hrel'⟩ := hs.2.2.2.2.2.2.2.2.2.2.2.2.2.2.1 σx σm hrel (xs (6 * k + 1)) (xs (6 * k + 2)) (xs (6 * k + 3))
  refine lv_aload_n C.1 C.2.1 dL_law_573 rfl (lv_at hl 1 rfl) ?_
  refine lv_aload_n C.1 C.2.1 dL_law_574 rfl (lv_at hl 0 rfl) ?_
  refine lv_iload_n C.1 C.2.1 dL_law_575 rfl (lv_at hl 3 rfl) ?_
  refine lv_iconst (v := (1 : Int32)) C.1 C.2.1 dL_law_576 (by decide) ?_
  refine lv_iadd C.1 C.2.1 dL_law_577 ?_
  refine x_scr (j := 6 * k + 1) C hX hbl hbA h.2.2.1 (nI_add (6 * k) 1) (by omega) (by omega) dL_law_578 ?_
  refine lv_aload_n C.1 C.2.1 dL_law_579 rfl (lv_at hl 0 rfl) ?_
  refine lv_iload_n C.1 C.2.1 dL_law_580 rfl (lv_at hl 3 rfl) ?_
  refine lv_iconst (v := (2 : Int32)) C.1 C.2.1 dL_law_581 (by decide) ?_
  refine lv_iadd C.1 C.2.1 dL_law_582 ?_
  refine x_scr (j := 6 * k + 2) C hX hbl hbA h.2.2.1 (nI_add (6 * k) 2) (by omega) (by omega) dL_law_583 ?_
  refine lv_aload_n C.1 C.2.1 dL_law_584 rfl (lv_at hl 0 rfl) ?_
  refine lv_iload_n C.1 C.2.1 dL_law_585 rfl (lv_at hl 3 rfl) ?_
  refine lv_iconst (v := (3 : Int32)) C.1 C.2.1 dL_law_586 (by decide) ?_
  refine lv_iadd C.1 C.2.1 dL_law_587 ?_
  refine x_scr (j := 6 * k + 3) C hX hbl hbA h.2.2.1 (nI_add (6 * k) 3) (by omega) (by omega) dL_law_588 ?_
  refine l_i K h ho hd (x_V C K h [.int (xs (6 * k + 1)), .int (xs (6 * k + 2)), .int (xs (6 * k + 3))] (c_X8_meet FU_ l κ G cy adx H.size σx 0 (xs (6 * k + 1)) (xs (6 * k + 2)) (xs (6 * k + 3)) hkx hfx) mi_X8_meet rfl im_yX8_meet se_yX8_meet ml_RL_67 cl_8 hkx ⟨rfl, rfl, Nat.le_of_ble_eq_true rfl, Nat.le_of_ble_eq_true rfl⟩ hl (Nat.le_of_ble_eq_true rfl) dL_law_589 ⟨by show _ ≤ 600000; omega, by show _ ≤ 7302250; omega⟩ rfl) (fun H locs h ho hd => ?_)
  refine lv_aload_n C.1 C.2.1 dL_law_592 rfl (lv_at hl 2 rfl) ?_
  refine lv_aload_n C.1 C.2.1 dL_law_593 rfl (lv_at hl 0 rfl) ?_
  refine lv_iload_n C.1 C.2.1 dL_law_594 rfl (lv_at hl 3 rfl) ?_
  refine lv_iconst (v := (1 : Int32)) C.1 C.2.1 dL_law_595 (by decide) ?_
  refine lv_iadd C.1 C.2.1 dL_law_596 ?_
  refine x_scr (j := 6 * k + 1) C hX hbl hbA h.2.2.1 (nI_add (6 * k) 1) (by omega) (by omega) dL_law_597 ?_
  refine lv_aload_n C.1 C.2.1 dL_law_598 rfl (lv_at hl 0 rfl) ?_
  refine lv_iload_n C.1 C.2.1 dL_law_599 rfl (lv_at hl 3 rfl) ?_
  refine lv_iconst (v := (2 : Int32)) C.1 C.2.1 dL_law_600 (by decide) ?_
  refine lv_iadd C.1 C.2.1 dL_law_601 ?_
  refine x_scr (j := 6 * k + 2) C hX hbl hbA h.2.2.1 (nI_add (6 * k) 2) (by omega) (by omega) dL_law_602 ?_
  refine lv_aload_n C.1 C.2.1 dL_law_603 rfl (lv_at hl 0 rfl) ?_
  refine lv_iload_n C.1 C.2.1 dL_law_604 rfl (lv_at hl 3 rfl) ?_
  refine lv_iconst (v := (3 : Int32)) C.1 C.2.1 dL_law_605 (by decide) ?_
  refine lv_iadd C.1 C.2.1 dL_law_606 ?_
  refine x_scr (j := 6 * k + 3) C hX hbl hbA h.2.2.1 (nI_add (6 * k) 3) (by omega) (by omega) dL_law_607 ?_
  refine l_i K ho h hd.symm (x_V C K ho [.int (xs (6 * k + 1)), .int (xs (6 * k + 2)), .int (xs (6 * k + 3))] (c_X9_meet FU_ l κ G cy adm H.size σm 0 (xs (6 * k + 1)) (xs (6 * k + 2)) (xs (6 * k + 3)) hkm hfm) mi_X9_meet rfl im_yX9_meet se_yX9_meet ml_RL_70 cl_9 hkm ⟨rfl, rfl, Nat.le_of_ble_eq_true rfl, Nat.le_of_ble_eq_true rfl⟩ hl (Nat.le_of_ble_eq_true rfl) dL_law_608 ⟨by show _ ≤ 600000; omega, by show _ ≤ 7302250; omega⟩ rfl) (fun H locs ho h hd => ?_)
  refine lv_icmp_eq (tgt := 1161) C.1 C.2.1 dL_law_611 (by decide) (fun _ => ?_) (fun z => absurd rfl z)
  refine W.widen (k := 1000 + 4 * (k + 1)) (n := 20000 + 483 * (k + 1)) (by omega) (by omega) ?_
  exact END adx adm σx' σm' hrel' H locs ls h ho hd.symm hl
set_option maxHeartbeats 4000000 in
set_option maxRecDepth 100000 in
theorem law_rows {p : Program} {l : Launch} {e : Env} {s : State} {m : MethodId} {below : List Frame} {meth : Method} {c : Code} {b L : Nat} {xs : Nat → Int32} {κ : Ka_} {G : va_G} {cy : Nat → ClassId} (hL : L ≤ 3072) (C : CallFix p m c code 4 s #[Value.ref b] wU_ RL) (hX : va_X b L xs s s.heap) (hbl : b < s.heap.size) (K : Kx_ κ G cy (fun q : Nat => s.heap.size ≤ q) s) (Rel : St_ → St_ → Prop) (hs : Sims_ Rel) {k : Nat} (hk : 6 * k + 6 ≤ L) (END : ∀ (adx adm : Nat → Nat) (σx σm : St_), Rel σx σm → ∀ (H : Heap) (locs : List Loc) (ls : Array Slot), Ht_ G cy (fun q : Nat => s.heap.size ≤ q) s adx σx H locs → Ht_ G cy (fun q : Nat => s.heap.size ≤ q) s adm σm H locs → Dj_ adx σx adm σm → lv_has ls 4 [(0, .ref b), (1, .ref (adx 0)), (2, .ref (adm 0)), (3, .int (nI (6 * k)))] → W p l e room_1 s m #[Value.ref b] below meth c H locs (1000 + 4 * (k + 1)) (20000 + 483 * (k + 1)) (lw_Z below #[Value.ref b] s) (F0 m 1161 ls [])) : ∀ (adx adm : Nat → Nat) (σx σm : St_), Rel σx σm → ∀ (H : Heap) (locs : List Loc) (ls : Array Slot), Ht_ G cy (fun q : Nat => s.heap.size ≤ q) s adx σx H locs → Ht_ G cy (fun q : Nat => s.heap.size ≤ q) s adm σm H locs → Dj_ adx σx adm σm → lv_has ls 4 [(0, .ref b), (1, .ref (adx 0)), (2, .ref (adm 0)), (3, .int (nI (6 * k)))] → W p l e room_1 s m #[Value.ref b] below meth c H locs (1000 + 4 * k) (20000 + 483 * k) (lw_Z below #[Value.ref b] s) (F0 m 616 ls []) := by
  intro adx adm σx σm hrel H locs ls h ho hd hl
  have hbA : ¬ (fun q : Nat => s.heap.size ≤ q) b := Nat.not_le.mpr hbl
  obtain ⟨hkx, hkm⟩ := hs.1 σx σm hrel
  obtain ⟨r, σx', σm', hfx, hfm, hrel'⟩ := hs.2.2.2.2.2.2.2.2.2.2.2.2.2.2.2.1 σx σm hrel (xs (6 * k + 1)) (xs (6 * k + 2)) (xs (6 * k + 3))
  refine lv_aload_n C.1 C.2.1 dL_law_616 rfl (lv_at hl 1 rfl) ?_
  refine lv_aload_n C.1 C.2.1 dL_law_617 rfl (lv_at hl 0 rfl) ?_
  refine lv_iload_n C.1 C.2.1 dL_law_618 rfl (lv_at hl 3 rfl) ?_
  refine lv_iconst (v := (1 : Int32)) C.1 C.2.1 dL_law_619 (by decide) ?_
  refine lv_iadd C.1 C.2.1 dL_law_620 ?_
  refine x_scr (j := 6 * k + 1) C hX hbl hbA h.2.2.1 (nI_add (6 * k) 1) (by omega) (by omega) dL_law_621 ?_
  refine lv_aload_n C.1 C.2.1 dL_law_622 rfl (lv_at hl 0 rfl) ?_
  refine lv_iload_n C.1 C.2.1 dL_law_623 rfl (lv_at hl 3 rfl) ?_
  refine lv_iconst (v := (2 : Int32)) C.1 C.2.1 dL_law_624 (by decide) ?_
  refine lv_iadd C.1 C.2.1 dL_law_625 ?_
  refine x_scr (j := 6 * k + 2) C hX hbl hbA h.2.2.1 (nI_add (6 * k) 2) (by omega) (by omega) dL_law_626 ?_
  refine lv_aload_n C.1 C.2.1 dL_law_627 rfl (lv_at hl 0 rfl) ?_
  refine lv_iload_n C.1 C.2.1 dL_law_628 rfl (lv_at hl 3 rfl) ?_
  refine lv_iconst (v := (3 : Int32)) C.1 C.2.1 dL_law_629 (by decide) ?_
  refine lv_iadd C.1 C.2.1 dL_law_630 ?_
  refine x_scr (j := 6 * k + 3) C hX hbl hbA h.2.2.1 (nI_add (6 * k) 3) (by omega) (by omega) dL_law_631 ?_
  refine l_l K h ho hd (x_V C K h [.int (xs (6 * k + 1)), .int (xs (6 * k + 2)), .int (xs (6 * k + 3))] (c_X8_rows FU_ l κ G cy adx H.size σx 0 (xs (6 * k + 1)) (xs (6 * k + 2)) (xs (6 * k + 3)) hkx hfx) mi_X8_rows rfl im_yX8_rows se_yX8_rows ml_RL_71 cl_8 hkx ⟨rfl, rfl, Nat.le_of_ble_eq_true rfl, Nat.le_of_ble_eq_true rfl⟩ hl (Nat.le_of_ble_eq_true rfl) dL_law_632 ⟨by show _ ≤ 600000; omega, by show _ ≤ 7302250; omega⟩ rfl) (fun H locs h ho hd => ?_)
  refine lv_aload_n C.1 C.2.1 dL_law_635 rfl (lv_at hl 2 rfl) ?_
  refine lv_aload_n C.1 C.2.1 dL_law_636 rfl (lv_at hl 0 rfl) ?_
  refine lv_iload_n C.1 C.2.1 dL_law_637 rfl (lv_at hl 3 rfl) ?_
  refine lv_iconst (v := (1 : Int32)) C.1 C.2.1 dL_law_638 (by decide) ?_
  refine lv_iadd C.1 C.2.1 dL_law_639 ?_
  refine x_scr (j := 6 * k + 1) C hX hbl hbA h.2.2.1 (nI_add (6 * k) 1) (by omega) (by omega) dL_law_640 ?_
  refine lv_aload_n C.1 C.2.1 dL_law_641 rfl (lv_at hl 0 rfl) ?_
  refine lv_iload_n C.1 C.2.1 dL_law_642 rfl (lv_at hl 3 rfl) ?_
  refine lv_iconst (v := (2 : Int32)) C.1 C.2.1 dL_law_643 (by decide) ?_
  refine lv_iadd C.1 C.2.1 dL_law_644 ?_
  refine x_scr (j := 6 * k + 2) C hX hbl hbA h.2.2.1 (nI_add (6 * k) 2) (by omega) (by omega) dL_law_645 ?_
  refine lv_aload_n C.1 C.2.1 dL_law_646 rfl (lv_at hl 0 rfl) ?_
  refine lv_iload_n C.1 C.2.1 dL_law_647 rfl (lv_at hl 3 rfl) ?_
  refine lv_iconst (v := (3 : Int32)) C.1 C.2.1 dL_law_648 (by decide) ?_
  refine lv_iadd C.1 C.2.1 dL_law_649 ?_
  refine x_scr (j := 6 * k + 3) C hX hbl hbA h.2.2.1 (nI_add (6 * k) 3) (by omega) (by omega) dL_law_650 ?_
  refine l_l K ho h hd.symm (x_V C K ho [.int (xs (6 * k + 1)), .int (xs (6 * k + 2)), .int (xs (6 * k + 3))] (c_X9_rows FU_ l κ G cy adm H.size σm 0 (xs (6 * k + 1)) (xs (6 * k + 2)) (xs (6 * k + 3)) hkm hfm) mi_X9_rows rfl im_yX9_rows se_yX9_rows ml_RL_75 cl_9 hkm ⟨rfl, rfl, Nat.le_of_ble_eq_true rfl, Nat.le_of_ble_eq_true rfl⟩ hl (Nat.le_of_ble_eq_true rfl) dL_law_651 ⟨by show _ ≤ 600000; omega, by show _ ≤ 7302250; omega⟩ rfl) (fun H locs ho h hd => ?_)
  refine W.lcmp C.1 C.2.1 dL_law_654 ?_
  refine lv_if_eq (tgt := 1161) C.1 C.2.1 dL_law_655 (by decide) (fun _ => ?_) (fun z => absurd (lg_same r) z)
  refine W.widen (k := 1000 + 4 * (k + 1)) (n := 20000 + 483 * (k + 1)) (by omega) (by omega) ?_
  exact END adx adm σx' σm' hrel' H locs ls h ho hd.symm hl
