set_option maxRecDepth 20000 in
theorem in_copy : Cond.initialized "java/lang/System" ∈ wU_ := mU_ (tk_1 (List.mem_of_getElem? (i := 18) rfl)) rfl
set_option maxRecDepth 20000 in
theorem st_copy : Cond.static arraycopyName ∈ wU_ := mU_ (tk_4 (List.mem_of_getElem? (i := 175) rfl)) rfl
set_option maxRecDepth 20000 in
theorem na_copy : Cond.native arraycopyName ∈ wU_ := mU_ (tk_4 (List.mem_of_getElem? (i := 176) rfl)) rfl
/-! MORE ROWS -/
theorem hv_r {ad : Nat → Nat} {L : List Value} {k b : Nat} {o : Option Nat} (h : L[k]? = some (rv_ ad o)) (hq : o = some b) : L[k]? = some (.ref (ad b)) := by rw [h, hq]; rfl
theorem gd_ {α : Type} {P : Prop} [Decidable P] {A : Option α} {r : α} (h : (if P then A else none) = some r) : P ∧ A = some r := by
  by_cases c : P
  · rw [if_pos c] at h; exact ⟨c, h⟩
  · rw [if_neg c] at h; cases h
theorem oc_n {α : Type} {A r : α} {B : Nat → α} (h : oc_ none A B = r) : A = r := h
theorem oc_s {α : Type} {A r : α} {B : Nat → α} {b : Nat} (h : oc_ (some b) A B = r) : B b = r := h
theorem ne_i {x v : Int32} {z : Int} (h : ¬ x = v) (e : v.toInt = z) : x.toInt ≠ z := fun q => h (Int32.toInt_inj.mp (q.trans e.symm))
def qk_ (σ : St_) (o : Option Nat) (c : Nat) : Bool := match o with
  | none => true
  | some b => decide (kd_ σ b = c)
theorem qk_in {σ : St_} {o : Option Nat} {c b : Nat} (h : qk_ σ o c = true) (hb : o = some b) : kd_ σ b = c := by
  subst hb
  exact of_decide_eq_true h
theorem rv_nar {ad : Nat → Nat} (ty : FieldType) (o : Option Nat) : narrow ty (rv_ ad o) = rv_ ad o := by
  cases o <;> cases ty <;> rfl
def isR_ : FieldType → Bool
  | .object _ => true
  | .array _ => true
  | _ => false
theorem rv_fit {ad : Nat → Nat} (ty : FieldType) (o : Option Nat) (h : isR_ ty = true) : fits ty (rv_ ad o) = true := by
  cases o <;> cases ty <;> first | rfl | (simp [isR_] at h; done)
theorem lk_f {α : Type} {A B r : α} {a k : Int} (hne : k ≠ a) (h : B = r) : (if a = k then A else B) = r := by rw [if_neg (Ne.symm hne)]; exact h
theorem bz_ {P : Prop} [Decidable P] : ∀ {x : Int32}, x = 0 ∨ x = 1 → narrow .boolean (.int x) = .int x := by
  intro x h
  rcases h with rfl | rfl <;> rfl
section XQ
variable {p : Program} {l : Launch} {e : Env} {R : Room} {s : State} {m : MethodId} {args : Array Value} {below : List Frame} {meth : Method} {c : Code} {H : Heap} {locs : List Loc} {cells slots : Nat} {Q : State → Prop}
variable {cc : ByteArray} {pc nL : Nat} {ls : Array Slot} {rest : List Value} {own : String} {κ : Ka_} {G : va_G} {cy : Nat → ClassId} {A : Nat → Prop} {ad : Nat → Nat} {σ : St_}
variable {ci N idx : Nat} {CC : String} {T : u_T} {ty0 : Nat → FieldType} {fl : (Nat → Nat) → (Nat → Int32) → (Nat → Int64) → (Nat → Option Nat) → List Value}
theorem x_aload_nq (hexec : p.tables.exec = Jvm.exec) (hb : c.code = cc) {k : Fin 4} {i : Nat} {o : Option Nat} (hdg : decode cc pc = .ok (.aload_n k, 1)) (hi : (k : Nat) = i) (hl : ls[i]? = some (.val (rv_ ad o)))
    (kk : W p l e R s m args below meth c H locs cells slots Q (F0 m (pc + 1) ls (rv_ ad o :: rest))) : W p l e R s m args below meth c H locs cells slots Q (F0 m pc ls rest) := by
  cases o with
  | none => exact lv_aload_nN hexec hb hdg hi hl kk
  | some b => exact lv_aload_n hexec hb hdg hi hl kk
theorem x_aloadq (hexec : p.tables.exec = Jvm.exec) (hb : c.code = cc) {i : Nat} {o : Option Nat} (hdg : decode cc pc = .ok (.aload i, 2)) (hl : ls[i]? = some (.val (rv_ ad o)))
    (kk : W p l e R s m args below meth c H locs cells slots Q (F0 m (pc + 2) ls (rv_ ad o :: rest))) : W p l e R s m args below meth c H locs cells slots Q (F0 m pc ls rest) := by
  cases o with
  | none => exact lv_aloadN hexec hb hdg hl kk
  | some b => exact lv_aload hexec hb hdg hl kk
theorem x_astore_nq (hexec : p.tables.exec = Jvm.exec) (hb : c.code = cc) {k : Fin 4} {i nL : Nat} {o : Option Nat} {lv lv' : List (Nat × Value)} (hdg : decode cc pc = .ok (.astore_n k, 1)) (hi : (k : Nat) = i) (h : lv_has ls nL lv) (hn : i < nL) (hl : (i, rv_ ad o) :: lv.filter (fun q => !(q.1 == i) && !(q.1 + 1 == i && q.2.category == 2)) = lv')
    (kk : ∀ ls' : Array Slot, lv_has ls' nL lv' → W p l e R s m args below meth c H locs cells slots Q (F0 m (pc + 1) ls' rest)) : W p l e R s m args below meth c H locs cells slots Q (F0 m pc ls (rv_ ad o :: rest)) := by
  cases o with
  | none => exact lv_astore_nN hexec hb hdg hi h hn hl kk
  | some b => exact lv_astore_n hexec hb hdg hi h hn hl kk
theorem x_astoreq (hexec : p.tables.exec = Jvm.exec) (hb : c.code = cc) {i nL : Nat} {o : Option Nat} {lv lv' : List (Nat × Value)} (hdg : decode cc pc = .ok (.astore i, 2)) (h : lv_has ls nL lv) (hn : i < nL) (hl : (i, rv_ ad o) :: lv.filter (fun q => !(q.1 == i) && !(q.1 + 1 == i && q.2.category == 2)) = lv')
    (kk : ∀ ls' : Array Slot, lv_has ls' nL lv' → W p l e R s m args below meth c H locs cells slots Q (F0 m (pc + 2) ls' rest)) : W p l e R s m args below meth c H locs cells slots Q (F0 m pc ls (rv_ ad o :: rest)) := by
  cases o with
  | none => exact lv_astoreN hexec hb hdg h hn hl kk
  | some b => exact lv_astore hexec hb hdg h hn hl kk
theorem x_aaldN (C : CallFix p m c cc nL s args wU_ own) (K : Kx_ κ G cy A s) (h : Ht_ G cy A s ad σ H locs) (t : Nat) {E : String} {q : Nat} (hq : q < 16) (ht : (tys_ cy)[t]? = some (cy t, .object E)) (hce : ∀ (n : Nat) (i : Nat → Int32) (l : Nat → Int64) (r : Nat → Option Nat), ce_ cy ad q n i l r = .inl (cy t, n, .inr (.inr (.inr (.inr fun j => (r j).map ad))))) {a j b : Nat} (hk : kd_ σ a = q) {i : Int32} (hj : ix_ i (ln_ σ a) = some j) (hb : sr_ σ a j = some b) (d : decode cc pc = .ok (.aaload, 1))
    (kk : W p l e R s m args below meth c H locs cells slots Q (F0 m (pc + 1) ls (.ref (ad b) :: rest))) : W p l e R s m args below meth c H locs cells slots Q (F0 m pc ls (.int i :: .ref (ad a) :: rest)) :=
  x_aald C K h t hq ht hce hk hj d (by rw [hb]; exact kk)
theorem x_putIN (C : CallFix p m c cc nL s args wU_ own) (K : Kx_ κ G cy A s) (h : Ht_ G cy A s ad σ H locs) (c1 : Cl_ ci CC T N ty0 fl) {a : Nat} (hk : kd_ σ a = ci) (k : Nat) (hN : k < N) {host : String} (hl : Cond.fieldLinkNest own idx (T k).1 (T k).2.1 (T k).2.2.1 host ∈ wN_) (hfin : (T k).2.2.2 = false) {v : Int32} (hn : narrow (ty0 k) (.int v) = .int v) (hfit : fits (ty0 k) (.int v) = true) (hlen : k < (fl ad (si_ σ a) (sl_ σ a) (sr_ σ a)).length) (hs : ∀ (i : Nat → Int32) (l : Nat → Int64) (r : Nat → Option Nat), (fl ad i l r).set k (.int v) = fl ad (upd i k v) l r) (d : decode cc pc = .ok (.putfield idx, 3))
    (kk : ∀ (H1 : Heap) (locs1 : List Loc), Ht_ G cy A s ad (ui_ σ a k v) H1 locs1 → W p l e R s m args below meth c H1 locs1 cells slots Q (F0 m (pc + 3) ls rest)) : W p l e R s m args below meth c H locs cells slots Q (F0 m pc ls (.int v :: .ref (ad a) :: rest)) :=
  x_putNW C K h c1 hk k hN hl hfin hn hfit hlen (hs_i hs) (up_i σ a k v) d kk
theorem x_putLN (C : CallFix p m c cc nL s args wU_ own) (K : Kx_ κ G cy A s) (h : Ht_ G cy A s ad σ H locs) (c1 : Cl_ ci CC T N ty0 fl) {a : Nat} (hk : kd_ σ a = ci) (k : Nat) (hN : k < N) {host : String} (hl : Cond.fieldLinkNest own idx (T k).1 (T k).2.1 (T k).2.2.1 host ∈ wN_) (hfin : (T k).2.2.2 = false) {v : Int64} (hn : narrow (ty0 k) (.long v) = .long v) (hfit : fits (ty0 k) (.long v) = true) (hlen : k < (fl ad (si_ σ a) (sl_ σ a) (sr_ σ a)).length) (hs : ∀ (i : Nat → Int32) (l : Nat → Int64) (r : Nat → Option Nat), (fl ad i l r).set k (.long v) = fl ad i (vp_updL l k v) r) (d : decode cc pc = .ok (.putfield idx, 3))
    (kk : ∀ (H1 : Heap) (locs1 : List Loc), Ht_ G cy A s ad (ul_ σ a k v) H1 locs1 → W p l e R s m args below meth c H1 locs1 cells slots Q (F0 m (pc + 3) ls rest)) : W p l e R s m args below meth c H locs cells slots Q (F0 m pc ls (.long v :: .ref (ad a) :: rest)) :=
  x_putNW C K h c1 hk k hN hl hfin hn hfit hlen (hs_l hs) (up_l σ a k v) d kk
theorem x_tald (C : CallFix p m c cc nL s args wU_ own) (K : Kx_ κ G cy A s) (h : Ht_ G cy A s ad σ H locs) {j : Nat} {i : Int32} (hj : ix_ i 6 = some j) (d : decode cc pc = .ok (.iaload, 1))
    (kk : W p l e R s m args below meth c H locs cells slots Q (F0 m (pc + 1) ls (.int (un_ j) :: rest))) : W p l e R s m args below meth c H locs cells slots Q (F0 m pc ls (.int i :: .ref κ.2.2 :: rest)) := by
  obtain ⟨h1, rfl⟩ := ix_in hj
  exact va_ti C.1 C.2.1 K.2.2.1.2.1 h.2.2.1 h1 rfl d kk
theorem x_tlen (C : CallFix p m c cc nL s args wU_ own) (K : Kx_ κ G cy A s) (h : Ht_ G cy A s ad σ H locs) (d : decode cc pc = .ok (.arraylength, 1))
    (kk : W p l e R s m args below meth c H locs cells slots Q (F0 m (pc + 1) ls (.int (6 : Int32) :: rest))) : W p l e R s m args below meth c H locs cells slots Q (F0 m pc ls (.ref κ.2.2 :: rest)) :=
  va_tlen C.1 C.2.1 K.2.2.1.2.1 h.2.2.1 rfl d kk
theorem x_copy (C : CallFix p m c cc nL s args wU_ own) (K : Kx_ κ G cy A s) (h : Ht_ G cy A s ad σ H locs) {lv : List (Nat × Value)} (hls : lv_has ls nL lv) (hl : Cond.methodLink own idx arraycopyName ∈ wU_) (hnat : Cond.native arraycopyName ∈ wU_) (hst : Cond.static arraycopyName ∈ wU_) (hini : Cond.initialized "java/lang/System" ∈ wU_) {a b : Nat} (hk : kd_ σ a = 10) (hk2 : kd_ σ b = 10) {sp dp n : Int32} (h1 : ¬ sp < 0) (h2 : ¬ dp < 0) (h3 : ¬ n < 0) (h4 : sp.toNatClampNeg + n.toNatClampNeg ≤ ln_ σ a) (h5 : dp.toNatClampNeg + n.toNatClampNeg ≤ ln_ σ b)
    (hframes : 1 ≤ R.frames) (hlocals : (rest.map fun v => v.category).sum + (nativeFrameWords "java/lang/System" "arraycopy" 5 + 11) ≤ R.locals) (d : decode cc pc = .ok (.invokestatic idx, 3))
    (kk : ∀ (H1 : Heap) (locs1 : List Loc), Ht_ G cy A s ad (uw_ σ b (va_cpy (si_ σ a) (si_ σ b) sp.toNatClampNeg dp.toNatClampNeg n.toNatClampNeg)) H1 locs1 → W p l e R s m args below meth c H1 locs1 cells slots Q (F0 m (pc + 3) ls rest)) : W p l e R s m args below meth c H locs cells slots Q (F0 m pc ls (.int n :: .int dp :: .ref (ad b) :: .int sp :: .ref (ad a) :: rest)) := by
  refine va_copyi C.1 C.2.1 (C.2.2.1.trans hls.1.symm) C.2.2.2.1 (C.2.2.2.2 _ hl) (C.2.2.2.2 _ hnat) (C.2.2.2.2 _ hst) (C.2.2.2.2 _ hini) K.1 h.1 h.2.1 h.2.2.1 a b 0 0 (h.at hk (by decide)) (h.at hk2 (by decide)) (ty := .int) rfl rfl rfl h1 h2 h3 h4 h5 (fun _ _ => rfl) hframes hlocals d (fun H1 locs1 q1 q2 q3 => kk H1 locs1 (h.set (up_w σ b _) ?_ q1 q2 q3))
  unfold cel_
  rw [si_uw, (up_w σ b _).2.1, (up_w σ b _).2.2.1, hk2]
  rfl
end XQ
theorem rv_c {ad : Nat → Nat} {o : Option Nat} : (rv_ ad o).category = 1 := by cases o <;> rfl
/-! methods that answer a boolean say so -/
abbrev Qz_ (G : va_G) (cy : Nat → ClassId) (ad : Nat → Nat) (σ σ' : St_) (sz : Nat) (r : Int32) : Array Value → State → Outcome → State → Prop := va_Qi (fun r2 (_ : Unit) => r2 = r ∧ (r = 0 ∨ r = 1)) (fun _ t => Po_ G cy ad σ σ' sz t) (va_A (wl_ cy ad σ) sz)
section XZ
variable {p : Program} {l : Launch} {e : Env} {R : Room} {s : State} {m : MethodId} {args : Array Value} {below : List Frame} {meth : Method} {c : Code} {H : Heap} {locs : List Loc} {cells slots : Nat} {Q : State → Prop}
variable {cc : ByteArray} {pc nL idx : Nat} {ls : Array Slot} {st rest : List Value} {own : String} {κ : Ka_} {G : va_G} {cy : Nat → ClassId} {A : Nat → Prop} {ad : Nat → Nat} {σ σ' : St_}
theorem x_rzz {sz : Nat} {σ0 : St_} {v r : Int32} (C : CallFix p m c cc nL s args wU_ own) (hr : meth.sig.returnType = some .boolean) (hlk : meth.locks = false) (h : Ht_ G cy (va_A (wl_ cy ad σ0) sz) s ad σ H locs) (hE : Ex_ σ0 σ) (hz : v = 0 ∨ v = 1) (hv : v = r) (hσ : σ = σ') (d : decode cc pc = .ok (.ireturn, 1)) : W p l e R s m args below meth c H locs cells slots (MQ below (Qz_ G cy ad σ0 σ' sz r) args s cells slots (va_A (wl_ cy ad σ0) sz)) (F0 m pc ls [.int v]) := by
  subst hσ; subst hv
  exact W.zret C.1 C.2.1 hr (by rcases hz with rfl | rfl <;> rfl) (fun t ht hW => ⟨⟨v, (), rfl, ⟨rfl, hz⟩, x_po h hE ht⟩, h.2.2.1.F ht⟩) h.2.2.1.2.2 d hlk
theorem x_az {r : Int32} {av : Array Value} (K : Kx_ κ G cy A s) (h : Ht_ G cy A s ad σ H locs) (hr : va_Run p l e R s m args below meth c H locs cells slots 0 0 (F0 m pc ls st) rest (Qz_ G cy ad σ σ' H.size r av) (va_A (wl_ cy ad σ) H.size))
    (kk : ∀ (H1 : Heap) (locs1 : List Loc), Ht_ G cy A s ad σ' H1 locs1 → Ex_ σ σ' → (r = 0 ∨ r = 1) → W p l e R s m args below meth c H1 locs1 cells slots Q (F0 m (pc + 3) ls (.int r :: rest))) : W p l e R s m args below meth c H locs cells slots Q (F0 m pc ls st) :=
  va_calli hr h.2.2.1 (fun q _ z => h.own K q z) (fun q z => h.own K q z) (fun r2 _ t H1 locs1 ht _ hp hB _ _ hS => by
    obtain ⟨hp, hz⟩ := hp
    subst hp
    obtain ⟨g1, g2⟩ := x_bk h K ht hB hS
    exact kk H1 locs1 g1 g2 hz)
theorem x_obj (C : CallFix p m c cc nL s args wU_ own) {lv : List (Nat × Value)} (hls : lv_has ls nL lv) (hl : Cond.methodLink own idx Lib.objectInit ∈ wU_) (hframes : 1 ≤ R.frames) (hlocals : 20 ≤ R.locals) {a : Addr} (hcat : (rest.map fun v => v.category).sum ≤ 8) (d : decode cc pc = .ok (.invokespecial idx, 3))
    (kk : W p l e R s m args below meth c H locs cells slots Q (F0 m (pc + 3) ls rest)) : W p l e R s m args below meth c H locs cells slots Q (F0 m pc ls (.ref a :: rest)) :=
  W.objInit C.1 C.2.1 C.2.2.2.1 (C.2.2.2.2 _ hl) (C.2.2.2.2 _ im_objectInit) (C.2.2.2.2 _ co_objectInit) rfl (hls.1.trans C.2.2.1.symm) rfl d hframes (by have := lv_room (m := m) (pc := pc) (ls := ls) (rest := (.ref a :: rest)) hcat; omega) kk
theorem x_putRF {ci N : Nat} {CC : String} {T : u_T} {ty0 : Nat → FieldType} {fl : (Nat → Nat) → (Nat → Int32) → (Nat → Int64) → (Nat → Option Nat) → List Value} (C : CallFix p m c cc nL s args wU_ own) (K : Kx_ κ G cy A s) (hin : meth.name = "<init>") (h : Ht_ G cy A s ad σ H locs) (c1 : Cl_ ci CC T N ty0 fl) {a : Nat} (hk : kd_ σ a = ci) (k : Nat) (hN : k < N) (hl : Cond.fieldLink own idx (T k).1 (T k).2.1 (T k).2.2.1 ∈ wU_) (hfin : (T k).2.2.2 = true) (hdecl : (T k).1 = own) {v : Option Nat} (hv : ∀ b, v = some b → b < sn_ σ) (hn : narrow (ty0 k) (rv_ ad v) = rv_ ad v) (hfit : fits (ty0 k) (rv_ ad v) = true) (hlen : k < (fl ad (si_ σ a) (sl_ σ a) (sr_ σ a)).length) (hs : ∀ (i : Nat → Int32) (l : Nat → Int64) (r : Nat → Option Nat), (fl ad i l r).set k (rv_ ad v) = fl ad i l (va_up r k v)) (d : decode cc pc = .ok (.putfield idx, 3))
    (kk : ∀ (H1 : Heap) (locs1 : List Loc), Ht_ G cy A s ad (ur_ σ a k v) H1 locs1 → W p l e R s m args below meth c H1 locs1 cells slots Q (F0 m (pc + 3) ls rest)) : W p l e R s m args below meth c H locs cells slots Q (F0 m pc ls (rv_ ad v :: .ref (ad a) :: rest)) :=
  x_putFW C K hin h c1 hk k hN hl hfin hdecl hn hfit hlen (hs_r hs) (up_r σ a k v hv) d kk
end XZ
theorem pf_1 {α β : Type} {a : α} {b : β} {q : α × β} (h : (a, b) = q) : a = q.1 := by rw [← h]
theorem pf_2 {α β : Type} {a : α} {b : β} {q : α × β} (h : (a, b) = q) : b = q.2 := by rw [← h]
theorem hv_q {ad : Nat → Nat} {L : List Value} {k : Nat} {o o' : Option Nat} (h : L[k]? = some (rv_ ad o)) (e : o' = o) : L[k]? = some (rv_ ad o') := by rw [h, e]
