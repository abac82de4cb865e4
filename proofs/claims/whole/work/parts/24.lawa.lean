/-! THE CLAIM OUT OF ONE WALK OF THE LAW'S BODY. Your part is whole_start (and what it stands on); all else here is the same for every law, but numbers. -/
def R_law : String := "FlownOnceAndLaidLaw"
def lw_P (b : Addr) (xs : List Int32) (args : Array Value) (s : State) : Prop := args = #[.ref b] ∧ s.IntsAt b xs ∧ xs.length ≤ 3072 ∧ (Jvm.Cond.and given_1 narrow_1).before args s = true
def lw_Q (_ : Array Value) (s : State) (o : Outcome) (t : State) : Prop := o = .returned (some (.int 1)) ∧ Framed s o t [] 600000 7302250
def lw_Z (below : List Frame) (a : Array Value) (s : State) : State → Prop := fun t => ∃ o, t.status = .running ∧ Ended t below o ∧ lw_Q a s o t
/-- the law's own end, with 1 on the stack, nothing written that was there before, its room as the claim has it -/
theorem lw_ret {p : Program} {l : Launch} {e : Env} {s : State} {m : MethodId} {below : List Frame} {meth : Method} {c : Code} {b : Nat} (hx : p.tables.exec = Jvm.exec) (hb : c.code = code) (hr : meth.sig.returnType = ret) (hlocks : meth.locks = false) {pc : Nat} {H : Heap} {ls : Array Slot} (hdg : decode code pc = .ok (.ireturn, 1)) : W p l e room_1 s m #[Value.ref b] below meth c H [] 600000 7302250 (lw_Z below #[Value.ref b] s) (F0 m pc ls [.int 1]) := by
  intro T hT X
  obtain ⟨fs, hret, hrun, hended, hW, hframe⟩ := X.leave (v := some (.int 1)) (hlocks := hlocks) (fun h => by rw [hr] at h; cases h)
  have hmeth' : T.vm.method? m = some meth := X.method'
  refine ⟨T.setFrames fs, ?_, .returned (some (.int 1)), hrun, hended, rfl, ⟨_, rfl⟩, hW, hframe⟩
  jvm_step X.here [X.here.top, hx, hb, hdg, hmeth', hr, ret, narrow_b1]
  (try refine ⟨rfl, ?_⟩); (try refine ⟨rfl, ?_⟩)
  first | (intro acts; rw [hret _ acts rfl rfl rfl]) | rw [hret _ _ rfl rfl rfl]
  exact Steps.refl _
/-- what holds at the law's entry: the machine, the code, the tables' words (any of lw_tbl by 'hts w (by decide +kernel)'), the script of L ints xs at the cell b, what the Statement gives of the start (any of its parts by flat_of_before) -/
def lw_At (p : Program) (s : State) (m : MethodId) (meth : Method) (c : Code) (b L : Nat) (xs : Nat → Int32) : Prop :=
  p.tables.exec = Jvm.exec ∧ c.code = code ∧ meth.sig.returnType = ret ∧ c.maxLocals = 4 ∧ s.vm.findClass R_law = some m.cls ∧ (∀ w ∈ lw_tbl, w.before #[Value.ref b] s = true) ∧ va_X b L xs s s.heap ∧ b < s.heap.size ∧ meth.locks = false ∧ (Jvm.Cond.and given_1 narrow_1).before #[Value.ref b] s = true
/-! TWO WORLDS: the class's and the reference's -/
def Dj_ (ad : Nat → Nat) (σ : St_) (ado : Nat → Nat) (σo : St_) : Prop := ∀ a b, a < sn_ σ → b < sn_ σo → ad a ≠ ado b
theorem Dj_.symm {ad ado : Nat → Nat} {σ σo : St_} (h : Dj_ ad σ ado σo) : Dj_ ado σo ad σ := fun a b ha hb e => h b a hb ha e.symm
def e0_ : St_ := (fun _ _ => 0, fun _ _ => 0, fun _ _ => none, fun _ => 99, fun _ => 0, 0)
def FU_ : Nat := 5000
section XL
variable {p : Program} {l : Launch} {e : Env} {R : Room} {s : State} {m : MethodId} {args : Array Value} {below : List Frame} {meth : Method} {c : Code} {H H1 : Heap} {locs locs1 : List Loc} {cells slots mc ms : Nat} {Q : State → Prop}
variable {cc : ByteArray} {pc nL idx : Nat} {ls : Array Slot} {st rest : List Value} {own : String} {κ : Ka_} {G : va_G} {cy : Nat → ClassId} {A : Nat → Prop} {ad ado ad' : Nat → Nat} {σ σ' σo : St_} {av : Array Value}
theorem ht_lt (h : Ht_ G cy A s ad σ H locs) {a : Nat} (ha : a < sn_ σ) : ad a < H.size := (h.1 a _ (wl_get ha)).lt
theorem oth_k (h : Ht_ G cy A s ad σ H locs) (ho : Ht_ G cy A s ado σo H locs) (hd : Dj_ ad σ ado σo) (hk : ∀ q : Nat, q < H.size → ¬ va_A (wl_ cy ad σ) H.size q → H1[q]? = H[q]?) (hS : va_S A s.heap H1 locs1) : Ht_ G cy A s ado σo H1 locs1 := by
  refine ⟨ho.1.kept (fun k q hq => ?_), ho.2.1, hS, ho.2.2.2⟩
  obtain ⟨hl, rfl⟩ := wl_at hq
  have hlt := ht_lt ho hl
  refine hk _ hlt (fun z => ?_)
  rcases z with ⟨j, e2, hj⟩ | hj
  · obtain ⟨hl2, e3⟩ := wl_at hj
    exact hd j k hl2 hl (congrArg Prod.fst e3).symm
  · exact absurd hlt (Nat.not_lt.mpr hj)
theorem oth_d (ho : Ht_ G cy A s ado σo H locs) (hd : Dj_ ad σ ado σo) (h2 : va_D (va_A (wl_ cy ad σ) H.size) (wl_ cy ad' σ')) : Dj_ ad' σ' ado σo := by
  intro a b ha hb e
  rcases h2.2 a _ (wl_get ha) with ⟨j, e2, hj⟩ | hj
  · obtain ⟨hl2, e3⟩ := wl_at hj
    exact hd j b hl2 hb ((congrArg Prod.fst e3).symm.trans e)
  · have := ht_lt ho hb
    dsimp only at hj
    omega
theorem l_i {r : Int32} (K : Kx_ κ G cy A s) (h : Ht_ G cy A s ad σ H locs) (ho : Ht_ G cy A s ado σo H locs) (hd : Dj_ ad σ ado σo) (hr : va_Run p l e R s m args below meth c H locs cells slots 0 0 (F0 m pc ls st) rest (Qi_ G cy ad σ σ' H.size r av) (va_A (wl_ cy ad σ) H.size))
    (kk : ∀ (H1 : Heap) (locs1 : List Loc), Ht_ G cy A s ad σ' H1 locs1 → Ht_ G cy A s ado σo H1 locs1 → Dj_ ad σ' ado σo → W p l e R s m args below meth c H1 locs1 cells slots Q (F0 m (pc + 3) ls (.int r :: rest))) : W p l e R s m args below meth c H locs cells slots Q (F0 m pc ls st) :=
  va_calli hr h.2.2.1 (fun q _ z => h.own K q z) (fun q z => h.own K q z) (fun r2 _ t H1 locs1 ht _ hp hB _ hk hS => by
    subst hp
    exact kk H1 locs1 (x_bk h K ht hB hS).1 (oth_k h ho hd hk hS) (oth_d ho hd hB.2.1))
theorem l_l {r : Int64} (K : Kx_ κ G cy A s) (h : Ht_ G cy A s ad σ H locs) (ho : Ht_ G cy A s ado σo H locs) (hd : Dj_ ad σ ado σo) (hr : va_Run p l e R s m args below meth c H locs cells slots 0 0 (F0 m pc ls st) rest (Ql_ G cy ad σ σ' H.size r av) (va_A (wl_ cy ad σ) H.size))
    (kk : ∀ (H1 : Heap) (locs1 : List Loc), Ht_ G cy A s ad σ' H1 locs1 → Ht_ G cy A s ado σo H1 locs1 → Dj_ ad σ' ado σo → W p l e R s m args below meth c H1 locs1 cells slots Q (F0 m (pc + 3) ls (.long r :: rest))) : W p l e R s m args below meth c H locs cells slots Q (F0 m pc ls st) :=
  va_calll hr h.2.2.1 (fun q _ z => h.own K q z) (fun q z => h.own K q z) (fun r2 _ t H1 locs1 ht _ hp hB _ hk hS => by
    subst hp
    exact kk H1 locs1 (x_bk h K ht hB hS).1 (oth_k h ho hd hk hS) (oth_d ho hd hB.2.1))
theorem l_iA {r : Int32} (K : Kx_ κ G cy A s) (h : Ht_ G cy A s ad σ H locs) (ho : Ht_ G cy A s ado σo H locs) (hd : Dj_ ad σ ado σo) (hr : va_Run p l e R s m args below meth c H locs cells slots mc ms (F0 m pc ls st) rest (QiA_ G cy ad σ σ' H.size r av) (va_A (wl_ cy ad σ) H.size))
    (kk : ∀ (ad1 : Nat → Nat) (H1 : Heap) (locs1 : List Loc), Ag_ (sn_ σ) ad ad1 → Ht_ G cy A s ad1 σ' H1 locs1 → Ht_ G cy A s ado σo H1 locs1 → Dj_ ad1 σ' ado σo → W p l e R s m args below meth c H1 locs1 (cells + mc) (slots + ms) Q (F0 m (pc + 3) ls (.int r :: rest))) : W p l e R s m args below meth c H locs cells slots Q (F0 m pc ls st) :=
  va_calli hr h.2.2.1 (fun q _ z => h.own K q z) (fun q z => h.own K q z) (fun r2 ad1 t H1 locs1 ht _ hp hB _ hk hS => by
    subst hp
    exact kk ad1 H1 locs1 hB.1 (x_bkA h K ht hB hS).2.1 (oth_k h ho hd hk hS) (oth_d ho hd hB.2.2.1))
theorem l_vA (K : Kx_ κ G cy A s) (h : Ht_ G cy A s ad σ H locs) (ho : Ht_ G cy A s ado σo H locs) (hd : Dj_ ad σ ado σo) (hr : va_Run p l e R s m args below meth c H locs cells slots mc ms (F0 m pc ls st) rest (QvA_ G cy ad σ σ' H.size av) (va_A (wl_ cy ad σ) H.size))
    (kk : ∀ (ad1 : Nat → Nat) (H1 : Heap) (locs1 : List Loc), Ag_ (sn_ σ) ad ad1 → Ht_ G cy A s ad1 σ' H1 locs1 → Ht_ G cy A s ado σo H1 locs1 → Dj_ ad1 σ' ado σo → W p l e R s m args below meth c H1 locs1 (cells + mc) (slots + ms) Q (F0 m (pc + 3) ls rest)) : W p l e R s m args below meth c H locs cells slots Q (F0 m pc ls st) :=
  va_callv hr h.2.2.1 (fun q _ z => h.own K q z) (fun q z => h.own K q z) (fun ad1 t H1 locs1 ht _ _ hB _ hk hS => by
    exact kk ad1 H1 locs1 hB.1 (x_bkA h K ht hB hS).2.1 (oth_k h ho hd hk hS) (oth_d ho hd hB.2.2.1))
/-- a new object of an empty world, beside another world -/
theorem l_new {ci N : Nat} {CC : String} {T : u_T} {ty0 : Nat → FieldType} {fl : (Nat → Nat) → (Nat → Int32) → (Nat → Int64) → (Nat → Option Nat) → List Value} (C : CallFix p m c cc nL s args wU_ own) (K : Kx_ κ G cy A s) (ho : Ht_ G cy A s ado σo H locs) (c1 : Cl_ ci CC T N ty0 fl) (hl : Cond.classLink own idx CC ∈ wU_) (hins : Cond.instantiable CC N ∈ wU_) (hini : Cond.initialized CC ∈ wU_) (hdf : ∀ j, j < N → defaultValue (ty0 j) = vp_V (fl ad (fun _ => 0) (fun _ => 0) (fun _ => none)) j) (hcells : cells + 1 ≤ R.cells) (hslots : slots + N ≤ R.slots) (d : decode cc pc = .ok (.new idx, 3))
    (kk : ∀ (ad1 : Nat → Nat) (H1 : Heap), Ht_ G cy A s ad1 (nw_ e0_ ci 0) H1 locs → Ht_ G cy A s ado σo H1 locs → Dj_ ad1 (nw_ e0_ ci 0) ado σo → W p l e R s m args below meth c H1 locs (cells + 1) (slots + N) Q (F0 m (pc + 3) ls (.ref (ad1 0) :: rest))) : W p l e R s m args below meth c H locs cells slots Q (F0 m pc ls rest) := by
  refine va_new (ci := ci) (fs := fl ad (fun _ => 0) (fun _ => 0) (fun _ => none)) C.1 C.2.1 C.2.2.2.2 c1.2.2.1 ty0 c1.2.2.2.1 C.2.2.2.1 (C.2.2.2.2 _ hl) (C.2.2.2.2 _ hins) (C.2.2.2.2 _ hini) K.1 ho.1 ho.2.1 ho.2.2.1 K.2.2.2 c1.2.1 hdf hcells hslots d (fun q H1 q1 q2 q3 => ?_)
  have hce : ce_ cy ad ci 0 (fun _ => 0) (fun _ => 0) (fun _ => none) = .inr (ci, fl ad (fun _ => 0) (fun _ => 0) (fun _ => none)) := c1.2.2.2.2.2 cy ad 0 _ _ _
  rw [← hce] at q1 q2
  have hw0 : wf_ e0_ := ⟨fun _ _ => rfl, fun _ _ _ h => by cases h⟩
  have hlen : (wl_ cy ado σo).length = sn_ σo := by unfold wl_; simp
  have e1 : wl_ cy (va_up ad 0 q) (nw_ e0_ ci 0) = [(q, ce_ cy ad ci 0 (fun _ => 0) (fun _ => 0) (fun _ => none))] := nw_wl (σ := e0_) hw0 ci 0 q
  have hlast : (wl_ cy ado σo ++ [(q, ce_ cy ad ci 0 (fun _ => 0) (fun _ => 0) (fun _ => none))])[sn_ σo]? = some (q, ce_ cy ad ci 0 (fun _ => 0) (fun _ => 0) (fun _ => none)) := by
    rw [List.getElem?_append_right (by omega), hlen, Nat.sub_self]; rfl
  have hfst : ∀ k x, (wl_ cy ado σo)[k]? = some x → (wl_ cy ado σo ++ [(q, ce_ cy ad ci 0 (fun _ => 0) (fun _ => 0) (fun _ => none))])[k]? = some x := fun k x hx => by
    rw [List.getElem?_append_left (List.getElem?_eq_some_iff.mp hx).1]; exact hx
  have := kk (va_up ad 0 q) H1 ?_ ?_ ?_
  · rw [va_up_self] at this; exact this
  · refine ⟨?_, ?_, q3, nw_wf hw0 ci 0⟩
    · rw [e1]
      intro k x hx
      have hz : k < 1 := (List.getElem?_eq_some_iff.mp hx).1
      rw [show k = 0 by omega] at hx
      cases hx
      exact q1 _ _ hlast
    · rw [e1]
      refine ⟨fun i j x y hi hj _ => ?_, fun k x hx => ?_⟩
      · have := (List.getElem?_eq_some_iff.mp hi).1
        have := (List.getElem?_eq_some_iff.mp hj).1
        simp only [List.length_singleton] at *
        omega
      · have hz : k < 1 := (List.getElem?_eq_some_iff.mp hx).1
        rw [show k = 0 by omega] at hx
        cases hx
        exact q2.2 _ _ hlast
  · refine ⟨fun k x hx => q1 k x (hfst k x hx), ho.2.1, q3, ho.2.2.2⟩
  · intro a b ha hb e2
    have ha0 : a = 0 := by
      have : a < 0 + 1 := ha
      omega
    subst ha0
    rw [va_up_self] at e2
    have := q2.1 (sn_ σo) b _ _ hlast (hfst b _ (wl_get hb)) e2
    omega
/-- the script -/
theorem x_scr (C : CallFix p m c cc nL s args wU_ own) {b L : Nat} {xs : Nat → Int32} (hX : va_X b L xs s s.heap) (hbl : b < s.heap.size) (hbA : ¬ A b) (hS : va_S A s.heap H locs) {i : Int32} {j : Nat} (hi : i = nI j) (hj : j < L) (hL : L < 2 ^ 31) (d : decode cc pc = .ok (.iaload, 1))
    (kk : W p l e R s m args below meth c H locs cells slots Q (F0 m (pc + 1) ls (.int (xs j) :: rest))) : W p l e R s m args below meth c H locs cells slots Q (F0 m pc ls (.int i :: .ref b :: rest)) := by
  subst hi
  refine va_sld C.1 C.2.1 hX hbl hbA hS (vp_in_nI hj hL) d ?_
  rw [nI_clamp (Nat.lt_trans hj hL)]
  exact kk
end XL
theorem lw_end {k L : Nat} (hL : L ≤ 3072) (h : ¬ nI L - 6 < nI (6 * k)) (hk : 6 * k ≤ L) : 6 * k + 6 ≤ L := by
  rcases Nat.lt_or_ge L (6 * k + 6) with q | q
  · exfalso
    apply h
    rw [Int32.lt_iff_toInt_lt]
    have e1 : (nI L - 6).toInt = (L : Int) - 6 := pk_sub_toInt (a := L) (b := 6) (by omega) (by omega)
    rw [e1, nI_toInt (by omega)]
    omega
  · exact q

def Sim_set (Rel : St_ → St_ → Prop) : Prop := ∀ (σx σm : St_), Rel σx σm → ∀ (a1 a2 a3 : Int32), ∃ (r : Int32) (σx' : St_) (σm' : St_), f_X8_set σx 0 a1 a2 a3 = some (r, σx') ∧ f_X9_set FU_ σm 0 a1 a2 a3 = some (r, σm') ∧ Rel σx' σm'
def Sim_carpet (Rel : St_ → St_ → Prop) : Prop := ∀ (σx σm : St_), Rel σx σm → ∀ (a1 a2 a3 : Int32), ∃ (r : Int32) (σx' : St_) (σm' : St_), f_X8_carpet σx 0 a1 a2 a3 = some (r, σx') ∧ f_X9_carpet σm 0 a1 a2 a3 = some (r, σm') ∧ Rel σx' σm'
def Sim_told (Rel : St_ → St_ → Prop) : Prop := ∀ (σx σm : St_), Rel σx σm → ∀ (a1 a2 : Int32), ∃ (r : Int32) (σx' : St_) (σm' : St_), f_X8_told FU_ σx 0 a1 a2 = some (r, σx') ∧ f_X9_told FU_ σm 0 a1 a2 = some (r, σm') ∧ Rel σx' σm'
def Sim_asks (Rel : St_ → St_ → Prop) : Prop := ∀ (σx σm : St_), Rel σx σm → ∀ (a1 a2 a3 a4 : Int32), ∃ (r : Int32) (σx' : St_) (σm' : St_), f_X8_asks FU_ σx 0 a1 a2 a3 a4 = some (r, σx') ∧ f_X9_asks FU_ σm 0 a1 a2 a3 a4 = some (r, σm') ∧ Rel σx' σm'
def Sim_feed (Rel : St_ → St_ → Prop) : Prop := ∀ (σx σm : St_), Rel σx σm → ∀ (a1 : Int32), ∃ (r : Int32) (σx' : St_) (σm' : St_), f_X8_feed σx 0 a1 = some (r, σx') ∧ f_X9_feed σm 0 a1 = some (r, σm') ∧ Rel σx' σm'
def Sim_text (Rel : St_ → St_ → Prop) : Prop := ∀ (σx σm : St_), Rel σx σm → ∀ (_ : Unit), ∃ (r : Int32) (σx' : St_) (σm' : St_), f_X8_text FU_ σx 0 = some (r, σx') ∧ f_X9_text FU_ σm 0 = some (r, σm') ∧ Rel σx' σm'
def Sim_force (Rel : St_ → St_ → Prop) : Prop := ∀ (σx σm : St_), Rel σx σm → ∀ (a1 : Int32), ∃ (r : Int32) (σx' : St_) (σm' : St_), f_X8_force σx 0 a1 = some (r, σx') ∧ f_X9_force σm 0 a1 = (r, σm') ∧ Rel σx' σm'
def Sim_say (Rel : St_ → St_ → Prop) : Prop := ∀ (σx σm : St_), Rel σx σm → ∀ (a1 a2 : Int32), ∃ (r : Int32) (σx' : St_) (σm' : St_), f_X8_say FU_ σx 0 a1 a2 = some (r, σx') ∧ f_X9_say FU_ σm 0 a1 a2 = some (r, σm') ∧ Rel σx' σm'
def Sim_flies (Rel : St_ → St_ → Prop) : Prop := ∀ (σx σm : St_), Rel σx σm → ∀ (a1 a2 a3 : Int32), ∃ (r : Int32) (σx' : St_) (σm' : St_), f_X8_flies FU_ σx 0 a1 a2 a3 = some (r, σx') ∧ f_X9_flies FU_ σm 0 a1 a2 a3 = some (r, σm') ∧ Rel σx' σm'
def Sim_shortest (Rel : St_ → St_ → Prop) : Prop := ∀ (σx σm : St_), Rel σx σm → ∀ (a1 a2 a3 : Int32), ∃ (r : Int32) (σx' : St_) (σm' : St_), f_X8_shortest FU_ σx 0 a1 a2 a3 = some (r, σx') ∧ f_X9_shortest FU_ σm 0 a1 a2 a3 = some (r, σm') ∧ Rel σx' σm'
def Sim_there (Rel : St_ → St_ → Prop) : Prop := ∀ (σx σm : St_), Rel σx σm → ∀ (a1 a2 : Int32), ∃ (r : Int64) (σx' : St_) (σm' : St_), f_X8_there FU_ σx 0 a1 a2 = some (r, σx') ∧ f_X9_there FU_ σm 0 a1 a2 = some (r, σm') ∧ Rel σx' σm'
def Sim_furthest (Rel : St_ → St_ → Prop) : Prop := ∀ (σx σm : St_), Rel σx σm → ∀ (a1 a2 : Int32), ∃ (r : Int32) (σx' : St_) (σm' : St_), f_X8_furthest FU_ σx 0 a1 a2 = some (r, σx') ∧ f_X9_furthest FU_ σm 0 a1 a2 = some (r, σm') ∧ Rel σx' σm'
def Sim_meet (Rel : St_ → St_ → Prop) : Prop := ∀ (σx σm : St_), Rel σx σm → ∀ (a1 a2 a3 : Int32), ∃ (r : Int32) (σx' : St_) (σm' : St_), f_X8_meet FU_ σx 0 a1 a2 a3 = some (r, σx') ∧ f_X9_meet FU_ σm 0 a1 a2 a3 = some (r, σm') ∧ Rel σx' σm'
def Sim_rows (Rel : St_ → St_ → Prop) : Prop := ∀ (σx σm : St_), Rel σx σm → ∀ (a1 a2 a3 : Int32), ∃ (r : Int64) (σx' : St_) (σm' : St_), f_X8_rows FU_ σx 0 a1 a2 a3 = some (r, σx') ∧ f_X9_rows FU_ σm 0 a1 a2 a3 = some (r, σm') ∧ Rel σx' σm'
def Sim_highest (Rel : St_ → St_ → Prop) : Prop := ∀ (σx σm : St_), Rel σx σm → ∀ (a1 : Int32), ∃ (r : Int32) (σx' : St_) (σm' : St_), f_X8_highest FU_ σx 0 a1 = some (r, σx') ∧ f_X9_highest FU_ σm 0 a1 = some (r, σm') ∧ Rel σx' σm'
def Sim_tells (Rel : St_ → St_ → Prop) : Prop := ∀ (σx σm : St_), Rel σx σm → ∀ (a1 a2 a3 : Int32), ∃ (r : Int32) (σx' : St_) (σm' : St_), f_X8_tells FU_ σx 0 a1 a2 a3 = some (r, σx') ∧ f_X9_tells FU_ σm 0 a1 a2 a3 = some (r, σm') ∧ Rel σx' σm'
def Sim_ways (Rel : St_ → St_ → Prop) : Prop := ∀ (σx σm : St_), Rel σx σm → ∀ (a1 a2 a3 : Int32), ∃ (r : Int64) (σx' : St_) (σm' : St_), f_X8_ways FU_ σx 0 a1 a2 a3 = some (r, σx') ∧ f_X9_ways FU_ σm 0 a1 a2 a3 = some (r, σm') ∧ Rel σx' σm'
def Sim_drawn (Rel : St_ → St_ → Prop) : Prop := ∀ (σx σm : St_), Rel σx σm → ∀ (a1 a2 a3 : Int32), ∃ (r : Int32) (σx' : St_) (σm' : St_), f_X8_drawn FU_ σx 0 a1 a2 a3 = some (r, σx') ∧ f_X9_drawn FU_ σm 0 a1 a2 a3 = some (r, σm') ∧ Rel σx' σm'
def Sim_chance (Rel : St_ → St_ → Prop) : Prop := ∀ (σx σm : St_), Rel σx σm → ∀ (a1 a2 a3 a4 a5 : Int32), ∃ (r : Int64) (σx' : St_) (σm' : St_), f_X8_chance FU_ σx 0 a1 a2 a3 a4 a5 = some (r, σx') ∧ f_X9_chance FU_ σm 0 a1 a2 a3 a4 a5 = some (r, σm') ∧ Rel σx' σm'
def Sim_image (Rel : St_ → St_ → Prop) : Prop := ∀ (σx σm : St_), Rel σx σm → ∀ (_ : Unit), ∃ (r : Int32) (σx' : St_) (σm' : St_), f_X8_image FU_ σx 0 = some (r, σx') ∧ f_X9_image FU_ σm 0 = some (r, σm') ∧ Rel σx' σm'
def Sim_back (Rel : St_ → St_ → Prop) : Prop := ∀ (σx σm : St_), Rel σx σm → ∀ (_ : Unit), ∃ (r : Int32) (σx' : St_) (σm' : St_), f_X8_back FU_ σx 0 = some (r, σx') ∧ f_X9_back FU_ σm 0 = some (r, σm') ∧ Rel σx' σm'
def Sim_count (Rel : St_ → St_ → Prop) : Prop := ∀ (σx σm : St_), Rel σx σm → ∀ (a1 : Int32), ∃ (r : Int32), f_X8_count FU_ σx 0 a1 = some r ∧ f_X9_count FU_ σm 0 a1 = some r ∧ Rel σx σm
def Sim_sheet (Rel : St_ → St_ → Prop) : Prop := ∀ (σx σm : St_), Rel σx σm → ∀ (a1 a2 a3 : Int32), ∃ (r : Int32) (σx' : St_) (σm' : St_), f_X8_sheet FU_ σx 0 a1 a2 a3 = some (r, σx') ∧ f_X9_sheet FU_ σm 0 a1 a2 a3 = some (r, σm') ∧ Rel σx' σm'
def Sim_cell (Rel : St_ → St_ → Prop) : Prop := ∀ (σx σm : St_), Rel σx σm → ∀ (a1 a2 a3 : Int32), ∃ (r : Int32) (σx' : St_) (σm' : St_), f_X8_cell σx 0 a1 a2 a3 = some (r, σx') ∧ f_X9_cell σm 0 a1 a2 a3 = some (r, σm') ∧ Rel σx' σm'
def Sim_copy (Rel : St_ → St_ → Prop) : Prop := ∀ (σx σm : St_), Rel σx σm → ∀ (a1 a2 a3 a4 a5 : Int32), ∃ (r : Int32) (σx' : St_) (σm' : St_), f_X8_copy σx 0 a1 a2 a3 a4 a5 = some (r, σx') ∧ f_X9_copy FU_ σm 0 a1 a2 a3 a4 a5 = some (r, σm') ∧ Rel σx' σm'
def Sim_carpets (Rel : St_ → St_ → Prop) : Prop := ∀ (σx σm : St_), Rel σx σm → ∀ (a1 a2 a3 a4 : Int32), ∃ (r : Int32) (σx' : St_) (σm' : St_), f_X8_carpets FU_ σx 0 a1 a2 a3 a4 = some (r, σx') ∧ f_X9_carpets FU_ σm 0 a1 a2 a3 a4 = some (r, σm') ∧ Rel σx' σm'
def Sim_taken (Rel : St_ → St_ → Prop) : Prop := ∀ (σx σm : St_), Rel σx σm → ∀ (a1 a2 : Int32), ∃ (r : Int32), f_X8_taken FU_ σx 0 a1 a2 = some r ∧ f_X9_taken FU_ σm 0 a1 a2 = some r ∧ Rel σx σm
def Sim_init (Rel : St_ → St_ → Prop) : Prop := ∃ (σx σm : St_), f_X8_init FU_ (nw_ e0_ 8 0) 0 = some σx ∧ f_X9_init (nw_ e0_ 9 0) 0 = some σm ∧ Rel σx σm
def Sims_ (Rel : St_ → St_ → Prop) : Prop := (∀ σx σm, Rel σx σm → kd_ σx 0 = 8 ∧ kd_ σm 0 = 9) ∧ Sim_init Rel ∧ Sim_set Rel ∧ Sim_carpet Rel ∧ Sim_told Rel ∧ Sim_asks Rel ∧ Sim_feed Rel ∧ Sim_text Rel ∧ Sim_force Rel ∧ Sim_say Rel ∧ Sim_flies Rel ∧ Sim_shortest Rel ∧ Sim_there Rel ∧ Sim_furthest Rel ∧ Sim_meet Rel ∧ Sim_rows Rel ∧ Sim_highest Rel ∧ Sim_tells Rel ∧ Sim_ways Rel ∧ Sim_drawn Rel ∧ Sim_chance Rel ∧ Sim_image Rel ∧ Sim_back Rel ∧ Sim_count Rel ∧ Sim_sheet Rel ∧ Sim_cell Rel ∧ Sim_copy Rel ∧ Sim_carpets Rel ∧ Sim_taken Rel
theorem lg_same (r : Int64) : lg_cmp r r = 0 := by simp [lg_cmp, Int64.lt_irrefl]
