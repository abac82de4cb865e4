/-! THE HEAP AS A STATE OF NUMBERED OBJECTS: ints, longs, refs (by object's number and place), kinds, lengths, how many -/
abbrev St_ : Type := (Nat → Nat → Int32) × (Nat → Nat → Int64) × (Nat → Nat → Option Nat) × (Nat → Nat) × (Nat → Nat) × Nat
def si_ (σ : St_) : Nat → Nat → Int32 := σ.1
def sl_ (σ : St_) : Nat → Nat → Int64 := σ.2.1
def sr_ (σ : St_) : Nat → Nat → Option Nat := σ.2.2.1
def kd_ (σ : St_) : Nat → Nat := σ.2.2.2.1
def ln_ (σ : St_) : Nat → Nat := σ.2.2.2.2.1
def sn_ (σ : St_) : Nat := σ.2.2.2.2.2
def ui_ (σ : St_) (a k : Nat) (v : Int32) : St_ := (va_up σ.1 a (upd (σ.1 a) k v), σ.2)
def ul_ (σ : St_) (a k : Nat) (v : Int64) : St_ := (σ.1, va_up σ.2.1 a (vp_updL (σ.2.1 a) k v), σ.2.2)
def ur_ (σ : St_) (a k : Nat) (v : Option Nat) : St_ := (σ.1, σ.2.1, va_up σ.2.2.1 a (va_up (σ.2.2.1 a) k v), σ.2.2.2)
def uw_ (σ : St_) (a : Nat) (f : Nat → Int32) : St_ := (va_up σ.1 a f, σ.2)
/-- a new object: its number is the next one -/
def nw_ (σ : St_) (kind len : Nat) : St_ := (va_up σ.1 (sn_ σ) (fun _ => 0), va_up σ.2.1 (sn_ σ) (fun _ => 0), va_up σ.2.2.1 (sn_ σ) (fun _ => none), va_up σ.2.2.2.1 (sn_ σ) kind, va_up σ.2.2.2.2.1 (sn_ σ) len, sn_ σ + 1)
/-- an index into a row of n places -/
def ix_ (i : Int32) (n : Nat) : Option Nat := if i < 0 then none else if i.toNatClampNeg < n then some i.toNatClampNeg else none
theorem ix_in {i : Int32} {n j : Nat} (h : ix_ i n = some j) : vp_in i n ∧ i.toNatClampNeg = j := by
  unfold ix_ at h
  by_cases h0 : i < 0
  · rw [if_pos h0] at h; cases h
  · rw [if_neg h0] at h
    by_cases h1 : i.toNatClampNeg < n
    · rw [if_pos h1] at h
      exact ⟨fun z => z.elim h0 (fun z => absurd z (Nat.not_le.mpr h1)), Option.some.inj h⟩
    · rw [if_neg h1] at h; cases h
/-- a reference that is used: it isn't null, and of that kind -/
def dr_ (σ : St_) (c : Nat) (o : Option Nat) : Option Nat := o.bind fun a => if kd_ σ a = c then some a else none
theorem dr_in {σ : St_} {c a : Nat} {o : Option Nat} (h : dr_ σ c o = some a) : o = some a ∧ kd_ σ a = c := by
  unfold dr_ at h
  cases o with
  | none => cases h
  | some b =>
    simp only [Option.bind_some] at h
    by_cases hb : kd_ σ b = c
    · rw [if_pos hb] at h; cases h; exact ⟨rfl, hb⟩
    · rw [if_neg hb] at h; cases h
def oc_ {α : Type} (o : Option Nat) (A : α) (B : Nat → α) : α := match o with
  | none => A
  | some b => B b
def wf_ (σ : St_) : Prop := (∀ a, sn_ σ ≤ a → kd_ σ a = 99) ∧ ∀ a k b, sr_ σ a k = some b → b < sn_ σ
def f0_ (ad : Nat → Nat) (i : Nat → Int32) (l : Nat → Int64) (r : Nat → Option Nat) : List Value := [.int (i 0), .int (i 1), .int (i 2), .int (i 3)]
def f1_ (ad : Nat → Nat) (i : Nat → Int32) (l : Nat → Int64) (r : Nat → Option Nat) : List Value := [va_rf ((r 0).map ad), .int (i 1), .int (i 2), .int (i 3), .long (l 4)]
def f2_ (ad : Nat → Nat) (i : Nat → Int32) (l : Nat → Int64) (r : Nat → Option Nat) : List Value := [va_rf ((r 0).map ad), va_rf ((r 1).map ad), .int (i 2), .int (i 3), .int (i 4)]
def f3_ (ad : Nat → Nat) (i : Nat → Int32) (l : Nat → Int64) (r : Nat → Option Nat) : List Value := [va_rf ((r 0).map ad), .int (i 1), va_rf ((r 2).map ad), va_rf ((r 3).map ad), va_rf ((r 4).map ad), .int (i 5), .int (i 6), va_rf ((r 7).map ad), .int (i 8), .int (i 9), .int (i 10)]
def f4_ (ad : Nat → Nat) (i : Nat → Int32) (l : Nat → Int64) (r : Nat → Option Nat) : List Value := [va_rf ((r 0).map ad), .int (i 1), .int (i 2)]
def f5_ (ad : Nat → Nat) (i : Nat → Int32) (l : Nat → Int64) (r : Nat → Option Nat) : List Value := [va_rf ((r 0).map ad), va_rf ((r 1).map ad), va_rf ((r 2).map ad)]
def f6_ (ad : Nat → Nat) (i : Nat → Int32) (l : Nat → Int64) (r : Nat → Option Nat) : List Value := [va_rf ((r 0).map ad), va_rf ((r 1).map ad), .int (i 2), .long (l 3), va_rf ((r 4).map ad)]
def f7_ (ad : Nat → Nat) (i : Nat → Int32) (l : Nat → Int64) (r : Nat → Option Nat) : List Value := [va_rf ((r 0).map ad), va_rf ((r 1).map ad), va_rf ((r 2).map ad), va_rf ((r 3).map ad), va_rf ((r 4).map ad), .int (i 5), .int (i 6), .long (l 7)]
def f8_ (ad : Nat → Nat) (i : Nat → Int32) (l : Nat → Int64) (r : Nat → Option Nat) : List Value := [va_rf ((r 0).map ad), va_rf ((r 1).map ad), .int (i 2), va_rf ((r 3).map ad), va_rf ((r 4).map ad), .int (i 5), va_rf ((r 6).map ad), va_rf ((r 7).map ad), va_rf ((r 8).map ad), va_rf ((r 9).map ad), va_rf ((r 10).map ad), va_rf ((r 11).map ad), va_rf ((r 12).map ad)]
def f9_ (ad : Nat → Nat) (i : Nat → Int32) (l : Nat → Int64) (r : Nat → Option Nat) : List Value := [.int (i 0), va_rf ((r 1).map ad), va_rf ((r 2).map ad), .int (i 3), .int (i 4), va_rf ((r 5).map ad), .int (i 6), .int (i 7), va_rf ((r 8).map ad), va_rf ((r 9).map ad), va_rf ((r 10).map ad), .int (i 11), .int (i 12), .int (i 13), .int (i 14), .int (i 15), .int (i 16), .int (i 17), .int (i 18), .int (i 19), .int (i 20), .int (i 21), .int (i 22), .long (l 23), .int (i 24), .int (i 25), .int (i 26), va_rf ((r 27).map ad), va_rf ((r 28).map ad), va_rf ((r 29).map ad), va_rf ((r 30).map ad), va_rf ((r 31).map ad), va_rf ((r 32).map ad), va_rf ((r 33).map ad), va_rf ((r 34).map ad), .int (i 35), .int (i 36), .int (i 37), va_rf ((r 38).map ad), va_rf ((r 39).map ad), va_rf ((r 40).map ad), va_rf ((r 41).map ad)]
def ce_ (cy : Nat → ClassId) (ad : Nat → Nat) (kind len : Nat) (i : Nat → Int32) (l : Nat → Int64) (r : Nat → Option Nat) : va_E := match kind with
  | 0 => .inr (0, f0_ ad i l r)
  | 1 => .inr (1, f1_ ad i l r)
  | 2 => .inr (2, f2_ ad i l r)
  | 3 => .inr (3, f3_ ad i l r)
  | 4 => .inr (4, f4_ ad i l r)
  | 5 => .inr (5, f5_ ad i l r)
  | 6 => .inr (6, f6_ ad i l r)
  | 7 => .inr (7, f7_ ad i l r)
  | 8 => .inr (8, f8_ ad i l r)
  | 9 => .inr (9, f9_ ad i l r)
  | 10 => .inl (cy 0, len, .inl i)
  | 11 => .inl (cy 1, len, .inr (.inl l))
  | 12 => .inl (cy 2, len, .inl i)
  | 13 => .inl (cy 3, len, .inr (.inr (.inr (.inr fun j => (r j).map ad))))
  | 14 => .inl (cy 4, len, .inr (.inr (.inr (.inr fun j => (r j).map ad))))
  | 15 => .inl (cy 5, len, .inr (.inr (.inr (.inr fun j => (r j).map ad))))
  | _ => .inr (0, [])
abbrev tys_ (cy : Nat → ClassId) : List (ClassId × FieldType) := [(cy 0, .int), (cy 1, .long), (cy 2, .boolean), (cy 3, .object RX0), (cy 4, .object RX4), (cy 5, .object RX5)]
def cel_ (cy : Nat → ClassId) (ad : Nat → Nat) (σ : St_) (a : Nat) : va_E := ce_ cy ad (kd_ σ a) (ln_ σ a) (si_ σ a) (sl_ σ a) (sr_ σ a)
def wl_ (cy : Nat → ClassId) (ad : Nat → Nat) (σ : St_) : va_W := (List.range (sn_ σ)).map fun a => (ad a, cel_ cy ad σ a)
theorem wl_get {cy : Nat → ClassId} {ad : Nat → Nat} {σ : St_} {a : Nat} (h : a < sn_ σ) : (wl_ cy ad σ)[a]? = some (ad a, cel_ cy ad σ a) := by
  unfold wl_
  rw [List.getElem?_map, List.getElem?_range h]
  rfl
theorem wl_at {cy : Nat → ClassId} {ad : Nat → Nat} {σ : St_} {a : Nat} {q : Nat × va_E} (h : (wl_ cy ad σ)[a]? = some q) : a < sn_ σ ∧ q = (ad a, cel_ cy ad σ a) := by
  have hl : a < sn_ σ := by
    have h1 := (List.getElem?_eq_some_iff.mp h).1
    unfold wl_ at h1
    simpa using h1
  rw [wl_get hl] at h
  exact ⟨hl, (Option.some.inj h).symm⟩
/-- one object's cell has changed, nothing else -/
def Up_ (σ σ' : St_) (a : Nat) : Prop := (∀ (cy : Nat → ClassId) (ad : Nat → Nat) (b : Nat), b ≠ a → cel_ cy ad σ' b = cel_ cy ad σ b) ∧ kd_ σ' = kd_ σ ∧ ln_ σ' = ln_ σ ∧ sn_ σ' = sn_ σ ∧ (wf_ σ → wf_ σ')
theorem up_i (σ : St_) (a k : Nat) (v : Int32) : Up_ σ (ui_ σ a k v) a := by
  refine ⟨fun cy ad b hb => ?_, rfl, rfl, rfl, fun h => h⟩
  show ce_ cy ad _ _ (va_up σ.1 a (upd (σ.1 a) k v) b) _ _ = _
  rw [va_up_ne _ _ hb]
  rfl
theorem up_w (σ : St_) (a : Nat) (f : Nat → Int32) : Up_ σ (uw_ σ a f) a := by
  refine ⟨fun cy ad b hb => ?_, rfl, rfl, rfl, fun h => h⟩
  show ce_ cy ad _ _ (va_up σ.1 a f b) _ _ = _
  rw [va_up_ne _ _ hb]
  rfl
theorem up_l (σ : St_) (a k : Nat) (v : Int64) : Up_ σ (ul_ σ a k v) a := by
  refine ⟨fun cy ad b hb => ?_, rfl, rfl, rfl, fun h => h⟩
  show ce_ cy ad _ _ _ (va_up σ.2.1 a (vp_updL (σ.2.1 a) k v) b) _ = _
  rw [va_up_ne _ _ hb]
  rfl
theorem up_r (σ : St_) (a k : Nat) (v : Option Nat) (hv : ∀ b, v = some b → b < sn_ σ) : Up_ σ (ur_ σ a k v) a := by
  refine ⟨fun cy ad b hb => ?_, rfl, rfl, rfl, fun h => ⟨h.1, fun b j q hq => ?_⟩⟩
  · show ce_ cy ad _ _ _ _ (va_up σ.2.2.1 a (va_up (σ.2.2.1 a) k v) b) = _
    rw [va_up_ne _ _ hb]
    rfl
  · change va_up σ.2.2.1 a (va_up (σ.2.2.1 a) k v) b j = some q at hq
    unfold va_up at hq
    by_cases h1 : b = a
    · rw [if_pos h1] at hq
      by_cases h2 : j = k
      · rw [if_pos h2] at hq; exact hv q hq
      · rw [if_neg h2] at hq; exact h.2 a j q hq
    · rw [if_neg h1] at hq; exact h.2 b j q hq
theorem si_ui (σ : St_) (a k : Nat) (v : Int32) : si_ (ui_ σ a k v) a = upd (si_ σ a) k v := by
  show va_up σ.1 a (upd (σ.1 a) k v) a = _
  rw [va_up, if_pos rfl]; rfl
theorem si_uw (σ : St_) (a : Nat) (f : Nat → Int32) : si_ (uw_ σ a f) a = f := by
  show va_up σ.1 a f a = _
  rw [va_up, if_pos rfl]
theorem sl_ul (σ : St_) (a k : Nat) (v : Int64) : sl_ (ul_ σ a k v) a = vp_updL (sl_ σ a) k v := by
  show va_up σ.2.1 a (vp_updL (σ.2.1 a) k v) a = _
  rw [va_up, if_pos rfl]; rfl
theorem sr_ur (σ : St_) (a k : Nat) (v : Option Nat) : sr_ (ur_ σ a k v) a = va_up (sr_ σ a) k v := by
  show va_up σ.2.2.1 a (va_up (σ.2.2.1 a) k v) a = _
  rw [va_up, if_pos rfl]; rfl
theorem wl_set {cy : Nat → ClassId} {ad : Nat → Nat} {σ σ' : St_} {a : Nat} {e : va_E} (hu : Up_ σ σ' a) (he : cel_ cy ad σ' a = e) : (wl_ cy ad σ).set a (ad a, e) = wl_ cy ad σ' := by
  apply List.ext_getElem?
  intro k
  rw [List.getElem?_set]
  have hlen : (wl_ cy ad σ).length = sn_ σ := by unfold wl_; simp
  by_cases hk : k < sn_ σ
  · have hk' : k < sn_ σ' := by rw [hu.2.2.2.1]; exact hk
    rw [wl_get hk', wl_get hk]
    by_cases h : a = k
    · subst h
      rw [if_pos rfl, if_pos (by rw [hlen]; exact hk), he]
    · rw [if_neg h, hu.1 cy ad k (Ne.symm h)]
  · have hn1 : (wl_ cy ad σ)[k]? = none := List.getElem?_eq_none (by rw [hlen]; omega)
    have hn2 : (wl_ cy ad σ')[k]? = none := List.getElem?_eq_none (by unfold wl_; simp [hu.2.2.2.1]; omega)
    rw [hn1, hn2]
    by_cases h : a = k
    · rw [if_pos h, if_neg (by rw [hlen]; omega)]
    · rw [if_neg h]
/-- kinds and lengths stay -/
def Ex_ (σ σ' : St_) : Prop := sn_ σ ≤ sn_ σ' ∧ ∀ a, kd_ σ a < 16 → kd_ σ' a = kd_ σ a ∧ ln_ σ' a = ln_ σ a
theorem Ex_.rf {σ : St_} : Ex_ σ σ := ⟨Nat.le_refl _, fun _ _ => ⟨rfl, rfl⟩⟩
theorem Ex_.trans {a b c : St_} (h1 : Ex_ a b) (h2 : Ex_ b c) : Ex_ a c := ⟨Nat.le_trans h1.1 h2.1, fun x hx => by
  obtain ⟨p1, p2⟩ := h1.2 x hx
  obtain ⟨q1, q2⟩ := h2.2 x (by rw [p1]; exact hx)
  exact ⟨q1.trans p1, q2.trans p2⟩⟩
theorem Ex_.up {σ0 σ σ' : St_} {a : Nat} (h : Ex_ σ0 σ) (hu : Up_ σ σ' a) : Ex_ σ0 σ' := ⟨by rw [hu.2.2.2.1]; exact h.1, fun x hx => by rw [hu.2.1, hu.2.2.1]; exact h.2 x hx⟩
theorem Ex_.k {σ σ' : St_} {a c : Nat} (h : Ex_ σ σ') (hk : kd_ σ a = c) (hc : c < 16) : kd_ σ' a = c := by rw [(h.2 a (by rw [hk]; exact hc)).1]; exact hk
/-! CONSTANTS THAT NOBODY WRITES: the table UNDER, the texts -/
abbrev Ka_ : Type := (Nat → Nat) × (Nat → Nat) × Nat
def un_ (j : Nat) : Int32 := [(-1 : Int32), 0, 0, 1, 2, 0].getD j 0
def sLen_ : List Nat := [44, 4, 6, 6, 3, 5, 5, 5, 6, 5, 2, 3, 3]
def sByt_ : List (List Int32) := [[101, 97, 115, 116, 115, 32, 49, 32, 45, 32, 119, 111, 114, 100, 32, 59, 32, 115, 111, 117, 116, 104, 115, 32, 119, 111, 114, 100, 32, 45, 32, 50, 32, 59, 32, 114, 105, 115, 101, 115, 32, 49, 32, 59], [119, 111, 114, 100], [110, 117, 109, 98, 101, 114], [99, 111, 108, 117, 109, 110], [114, 111, 119], [110, 105, 103, 104, 116], [102, 108, 111, 119, 110], [101, 97, 115, 116, 115], [115, 111, 117, 116, 104, 115], [114, 105, 115, 101, 115], [111, 114], [97, 110, 100], [110, 111, 116]]
def sOwn_ (i : Nat) : String := ["FlownOnceAndLaid", "FlownOnceAndLaid$Reader", "FlownOnceAndLaid$Reader", "FlownOnceAndLaid$Reader", "FlownOnceAndLaid$Reader", "FlownOnceAndLaid$Reader", "FlownOnceAndLaid$Reader", "FlownOnceAndLaid$Reader", "FlownOnceAndLaid$Reader", "FlownOnceAndLaid$Reader", "FlownOnceAndLaid$Reader", "FlownOnceAndLaid$Reader", "FlownOnceAndLaid$Reader"].getD i ""
def sIdx_ (i : Nat) : Nat := [78, 105, 111, 113, 115, 117, 119, 121, 123, 125, 127, 129, 131].getD i 0
def sTx_ (i : Nat) : String := ["easts 1 - word ; souths word - 2 ; rises 1 ;", "word", "number", "column", "row", "night", "flown", "easts", "souths", "rises", "or", "and", "not"].getD i ""
def Cn_ (κ : Ka_) (A : Nat → Prop) (U : State) (H : Heap) : Prop :=
  va_Z RX8 "UNDER" "[I" (.ref κ.2.2) A U H ∧ va_T .int κ.2.2 6 (fun j => .int (un_ j)) A U H ∧ vk_S 13 sLen_ sByt_ κ.1 κ.2.1 A U H ∧
  va_Z "java/lang/String" "COMPACT_STRINGS" "Z" (.int 1) A U H ∧ va_Zq "jdk/internal/util/Preconditions" "SIOOBE_FORMATTER" "Ljava/util/function/BiFunction;" A U H
theorem Cn_.moved {κ : Ka_} {A : Nat → Prop} {u U : State} {H : Heap} (hvm : u.vm.Alike U.vm) (h : Cn_ κ A u H) : Cn_ κ A U H := ⟨h.1.moved hvm, h.2.1.moved hvm, h.2.2.1.moved hvm, h.2.2.2.1.moved hvm, h.2.2.2.2.moved hvm⟩
theorem Cn_.kept {κ : Ka_} {A : Nat → Prop} {U : State} {H H1 : Heap} (h : Cn_ κ A U H) (hq : ∀ a : Nat, a < H.size → ¬ A a → H1[a]? = H[a]?) : Cn_ κ A U H1 := ⟨h.1.kept hq, h.2.1.kept hq, h.2.2.1.kept hq, h.2.2.2.1.kept hq, h.2.2.2.2.kept hq⟩
theorem Cn_.narrow {κ : Ka_} {A B : Nat → Prop} {U : State} {H : Heap} (h : Cn_ κ A U H) (hAB : ∀ q, B q → A q) : Cn_ κ B U H := ⟨h.1.narrow hAB, h.2.1.narrow hAB, h.2.2.1.narrow hAB, h.2.2.2.1.narrow hAB, h.2.2.2.2.narrow hAB⟩
def isN_ : Cond → Bool
  | .fieldLinkNest .. => true
  | .methodLinkNest .. => true
  | _ => false
theorem wN_is : wN_.all isN_ = true := rfl
def Nw_ (κ : Ka_) (U : State) : Prop := (∀ w ∈ wN_, va_Nw w U) ∧ (∀ i, i < 13 → vk_R (sOwn_ i) (sIdx_ i) (sTx_ i) (κ.1 i) U) ∧ va_AO RX0 U ∧ va_AO RX4 U ∧ va_AO RX5 U
theorem Nw_.warm {κ : Ka_} {s U : State} (hW : s.WarmedH U.vm) (h : Nw_ κ s) : Nw_ κ U := by
  refine ⟨fun w hw => ?_, fun i hi => (h.2.1 i hi).warm hW, h.2.2.1.moved hW.alike, h.2.2.2.1.moved hW.alike, h.2.2.2.2.moved hW.alike⟩
  have hi := List.all_eq_true.mp wN_is w hw
  have hs := h.1 w hw
  cases w <;> first | exact va_Nw.warmF hW hs | exact va_Nw.warmM hW hs | (simp [isN_] at hi; done)
theorem Nw_.same {κ : Ka_} {u U : State} (hv : u.vm = U.vm) (h : Nw_ κ u) : Nw_ κ U := by
  have ha : u.vm.Alike U.vm := by rw [hv]; exact Vm.Alike.refl _
  refine ⟨fun w hw => ?_, fun i hi => (h.2.1 i hi).same hv.symm, h.2.2.1.moved ha, h.2.2.2.1.moved ha, h.2.2.2.2.moved ha⟩
  have hi := List.all_eq_true.mp wN_is w hw
  have hs := h.1 w hw
  cases w <;> first | (simp [isN_] at hi; done) | exact va_Nw.same rfl hv hs
theorem gW_ {w1 : Cond} (h : w1 ∈ wU_) : GoodIn wU_ (w1 :: wU_) := fun w hw => (List.mem_cons.mp hw).elim (fun e => by rw [e]; exact ⟨h, good_of_word (List.mem_filter.mp h).2⟩) (fun h2 => ⟨h2, good_of_word (List.mem_filter.mp h2).2⟩)
def Kx_ (κ : Ka_) (G : va_G) (cy : Nat → ClassId) (A : Nat → Prop) (s : State) : Prop := va_K G vwCl (tys_ cy) s ∧ Nw_ κ s ∧ Cn_ κ A s s.heap ∧ ∀ q : Nat, s.heap.size ≤ q → A q
def Ht_ (G : va_G) (cy : Nat → ClassId) (A : Nat → Prop) (s : State) (ad : Nat → Nat) (σ : St_) (H : Heap) (locs : List Loc) : Prop := va_P G vwCl (wl_ cy ad σ) H ∧ va_D A (wl_ cy ad σ) ∧ va_S A s.heap H locs ∧ wf_ σ
/-- a method's start, and what it leaves -/
def Pr_ (κ : Ka_) (G : va_G) (cy : Nat → ClassId) (ad : Nat → Nat) (σ : St_) (sz : Nat) (U : State) : Prop := U.heap.size = sz ∧ va_P G vwCl (wl_ cy ad σ) U.heap ∧ va_K G vwCl (tys_ cy) U ∧ Nw_ κ U ∧ Cn_ κ (va_A (wl_ cy ad σ) sz) U U.heap ∧ va_D (fun _ => True) (wl_ cy ad σ) ∧ wf_ σ
def Po_ (G : va_G) (cy : Nat → ClassId) (ad : Nat → Nat) (σ σ' : St_) (sz : Nat) (t : State) : Prop := va_P G vwCl (wl_ cy ad σ') t.heap ∧ va_D (va_A (wl_ cy ad σ) sz) (wl_ cy ad σ') ∧ wf_ σ' ∧ Ex_ σ σ'
abbrev Qi_ (G : va_G) (cy : Nat → ClassId) (ad : Nat → Nat) (σ σ' : St_) (sz : Nat) (r : Int32) : Array Value → State → Outcome → State → Prop := va_Qi (fun r2 (_ : Unit) => r2 = r) (fun _ t => Po_ G cy ad σ σ' sz t) (va_A (wl_ cy ad σ) sz)
abbrev Ql_ (G : va_G) (cy : Nat → ClassId) (ad : Nat → Nat) (σ σ' : St_) (sz : Nat) (r : Int64) : Array Value → State → Outcome → State → Prop := va_Ql (fun r2 (_ : Unit) => r2 = r) (fun _ t => Po_ G cy ad σ σ' sz t) (va_A (wl_ cy ad σ) sz)
abbrev Qv_ (G : va_G) (cy : Nat → ClassId) (ad : Nat → Nat) (σ σ' : St_) (sz : Nat) : Array Value → State → Outcome → State → Prop := va_Qv (fun (_ : Unit) => True) (fun _ t => Po_ G cy ad σ σ' sz t) (va_A (wl_ cy ad σ) sz)
abbrev Qq_ (G : va_G) (cy : Nat → ClassId) (ad : Nat → Nat) (σ σ' : St_) (sz : Nat) (r : Option Nat) : Array Value → State → Outcome → State → Prop := va_Qq (fun r2 (_ : Unit) => r2 = r.map ad) (fun _ t => Po_ G cy ad σ σ' sz t) (va_A (wl_ cy ad σ) sz)
abbrev rv_ (ad : Nat → Nat) (o : Option Nat) : Value := va_rf (o.map ad)
theorem Pr_.blind {κ : Ka_} {G : va_G} {cy : Nat → ClassId} {ad : Nat → Nat} {σ : St_} {sz : Nat} {av : List Value} : FrameBlind (va_Pc av (Pr_ κ G cy ad σ sz)) := by
  intro a U g mk q
  obtain ⟨q0, q1, q2, q3, q4, q5, q6, q7⟩ := q
  exact ⟨q0, q1, q2, va_K.moved (u := U) (U := U.calling g mk a) (Vm.Alike.refl U.vm) q3, Nw_.same (u := U) (U := U.calling g mk a) rfl q4, Cn_.moved (u := U) (U := U.calling g mk a) (Vm.Alike.refl U.vm) q5, q6, q7⟩
theorem Ht_.lt {G : va_G} {cy : Nat → ClassId} {A : Nat → Prop} {s : State} {ad : Nat → Nat} {σ : St_} {H : Heap} {locs : List Loc} (h : Ht_ G cy A s ad σ H locs) {a c : Nat} (hk : kd_ σ a = c) (hc : c < 16) : a < sn_ σ := by
  rcases Nat.lt_or_ge a (sn_ σ) with q | q
  · exact q
  · have := h.2.2.2.1 a q
    omega
theorem Ht_.at {G : va_G} {cy : Nat → ClassId} {A : Nat → Prop} {s : State} {ad : Nat → Nat} {σ : St_} {H : Heap} {locs : List Loc} (h : Ht_ G cy A s ad σ H locs) {a c : Nat} (hk : kd_ σ a = c) (hc : c < 16) : (wl_ cy ad σ)[a]? = some (ad a, ce_ cy ad c (ln_ σ a) (si_ σ a) (sl_ σ a) (sr_ σ a)) := by
  rw [wl_get (h.lt hk hc)]
  unfold cel_
  rw [hk]
theorem Ht_.set {G : va_G} {cy : Nat → ClassId} {A : Nat → Prop} {s : State} {ad : Nat → Nat} {σ σ' : St_} {H H1 : Heap} {locs locs1 : List Loc} (h : Ht_ G cy A s ad σ H locs) {a : Nat} (hu : Up_ σ σ' a) {e : va_E} (he : cel_ cy ad σ' a = e) (h1 : va_P G vwCl ((wl_ cy ad σ).set a (ad a, e)) H1) (h2 : va_D A ((wl_ cy ad σ).set a (ad a, e))) (h3 : va_S A s.heap H1 locs1) : Ht_ G cy A s ad σ' H1 locs1 := by
  rw [wl_set hu he] at h1 h2
  exact ⟨h1, h2, h3, hu.2.2.2.2 h.2.2.2⟩
theorem Ht_.own {κ : Ka_} {G : va_G} {cy : Nat → ClassId} {A : Nat → Prop} {s : State} {ad : Nat → Nat} {σ : St_} {H : Heap} {locs : List Loc} (h : Ht_ G cy A s ad σ H locs) (K : Kx_ κ G cy A s) : ∀ q, va_A (wl_ cy ad σ) H.size q → A q := by
  intro q hq
  rcases hq with ⟨k, e, hq⟩ | hq
  · exact h.2.1.2 k (q, e) hq
  · exact K.2.2.2 q (Nat.le_trans h.2.2.1.1 hq)
/-- what a callee is given -/
theorem Ht_.pre {κ : Ka_} {G : va_G} {cy : Nat → ClassId} {A : Nat → Prop} {s : State} {ad : Nat → Nat} {σ : St_} {H : Heap} {locs : List Loc} (h : Ht_ G cy A s ad σ H locs) (K : Kx_ κ G cy A s) {av : List Value} : ∀ U : State, U.heap = H → s.WarmedH U.vm → va_Pc av (Pr_ κ G cy ad σ H.size) av.toArray U := by
  intro U hU hW
  subst hU
  refine ⟨rfl, rfl, h.1, va_K.moved hW.alike K.1, K.2.1.warm hW, Cn_.moved hW.alike ((K.2.2.1.kept h.2.2.1.2.1).narrow (h.own K)), h.2.1.weaken (fun _ _ _ _ => trivial), h.2.2.2⟩
def Cl_ (ci : Nat) (C : String) (T : u_T) (N : Nat) (ty0 : Nat → FieldType) (fl : (Nat → Nat) → (Nat → Int32) → (Nat → Int64) → (Nat → Option Nat) → List Value) : Prop :=
  ci < 16 ∧ vwCl[ci]? = some (C, T, N) ∧ (∀ w ∈ u_ws C T N, w ∈ wU_) ∧ (∀ k, k < N → parseFieldDescriptor (T k).2.2.1 = some (ty0 k)) ∧ (∀ a, a < N → ∀ b, b < N → a ≠ b → (T a).2.1 ≠ (T b).2.1) ∧ ∀ (cy : Nat → ClassId) (ad : Nat → Nat) (n : Nat) (i : Nat → Int32) (l : Nat → Int64) (r : Nat → Option Nat), ce_ cy ad ci n i l r = .inr (ci, fl ad i l r)
theorem cl_0 : Cl_ 0 RX0 TX0 4 tyX0 f0_ := ⟨by decide, rfl, iw_RX0, tyX0_ok, nmX0, fun _ _ _ _ _ _ => rfl⟩
theorem cl_1 : Cl_ 1 RX1 TX1 5 tyX1 f1_ := ⟨by decide, rfl, iw_RX1, tyX1_ok, nmX1, fun _ _ _ _ _ _ => rfl⟩
theorem cl_2 : Cl_ 2 RX2 TX2 5 tyX2 f2_ := ⟨by decide, rfl, iw_RX2, tyX2_ok, nmX2, fun _ _ _ _ _ _ => rfl⟩
theorem cl_3 : Cl_ 3 RX3 TX3 11 tyX3 f3_ := ⟨by decide, rfl, iw_RX3, tyX3_ok, nmX3, fun _ _ _ _ _ _ => rfl⟩
theorem cl_4 : Cl_ 4 RX4 TX4 3 tyX4 f4_ := ⟨by decide, rfl, iw_RX4, tyX4_ok, nmX4, fun _ _ _ _ _ _ => rfl⟩
theorem cl_5 : Cl_ 5 RX5 TX5 3 tyX5 f5_ := ⟨by decide, rfl, iw_RX5, tyX5_ok, nmX5, fun _ _ _ _ _ _ => rfl⟩
theorem cl_6 : Cl_ 6 RX6 TX6 5 tyX6 f6_ := ⟨by decide, rfl, iw_RX6, tyX6_ok, nmX6, fun _ _ _ _ _ _ => rfl⟩
theorem cl_7 : Cl_ 7 RX7 TX7 8 tyX7 f7_ := ⟨by decide, rfl, iw_RX7, tyX7_ok, nmX7, fun _ _ _ _ _ _ => rfl⟩
theorem cl_8 : Cl_ 8 RX8 TX8 13 tyX8 f8_ := ⟨by decide, rfl, iw_RX8, tyX8_ok, nmX8, fun _ _ _ _ _ _ => rfl⟩
theorem cl_9 : Cl_ 9 RX9 TX9 42 tyX9 f9_ := ⟨by decide, rfl, iw_RX9, tyX9_ok, nmX9, fun _ _ _ _ _ _ => rfl⟩
theorem if_t {α : Type} {P : Prop} [Decidable P] {A B r : α} (h : (if P then A else B) = r) (c : P) : A = r := by rw [if_pos c] at h; exact h
theorem if_f {α : Type} {P : Prop} [Decidable P] {A B r : α} (h : (if P then A else B) = r) (c : ¬ P) : B = r := by rw [if_neg c] at h; exact h
theorem ob_ {α β : Type} {o : Option α} {f : α → Option β} {r : β} (h : o.bind f = some r) : ∃ x, o = some x ∧ f x = some r := by
  cases o with
  | none => cases h
  | some x => exact ⟨x, rfl, h⟩
section XR
variable {p : Program} {l : Launch} {e : Env} {R : Room} {s : State} {m : MethodId} {args : Array Value} {below : List Frame} {meth : Method} {c : Code} {H : Heap} {locs : List Loc} {cells slots : Nat} {Q : State → Prop}
variable {cc : ByteArray} {pc nL : Nat} {ls : Array Slot} {rest : List Value} {own : String} {κ : Ka_} {G : va_G} {cy : Nat → ClassId} {A : Nat → Prop} {ad : Nat → Nat} {σ : St_}
variable {ci N idx : Nat} {CC : String} {T : u_T} {ty0 : Nat → FieldType} {fl : (Nat → Nat) → (Nat → Int32) → (Nat → Int64) → (Nat → Option Nat) → List Value}
theorem x_get (C : CallFix p m c cc nL s args wU_ own) (K : Kx_ κ G cy A s) (h : Ht_ G cy A s ad σ H locs) (c1 : Cl_ ci CC T N ty0 fl) {a : Nat} (hk : kd_ σ a = ci) (k : Nat) (hN : k < N) (hl : Cond.fieldLink own idx (T k).1 (T k).2.1 (T k).2.2.1 ∈ wU_) {v : Value} (hv : (fl ad (si_ σ a) (sl_ σ a) (sr_ σ a))[k]? = some v) (d : decode cc pc = .ok (.getfield idx, 3))
    (kk : W p l e R s m args below meth c H locs cells slots Q (F0 m (pc + 3) ls (v :: rest))) : W p l e R s m args below meth c H locs cells slots Q (F0 m pc ls (.ref (ad a) :: rest)) :=
  va_get C.1 C.2.1 C.2.2.2.2 c1.2.2.1 C.2.2.2.1 K.1 h.1 a ((h.at hk c1.1).trans (by rw [c1.2.2.2.2.2])) c1.2.1 k hN (C.2.2.2.2 _ hl) (fun _ z => z) hv d kk
theorem x_getN (C : CallFix p m c cc nL s args wU_ own) (K : Kx_ κ G cy A s) (h : Ht_ G cy A s ad σ H locs) (c1 : Cl_ ci CC T N ty0 fl) {a : Nat} (hk : kd_ σ a = ci) (k : Nat) (hN : k < N) {host : String} (hl : Cond.fieldLinkNest own idx (T k).1 (T k).2.1 (T k).2.2.1 host ∈ wN_) {v : Value} (hv : (fl ad (si_ σ a) (sl_ σ a) (sr_ σ a))[k]? = some v) (d : decode cc pc = .ok (.getfield idx, 3))
    (kk : W p l e R s m args below meth c H locs cells slots Q (F0 m (pc + 3) ls (v :: rest))) : W p l e R s m args below meth c H locs cells slots Q (F0 m pc ls (.ref (ad a) :: rest)) :=
  va_getN C.1 C.2.1 C.2.2.2.2 c1.2.2.1 C.2.2.2.1 K.1 h.1 a ((h.at hk c1.1).trans (by rw [c1.2.2.2.2.2])) c1.2.1 k hN (va_Nw.use rfl (K.2.1.1 _ hl)) (fun _ z => z) hv d kk
theorem x_putW (C : CallFix p m c cc nL s args wU_ own) (K : Kx_ κ G cy A s) (h : Ht_ G cy A s ad σ H locs) (c1 : Cl_ ci CC T N ty0 fl) {a : Nat} (hk : kd_ σ a = ci) (k : Nat) (hN : k < N) (hl : Cond.fieldLink own idx (T k).1 (T k).2.1 (T k).2.2.1 ∈ wU_) (hfin : (T k).2.2.2 = false) {v : Value} (hn : narrow (ty0 k) v = v) (hfit : fits (ty0 k) v = true) {σ' : St_} (hlen : k < (fl ad (si_ σ a) (sl_ σ a) (sr_ σ a)).length) (hs : (fl ad (si_ σ a) (sl_ σ a) (sr_ σ a)).set k v = fl ad (si_ σ' a) (sl_ σ' a) (sr_ σ' a)) (hu : Up_ σ σ' a) (d : decode cc pc = .ok (.putfield idx, 3))
    (kk : ∀ (H1 : Heap) (locs1 : List Loc), Ht_ G cy A s ad σ' H1 locs1 → W p l e R s m args below meth c H1 locs1 cells slots Q (F0 m (pc + 3) ls rest)) : W p l e R s m args below meth c H locs cells slots Q (F0 m pc ls (v :: .ref (ad a) :: rest)) :=
  va_put C.1 C.2.1 C.2.2.2.2 c1.2.2.1 ty0 c1.2.2.2.1 c1.2.2.2.2.1 C.2.2.2.1 K.1 h.1 h.2.1 h.2.2.1 a ((h.at hk c1.1).trans (by rw [c1.2.2.2.2.2])) c1.2.1 k hN (C.2.2.2.2 _ hl) (fun _ z => z) hfin (c1.2.2.2.1 k hN) hn hfit hlen d
    (fun H1 locs1 q1 q2 q3 => kk H1 locs1 (h.set hu (by unfold cel_; rw [hu.2.1, hk, c1.2.2.2.2.2, hs]) q1 q2 q3))
theorem x_putNW (C : CallFix p m c cc nL s args wU_ own) (K : Kx_ κ G cy A s) (h : Ht_ G cy A s ad σ H locs) (c1 : Cl_ ci CC T N ty0 fl) {a : Nat} (hk : kd_ σ a = ci) (k : Nat) (hN : k < N) {host : String} (hl : Cond.fieldLinkNest own idx (T k).1 (T k).2.1 (T k).2.2.1 host ∈ wN_) (hfin : (T k).2.2.2 = false) {v : Value} (hn : narrow (ty0 k) v = v) (hfit : fits (ty0 k) v = true) {σ' : St_} (hlen : k < (fl ad (si_ σ a) (sl_ σ a) (sr_ σ a)).length) (hs : (fl ad (si_ σ a) (sl_ σ a) (sr_ σ a)).set k v = fl ad (si_ σ' a) (sl_ σ' a) (sr_ σ' a)) (hu : Up_ σ σ' a) (d : decode cc pc = .ok (.putfield idx, 3))
    (kk : ∀ (H1 : Heap) (locs1 : List Loc), Ht_ G cy A s ad σ' H1 locs1 → W p l e R s m args below meth c H1 locs1 cells slots Q (F0 m (pc + 3) ls rest)) : W p l e R s m args below meth c H locs cells slots Q (F0 m pc ls (v :: .ref (ad a) :: rest)) :=
  va_putN C.1 C.2.1 C.2.2.2.2 c1.2.2.1 ty0 c1.2.2.2.1 c1.2.2.2.2.1 C.2.2.2.1 K.1 h.1 h.2.1 h.2.2.1 a ((h.at hk c1.1).trans (by rw [c1.2.2.2.2.2])) c1.2.1 k hN (va_Nw.use rfl (K.2.1.1 _ hl)) (fun _ z => z) hfin (c1.2.2.2.1 k hN) hn hfit hlen d
    (fun H1 locs1 q1 q2 q3 => kk H1 locs1 (h.set hu (by unfold cel_; rw [hu.2.1, hk, c1.2.2.2.2.2, hs]) q1 q2 q3))
theorem x_putFW (C : CallFix p m c cc nL s args wU_ own) (K : Kx_ κ G cy A s) (hin : meth.name = "<init>") (h : Ht_ G cy A s ad σ H locs) (c1 : Cl_ ci CC T N ty0 fl) {a : Nat} (hk : kd_ σ a = ci) (k : Nat) (hN : k < N) (hl : Cond.fieldLink own idx (T k).1 (T k).2.1 (T k).2.2.1 ∈ wU_) (hfin : (T k).2.2.2 = true) (hdecl : (T k).1 = own) {v : Value} (hn : narrow (ty0 k) v = v) (hfit : fits (ty0 k) v = true) {σ' : St_} (hlen : k < (fl ad (si_ σ a) (sl_ σ a) (sr_ σ a)).length) (hs : (fl ad (si_ σ a) (sl_ σ a) (sr_ σ a)).set k v = fl ad (si_ σ' a) (sl_ σ' a) (sr_ σ' a)) (hu : Up_ σ σ' a) (d : decode cc pc = .ok (.putfield idx, 3))
    (kk : ∀ (H1 : Heap) (locs1 : List Loc), Ht_ G cy A s ad σ' H1 locs1 → W p l e R s m args below meth c H1 locs1 cells slots Q (F0 m (pc + 3) ls rest)) : W p l e R s m args below meth c H locs cells slots Q (F0 m pc ls (v :: .ref (ad a) :: rest)) :=
  va_putF C.1 C.2.1 C.2.2.2.2 c1.2.2.1 ty0 c1.2.2.2.1 c1.2.2.2.2.1 C.2.2.2.1 K.1 h.1 h.2.1 h.2.2.1 a ((h.at hk c1.1).trans (by rw [c1.2.2.2.2.2])) c1.2.1 k hN (C.2.2.2.2 _ hl) (fun _ z => z) hfin hin hdecl (c1.2.2.2.1 k hN) hn hfit hlen d
    (fun H1 locs1 q1 q2 q3 => kk H1 locs1 (h.set hu (by unfold cel_; rw [hu.2.1, hk, c1.2.2.2.2.2, hs]) q1 q2 q3))
/-- how a field's new value shows in the state -/
theorem hs_i {a k : Nat} {v : Int32} (hs : ∀ (i : Nat → Int32) (l : Nat → Int64) (r : Nat → Option Nat), (fl ad i l r).set k (.int v) = fl ad (upd i k v) l r) : (fl ad (si_ σ a) (sl_ σ a) (sr_ σ a)).set k (.int v) = fl ad (si_ (ui_ σ a k v) a) (sl_ (ui_ σ a k v) a) (sr_ (ui_ σ a k v) a) := by rw [si_ui, hs]; rfl
theorem hs_l {a k : Nat} {v : Int64} (hs : ∀ (i : Nat → Int32) (l : Nat → Int64) (r : Nat → Option Nat), (fl ad i l r).set k (.long v) = fl ad i (vp_updL l k v) r) : (fl ad (si_ σ a) (sl_ σ a) (sr_ σ a)).set k (.long v) = fl ad (si_ (ul_ σ a k v) a) (sl_ (ul_ σ a k v) a) (sr_ (ul_ σ a k v) a) := by rw [sl_ul, hs]; rfl
theorem hs_r {a k : Nat} {v : Option Nat} (hs : ∀ (i : Nat → Int32) (l : Nat → Int64) (r : Nat → Option Nat), (fl ad i l r).set k (rv_ ad v) = fl ad i l (va_up r k v)) : (fl ad (si_ σ a) (sl_ σ a) (sr_ σ a)).set k (rv_ ad v) = fl ad (si_ (ur_ σ a k v) a) (sl_ (ur_ σ a k v) a) (sr_ (ur_ σ a k v) a) := by rw [sr_ur, hs]; rfl
theorem x_putI (C : CallFix p m c cc nL s args wU_ own) (K : Kx_ κ G cy A s) (h : Ht_ G cy A s ad σ H locs) (c1 : Cl_ ci CC T N ty0 fl) {a : Nat} (hk : kd_ σ a = ci) (k : Nat) (hN : k < N) (hl : Cond.fieldLink own idx (T k).1 (T k).2.1 (T k).2.2.1 ∈ wU_) (hfin : (T k).2.2.2 = false) {v : Int32} (hn : narrow (ty0 k) (.int v) = .int v) (hfit : fits (ty0 k) (.int v) = true) (hlen : k < (fl ad (si_ σ a) (sl_ σ a) (sr_ σ a)).length) (hs : ∀ (i : Nat → Int32) (l : Nat → Int64) (r : Nat → Option Nat), (fl ad i l r).set k (.int v) = fl ad (upd i k v) l r) (d : decode cc pc = .ok (.putfield idx, 3))
    (kk : ∀ (H1 : Heap) (locs1 : List Loc), Ht_ G cy A s ad (ui_ σ a k v) H1 locs1 → W p l e R s m args below meth c H1 locs1 cells slots Q (F0 m (pc + 3) ls rest)) : W p l e R s m args below meth c H locs cells slots Q (F0 m pc ls (.int v :: .ref (ad a) :: rest)) :=
  x_putW C K h c1 hk k hN hl hfin hn hfit hlen (hs_i hs) (up_i σ a k v) d kk
theorem x_putL (C : CallFix p m c cc nL s args wU_ own) (K : Kx_ κ G cy A s) (h : Ht_ G cy A s ad σ H locs) (c1 : Cl_ ci CC T N ty0 fl) {a : Nat} (hk : kd_ σ a = ci) (k : Nat) (hN : k < N) (hl : Cond.fieldLink own idx (T k).1 (T k).2.1 (T k).2.2.1 ∈ wU_) (hfin : (T k).2.2.2 = false) {v : Int64} (hn : narrow (ty0 k) (.long v) = .long v) (hfit : fits (ty0 k) (.long v) = true) (hlen : k < (fl ad (si_ σ a) (sl_ σ a) (sr_ σ a)).length) (hs : ∀ (i : Nat → Int32) (l : Nat → Int64) (r : Nat → Option Nat), (fl ad i l r).set k (.long v) = fl ad i (vp_updL l k v) r) (d : decode cc pc = .ok (.putfield idx, 3))
    (kk : ∀ (H1 : Heap) (locs1 : List Loc), Ht_ G cy A s ad (ul_ σ a k v) H1 locs1 → W p l e R s m args below meth c H1 locs1 cells slots Q (F0 m (pc + 3) ls rest)) : W p l e R s m args below meth c H locs cells slots Q (F0 m pc ls (.long v :: .ref (ad a) :: rest)) :=
  x_putW C K h c1 hk k hN hl hfin hn hfit hlen (hs_l hs) (up_l σ a k v) d kk
theorem x_putR (C : CallFix p m c cc nL s args wU_ own) (K : Kx_ κ G cy A s) (h : Ht_ G cy A s ad σ H locs) (c1 : Cl_ ci CC T N ty0 fl) {a : Nat} (hk : kd_ σ a = ci) (k : Nat) (hN : k < N) (hl : Cond.fieldLink own idx (T k).1 (T k).2.1 (T k).2.2.1 ∈ wU_) (hfin : (T k).2.2.2 = false) {v : Option Nat} (hv : ∀ b, v = some b → b < sn_ σ) (hn : narrow (ty0 k) (rv_ ad v) = rv_ ad v) (hfit : fits (ty0 k) (rv_ ad v) = true) (hlen : k < (fl ad (si_ σ a) (sl_ σ a) (sr_ σ a)).length) (hs : ∀ (i : Nat → Int32) (l : Nat → Int64) (r : Nat → Option Nat), (fl ad i l r).set k (rv_ ad v) = fl ad i l (va_up r k v)) (d : decode cc pc = .ok (.putfield idx, 3))
    (kk : ∀ (H1 : Heap) (locs1 : List Loc), Ht_ G cy A s ad (ur_ σ a k v) H1 locs1 → W p l e R s m args below meth c H1 locs1 cells slots Q (F0 m (pc + 3) ls rest)) : W p l e R s m args below meth c H locs cells slots Q (F0 m pc ls (rv_ ad v :: .ref (ad a) :: rest)) :=
  x_putW C K h c1 hk k hN hl hfin hn hfit hlen (hs_r hs) (up_r σ a k v hv) d kk
theorem x_iald (C : CallFix p m c cc nL s args wU_ own) (K : Kx_ κ G cy A s) (h : Ht_ G cy A s ad σ H locs) {a j : Nat} (hk : kd_ σ a = 10) {i : Int32} (hj : ix_ i (ln_ σ a) = some j) (d : decode cc pc = .ok (.iaload, 1))
    (kk : W p l e R s m args below meth c H locs cells slots Q (F0 m (pc + 1) ls (.int (si_ σ a j) :: rest))) : W p l e R s m args below meth c H locs cells slots Q (F0 m pc ls (.int i :: .ref (ad a) :: rest)) := by
  obtain ⟨h1, rfl⟩ := ix_in hj
  exact va_iald C.1 C.2.1 K.1 h.1 a 0 (h.at hk (by decide)) rfl h1 d kk
theorem x_zald (C : CallFix p m c cc nL s args wU_ own) (K : Kx_ κ G cy A s) (h : Ht_ G cy A s ad σ H locs) {a j : Nat} (hk : kd_ σ a = 12) {i : Int32} (hj : ix_ i (ln_ σ a) = some j) (d : decode cc pc = .ok (.baload, 1))
    (kk : W p l e R s m args below meth c H locs cells slots Q (F0 m (pc + 1) ls (.int (si_ σ a j) :: rest))) : W p l e R s m args below meth c H locs cells slots Q (F0 m pc ls (.int i :: .ref (ad a) :: rest)) := by
  obtain ⟨h1, rfl⟩ := ix_in hj
  exact va_zald C.1 C.2.1 K.1 h.1 a 2 (h.at hk (by decide)) rfl h1 d kk
theorem x_lald (C : CallFix p m c cc nL s args wU_ own) (K : Kx_ κ G cy A s) (h : Ht_ G cy A s ad σ H locs) {a j : Nat} (hk : kd_ σ a = 11) {i : Int32} (hj : ix_ i (ln_ σ a) = some j) (d : decode cc pc = .ok (.laload, 1))
    (kk : W p l e R s m args below meth c H locs cells slots Q (F0 m (pc + 1) ls (.long (sl_ σ a j) :: rest))) : W p l e R s m args below meth c H locs cells slots Q (F0 m pc ls (.int i :: .ref (ad a) :: rest)) := by
  obtain ⟨h1, rfl⟩ := ix_in hj
  exact va_lald C.1 C.2.1 K.1 h.1 a 1 (h.at hk (by decide)) rfl h1 d kk
theorem x_aald (C : CallFix p m c cc nL s args wU_ own) (K : Kx_ κ G cy A s) (h : Ht_ G cy A s ad σ H locs) (t : Nat) {E : String} {q : Nat} (hq : q < 16) (ht : (tys_ cy)[t]? = some (cy t, .object E)) (hce : ∀ (n : Nat) (i : Nat → Int32) (l : Nat → Int64) (r : Nat → Option Nat), ce_ cy ad q n i l r = .inl (cy t, n, .inr (.inr (.inr (.inr fun j => (r j).map ad))))) {a j : Nat} (hk : kd_ σ a = q) {i : Int32} (hj : ix_ i (ln_ σ a) = some j) (d : decode cc pc = .ok (.aaload, 1))
    (kk : W p l e R s m args below meth c H locs cells slots Q (F0 m (pc + 1) ls (rv_ ad (sr_ σ a j) :: rest))) : W p l e R s m args below meth c H locs cells slots Q (F0 m pc ls (.int i :: .ref (ad a) :: rest)) := by
  obtain ⟨h1, rfl⟩ := ix_in hj
  exact va_aldq (f := fun j => (sr_ σ a j).map ad) C.1 C.2.1 K.1 h.1 a t ((h.at hk hq).trans (by rw [hce])) ht h1 d kk
theorem x_iast (C : CallFix p m c cc nL s args wU_ own) (K : Kx_ κ G cy A s) (h : Ht_ G cy A s ad σ H locs) {a j : Nat} (hk : kd_ σ a = 10) {i v : Int32} (hj : ix_ i (ln_ σ a) = some j) (d : decode cc pc = .ok (.iastore, 1))
    (kk : ∀ (H1 : Heap) (locs1 : List Loc), Ht_ G cy A s ad (ui_ σ a j v) H1 locs1 → W p l e R s m args below meth c H1 locs1 cells slots Q (F0 m (pc + 1) ls rest)) : W p l e R s m args below meth c H locs cells slots Q (F0 m pc ls (.int v :: .int i :: .ref (ad a) :: rest)) := by
  obtain ⟨h1, rfl⟩ := ix_in hj
  refine va_iast C.1 C.2.1 K.1 h.1 h.2.1 h.2.2.1 a 0 (h.at hk (by decide)) rfl h1 d (fun H1 locs1 q1 q2 q3 => kk H1 locs1 (h.set (up_i σ a _ v) ?_ q1 q2 q3))
  unfold cel_
  rw [si_ui, (up_i σ a _ v).2.1, (up_i σ a _ v).2.2.1, hk]
  rfl
theorem x_zast (C : CallFix p m c cc nL s args wU_ own) (K : Kx_ κ G cy A s) (h : Ht_ G cy A s ad σ H locs) {a j : Nat} (hk : kd_ σ a = 12) {i v : Int32} (hv : vp_nar .boolean v = v) (hj : ix_ i (ln_ σ a) = some j) (d : decode cc pc = .ok (.bastore, 1))
    (kk : ∀ (H1 : Heap) (locs1 : List Loc), Ht_ G cy A s ad (ui_ σ a j v) H1 locs1 → W p l e R s m args below meth c H1 locs1 cells slots Q (F0 m (pc + 1) ls rest)) : W p l e R s m args below meth c H locs cells slots Q (F0 m pc ls (.int v :: .int i :: .ref (ad a) :: rest)) := by
  obtain ⟨h1, rfl⟩ := ix_in hj
  refine va_zast C.1 C.2.1 K.1 h.1 h.2.1 h.2.2.1 a 2 (h.at hk (by decide)) rfl h1 d (fun H1 locs1 q1 q2 q3 => kk H1 locs1 (h.set (up_i σ a _ v) ?_ q1 q2 q3))
  unfold cel_
  rw [si_ui, (up_i σ a _ v).2.1, (up_i σ a _ v).2.2.1, hk, hv]
  rfl
theorem x_last (C : CallFix p m c cc nL s args wU_ own) (K : Kx_ κ G cy A s) (h : Ht_ G cy A s ad σ H locs) {a j : Nat} (hk : kd_ σ a = 11) {i : Int32} {v : Int64} (hj : ix_ i (ln_ σ a) = some j) (d : decode cc pc = .ok (.lastore, 1))
    (kk : ∀ (H1 : Heap) (locs1 : List Loc), Ht_ G cy A s ad (ul_ σ a j v) H1 locs1 → W p l e R s m args below meth c H1 locs1 cells slots Q (F0 m (pc + 1) ls rest)) : W p l e R s m args below meth c H locs cells slots Q (F0 m pc ls (.long v :: .int i :: .ref (ad a) :: rest)) := by
  obtain ⟨h1, rfl⟩ := ix_in hj
  refine va_last C.1 C.2.1 K.1 h.1 h.2.1 h.2.2.1 a 1 (h.at hk (by decide)) rfl h1 d (fun H1 locs1 q1 q2 q3 => kk H1 locs1 (h.set (up_l σ a _ v) ?_ q1 q2 q3))
  unfold cel_
  rw [sl_ul, (up_l σ a _ v).2.1, (up_l σ a _ v).2.2.1, hk]
  rfl
theorem x_alen (C : CallFix p m c cc nL s args wU_ own) (K : Kx_ κ G cy A s) (h : Ht_ G cy A s ad σ H locs) (t : Nat) {q : Nat} (hq : q < 16) {ty : FieldType} (ht : (tys_ cy)[t]? = some (cy t, ty)) {x : Nat → (Nat → Int32) → (Nat → Int64) → (Nat → Option Nat) → vp_A} (hx : ∀ n i l r, (x n i l r).1 = n) (hce : ∀ (n : Nat) (i : Nat → Int32) (l : Nat → Int64) (r : Nat → Option Nat), ce_ cy ad q n i l r = .inl (cy t, x n i l r)) {a : Nat} (hk : kd_ σ a = q) (d : decode cc pc = .ok (.arraylength, 1))
    (kk : W p l e R s m args below meth c H locs cells slots Q (F0 m (pc + 1) ls (.int (nI (ln_ σ a)) :: rest))) : W p l e R s m args below meth c H locs cells slots Q (F0 m pc ls (.ref (ad a) :: rest)) :=
  va_alen C.1 C.2.1 K.1 h.1 a t ((h.at hk hq).trans (by rw [hce])) ht (by rw [hx]; rfl) d kk
theorem x_ilen (C : CallFix p m c cc nL s args wU_ own) (K : Kx_ κ G cy A s) (h : Ht_ G cy A s ad σ H locs) {a : Nat} (hk : kd_ σ a = 10) (d : decode cc pc = .ok (.arraylength, 1))
    (kk : W p l e R s m args below meth c H locs cells slots Q (F0 m (pc + 1) ls (.int (nI (ln_ σ a)) :: rest))) : W p l e R s m args below meth c H locs cells slots Q (F0 m pc ls (.ref (ad a) :: rest)) :=
  x_alen C K h 0 (by decide) (ty := .int) rfl (x := fun n i _ _ => (n, .inl i)) (fun _ _ _ _ => rfl) (fun _ _ _ _ => rfl) hk d kk
theorem x_llen (C : CallFix p m c cc nL s args wU_ own) (K : Kx_ κ G cy A s) (h : Ht_ G cy A s ad σ H locs) {a : Nat} (hk : kd_ σ a = 11) (d : decode cc pc = .ok (.arraylength, 1))
    (kk : W p l e R s m args below meth c H locs cells slots Q (F0 m (pc + 1) ls (.int (nI (ln_ σ a)) :: rest))) : W p l e R s m args below meth c H locs cells slots Q (F0 m pc ls (.ref (ad a) :: rest)) :=
  x_alen C K h 1 (by decide) (ty := .long) rfl (x := fun n _ l _ => (n, .inr (.inl l))) (fun _ _ _ _ => rfl) (fun _ _ _ _ => rfl) hk d kk
theorem x_rlen (C : CallFix p m c cc nL s args wU_ own) (K : Kx_ κ G cy A s) (h : Ht_ G cy A s ad σ H locs) (t : Nat) {E : String} {q : Nat} (hq : q < 16) (ht : (tys_ cy)[t]? = some (cy t, .object E)) (hce : ∀ (n : Nat) (i : Nat → Int32) (l : Nat → Int64) (r : Nat → Option Nat), ce_ cy ad q n i l r = .inl (cy t, n, .inr (.inr (.inr (.inr fun j => (r j).map ad))))) {a : Nat} (hk : kd_ σ a = q) (d : decode cc pc = .ok (.arraylength, 1))
    (kk : W p l e R s m args below meth c H locs cells slots Q (F0 m (pc + 1) ls (.int (nI (ln_ σ a)) :: rest))) : W p l e R s m args below meth c H locs cells slots Q (F0 m pc ls (.ref (ad a) :: rest)) :=
  x_alen C K h t hq ht (x := fun n _ _ r => (n, .inr (.inr (.inr (.inr fun j => (r j).map ad))))) (fun _ _ _ _ => rfl) hce hk d kk
/-- returns -/
theorem x_po {sz : Nat} {σ0 : St_} (h : Ht_ G cy (va_A (wl_ cy ad σ0) sz) s ad σ H locs) (hE : Ex_ σ0 σ) {t : State} (ht : t.heap = H) : Po_ G cy ad σ0 σ sz t := ⟨by rw [ht]; exact h.1, h.2.1, h.2.2.2, hE⟩
theorem x_ri {sz : Nat} {σ0 σ' : St_} {v r : Int32} (C : CallFix p m c cc nL s args wU_ own) (hr : meth.sig.returnType = some .int) (hlk : meth.locks = false) (h : Ht_ G cy (va_A (wl_ cy ad σ0) sz) s ad σ H locs) (hE : Ex_ σ0 σ) (hv : v = r) (hσ : σ = σ') (d : decode cc pc = .ok (.ireturn, 1)) : W p l e R s m args below meth c H locs cells slots (MQ below (Qi_ G cy ad σ0 σ' sz r) args s cells slots (va_A (wl_ cy ad σ0) sz)) (F0 m pc ls [.int v]) := by
  subst hσ; subst hv
  exact W.iret C.1 C.2.1 hr (fun t ht hW => ⟨⟨v, (), rfl, rfl, x_po h hE ht⟩, h.2.2.1.F ht⟩) h.2.2.1.2.2 d hlk
theorem x_rz {sz : Nat} {σ0 σ' : St_} {v r : Int32} {ty : FieldType} (C : CallFix p m c cc nL s args wU_ own) (hr : meth.sig.returnType = some ty) (hlk : meth.locks = false) (h : Ht_ G cy (va_A (wl_ cy ad σ0) sz) s ad σ H locs) (hE : Ex_ σ0 σ) (hn : narrow ty (.int v) = .int v) (hv : v = r) (hσ : σ = σ') (d : decode cc pc = .ok (.ireturn, 1)) : W p l e R s m args below meth c H locs cells slots (MQ below (Qi_ G cy ad σ0 σ' sz r) args s cells slots (va_A (wl_ cy ad σ0) sz)) (F0 m pc ls [.int v]) := by
  subst hσ; subst hv
  exact W.zret C.1 C.2.1 hr hn (fun t ht hW => ⟨⟨v, (), rfl, rfl, x_po h hE ht⟩, h.2.2.1.F ht⟩) h.2.2.1.2.2 d hlk
theorem x_rl {sz : Nat} {σ0 σ' : St_} {v r : Int64} (C : CallFix p m c cc nL s args wU_ own) (hr : meth.sig.returnType = some .long) (hlk : meth.locks = false) (h : Ht_ G cy (va_A (wl_ cy ad σ0) sz) s ad σ H locs) (hE : Ex_ σ0 σ) (hv : v = r) (hσ : σ = σ') (d : decode cc pc = .ok (.lreturn, 1)) : W p l e R s m args below meth c H locs cells slots (MQ below (Ql_ G cy ad σ0 σ' sz r) args s cells slots (va_A (wl_ cy ad σ0) sz)) (F0 m pc ls [.long v]) := by
  subst hσ; subst hv
  exact W.lret C.1 C.2.1 hr (fun t ht hW => ⟨⟨v, (), rfl, rfl, x_po h hE ht⟩, h.2.2.1.F ht⟩) h.2.2.1.2.2 d hlk
theorem x_rv {sz : Nat} {σ0 σ' : St_} (C : CallFix p m c cc nL s args wU_ own) (hr : meth.sig.returnType = none) (hlk : meth.locks = false) (h : Ht_ G cy (va_A (wl_ cy ad σ0) sz) s ad σ H locs) (hE : Ex_ σ0 σ) (hσ : σ = σ') (d : decode cc pc = .ok (.return_, 1)) : W p l e R s m args below meth c H locs cells slots (MQ below (Qv_ G cy ad σ0 σ' sz) args s cells slots (va_A (wl_ cy ad σ0) sz)) (F0 m pc ls []) := by
  subst hσ
  exact W.vret C.1 C.2.1 hr (fun t ht hW => ⟨⟨(), rfl, trivial, x_po h hE ht⟩, h.2.2.1.F ht⟩) h.2.2.1.2.2 d hlk
theorem x_rq {sz : Nat} {σ0 σ' : St_} {v r : Option Nat} {E : String} (C : CallFix p m c cc nL s args wU_ own) (hr : meth.sig.returnType = some (.object E)) (hlk : meth.locks = false) (h : Ht_ G cy (va_A (wl_ cy ad σ0) sz) s ad σ H locs) (hE : Ex_ σ0 σ) (hv : v = r) (hσ : σ = σ') (d : decode cc pc = .ok (.areturn, 1)) : W p l e R s m args below meth c H locs cells slots (MQ below (Qq_ G cy ad σ0 σ' sz r) args s cells slots (va_A (wl_ cy ad σ0) sz)) (F0 m pc ls [rv_ ad v]) := by
  subst hσ; subst hv
  refine W.aret C.1 C.2.1 hr (Or.inl ⟨_, rfl⟩) ?_ (fun t ht hW => ⟨⟨v.map ad, (), rfl, rfl, x_po h hE ht⟩, h.2.2.1.F ht⟩) h.2.2.1.2.2 d hlk
  cases v with
  | none => exact Or.inl rfl
  | some b => exact Or.inr ⟨_, rfl⟩
/-- a method out of its body -/
theorem x_met {y : MethodName} {bytes : ByteArray} {maxL : Nat} {ret : Option FieldType} {rm : Room} {av : List Value} {sz mc ms : Nat} {Qc : Array Value → State → Outcome → State → Prop} {free : Addr → Prop} (hy : plainName y.cls = true)
    (body : ∀ (p : Program) (e : Env) (R : Room) (s : State) (m : MethodId) (below : List Frame) (meth : Method) (c : Code) (ls : Array Slot), rm.frames ≤ R.frames ∧ rm.locals ≤ R.locals ∧ rm.cells ≤ R.cells ∧ rm.slots ≤ R.slots → CallFix p m c bytes maxL s av.toArray wU_ y.cls → meth.sig.returnType = ret → meth.locks = false → meth.name = y.name → s.heap.size = sz → Kx_ κ G cy (va_A (wl_ cy ad σ) sz) s → Ht_ G cy (va_A (wl_ cy ad σ) sz) s ad σ s.heap [] → lv_has ls maxL (lv_args 0 av) → W p l e R s m av.toArray below meth c s.heap [] 0 0 (MQ below Qc av.toArray s mc ms free) (F0 m 0 ls []))
    (hlen : (lg_sl av).length ≤ maxL) : Met l y (Cond.code y bytes maxL ret :: wU_) rm (va_Pc av (Pr_ κ G cy ad σ sz)) Qc mc ms free := by
  refine Met.ofW (cc := bytes) (maxL := maxL) (ret := ret) hy rfl ?_
  intro p e s m args below meth c s₁ B hml hv
  obtain ⟨rfl, h0, h1, h2, h3, h4, h5, h6⟩ := hv
  have hts := atoms_spec (ws := Cond.code y bytes maxL ret :: wU_) B.pre
  rw [lg_entry_eq]
  exact body p e _ s m below meth c _ ⟨Nat.le_refl _, Nat.le_refl _, Nat.le_refl _, Nat.le_refl _⟩ ⟨B.exec, B.bytes, hml, findClass_of_methodNamed B.named, fun w hw => hts w (List.mem_cons_of_mem _ hw)⟩ B.returns B.notSynchronized (name_of_methodNamed B.named B.method).1 h0 ⟨h2, h3, h4, fun q hq => Or.inr (by rw [← h0]; exact hq)⟩ ⟨h1, h5.self, va_S.rf, h6⟩ (lv_entry av hlen)
end XR
/-! CALLS: the whole world goes along -/
def Mi_ (y : MethodName) (bytes : ByteArray) (maxL : Nat) (ret : Option FieldType) (n : Nat) : Prop := Cond.code y bytes maxL ret ∈ wU_ ∧ Cond.initialized y.cls ∈ wU_ ∧ y.cls ≠ "java/lang/invoke/MethodHandle" ∧ y.cls ≠ "java/lang/invoke/VarHandle" ∧ (parseMethodDescriptor y.desc).map (fun d => d.parameters.length) = some n
section XC
variable {p : Program} {l : Launch} {e : Env} {R : Room} {s : State} {m : MethodId} {args : Array Value} {below : List Frame} {meth : Method} {c : Code} {H : Heap} {locs : List Loc} {cells slots : Nat} {Q : State → Prop}
variable {cc : ByteArray} {pc nL : Nat} {ls : Array Slot} {st rest : List Value} {own : String} {κ : Ka_} {G : va_G} {cy : Nat → ClassId} {A : Nat → Prop} {ad : Nat → Nat} {σ σ' : St_}
variable {ci N idx : Nat} {CC : String} {T : u_T} {ty0 : Nat → FieldType} {fl : (Nat → Nat) → (Nat → Int32) → (Nat → Int64) → (Nat → Option Nat) → List Value}
variable {y : MethodName} {bytes : ByteArray} {maxL mc ms a n : Nat} {ret : Option FieldType} {rm : Room} {Qc : Array Value → State → Outcome → State → Prop} {free : Addr → Prop}
theorem x_V (C : CallFix p m c cc nL s args wU_ own) (K : Kx_ κ G cy A s) (h : Ht_ G cy A s ad σ H locs) (As : List Value) (hM : Met l y (Cond.code y bytes maxL ret :: wU_) rm (va_Pc (.ref (ad a) :: As) (Pr_ κ G cy ad σ H.size)) Qc mc ms free) (hi : Mi_ y bytes maxL ret n) (hn : As.length = n) (him : Cond.instanceMethod y ∈ wU_) (hse : Cond.selects CC y y ∈ wU_) (hl : Cond.methodLink own idx y ∈ wU_) (c1 : Cl_ ci CC T N ty0 fl) (hk : kd_ σ a = ci) (hrm : rm.cells = mc ∧ rm.slots = ms ∧ rm.frames + 1 ≤ R.frames ∧ 8 + (maxL + 11) + rm.locals ≤ R.locals) {lv : List (Nat × Value)} (hls : lv_has ls nL lv) (hcat : (rest.map fun v => v.category).sum ≤ 8) (d : decode cc pc = .ok (.invokevirtual idx, 3)) (hf : cells + mc ≤ R.cells ∧ slots + ms ≤ R.slots) (hst : st = As.reverse ++ .ref (ad a) :: rest) :
    va_Run p l e R s m args below meth c H locs cells slots mc ms (F0 m pc ls st) rest (Qc (Value.ref (ad a) :: As).toArray) free :=
  va_runV C hM ⟨callB_of n C.2.2.2.2 (gW_ hi.1) rfl hrm.1 hrm.2.1 (C.2.2.2.2 _ hi.2.1) (C.2.2.2.2 _ hl) ⟨hi.2.2.1, hi.2.2.2.1, hi.2.2.2.2⟩ hrm.2.2, C.2.2.2.2 _ him, C.2.2.2.2 _ hse⟩ ⟨Pr_.blind, va_recv K.1 h.1 c1.2.1 ((h.at hk c1.1).trans (by rw [c1.2.2.2.2.2])), h.pre K⟩ rfl hn hls.1 hst (lv_room hcat) d hf
theorem x_VN (C : CallFix p m c cc nL s args wU_ own) (K : Kx_ κ G cy A s) (h : Ht_ G cy A s ad σ H locs) (As : List Value) (hM : Met l y (Cond.code y bytes maxL ret :: wU_) rm (va_Pc (.ref (ad a) :: As) (Pr_ κ G cy ad σ H.size)) Qc mc ms free) (hi : Mi_ y bytes maxL ret n) (hn : As.length = n) (him : Cond.instanceMethod y ∈ wU_) (hse : Cond.selects CC y y ∈ wU_) {host : String} (hl : Cond.methodLinkNest own idx y host ∈ wN_) (c1 : Cl_ ci CC T N ty0 fl) (hk : kd_ σ a = ci) (hrm : rm.cells = mc ∧ rm.slots = ms ∧ rm.frames + 1 ≤ R.frames ∧ 8 + (maxL + 11) + rm.locals ≤ R.locals) {lv : List (Nat × Value)} (hls : lv_has ls nL lv) (hcat : (rest.map fun v => v.category).sum ≤ 8) (d : decode cc pc = .ok (.invokevirtual idx, 3)) (hf : cells + mc ≤ R.cells ∧ slots + ms ≤ R.slots) (hst : st = As.reverse ++ .ref (ad a) :: rest) :
    va_Run p l e R s m args below meth c H locs cells slots mc ms (F0 m pc ls st) rest (Qc (Value.ref (ad a) :: As).toArray) free :=
  va_runVN C hM ⟨va_cnB n C.2.2.2.2 (gW_ hi.1) rfl hrm.1 hrm.2.1 (K.2.1.1 _ hl) (C.2.2.2.2 _ hi.2.1) ⟨hi.2.2.1, hi.2.2.2.1, hi.2.2.2.2⟩ hrm.2.2, C.2.2.2.2 _ him, C.2.2.2.2 _ hse⟩ ⟨Pr_.blind, va_recv K.1 h.1 c1.2.1 ((h.at hk c1.1).trans (by rw [c1.2.2.2.2.2])), h.pre K⟩ rfl hn hls.1 hst (lv_room hcat) d hf
theorem x_S (C : CallFix p m c cc nL s args wU_ own) (K : Kx_ κ G cy A s) (h : Ht_ G cy A s ad σ H locs) (As : List Value) (hM : Met l y (Cond.code y bytes maxL ret :: wU_) rm (va_Pc As (Pr_ κ G cy ad σ H.size)) Qc mc ms free) (hi : Mi_ y bytes maxL ret n) (hn : As.length = n) (hsc : Cond.static y ∈ wU_) (hl : Cond.methodLink own idx y ∈ wU_) (hrm : rm.cells = mc ∧ rm.slots = ms ∧ rm.frames + 1 ≤ R.frames ∧ 8 + (maxL + 11) + rm.locals ≤ R.locals) {lv : List (Nat × Value)} (hls : lv_has ls nL lv) (hcat : (rest.map fun v => v.category).sum ≤ 8) (d : decode cc pc = .ok (.invokestatic idx, 3)) (hf : cells + mc ≤ R.cells ∧ slots + ms ≤ R.slots) (hst : st = As.reverse ++ rest) :
    va_Run p l e R s m args below meth c H locs cells slots mc ms (F0 m pc ls st) rest (Qc As.toArray) free :=
  va_runS C hM ⟨callB_of n C.2.2.2.2 (gW_ hi.1) rfl hrm.1 hrm.2.1 (C.2.2.2.2 _ hi.2.1) (C.2.2.2.2 _ hl) ⟨hi.2.2.1, hi.2.2.2.1, hi.2.2.2.2⟩ hrm.2.2, C.2.2.2.2 _ hsc⟩ ⟨Pr_.blind, h.pre K⟩ rfl hn hls.1 hst (lv_room hcat) d hf
theorem x_SN (C : CallFix p m c cc nL s args wU_ own) (K : Kx_ κ G cy A s) (h : Ht_ G cy A s ad σ H locs) (As : List Value) (hM : Met l y (Cond.code y bytes maxL ret :: wU_) rm (va_Pc As (Pr_ κ G cy ad σ H.size)) Qc mc ms free) (hi : Mi_ y bytes maxL ret n) (hn : As.length = n) (hsc : Cond.static y ∈ wU_) {host : String} (hl : Cond.methodLinkNest own idx y host ∈ wN_) (hrm : rm.cells = mc ∧ rm.slots = ms ∧ rm.frames + 1 ≤ R.frames ∧ 8 + (maxL + 11) + rm.locals ≤ R.locals) {lv : List (Nat × Value)} (hls : lv_has ls nL lv) (hcat : (rest.map fun v => v.category).sum ≤ 8) (d : decode cc pc = .ok (.invokestatic idx, 3)) (hf : cells + mc ≤ R.cells ∧ slots + ms ≤ R.slots) (hst : st = As.reverse ++ rest) :
    va_Run p l e R s m args below meth c H locs cells slots mc ms (F0 m pc ls st) rest (Qc As.toArray) free :=
  va_runSN C hM ⟨va_cnB n C.2.2.2.2 (gW_ hi.1) rfl hrm.1 hrm.2.1 (K.2.1.1 _ hl) (C.2.2.2.2 _ hi.2.1) ⟨hi.2.2.1, hi.2.2.2.1, hi.2.2.2.2⟩ hrm.2.2, C.2.2.2.2 _ hsc, trivial⟩ ⟨Pr_.blind, h.pre K⟩ rfl hn hls.1 hst (lv_room hcat) d hf
theorem x_I (C : CallFix p m c cc nL s args wU_ own) (K : Kx_ κ G cy A s) (h : Ht_ G cy A s ad σ H locs) (As : List Value) (hM : Met l y (Cond.code y bytes maxL none :: wU_) rm (va_Pc (.ref (ad a) :: As) (Pr_ κ G cy ad σ H.size)) Qc mc ms free) (hi : Mi_ y bytes maxL none n) (hn : As.length = n) (hy : y.name = "<init>") (him : Cond.instanceMethod y ∈ wU_) (hl : Cond.methodLink own idx y ∈ wU_) (hrm : rm.cells = mc ∧ rm.slots = ms ∧ rm.frames + 1 ≤ R.frames ∧ 8 + (maxL + 11) + rm.locals ≤ R.locals) {lv : List (Nat × Value)} (hls : lv_has ls nL lv) (hcat : (rest.map fun v => v.category).sum ≤ 8) (d : decode cc pc = .ok (.invokespecial idx, 3)) (hf : cells + mc ≤ R.cells ∧ slots + ms ≤ R.slots) (hst : st = As.reverse ++ .ref (ad a) :: rest) :
    va_Run p l e R s m args below meth c H locs cells slots mc ms (F0 m pc ls st) rest (Qc (Value.ref (ad a) :: As).toArray) free :=
  va_runI C hM ⟨callB_of n C.2.2.2.2 (gW_ hi.1) rfl hrm.1 hrm.2.1 (C.2.2.2.2 _ hi.2.1) (C.2.2.2.2 _ hl) ⟨hi.2.2.1, hi.2.2.2.1, hi.2.2.2.2⟩ hrm.2.2, hy, C.2.2.2.2 _ him⟩ ⟨Pr_.blind, h.pre K⟩ rfl hn hls.1 hst (lv_room hcat) d hf
theorem x_IN (C : CallFix p m c cc nL s args wU_ own) (K : Kx_ κ G cy A s) (h : Ht_ G cy A s ad σ H locs) (As : List Value) (hM : Met l y (Cond.code y bytes maxL none :: wU_) rm (va_Pc (.ref (ad a) :: As) (Pr_ κ G cy ad σ H.size)) Qc mc ms free) (hi : Mi_ y bytes maxL none n) (hn : As.length = n) (hy : y.name = "<init>") (him : Cond.instanceMethod y ∈ wU_) {host : String} (hl : Cond.methodLinkNest own idx y host ∈ wN_) (hrm : rm.cells = mc ∧ rm.slots = ms ∧ rm.frames + 1 ≤ R.frames ∧ 8 + (maxL + 11) + rm.locals ≤ R.locals) {lv : List (Nat × Value)} (hls : lv_has ls nL lv) (hcat : (rest.map fun v => v.category).sum ≤ 8) (d : decode cc pc = .ok (.invokespecial idx, 3)) (hf : cells + mc ≤ R.cells ∧ slots + ms ≤ R.slots) (hst : st = As.reverse ++ .ref (ad a) :: rest) :
    va_Run p l e R s m args below meth c H locs cells slots mc ms (F0 m pc ls st) rest (Qc (Value.ref (ad a) :: As).toArray) free :=
  va_runIN C hM ⟨va_cnB n C.2.2.2.2 (gW_ hi.1) rfl hrm.1 hrm.2.1 (K.2.1.1 _ hl) (C.2.2.2.2 _ hi.2.1) ⟨hi.2.2.1, hi.2.2.2.1, hi.2.2.2.2⟩ hrm.2.2, hy, C.2.2.2.2 _ him⟩ ⟨Pr_.blind, h.pre K⟩ rfl hn hls.1 hst (lv_room hcat) d hf
theorem x_bk {H1 : Heap} {locs1 : List Loc} (h : Ht_ G cy A s ad σ H locs) (K : Kx_ κ G cy A s) {t : State} (ht : t.heap = H1) (hB : Po_ G cy ad σ σ' H.size t) (hS : va_S A s.heap H1 locs1) : Ht_ G cy A s ad σ' H1 locs1 ∧ Ex_ σ σ' :=
  ⟨⟨by rw [← ht]; exact hB.1, hB.2.1.weaken (fun _ _ _ z => h.own K _ z), hS, hB.2.2.1⟩, hB.2.2.2⟩
theorem x_ai {r : Int32} {av : Array Value} (K : Kx_ κ G cy A s) (h : Ht_ G cy A s ad σ H locs) (hr : va_Run p l e R s m args below meth c H locs cells slots 0 0 (F0 m pc ls st) rest (Qi_ G cy ad σ σ' H.size r av) (va_A (wl_ cy ad σ) H.size))
    (kk : ∀ (H1 : Heap) (locs1 : List Loc), Ht_ G cy A s ad σ' H1 locs1 → Ex_ σ σ' → W p l e R s m args below meth c H1 locs1 cells slots Q (F0 m (pc + 3) ls (.int r :: rest))) : W p l e R s m args below meth c H locs cells slots Q (F0 m pc ls st) :=
  va_calli hr h.2.2.1 (fun q _ z => h.own K q z) (fun q z => h.own K q z) (fun r2 _ t H1 locs1 ht _ hp hB _ _ hS => by
    subst hp
    obtain ⟨g1, g2⟩ := x_bk h K ht hB hS
    exact kk H1 locs1 g1 g2)
theorem x_al {r : Int64} {av : Array Value} (K : Kx_ κ G cy A s) (h : Ht_ G cy A s ad σ H locs) (hr : va_Run p l e R s m args below meth c H locs cells slots 0 0 (F0 m pc ls st) rest (Ql_ G cy ad σ σ' H.size r av) (va_A (wl_ cy ad σ) H.size))
    (kk : ∀ (H1 : Heap) (locs1 : List Loc), Ht_ G cy A s ad σ' H1 locs1 → Ex_ σ σ' → W p l e R s m args below meth c H1 locs1 cells slots Q (F0 m (pc + 3) ls (.long r :: rest))) : W p l e R s m args below meth c H locs cells slots Q (F0 m pc ls st) :=
  va_calll hr h.2.2.1 (fun q _ z => h.own K q z) (fun q z => h.own K q z) (fun r2 _ t H1 locs1 ht _ hp hB _ _ hS => by
    subst hp
    obtain ⟨g1, g2⟩ := x_bk h K ht hB hS
    exact kk H1 locs1 g1 g2)
theorem x_av {av : Array Value} (K : Kx_ κ G cy A s) (h : Ht_ G cy A s ad σ H locs) (hr : va_Run p l e R s m args below meth c H locs cells slots 0 0 (F0 m pc ls st) rest (Qv_ G cy ad σ σ' H.size av) (va_A (wl_ cy ad σ) H.size))
    (kk : ∀ (H1 : Heap) (locs1 : List Loc), Ht_ G cy A s ad σ' H1 locs1 → Ex_ σ σ' → W p l e R s m args below meth c H1 locs1 cells slots Q (F0 m (pc + 3) ls rest)) : W p l e R s m args below meth c H locs cells slots Q (F0 m pc ls st) :=
  va_callv hr h.2.2.1 (fun q _ z => h.own K q z) (fun q z => h.own K q z) (fun _ t H1 locs1 ht _ _ hB _ _ hS => by
    obtain ⟨g1, g2⟩ := x_bk h K ht hB hS
    exact kk H1 locs1 g1 g2)
theorem x_aq {r : Option Nat} {av : Array Value} (K : Kx_ κ G cy A s) (h : Ht_ G cy A s ad σ H locs) (hr : va_Run p l e R s m args below meth c H locs cells slots 0 0 (F0 m pc ls st) rest (Qq_ G cy ad σ σ' H.size r av) (va_A (wl_ cy ad σ) H.size))
    (kk : ∀ (H1 : Heap) (locs1 : List Loc), Ht_ G cy A s ad σ' H1 locs1 → Ex_ σ σ' → W p l e R s m args below meth c H1 locs1 cells slots Q (F0 m (pc + 3) ls (rv_ ad r :: rest))) : W p l e R s m args below meth c H locs cells slots Q (F0 m pc ls st) :=
  va_callq hr h.2.2.1 (fun q _ z => h.own K q z) (fun q z => h.own K q z) (fun r2 _ t H1 locs1 ht _ hp hB _ _ hS => by
    subst hp
    obtain ⟨g1, g2⟩ := x_bk h K ht hB hS
    exact kk H1 locs1 g1 g2)
end XC
