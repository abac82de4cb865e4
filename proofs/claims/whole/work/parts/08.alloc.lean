/-! NEW OBJECTS -/
def lt_ {α β : Type} (x : α) (f : α → β) : β := f x
theorem lt_in {α β : Type} {x : α} {f : α → β} {r : β} (h : lt_ x f = r) : ∃ y, y = x ∧ f y = r := ⟨x, rfl, h⟩
theorem ce_ag {cy : Nat → ClassId} {ad ad' : Nat → Nat} {k n : Nat} {i : Nat → Int32} {l : Nat → Int64} {r : Nat → Option Nat} (h : ∀ j, (r j).map ad = (r j).map ad') : ce_ cy ad k n i l r = ce_ cy ad' k n i l r := by
  have e : (fun j => (r j).map ad) = fun j => (r j).map ad' := funext h
  unfold ce_
  split <;> first | rfl | (rw [e]; done) | (simp only [f1_, f2_, f3_, f4_, f5_, f6_, f7_, f8_, f9_, h]; done)
theorem nw_kd (σ : St_) (k n : Nat) : kd_ (nw_ σ k n) (sn_ σ) = k := by
  show va_up σ.2.2.2.1 (sn_ σ) k (sn_ σ) = k
  rw [va_up, if_pos rfl]
theorem nw_ln (σ : St_) (k n : Nat) : ln_ (nw_ σ k n) (sn_ σ) = n := by
  show va_up σ.2.2.2.2.1 (sn_ σ) n (sn_ σ) = n
  rw [va_up, if_pos rfl]
theorem nw_ex {σ : St_} (h : wf_ σ) (k n : Nat) : Ex_ σ (nw_ σ k n) := by
  refine ⟨Nat.le_succ _, fun a ha => ?_⟩
  have hne : a ≠ sn_ σ := by
    intro e
    have := h.1 a (by omega)
    omega
  exact ⟨va_up_ne _ _ hne, va_up_ne _ _ hne⟩
theorem nw_wl {cy : Nat → ClassId} {ad : Nat → Nat} {σ : St_} (h : wf_ σ) (k n q : Nat) : wl_ cy (va_up ad (sn_ σ) q) (nw_ σ k n) = wl_ cy ad σ ++ [(q, ce_ cy ad k n (fun _ => 0) (fun _ => 0) (fun _ => none))] := by
  show (List.range (sn_ σ + 1)).map _ = _
  rw [List.range_succ, List.map_append]
  congr 1
  · unfold wl_
    apply List.map_congr_left
    intro a ha
    have hl : a < sn_ σ := List.mem_range.mp ha
    have hne : a ≠ sn_ σ := Nat.ne_of_lt hl
    have e1 : va_up ad (sn_ σ) q a = ad a := va_up_ne _ _ hne
    have e2 : cel_ cy (va_up ad (sn_ σ) q) (nw_ σ k n) a = cel_ cy ad σ a := by
      show ce_ cy _ (va_up σ.2.2.2.1 (sn_ σ) k a) (va_up σ.2.2.2.2.1 (sn_ σ) n a) (va_up σ.1 (sn_ σ) (fun _ => 0) a) (va_up σ.2.1 (sn_ σ) (fun _ => 0) a) (va_up σ.2.2.1 (sn_ σ) (fun _ => none) a) = _
      rw [va_up_ne _ _ hne, va_up_ne _ _ hne, va_up_ne _ _ hne, va_up_ne _ _ hne, va_up_ne _ _ hne]
      refine (ce_ag (fun j => ?_)).trans rfl
      cases hj : σ.2.2.1 a j with
      | none => rfl
      | some b =>
        have hb : b < sn_ σ := h.2 a j b hj
        show some (va_up ad (sn_ σ) q b) = some (ad b)
        rw [va_up_ne _ _ (Nat.ne_of_lt hb)]
    rw [e1, e2]
  · show [(va_up ad (sn_ σ) q (sn_ σ), cel_ cy (va_up ad (sn_ σ) q) (nw_ σ k n) (sn_ σ))] = _
    have e1 : va_up ad (sn_ σ) q (sn_ σ) = q := va_up_self _ _ _
    have e2 : cel_ cy (va_up ad (sn_ σ) q) (nw_ σ k n) (sn_ σ) = ce_ cy ad k n (fun _ => 0) (fun _ => 0) (fun _ => none) := by
      show ce_ cy _ (va_up σ.2.2.2.1 (sn_ σ) k (sn_ σ)) (va_up σ.2.2.2.2.1 (sn_ σ) n (sn_ σ)) (va_up σ.1 (sn_ σ) (fun _ => 0) (sn_ σ)) (va_up σ.2.1 (sn_ σ) (fun _ => 0) (sn_ σ)) (va_up σ.2.2.1 (sn_ σ) (fun _ => none) (sn_ σ)) = _
      rw [va_up_self, va_up_self, va_up_self, va_up_self, va_up_self]
      exact ce_ag (fun j => rfl)
    rw [e1, e2]
theorem nw_wf {σ : St_} (h : wf_ σ) (k n : Nat) : wf_ (nw_ σ k n) := by
  refine ⟨fun a ha => ?_, fun a j b hb => ?_⟩
  · have ha' : sn_ σ + 1 ≤ a := ha
    show va_up σ.2.2.2.1 (sn_ σ) k a = 99
    rw [va_up_ne _ _ (by omega)]
    exact h.1 a (by omega)
  · show b < sn_ σ + 1
    change va_up σ.2.2.1 (sn_ σ) (fun _ => none) a j = some b at hb
    by_cases e : a = sn_ σ
    · rw [e, va_up_self] at hb; cases hb
    · rw [va_up_ne _ _ e] at hb
      exact Nat.lt_succ_of_lt (h.2 a j b hb)
/-- old addresses stay -/
def Ag_ (n : Nat) (ad ad' : Nat → Nat) : Prop := ∀ a, a < n → ad' a = ad a
theorem Ag_.rf {n : Nat} {ad : Nat → Nat} : Ag_ n ad ad := fun _ _ => rfl
theorem Ag_.trans {n n' : Nat} {a b c : Nat → Nat} (h1 : Ag_ n a b) (hn : n ≤ n') (h2 : Ag_ n' b c) : Ag_ n a c := fun x hx => (h2 x (Nat.lt_of_lt_of_le hx hn)).trans (h1 x hx)
def PA_ (G : va_G) (cy : Nat → ClassId) (ad : Nat → Nat) (σ σ' : St_) (sz : Nat) (ad' : Nat → Nat) (t : State) : Prop := Ag_ (sn_ σ) ad ad' ∧ va_P G vwCl (wl_ cy ad' σ') t.heap ∧ va_D (va_A (wl_ cy ad σ) sz) (wl_ cy ad' σ') ∧ wf_ σ' ∧ Ex_ σ σ'
abbrev QiA_ (G : va_G) (cy : Nat → ClassId) (ad : Nat → Nat) (σ σ' : St_) (sz : Nat) (r : Int32) : Array Value → State → Outcome → State → Prop := va_Qi (fun r2 (_ : Nat → Nat) => r2 = r) (fun ad' t => PA_ G cy ad σ σ' sz ad' t) (va_A (wl_ cy ad σ) sz)
abbrev QvA_ (G : va_G) (cy : Nat → ClassId) (ad : Nat → Nat) (σ σ' : St_) (sz : Nat) : Array Value → State → Outcome → State → Prop := va_Qv (fun (_ : Nat → Nat) => True) (fun ad' t => PA_ G cy ad σ σ' sz ad' t) (va_A (wl_ cy ad σ) sz)
abbrev QqA_ (G : va_G) (cy : Nat → ClassId) (ad : Nat → Nat) (σ σ' : St_) (sz : Nat) (r : Option Nat) : Array Value → State → Outcome → State → Prop := va_Qq (fun r2 (ad' : Nat → Nat) => r2 = r.map ad') (fun ad' t => PA_ G cy ad σ σ' sz ad' t) (va_A (wl_ cy ad σ) sz)
section XN
variable {p : Program} {l : Launch} {e : Env} {R : Room} {s : State} {m : MethodId} {args : Array Value} {below : List Frame} {meth : Method} {c : Code} {H : Heap} {locs : List Loc} {cells slots : Nat} {Q : State → Prop}
variable {cc : ByteArray} {pc nL idx : Nat} {ls : Array Slot} {st rest : List Value} {own : String} {κ : Ka_} {G : va_G} {cy : Nat → ClassId} {A : Nat → Prop} {ad : Nat → Nat} {σ σ' : St_}
variable {ci N : Nat} {CC : String} {T : u_T} {ty0 : Nat → FieldType} {fl : (Nat → Nat) → (Nat → Int32) → (Nat → Int64) → (Nat → Option Nat) → List Value}
theorem Ht_.push {H1 : Heap} (h : Ht_ G cy A s ad σ H locs) {k n q : Nat} (h1 : va_P G vwCl (wl_ cy ad σ ++ [(q, ce_ cy ad k n (fun _ => 0) (fun _ => 0) (fun _ => none))]) H1) (h2 : va_D A (wl_ cy ad σ ++ [(q, ce_ cy ad k n (fun _ => 0) (fun _ => 0) (fun _ => none))])) (h3 : va_S A s.heap H1 locs) : Ht_ G cy A s (va_up ad (sn_ σ) q) (nw_ σ k n) H1 locs := by
  rw [← nw_wl h.2.2.2] at h1 h2
  exact ⟨h1, h2, h3, nw_wf h.2.2.2 k n⟩
theorem up_ag (q : Nat) : Ag_ (sn_ σ) ad (va_up ad (sn_ σ) q) := fun a ha => va_up_ne _ _ (Nat.ne_of_lt ha)
theorem x_new (C : CallFix p m c cc nL s args wU_ own) (K : Kx_ κ G cy A s) (h : Ht_ G cy A s ad σ H locs) (c1 : Cl_ ci CC T N ty0 fl) (hl : Cond.classLink own idx CC ∈ wU_) (hins : Cond.instantiable CC N ∈ wU_) (hini : Cond.initialized CC ∈ wU_) (hdf : ∀ j, j < N → defaultValue (ty0 j) = vp_V (fl ad (fun _ => 0) (fun _ => 0) (fun _ => none)) j) (hcells : cells + 1 ≤ R.cells) (hslots : slots + N ≤ R.slots) (d : decode cc pc = .ok (.new idx, 3))
    (kk : ∀ (ad1 : Nat → Nat) (H1 : Heap), Ag_ (sn_ σ) ad ad1 → Ht_ G cy A s ad1 (nw_ σ ci 0) H1 locs → Ex_ σ (nw_ σ ci 0) → W p l e R s m args below meth c H1 locs (cells + 1) (slots + N) Q (F0 m (pc + 3) ls (.ref (ad1 (sn_ σ)) :: rest))) : W p l e R s m args below meth c H locs cells slots Q (F0 m pc ls rest) := by
  refine va_new (ci := ci) (fs := fl ad (fun _ => 0) (fun _ => 0) (fun _ => none)) C.1 C.2.1 C.2.2.2.2 c1.2.2.1 ty0 c1.2.2.2.1 C.2.2.2.1 (C.2.2.2.2 _ hl) (C.2.2.2.2 _ hins) (C.2.2.2.2 _ hini) K.1 h.1 h.2.1 h.2.2.1 K.2.2.2 c1.2.1 hdf hcells hslots d (fun q H1 q1 q2 q3 => ?_)
  have hce : ce_ cy ad ci 0 (fun _ => 0) (fun _ => 0) (fun _ => none) = .inr (ci, fl ad (fun _ => 0) (fun _ => 0) (fun _ => none)) := c1.2.2.2.2.2 cy ad 0 _ _ _
  rw [← hce] at q1 q2
  have := kk (va_up ad (sn_ σ) q) H1 (up_ag q) (h.push q1 q2 q3) (nw_ex h.2.2.2 ci 0)
  rw [va_up_self] at this
  exact this
theorem x_newa (C : CallFix p m c cc nL s args wU_ own) (K : Kx_ κ G cy A s) (h : Ht_ G cy A s ad σ H locs) {atype : ArrayType} {ty : FieldType} (hty : newarray.typeOf atype = ty) (hac : Cond.arrayClass ty ∈ wU_) (t k : Nat) (htys : (tys_ cy)[t]? = some (cy t, ty)) (hprim : ∀ x, ty ≠ .object x) {a0 : Nat → vp_A} (hce : ∀ n, ce_ cy ad k n (fun _ => 0) (fun _ => 0) (fun _ => none) = .inl (cy t, a0 n)) (ha : ∀ (n : Nat) (cA : ClassId), vp_cell cA (a0 n) = arrV cA n (fun _ => defaultValue ty)) {n : Int32} (hn : ¬ n < 0) (hb : n.toNatClampNeg * componentBytes ty ≤ 536870912) (hcells : cells + 1 ≤ R.cells) (hslots : slots + n.toNatClampNeg ≤ R.slots) (d : decode cc pc = .ok (.newarray atype, 2))
    (kk : ∀ (ad1 : Nat → Nat) (H1 : Heap), Ag_ (sn_ σ) ad ad1 → Ht_ G cy A s ad1 (nw_ σ k n.toNatClampNeg) H1 locs → Ex_ σ (nw_ σ k n.toNatClampNeg) → W p l e R s m args below meth c H1 locs (cells + 1) (slots + n.toNatClampNeg) Q (F0 m (pc + 2) ls (.ref (ad1 (sn_ σ)) :: rest))) : W p l e R s m args below meth c H locs cells slots Q (F0 m pc ls (.int n :: rest)) := by
  subst hty
  refine va_newa (a0 := a0 n.toNatClampNeg) C.1 C.2.1 (C.2.2.2.2 _ hac) rfl K.1 h.1 h.2.1 h.2.2.1 K.2.2.2 (fun cA => ha _ cA) hn rfl hb hcells hslots d (fun q cA H1 q0 q1 q2 q3 => ?_)
  have hcA : cA = cy t := by
    have g1 := (q0.2 (tys_ cy).length (cA, newarray.typeOf atype) (by simp)).2
    have g2 := (K.1.2 t (cy t, newarray.typeOf atype) htys).2
    revert g1 g2
    cases atype <;> intro g1 g2 <;> exact Option.some.inj (g1.symm.trans g2)
  subst hcA
  rw [← hce] at q1 q2
  have := kk (va_up ad (sn_ σ) q) H1 (up_ag q) (h.push q1 q2 q3) (nw_ex h.2.2.2 k n.toNatClampNeg)
  rw [va_up_self] at this
  exact this
theorem x_newq (C : CallFix p m c cc nL s args wU_ own) (K : Kx_ κ G cy A s) (h : Ht_ G cy A s ad σ H locs) {E : String} (hl : Cond.classLink own idx E ∈ wU_) (hov : va_AO E s) (t k : Nat) (htys : (tys_ cy)[t]? = some (cy t, .object E)) (hce : ∀ n, ce_ cy ad k n (fun _ => 0) (fun _ => 0) (fun _ => none) = .inl (cy t, n, .inr (.inr (.inr (.inr fun _ => none))))) {n : Int32} (hn : ¬ n < 0) (hb : n.toNatClampNeg * 4 ≤ 536870912) (hcells : cells + 1 ≤ R.cells) (hslots : slots + n.toNatClampNeg ≤ R.slots) (d : decode cc pc = .ok (.anewarray idx, 3))
    (kk : ∀ (ad1 : Nat → Nat) (H1 : Heap), Ag_ (sn_ σ) ad ad1 → Ht_ G cy A s ad1 (nw_ σ k n.toNatClampNeg) H1 locs → Ex_ σ (nw_ σ k n.toNatClampNeg) → W p l e R s m args below meth c H1 locs (cells + 1) (slots + n.toNatClampNeg) Q (F0 m (pc + 3) ls (.ref (ad1 (sn_ σ)) :: rest))) : W p l e R s m args below meth c H locs cells slots Q (F0 m pc ls (.int n :: rest)) := by
  refine va_newq C.1 C.2.1 C.2.2.2.1 (C.2.2.2.2 _ hl) hov K.1 h.1 h.2.1 h.2.2.1 K.2.2.2 hn rfl hb hcells hslots d (fun q cA H1 q0 q1 q2 q3 => ?_)
  have hcA : cA = cy t := by
    obtain ⟨_, _, _, _, _, g1⟩ := (q0.2 (tys_ cy).length (cA, .object E) (by simp)).2
    obtain ⟨_, _, _, _, _, g2⟩ := (K.1.2 t (cy t, .object E) htys).2
    exact Option.some.inj (g1.symm.trans g2)
  subst hcA
  rw [← hce] at q1 q2
  have := kk (va_up ad (sn_ σ) q) H1 (up_ag q) (h.push q1 q2 q3) (nw_ex h.2.2.2 k n.toNatClampNeg)
  rw [va_up_self] at this
  exact this
theorem x_aast (C : CallFix p m c cc nL s args wU_ own) (K : Kx_ κ G cy A s) (h : Ht_ G cy A s ad σ H locs) (t : Nat) {q : Nat} (hq : q < 16) (ht : (tys_ cy)[t]? = some (cy t, .object CC)) (hce : ∀ (n : Nat) (i : Nat → Int32) (l : Nat → Int64) (r : Nat → Option Nat), ce_ cy ad q n i l r = .inl (cy t, n, .inr (.inr (.inr (.inr fun j => (r j).map ad))))) (c1 : Cl_ ci CC T N ty0 fl) {a b j : Nat} (hk : kd_ σ a = q) (hkb : kd_ σ b = ci) {i : Int32} (hj : ix_ i (ln_ σ a) = some j) (d : decode cc pc = .ok (.aastore, 1))
    (kk : ∀ (H1 : Heap) (locs1 : List Loc), Ht_ G cy A s ad (ur_ σ a j (some b)) H1 locs1 → W p l e R s m args below meth c H1 locs1 cells slots Q (F0 m (pc + 1) ls rest)) : W p l e R s m args below meth c H locs cells slots Q (F0 m pc ls (.ref (ad b) :: .int i :: .ref (ad a) :: rest)) := by
  obtain ⟨h1, rfl⟩ := ix_in hj
  have hu := up_r σ a i.toNatClampNeg (some b) (fun z hz => by cases hz; exact h.lt hkb c1.1)
  refine va_astq (r := (CC, T, N)) (f := fun j => (sr_ σ a j).map ad) C.1 C.2.1 K.1 h.1 h.2.1 h.2.2.1 a t b ci ((h.at hk hq).trans (by rw [hce])) ht ((h.at hkb c1.1).trans (by rw [c1.2.2.2.2.2])) c1.2.1 h1 d (fun H1 locs1 q1 q2 q3 => kk H1 locs1 (h.set hu ?_ q1 q2 q3))
  unfold cel_
  rw [sr_ur, hu.2.1, hu.2.2.1, hk, hce]
  congr 7
  funext z
  unfold va_up
  by_cases hz : z = i.toNatClampNeg
  · rw [if_pos hz, if_pos hz]; rfl
  · rw [if_neg hz, if_neg hz]
/-- returns -/
theorem x_pA {sz : Nat} {σ0 : St_} {ad0 : Nat → Nat} (hag : Ag_ (sn_ σ0) ad0 ad) (h : Ht_ G cy (va_A (wl_ cy ad0 σ0) sz) s ad σ H locs) (hE : Ex_ σ0 σ) {t : State} (ht : t.heap = H) : PA_ G cy ad0 σ0 σ sz ad t := ⟨hag, by rw [ht]; exact h.1, h.2.1, h.2.2.2, hE⟩
theorem x_rvA {sz mc ms : Nat} {σ0 : St_} {ad0 : Nat → Nat} (hc : cells ≤ mc) (hs : slots ≤ ms) (C : CallFix p m c cc nL s args wU_ own) (hr : meth.sig.returnType = none) (hlk : meth.locks = false) (hag : Ag_ (sn_ σ0) ad0 ad) (h : Ht_ G cy (va_A (wl_ cy ad0 σ0) sz) s ad σ H locs) (hE : Ex_ σ0 σ) (hσ : σ = σ') (d : decode cc pc = .ok (.return_, 1)) : W p l e R s m args below meth c H locs cells slots (MQ below (QvA_ G cy ad0 σ0 σ' sz) args s mc ms (va_A (wl_ cy ad0 σ0) sz)) (F0 m pc ls []) := by
  subst hσ
  exact W.widen hc hs (W.vret C.1 C.2.1 hr (fun t ht hW => ⟨⟨ad, rfl, trivial, x_pA hag h hE ht⟩, h.2.2.1.F ht⟩) h.2.2.1.2.2 d hlk)
theorem x_riA {sz mc ms : Nat} {σ0 : St_} {ad0 : Nat → Nat} {v r : Int32} (hc : cells ≤ mc) (hs : slots ≤ ms) (C : CallFix p m c cc nL s args wU_ own) (hr : meth.sig.returnType = some .int) (hlk : meth.locks = false) (hag : Ag_ (sn_ σ0) ad0 ad) (h : Ht_ G cy (va_A (wl_ cy ad0 σ0) sz) s ad σ H locs) (hE : Ex_ σ0 σ) (hv : v = r) (hσ : σ = σ') (d : decode cc pc = .ok (.ireturn, 1)) : W p l e R s m args below meth c H locs cells slots (MQ below (QiA_ G cy ad0 σ0 σ' sz r) args s mc ms (va_A (wl_ cy ad0 σ0) sz)) (F0 m pc ls [.int v]) := by
  subst hσ; subst hv
  exact W.widen hc hs (W.iret C.1 C.2.1 hr (fun t ht hW => ⟨⟨v, ad, rfl, rfl, x_pA hag h hE ht⟩, h.2.2.1.F ht⟩) h.2.2.1.2.2 d hlk)
theorem x_rqA {sz mc ms : Nat} {σ0 : St_} {ad0 : Nat → Nat} {v r : Option Nat} {rt : FieldType} (hrt : (∃ n, rt = .object n) ∨ ∃ t, rt = .array t) (hc : cells ≤ mc) (hs : slots ≤ ms) (C : CallFix p m c cc nL s args wU_ own) (hr : meth.sig.returnType = some rt) (hlk : meth.locks = false) (hag : Ag_ (sn_ σ0) ad0 ad) (h : Ht_ G cy (va_A (wl_ cy ad0 σ0) sz) s ad σ H locs) (hE : Ex_ σ0 σ) (hv : v = r) (hσ : σ = σ') (d : decode cc pc = .ok (.areturn, 1)) : W p l e R s m args below meth c H locs cells slots (MQ below (QqA_ G cy ad0 σ0 σ' sz r) args s mc ms (va_A (wl_ cy ad0 σ0) sz)) (F0 m pc ls [rv_ ad v]) := by
  subst hσ; subst hv
  refine W.widen hc hs (W.aret C.1 C.2.1 hr hrt ?_ (fun t ht hW => ⟨⟨v.map ad, ad, rfl, rfl, x_pA hag h hE ht⟩, h.2.2.1.F ht⟩) h.2.2.1.2.2 d hlk)
  cases v with
  | none => exact Or.inl rfl
  | some b => exact Or.inr ⟨_, rfl⟩
/-- behind a call that makes objects -/
theorem x_bkA {H1 : Heap} {locs1 : List Loc} {ad1 : Nat → Nat} (h : Ht_ G cy A s ad σ H locs) (K : Kx_ κ G cy A s) {t : State} (ht : t.heap = H1) (hB : PA_ G cy ad σ σ' H.size ad1 t) (hS : va_S A s.heap H1 locs1) : Ag_ (sn_ σ) ad ad1 ∧ Ht_ G cy A s ad1 σ' H1 locs1 ∧ Ex_ σ σ' :=
  ⟨hB.1, ⟨by rw [← ht]; exact hB.2.1, hB.2.2.1.weaken (fun _ _ _ z => h.own K _ z), hS, hB.2.2.2.1⟩, hB.2.2.2.2⟩
theorem x_avA {mc ms : Nat} {av : Array Value} (K : Kx_ κ G cy A s) (h : Ht_ G cy A s ad σ H locs) (hr : va_Run p l e R s m args below meth c H locs cells slots mc ms (F0 m pc ls st) rest (QvA_ G cy ad σ σ' H.size av) (va_A (wl_ cy ad σ) H.size))
    (kk : ∀ (ad1 : Nat → Nat) (H1 : Heap) (locs1 : List Loc), Ag_ (sn_ σ) ad ad1 → Ht_ G cy A s ad1 σ' H1 locs1 → Ex_ σ σ' → W p l e R s m args below meth c H1 locs1 (cells + mc) (slots + ms) Q (F0 m (pc + 3) ls rest)) : W p l e R s m args below meth c H locs cells slots Q (F0 m pc ls st) :=
  va_callv hr h.2.2.1 (fun q _ z => h.own K q z) (fun q z => h.own K q z) (fun ad1 t H1 locs1 ht _ _ hB _ _ hS => by
    obtain ⟨g0, g1, g2⟩ := x_bkA h K ht hB hS
    exact kk ad1 H1 locs1 g0 g1 g2)
theorem x_aiA {mc ms : Nat} {r : Int32} {av : Array Value} (K : Kx_ κ G cy A s) (h : Ht_ G cy A s ad σ H locs) (hr : va_Run p l e R s m args below meth c H locs cells slots mc ms (F0 m pc ls st) rest (QiA_ G cy ad σ σ' H.size r av) (va_A (wl_ cy ad σ) H.size))
    (kk : ∀ (ad1 : Nat → Nat) (H1 : Heap) (locs1 : List Loc), Ag_ (sn_ σ) ad ad1 → Ht_ G cy A s ad1 σ' H1 locs1 → Ex_ σ σ' → W p l e R s m args below meth c H1 locs1 (cells + mc) (slots + ms) Q (F0 m (pc + 3) ls (.int r :: rest))) : W p l e R s m args below meth c H locs cells slots Q (F0 m pc ls st) :=
  va_calli hr h.2.2.1 (fun q _ z => h.own K q z) (fun q z => h.own K q z) (fun r2 ad1 t H1 locs1 ht _ hp hB _ _ hS => by
    subst hp
    obtain ⟨g0, g1, g2⟩ := x_bkA h K ht hB hS
    exact kk ad1 H1 locs1 g0 g1 g2)
theorem x_aqA {mc ms : Nat} {r : Option Nat} {av : Array Value} (K : Kx_ κ G cy A s) (h : Ht_ G cy A s ad σ H locs) (hr : va_Run p l e R s m args below meth c H locs cells slots mc ms (F0 m pc ls st) rest (QqA_ G cy ad σ σ' H.size r av) (va_A (wl_ cy ad σ) H.size))
    (kk : ∀ (ad1 : Nat → Nat) (H1 : Heap) (locs1 : List Loc), Ag_ (sn_ σ) ad ad1 → Ht_ G cy A s ad1 σ' H1 locs1 → Ex_ σ σ' → W p l e R s m args below meth c H1 locs1 (cells + mc) (slots + ms) Q (F0 m (pc + 3) ls (rv_ ad1 r :: rest))) : W p l e R s m args below meth c H locs cells slots Q (F0 m pc ls st) :=
  va_callq hr h.2.2.1 (fun q _ z => h.own K q z) (fun q z => h.own K q z) (fun r2 ad1 t H1 locs1 ht _ hp hB _ _ hS => by
    subst hp
    obtain ⟨g0, g1, g2⟩ := x_bkA h K ht hB hS
    exact kk ad1 H1 locs1 g0 g1 g2)
end XN
theorem rv_s {ad : Nat → Nat} {b : Nat} : rv_ ad (some b) = .ref (ad b) := rfl
