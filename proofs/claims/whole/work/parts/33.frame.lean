/-! WHAT ONE PART OF THE RELATION LOOKS AT -/
/-- the same at all places of a footprint -/
def Fr_ (P : Nat → Nat → Prop) (σ σ' : St_) : Prop := kd_ σ' = kd_ σ ∧ ln_ σ' = ln_ σ ∧ sn_ σ' = sn_ σ ∧ ∀ r k, P r k → si_ σ' r k = si_ σ r k ∧ sl_ σ' r k = sl_ σ r k ∧ sr_ σ' r k = sr_ σ r k
theorem Fr_.refl (P : Nat → Nat → Prop) (σ : St_) : Fr_ P σ σ := ⟨rfl, rfl, rfl, fun _ _ _ => ⟨rfl, rfl, rfl⟩⟩
theorem Fr_.trans {P : Nat → Nat → Prop} {σ σ' σ'' : St_} (h : Fr_ P σ σ') (g : Fr_ P σ' σ'') : Fr_ P σ σ'' :=
  ⟨g.1.trans h.1, g.2.1.trans h.2.1, g.2.2.1.trans h.2.2.1, fun r k p => ⟨(g.2.2.2 r k p).1.trans (h.2.2.2 r k p).1, (g.2.2.2 r k p).2.1.trans (h.2.2.2 r k p).2.1, (g.2.2.2 r k p).2.2.trans (h.2.2.2 r k p).2.2⟩⟩
theorem Fr_.mono {P Q : Nat → Nat → Prop} {σ σ' : St_} (h : Fr_ P σ σ') (g : ∀ r k, Q r k → P r k) : Fr_ Q σ σ' := ⟨h.1, h.2.1, h.2.2.1, fun r k q => h.2.2.2 r k (g r k q)⟩
theorem Fr_.ui {P : Nat → Nat → Prop} {σ σ' : St_} (h : Fr_ P σ σ') (a k : Nat) (v : Int32) (n : ¬ P a k) : Fr_ P σ (ui_ σ' a k v) := by
  refine h.trans ⟨rfl, rfl, rfl, fun r j p => ⟨?_, rfl, rfl⟩⟩
  rw [g_si_ui]
  by_cases e : r = a
  · rw [if_pos e]
    by_cases e2 : j = k
    · subst e; subst e2; exact absurd p n
    · rw [if_neg e2]
  · rw [if_neg e]
theorem Fr_.ul {P : Nat → Nat → Prop} {σ σ' : St_} (h : Fr_ P σ σ') (a k : Nat) (v : Int64) (n : ¬ P a k) : Fr_ P σ (ul_ σ' a k v) := by
  refine h.trans ⟨rfl, rfl, rfl, fun r j p => ⟨rfl, ?_, rfl⟩⟩
  rw [g_sl_ul]
  by_cases e : r = a
  · rw [if_pos e]
    by_cases e2 : j = k
    · subst e; subst e2; exact absurd p n
    · rw [if_neg e2]
  · rw [if_neg e]
theorem Fr_.ur {P : Nat → Nat → Prop} {σ σ' : St_} (h : Fr_ P σ σ') (a k : Nat) (v : Option Nat) (n : ¬ P a k) : Fr_ P σ (ur_ σ' a k v) := by
  refine h.trans ⟨rfl, rfl, rfl, fun r j p => ⟨rfl, rfl, ?_⟩⟩
  rw [g_sr_ur]
  by_cases e : r = a
  · rw [if_pos e]
    by_cases e2 : j = k
    · subst e; subst e2; exact absurd p n
    · rw [if_neg e2]
  · rw [if_neg e]
theorem Fr_.uw {P : Nat → Nat → Prop} {σ σ' : St_} (h : Fr_ P σ σ') (a : Nat) (f : Nat → Int32) (n : ∀ k, ¬ P a k) : Fr_ P σ (uw_ σ' a f) := by
  refine h.trans ⟨rfl, rfl, rfl, fun r j p => ⟨?_, rfl, rfl⟩⟩
  rw [g_si_uw]
  by_cases e : r = a
  · subst e; exact absurd p (n j)
  · rw [if_neg e]
theorem Fr_.i {P : Nat → Nat → Prop} {σ σ' : St_} (h : Fr_ P σ σ') {r k : Nat} (p : P r k) : si_ σ' r k = si_ σ r k := (h.2.2.2 r k p).1
theorem Fr_.l {P : Nat → Nat → Prop} {σ σ' : St_} (h : Fr_ P σ σ') {r k : Nat} (p : P r k) : sl_ σ' r k = sl_ σ r k := (h.2.2.2 r k p).2.1
theorem Fr_.r {P : Nat → Nat → Prop} {σ σ' : St_} (h : Fr_ P σ σ') {r k : Nat} (p : P r k) : sr_ σ' r k = sr_ σ r k := (h.2.2.2 r k p).2.2
/-- what the texts, the floor, the image, the tape, the sheets look at: here, and there -/
def xT_ (r k : Nat) : Prop := (r = 0 ∧ k = 5) ∨ r = 19 ∨ 49 ≤ r
def xF_ (r _k : Nat) : Prop := r = 1 ∨ (3 ≤ r ∧ r < 7)
def xK_ (r k : Nat) : Prop := (r = 0 ∧ k = 2) ∨ r = 7 ∨ (9 ≤ r ∧ r < 13)
def xP_ (r k : Nat) : Prop := (r = 13 ∧ k = 1) ∨ r = 14
def xS_ (r _k : Nat) : Prop := 41 ≤ r ∧ r < 49
def mT_ (r k : Nat) : Prop := (r = 0 ∧ k = 3) ∨ r = 1 ∨ r = 2
def mF_ (r k : Nat) : Prop := (r = 0 ∧ (k = 11 ∨ k = 7 ∨ k = 4)) ∨ r = 4 ∨ r = 5 ∨ r = 6
def mK_ (r k : Nat) : Prop := (r = 0 ∧ (k = 35 ∨ k = 36 ∨ k = 37)) ∨ r = 13 ∨ r = 5 ∨ r = 14
def mP_ (r k : Nat) : Prop := (r = 0 ∧ k = 6) ∨ r = 3
def mS_ (r _k : Nat) : Prop := 15 ≤ r ∧ r < 19
theorem Ca_.congr {x x' ki ki' ro ro' : Nat → Int32} {i : Nat} (h : Ca_ x ki ro i) (e : ∀ k, k < 4 → x' k = x k) (e1 : ki' i = ki i) (e2 : ∀ k, k < 3 → ro' (3 * i + k) = ro (3 * i + k)) : Ca_ x' ki' ro' i := by
  obtain ⟨a, b, c, d, h1, h2, h3, h4, h5, h6, h7, h8, h9, h10, h11, h12⟩ := h
  exact ⟨a, b, c, d, h1, h2, h3, h4, (e 0 (by omega)).trans h5, (e 1 (by omega)).trans h6, (e 2 (by omega)).trans h7, (e 3 (by omega)).trans h8, e1.trans h9, (e2 0 (by omega)).trans h10, (e2 1 (by omega)).trans h11, (e2 2 (by omega)).trans h12⟩
theorem Fl_.congr {tc : Nat} {x x' : Nat → Int32} {w w' : Int64} {car car' : Nat → Nat → Int32} {many many' night night' rule rule' : Int32} {wa wa' ki ki' ro ro' : Nat → Int32} {n : Nat} (h : Fl_ tc x w car many night rule wa ki ro n)
    (ex : ∀ k, x' k = x k) (ew : w' = w) (ec : ∀ i, i < 4 → ∀ k, car' i k = car i k) (e1 : many' = many) (e2 : night' = night) (e3 : rule' = rule) (ewa : ∀ k, wa' k = wa k) (eki : ∀ k, ki' k = ki k) (ero : ∀ k, ro' k = ro k) : Fl_ tc x' w' car' many' night' rule' wa' ki' ro' n := by
  obtain ⟨h1, h2, h3, ⟨v, v1, v2, v3⟩, ⟨t, t1, t2, t3⟩, ⟨m, m1, m2, m3⟩, h7⟩ := h
  refine ⟨h1, (ex 1).trans h2, e1.trans h3, ⟨v, v1, (ex 2).trans v2, e2.trans v3⟩, ⟨t, t1, (ex 3).trans t2, e3.trans t3⟩, ⟨m, m1, ew.trans m2, fun c hc => (ewa c).trans (m3 c hc)⟩, fun i hi => (h7 i hi).congr (fun k _ => ec i (by omega) k) (eki i) (fun k _ => ero _)⟩
theorem RF_.congr {σx σm σx' σm' : St_} {tc n : Nat} (h : RF_ σx σm tc n) (ex : Fr_ xF_ σx σx') (em : Fr_ mF_ σm σm') : RF_ σx' σm' tc n :=
  Fl_.congr h (fun _ => ex.i (Or.inl rfl)) (ex.l (Or.inl rfl)) (fun i hi _ => ex.i (Or.inr ⟨by omega, by omega⟩)) (em.i (Or.inl ⟨rfl, Or.inl rfl⟩)) (em.i (Or.inl ⟨rfl, Or.inr (Or.inl rfl)⟩)) (em.i (Or.inl ⟨rfl, Or.inr (Or.inr rfl)⟩)) (fun _ => em.i (Or.inr (Or.inl rfl))) (fun _ => em.i (Or.inr (Or.inr (Or.inl rfl)))) (fun _ => em.i (Or.inr (Or.inr (Or.inr rfl))))
theorem RK_.congr {σx σm σx' σm' : St_} {tc n : Nat} (h : RK_ σx σm tc n) (ex : Fr_ xK_ σx σx') (em : Fr_ mK_ σm σm') : RK_ σx' σm' tc n := by
  rcases h with ⟨h1, h2⟩ | ⟨h1, kn, h2, h3⟩
  · exact Or.inl ⟨(ex.i (Or.inl ⟨rfl, rfl⟩)).trans h1, (em.i (Or.inl ⟨rfl, Or.inl rfl⟩)).trans h2⟩
  · exact Or.inr ⟨(ex.i (Or.inl ⟨rfl, rfl⟩)).trans h1, kn, h2, Fl_.congr h3 (fun _ => ex.i (Or.inr (Or.inl rfl))) (ex.l (Or.inr (Or.inl rfl))) (fun i hi _ => ex.i (Or.inr (Or.inr ⟨by omega, by omega⟩))) (em.i (Or.inl ⟨rfl, Or.inl rfl⟩)) (em.i (Or.inl ⟨rfl, Or.inr (Or.inl rfl)⟩)) (em.i (Or.inl ⟨rfl, Or.inr (Or.inr rfl)⟩)) (fun _ => em.i (Or.inr (Or.inl rfl))) (fun _ => em.i (Or.inr (Or.inr (Or.inl rfl)))) (fun _ => em.i (Or.inr (Or.inr (Or.inr rfl))))⟩
theorem RP_.congr {σx σm σx' σm' : St_} (h : RP_ σx σm) (ex : Fr_ xP_ σx σx') (em : Fr_ mP_ σm σm') : RP_ σx' σm' := by
  obtain ⟨k, hk, e1, e2, hj⟩ := h
  refine ⟨k, hk, (ex.i (Or.inl ⟨rfl, rfl⟩)).trans e1, (em.i (Or.inl ⟨rfl, rfl⟩)).trans e2, fun j hj' => ?_⟩
  obtain ⟨c, hc, f1, f2⟩ := hj j hj'
  exact ⟨c, hc, (ex.i (Or.inr rfl)).trans f1, (em.i (Or.inr rfl)).trans f2⟩
theorem Sh_.congr {x x' it it' : Nat → Int32} {th th' so so' sz sz' : Int32} {im im' : Nat → Int32} {s : Nat} (h : Sh_ x it th so sz im s) (ex : ∀ k, x' k = x k) (ei : ∀ k, it' k = it k) (e1 : th' = th) (e2 : so' = so) (e3 : sz' = sz) (em : ∀ k, im' k = im k) : Sh_ x' it' th' so' sz' im' s := by
  rcases h with ⟨h1, h2, h3⟩ | ⟨so, n, h1, h2, h3, h4, h5, h6, h7, h8⟩
  · exact Or.inl ⟨(ex 1).trans h1, (ex 2).trans h2, e1.trans h3⟩
  · exact Or.inr ⟨so, n, h1, h2, (ex 1).trans h3, (ex 2).trans h4, e1.trans h5, e2.trans h6, e3.trans h7, fun j hj => (ei j).trans ((h8 j hj).trans (em _).symm)⟩
theorem RS_.congr {σx σm σx' σm' : St_} (h : RS_ σx σm) (ex : Fr_ xS_ σx σx') (em : Fr_ mS_ σm σm') : RS_ σx' σm' := fun s hs =>
  (h s hs).congr (fun _ => ex.i ⟨by omega, by omega⟩) (fun _ => ex.i ⟨by omega, by omega⟩) (em.i ⟨by omega, by omega⟩) (em.i ⟨by omega, by omega⟩) (em.i ⟨by omega, by omega⟩) (fun _ => em.i ⟨by omega, by omega⟩)
theorem Ar_.congr {σ σ' : St_} {a : Nat} {c : Cd_} (h : Ar_ σ a c) (e1 : kd_ σ' a = kd_ σ a) (e2 : ln_ σ' a = ln_ σ a) (e3 : ∀ j, si_ σ' a j = si_ σ a j) : Ar_ σ' a c := ⟨e1.trans h.1, e2.trans h.2.1, fun j hj => (e3 j).trans (h.2.2 j hj)⟩
theorem Tx_.congr {σ σ' : St_} {o : Option Nat} {ch ch' : Nat → Int32} {sz : Int32} (h : Tx_ σ o ch sz) (e : ∀ a, 49 ≤ a → kd_ σ a ≠ 99 → kd_ σ' a = kd_ σ a ∧ ln_ σ' a = ln_ σ a ∧ (∀ j, si_ σ' a j = si_ σ a j) ∧ (∀ j, sr_ σ' a j = sr_ σ a j)) (ec : ∀ j, j < 160 → ch' j = ch j) : Tx_ σ' o ch' sz := by
  obtain ⟨b, i1, i2, i3, n, c, c1, c2, c3, ho, hb, h1, h2, h3, kb, r1, r2, r3, a1, a2, a3, hn, hz, hc, hp⟩ := h
  have q : ∀ {a d : Nat}, kd_ σ a = d → d ≠ 99 → kd_ σ a ≠ 99 := fun x y => (by rw [x]; exact y)
  obtain ⟨f1, f2, f3, f4⟩ := e b hb (q kb (by decide))
  have g1 := e i1 h1 (q a1.1 (by decide))
  have g2 := e i2 h2 (q a2.1 (by decide))
  have g3 := e i3 h3 (q a3.1 (by decide))
  exact ⟨b, i1, i2, i3, n, c, c1, c2, c3, ho, hb, h1, h2, h3, f1.trans kb, (f4 0).trans r1, (f4 1).trans r2, (f4 2).trans r3, a1.congr g1.1 g1.2.1 g1.2.2.1, a2.congr g2.1 g2.2.1 g2.2.2.1, a3.congr g3.1 g3.2.1 g3.2.2.1, hn, hz, fun j hj => ⟨(hc j hj).1, (ec j (by omega)).trans (hc j hj).2⟩, hp⟩
theorem RT_.congr {σx σm σx' σm' : St_} {tc : Nat} (h : RT_ σx σm tc) (ex : Fr_ xT_ σx σx') (em : Fr_ mT_ σm σm') : RT_ σx' σm' tc := by
  refine ⟨h.1, h.2.1, (ex.i (Or.inl ⟨rfl, rfl⟩)).trans h.2.2.1, (em.i (Or.inl ⟨rfl, rfl⟩)).trans h.2.2.2.1, fun t ht => ?_⟩
  have := h.2.2.2.2 t ht
  rw [ex.r (Or.inr (Or.inl rfl)), em.i (r := 2) (k := t) (Or.inr (Or.inr rfl))]
  exact this.congr (fun a ha _ => ⟨congrFun ex.1 a, congrFun ex.2.1 a, fun _ => ex.i (Or.inr (Or.inr ha)), fun _ => ex.r (Or.inr (Or.inr ha))⟩) (fun _ _ => em.i (Or.inr (Or.inl rfl)))
/-- scratch: what a call may leave as it likes -/
def xZ_ (r k : Nat) : Prop := (r = 13 ∧ (k = 5 ∨ k = 6 ∨ k = 8)) ∨ (15 ≤ r ∧ r < 19) ∨ (21 ≤ r ∧ r < 41) ∨ (r = 0 ∧ (k = 11 ∨ k = 12))
def mZ_ (r k : Nat) : Prop := (r = 0 ∧ 12 ≤ k ∧ k ≤ 26) ∨ (7 ≤ r ∧ r < 13)
def ScX_ (σ σ' : St_) : Prop := ShX_ σ' ∧ Fr_ (fun r k => ¬ xZ_ r k) σ σ'
def ScM_ (σ σ' : St_) : Prop := ShM_ σ' ∧ Fr_ (fun r k => ¬ mZ_ r k) σ σ'
theorem ScX_.refl {σ : St_} (h : ShX_ σ) : ScX_ σ σ := ⟨h, Fr_.refl _ _⟩
theorem ScM_.refl {σ : St_} (h : ShM_ σ) : ScM_ σ σ := ⟨h, Fr_.refl _ _⟩
theorem ScX_.trans {σ σ' σ'' : St_} (h : ScX_ σ σ') (g : ScX_ σ' σ'') : ScX_ σ σ'' := ⟨g.1, h.2.trans g.2⟩
theorem ScM_.trans {σ σ' σ'' : St_} (h : ScM_ σ σ') (g : ScM_ σ' σ'') : ScM_ σ σ'' := ⟨g.1, h.2.trans g.2⟩
theorem Rel_.sc {σx σm σx' σm' : St_} (h : Rel_ σx σm) (hx : ScX_ σx σx') (hm : ScM_ σm σm') : Rel_ σx' σm' := by
  obtain ⟨hX, hM, tc, n, hT, hF, hK, hP, hS⟩ := h
  refine ⟨hx.1, hm.1, tc, n, hT.congr (hx.2.mono ?_) (hm.2.mono ?_), hF.congr (hx.2.mono ?_) (hm.2.mono ?_), hK.congr (hx.2.mono ?_) (hm.2.mono ?_), hP.congr (hx.2.mono ?_) (hm.2.mono ?_), hS.congr (hx.2.mono ?_) (hm.2.mono ?_)⟩ <;> intro r k q z <;> simp only [xT_, xF_, xK_, xP_, xS_, mT_, mF_, mK_, mP_, mS_, xZ_, mZ_] at q z <;> omega
