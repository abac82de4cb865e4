/-! A TEXT IS READ, HERE -/
theorem rd_part {σ0 : St_} {T : List Tk_} (hT : Tok_ σ0 T) (key : Nat) (hk : key < 256) (hk0 : key ≠ 0) {σ : St_} {p : Nat} {cd : Cd_} (hR : Rq_ σ0 T σ p cd) (hq : cd.length ≤ p) :
    (∀ c r, pPart_ key (T.drop p) = (some c, r) → ∃ σ' p', f_X3_readPart 5000 σ 13 (nI key) = some (1, σ') ∧ Rq_ σ0 T σ' p' (cd ++ c) ∧ r = T.drop p' ∧ (cd ++ c).length ≤ p') ∧
    (∀ r, pPart_ key (T.drop p) = (none, r) → ∃ σ' p' cd', f_X3_readPart 5000 σ 13 (nI key) = some (0, σ') ∧ Rq_ σ0 T σ' p' cd' ∧ r = T.drop p') := by
  unfold pPart_ f_X3_readPart
  rw [rq_pass hT hR key hk]
  by_cases a : hd_ (T.drop p) = key
  · have hp : p < T.length := hd_in (by omega)
    have ht : (T.drop p).tail = T.drop (p + 1) := by rw [dro_c T p hp]; rfl
    rw [if_pos a, if_pos a, Option.bind_some, if_neg (show ¬ (1 : Int32) = 0 by decide), ht]
    obtain ⟨s1, s2⟩ := (pc_lv hT 5 (by omega)).1 _ _ _ 0 (rq_go hR hp) (by omega)
    rcases hP : (lv_s 5).1 (T.drop (p + 1)) with ⟨_ | c, r⟩
    · obtain ⟨σ', p', cd', e1, e2, e3⟩ := s2 r hP
      have e1' : f_X3_readOrC 5000 (f_X3_goOn σ 13) 13 0 = some (0, σ') := e1
      rw [e1', Option.bind_some, if_pos rfl]
      refine ⟨fun c r he => (by cases he), fun r' he => ?_⟩
      cases he
      exact ⟨σ', p', cd', rfl, e2, e3⟩
    · obtain ⟨σ', p', e1, e2, e3, e4, e5⟩ := s1 c r hP
      have e1' : f_X3_readOrC 5000 (f_X3_goOn σ 13) 13 0 = some (1, σ') := e1
      rw [e1', Option.bind_some, if_neg (show ¬ (1 : Int32) = 0 by decide), show (59 : Int32) = nI 59 from rfl, rq_pass hT e2 59 (by omega)]
      simp only
      rw [e3]
      by_cases b : hd_ (T.drop p') = 59
      · have hp' : p' < T.length := hd_in (by omega)
        rw [if_pos b, if_pos b, Option.bind_some, if_neg (show ¬ (1 : Int32) = 0 by decide)]
        refine ⟨fun c' r' he => ?_, fun r he => by cases he⟩
        cases he
        exact ⟨_, p' + 1, rfl, rq_go e2 hp', by rw [dro_c T p' hp']; rfl, by omega⟩
      · rw [if_neg b, if_neg b, Option.bind_some, if_pos rfl]
        refine ⟨fun c r he => (by cases he), fun r' he => ?_⟩
        cases he
        exact ⟨σ', p', _, rfl, e2, rfl⟩
  · rw [if_neg a, if_neg a, Option.bind_some, if_pos rfl]
    refine ⟨fun c r he => (by cases he), fun r' he => ?_⟩
    cases he
    exact ⟨σ, p, cd, rfl, hR, rfl⟩
/-- what was there is there -/
def Old_ (σ σ' : St_) : Prop := ∀ x, x < sn_ σ → kd_ σ' x = kd_ σ x ∧ ln_ σ' x = ln_ σ x ∧ si_ σ' x = si_ σ x ∧ sl_ σ' x = sl_ σ x ∧ sr_ σ' x = sr_ σ x
theorem old_nw (σ : St_) (kind len : Nat) : Old_ σ (nw_ σ kind len) := fun x hx => by
  have : x ≠ sn_ σ := by omega
  exact ⟨va_up_ne _ _ this, va_up_ne _ _ this, va_up_ne _ _ this, va_up_ne _ _ this, va_up_ne _ _ this⟩
theorem old_uw {σ σ' : St_} (h : Old_ σ σ') (a : Nat) (f : Nat → Int32) (ha : sn_ σ ≤ a) : Old_ σ (uw_ σ' a f) := fun x hx => by
  obtain ⟨h1, h2, h3, h4, h5⟩ := h x hx
  exact ⟨h1, h2, by rw [g_si_uw, if_neg (by omega)]; exact h3, h4, h5⟩
theorem Old_.trans {σ σ' σ'' : St_} (h : Old_ σ σ') (g : Old_ σ' σ'') (hs : sn_ σ ≤ sn_ σ') : Old_ σ σ'' := fun x hx => by
  obtain ⟨h1, h2, h3, h4, h5⟩ := h x hx
  obtain ⟨g1, g2, g3, g4, g5⟩ := g x (by omega)
  exact ⟨g1.trans h1, g2.trans h2, g3.trans h3, g4.trans h4, g5.trans h5⟩
theorem ShX_.old {σ σ' : St_} (h : ShX_ σ) (o : Old_ σ σ') (hw : wf_ σ') (hs : sn_ σ ≤ sn_ σ') : ShX_ σ' := by
  have h49 := h.2.2.2.1
  refine ⟨fun r hr => ⟨(o r (by omega)).1.trans (h.1 r hr).1, (o r (by omega)).2.1.trans (h.1 r hr).2⟩, fun q hq => ?_, ?_, by omega, hw⟩
  · have hb : q.1 < 49 := (show ∀ q ∈ rX_, q.1 < 49 by decide) q hq
    rw [(o q.1 (by omega)).2.2.2.2]
    exact h.2.1 q hq
  · rw [(o 0 (by omega)).2.2.2.2]
    exact h.2.2.1
theorem wf_nw {σ : St_} (h : wf_ σ) (kind len : Nat) : wf_ (nw_ σ kind len) := by
  refine ⟨fun a ha => ?_, fun a k b hb => ?_⟩
  · have ha' : sn_ σ + 1 ≤ a := ha
    show va_up (kd_ σ) (sn_ σ) kind a = 99
    rw [va_up_ne _ _ (by omega)]
    exact h.1 a (by omega)
  · have hb' : va_up (sr_ σ) (sn_ σ) (fun _ => none) a k = some b := hb
    show b < sn_ σ + 1
    by_cases e : a = sn_ σ
    · rw [e, va_up_self] at hb'; cases hb'
    · rw [va_up_ne _ _ e] at hb'
      have := h.2 a k b hb'
      omega
theorem stp_go {σ1 : St_} (hX : ShX_ σ1) {b : Nat} (hb : 49 ≤ b) {a L : Nat} (hl : ln_ σ1 b = L) (haL : a + L ≤ 160) (g0 : Nat → Int32) : ∀ (k j g : Nat), j + k = L → k < g → f_X3_stepsOf_13 5000 g (uw_ σ1 b (fun q => if q < j then si_ σ1 18 (a + q) else g0 q)) 13 (nI a) b (nI j) = some (some b, uw_ σ1 b (fun q => if q < L then si_ σ1 18 (a + q) else g0 q)) := by
  intro k
  induction k with
  | zero =>
    intro j g h1 h2
    obtain ⟨g, rfl⟩ : ∃ g', g = g' + 1 := ⟨g - 1, by omega⟩
    have : j = L := by omega
    subst this
    show (if nI (ln_ σ1 b) ≤ nI j then _ else _) = _
    rw [hl, if_pos (nI_le (by omega) (by omega))]
  | succ k ih =>
    intro j g h1 h2
    obtain ⟨g, rfl⟩ : ∃ g', g = g' + 1 := ⟨g - 1, by omega⟩
    show (if nI (ln_ σ1 b) ≤ nI j then _ else (dr_ σ1 10 (sr_ σ1 13 7)).bind fun b2 => if (nI (ln_ σ1 b2)) ≤ (nI a + nI j) then _ else (ix_ (nI a + nI j) (ln_ σ1 b2)).bind fun j4 => (ix_ (nI j) (ln_ σ1 b)).bind fun j5 => (f_X3_stepsOf_13 5000 g) (ui_ (uw_ σ1 b (fun q => if q < j then si_ σ1 18 (a + q) else g0 q)) b j5 (si_ (uw_ σ1 b (fun q => if q < j then si_ σ1 18 (a + q) else g0 q)) b2 j4)) 13 (nI a) b (nI j + (1 : Int32))) = _
    rw [hl, if_neg (nI_ge (by omega) (by omega)), dx_13_7 hX, Option.bind_some, lx_18 hX, nI_add, if_neg (nI_ge (by omega) (by omega)), ix_ok (by omega) (by omega), Option.bind_some, ix_ok (by omega) (by omega), Option.bind_some, nI_1, ui_uw, g_si_uw, if_neg (by omega), ← ih (j + 1) g (by omega) (by omega)]
    congr 1
    apply uw_ext
    intro q
    rw [upd_g]
    by_cases e : q = j
    · rw [if_pos e, if_pos (by omega), e]
    · by_cases e2 : q < j
      · rw [if_neg e, if_pos e2, if_pos (by omega)]
      · rw [if_neg e, if_neg e2, if_neg (by omega)]
theorem stp {σ : St_} (hX : ShX_ σ) {a L : Nat} (haL : a + L ≤ 160) {c : Cd_} (hc : c.length = L) (hs : ∀ j, j < L → si_ σ 18 (a + j) = en_ (c.getD j (0, 0))) : ∃ σ', f_X3_stepsOf 5000 σ 13 (nI a) (nI (a + L)) = some (some (sn_ σ), σ') ∧ ShX_ σ' ∧ sn_ σ' = sn_ σ + 1 ∧ Ar_ σ' (sn_ σ) c ∧ Old_ σ σ' := by
  have h49 := hX.2.2.2.1
  have e : nI (a + L) - nI a = nI L := by
    have : nI (a + L) = nI L + nI a := by rw [nI_add]; congr 1; omega
    rw [this, Int32.add_sub_cancel]
  have e2 : (if (0 : Int32) < nI L then nI L else (0 : Int32)) = nI L := by
    by_cases z : L = 0
    · subst z; rfl
    · rw [if_pos (show (0 : Int32) < nI L from nI_lt (a := 0) (by omega) (by omega))]
  have hw := wf_nw hX.2.2.2.2 10 L
  have hX1 : ShX_ (nw_ σ 10 L) := hX.old (old_nw σ 10 L) hw (Nat.le_succ _)
  have hl : ln_ (nw_ σ 10 L) (sn_ σ) = L := va_up_self _ _ _
  have hk : kd_ (nw_ σ 10 L) (sn_ σ) = 10 := va_up_self _ _ _
  have h18 : si_ (nw_ σ 10 L) 18 = si_ σ 18 := (old_nw σ 10 L 18 (by omega)).2.2.1
  have w := stp_go hX1 h49 hl haL (si_ (nw_ σ 10 L) (sn_ σ)) L 0 5000 (by omega) (by omega)
  have w0 : uw_ (nw_ σ 10 L) (sn_ σ) (fun q => if q < 0 then si_ (nw_ σ 10 L) 18 (a + q) else si_ (nw_ σ 10 L) (sn_ σ) q) = nw_ σ 10 L := by
    conv => rhs; rw [← uw_id (nw_ σ 10 L) (sn_ σ)]
    exact uw_ext fun q => by rw [if_neg (by omega)]
  rw [w0] at w
  refine ⟨uw_ (nw_ σ 10 L) (sn_ σ) (fun q => if q < L then si_ (nw_ σ 10 L) 18 (a + q) else si_ (nw_ σ 10 L) (sn_ σ) q), ?_, hX1, rfl, ⟨hk, hl.trans hc.symm, fun j hj => ?_⟩, old_uw (old_nw σ 10 L) _ _ (Nat.le_refl _)⟩
  · unfold f_X3_stepsOf
    rw [e, e2, nI_clamp (by omega), if_pos ⟨nI_pos (by omega), by omega⟩]
    simp only [lt_]
    rw [show (0 : Int32) = nI 0 from rfl]
    exact w
  · rw [si_uw, if_pos (by omega), h18]
    exact hs j (by omega)
theorem Ar_.old {σ σ' : St_} {a : Nat} {c : Cd_} (h : Ar_ σ a c) (o : Old_ σ σ') (ha : a < sn_ σ) : Ar_ σ' a c := h.congr (o a ha).1 (o a ha).2.1 (fun j => congrFun (o a ha).2.2.1 j)
theorem getD_a (c1 c2 : Cd_) (j : Nat) : (c1 ++ c2).getD (c1.length + j) (0, 0) = c2.getD j (0, 0) := by
  rw [List.getD_eq_getElem?_getD, List.getD_eq_getElem?_getD, List.getElem?_append_right (by omega)]
  congr 2
  omega
theorem getD_b (c1 c2 : Cd_) (j : Nat) (h : j < c1.length) : (c1 ++ c2).getD j (0, 0) = c1.getD j (0, 0) := by
  rw [List.getD_eq_getElem?_getD, List.getD_eq_getElem?_getD, List.getElem?_append_left h]
/-- where it stands -/
theorem plc {σ0 σ : St_} {T : List Tk_} {n : Nat} (hT : Tok_ σ0 T) (hX : ShX_ σ) (e1 : si_ σ 13 1 = nI n) (e5 : si_ σ 13 5 = si_ σ0 13 5) (h16 : ∀ j, si_ σ 16 j = si_ σ0 16 j) {p : Nat} (hp : p ≤ T.length) (e6 : si_ σ 13 6 = nI p) : f_X3_place σ 13 = some (nI (pl_ n (T.drop p))) := by
  have h0 := hT.1
  unfold f_X3_place
  rw [e6, e5, hT.2.1]
  rcases Nat.lt_or_ge p T.length with h | h
  · rw [if_neg (bel_n h (by omega)), dx_13_3 hX, Option.bind_some, lx_16 hX, ix_ok (by omega) (by omega), Option.bind_some, h16, (hT.2.2.1 p h).2.1, dro_c T p h]
    rfl
  · rw [if_pos (bel_0.mpr (Or.inr (nI_le h (by omega)))), e1, dro_n T p h]
    rfl
def xB_ (r k : Nat) : Prop := xR_ r k ∨ xA_ r k ∨ (r = 13 ∧ (k = 9 ∨ k = 10))
/-- where a part ends is put down: the reader stands as it stood -/
theorem rq_mark {σ0 σ : St_} {T : List Tk_} {p : Nat} {cd : Cd_} (hT : Tok_ σ0 T) (h : Rq_ σ0 T σ p cd) (k : Nat) (hk : k = 9 ∨ k = 10) (v : Int32) : Tok_ (ui_ σ 13 k v) T ∧ Rq_ (ui_ σ 13 k v) T (ui_ σ 13 k v) p cd := by
  obtain ⟨t1, t2, t3, t4, t5⟩ := hT
  obtain ⟨r1, r2, r3, r4, r5, r6⟩ := h
  refine ⟨⟨t1, ?_, fun j hj => ?_, t4, t5⟩, ⟨r1, Fr_.refl _ _, r3, ?_, ?_, fun j hj => ?_⟩⟩
  · rw [g_si_ui, if_pos rfl, if_neg (by omega), r2.i (by simp [xR_])]
    exact t2
  · rw [g_si_ne (by omega), g_si_ne (by omega), g_si_ne (by omega), r2.i (by simp [xR_]), r2.i (by simp [xR_]), r2.i (by simp [xR_])]
    exact t3 j hj
  · rw [g_si_ui, if_pos rfl, if_neg (by omega)]
    exact r4
  · rw [g_si_ui, if_pos rfl, if_neg (by omega)]
    exact r5
  · rw [g_si_ne (by omega)]
    exact r6 j hj
theorem read_ok {σ : St_} {c : Nat → Nat} {n : Nat} (ht : Tp_ σ c n) :
    (∀ ce cs cr r, pText_ (tk_ c n n 0) = (some (ce, cs, cr), r) → ∃ σ1 σ' b, f_X3_reads 5000 σ 13 = some (1, σ1) ∧ f_X3_made 5000 σ1 13 = some (some b, σ') ∧ ShX_ σ1 ∧ b = sn_ σ ∧ Fr_ (fun r k => ¬ xB_ r k) σ σ1 ∧ Old_ σ1 σ' ∧ ShX_ σ' ∧ kd_ σ' b = 5 ∧ sr_ σ' b 0 = some (b + 1) ∧ sr_ σ' b 1 = some (b + 2) ∧ sr_ σ' b 2 = some (b + 3) ∧ Ar_ σ' (b + 1) ce ∧ Ar_ σ' (b + 2) cs ∧ Ar_ σ' (b + 3) cr) ∧
    (∀ r, pText_ (tk_ c n n 0) = (none, r) → ∃ σ', f_X3_reads 5000 σ 13 = some (0, σ') ∧ Fr_ (fun r k => ¬ xB_ r k) σ σ' ∧ ShX_ σ' ∧ f_X3_place σ' 13 = some (nI (pl_ n r))) := by
  obtain ⟨σa, fa, hT, hXa, hFa⟩ := find_ok ht
  have h160 := hT.1
  generalize tk_ c n n 0 = T at *
  have hR0 : Rq_ σa T (ui_ (ui_ σa 13 6 0) 13 8 0) 0 [] := ⟨hXa, Fr_.ui (Fr_.ui (Fr_.refl _ _) _ _ _ (by simp [xR_])) _ _ _ (by simp [xR_]), by omega, rfl, rfl, fun j hj => absurd hj (by simp)⟩
  have hFb : Fr_ (fun r k => ¬ xB_ r k) σ σa := hFa.mono fun r k z w => z (Or.inr (Or.inl w))
  have h1a : si_ σa 13 1 = nI n := (hFa.i (by simp [xA_])).trans ht.2.2.1
  have fb : ∀ {β τ : St_}, Fr_ (fun r k => ¬ xB_ r k) σ β → Fr_ (fun r k => ¬ xR_ r k) β τ → Fr_ (fun r k => ¬ xB_ r k) σ τ := fun g h => Fr_.trans g (h.mono fun r k z w => z (Or.inl w))
  have pl0 : ∀ {β τ : St_} {p : Nat} {cd : Cd_}, Tok_ β T → si_ β 13 1 = nI n → Rq_ β T τ p cd → f_X3_place τ 13 = some (nI (pl_ n (T.drop p))) := fun t q h => plc t h.1 ((h.2.1.i (by simp [xR_])).trans q) (h.2.1.i (by simp [xR_])) (fun j => h.2.1.i (by simp [xR_])) h.2.2.1 h.2.2.2.1
  unfold f_X3_reads pText_
  rw [fa, Option.bind_some]
  obtain ⟨s1, s2⟩ := rd_part hT 4 (by omega) (by omega) hR0 (by simp)
  rw [List.drop_zero] at s1 s2
  rcases hP : pPart_ 4 T with ⟨_ | ce, r⟩
  · obtain ⟨σ', p', cd', e1, e2, e3⟩ := s2 r hP
    rw [show (4 : Int32) = nI 4 from rfl, e1, Option.bind_some, if_pos rfl]
    refine ⟨fun _ _ _ _ he => (by cases he), fun r' he => ?_⟩
    cases he
    exact ⟨σ', rfl, fb hFb e2.2.1, e2.1, by rw [e3]; exact pl0 hT h1a e2⟩
  obtain ⟨σ1, p1, e1, e2, e3, e4⟩ := s1 ce r hP
  rw [show (4 : Int32) = nI 4 from rfl, e1, Option.bind_some, if_neg (show ¬ (1 : Int32) = 0 by decide)]
  simp only
  obtain ⟨hT1, hR1⟩ := rq_mark hT e2 9 (Or.inl rfl) (si_ σ1 13 8)
  have hF1 : Fr_ (fun r k => ¬ xB_ r k) σ (ui_ σ1 13 9 (si_ σ1 13 8)) := Fr_.ui (fb hFb e2.2.1) _ _ _ (by simp [xB_])
  have h11 : si_ (ui_ σ1 13 9 (si_ σ1 13 8)) 13 1 = nI n := by
    rw [g_si_ui, if_pos rfl, if_neg (by decide)]
    exact (e2.2.1.i (by simp [xR_])).trans h1a
  have q9 : si_ (ui_ σ1 13 9 (si_ σ1 13 8)) 13 9 = si_ σ1 13 8 := by rw [g_si_ui, if_pos rfl, if_pos rfl]
  generalize ui_ σ1 13 9 (si_ σ1 13 8) = β1 at *
  obtain ⟨s1, s2⟩ := rd_part hT1 5 (by omega) (by omega) hR1 e4
  rw [e3]
  rcases hP2 : pPart_ 5 (T.drop p1) with ⟨_ | cs, r2⟩
  · obtain ⟨σ', p', cd', g1, g2, g3⟩ := s2 r2 hP2
    rw [show (5 : Int32) = nI 5 from rfl, g1, Option.bind_some, if_pos rfl]
    refine ⟨fun _ _ _ _ he => (by cases he), fun r' he => ?_⟩
    cases he
    exact ⟨σ', rfl, fb hF1 g2.2.1, g2.1, by rw [g3]; exact pl0 hT1 h11 g2⟩
  obtain ⟨σ2, p2, g1, g2, g3, g4⟩ := s1 cs r2 hP2
  rw [show (5 : Int32) = nI 5 from rfl, g1, Option.bind_some, if_neg (show ¬ (1 : Int32) = 0 by decide)]
  simp only
  obtain ⟨hT2, hR2⟩ := rq_mark hT1 g2 10 (Or.inr rfl) (si_ σ2 13 8)
  have hF2 : Fr_ (fun r k => ¬ xB_ r k) σ (ui_ σ2 13 10 (si_ σ2 13 8)) := Fr_.ui (fb hF1 g2.2.1) _ _ _ (by simp [xB_])
  have h12 : si_ (ui_ σ2 13 10 (si_ σ2 13 8)) 13 1 = nI n := by
    rw [g_si_ui, if_pos rfl, if_neg (by decide)]
    exact (g2.2.1.i (by simp [xR_])).trans h11
  have q10 : si_ (ui_ σ2 13 10 (si_ σ2 13 8)) 13 10 = si_ σ2 13 8 := by rw [g_si_ui, if_pos rfl, if_pos rfl]
  have q9b : si_ (ui_ σ2 13 10 (si_ σ2 13 8)) 13 9 = si_ σ1 13 8 := by
    rw [g_si_ui, if_pos rfl, if_neg (by decide)]
    exact (g2.2.1.i (by simp [xR_])).trans q9
  generalize ui_ σ2 13 10 (si_ σ2 13 8) = β2 at *
  obtain ⟨s1, s2⟩ := rd_part hT2 6 (by omega) (by omega) hR2 g4
  rw [g3]
  rcases hP3 : pPart_ 6 (T.drop p2) with ⟨_ | cr, r3⟩
  · obtain ⟨σ', p', cd', w1, w2, w3⟩ := s2 r3 hP3
    rw [show (6 : Int32) = nI 6 from rfl, w1, Option.bind_some, if_pos rfl]
    refine ⟨fun _ _ _ _ he => (by cases he), fun r' he => ?_⟩
    cases he
    exact ⟨σ', rfl, fb hF2 w2.2.1, w2.1, by rw [w3]; exact pl0 hT2 h12 w2⟩
  obtain ⟨σ3, p3, w1, w2, w3, w4⟩ := s1 cr r3 hP3
  rw [show (6 : Int32) = nI 6 from rfl, w1, Option.bind_some, if_neg (show ¬ (1 : Int32) = 0 by decide)]
  simp only
  rw [tok_t hT2 w2, Option.bind_some, w3]
  rcases Nat.lt_or_ge p3 T.length with h | h
  · have hd := dro_c T p3 h
    have hne : ¬ hd_ (T.drop p3) = 0 := by
      rw [hd]
      have := (hT.2.2.2.1 (T.getD p3 (0, 0, 0)) (by rw [List.getD_eq_getElem?_getD, List.getElem?_eq_getElem h]; exact List.getElem_mem h)).1
      show ¬ (T.getD p3 (0, 0, 0)).1 = 0
      omega
    have := hd_lt hT p3
    rw [if_neg (show ¬ nI (hd_ (T.drop p3)) = 0 from fun z => hne ((nI_eq (b := 0) (by omega) (by omega)).mp z))]
    have hpl := pl0 hT2 h12 w2
    rw [hd] at hpl ⊢
    refine ⟨fun _ _ _ _ he => (by cases he), fun r' he => ?_⟩
    cases he
    exact ⟨σ3, rfl, fb hF2 w2.2.1, w2.1, hpl⟩
  · rw [dro_n T p3 h]
    rw [if_pos (show nI (hd_ []) = 0 from rfl)]
    refine ⟨fun _ _ _ _ he => ?_, fun r' he => (by cases he)⟩
    cases he
    have hX3 := w2.1
    have h49 := hX3.2.2.2.1
    have hlen : (ce ++ cs ++ cr).length ≤ 160 := by
      have := w2.2.2.1
      have hh : ([] ++ ce ++ cs ++ cr).length = (ce ++ cs ++ cr).length := by simp
      omega
    have hst : ∀ j, j < (ce ++ cs ++ cr).length → si_ σ3 18 j = en_ ((ce ++ cs ++ cr).getD j (0, 0)) := by
      have := w2.2.2.2.2.2
      simpa using this
    have k1 : si_ σ1 13 8 = nI ce.length := by have := e2.2.2.2.2.1; simpa using this
    have k2 : si_ σ2 13 8 = nI (ce.length + cs.length) := by have := g2.2.2.2.2.1; simpa using this
    have k3 : si_ σ3 13 8 = nI (ce.length + cs.length + cr.length) := by have := w2.2.2.2.2.1; simpa [Nat.add_assoc] using this
    simp only [List.length_append] at hlen hst
    have k9 : si_ σ3 13 9 = nI ce.length := ((w2.2.1.i (by simp [xR_])).trans q9b).trans k1
    have k10 : si_ σ3 13 10 = nI (ce.length + cs.length) := ((w2.2.1.i (by simp [xR_])).trans q10).trans k2
    -- the new text
    have wf0 := wf_nw hX3.2.2.2.2 5 0
    have hX4 : ShX_ (nw_ σ3 5 0) := hX3.old (old_nw σ3 5 0) wf0 (Nat.le_succ _)
    have o4 := old_nw σ3 5 0
    have h18 : ∀ {τ : St_}, Old_ σ3 τ → ∀ j, si_ τ 18 j = si_ σ3 18 j := fun o j => congrFun (o 18 (by omega)).2.2.1 j
    obtain ⟨σ5, a1, a2, a3, a4, a5⟩ := stp hX4 (a := 0) (L := ce.length) (by omega) (c := ce) rfl (fun j hj => by rw [h18 o4, Nat.zero_add, hst j (by omega), List.append_assoc, getD_b _ _ _ hj])
    have o5 : Old_ σ3 σ5 := o4.trans a5 (Nat.le_succ _)
    have sn4 : sn_ (nw_ σ3 5 0) = sn_ σ3 + 1 := rfl
    rw [sn4] at a1 a3 a4
    obtain ⟨σ6, b1, b2, b3, b4, b5⟩ := stp a2 (a := ce.length) (L := cs.length) (by omega) (c := cs) rfl (fun j hj => by rw [h18 o5, hst _ (by omega), List.append_assoc, getD_a, getD_b _ _ _ hj])
    have o6 : Old_ σ3 σ6 := o5.trans b5 (by omega)
    rw [a3] at b1 b3 b4
    obtain ⟨σ7, c1, c2, c3, c4, c5⟩ := stp b2 (a := ce.length + cs.length) (L := cr.length) (by omega) (c := cr) rfl (fun j hj => by rw [h18 o6, hst _ (by omega), ← List.length_append, getD_a])
    have o7 : Old_ σ3 σ7 := o6.trans c5 (by omega)
    rw [b3] at c1 c3 c4
    have k6 : si_ σ6 13 8 = nI (ce.length + cs.length + cr.length) := (congrFun (o6 13 (by omega)).2.2.1 8).trans k3
    have hb5 : kd_ σ7 (sn_ σ3) = 5 := by
      have q1 : kd_ (nw_ σ3 5 0) (sn_ σ3) = 5 := va_up_self _ _ _
      rw [(c5 _ (by omega)).1, (b5 _ (by omega)).1, (a5 _ (by rw [sn4]; omega)).1, q1]
    have ar1 : Ar_ σ7 (sn_ σ3 + 1) ce := (a4.old b5 (by omega)).old c5 (by omega)
    have ar2 : Ar_ σ7 (sn_ σ3 + 1 + 1) cs := b4.old c5 (by omega)
    have wf7 := c2.2.2.2.2
    have hsn : sn_ σ3 = sn_ σ := (fb hF2 w2.2.1).2.2.1
    have hXF : ShX_ (f_X5_init σ7 (sn_ σ3) (sn_ σ3 + 1) (sn_ σ3 + 1 + 1) (sn_ σ3 + 1 + 1 + 1)) := by
      unfold f_X5_init
      have v1 := (up_r σ7 (sn_ σ3) 0 (some (sn_ σ3 + 1)) (fun b hb => by cases hb; omega)).2.2.2.2 wf7
      have v2 := (up_r _ (sn_ σ3) 1 (some (sn_ σ3 + 1 + 1)) (fun b hb => by cases hb; show _ < sn_ σ7; omega)).2.2.2.2 v1
      have v3 := (up_r _ (sn_ σ3) 2 (some (sn_ σ3 + 1 + 1 + 1)) (fun b hb => by cases hb; show _ < sn_ σ7; omega)).2.2.2.2 v2
      refine ShX_.old hX3 (σ' := ur_ (ur_ (ur_ σ7 (sn_ σ3) 0 (some (sn_ σ3 + 1))) (sn_ σ3) 1 (some (sn_ σ3 + 1 + 1))) (sn_ σ3) 2 (some (sn_ σ3 + 1 + 1 + 1))) (fun x hx => ?_) v3 (by show _ ≤ sn_ σ7; omega)
      obtain ⟨q1, q2, q3, q4, q5⟩ := o7 x hx
      refine ⟨q1, q2, q3, q4, ?_⟩
      rw [← q5]
      funext k
      rw [g_sr_ur, if_neg (by omega), g_sr_ur, if_neg (by omega), g_sr_ur, if_neg (by omega)]
    have y : ∀ {τ : St_}, Old_ σ3 τ → ∀ k, si_ τ 13 k = si_ σ3 13 k := fun o k => congrFun (o 13 (by omega)).2.2.1 k
    refine ⟨σ3, f_X5_init σ7 (sn_ σ3) (sn_ σ3 + 1) (sn_ σ3 + 1 + 1) (sn_ σ3 + 1 + 1 + 1), sn_ σ3, rfl, ?_, hX3, hsn, fb hF2 w2.2.1, ?_, ?_, hb5, ?_, ?_, ?_, ar1, ar2, c4⟩
    · show ((f_X3_stepsOf 5000 (nw_ σ3 5 0) 13 0 (si_ (nw_ σ3 5 0) 13 9)).bind fun q17 => _) = _
      rw [y o4 9, k9, show (0 : Int32) = nI 0 from rfl, show nI ce.length = nI (0 + ce.length) by rw [Nat.zero_add], a1, Option.bind_some]
      simp only
      rw [dr_ok rfl a4.1, Option.bind_some, y o5 9, k9, y o5 10, k10, b1, Option.bind_some]
      simp only
      rw [dr_ok rfl b4.1, Option.bind_some, y o6 10, k10, k6, c1, Option.bind_some]
      simp only
      rw [dr_ok rfl c4.1, Option.bind_some]
    · intro x hx
      obtain ⟨q1, q2, q3, q4, q5⟩ := o7 x hx
      refine ⟨q1, q2, q3, q4, ?_⟩
      rw [← q5]
      unfold f_X5_init
      funext k
      rw [g_sr_ur, if_neg (by omega), g_sr_ur, if_neg (by omega), g_sr_ur, if_neg (by omega)]
    · exact hXF
    · unfold f_X5_init
      rw [g_sr_ur, if_pos rfl, if_neg (by decide), g_sr_ur, if_pos rfl, if_neg (by decide), g_sr_ur, if_pos rfl, if_pos rfl]
    · unfold f_X5_init
      rw [g_sr_ur, if_pos rfl, if_neg (by decide), g_sr_ur, if_pos rfl, if_pos rfl]
    · unfold f_X5_init
      rw [g_sr_ur, if_pos rfl, if_pos rfl]
