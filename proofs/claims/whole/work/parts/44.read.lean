/-! THE READER HERE: tokens to steps -/
def Tok_ (σ : St_) (T : List Tk_) : Prop := T.length ≤ 160 ∧ si_ σ 13 5 = nI T.length ∧ (∀ j, j < T.length → si_ σ 15 j = nI (T.getD j (0, 0, 0)).1 ∧ si_ σ 16 j = nI (T.getD j (0, 0, 0)).2.1 ∧ si_ σ 17 j = nI (T.getD j (0, 0, 0)).2.2) ∧ (∀ x ∈ T, 0 < x.1 ∧ x.1 < 256) ∧ To_ T
def xR_ (r k : Nat) : Prop := (r = 13 ∧ (k = 6 ∨ k = 8)) ∨ r = 18
def Rq_ (σ0 : St_) (T : List Tk_) (σ : St_) (p : Nat) (cd : Cd_) : Prop := ShX_ σ ∧ Fr_ (fun r k => ¬ xR_ r k) σ0 σ ∧ p ≤ T.length ∧ si_ σ 13 6 = nI p ∧ si_ σ 13 8 = nI cd.length ∧ ∀ j, j < cd.length → si_ σ 18 j = en_ (cd.getD j (0, 0))
theorem dro_c (T : List Tk_) (p : Nat) (h : p < T.length) : T.drop p = T.getD p (0, 0, 0) :: T.drop (p + 1) := by
  rw [List.getD_eq_getElem?_getD, List.getElem?_eq_getElem h]
  exact List.drop_eq_getElem_cons h
theorem dro_n (T : List Tk_) (p : Nat) (h : T.length ≤ p) : T.drop p = [] := List.drop_eq_nil_of_le h
theorem hd_lt {σ0 : St_} {T : List Tk_} (h : Tok_ σ0 T) (p : Nat) : hd_ (T.drop p) < 256 := by
  rcases Nat.lt_or_ge p T.length with h1 | h1
  · rw [dro_c T p h1]
    exact (h.2.2.2.1 _ (by rw [List.getD_eq_getElem?_getD, List.getElem?_eq_getElem h1]; exact List.getElem_mem h1)).2
  · rw [dro_n T p h1]
    exact Nat.zero_lt_succ _
theorem hd_in {T : List Tk_} {p : Nat} (h : hd_ (T.drop p) ≠ 0) : p < T.length := by
  rcases Nat.lt_or_ge p T.length with h1 | h1
  · exact h1
  · rw [dro_n T p h1] at h
    exact absurd rfl h
theorem tok_t {σ0 σ : St_} {T : List Tk_} {p : Nat} {cd : Cd_} (hT : Tok_ σ0 T) (h : Rq_ σ0 T σ p cd) : f_X3_token σ 13 = some (nI (hd_ (T.drop p))) := by
  obtain ⟨hX, hf, hp, e6, -, -⟩ := h
  have h160 := hT.1
  unfold f_X3_token
  rw [e6, if_neg (nI_pos (by omega)), hf.i (r := 13) (k := 5) (by simp [xR_]), hT.2.1]
  rcases Nat.lt_or_ge p T.length with h1 | h1
  · rw [if_neg (nI_ge h1 (by omega)), dx_13_2 hX, Option.bind_some, lx_15 hX, if_neg (nI_ge (by omega) (by omega)), ix_ok (by omega) (by omega), Option.bind_some, hf.i (r := 15) (k := p) (by simp [xR_]), (hT.2.2.1 p h1).1, dro_c T p h1]
    rfl
  · rw [if_pos (nI_le h1 (by omega)), dro_n T p h1]
    rfl
theorem rq_go {σ0 σ : St_} {T : List Tk_} {p : Nat} {cd : Cd_} (h : Rq_ σ0 T σ p cd) (hp : p < T.length) : Rq_ σ0 T (f_X3_goOn σ 13) (p + 1) cd := by
  obtain ⟨hX, hf, -, e6, e8, hs⟩ := h
  unfold f_X3_goOn
  rw [e6, nI_1]
  exact ⟨hX, Fr_.ui hf _ _ _ (by simp [xR_]), hp, by rw [g_si_ui, if_pos rfl, if_pos rfl], e8, fun j hj => by rw [g_si_ne (by decide)]; exact hs j hj⟩
theorem rq_pass {σ0 σ : St_} {T : List Tk_} {p : Nat} {cd : Cd_} (hT : Tok_ σ0 T) (h : Rq_ σ0 T σ p cd) (w : Nat) (hw : w < 256) : f_X3_pass σ 13 (nI w) = if hd_ (T.drop p) = w then some (1, f_X3_goOn σ 13) else some (0, σ) := by
  unfold f_X3_pass
  rw [tok_t hT h, Option.bind_some]
  have := hd_lt hT p
  by_cases e : hd_ (T.drop p) = w
  · rw [if_pos e, if_pos (by rw [e])]
  · rw [if_neg e, if_neg (fun z => e ((nI_eq (by omega) (by omega)).mp z))]
theorem rq_emit {σ0 σ : St_} {T : List Tk_} {p : Nat} {cd : Cd_} (h : Rq_ σ0 T σ p cd) (s : Nat × Nat) (hc : cd.length < 160) : ∃ σ', f_X3_emit σ 13 (en_ s) = some σ' ∧ Rq_ σ0 T σ' p (cd ++ [s]) := by
  obtain ⟨hX, hf, hp, e6, e8, hs⟩ := h
  unfold f_X3_emit
  rw [dx_13_7 hX, Option.bind_some, lx_18 hX, e8, if_neg (bel_n hc (by omega)), ix_ok hc (by omega), Option.bind_some]
  have e : si_ (ui_ σ 18 cd.length (en_ s)) 13 8 = nI cd.length := e8
  rw [e, nI_1]
  refine ⟨_, rfl, hX, Fr_.ui (Fr_.ui hf _ _ _ (by simp [xR_])) _ _ _ (by simp [xR_]), hp, e6, ?_, fun j hj => ?_⟩
  · rw [g_si_ui, if_pos rfl, if_pos rfl]; simp
  · rw [g_si_ne (by decide), g_si_ui, if_pos rfl]
    simp at hj
    by_cases e : j = cd.length
    · rw [if_pos e, e]; simp
    · rw [if_neg e, hs j (by omega)]
      rw [List.getD_eq_getElem?_getD, List.getD_eq_getElem?_getD, List.getElem?_append_left (by omega)]
/-- a reading method is a parser -/
def PC_ (σ0 : St_) (T : List Tk_) (F : Rc_) (lev : Nat) (P : List Tk_ → PR_) : Prop := ∀ (σ : St_) (p : Nat) (cd : Cd_) (q : Nat), Rq_ σ0 T σ p cd → cd.length + q ≤ p →
  (∀ c r, P (T.drop p) = (some c, r) → ∃ σ' p', F σ 13 (nI lev) = some (1, σ') ∧ Rq_ σ0 T σ' p' (cd ++ c) ∧ r = T.drop p' ∧ (cd ++ c).length + q ≤ p' ∧ p < p') ∧
  (∀ r, P (T.drop p) = (none, r) → ∃ σ' p' cd', F σ 13 (nI lev) = some (0, σ') ∧ Rq_ σ0 T σ' p' cd' ∧ r = T.drop p')
theorem pc_loop {σ0 : St_} {T : List Tk_} (hT : Tok_ σ0 T) {F : Rc_} {lev : Nat} {P : List Tk_ → PR_} (hF : PC_ σ0 T F lev P) {sg : Nat → Bool} {op : Nat → Nat} (hsg : sg 0 = false) (Lf : Nat → St_ → Nat → Int32 → Int32 → Option (Int32 × St_))
    (hL1 : ∀ g σ p cd i, i < 2 ^ 31 → Rq_ σ0 T σ p cd → sg (hd_ (T.drop p)) = false → Lf (g + 1) σ 13 (nI lev) (nI i) = some (1, σ))
    (hL2 : ∀ g σ p cd i, i < 160 → Rq_ σ0 T σ p cd → sg (hd_ (T.drop p)) = true → Lf (g + 1) σ 13 (nI lev) (nI i) = (F (f_X3_goOn σ 13) 13 (nI lev)).bind fun q5 => if q5.1 = 0 then some ((0 : Int32), q5.2) else (f_X3_emit q5.2 13 (en_ (op (hd_ (T.drop p)), 0))).bind fun q8 => Lf g q8 13 (nI lev) (nI (i + 1))) :
    ∀ (k g : Nat) (σ : St_) (p : Nat) (acc : Cd_) (cd : Cd_) (q i : Nat), T.length - p ≤ k → T.length - p < g → i + (T.length - p) ≤ 160 → Rq_ σ0 T σ p (cd ++ acc) → (cd ++ acc).length + q ≤ p →
    (∀ c r, pLoop_ sg op P k acc (T.drop p) = (some c, r) → ∃ σ' p', Lf g σ 13 (nI lev) (nI i) = some (1, σ') ∧ Rq_ σ0 T σ' p' (cd ++ c) ∧ r = T.drop p' ∧ (cd ++ c).length + q ≤ p' ∧ p ≤ p') ∧
    (∀ r, pLoop_ sg op P k acc (T.drop p) = (none, r) → ∃ σ' p' cd', Lf g σ 13 (nI lev) (nI i) = some (0, σ') ∧ Rq_ σ0 T σ' p' cd' ∧ r = T.drop p') := by
  intro k
  induction k with
  | zero =>
    intro g σ p acc cd q i h1 h2 h3 hR hq
    obtain ⟨g, rfl⟩ : ∃ g', g = g' + 1 := ⟨g - 1, by omega⟩
    have h0 := hT.1
    have e : Lf (g + 1) σ 13 (nI lev) (nI i) = some (1, σ) := hL1 g σ p _ i (by omega) hR (by rw [dro_n T p (by omega)]; exact hsg)
    exact ⟨fun c r he => by cases he; exact ⟨σ, p, e, hR, rfl, hq, Nat.le_refl _⟩, fun r he => by cases he⟩
  | succ k ih =>
    intro g σ p acc cd q i h1 h2 h3 hR hq
    obtain ⟨g, rfl⟩ : ∃ g', g = g' + 1 := ⟨g - 1, by omega⟩
    have h0 := hT.1
    unfold pLoop_
    by_cases a : sg (hd_ (T.drop p)) = true
    · rw [if_pos a]
      have hp : p < T.length := hd_in (fun z => by rw [z, hsg] at a; cases a)
      rw [hL2 g σ p _ i (by omega) hR a]
      have ht : (T.drop p).tail = T.drop (p + 1) := by rw [dro_c T p hp]; rfl
      rw [ht]
      obtain ⟨s1, s2⟩ := hF _ _ _ (q + 1) (rq_go hR hp) (by omega)
      rcases hP : P (T.drop (p + 1)) with ⟨_ | c, r⟩
      · obtain ⟨σ', p', cd', e1, e2, e3⟩ := s2 r hP
        rw [e1, Option.bind_some, if_pos rfl]
        refine ⟨fun c r he => (by cases he), fun r' he => ?_⟩
        cases he
        exact ⟨σ', p', cd', rfl, e2, e3⟩
      · obtain ⟨σ', p', e1, e2, e3, e4, e5⟩ := s1 c r hP
        have e2p := e2.2.2.1
        rw [e1, Option.bind_some, if_neg (show ¬ (1 : Int32) = 0 by decide)]
        obtain ⟨σ2, f1, f2⟩ := rq_emit e2 (op (hd_ (T.drop p)), 0) (by omega)
        rw [f1, Option.bind_some]
        simp only
        rw [e3]
        rw [List.append_assoc, List.append_assoc, ← List.append_assoc acc] at f2
        exact (fun ⟨g1, g2⟩ => ⟨fun c r he => (fun ⟨σ3, p3, w1, w2, w3, w4, w5⟩ => ⟨σ3, p3, w1, w2, w3, w4, by omega⟩) (g1 c r he), g2⟩) (ih g σ2 p' (acc ++ c ++ [(op (hd_ (T.drop p)), 0)]) cd q (i + 1) (by omega) (by omega) (by omega) f2 (by simp at e4 ⊢; omega))
    · rw [if_neg a]
      have e : Lf (g + 1) σ 13 (nI lev) (nI i) = some (1, σ) := hL1 g σ p _ i (by omega) hR (by simpa using a)
      exact ⟨fun c r he => by cases he; exact ⟨σ, p, e, hR, rfl, hq, Nat.le_refl _⟩, fun r he => by cases he⟩
theorem pc_many {σ0 : St_} {T : List Tk_} (hT : Tok_ σ0 T) {F : Rc_} {lev : Nat} {P : List Tk_ → PR_} (hF : PC_ σ0 T F lev P) {sg : Nat → Bool} {op : Nat → Nat} (hsg : sg 0 = false) (Lf : Nat → St_ → Nat → Int32 → Int32 → Option (Int32 × St_))
    (hL1 : ∀ g σ p cd i, i < 2 ^ 31 → Rq_ σ0 T σ p cd → sg (hd_ (T.drop p)) = false → Lf (g + 1) σ 13 (nI lev) (nI i) = some (1, σ))
    (hL2 : ∀ g σ p cd i, i < 160 → Rq_ σ0 T σ p cd → sg (hd_ (T.drop p)) = true → Lf (g + 1) σ 13 (nI lev) (nI i) = (F (f_X3_goOn σ 13) 13 (nI lev)).bind fun q5 => if q5.1 = 0 then some ((0 : Int32), q5.2) else (f_X3_emit q5.2 13 (en_ (op (hd_ (T.drop p)), 0))).bind fun q8 => Lf g q8 13 (nI lev) (nI (i + 1)))
    (G : Rc_) (hG : ∀ σ, G σ 13 (nI lev) = (F σ 13 (nI lev)).bind fun q2 => if q2.1 = 0 then some ((0 : Int32), q2.2) else Lf 5000 q2.2 13 (nI lev) (nI 0)) : PC_ σ0 T G lev (pMany_ sg op P) := by
  intro σ p cd q hR hq
  obtain ⟨s1, s2⟩ := hF σ p cd q hR hq
  have h0 := hT.1
  unfold pMany_
  rw [hG]
  rcases hP : P (T.drop p) with ⟨_ | c, r⟩
  · obtain ⟨σ', p', cd', e1, e2, e3⟩ := s2 r hP
    rw [e1, Option.bind_some, if_pos rfl]
    refine ⟨fun c r he => (by cases he), fun r' he => ?_⟩
    cases he
    exact ⟨σ', p', cd', rfl, e2, e3⟩
  · obtain ⟨σ', p', e1, e2, e3, e4, e5⟩ := s1 c r hP
    rw [e1, Option.bind_some, if_neg (show ¬ (1 : Int32) = 0 by decide)]
    simp only
    rw [e3]
    obtain ⟨g1, g2⟩ := pc_loop hT hF hsg Lf hL1 hL2 (T.drop p').length 5000 σ' p' c cd q 0 (by rw [List.length_drop]; omega) (by omega) (by omega) e2 e4
    exact ⟨fun c r he => (fun ⟨σ3, p3, w1, w2, w3, w4, w5⟩ => ⟨σ3, p3, w1, w2, w3, w4, by omega⟩) (g1 c r he), g2⟩
