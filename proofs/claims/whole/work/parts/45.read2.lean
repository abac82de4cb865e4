/-! THE READER HERE: its methods, level by level -/
theorem nmv_b : ∀ t, t < 256 → (f_X8_isBelow (nI t - 16) 6 = 0 ↔ ¬ (16 ≤ t ∧ t < 22)) := by decide +kernel
theorem nmv_e : ∀ t, t < 22 → 16 ≤ t → ((nI t - 16) <<< ((4 : Int32) &&& 31)) ||| 1 = en_ (1, t - 16) := by decide +kernel
theorem vl_e (v : Nat) (h : v < 10000) : (nI v <<< ((4 : Int32) &&& 31)) ||| 0 = en_ (0, v) := by
  rw [pk_shlN ((4 : Int32) &&& 31) 4 (by decide +kernel) (by omega), Int32.or_zero]
  unfold en_
  congr 1
  omega
theorem nI_ne {a b : Nat} (ha : a < 256) (hb : b < 256) (h : a ≠ b) : ¬ nI a = nI b := fun z => h ((nI_eq (by omega) (by omega)).mp z)
theorem pc_one {σ0 : St_} {T : List Tk_} (hT : Tok_ σ0 T) {rOr rNot rOne : Rc_} {fu lev : Nat} {can : Bool} {nOr nOne : List Tk_ → PR_} (hl : lev ≤ 5) (hc : can = true ↔ lev < 5) (h1 : can = true → PC_ σ0 T rOr (lev + 1) nOr) (h2 : can = true → PC_ σ0 T rOne (lev + 1) nOne) : PC_ σ0 T (f_X3_readOne rOr rNot rOne fu) lev (pOne_ can nOr nOne) := by
  intro σ p cd q hR hq
  have h160 := hT.1
  have hp := hR.2.2.1
  have hX := hR.1
  rcases Nat.lt_or_ge p T.length with hp | hp
  · have hh := hd_lt hT p
    unfold f_X3_readOne
    rw [tok_t hT hR, Option.bind_some]
    have hto : (T.getD p (0, 0, 0)).1 = 2 → (T.getD p (0, 0, 0)).2.2 < 10000 := hT.2.2.2.2 _ (by rw [List.getD_eq_getElem?_getD, List.getElem?_eq_getElem hp]; exact List.getElem_mem hp)
    have hva := (hT.2.2.1 p hp).2.2
    have hgo := rq_go hR hp
    have hdr := dro_c T p hp
    rcases hx : T.getD p (0, 0, 0) with ⟨t, pl, v⟩
    rw [hx] at hto hva hdr
    rw [hdr] at hh ⊢
    have e : hd_ ((t, pl, v) :: T.drop (p + 1)) = t := rfl
    rw [e] at hh ⊢
    unfold pOne_
    simp only
    by_cases a1 : t = 2
    · subst a1
      rw [if_pos rfl, if_pos (show nI 2 = 2 from rfl)]
      unfold f_X3_readNumber
      rw [dx_13_4 hX, Option.bind_some, lx_17 hX, hR.2.2.2.1, if_neg (bel_n (by omega) (by omega)), ix_ok (by omega) (by omega), Option.bind_some, hR.2.1.i (r := 17) (k := p) (by simp [xR_]), hva, vl_e v (hto rfl)]
      obtain ⟨σ1, f1, f2⟩ := rq_emit hR (0, v) (by omega)
      rw [f1, Option.bind_some, Option.bind_some]
      refine ⟨fun c r he => ?_, fun r he => by cases he⟩
      cases he
      exact ⟨_, p + 1, rfl, rq_go f2 hp, rfl, by simp; omega, by omega⟩
    rw [if_neg a1, if_neg (show ¬ nI t = 2 from nI_ne (b := 2) hh (by omega) a1)]
    by_cases a2 : 16 ≤ t ∧ t < 22
    · rw [if_pos a2, if_neg (fun z => (nmv_b t hh).mp z a2), nmv_e t a2.2 a2.1]
      obtain ⟨σ1, f1, f2⟩ := rq_emit hgo (1, t - 16) (by omega)
      rw [f1, Option.bind_some]
      refine ⟨fun c r he => ?_, fun r he => by cases he⟩
      cases he
      exact ⟨_, p + 1, rfl, f2, rfl, by simp; omega, by omega⟩
    rw [if_neg a2, if_pos ((nmv_b t hh).mpr a2)]
    unfold f_X3_readOne_57
    by_cases b : lev < 5
    · have hcan := hc.mpr b
      have lv1 : nI lev < (5 : Int32) := nI_lt (b := 5) b (by omega)
      rw [if_pos lv1, nI_1]
      by_cases a3 : t = 45
      · subst a3
        rw [if_pos ⟨rfl, hcan⟩, if_pos (show nI 45 = 45 from rfl), if_neg (by decide)]
        obtain ⟨s1, s2⟩ := h2 hcan _ _ _ (q + 1) hgo (by omega)
        rcases hP : nOne (T.drop (p + 1)) with ⟨_ | c, r⟩
        · obtain ⟨σ', p', cd', e1, e2, e3⟩ := s2 r hP
          rw [e1, Option.bind_some, if_pos rfl]
          refine ⟨fun c r he => (by cases he), fun r' he => ?_⟩
          cases he
          exact ⟨σ', p', cd', rfl, e2, e3⟩
        · obtain ⟨σ', p', e1, e2, e3, e4, e5⟩ := s1 c r hP
          have e2p := e2.2.2.1
          rw [e1, Option.bind_some, if_neg (show ¬ (1 : Int32) = 0 by decide)]
          obtain ⟨σ2, f1, f2⟩ := rq_emit e2 (3, 0) (by omega)
          rw [show (3 : Int32) = en_ (3, 0) from rfl, f1, Option.bind_some]
          refine ⟨fun c' r' he => ?_, fun r he => by cases he⟩
          cases he
          rw [List.append_assoc] at f2
          exact ⟨_, p', rfl, f2, e3, by simp at e4 ⊢; omega, by omega⟩
      rw [if_neg (fun z => a3 z.1), if_neg (show ¬ nI t = 45 from nI_ne (b := 45) hh (by omega) a3)]
      by_cases a4 : t = 40
      · subst a4
        rw [if_pos ⟨rfl, hcan⟩, if_pos (show nI 40 = 40 from rfl), if_pos (show nI 40 = 40 from rfl)]
        obtain ⟨s1, s2⟩ := h1 hcan _ _ _ (q + 1) hgo (by omega)
        rcases hP : nOr (T.drop (p + 1)) with ⟨_ | c, r⟩
        · obtain ⟨σ', p', cd', e1, e2, e3⟩ := s2 r hP
          rw [e1, Option.bind_some, if_pos rfl]
          refine ⟨fun c r he => (by cases he), fun r' he => ?_⟩
          cases he
          exact ⟨σ', p', cd', rfl, e2, e3⟩
        · obtain ⟨σ', p', e1, e2, e3, e4, e5⟩ := s1 c r hP
          rw [e1, Option.bind_some, if_neg (show ¬ (1 : Int32) = 0 by decide), show (41 : Int32) = nI 41 from rfl, rq_pass hT e2 41 (by omega)]
          simp only
          rw [e3]
          by_cases a5 : hd_ (T.drop p') = 41
          · rw [if_pos a5, if_pos a5, Option.bind_some, if_neg (show ¬ (1 : Int32) = 0 by decide)]
            have hp' : p' < T.length := hd_in (by omega)
            refine ⟨fun c' r' he => ?_, fun r he => by cases he⟩
            cases he
            exact ⟨_, p' + 1, rfl, rq_go e2 hp', by rw [dro_c T p' hp']; rfl, by omega, by omega⟩
          · rw [if_neg a5, if_neg a5, Option.bind_some, if_pos rfl]
            refine ⟨fun c r he => (by cases he), fun r' he => ?_⟩
            cases he
            exact ⟨σ', p', _, rfl, e2, rfl⟩
      rw [if_neg (fun z => a4 z.1), if_neg (show ¬ nI t = 40 from nI_ne (b := 40) hh (by omega) a4)]
      refine ⟨fun c r he => (by cases he), fun r' he => ?_⟩
      cases he
      exact ⟨σ, p, cd, rfl, hR, hdr.symm⟩
    · have hcan : ¬ can = true := fun z => b (hc.mp z)
      have lv1 : ¬ nI lev < (5 : Int32) := nI_nlt (b := 5) (by omega) (by omega)
      rw [if_neg lv1, if_neg (fun z => hcan z.2), if_neg (fun z => hcan z.2)]
      refine ⟨fun c r he => (by cases he), fun r' he => ?_⟩
      cases he
      refine ⟨σ, p, cd, ?_, hR, ?_⟩
      · by_cases a3 : nI t = 45
        · rw [if_pos a3]
        · rw [if_neg a3]
          by_cases a4 : nI t = 40
          · rw [if_pos a4]
          · rw [if_neg a4]
      · exact hdr.symm
  · rw [dro_n T p hp]
    refine ⟨fun c r he => (by cases he), fun r' he => ?_⟩
    cases he
    refine ⟨σ, p, cd, ?_, hR, (dro_n T p hp).symm⟩
    unfold f_X3_readOne
    rw [tok_t hT hR, dro_n T p hp]
    rfl
theorem pc_term {σ0 : St_} {T : List Tk_} (hT : Tok_ σ0 T) {rOr rNot rOne : Rc_} {lev : Nat} {P : List Tk_ → PR_} (h : PC_ σ0 T (f_X3_readOne rOr rNot rOne 5000) lev P) : PC_ σ0 T (f_X3_readTerm rOr rNot rOne 5000) lev (pTerm_ P) := by
  refine pc_many hT h rfl (f_X3_readTerm_12 rOr rNot rOne 5000) ?_ ?_ _ (fun σ => rfl)
  · intro g σ p cd i hi hR hs
    show (if (160 : Int32) ≤ nI i then some ((1 : Int32), σ) else (f_X3_token σ 13).bind fun q2 => if q2 = (42 : Int32) then _ else some ((1 : Int32), σ)) = _
    rw [tok_t hT hR, Option.bind_some, if_neg (show ¬ nI (hd_ (T.drop p)) = 42 from nI_ne (b := 42) (hd_lt hT p) (by omega) (by simpa using hs))]
    split <;> rfl
  · intro g σ p cd i hi hR hs
    have e : hd_ (T.drop p) = 42 := by simpa using hs
    show (if (160 : Int32) ≤ nI i then some ((1 : Int32), σ) else (f_X3_token σ 13).bind fun q2 => if q2 = (42 : Int32) then _ else some ((1 : Int32), σ)) = _
    rw [if_neg (show ¬ (160 : Int32) ≤ nI i from nI_ge (b := 160) hi (by omega)), tok_t hT hR, Option.bind_some, e, if_pos (show nI 42 = 42 from rfl), nI_1]
    rfl
theorem pc_and {σ0 : St_} {T : List Tk_} (hT : Tok_ σ0 T) {rOr rNot rOne : Rc_} {lev : Nat} {P : List Tk_ → PR_} (h : PC_ σ0 T (f_X3_readNot rOr rNot rOne 5000) lev P) : PC_ σ0 T (f_X3_readAnd rOr rNot rOne 5000) lev (pMany_ (fun t => t == 8) (fun _ => 5) P) := by
  refine pc_many hT h rfl (f_X3_readAnd_12 rOr rNot rOne 5000) ?_ ?_ _ (fun σ => rfl)
  · intro g σ p cd i hi hR hs
    show (if (160 : Int32) ≤ nI i then some ((1 : Int32), σ) else (f_X3_token σ 13).bind fun q2 => if q2 = (8 : Int32) then _ else some ((1 : Int32), σ)) = _
    rw [tok_t hT hR, Option.bind_some, if_neg (show ¬ nI (hd_ (T.drop p)) = 8 from nI_ne (b := 8) (hd_lt hT p) (by omega) (by simpa using hs))]
    split <;> rfl
  · intro g σ p cd i hi hR hs
    have e : hd_ (T.drop p) = 8 := by simpa using hs
    show (if (160 : Int32) ≤ nI i then some ((1 : Int32), σ) else (f_X3_token σ 13).bind fun q2 => if q2 = (8 : Int32) then _ else some ((1 : Int32), σ)) = _
    rw [if_neg (show ¬ (160 : Int32) ≤ nI i from nI_ge (b := 160) hi (by omega)), tok_t hT hR, Option.bind_some, e, if_pos (show nI 8 = 8 from rfl), nI_1]
    rfl
theorem pc_or {σ0 : St_} {T : List Tk_} (hT : Tok_ σ0 T) {rOr rNot rOne : Rc_} {lev : Nat} {P : List Tk_ → PR_} (h : PC_ σ0 T (f_X3_readAnd rOr rNot rOne 5000) lev P) : PC_ σ0 T (f_X3_readOr rOr rNot rOne 5000) lev (pMany_ (fun t => t == 7) (fun _ => 4) P) := by
  refine pc_many hT h rfl (f_X3_readOr_12 rOr rNot rOne 5000) ?_ ?_ _ (fun σ => rfl)
  · intro g σ p cd i hi hR hs
    show (if (160 : Int32) ≤ nI i then some ((1 : Int32), σ) else (f_X3_token σ 13).bind fun q2 => if q2 = (7 : Int32) then _ else some ((1 : Int32), σ)) = _
    rw [tok_t hT hR, Option.bind_some, if_neg (show ¬ nI (hd_ (T.drop p)) = 7 from nI_ne (b := 7) (hd_lt hT p) (by omega) (by simpa using hs))]
    split <;> rfl
  · intro g σ p cd i hi hR hs
    have e : hd_ (T.drop p) = 7 := by simpa using hs
    show (if (160 : Int32) ≤ nI i then some ((1 : Int32), σ) else (f_X3_token σ 13).bind fun q2 => if q2 = (7 : Int32) then _ else some ((1 : Int32), σ)) = _
    rw [if_neg (show ¬ (160 : Int32) ≤ nI i from nI_ge (b := 160) hi (by omega)), tok_t hT hR, Option.bind_some, e, if_pos (show nI 7 = 7 from rfl), nI_1]
    rfl
theorem pc_sum {σ0 : St_} {T : List Tk_} (hT : Tok_ σ0 T) {rOr rNot rOne : Rc_} {lev : Nat} {P : List Tk_ → PR_} (h : PC_ σ0 T (f_X3_readTerm rOr rNot rOne 5000) lev P) : PC_ σ0 T (f_X3_readSum rOr rNot rOne 5000) lev (pMany_ (fun t => t == 43 || t == 45) (fun t => if t = 43 then 8 else 9) P) := by
  refine pc_many hT h rfl (f_X3_readSum_12 rOr rNot rOne 5000) ?_ ?_ _ (fun σ => rfl)
  · intro g σ p cd i hi hR hs
    have hs' : ¬ hd_ (T.drop p) = 43 ∧ ¬ hd_ (T.drop p) = 45 := by simpa using hs
    show (if (160 : Int32) ≤ nI i then some ((1 : Int32), σ) else (f_X3_token σ 13).bind fun q2 => if q2 = (43 : Int32) then _ else (f_X3_token σ 13).bind fun q4 => if q4 = (45 : Int32) then _ else some ((1 : Int32), σ)) = _
    rw [tok_t hT hR, Option.bind_some, if_neg (show ¬ nI (hd_ (T.drop p)) = 43 from nI_ne (b := 43) (hd_lt hT p) (by omega) hs'.1), Option.bind_some, if_neg (show ¬ nI (hd_ (T.drop p)) = 45 from nI_ne (b := 45) (hd_lt hT p) (by omega) hs'.2)]
    split <;> rfl
  · intro g σ p cd i hi hR hs
    have e : hd_ (T.drop p) = 43 ∨ hd_ (T.drop p) = 45 := by simpa using hs
    show (if (160 : Int32) ≤ nI i then some ((1 : Int32), σ) else (f_X3_token σ 13).bind fun q2 => if q2 = (43 : Int32) then f_X3_readSum_37 rOr rNot rOne 5000 (f_X3_readSum_12 rOr rNot rOne 5000 g) σ 13 (nI lev) (nI i) else (f_X3_token σ 13).bind fun q4 => if q4 = (45 : Int32) then f_X3_readSum_37 rOr rNot rOne 5000 (f_X3_readSum_12 rOr rNot rOne 5000 g) σ 13 (nI lev) (nI i) else some ((1 : Int32), σ)) = _
    rw [if_neg (show ¬ (160 : Int32) ≤ nI i from nI_ge (b := 160) hi (by omega)), tok_t hT hR, Option.bind_some]
    unfold f_X3_readSum_37
    rw [tok_t hT hR, Option.bind_some]
    rcases e with e | e
    · rw [e, if_pos (show nI 43 = 43 from rfl), nI_1]
      rfl
    · rw [e, if_neg (show ¬ nI 45 = 43 by decide), Option.bind_some, if_pos (show nI 45 = 45 from rfl), nI_1]
      rfl
theorem pc_cmp {σ0 : St_} {T : List Tk_} (hT : Tok_ σ0 T) {rOr rNot rOne : Rc_} {lev : Nat} {P : List Tk_ → PR_} (h : PC_ σ0 T (f_X3_readSum rOr rNot rOne 5000) lev P) : PC_ σ0 T (f_X3_readComparison rOr rNot rOne 5000) lev (pCmp_ P) := by
  intro σ p cd q hR hq
  obtain ⟨s1, s2⟩ := h σ p cd q hR hq
  have h0 := hT.1
  unfold pCmp_ f_X3_readComparison
  rcases hP : P (T.drop p) with ⟨_ | c, r⟩
  · obtain ⟨σ', p', cd', e1, e2, e3⟩ := s2 r hP
    rw [e1, Option.bind_some, if_pos rfl]
    refine ⟨fun c r he => (by cases he), fun r' he => ?_⟩
    cases he
    exact ⟨σ', p', cd', rfl, e2, e3⟩
  obtain ⟨σ', p', e1, e2, e3, e4, e5⟩ := s1 c r hP
  have h256 := hd_lt hT p'
  rw [e1, Option.bind_some, if_neg (show ¬ (1 : Int32) = 0 by decide), tok_t hT e2, Option.bind_some]
  simp only
  rw [e3]
  by_cases a : hd_ (T.drop p') = 60 ∨ hd_ (T.drop p') = 61
  · have hp' : p' < T.length := hd_in (by omega)
    have hgo := rq_go e2 hp'
    have ht : (T.drop p').tail = T.drop (p' + 1) := by rw [dro_c T p' hp']; rfl
    rw [if_pos a, ht]
    obtain ⟨t1, t2⟩ := h _ _ _ (q + 1) hgo (by omega)
    have ee : (if nI (hd_ (T.drop p')) = 60 then f_X3_readComparison_29 rOr rNot rOne 5000 σ' 13 (nI lev) (nI (hd_ (T.drop p'))) else if nI (hd_ (T.drop p')) = 61 then f_X3_readComparison_29 rOr rNot rOne 5000 σ' 13 (nI lev) (nI (hd_ (T.drop p'))) else some ((1 : Int32), σ')) = f_X3_readComparison_29 rOr rNot rOne 5000 σ' 13 (nI lev) (nI (hd_ (T.drop p'))) := by
      rcases a with a | a
      · rw [a, if_pos (show nI 60 = 60 from rfl)]
      · rw [a, if_neg (show ¬ nI 61 = 60 by decide), if_pos (show nI 61 = 61 from rfl)]
    rw [ee]
    unfold f_X3_readComparison_29
    rcases hP2 : P (T.drop (p' + 1)) with ⟨_ | c2, r2⟩
    · obtain ⟨σ2, p2, cd2, w1, w2, w3⟩ := t2 r2 hP2
      rw [w1, Option.bind_some, if_pos rfl]
      refine ⟨fun c r he => (by cases he), fun r' he => ?_⟩
      cases he
      exact ⟨σ2, p2, cd2, rfl, w2, w3⟩
    · obtain ⟨σ2, p2, w1, w2, w3, w4, w5⟩ := t1 c2 r2 hP2
      have w2p := w2.2.2.1
      rw [w1, Option.bind_some, if_neg (show ¬ (1 : Int32) = 0 by decide)]
      refine ⟨fun c' r' he => ?_, fun r he => by cases he⟩
      cases he
      rcases a with a | a
      · rw [a, if_pos (show nI 60 = 60 from rfl), if_pos rfl]
        obtain ⟨σ3, f1, f2⟩ := rq_emit w2 (6, 0) (by omega)
        rw [show (6 : Int32) = en_ (6, 0) from rfl, f1, Option.bind_some]
        rw [List.append_assoc, List.append_assoc] at f2
        exact ⟨σ3, p2, rfl, by rw [List.append_assoc]; exact f2, w3, by simp at w4 ⊢; omega, by omega⟩
      · rw [a, if_neg (show ¬ nI 61 = 60 by decide), if_neg (by omega)]
        obtain ⟨σ3, f1, f2⟩ := rq_emit w2 (7, 0) (by omega)
        rw [show (7 : Int32) = en_ (7, 0) from rfl, f1, Option.bind_some]
        rw [List.append_assoc, List.append_assoc] at f2
        exact ⟨σ3, p2, rfl, by rw [List.append_assoc]; exact f2, w3, by simp at w4 ⊢; omega, by omega⟩
  · rw [if_neg a, if_neg (show ¬ nI (hd_ (T.drop p')) = 60 from nI_ne (b := 60) h256 (by omega) (fun z => a (Or.inl z))), if_neg (show ¬ nI (hd_ (T.drop p')) = 61 from nI_ne (b := 61) h256 (by omega) (fun z => a (Or.inr z)))]
    refine ⟨fun c' r' he => ?_, fun r he => by cases he⟩
    cases he
    exact ⟨σ', p', rfl, e2, rfl, e4, e5⟩
theorem pc_not {σ0 : St_} {T : List Tk_} (hT : Tok_ σ0 T) {rOr rNot rOne : Rc_} {lev : Nat} {can : Bool} {nNot P : List Tk_ → PR_} (hl : lev ≤ 5) (hc : can = true ↔ lev < 5) (h1 : can = true → PC_ σ0 T rNot (lev + 1) nNot) (h : PC_ σ0 T (f_X3_readComparison rOr rNot rOne 5000) lev P) : PC_ σ0 T (f_X3_readNot rOr rNot rOne 5000) lev (pNot_ can nNot P) := by
  intro σ p cd q hR hq
  have h0 := hT.1
  have h256 := hd_lt hT p
  unfold pNot_ f_X3_readNot
  rw [tok_t hT hR, Option.bind_some]
  by_cases a : hd_ (T.drop p) = 9
  · rw [if_pos a, a, if_pos (show nI 9 = 9 from rfl)]
    have hp : p < T.length := hd_in (by omega)
    by_cases b : lev < 5
    · have hcan := hc.mpr b
      rw [if_pos hcan, if_pos (show nI lev < 5 from nI_lt (b := 5) b (by omega)), nI_1]
      have ht : (T.drop p).tail = T.drop (p + 1) := by rw [dro_c T p hp]; rfl
      rw [ht]
      obtain ⟨s1, s2⟩ := h1 hcan _ _ _ (q + 1) (rq_go hR hp) (by omega)
      rcases hP : nNot (T.drop (p + 1)) with ⟨_ | c, r⟩
      · obtain ⟨σ', p', cd', e1, e2, e3⟩ := s2 r hP
        rw [e1, Option.bind_some, if_pos rfl]
        refine ⟨fun c r he => (by cases he), fun r' he => ?_⟩
        cases he
        exact ⟨σ', p', cd', rfl, e2, e3⟩
      · obtain ⟨σ', p', e1, e2, e3, e4, e5⟩ := s1 c r hP
        have e2p := e2.2.2.1
        rw [e1, Option.bind_some, if_neg (show ¬ (1 : Int32) = 0 by decide)]
        obtain ⟨σ2, f1, f2⟩ := rq_emit e2 (2, 0) (by omega)
        rw [show (2 : Int32) = en_ (2, 0) from rfl, f1, Option.bind_some]
        refine ⟨fun c' r' he => ?_, fun r he => by cases he⟩
        cases he
        rw [List.append_assoc] at f2
        exact ⟨_, p', rfl, f2, e3, by simp at e4 ⊢; omega, by omega⟩
    · have hcan : ¬ can = true := fun z => b (hc.mp z)
      rw [if_neg hcan, if_neg (show ¬ nI lev < 5 from nI_nlt (b := 5) (by omega) (by omega))]
      refine ⟨fun c r he => (by cases he), fun r' he => ?_⟩
      cases he
      exact ⟨σ, p, cd, rfl, hR, rfl⟩
  · rw [if_neg a, if_neg (show ¬ nI (hd_ (T.drop p)) = 9 from nI_ne (b := 9) h256 (by omega) a)]
    have e : ((f_X3_readComparison rOr rNot rOne 5000 σ 13 (nI lev)).bind fun q10 => some (q10.1, q10.2)) = f_X3_readComparison rOr rNot rOne 5000 σ 13 (nI lev) := by cases f_X3_readComparison rOr rNot rOne 5000 σ 13 (nI lev) <;> rfl
    rw [e]
    exact h σ p cd q hR hq
theorem pc_all {σ0 : St_} {T : List Tk_} (hT : Tok_ σ0 T) {rOr rNot rOne : Rc_} {lev : Nat} {can : Bool} {nOr nNot nOne : List Tk_ → PR_} (hl : lev ≤ 5) (hc : can = true ↔ lev < 5) (h1 : can = true → PC_ σ0 T rOr (lev + 1) nOr ∧ PC_ σ0 T rNot (lev + 1) nNot ∧ PC_ σ0 T rOne (lev + 1) nOne) :
    PC_ σ0 T (f_X3_readOr rOr rNot rOne 5000) lev (pOr_ can nNot (pOne_ can nOr nOne)) ∧ PC_ σ0 T (f_X3_readNot rOr rNot rOne 5000) lev (pN_ can nNot (pOne_ can nOr nOne)) ∧ PC_ σ0 T (f_X3_readOne rOr rNot rOne 5000) lev (pOne_ can nOr nOne) := by
  have a1 : PC_ σ0 T (f_X3_readOne rOr rNot rOne 5000) lev (pOne_ can nOr nOne) := pc_one hT hl hc (fun z => (h1 z).1) (fun z => (h1 z).2.2)
  have a2 : PC_ σ0 T (f_X3_readNot rOr rNot rOne 5000) lev (pN_ can nNot (pOne_ can nOr nOne)) := pc_not hT hl hc (fun z => (h1 z).2.1) (pc_cmp hT (pc_sum hT (pc_term hT a1)))
  exact ⟨pc_or hT (pc_and hT a2), a2, a1⟩
theorem pc_lv {σ0 : St_} {T : List Tk_} (hT : Tok_ σ0 T) : ∀ j, j ≤ 5 → PC_ σ0 T (R3_ 5000 (j + 2)).1 (5 - j) (lv_s j).1 ∧ PC_ σ0 T (R3_ 5000 (j + 2)).2.1 (5 - j) (lv_s j).2.1 ∧ PC_ σ0 T (R3_ 5000 (j + 2)).2.2 (5 - j) (lv_s j).2.2 := by
  intro j
  induction j with
  | zero => intro _; exact pc_all hT (by omega) (by simp) (fun z => by cases z)
  | succ j ih =>
    intro hj
    have e : 5 - (j + 1) + 1 = 5 - j := by omega
    exact pc_all hT (by omega) (by simp; omega) (fun _ => by rw [e]; exact ih (by omega))
