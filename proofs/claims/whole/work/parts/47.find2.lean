/-! LETTERS TO TOKENS, HERE: the loop -/
def xA_ (r k : Nat) : Prop := (r = 13 ∧ k = 5) ∨ (15 ≤ r ∧ r < 18)
def To2_ (A : List Tk_) : Prop := ∀ x ∈ A, (0 < x.1 ∧ x.1 < 256) ∧ (x.1 = 2 → x.2.2 < 10000)
/-- so many tokens are there -/
def Tq_ (σ0 σ : St_) (A : List Tk_) : Prop := ShX_ σ ∧ Fr_ (fun r k => ¬ xA_ r k) σ0 σ ∧ A.length ≤ 160 ∧ si_ σ 13 5 = nI A.length ∧ (∀ j, j < A.length → si_ σ 15 j = nI (A.getD j (0, 0, 0)).1 ∧ si_ σ 16 j = nI (A.getD j (0, 0, 0)).2.1 ∧ si_ σ 17 j = nI (A.getD j (0, 0, 0)).2.2) ∧ To2_ A
theorem Tq_.tp {σ0 σ : St_} {A : List Tk_} {c : Nat → Nat} {n : Nat} (h : Tq_ σ0 σ A) (t : Tp_ σ0 c n) : Tp_ σ c n :=
  ⟨h.1, t.2.1, (h.2.1.i (r := 13) (k := 1) (by simp [xA_])).trans t.2.2.1, fun j hj => ⟨(t.2.2.2 j hj).1, (h.2.1.i (r := 14) (k := j) (by simp [xA_])).trans (t.2.2.2 j hj).2⟩⟩
theorem getD_l (A : List Tk_) (x : Tk_) (j : Nat) (h : j < A.length) : (A ++ [x]).getD j (0, 0, 0) = A.getD j (0, 0, 0) := by
  rw [List.getD_eq_getElem?_getD, List.getD_eq_getElem?_getD, List.getElem?_append_left h]
theorem getD_r (A : List Tk_) (x : Tk_) : (A ++ [x]).getD A.length (0, 0, 0) = x := by simp
theorem tq_add {σ0 σ : St_} {A : List Tk_} (h : Tq_ σ0 σ A) (t pl v : Nat) (hl : A.length < 160) (h1 : 0 < t ∧ t < 256) (h2 : t = 2 → v < 10000) : ∃ σ', f_X3_addToken σ 13 (nI t) (nI pl) (nI v) = some σ' ∧ Tq_ σ0 σ' (A ++ [(t, pl, v)]) := by
  obtain ⟨hX, hf, hl0, e5, ha, ho⟩ := h
  unfold f_X3_addToken
  rw [dx_13_2 hX, Option.bind_some, lx_15 hX, e5, if_neg (bel_n hl (by omega)), ix_ok hl (by omega), Option.bind_some]
  have d1 : dr_ (ui_ σ 15 A.length (nI t)) 10 (sr_ (ui_ σ 15 A.length (nI t)) 13 3) = some 16 := dx_13_3 hX
  have s1 : si_ (ui_ σ 15 A.length (nI t)) 13 5 = nI A.length := e5
  have l1 : ln_ (ui_ σ 15 A.length (nI t)) 16 = 160 := lx_16 hX
  rw [d1, Option.bind_some, s1, l1, ix_ok hl (by omega), Option.bind_some]
  have d2 : dr_ (ui_ (ui_ σ 15 A.length (nI t)) 16 A.length (nI pl)) 10 (sr_ (ui_ (ui_ σ 15 A.length (nI t)) 16 A.length (nI pl)) 13 4) = some 17 := dx_13_4 hX
  have s2 : si_ (ui_ (ui_ σ 15 A.length (nI t)) 16 A.length (nI pl)) 13 5 = nI A.length := e5
  have l2 : ln_ (ui_ (ui_ σ 15 A.length (nI t)) 16 A.length (nI pl)) 17 = 160 := lx_17 hX
  rw [d2, Option.bind_some, s2, l2, ix_ok hl (by omega), Option.bind_some]
  have s3 : si_ (ui_ (ui_ (ui_ σ 15 A.length (nI t)) 16 A.length (nI pl)) 17 A.length (nI v)) 13 5 = nI A.length := e5
  rw [s3, nI_1]
  refine ⟨_, rfl, hX, Fr_.ui (Fr_.ui (Fr_.ui (Fr_.ui hf _ _ _ (by simp [xA_])) _ _ _ (by simp [xA_])) _ _ _ (by simp [xA_])) _ _ _ (by simp [xA_]), by simp; omega, ?_, fun j hj => ?_, fun x hx => ?_⟩
  · rw [g_si_ui, if_pos rfl, if_pos rfl]; simp
  · simp at hj
    show (if j = A.length then nI t else si_ σ 15 j) = _ ∧ (if j = A.length then nI pl else si_ σ 16 j) = _ ∧ (if j = A.length then nI v else si_ σ 17 j) = _
    by_cases e : j = A.length
    · subst e
      rw [if_pos rfl, if_pos rfl, if_pos rfl, getD_r]
      exact ⟨rfl, rfl, rfl⟩
    · rw [if_neg e, if_neg e, if_neg e, getD_l _ _ _ (by omega)]
      exact ha j (by omega)
  · rcases List.mem_append.mp hx with hx | hx
    · exact ho x hx
    · simp at hx; subst hx; exact ⟨h1, h2⟩
theorem nv_lt {c : Nat → Nat} {i : Nat} : ∀ k, (∀ j, i ≤ j → j < i + k → isD_ (c j) = true) → nv_ c i k < 10 ^ k := by
  intro k
  induction k with
  | zero => intro _; exact Nat.zero_lt_succ _
  | succ k ih =>
    intro h
    have a := ih (fun j h1 h2 => h j h1 (by omega))
    have b := isd_r _ (h (i + k) (by omega) (by omega))
    show nv_ c i k * 10 + (c (i + k) - 48) < 10 ^ k * 10
    omega
theorem wt_r (c : Nat → Nat) (i e : Nat) : (0 < wt_ c i e ∧ wt_ c i e < 256) ∧ ¬ wt_ c i e = 2 := by
  unfold wt_
  repeat' split
  all_goals decide
theorem iss_r : ∀ x, x < 256 → isS_ x = true → 0 < x ∧ ¬ x = 2 := by decide +kernel
theorem find_go {σ0 : St_} {c : Nat → Nat} {n : Nat} (ht : Tp_ σ0 c n) : ∀ (k g i m : Nat) (σ : St_) (A : List Tk_), n - i ≤ k → n - i < g → m ≤ i → i ≤ n → A.length ≤ i → Tq_ σ0 σ A → ∃ σ', f_X3_findTokens_9 5000 g σ 13 (nI i) (nI m) = some σ' ∧ Tq_ σ0 σ' (A ++ tk_ c n k i) := by
  intro k
  have hn := ht.2.1
  induction k with
  | zero =>
    intro g i m σ A h1 h2 h3 h4 h5 hq
    obtain ⟨g, rfl⟩ : ∃ g', g = g' + 1 := ⟨g - 1, by omega⟩
    refine ⟨σ, ?_, by rw [show tk_ c n 0 i = [] from rfl, List.append_nil]; exact hq⟩
    show (if (160 : Int32) ≤ nI m then some σ else if si_ σ 13 1 ≤ nI i then some σ else _) = _
    rw [(hq.tp ht).2.2.1, if_pos (show nI n ≤ nI i from nI_le (by omega) (by omega))]
    split <;> rfl
  | succ k ih =>
    intro g i m σ A h1 h2 h3 h4 h5 hq
    obtain ⟨g, rfl⟩ : ∃ g', g = g' + 1 := ⟨g - 1, by omega⟩
    have hp := hq.tp ht
    by_cases hi : i < n
    · have hc := (ht.2.2.2 i hi).1
      have e0 : f_X3_findTokens_9 5000 (g + 1) σ 13 (nI i) (nI m) = (if (f_X3_isLetter (nI (c i))) = 0 then if (f_X3_isDigit (nI (c i))) = 0 then if nI (c i) = (32 : Int32) then f_X3_findTokens_9 5000 g σ 13 (nI (i + 1)) (nI (m + 1)) else if nI (c i) = (10 : Int32) then f_X3_findTokens_9 5000 g σ 13 (nI (i + 1)) (nI (m + 1)) else if (f_X3_isSign (nI (c i))) = 0 then (f_X3_addToken σ 13 (1 : Int32) (nI i) (0 : Int32)).bind fun q15 => f_X3_findTokens_9 5000 g q15 13 (nI (i + 1)) (nI (m + 1)) else (f_X3_addToken σ 13 (nI (c i)) (nI i) (0 : Int32)).bind fun q16 => f_X3_findTokens_9 5000 g q16 13 (nI (i + 1)) (nI (m + 1)) else (f_X3_numberEnd 5000 σ 13 (nI i)).bind fun q17 => if (q17 - nI i) ≤ (4 : Int32) then f_X3_findTokens_93 5000 (f_X3_findTokens_9 5000 g) σ 13 (nI i) (nI m) q17 13 (2 : Int32) else f_X3_findTokens_93 5000 (f_X3_findTokens_9 5000 g) σ 13 (nI i) (nI m) q17 13 (1 : Int32) else (f_X3_wordEnd 5000 σ 13 (nI i)).bind fun q19 => (f_X3_wordToken 5000 σ 13 (nI i) q19).bind fun q20 => (f_X3_addToken σ 13 q20 (nI i) (0 : Int32)).bind fun q21 => f_X3_findTokens_9 5000 g q21 13 q19 (nI (m + 1))) := by
        show (if (160 : Int32) ≤ nI m then some σ else if si_ σ 13 1 ≤ nI i then some σ else (f_X3_letterAt σ 13 (nI i)).bind fun q3 => _) = _
        rw [if_neg (show ¬ (160 : Int32) ≤ nI m from nI_ge (b := 160) (by omega) (by omega)), hp.2.2.1, if_neg (nI_ge hi (by omega)), let_x hp hi, Option.bind_some]
        unfold f_X3_findTokens_137
        rw [nI_1, nI_1]
      rw [e0]
      unfold tk_
      rw [if_pos hi, isl_n _ hc, isd_n _ hc, iss_n _ hc]
      by_cases a1 : isL_ (c i) = true
      · rw [if_neg (fun z => (b01 _).mp z a1), if_pos a1]
        have hl := rn_1 isL_ c n i hi a1
        obtain ⟨-, q2, q3⟩ := rn_i isL_ c n n i
        have q2 := q2 (by omega)
        have hwe : f_X3_wordEnd 5000 σ 13 (nI i) = some (nI (rn_ isL_ c n n i)) := wend 5000 hp n 5000 i (by omega) (by omega) (by omega)
        rw [hwe, Option.bind_some, wtk hp (by omega) q2 (by omega), Option.bind_some]
        obtain ⟨w1, w2⟩ := wt_r c i (rn_ isL_ c n n i)
        obtain ⟨σ1, f1, f2⟩ := tq_add hq (wt_ c i (rn_ isL_ c n n i)) i 0 (by omega) w1 (fun z => absurd z w2)
        rw [show (0 : Int32) = nI 0 from rfl, f1, Option.bind_some]
        obtain ⟨σ2, g1, g2⟩ := ih g (rn_ isL_ c n n i) (m + 1) σ1 _ (by omega) (by omega) (by omega) q2 (by simp; omega) f2
        exact ⟨σ2, g1, by rw [List.append_assoc] at g2; exact g2⟩
      rw [if_pos ((b01 _).mpr a1), if_neg a1]
      by_cases a2 : isD_ (c i) = true
      · rw [if_neg (fun z => (b01 _).mp z a2), if_pos a2]
        have hl := rn_1 isD_ c n i hi a2
        obtain ⟨-, q2, q3⟩ := rn_i isD_ c n n i
        have q2 := q2 (by omega)
        have hwe : f_X3_numberEnd 5000 σ 13 (nI i) = some (nI (rn_ isD_ c n n i)) := dend 5000 hp n 5000 i (by omega) (by omega) (by omega)
        have hs : nI (rn_ isD_ c n n i) - nI i = nI (rn_ isD_ c n n i - i) := by
          have : nI (rn_ isD_ c n n i) = nI (rn_ isD_ c n n i - i) + nI i := by rw [nI_add]; congr 1; omega
          rw [this, Int32.add_sub_cancel]
        rw [hwe, Option.bind_some, hs]
        have hv : f_X3_numberValue 5000 σ 13 (nI i) (nI (rn_ isD_ c n n i)) = some (nI (nv_ c i (rn_ isD_ c n n i - i))) := nval 5000 hp (by omega) q2 (fun j h1 h2 => (q3 j h1 h2).2) (rn_ isD_ c n n i - i) 0 5000 (by omega) (by omega)
        by_cases a3 : 4 < rn_ isD_ c n n i - i
        · rw [if_pos a3, if_neg (show ¬ nI (rn_ isD_ c n n i - i) ≤ (4 : Int32) from nI_ge (a := 4) (by omega) (by omega))]
          unfold f_X3_findTokens_93
          obtain ⟨σ1, f1, f2⟩ := tq_add hq 1 i (nv_ c i (rn_ isD_ c n n i - i)) (by omega) (by omega) (fun z => by omega)
          rw [hv, Option.bind_some, show (1 : Int32) = nI 1 from rfl, f1, Option.bind_some]
          unfold f_X3_findTokens_137
          rw [show nI m + 1 = nI (m + 1) from nI_1 m]
          obtain ⟨σ2, g1, g2⟩ := ih g (rn_ isD_ c n n i) (m + 1) σ1 _ (by omega) (by omega) (by omega) q2 (by simp; omega) f2
          exact ⟨σ2, g1, by rw [List.append_assoc] at g2; exact g2⟩
        · rw [if_neg a3, if_pos (show nI (rn_ isD_ c n n i - i) ≤ (4 : Int32) from nI_le (b := 4) (by omega) (by omega))]
          unfold f_X3_findTokens_93
          have hb : nv_ c i (rn_ isD_ c n n i - i) < 10000 := by
            have := nv_lt (c := c) (i := i) (rn_ isD_ c n n i - i) (fun j h1 h2 => (q3 j h1 (by omega)).2)
            have h2 : 10 ^ (rn_ isD_ c n n i - i) ≤ 10 ^ 4 := Nat.pow_le_pow_right (by decide) (by omega)
            omega
          obtain ⟨σ1, f1, f2⟩ := tq_add hq 2 i (nv_ c i (rn_ isD_ c n n i - i)) (by omega) (by omega) (fun z => hb)
          rw [hv, Option.bind_some, show (2 : Int32) = nI 2 from rfl, f1, Option.bind_some]
          unfold f_X3_findTokens_137
          rw [show nI m + 1 = nI (m + 1) from nI_1 m]
          obtain ⟨σ2, g1, g2⟩ := ih g (rn_ isD_ c n n i) (m + 1) σ1 _ (by omega) (by omega) (by omega) q2 (by simp; omega) f2
          exact ⟨σ2, g1, by rw [List.append_assoc] at g2; exact g2⟩
      rw [if_pos ((b01 _).mpr a2), if_neg a2]
      by_cases a3 : isW_ (c i) = true
      · rw [if_pos a3]
        have e : c i = 32 ∨ c i = 10 := by unfold isW_ at a3; simpa using a3
        have ee : (if nI (c i) = (32 : Int32) then f_X3_findTokens_9 5000 g σ 13 (nI (i + 1)) (nI (m + 1)) else if nI (c i) = (10 : Int32) then f_X3_findTokens_9 5000 g σ 13 (nI (i + 1)) (nI (m + 1)) else if (if isS_ (c i) then (1 : Int32) else 0) = 0 then (f_X3_addToken σ 13 (1 : Int32) (nI i) (0 : Int32)).bind fun q15 => f_X3_findTokens_9 5000 g q15 13 (nI (i + 1)) (nI (m + 1)) else (f_X3_addToken σ 13 (nI (c i)) (nI i) (0 : Int32)).bind fun q16 => f_X3_findTokens_9 5000 g q16 13 (nI (i + 1)) (nI (m + 1))) = f_X3_findTokens_9 5000 g σ 13 (nI (i + 1)) (nI (m + 1)) := by
          rcases e with e | e
          · rw [e, if_pos (show nI 32 = 32 from rfl)]
          · rw [e, if_neg (show ¬ nI 10 = 32 by decide), if_pos (show nI 10 = 10 from rfl)]
        rw [ee]
        exact ih g (i + 1) (m + 1) σ A (by omega) (by omega) (by omega) (by omega) (by omega) hq
      rw [if_neg a3]
      have e : ¬ c i = 32 ∧ ¬ c i = 10 := by unfold isW_ at a3; simpa using a3
      rw [if_neg (show ¬ nI (c i) = 32 from nI_ne (b := 32) hc (by omega) e.1), if_neg (show ¬ nI (c i) = 10 from nI_ne (b := 10) hc (by omega) e.2)]
      by_cases a4 : isS_ (c i) = true
      · rw [if_neg (fun z => (b01 _).mp z a4), if_pos a4]
        obtain ⟨w1, w2⟩ := iss_r _ hc a4
        obtain ⟨σ1, f1, f2⟩ := tq_add hq (c i) i 0 (by omega) ⟨w1, hc⟩ (fun z => absurd z w2)
        rw [show (0 : Int32) = nI 0 from rfl, f1, Option.bind_some]
        obtain ⟨σ2, g1, g2⟩ := ih g (i + 1) (m + 1) σ1 _ (by omega) (by omega) (by omega) (by omega) (by simp; omega) f2
        exact ⟨σ2, g1, by rw [List.append_assoc] at g2; exact g2⟩
      · rw [if_pos ((b01 _).mpr a4), if_neg a4]
        obtain ⟨σ1, f1, f2⟩ := tq_add hq 1 i 0 (by omega) (by omega) (fun z => by omega)
        rw [show (0 : Int32) = nI 0 from rfl, show (1 : Int32) = nI 1 from rfl, f1, Option.bind_some]
        obtain ⟨σ2, g1, g2⟩ := ih g (i + 1) (m + 1) σ1 _ (by omega) (by omega) (by omega) (by omega) (by simp; omega) f2
        exact ⟨σ2, g1, by rw [List.append_assoc] at g2; exact g2⟩
    · refine ⟨σ, ?_, ?_⟩
      · show (if (160 : Int32) ≤ nI m then some σ else if si_ σ 13 1 ≤ nI i then some σ else _) = _
        rw [hp.2.2.1, if_pos (show nI n ≤ nI i from nI_le (by omega) (by omega))]
        split <;> rfl
      · unfold tk_
        rw [if_neg hi, List.append_nil]
        exact hq
theorem find_ok {σ : St_} {c : Nat → Nat} {n : Nat} (ht : Tp_ σ c n) : ∃ σ', f_X3_findTokens 5000 σ 13 = some σ' ∧ Tok_ σ' (tk_ c n n 0) ∧ ShX_ σ' ∧ Fr_ (fun r k => ¬ xA_ r k) σ σ' := by
  have h0 : Tq_ σ (ui_ σ 13 5 0) [] := ⟨ht.1, Fr_.ui (Fr_.refl _ _) _ _ _ (by simp [xA_]), by simp, rfl, fun j hj => absurd hj (by simp), fun x hx => by cases hx⟩
  obtain ⟨σ', e1, e2⟩ := find_go ht n 5000 0 0 _ [] (by omega) (by have := ht.2.1; omega) (by omega) (by omega) (by simp) h0
  rw [List.nil_append] at e2
  exact ⟨σ', e1, ⟨e2.2.2.1, e2.2.2.2.1, e2.2.2.2.2.1, fun x hx => (e2.2.2.2.2.2 x hx).1, fun x hx => (e2.2.2.2.2.2 x hx).2⟩, e2.1, e2.2.1⟩
