/-! LETTERS TO TOKENS, HERE -/
def Tp_ (σ : St_) (c : Nat → Nat) (n : Nat) : Prop := ShX_ σ ∧ n ≤ 160 ∧ si_ σ 13 1 = nI n ∧ ∀ j, j < n → c j < 256 ∧ si_ σ 14 j = nI (c j)
theorem rn_i (p : Nat → Bool) (c : Nat → Nat) (n : Nat) : ∀ k i, i ≤ rn_ p c n k i ∧ (i ≤ n → rn_ p c n k i ≤ n) ∧ ∀ j, i ≤ j → j < rn_ p c n k i → j < n ∧ p (c j) = true := by
  intro k
  induction k with
  | zero => intro i; exact ⟨Nat.le_refl _, fun h => h, fun j h1 h2 => by have : j < i := h2; omega⟩
  | succ k ih =>
    intro i
    unfold rn_
    by_cases h : i < n ∧ p (c i) = true
    · rw [if_pos h]
      obtain ⟨a, b, d⟩ := ih (i + 1)
      refine ⟨by omega, fun _ => b (by omega), fun j h1 h2 => ?_⟩
      by_cases e : j = i
      · subst e; exact h
      · exact d j (by omega) h2
    · rw [if_neg h]
      exact ⟨Nat.le_refl _, fun h => h, fun j h1 h2 => by omega⟩
theorem rn_f (p : Nat → Bool) (c : Nat → Nat) (n : Nat) : ∀ k k' i, n - i ≤ k → n - i ≤ k' → rn_ p c n k i = rn_ p c n k' i := by
  intro k
  induction k with
  | zero =>
    intro k' i h1 h2
    cases k' with
    | zero => rfl
    | succ k' =>
      unfold rn_
      rw [if_neg (by omega)]
  | succ k ih =>
    intro k' i h1 h2
    cases k' with
    | zero =>
      unfold rn_
      rw [if_neg (by omega)]
    | succ k' =>
      unfold rn_
      by_cases h : i < n ∧ p (c i) = true
      · rw [if_pos h, if_pos h]
        exact ih k' (i + 1) (by omega) (by omega)
      · rw [if_neg h, if_neg h]
theorem rn_1 (p : Nat → Bool) (c : Nat → Nat) (n i : Nat) (h : i < n) (hp : p (c i) = true) : i < rn_ p c n n i := by
  obtain ⟨m, rfl⟩ : ∃ m, n = m + 1 := ⟨n - 1, by omega⟩
  have : rn_ p c (m + 1) (m + 1) i = rn_ p c (m + 1) m (i + 1) := by
    conv => lhs; unfold rn_
    rw [if_pos ⟨h, hp⟩]
  rw [this]
  have := (rn_i p c (m + 1) m (i + 1)).1
  omega
theorem let_x {σ : St_} {c : Nat → Nat} {n : Nat} (h : Tp_ σ c n) {i : Nat} (hi : i < n) : f_X3_letterAt σ 13 (nI i) = some (nI (c i)) := by
  obtain ⟨hX, hn, e, hc⟩ := h
  unfold f_X3_letterAt
  rw [if_neg (nI_pos (by omega)), e, if_neg (nI_ge hi (by omega)), dx_13_0 hX, Option.bind_some, lx_14 hX, if_neg (nI_ge (by omega) (by omega)), ix_ok (by omega) (by omega), Option.bind_some, (hc i hi).2]
theorem isl_n : ∀ x, x < 256 → f_X3_isLetter (nI x) = if isL_ x then 1 else 0 := by decide +kernel
theorem isd_n : ∀ x, x < 256 → f_X3_isDigit (nI x) = if isD_ x then 1 else 0 := by decide +kernel
theorem iss_n : ∀ x, x < 256 → f_X3_isSign (nI x) = if isS_ x then 1 else 0 := by decide +kernel
theorem b01 (b : Bool) : ((if b then (1 : Int32) else 0) = 0) ↔ ¬ b = true := by cases b <;> decide
theorem wend (fu : Nat) {σ : St_} {c : Nat → Nat} {n : Nat} (h : Tp_ σ c n) : ∀ (k g i : Nat), n - i ≤ k → n - i < g → i < 2 ^ 31 → f_X3_wordEnd_4 fu σ g 13 (nI i) (nI i) = some (nI (rn_ isL_ c n k i)) := by
  intro k
  induction k with
  | zero =>
    intro g i h1 h2 h3
    obtain ⟨g, rfl⟩ : ∃ g', g = g' + 1 := ⟨g - 1, by omega⟩
    show (if si_ σ 13 1 ≤ nI i then some (nI i) else _) = _
    rw [h.2.2.1, if_pos (nI_le (by omega) h3)]
    rfl
  | succ k ih =>
    intro g i h1 h2 h3
    obtain ⟨g, rfl⟩ : ∃ g', g = g' + 1 := ⟨g - 1, by omega⟩
    have hn := h.2.1
    show (if si_ σ 13 1 ≤ nI i then some (nI i) else (f_X3_letterAt σ 13 (nI i)).bind fun q2 => if (f_X3_isLetter q2) = 0 then some (nI i) else (f_X3_wordEnd_4 fu σ g) 13 (nI i + (1 : Int32)) (nI i + (1 : Int32))) = _
    unfold rn_
    rw [h.2.2.1]
    by_cases a : i < n
    · rw [if_neg (nI_ge a (by omega)), let_x h a, Option.bind_some, isl_n _ (h.2.2.2 i a).1]
      by_cases b : isL_ (c i) = true
      · rw [if_neg (fun z => (b01 _).mp z b), if_pos ⟨a, b⟩, nI_1, ih g (i + 1) (by omega) (by omega) (by omega)]
      · rw [if_pos ((b01 _).mpr b), if_neg (fun z => b z.2)]
    · rw [if_pos (nI_le (by omega) h3), if_neg (fun z => a z.1)]
theorem dend (fu : Nat) {σ : St_} {c : Nat → Nat} {n : Nat} (h : Tp_ σ c n) : ∀ (k g i : Nat), n - i ≤ k → n - i < g → i < 2 ^ 31 → f_X3_numberEnd_4 fu σ g 13 (nI i) (nI i) = some (nI (rn_ isD_ c n k i)) := by
  intro k
  induction k with
  | zero =>
    intro g i h1 h2 h3
    obtain ⟨g, rfl⟩ : ∃ g', g = g' + 1 := ⟨g - 1, by omega⟩
    show (if si_ σ 13 1 ≤ nI i then some (nI i) else _) = _
    rw [h.2.2.1, if_pos (nI_le (by omega) h3)]
    rfl
  | succ k ih =>
    intro g i h1 h2 h3
    obtain ⟨g, rfl⟩ : ∃ g', g = g' + 1 := ⟨g - 1, by omega⟩
    have hn := h.2.1
    show (if si_ σ 13 1 ≤ nI i then some (nI i) else (f_X3_letterAt σ 13 (nI i)).bind fun q2 => if (f_X3_isDigit q2) = 0 then some (nI i) else (f_X3_numberEnd_4 fu σ g) 13 (nI i + (1 : Int32)) (nI i + (1 : Int32))) = _
    unfold rn_
    rw [h.2.2.1]
    by_cases a : i < n
    · rw [if_neg (nI_ge a (by omega)), let_x h a, Option.bind_some, isd_n _ (h.2.2.2 i a).1]
      by_cases b : isD_ (c i) = true
      · rw [if_neg (fun z => (b01 _).mp z b), if_pos ⟨a, b⟩, nI_1, ih g (i + 1) (by omega) (by omega) (by omega)]
      · rw [if_pos ((b01 _).mpr b), if_neg (fun z => b z.2)]
    · rw [if_pos (nI_le (by omega) h3), if_neg (fun z => a z.1)]
theorem ws_len : ∀ t, t < 13 → sLen_.getD t 0 = (ws_ t).length := by decide +kernel
theorem ws_let : ∀ t, t < 13 → ∀ k, k < (ws_ t).length → (sByt_.getD t []).getD k 0 = nI ((ws_ t).getD k 0) ∧ (ws_ t).getD k 0 < 256 := by decide +kernel
theorem all_ge (f : Nat → Bool) (m : Nat) : (List.range m).all f = true ↔ ∀ k, k < m → f k = true := by
  rw [List.all_eq_true]
  exact ⟨fun h k hk => h k (List.mem_range.mpr hk), fun h k hk => h k (List.mem_range.mp hk)⟩
theorem spl15 (fu : Nat) {σ : St_} {c : Nat → Nat} {n : Nat} (h : Tp_ σ c n) {t i : Nat} (ht : t < 13) (hi : i + (ws_ t).length ≤ n) : ∀ (k j g : Nat), j + k = (ws_ t).length → k < g → (∀ q, q < j → c (i + q) = (ws_ t).getD q 0) → f_X3_spells_15 fu σ g 13 (nI i) t (nI j) = some (if ((List.range (ws_ t).length).all fun k => c (i + k) == (ws_ t).getD k 0) = true then 1 else 0) := by
  intro k
  have hn := h.2.1
  induction k with
  | zero =>
    intro j g h1 h2 h3
    obtain ⟨g, rfl⟩ : ∃ g', g = g' + 1 := ⟨g - 1, by omega⟩
    show (if (nI (sLen_.getD t 0)) ≤ nI j then some (1 : Int32) else _) = _
    rw [ws_len t ht, if_pos (nI_le (by omega) (by omega)), if_pos]
    rw [all_ge]
    intro q hq
    rw [h3 q (by omega)]
    simp
  | succ k ih =>
    intro j g h1 h2 h3
    obtain ⟨g, rfl⟩ : ∃ g', g = g' + 1 := ⟨g - 1, by omega⟩
    show (if (nI (sLen_.getD t 0)) ≤ nI j then some (1 : Int32) else (f_X3_letterAt σ 13 (nI i + nI j)).bind fun q2 => (ix_ (nI j) (sLen_.getD t 0)).bind fun j3 => if q2 = ((sByt_.getD t []).getD j3 0) then (f_X3_spells_15 fu σ g) 13 (nI i) t (nI j + (1 : Int32)) else some (0 : Int32)) = _
    obtain ⟨w1, w2⟩ := ws_let t ht j (by omega)
    rw [ws_len t ht, if_neg (nI_ge (by omega) (by omega)), nI_add, let_x h (by omega), Option.bind_some, ix_ok (by omega) (by omega), Option.bind_some, w1]
    have hc := (h.2.2.2 (i + j) (by omega)).1
    by_cases a : c (i + j) = (ws_ t).getD j 0
    · rw [if_pos (by rw [a]), nI_1, ih (j + 1) g (by omega) (by omega) (fun q hq => by by_cases e : q = j; subst e; exact a; exact h3 q (by omega))]
    · rw [if_neg (nI_ne hc w2 a), if_neg]
      rw [all_ge]
      intro z
      have := z j (by omega)
      simp at this
      exact a (by rw [this]; simp)
theorem spl {fu : Nat} {σ : St_} {c : Nat → Nat} {n : Nat} (h : Tp_ σ c n) {t i e : Nat} (ht : t < 13) (hi : i ≤ e) (he : e ≤ n) (hf : 200 ≤ fu) : f_X3_spells fu σ 13 (nI i) (nI e) t = some (if sp1_ c i e t = true then 1 else 0) := by
  have hn := h.2.1
  unfold f_X3_spells sp1_
  have hs : nI e - nI i = nI (e - i) := by
    have : nI e = nI (e - i) + nI i := by rw [nI_add]; congr 1; omega
    rw [this, Int32.add_sub_cancel]
  have hw : (ws_ t).length < 64 := (show ∀ t, t < 13 → (ws_ t).length < 64 by decide +kernel) t ht
  rw [hs, ws_len t ht]
  by_cases a : e - i = (ws_ t).length
  · rw [if_pos (by rw [a]), show (0 : Int32) = nI 0 from rfl, spl15 fu h ht (by omega) (ws_ t).length 0 fu (by omega) (by omega) (fun q hq => by omega)]
    simp [a]
    rfl
  · rw [if_neg (fun z => a ((nI_eq (by omega) (by omega)).mp z)), if_neg (by simp [a])]
theorem wtk {fu : Nat} {σ : St_} {c : Nat → Nat} {n : Nat} (h : Tp_ σ c n) {i e : Nat} (hi : i ≤ e) (he : e ≤ n) (hf : 200 ≤ fu) : f_X3_wordToken fu σ 13 (nI i) (nI e) = some (nI (wt_ c i e)) := by
  unfold f_X3_wordToken wt_
  rw [spl h (by omega) hi he hf, spl h (by omega) hi he hf, spl h (by omega) hi he hf, spl h (by omega) hi he hf, spl h (by omega) hi he hf, spl h (by omega) hi he hf, spl h (by omega) hi he hf, spl h (by omega) hi he hf, spl h (by omega) hi he hf, spl h (by omega) hi he hf, spl h (by omega) hi he hf, spl h (by omega) hi he hf]
  simp only [Option.bind_some, b01]
  generalize sp1_ c i e 1 = b1
  generalize sp1_ c i e 2 = b2
  generalize sp1_ c i e 3 = b3
  generalize sp1_ c i e 4 = b4
  generalize sp1_ c i e 5 = b5
  generalize sp1_ c i e 6 = b6
  generalize sp1_ c i e 7 = b7
  generalize sp1_ c i e 8 = b8
  generalize sp1_ c i e 9 = b9
  generalize sp1_ c i e 10 = b10
  generalize sp1_ c i e 11 = b11
  generalize sp1_ c i e 12 = b12
  cases b1
  · cases b2
    · cases b3
      · cases b4
        · cases b5
          · cases b6
            · cases b7
              · cases b8
                · cases b9
                  · cases b10
                    · cases b11
                      · cases b12 <;> rfl
                      · rfl
                    · rfl
                  · rfl
                · rfl
              · rfl
            · rfl
          · rfl
        · rfl
      · rfl
    · rfl
  · rfl
theorem isd_r : ∀ x, isD_ x = true → 48 ≤ x ∧ x ≤ 57 := fun x h => by
  unfold isD_ at h
  simp at h
  omega
theorem nval (fu : Nat) {σ : St_} {c : Nat → Nat} {n : Nat} (h : Tp_ σ c n) {i e : Nat} (hi : i ≤ e) (he : e ≤ n) (hd : ∀ j, i ≤ j → j < e → isD_ (c j) = true) : ∀ (k j g : Nat), i + j + k = e → k < g → f_X3_numberValue_5 fu σ g 13 (nI e) (nI (nv_ c i j)) (nI (i + j)) = some (nI (nv_ c i (e - i))) := by
  intro k
  have hn := h.2.1
  induction k with
  | zero =>
    intro j g h1 h2
    obtain ⟨g, rfl⟩ : ∃ g', g = g' + 1 := ⟨g - 1, by omega⟩
    show (if nI e ≤ nI (i + j) then some (nI (nv_ c i j)) else _) = _
    rw [if_pos (nI_le (by omega) (by omega)), show e - i = j by omega]
  | succ k ih =>
    intro j g h1 h2
    obtain ⟨g, rfl⟩ : ∃ g', g = g' + 1 := ⟨g - 1, by omega⟩
    show (if nI e ≤ nI (i + j) then some (nI (nv_ c i j)) else (f_X3_letterAt σ 13 (nI (i + j))).bind fun q2 => (f_X3_numberValue_5 fu σ g) 13 (nI e) (((nI (nv_ c i j) * (10 : Int32)) + q2) - (48 : Int32)) (nI (i + j) + (1 : Int32))) = _
    rw [if_neg (nI_ge (by omega) (by omega)), let_x h (by omega), Option.bind_some, nI_1]
    have hr := isd_r _ (hd (i + j) (by omega) (by omega))
    have e2 : (nI (nv_ c i j) * 10 + nI (c (i + j))) - 48 = nI (nv_ c i (j + 1)) := by
      show _ = nI (nv_ c i j * 10 + (c (i + j) - 48))
      rw [show nI (nv_ c i j) * 10 = nI (nv_ c i j * 10) from (Int32.ofNat_mul _ 10).symm, nI_add]
      have : nI (nv_ c i j * 10 + c (i + j)) = nI (nv_ c i j * 10 + (c (i + j) - 48)) + 48 := by
        rw [show (48 : Int32) = nI 48 from rfl, nI_add]
        congr 1
        omega
      rw [this, Int32.add_sub_cancel]
    rw [e2]
    exact ih (j + 1) g (by omega) (by omega)
