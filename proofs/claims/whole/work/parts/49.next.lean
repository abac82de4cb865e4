/-! THE REFERENCE'S TOKENS -/
theorem tk_f (c : Nat → Nat) (n : Nat) : ∀ k k' i, n - i ≤ k → n - i ≤ k' → tk_ c n k i = tk_ c n k' i := by
  intro k
  induction k with
  | zero =>
    intro k' i h1 h2
    cases k' with
    | zero => rfl
    | succ k' => unfold tk_; rw [if_neg (by omega)]
  | succ k ih =>
    intro k' i h1 h2
    cases k' with
    | zero => unfold tk_; rw [if_neg (by omega)]
    | succ k' =>
      unfold tk_
      by_cases h : i < n
      · rw [if_pos h, if_pos h]
        by_cases a1 : isL_ (c i) = true
        · have := rn_1 isL_ c n i h a1
          rw [if_pos a1, if_pos a1, ih k' _ (by omega) (by omega)]
        · rw [if_neg a1, if_neg a1]
          by_cases a2 : isD_ (c i) = true
          · have := rn_1 isD_ c n i h a2
            rw [if_pos a2, if_pos a2, ih k' _ (by omega) (by omega)]
          · rw [if_neg a2, if_neg a2, ih k' _ (by omega) (by omega)]
      · rw [if_neg h, if_neg h]
/-- the tokens from a place on, unfolded once -/
theorem tk_u (c : Nat → Nat) (n i : Nat) (h : i < n) : tk_ c n n i =
      (if isL_ (c i) = true then (wt_ c i (rn_ isL_ c n n i), i, 0) :: tk_ c n n (rn_ isL_ c n n i)
       else if isD_ (c i) = true then ((if 4 < rn_ isD_ c n n i - i then 1 else 2), i, nv_ c i (rn_ isD_ c n n i - i)) :: tk_ c n n (rn_ isD_ c n n i)
       else if isW_ (c i) = true then tk_ c n n (i + 1)
       else ((if isS_ (c i) = true then c i else 1), i, 0) :: tk_ c n n (i + 1)) := by
  rw [tk_f c n n (n + 1) i (by omega) (by omega)]
  conv => lhs; unfold tk_
  rw [if_pos h]
theorem tk_e (c : Nat → Nat) (n i : Nat) (h : n ≤ i) : tk_ c n n i = [] := by
  rw [tk_f c n n 0 i (by omega) (by omega)]
  rfl
theorem to_tk (c : Nat → Nat) (n : Nat) : ∀ k i, To_ (tk_ c n k i) := by
  intro k
  induction k with
  | zero => intro i x hx; cases hx
  | succ k ih =>
    intro i
    unfold tk_
    by_cases h : i < n
    · rw [if_pos h]
      by_cases a1 : isL_ (c i) = true
      · rw [if_pos a1]
        intro x hx e
        rcases List.mem_cons.mp hx with rfl | hx
        · exact absurd e (wt_r c i _).2
        · exact ih _ x hx e
      · rw [if_neg a1]
        by_cases a2 : isD_ (c i) = true
        · rw [if_pos a2]
          intro x hx e
          rcases List.mem_cons.mp hx with rfl | hx
          · obtain ⟨-, -, q3⟩ := rn_i isD_ c n n i
            by_cases a3 : 4 < rn_ isD_ c n n i - i
            · rw [if_pos a3] at e; exact absurd e (show ¬ (1 : Nat) = 2 by decide)
            · have := nv_lt (c := c) (i := i) (rn_ isD_ c n n i - i) (fun j h1 h2 => (q3 j h1 (by omega)).2)
              have h2 : 10 ^ (rn_ isD_ c n n i - i) ≤ 10 ^ 4 := Nat.pow_le_pow_right (by decide) (by omega)
              show nv_ c i (rn_ isD_ c n n i - i) < 10000
              omega
          · exact ih _ x hx e
        · rw [if_neg a2]
          by_cases a3 : isW_ (c i) = true
          · rw [if_pos a3]; exact ih _
          · rw [if_neg a3]
            intro x hx e
            rcases List.mem_cons.mp hx with rfl | hx
            · by_cases a4 : isS_ (c i) = true
              · rw [if_pos a4] at e
                have e' : c i = 2 := e
                rw [e'] at a4
                exact absurd a4 (by decide)
              · rw [if_neg a4] at e; exact absurd e (show ¬ (1 : Nat) = 2 by decide)
            · exact ih _ x hx e
    · rw [if_neg h]; intro x hx; cases hx
theorem len_tk (c : Nat → Nat) (n : Nat) : ∀ k i, (tk_ c n k i).length ≤ k := by
  intro k
  induction k with
  | zero => intro i; exact Nat.le_refl _
  | succ k ih =>
    intro i
    have h1 := ih (rn_ isL_ c n n i)
    have h2 := ih (rn_ isD_ c n n i)
    have h3 := ih (i + 1)
    unfold tk_
    repeat' split
    all_goals simp
    all_goals omega
def To3_ (ts : List Tk_) : Prop := To_ ts ∧ ts.length ≤ 160
theorem to3_tk (c : Nat → Nat) {n : Nat} (hn : n ≤ 160) (i : Nat) : To3_ (tk_ c n n i) := ⟨to_tk c n n i, Nat.le_trans (len_tk c n n i) hn⟩
/-- a text that is read there: letters, how many -/
def Bm_ (σ0 : St_) (c : Nat → Nat) (n t : Nat) : Prop := ShM_ σ0 ∧ n ≤ 160 ∧ t < 6 ∧ si_ σ0 0 19 = nI n ∧ si_ σ0 0 18 = nI (160 * t) ∧ ∀ j, j < n → c j < 256 ∧ si_ σ0 1 (160 * t + j) = nI (c j)
def mR_ (r k : Nat) : Prop := r = 0 ∧ 20 ≤ k ∧ k ≤ 26
def Fm_ (σ0 σ : St_) : Prop := ShM_ σ ∧ Fr_ (fun r k => ¬ mR_ r k) σ0 σ
/-- it stands at a place, and nothing is wrong -/
def Hh_ (σ0 : St_) (n : Nat) (σ : St_) (d h : Nat) : Prop := Fm_ σ0 σ ∧ h ≤ n ∧ si_ σ 0 20 = nI h ∧ si_ σ 0 24 = nI d ∧ si_ σ 0 25 = 0
/-- the token at hand, and those behind it -/
def Nx_ (σ0 : St_) (c : Nat → Nat) (n : Nat) (σ : St_) (d : Nat) (ts : List Tk_) : Prop := To3_ ts ∧ ∃ h, Hh_ σ0 n σ d h ∧
  ((ts = [] ∧ si_ σ 0 21 = 0 ∧ si_ σ 0 22 = nI n) ∨
   ∃ t pl v r, ts = (t, pl, v) :: r ∧ si_ σ 0 22 = nI pl ∧ pl ≤ n ∧
    ((si_ σ 0 21 = 1 ∧ pl < h ∧ t = wt_ c pl h ∧ (∀ j, pl ≤ j → j < h → isL_ (c j) = true) ∧ r = tk_ c n n h) ∨
     (si_ σ 0 21 = 2 ∧ t = 2 ∧ sl_ σ 0 23 = lN v ∧ v < 10000 ∧ r = tk_ c n n h) ∨
     (si_ σ 0 21 = 3 ∧ isS_ t = true ∧ t < 256 ∧ sl_ σ 0 23 = lN t ∧ r = tk_ c n n h) ∨
     (si_ σ 0 21 = 4 ∧ t = 1)))
theorem byt_i {σ0 : St_} {c : Nat → Nat} {n t : Nat} (hB : Bm_ σ0 c n t) {σ : St_} (hf : Fm_ σ0 σ) {h : Nat} (hh : h < n) : f_X9_byteAt σ 0 (nI h) = some (nI (c h)) := by
  obtain ⟨-, hn, ht, e19, e18, hc⟩ := hB
  unfold f_X9_byteAt
  rw [hf.2.i (r := 0) (k := 19) (by simp [mR_]), e19, if_neg (nI_ge hh (by omega)), dm_0_1 hf.1, Option.bind_some, lm_1 hf.1, hf.2.i (r := 0) (k := 18) (by simp [mR_]), e18, nI_add, ix_ok (by omega) (by omega), Option.bind_some, hf.2.i (r := 1) (by simp [mR_]), (hc h hh).2]
theorem byt_o {σ0 : St_} {c : Nat → Nat} {n t : Nat} (hB : Bm_ σ0 c n t) {σ : St_} (hf : Fm_ σ0 σ) {h : Nat} (hh : n ≤ h) (h3 : h < 2 ^ 31) : f_X9_byteAt σ 0 (nI h) = some (-1) := by
  obtain ⟨-, hn, ht, e19, e18, hc⟩ := hB
  unfold f_X9_byteAt
  rw [hf.2.i (r := 0) (k := 19) (by simp [mR_]), e19, if_pos (nI_le hh h3)]
theorem in_l : ∀ x, x < 256 → (f_X9_in (nI x).toInt64 97 122 = 0 ↔ ¬ isL_ x = true) := by decide +kernel
theorem in_d : ∀ x, x < 256 → (f_X9_in (nI x).toInt64 48 57 = 0 ↔ ¬ isD_ x = true) := by decide +kernel
theorem ui_ui (σ : St_) (a k : Nat) (v w : Int32) : ui_ (ui_ σ a k v) a k w = ui_ σ a k w := by
  rw [ui_eq (ui_ σ a k v), ui_eq σ, uw_uw, si_uw, ui_eq]
  apply uw_ext
  intro j
  rw [upd_g, upd_g, upd_g]
  by_cases e : j = k
  · rw [if_pos e, if_pos e]
  · rw [if_neg e, if_neg e, if_neg e]
theorem Fm_.ui {σ0 σ : St_} (h : Fm_ σ0 σ) {k : Nat} (v : Int32) (hk : 20 ≤ k ∧ k ≤ 26) : Fm_ σ0 (ui_ σ 0 k v) := ⟨h.1, Fr_.ui h.2 _ _ _ (by simp [mR_]; omega)⟩
theorem Fm_.ul {σ0 σ : St_} (h : Fm_ σ0 σ) {k : Nat} (v : Int64) (hk : 20 ≤ k ∧ k ≤ 26) : Fm_ σ0 (ul_ σ 0 k v) := ⟨h.1, Fr_.ul h.2 _ _ _ (by simp [mR_]; omega)⟩
/-- the letters of a word -/
theorem nx100 {σ0 : St_} {c : Nat → Nat} {n t : Nat} (hB : Bm_ σ0 c n t) : ∀ (k g h : Nat) (σ : St_), n - h ≤ k → n - h < g → h < 2 ^ 31 → Fm_ σ0 σ → si_ σ 0 20 = nI h → f_X9_next_100 5000 g σ 0 = some (ui_ σ 0 20 (nI (rn_ isL_ c n k h))) := by
  intro k
  have hn := hB.2.1
  have stay : ∀ (σ : St_) (h : Nat), si_ σ 0 20 = nI h → ui_ σ 0 20 (nI h) = σ := fun σ h e => by
    rw [ui_eq]
    conv => rhs; rw [← uw_id σ 0]
    apply uw_ext
    intro j
    rw [upd_g]
    by_cases z : j = 20
    · rw [if_pos z, z, e]
    · rw [if_neg z]
  induction k with
  | zero =>
    intro g h σ h1 h2 h3 hf e
    obtain ⟨g, rfl⟩ : ∃ g', g = g' + 1 := ⟨g - 1, by omega⟩
    show ((f_X9_byteAt σ 0 (si_ σ 0 20)).bind fun q1 => if (f_X9_in q1.toInt64 (97 : Int64) (122 : Int64)) = 0 then some σ else _) = _
    rw [e, byt_o hB hf (by omega) h3, Option.bind_some, if_pos (by decide +kernel)]
    show _ = some (ui_ σ 0 20 (nI h))
    rw [stay σ h e]
  | succ k ih =>
    intro g h σ h1 h2 h3 hf e
    obtain ⟨g, rfl⟩ : ∃ g', g = g' + 1 := ⟨g - 1, by omega⟩
    show ((f_X9_byteAt σ 0 (si_ σ 0 20)).bind fun q1 => if (f_X9_in q1.toInt64 (97 : Int64) (122 : Int64)) = 0 then some σ else (f_X9_next_100 5000 g) (ui_ σ 0 20 ((si_ σ 0 20) + (1 : Int32))) 0) = _
    unfold rn_
    rw [e]
    by_cases a : h < n
    · rw [byt_i hB hf a, Option.bind_some]
      by_cases b : isL_ (c h) = true
      · rw [if_neg (fun z => (in_l _ (hB.2.2.2.2.2 h a).1).mp z b), if_pos ⟨a, b⟩, nI_1, ih g (h + 1) _ (by omega) (by omega) (by omega) (hf.ui _ (by omega)) (by rw [g_si_ui, if_pos rfl, if_pos rfl]), ui_ui]
      · rw [if_pos ((in_l _ (hB.2.2.2.2.2 h a).1).mpr b), if_neg (fun z => b z.2), stay σ h e]
    · rw [byt_o hB hf (by omega) h3, Option.bind_some, if_pos (by decide +kernel), if_neg (fun z => a z.1), stay σ h e]
/-- the digits of a number -/
theorem nx160 {σ0 : St_} {c : Nat → Nat} {n t i : Nat} (hB : Bm_ σ0 c n t) : ∀ (k g j : Nat) (σ : St_), n - (i + j) ≤ k → n - (i + j) < g → i + j ≤ n → (∀ q, i ≤ q → q < i + j → isD_ (c q) = true) → Fm_ σ0 σ → si_ σ 0 20 = nI (i + j) → sl_ σ 0 23 = lN (nv_ c i (min j 4)) →
    ∃ σ', f_X9_next_160 5000 g σ 0 (nI j) = some σ' ∧ Fm_ σ0 σ' ∧ si_ σ' 0 20 = nI (rn_ isD_ c n k (i + j)) ∧ si_ σ' 0 21 = (if 4 < rn_ isD_ c n k (i + j) - i then 4 else 2) ∧ sl_ σ' 0 23 = lN (nv_ c i (min (rn_ isD_ c n k (i + j) - i) 4)) ∧ si_ σ' 0 22 = si_ σ 0 22 ∧ si_ σ' 0 24 = si_ σ 0 24 ∧ si_ σ' 0 25 = si_ σ 0 25 := by
  intro k
  have hn := hB.2.1
  have fin : ∀ (g j : Nat) (σ : St_), i + j ≤ n → Fm_ σ0 σ → si_ σ 0 20 = nI (i + j) → sl_ σ 0 23 = lN (nv_ c i (min j 4)) → (n ≤ i + j ∨ ¬ isD_ (c (i + j)) = true) → ∃ σ', f_X9_next_160 5000 (g + 1) σ 0 (nI j) = some σ' ∧ Fm_ σ0 σ' ∧ si_ σ' 0 20 = nI (i + j) ∧ si_ σ' 0 21 = (if 4 < i + j - i then 4 else 2) ∧ sl_ σ' 0 23 = lN (nv_ c i (min (i + j - i) 4)) ∧ si_ σ' 0 22 = si_ σ 0 22 ∧ si_ σ' 0 24 = si_ σ 0 24 ∧ si_ σ' 0 25 = si_ σ 0 25 := by
    intro g j σ h1 hf e el hz
    have e0 : f_X9_next_160 5000 (g + 1) σ 0 (nI j) = if nI j ≤ (4 : Int32) then some (ui_ σ 0 21 (2 : Int32)) else some (ui_ σ 0 21 (4 : Int32)) := by
      show ((f_X9_byteAt σ 0 (si_ σ 0 20)).bind fun q1 => if (f_X9_in q1.toInt64 (48 : Int64) (57 : Int64)) = 0 then if nI j ≤ (4 : Int32) then some (ui_ σ 0 21 (2 : Int32)) else some (ui_ σ 0 21 (4 : Int32)) else _) = _
      rw [e]
      rcases Nat.lt_or_ge (i + j) n with a | a
      · rw [byt_i hB hf a, Option.bind_some, if_pos ((in_d _ (hB.2.2.2.2.2 _ a).1).mpr (hz.resolve_left (by omega)))]
      · rw [byt_o hB hf a (by omega), Option.bind_some, if_pos (by decide +kernel)]
    rw [e0, Nat.add_sub_cancel_left]
    by_cases b : 4 < j
    · rw [if_neg (show ¬ nI j ≤ (4 : Int32) from nI_ge (a := 4) b (by omega)), if_pos b]
      exact ⟨_, rfl, hf.ui _ (by omega), e, rfl, el, rfl, rfl, rfl⟩
    · rw [if_pos (show nI j ≤ (4 : Int32) from nI_le (b := 4) (by omega) (by omega)), if_neg b]
      exact ⟨_, rfl, hf.ui _ (by omega), e, rfl, el, rfl, rfl, rfl⟩
  induction k with
  | zero =>
    intro g j σ h1 h2 h3 hd hf e el
    obtain ⟨g, rfl⟩ : ∃ g', g = g' + 1 := ⟨g - 1, by omega⟩
    exact fin g j σ h3 hf e el (Or.inl (by omega))
  | succ k ih =>
    intro g j σ h1 h2 h3 hd hf e el
    obtain ⟨g, rfl⟩ : ∃ g', g = g' + 1 := ⟨g - 1, by omega⟩
    unfold rn_
    by_cases a : i + j < n ∧ isD_ (c (i + j)) = true
    · rw [if_pos a]
      have hc := (hB.2.2.2.2.2 _ a.1).1
      have hr := isd_r _ a.2
      have nd : ¬ f_X9_in (nI (c (i + j))).toInt64 48 57 = 0 := fun z => (in_d _ hc).mp z a.2
      have e0 : f_X9_next_160 5000 (g + 1) σ 0 (nI j) = if (4 : Int32) ≤ nI j then (f_X9_next_160 5000 g) (ui_ (ul_ σ 0 23 (sl_ σ 0 23)) 0 20 (nI (i + j + 1))) 0 (nI (j + 1)) else (f_X9_next_160 5000 g) (ui_ (ul_ σ 0 23 ((((10 : Int64) * (sl_ σ 0 23)) + (nI (c (i + j))).toInt64) - (48 : Int64))) 0 20 (nI (i + j + 1))) 0 (nI (j + 1)) := by
        show ((f_X9_byteAt σ 0 (si_ σ 0 20)).bind fun q1 => if (f_X9_in q1.toInt64 (48 : Int64) (57 : Int64)) = 0 then _ else if (4 : Int32) ≤ nI j then (f_X9_next_160 5000 g) (ui_ (ul_ σ 0 23 (sl_ σ 0 23)) 0 20 ((si_ σ 0 20) + (1 : Int32))) 0 (nI j + (1 : Int32)) else (f_X9_byteAt σ 0 (si_ σ 0 20)).bind fun q7 => (f_X9_next_160 5000 g) (ui_ (ul_ σ 0 23 ((((10 : Int64) * (sl_ σ 0 23)) + q7.toInt64) - (48 : Int64))) 0 20 ((si_ σ 0 20) + (1 : Int32))) 0 (nI j + (1 : Int32))) = _
        rw [e, byt_i hB hf a.1, Option.bind_some, if_neg nd, Option.bind_some, nI_1, nI_1]
      rw [e0]
      by_cases b : 4 ≤ j
      · rw [if_pos (show (4 : Int32) ≤ nI j from nI_le (a := 4) b (by omega))]
        have := ih g (j + 1) (ui_ (ul_ σ 0 23 (sl_ σ 0 23)) 0 20 (nI (i + j + 1))) (by omega) (by omega) (by omega) (fun q h1 h2 => by by_cases z : q = i + j; rw [z]; exact a.2; exact hd q h1 (by omega)) ((hf.ul _ (by omega)).ui _ (by omega)) rfl (by
          show sl_ (ul_ σ 0 23 (sl_ σ 0 23)) 0 23 = _
          rw [g_sl_ul, if_pos rfl, if_pos rfl, el, show min j 4 = 4 by omega, show min (j + 1) 4 = 4 by omega])
        exact this
      · rw [if_neg (show ¬ (4 : Int32) ≤ nI j from nI_ge (b := 4) (by omega) (by omega))]
        have := ih g (j + 1) (ui_ (ul_ σ 0 23 ((((10 : Int64) * (sl_ σ 0 23)) + (nI (c (i + j))).toInt64) - (48 : Int64))) 0 20 (nI (i + j + 1))) (by omega) (by omega) (by omega) (fun q h1 h2 => by by_cases z : q = i + j; rw [z]; exact a.2; exact hd q h1 (by omega)) ((hf.ul _ (by omega)).ui _ (by omega)) rfl (by
          show sl_ (ul_ σ 0 23 _) 0 23 = _
          rw [g_sl_ul, if_pos rfl, if_pos rfl, el, show min j 4 = j by omega, show min (j + 1) 4 = j + 1 by omega, nI_l (by omega), show (10 : Int64) = lN 10 from rfl, lN_mul, lN_add, show (48 : Int64) = lN 48 from rfl, lN_sub (by omega)]
          congr 1
          show _ = nv_ c i j * 10 + (c (i + j) - 48)
          omega)
        exact this
    · rw [if_neg a]
      exact fin g j σ h3 hf e el (by
        by_cases z : i + j < n
        · exact Or.inr (fun w => a ⟨z, w⟩)
        · exact Or.inl (by omega))
