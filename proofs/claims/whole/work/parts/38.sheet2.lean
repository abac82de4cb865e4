/-! CELL, COPY, CARPETS OF A SHEET -/
/-- sheet s as both have it -/
theorem she_st {σx σm : St_} (hS : RS_ σx σm) {s : Nat} (hs : s < 4) : (si_ σx (2 * s + 41) 1 = -1 ∧ si_ σx (2 * s + 41) 2 = 0 ∧ si_ σm 15 s = 0) ∨ ∃ so' n : Nat, so' < 3 ∧ n ≤ 40 ∧ si_ σx (2 * s + 41) 1 = nI so' ∧ si_ σx (2 * s + 41) 2 = nI n ∧ si_ σm 15 s = 1 ∧ si_ σm 16 s = nI so' ∧ si_ σm 17 s = nI n ∧ ∀ j, j < n → si_ σx (2 * s + 42) j = si_ σm 18 (40 * s + j) := hS s hs
theorem mis_1 {σ : St_} {a : Nat} (h : si_ σ a 1 = -1) : ¬ f_X4_isMissing σ a = 0 := by unfold f_X4_isMissing; rw [if_pos h]; decide
theorem mis_0 {σ : St_} {a d : Nat} (h : si_ σ a 1 = nI d) (hd : d < 3) : f_X4_isMissing σ a = 0 := by
  unfold f_X4_isMissing
  rw [if_neg]
  rw [h]
  exact (show ∀ d, d < 3 → ¬ nI d = (-1 : Int32) by decide +kernel) d hd
/-- one item is written on both sides -/
theorem rs_put {σx σm : St_} (hS : RS_ σx σm) {s i : Nat} (hs : s < 4) (hi : i < 40) (v : Int32) : RS_ (ui_ σx (2 * s + 42) i v) (ui_ σm 18 (40 * s + i) v) := by
  intro u hu
  have k1 : ∀ k, si_ (ui_ σx (2 * s + 42) i v) (2 * u + 41) k = si_ σx (2 * u + 41) k := fun k => by rw [g_si_ne (by omega)]
  rcases hS u hu with ⟨h1, h2, h3⟩ | ⟨so, n, h1, h2, h3, h4, h5, h6, h7, h8⟩
  · exact Or.inl ⟨(k1 1).trans h1, (k1 2).trans h2, h3⟩
  · refine Or.inr ⟨so, n, h1, h2, (k1 1).trans h3, (k1 2).trans h4, h5, h6, h7, fun j hj => ?_⟩
    rw [g_si_ui, g_si_ui, if_pos rfl]
    by_cases e : u = s
    · subst e
      rw [if_pos rfl]
      by_cases e2 : j = i
      · rw [if_pos e2, if_pos (by omega)]
      · rw [if_neg e2, if_neg (by omega)]; exact h8 j hj
    · rw [if_neg (by omega), if_neg (by omega)]; exact h8 j hj
theorem sim_cell : Sim_cell Rel_ := by
  intro σx σm h x1 x2 x3
  have h0 := h
  obtain ⟨hX, hM, tc, n, hT, hF, hK, hP, hS⟩ := h
  rcases bel_c x1 (n := 4) (by omega) with hb | ⟨s, hs, rfl⟩
  · refine ⟨-2, σx, σm, ?_, ?_, h0⟩
    · unfold f_X8_cell
      rw [she_n hX x1 hb]
      rfl
    · unfold f_X9_cell
      rw [if_pos ((isS_c x1).mpr hb)]
  have hsn : ¬ f_X9_isSheet (nI s) = 0 := fun z => bel_n hs (by omega) ((isS_c _).mp z)
  obtain ⟨g1, g2, g3, g4⟩ := hX.she hs
  have eX : f_X8_cell σx 0 (nI s) x2 x3 = (if (f_X4_isMissing σx (2 * s + 41)) = 0 then if (f_X8_isBelow x2 (si_ σx (2 * s + 41) 2)) = 0 then some ((-12 : Int32), σx) else (f_X4_put σx (2 * s + 41) x2 x3).bind fun q12 => some ((1 : Int32), q12) else some ((-11 : Int32), σx)) := by
    unfold f_X8_cell
    rw [she_s hX hs, Option.bind_some]
    show (if _ then _ else _) = _
    rw [if_pos g2]
  unfold f_X9_cell
  rw [eX, if_neg hsn, dm_0_38 hM, Option.bind_some, lm_15 hM, ix_ok hs (by omega), Option.bind_some]
  rcases she_st hS hs with ⟨z1, z2, z3⟩ | ⟨so, m, h1, h2, h3, h4, h5, h6, h7, h8⟩
  · rw [if_neg (mis_1 z1), if_pos z3]
    exact ⟨_, _, _, rfl, rfl, h0⟩
  · rw [if_pos (mis_0 h3 h1), h5, if_neg (show ¬ (1 : Int32) = 0 by decide), h4, dm_0_40 hM, Option.bind_some, lm_17 hM, ix_ok hs (by omega), Option.bind_some, h7]
    have hb : f_X9_in x2.toInt64 0 ((nI m - 1).toInt64) = 0 ↔ f_X8_isBelow x2 (nI m) = 0 := by
      cases m with
      | zero =>
        rw [in_0, bel_0, Int64.lt_iff_toInt_lt, Int64.lt_iff_toInt_lt, Int32.lt_iff_toInt_lt, Int32.le_iff_toInt_le, Int32.toInt_toInt64, Int32.toInt_toInt64, show (nI 0 - 1).toInt = -1 by decide +kernel, show (nI 0).toInt = 0 from rfl, show (0 : Int64).toInt = 0 from rfl, show (0 : Int32).toInt = 0 from rfl]
        omega
      | succ k => rw [nI_pred]; exact in_b (by omega)
    rcases bel_c x2 (n := m) (by omega) with b | ⟨i, hi, rfl⟩
    · rw [if_pos b, if_pos (hb.mpr b)]
      exact ⟨_, _, _, rfl, rfl, h0⟩
    · rw [if_neg (bel_n hi (by omega)), if_neg (fun z => bel_n hi (by omega) (hb.mp z)), dm_0_41 hM, Option.bind_some, dm_0_39 hM, Option.bind_some, lm_16 hM, ix_ok hs (by omega), Option.bind_some, h6, Option.bind_some, lm_18 hM, c40, ix_ok (by omega : 40 * s + i < 160) (by omega)]
      unfold f_X4_put
      rw [h4, if_neg (bel_n hi (by omega)), g3, Option.bind_some, g4, if_neg (nI_ge (by omega) (by omega)), h3, ix_ok (by omega : i < 40) (by omega)]
      simp only [Option.bind_some]
      have rel : ∀ v, Rel_ (ui_ σx (2 * s + 42) i v) (ui_ σm 18 (40 * s + i) v) := fun v => rel_S hX hM hT hF hK hP (Fr_.ui (Fr_.refl _ _) _ _ _ (by simp [xS_]; omega)) (Fr_.ui (Fr_.refl _ _) _ _ _ (by simp [mS_])) (rs_put hS hs (by omega) v)
      by_cases s0 : nI so = 0
      · rw [if_pos s0, if_pos s0]
        exact ⟨_, _, _, rfl, rfl, rel _⟩
      · rw [if_neg s0, if_neg s0, h6]
        by_cases s1 : nI so = 1
        · rw [if_pos s1, if_pos s1]
          exact ⟨_, _, _, rfl, rfl, rel _⟩
        · rw [if_neg s1, if_neg s1]
          exact ⟨_, _, _, rfl, rfl, rel _⟩
/-- the copying loop there, from the front -/
theorem cpy_dn (fu : Nat) {σ0 : St_} (hM : ShM_ σ0) {s o i j n : Nat} (hs : s < 4) (ho : o < 4) (hi : i + n ≤ 40) (hj : j + n ≤ 40) (hd : s ≠ o ∨ j ≤ i) (f0 : Nat → Int32) : ∀ (k q fuel : Nat), q + k = n → k < fuel →
    f_X9_copy_121 fu fuel (uw_ σ0 18 (fun p => if 40 * o + j ≤ p ∧ p < 40 * o + j + q then f0 (40 * s + i + (p - (40 * o + j))) else f0 p)) 0 (nI s) (nI i) (nI o) (nI j) (nI n) 0 (nI q) = some (nI n, uw_ σ0 18 (fun p => if 40 * o + j ≤ p ∧ p < 40 * o + j + n then f0 (40 * s + i + (p - (40 * o + j))) else f0 p)) := by
  intro k
  induction k with
  | zero =>
    intro q fuel hq hf
    obtain ⟨g, rfl⟩ : ∃ g, fuel = g + 1 := ⟨fuel - 1, by omega⟩
    have : q = n := by omega
    subst this
    show (if nI q ≤ nI q then _ else _) = _
    rw [if_pos (nI_le (by omega) (by omega))]
  | succ k ih =>
    intro q fuel hq hf
    obtain ⟨g, rfl⟩ : ∃ g, fuel = g + 1 := ⟨fuel - 1, by omega⟩
    show (if nI n ≤ nI q then _ else if (0 : Int32) = 0 then _ else _) = _
    rw [if_neg (nI_ge (by omega) (by omega)), if_pos rfl]
    unfold f_X9_copy_145
    show ((dr_ σ0 10 (sr_ σ0 0 41)).bind fun b1 => _) = _
    rw [dm_0_41 hM, Option.bind_some]
    show ((ix_ _ (ln_ σ0 18)).bind fun j2 => (ix_ _ (ln_ σ0 18)).bind fun j3 => _) = _
    rw [lm_18 hM, c40, c40, nI_add, nI_add, ix_ok (by omega) (by omega), ix_ok (by omega) (by omega)]
    simp only [Option.bind_some]
    rw [nI_1, ui_uw, si_uw, ← ih (q + 1) g (by omega) (by omega)]
    congr 1
    apply uw_ext
    intro p
    rw [upd_g]
    by_cases h1 : p = 40 * o + j + q
    · subst h1
      rw [if_pos rfl, if_neg (by omega), if_pos (by omega)]
      congr 1
      omega
    · rw [if_neg h1]
      by_cases h2 : 40 * o + j ≤ p ∧ p < 40 * o + j + q
      · rw [if_pos h2, if_pos (by omega)]
      · rw [if_neg h2, if_neg (by omega)]
/-- and from the end -/
theorem cpy_up (fu : Nat) {σ0 : St_} (hM : ShM_ σ0) {s i j n : Nat} (hs : s < 4) (hi : i + n ≤ 40) (hj : j + n ≤ 40) (hd : i < j) (f0 : Nat → Int32) : ∀ (k q fuel : Nat), q + k = n → k < fuel →
    f_X9_copy_121 fu fuel (uw_ σ0 18 (fun p => if 40 * s + j + (n - q) ≤ p ∧ p < 40 * s + j + n then f0 (40 * s + i + (p - (40 * s + j))) else f0 p)) 0 (nI s) (nI i) (nI s) (nI j) (nI n) 1 (nI q) = some (nI n, uw_ σ0 18 (fun p => if 40 * s + j ≤ p ∧ p < 40 * s + j + n then f0 (40 * s + i + (p - (40 * s + j))) else f0 p)) := by
  intro k
  induction k with
  | zero =>
    intro q fuel hq hf
    obtain ⟨g, rfl⟩ : ∃ g, fuel = g + 1 := ⟨fuel - 1, by omega⟩
    have : q = n := by omega
    subst this
    show (if nI q ≤ nI q then _ else _) = _
    rw [if_pos (nI_le (by omega) (by omega))]
    congr 2
    apply uw_ext
    intro p
    rw [Nat.sub_self, Nat.add_zero]
  | succ k ih =>
    intro q fuel hq hf
    obtain ⟨g, rfl⟩ : ∃ g, fuel = g + 1 := ⟨fuel - 1, by omega⟩
    show (if nI n ≤ nI q then _ else if (1 : Int32) = 0 then _ else _) = _
    rw [if_neg (nI_ge (by omega) (by omega)), if_neg (by decide)]
    have e : nI n - 1 - nI q = nI k := by
      obtain ⟨m, rfl⟩ : ∃ m, n = m + 1 := ⟨n - 1, by omega⟩
      rw [nI_pred]
      have : nI m = nI k + nI q := by rw [nI_add]; congr 1; omega
      rw [this, Int32.add_sub_cancel]
    rw [e]
    unfold f_X9_copy_145
    show ((dr_ σ0 10 (sr_ σ0 0 41)).bind fun b1 => _) = _
    rw [dm_0_41 hM, Option.bind_some]
    show ((ix_ _ (ln_ σ0 18)).bind fun j2 => (ix_ _ (ln_ σ0 18)).bind fun j3 => _) = _
    rw [lm_18 hM, c40, c40, nI_add, nI_add, ix_ok (by omega) (by omega), ix_ok (by omega) (by omega)]
    simp only [Option.bind_some]
    rw [nI_1, ui_uw, si_uw, ← ih (q + 1) g (by omega) (by omega)]
    congr 1
    apply uw_ext
    intro p
    rw [upd_g]
    by_cases h1 : p = 40 * s + j + k
    · subst h1
      rw [if_pos rfl, if_neg (by omega), if_pos (by omega)]
      congr 1
      omega
    · rw [if_neg h1]
      by_cases h2 : 40 * s + j + (n - q) ≤ p ∧ p < 40 * s + j + n
      · rw [if_pos h2, if_pos (by omega)]
      · rw [if_neg h2, if_neg (by omega)]
theorem rs_cpy {σx σm : St_} (hS : RS_ σx σm) {s o i j n ns : Nat} (hs : s < 4) (ho : o < 4) (hsz : ∀ p, p < ns → si_ σx (2 * s + 42) p = si_ σm 18 (40 * s + p)) (hi : i + n ≤ ns) (hns : ns ≤ 40) (hj : j + n ≤ 40) :
    RS_ (uw_ σx (2 * o + 42) (va_cpy (si_ σx (2 * s + 42)) (si_ σx (2 * o + 42)) i j n)) (uw_ σm 18 (fun p => if 40 * o + j ≤ p ∧ p < 40 * o + j + n then si_ σm 18 (40 * s + i + (p - (40 * o + j))) else si_ σm 18 p)) := by
  intro u hu
  have k1 : ∀ k, si_ (uw_ σx (2 * o + 42) (va_cpy (si_ σx (2 * s + 42)) (si_ σx (2 * o + 42)) i j n)) (2 * u + 41) k = si_ σx (2 * u + 41) k := fun k => by rw [g_si_uw, if_neg (by omega)]
  rcases hS u hu with ⟨h1, h2, h3⟩ | ⟨so, m, h1, h2, h3, h4, h5, h6, h7, h8⟩
  · exact Or.inl ⟨(k1 1).trans h1, (k1 2).trans h2, h3⟩
  · refine Or.inr ⟨so, m, h1, h2, (k1 1).trans h3, (k1 2).trans h4, h5, h6, h7, fun q hq => ?_⟩
    rw [si_uw, g_si_uw]
    by_cases e : u = o
    · subst e
      rw [if_pos rfl]
      unfold va_cpy
      by_cases e2 : j ≤ q ∧ q < j + n
      · rw [if_pos e2, if_pos (by omega), hsz _ (by omega)]
        congr 1
        omega
      · rw [if_neg e2, if_neg (by omega)]; exact h8 q hq
    · rw [if_neg (by omega), if_neg (by omega)]; exact h8 q hq
/-- what a sheet holds, told by both -/
theorem hold_c {σ : St_} {a m : Nat} (h : si_ σ a 2 = nI m) (hm : m ≤ 40) (x n : Int32) (hx : ¬ x < 0) (hn : ¬ n < 0) : (f_X4_holds σ a x n = 0 ∧ nI m - n < x) ∨ (¬ f_X4_holds σ a x n = 0 ∧ ¬ nI m - n < x ∧ ∃ i k : Nat, x = nI i ∧ n = nI k ∧ i + k ≤ m) := by
  obtain ⟨i, hi, rfl⟩ := nI_of hx
  obtain ⟨k, hk, rfl⟩ := nI_of hn
  unfold f_X4_holds
  rw [h, if_neg hx, if_neg hn]
  have sb : ∀ y, y < 2 ^ 31 → (nI m - nI y).toInt = (m : Int) - y := fun y hy => by
    have e1 := nI_toInt (n := m) (by omega)
    have e2 := nI_toInt (n := y) hy
    rw [Int32.toInt_sub, e1, e2]
    apply Int.bmod_eq_of_le <;> omega
  have t1 : nI m - nI k < nI i ↔ m < i + k := by
    rw [Int32.lt_iff_toInt_lt, sb k hk, nI_toInt hi]
    omega
  have t2 : nI m - nI i < nI k ↔ m < i + k := by
    rw [Int32.lt_iff_toInt_lt, sb i hi, nI_toInt hk]
    omega
  by_cases c : m < i + k
  · left
    refine ⟨?_, t1.mpr c⟩
    by_cases c2 : nI m < nI i
    · rw [if_pos c2]
    · rw [if_neg c2, if_pos (t2.mpr c)]
  · right
    refine ⟨?_, fun z => c (t1.mp z), i, k, rfl, rfl, by omega⟩
    rw [if_neg (nI_nlt (by omega) (by omega)), if_neg (fun z => c (t2.mp z))]
    decide
theorem hold_n {σ : St_} {a : Nat} (x n : Int32) (h : x < 0 ∨ n < 0) : f_X4_holds σ a x n = 0 := by
  unfold f_X4_holds
  by_cases h1 : x < 0
  · rw [if_pos h1]
  · rw [if_neg h1, if_pos (h.resolve_left h1)]
theorem sim_copy : Sim_copy Rel_ := by
  intro σx σm h x1 x2 x3 x4 x5
  have h0 := h
  obtain ⟨hX, hM, tc, n, hT, hF, hK, hP, hS⟩ := h
  unfold f_X8_copy f_X9_copy
  rcases bel_c x1 (n := 4) (by omega) with hb | ⟨s, hs, rfl⟩
  · rw [she_n hX x1 hb, if_pos ((isS_c x1).mpr hb), Option.bind_some]
    refine ⟨-2, σx, σm, ?_, rfl, h0⟩
    rcases bel_c x3 (n := 4) (by omega) with hb | ⟨o, ho, rfl⟩
    · rw [she_n hX x3 hb]; rfl
    · rw [she_s hX ho]; rfl
  have hsn : ¬ f_X9_isSheet (nI s) = 0 := fun z => bel_n hs (by omega) ((isS_c _).mp z)
  obtain ⟨g1, g2, g3, g4⟩ := hX.she hs
  rw [she_s hX hs, if_neg hsn, Option.bind_some]
  rcases bel_c x3 (n := 4) (by omega) with hb | ⟨o, ho, rfl⟩
  · rw [she_n hX x3 hb, if_pos ((isS_c x3).mpr hb), Option.bind_some]
    refine ⟨-2, σx, σm, ?_, rfl, h0⟩
    show (if _ then _ else _) = _
    rw [if_pos g2]
    rfl
  have hon : ¬ f_X9_isSheet (nI o) = 0 := fun z => bel_n ho (by omega) ((isS_c _).mp z)
  obtain ⟨o1, o2, o3, o4⟩ := hX.she ho
  rw [she_s hX ho, if_neg hon, Option.bind_some]
  simp only [oc_, if_pos g2, if_pos o2, dm_0_38 hM, dm_0_39 hM, dm_0_40 hM, lm_15 hM, lm_16 hM, lm_17 hM, Option.bind_some, ix_ok hs (show 4 < 2 ^ 31 by omega), ix_ok ho (show 4 < 2 ^ 31 by omega)]
  rcases she_st hS hs with ⟨z1, z2, z3⟩ | ⟨so, m, h1, h2, h3, h4, h5, h6, h7, h8⟩
  · rw [if_neg (mis_1 z1), if_pos z3]
    exact ⟨_, _, _, rfl, rfl, h0⟩
  rw [if_pos (mis_0 h3 h1), h5, if_neg (show ¬ (1 : Int32) = 0 by decide)]
  rcases she_st hS ho with ⟨z1, z2, z3⟩ | ⟨so2, m2, p1, p2, p3, p4, p5, p6, p7, p8⟩
  · rw [if_neg (mis_1 z1), if_pos z3]
    exact ⟨_, _, _, rfl, rfl, h0⟩
  rw [if_pos (mis_0 p3 p1), p5, if_neg (show ¬ (1 : Int32) = 0 by decide), h3, p3, h6, p6, h7, p7]
  by_cases c1 : nI so = nI so2
  · rw [if_pos c1, if_pos c1]
    by_cases n5 : x5 < 0
    · rw [if_pos n5, if_pos (hold_n _ _ (Or.inr n5))]
      exact ⟨_, _, _, rfl, rfl, h0⟩
    rw [if_neg n5]
    by_cases n2 : x2 < 0
    · rw [if_pos n2, if_pos (hold_n _ _ (Or.inl n2))]
      exact ⟨_, _, _, rfl, rfl, h0⟩
    rw [if_neg n2]
    rcases hold_c h4 h2 x2 x5 n2 n5 with ⟨q1, q2⟩ | ⟨q1, q2, i, k, rfl, rfl, hik⟩
    · rw [if_pos q1, if_pos q2]
      by_cases n4 : x4 < 0
      · rw [if_pos n4]
        exact ⟨_, _, _, rfl, rfl, h0⟩
      · rw [if_neg n4]
        exact ⟨_, _, _, rfl, rfl, h0⟩
    rw [if_neg q1, if_neg q2]
    by_cases n4 : x4 < 0
    · rw [if_pos n4, if_pos (hold_n _ _ (Or.inl n4))]
      exact ⟨_, _, _, rfl, rfl, h0⟩
    rw [if_neg n4]
    have le_n : ∀ a b : Int32, a ≤ b ↔ ¬ b < a := fun a b => by rw [Int32.le_iff_toInt_le, Int32.lt_iff_toInt_lt]; omega
    rcases hold_c p4 p2 x4 (nI k) n4 n5 with ⟨r1, r2⟩ | ⟨r1, r2, j, k2, rfl, e, hjk⟩
    · rw [if_pos r1, if_neg (fun z => (le_n _ _).mp z r2)]
      exact ⟨_, _, _, rfl, rfl, h0⟩
    have hk : k < 2 ^ 31 := by omega
    have : ∃ k3, k3 < 41 ∧ nI k = nI k3 ∧ j + k3 ≤ m2 := by
      by_cases hk2 : k2 < 2 ^ 31
      · exact ⟨k2, by omega, e, hjk⟩
      · omega
    obtain ⟨k3, hk3, e3, hjk⟩ := this
    have : k = k3 := (nI_eq hk (by omega)).mp e3
    subst this
    rw [if_neg r1, if_pos ((le_n _ _).mpr r2), g3, o3]
    simp only [Option.bind_some]
    have ci : (nI i).toNatClampNeg = i := nI_clamp (by omega)
    have cj : (nI j).toNatClampNeg = j := nI_clamp (by omega)
    have ck : (nI k).toNatClampNeg = k := nI_clamp (by omega)
    rw [ci, cj, ck, g4, o4, if_pos ⟨n2, n4, n5, by omega, by omega⟩]
    have rel : Rel_ (uw_ σx (2 * o + 42) (va_cpy (si_ σx (2 * s + 42)) (si_ σx (2 * o + 42)) i j k)) (uw_ σm 18 (fun p => if 40 * o + j ≤ p ∧ p < 40 * o + j + k then si_ σm 18 (40 * s + i + (p - (40 * o + j))) else si_ σm 18 p)) :=
      rel_S hX hM hT hF hK hP (Fr_.uw (Fr_.refl _ _) _ _ (fun _ => by simp [xS_]; omega)) (Fr_.uw (Fr_.refl _ _) _ _ (fun _ => by simp [mS_])) (rs_cpy hS hs ho h8 hik h2 (by omega))
    have st : uw_ σm 18 (fun p => if 40 * o + j ≤ p ∧ p < 40 * o + j + 0 then si_ σm 18 (40 * s + i + (p - (40 * o + j))) else si_ σm 18 p) = σm := by
      conv => rhs; rw [← uw_id σm 18]
      exact uw_ext fun p => by rw [if_neg (by omega)]
    by_cases e1 : nI s = nI o
    · have : s = o := (nI_eq (by omega) (by omega)).mp e1
      subst this
      rw [if_pos rfl]
      by_cases e2 : nI j ≤ nI i
      · rw [if_pos e2]
        have hji : j ≤ i := (nI_leI (by omega) (by omega)).mp e2
        have := cpy_dn FU_ hM (i := i) (j := j) (n := k) hs hs (by omega) (by omega) (Or.inr hji) (si_ σm 18) k 0 FU_ (by omega) (by unfold FU_; omega)
        rw [st] at this
        exact ⟨_, _, _, rfl, this, rel⟩
      · rw [if_neg e2]
        have hji : i < j := by
          rcases Nat.lt_or_ge i j with z | z
          · exact z
          · exact absurd (nI_le z (by omega)) e2
        have := cpy_up FU_ hM (i := i) (j := j) (n := k) hs (by omega) (by omega) hji (si_ σm 18) k 0 FU_ (by omega) (by unfold FU_; omega)
        have st2 : uw_ σm 18 (fun p => if 40 * s + j + (k - 0) ≤ p ∧ p < 40 * s + j + k then si_ σm 18 (40 * s + i + (p - (40 * s + j))) else si_ σm 18 p) = σm := by
          conv => rhs; rw [← uw_id σm 18]
          exact uw_ext fun p => by rw [if_neg (by omega)]
        rw [st2] at this
        exact ⟨_, _, _, rfl, this, rel⟩
    · rw [if_neg e1]
      have := cpy_dn FU_ hM (i := i) (j := j) (n := k) hs ho (by omega) (by omega) (Or.inl (fun z => e1 (by rw [z]))) (si_ σm 18) k 0 FU_ (by omega) (by unfold FU_; omega)
      rw [st] at this
      exact ⟨_, _, _, rfl, this, rel⟩
  · rw [if_neg c1, if_neg c1]
    exact ⟨_, _, _, rfl, rfl, h0⟩
