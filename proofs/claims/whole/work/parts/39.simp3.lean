/-! CARPETS, TAKEN, IMAGE, BACK -/
theorem hold_d {σ : St_} {a m : Nat} (h : si_ σ a 2 = nI m) (hm : m ≤ 40) {i k : Nat} (hi : i < 2 ^ 31) (hk : k < 2 ^ 31) : f_X4_holds σ a (nI i) (nI k) = 0 ↔ m < i + k := by
  rcases hold_c h hm (nI i) (nI k) (nI_pos hi) (nI_pos hk) with ⟨q1, q2⟩ | ⟨q1, q2, i', k', e1, e2, h3⟩
  · refine ⟨fun _ => ?_, fun _ => q1⟩
    have sb : (nI m - nI k).toInt = (m : Int) - k := by
      have e1 := nI_toInt (n := m) (by omega)
      have e2 := nI_toInt (n := k) hk
      rw [Int32.toInt_sub, e1, e2]
      apply Int.bmod_eq_of_le <;> omega
    rw [Int32.lt_iff_toInt_lt, sb, nI_toInt hi] at q2
    omega
  · refine ⟨fun z => absurd z q1, fun z => ?_⟩
    have a1 : i = i' := (nI_eq hi (by omega)).mp e1
    have a2 : k = k' := (nI_eq hk (by omega)).mp e2
    omega
theorem item_ok {σ : St_} (h : ShX_ σ) {s m p : Nat} (hs : s < 4) (e : si_ σ (2 * s + 41) 2 = nI m) (hm : m ≤ 40) (hp : p < m) : f_X4_item σ (2 * s + 41) (nI p) = some (si_ σ (2 * s + 42) p) := by
  obtain ⟨g1, g2, g3, g4⟩ := h.she hs
  unfold f_X4_item
  rw [e, if_neg (bel_n hp (by omega)), g3, Option.bind_some, g4, if_neg (nI_ge (by omega) (by omega)), ix_ok (by omega) (by omega), Option.bind_some]
theorem c3 (a : Nat) : (3 : Int32) * nI a = nI (3 * a) := by
  rw [show (3 : Int32) = nI 3 from rfl, show nI 3 * nI a = nI (3 * a) from (Int32.ofNat_mul 3 a).symm]
theorem car_go (fu : Nat) {s m n : Nat} (hs : s < 4) (hm : m ≤ 40) (hn : n ≤ 4) (x : Int32) : ∀ (k' k fuel : Nat) (σx σm : St_) (came : Int32), k + k' = n → k' < fuel → Rel_ σx σm → si_ σx (2 * s + 41) 2 = nI m → si_ σm 17 s = nI m → (∀ j, j < m → si_ σx (2 * s + 42) j = si_ σm 18 (40 * s + j)) → (k = 0 ∨ ∃ i, x = nI i ∧ i + 3 * k ≤ m) →
    ∃ (r : Int32) (σx' σm' : St_), f_X8_carpets_69 fu fuel σx 0 x (nI n) (2 * s + 41) came (nI k) = some (r, σx') ∧ f_X9_carpets_75 fu fuel σm 0 (nI s) x (nI n) came (nI k) = some (r, σm') ∧ Rel_ σx' σm' := by
  intro k'
  induction k' with
  | zero =>
    intro k fuel σx σm came hk hf hR e1 e2 h8 hx
    obtain ⟨g, rfl⟩ : ∃ g, fuel = g + 1 := ⟨fuel - 1, by omega⟩
    have : nI n ≤ nI k := nI_le (by omega) (by omega)
    exact ⟨came, σx, σm, by show (if _ then _ else _) = _; rw [if_pos this], by show (if _ then _ else _) = _; rw [if_pos this], hR⟩
  | succ k' ih =>
    intro k fuel σx σm came hk hf hR e1 e2 h8 hx
    obtain ⟨g, rfl⟩ : ∃ g, fuel = g + 1 := ⟨fuel - 1, by omega⟩
    have hnk : ¬ nI n ≤ nI k := nI_ge (by omega) (by omega)
    have hX := hR.1
    have hM := hR.2.1
    have eX : f_X8_carpets_69 fu (g + 1) σx 0 x (nI n) (2 * s + 41) came (nI k) = (if (f_X4_holds σx (2 * s + 41) (x + ((3 : Int32) * nI k)) (3 : Int32)) = 0 then some ((-12 : Int32), σx) else (f_X4_item σx (2 * s + 41) (x + ((3 : Int32) * nI k))).bind fun q5 => (f_X4_item σx (2 * s + 41) ((x + ((3 : Int32) * nI k)) + (1 : Int32))).bind fun q6 => (f_X4_item σx (2 * s + 41) ((x + ((3 : Int32) * nI k)) + (2 : Int32))).bind fun q7 => (f_X8_lay σx 0 q5 q6 q7).bind fun q8 => if q8.1 < 0 then (f_X8_carpets_69 fu g) q8.2 0 x (nI n) (2 * s + 41) (came + (0 : Int32)) (nI k + (1 : Int32)) else (f_X8_carpets_69 fu g) q8.2 0 x (nI n) (2 * s + 41) (came + (1 : Int32)) (nI k + (1 : Int32))) := by
      show (if nI n ≤ nI k then _ else _) = _
      rw [if_neg hnk]
    have eM : f_X9_carpets_75 fu (g + 1) σm 0 (nI s) x (nI n) came (nI k) = (if x < 0 then some ((-12 : Int32), σm) else if x ≤ ((nI m - ((3 : Int32) * nI k)) - (3 : Int32)) then (ix_ ((((40 : Int32) * nI s) + x) + ((3 : Int32) * nI k)) 160).bind fun j7 => (ix_ (((((40 : Int32) * nI s) + x) + ((3 : Int32) * nI k)) + (1 : Int32)) 160).bind fun j8 => (ix_ (((((40 : Int32) * nI s) + x) + ((3 : Int32) * nI k)) + (2 : Int32)) 160).bind fun j9 => (f_X9_carpet σm 0 (si_ σm 18 j7) (si_ σm 18 j8) (si_ σm 18 j9)).bind fun q10 => if q10.1 < 0 then (f_X9_carpets_75 fu g) q10.2 0 (nI s) x (nI n) (came + (0 : Int32)) (nI k + (1 : Int32)) else (f_X9_carpets_75 fu g) q10.2 0 (nI s) x (nI n) (came + (1 : Int32)) (nI k + (1 : Int32)) else some ((-12 : Int32), σm)) := by
      show (if nI n ≤ nI k then _ else if x < 0 then some ((-12 : Int32), σm) else (dr_ σm 10 (sr_ σm 0 40)).bind fun b3 => (ix_ (nI s) (ln_ σm b3)).bind fun j4 => if x ≤ (((si_ σm b3 j4) - ((3 : Int32) * nI k)) - (3 : Int32)) then (dr_ σm 10 (sr_ σm 0 41)).bind fun b6 => _ else _) = _
      rw [if_neg hnk, dm_0_40 hM, Option.bind_some, lm_17 hM, ix_ok hs (by omega), Option.bind_some, e2, dm_0_41 hM, Option.bind_some, lm_18 hM]
    rw [eX, eM]
    by_cases hx0 : x < 0
    · have : k = 0 := by
        rcases hx with z | ⟨i, rfl, hi⟩
        · exact z
        · exact absurd hx0 (nI_pos (by omega))
      subst this
      rw [if_pos hx0, if_pos (hold_n _ _ (Or.inl (by rw [show (3 : Int32) * nI 0 = 0 from rfl, Int32.add_zero]; exact hx0)))]
      exact ⟨_, _, _, rfl, rfl, hR⟩
    obtain ⟨i, hi, rfl⟩ := nI_of hx0
    have hik : i + 3 * k < 2 ^ 31 := by
      rcases hx with z | ⟨i', e, hi'⟩
      · omega
      · have : i = i' := (nI_eq hi (by omega)).mp e
        omega
    have sb : (nI m - nI (3 * k) - nI 3).toInt = (m : Int) - 3 * k - 3 := by
      have a1 := nI_toInt (n := m) (by omega)
      have a2 := nI_toInt (n := 3 * k) (by omega)
      have a3 := nI_toInt (n := 3) (by omega)
      rw [Int32.toInt_sub, Int32.toInt_sub, a1, a2, a3]
      have : ((m : Int) - ((3 * k : Nat) : Int)).bmod (2 ^ 32) = (m : Int) - 3 * k := by
        rw [show ((3 * k : Nat) : Int) = 3 * (k : Int) by omega]
        apply Int.bmod_eq_of_le <;> omega
      rw [this]
      apply Int.bmod_eq_of_le <;> omega
    have hd := hold_d e1 hm (i := i + 3 * k) (k := 3) hik (by omega)
    have hle : nI i ≤ nI m - nI (3 * k) - 3 ↔ i + 3 * k + 3 ≤ m := by
      rw [show (3 : Int32) = nI 3 from rfl, Int32.le_iff_toInt_le, sb, nI_toInt hi]
      omega
    rw [c3, nI_add, if_neg hx0]
    by_cases hc : m < i + 3 * k + 3
    · rw [if_pos (show f_X4_holds σx (2 * s + 41) (nI (i + 3 * k)) 3 = 0 from hd.mpr hc), if_neg (fun z => by have := hle.mp z; omega)]
      exact ⟨_, _, _, rfl, rfl, hR⟩
    rw [if_neg (show ¬ f_X4_holds σx (2 * s + 41) (nI (i + 3 * k)) 3 = 0 from fun z => hc (hd.mp z)), if_pos (hle.mpr (by omega)), c40, nI_add, nI_1, nI_1, nI_1, show nI (i + 3 * k) + 2 = nI (i + 3 * k + 2) from nI_add _ 2, show nI (40 * s + i + 3 * k) + 2 = nI (40 * s + i + 3 * k + 2) from nI_add _ 2, item_ok hX hs e1 hm (by omega), item_ok hX hs e1 hm (by omega), item_ok hX hs e1 hm (by omega), ix_ok (by omega) (by omega), ix_ok (by omega) (by omega), ix_ok (by omega) (by omega)]
    simp only [Option.bind_some]
    rw [h8 _ (by omega), h8 _ (by omega), h8 _ (by omega), show 40 * s + (i + 3 * k) = 40 * s + i + 3 * k by omega, show 40 * s + (i + 3 * k + 1) = 40 * s + i + 3 * k + 1 by omega, show 40 * s + (i + 3 * k + 2) = 40 * s + i + 3 * k + 2 by omega]
    obtain ⟨r, σx', σm', l1, l2, l3, f1, f2⟩ := lay_ok hR (si_ σm 18 (40 * s + i + 3 * k)) (si_ σm 18 (40 * s + i + 3 * k + 1)) (si_ σm 18 (40 * s + i + 3 * k + 2))
    rw [l1, l2]
    simp only [Option.bind_some]
    have go := fun c => ih (k + 1) g σx' σm' c (by omega) (by omega) l3 ((f1.i (by omega)).trans e1) ((f2.i (by omega)).trans e2) (fun j hj => (f1.i (by omega)).trans ((h8 j hj).trans (f2.i (by omega)).symm)) (Or.inr ⟨i, rfl, by omega⟩)
    by_cases hr : r < 0
    · rw [if_pos hr, if_pos hr]
      exact go _
    · rw [if_neg hr, if_neg hr]
      exact go _
theorem sim_carpets : Sim_carpets Rel_ := by
  intro σx σm h x1 x2 x3 x4
  have h0 := h
  obtain ⟨hX, hM, tc, n, hT, hF, hK, hP, hS⟩ := h
  unfold f_X8_carpets f_X9_carpets
  rcases bel_c x1 (n := 4) (by omega) with hb | ⟨s, hs, rfl⟩
  · rw [she_n hX x1 hb, if_pos ((isS_c x1).mpr hb), Option.bind_some]
    exact ⟨_, _, _, rfl, rfl, h0⟩
  have hsn : ¬ f_X9_isSheet (nI s) = 0 := fun z => bel_n hs (by omega) ((isS_c _).mp z)
  obtain ⟨g1, g2, g3, g4⟩ := hX.she hs
  have i2 := in_c (x := x2) (n := 2) (2 : Int64) rfl (by omega)
  have i4 := in_c (x := x4) (n := 4) (4 : Int64) rfl (by omega)
  rw [she_s hX hs, if_neg hsn, Option.bind_some]
  simp only [oc_, if_pos g2, dm_0_38 hM, dm_0_39 hM, lm_15 hM, lm_16 hM, Option.bind_some, ix_ok hs (show 4 < 2 ^ 31 by omega)]
  by_cases b2 : f_X8_isBelow x2 3 = 0
  · rw [if_pos b2, if_pos (i2.mpr b2)]
    exact ⟨_, _, _, rfl, rfl, h0⟩
  rw [if_neg b2, if_neg (fun z => b2 (i2.mp z))]
  rcases bel_c x4 (n := 5) (by omega) with b4 | ⟨k, hk, rfl⟩
  · rw [if_pos (show f_X8_isBelow x4 5 = 0 from b4), if_pos (i4.mpr b4)]
    exact ⟨_, _, _, rfl, rfl, h0⟩
  have b4 : ¬ f_X8_isBelow (nI k) 5 = 0 := bel_n (n := 5) hk (by omega)
  rw [if_neg b4, if_neg (fun z => b4 (i4.mp z))]
  unfold f_X8_carpets_52
  rcases she_st hS hs with ⟨z1, z2, z3⟩ | ⟨so, m, h1, h2, h3, h4, h5, h6, h7, h8⟩
  · rw [if_neg (mis_1 z1), if_neg (mis_1 z1), z3, if_pos rfl, if_pos rfl]
    exact ⟨_, _, _, rfl, rfl, h0⟩
  rw [if_pos (mis_0 h3 h1), if_pos (mis_0 h3 h1), h5, if_neg (show ¬ (1 : Int32) = 0 by decide), if_neg (show ¬ (1 : Int32) = 0 by decide), h3, h6]
  by_cases c1 : nI so = x2
  · rw [if_pos c1, if_pos c1]
    exact car_go FU_ hs h2 (by omega) x3 k 0 FU_ σx σm 0 (by omega) (by unfold FU_; omega) h0 h4 h7 h8 (Or.inl rfl)
  · rw [if_neg c1, if_neg c1]
    exact ⟨_, _, _, rfl, rfl, h0⟩
/-- which kind is under which -/
def und_ (kd k : Nat) : Bool := kd == k || k == 0 || (kd == 3 && k == 1) || (kd == 4 && k == 2)
theorem und_x (σ : St_) (kd k : Nat) (h1 : kd < 6) (h2 : k < 6) : f_X8_isUnder FU_ σ (nI kd) (nI k) = some (if und_ kd k then 1 else 0) := by
  have a : kd = 0 ∨ kd = 1 ∨ kd = 2 ∨ kd = 3 ∨ kd = 4 ∨ kd = 5 := by omega
  have b : k = 0 ∨ k = 1 ∨ k = 2 ∨ k = 3 ∨ k = 4 ∨ k = 5 := by omega
  rcases a with rfl | rfl | rfl | rfl | rfl | rfl <;> rcases b with rfl | rfl | rfl | rfl | rfl | rfl <;> rfl
theorem und_m {σ : St_} (hM : ShM_ σ) (c kd k : Nat) (hc : c < 4) (h1 : kd < 6) (h2 : k < 6) : f_X9_taken_33 FU_ σ FU_ 0 (nI c) (nI k) (nI kd) = if und_ kd k then some (si_ σ 6 (3 * c)) else some (-13) := by
  have e : ((dr_ σ 10 (sr_ σ 0 10)).bind fun b3 => (ix_ ((3 : Int32) * nI c) (ln_ σ b3)).bind fun j4 => some (si_ σ b3 j4)) = some (si_ σ 6 (3 * c)) := by
    rw [dm_0_10 hM, Option.bind_some, lm_6 hM, ix_r0 c hc, Option.bind_some]
  have st : ∀ (g : Nat) (v : Int32), f_X9_taken_33 FU_ σ (g + 1) 0 (nI c) (nI k) v = if v = (-1 : Int32) then if v = nI k then some (si_ σ 6 (3 * c)) else some (-13 : Int32) else if v = nI k then if v = nI k then some (si_ σ 6 (3 * c)) else some (-13 : Int32) else (f_X9_taken_33 FU_ σ g) 0 (nI c) (nI k) (f_X9_over v) := fun g v => by
    rw [← e]
    rfl
  have a : kd = 0 ∨ kd = 1 ∨ kd = 2 ∨ kd = 3 ∨ kd = 4 ∨ kd = 5 := by omega
  have b : k = 0 ∨ k = 1 ∨ k = 2 ∨ k = 3 ∨ k = 4 ∨ k = 5 := by omega
  show f_X9_taken_33 FU_ σ (4996 + 1 + 1 + 1 + 1) 0 (nI c) (nI k) (nI kd) = _
  rw [st, st, st, st]
  rcases a with rfl | rfl | rfl | rfl | rfl | rfl <;> rcases b with rfl | rfl | rfl | rfl | rfl | rfl <;> rfl
theorem sim_taken : Sim_taken Rel_ := by
  intro σx σm h x1 x2
  have h0 := h
  obtain ⟨hX, hM, tc, n, hT, hF, hK, hP, hS⟩ := h
  obtain ⟨hn, c1, c2, -, -, -, hca⟩ := hF
  unfold f_X8_taken f_X9_taken
  have i2 := in_c (x := x2) (n := 5) (5 : Int64) rfl (by omega)
  have hone := one_b hn c2 x1
  rcases bel_c x2 (n := 6) (by omega) with b | ⟨k, hk, rfl⟩
  · rw [if_pos (show f_X8_isBelow x2 6 = 0 from b), if_pos (i2.mpr b)]
    exact ⟨_, rfl, rfl, h0⟩
  have b : ¬ f_X8_isBelow (nI k) 6 = 0 := bel_n (n := 6) hk (by omega)
  rw [if_neg b, if_neg (fun z => b (i2.mp z)), dx_0_0 hX, Option.bind_some]
  rcases bel_c x1 (n := n) (by omega) with b1 | ⟨c, hc, rfl⟩
  · rw [car_n hX hn c1 x1 b1, if_pos (hone.mpr b1)]
    exact ⟨_, rfl, rfl, h0⟩
  obtain ⟨kd, nu, on, fl, a1, a2, a3, a4, b1, b2, b3, b4, b5, b6, b7, b8⟩ := hca c hc
  rw [car_s hX hn c1 hc, if_neg (fun z => bel_n hc (by omega) (hone.mp z)), dm_0_9 hM, Option.bind_some, Option.bind_some, lm_5 hM, ix_ok (by omega : c < 4) (by omega), Option.bind_some, b5, und_m hM c kd k (by omega) a1 hk]
  simp only [oc_]
  rw [if_pos (hX.car (by omega)).2, show si_ σx (c + 3) 0 = nI kd from b1, und_x _ _ _ a1 hk, Option.bind_some, b6, show si_ σx (c + 3) 1 = nI nu from b2]
  by_cases u : und_ kd k
  · rw [if_pos u, if_pos u, if_neg (by decide)]
    exact ⟨_, rfl, rfl, h0⟩
  · rw [if_neg u, if_neg u, if_pos rfl]
    exact ⟨_, rfl, rfl, h0⟩
