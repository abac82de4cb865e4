/-! FLIES; WHAT WAS SEEN -/
/-- a sheet of numbers below B, both -/
def Se_ (σx σm : St_) (s sz B : Nat) (it : Nat → Nat) : Prop := s < 4 ∧ sz ≤ 40 ∧ si_ σx (2 * s + 41) 2 = nI sz ∧ si_ σm 17 s = nI sz ∧ ∀ j, j < sz → it j < B ∧ si_ σx (2 * s + 42) j = nI (it j) ∧ si_ σm 18 (40 * s + j) = nI (it j)
theorem Se_.tx {σx σm σx' : St_} {s sz B : Nat} {it : Nat → Nat} (h : Se_ σx σm s sz B it) (t : TX_ σx σx') : Se_ σx' σm s sz B it := by
  obtain ⟨h1, h2, h3, h4, h5⟩ := h
  exact ⟨h1, h2, (t.2.i (by simp only [xG_]; omega)).trans h3, h4, fun j hj => ⟨(h5 j hj).1, (t.2.i (by simp only [xG_]; omega)).trans (h5 j hj).2.1, (h5 j hj).2.2⟩⟩
theorem Se_.sx {σx σm σx' : St_} {s sz B : Nat} {it : Nat → Nat} (h : Se_ σx σm s sz B it) (t : ScX_ σx σx') : Se_ σx' σm s sz B it := by
  obtain ⟨h1, h2, h3, h4, h5⟩ := h
  exact ⟨h1, h2, (t.2.i (by simp only [xZ_]; omega)).trans h3, h4, fun j hj => ⟨(h5 j hj).1, (t.2.i (by simp only [xZ_]; omega)).trans (h5 j hj).2.1, (h5 j hj).2.2⟩⟩
theorem Se_.tm {σx σm σm' : St_} {s sz B : Nat} {it : Nat → Nat} (h : Se_ σx σm s sz B it) (t : TM_ σm σm') : Se_ σx σm' s sz B it := by
  obtain ⟨h1, h2, h3, h4, h5⟩ := h
  exact ⟨h1, h2, h3, (t.2.i (by simp [mG_])).trans h4, fun j hj => ⟨(h5 j hj).1, (h5 j hj).2.1, (t.2.i (by simp [mG_])).trans (h5 j hj).2.2⟩⟩
theorem Se_.item {σx σm : St_} {s sz B : Nat} {it : Nat → Nat} (h : Se_ σx σm s sz B it) (hX : ShX_ σx) {j : Nat} (hj : j < sz) : f_X4_item σx (2 * s + 41) (nI j) = some (nI (it j)) := by
  rw [item_ok hX h.1 h.2.2.1 h.2.1 hj, (h.2.2.2.2 j hj).2.1]
theorem Se_.mi {σx σm : St_} {s sz B : Nat} {it : Nat → Nat} (h : Se_ σx σm s sz B it) {j : Nat} (hj : j < sz) : ix_ ((40 : Int32) * nI s + nI j) 160 = some (40 * s + j) := by
  have h1 := h.1
  have h2 := h.2.1
  rw [c40]
  exact ix_ok (by omega) (by omega)
/-- all below: here -/
theorem all_x {σx : St_} (hX : ShX_ σx) {s sz B : Nat} (hs : s < 4) (hz : sz ≤ 40) (e : si_ σx (2 * s + 41) 2 = nI sz) (hB : B < 2 ^ 31) : ∀ (k i g : Nat), i + k = sz → k < g → (f_X4_isAllBelow_2 5000 σx g (2 * s + 41) (nI B) (nI i) = some 1 ∧ ∀ j, i ≤ j → j < sz → ∃ v, v < B ∧ si_ σx (2 * s + 42) j = nI v) ∨ (f_X4_isAllBelow_2 5000 σx g (2 * s + 41) (nI B) (nI i) = some 0 ∧ ∃ j, i ≤ j ∧ j < sz ∧ f_X8_isBelow (si_ σx (2 * s + 42) j) (nI B) = 0) := by
  intro k
  induction k with
  | zero =>
    intro i g h1 h2
    obtain ⟨g, rfl⟩ : ∃ g', g = g' + 1 := ⟨g - 1, by omega⟩
    rw [u_X4_isAllBelow_2, e, if_pos (nI_le (by omega) (by omega))]
    exact Or.inl ⟨rfl, fun j a b => by omega⟩
  | succ k ih =>
    intro i g h1 h2
    obtain ⟨g, rfl⟩ : ∃ g', g = g' + 1 := ⟨g - 1, by omega⟩
    rw [u_X4_isAllBelow_2, e, if_neg (nI_ge (by omega) (by omega)), item_ok hX hs e hz (by omega), Option.bind_some, nI_1]
    rcases bel_c (si_ σx (2 * s + 42) i) hB with b | ⟨v, hv, b⟩
    · rw [if_pos b]
      exact Or.inr ⟨rfl, i, by omega, by omega, b⟩
    · rw [if_neg (by rw [b]; exact bel_n hv hB)]
      rcases ih (i + 1) g (by omega) (by omega) with ⟨q1, q2⟩ | ⟨q1, j, q2, q3, q4⟩
      · refine Or.inl ⟨q1, fun j a c => ?_⟩
        by_cases z : j = i
        · subst z; exact ⟨v, hv, b⟩
        · exact q2 j (by omega) c
      · exact Or.inr ⟨q1, j, by omega, q3, q4⟩
/-- all below: there -/
theorem tb_go {σm : St_} (hM : ShM_ σm) {s sz : Nat} (hs : s < 4) (hz : sz ≤ 40) (e : si_ σm 17 s = nI sz) : ∀ (k i g : Nat), i + k = sz → k < g → ((∀ j, i ≤ j → j < sz → ∃ v, v < 36 ∧ si_ σm 18 (40 * s + j) = nI v) → f_X9_toldBad_51 5000 σm g 0 (nI s) (nI i) = some 0) ∧ ((∃ j, i ≤ j ∧ j < sz ∧ f_X8_isBelow (si_ σm 18 (40 * s + j)) (nI 36) = 0) → f_X9_toldBad_51 5000 σm g 0 (nI s) (nI i) = some (-2)) := by
  intro k
  induction k with
  | zero =>
    intro i g h1 h2
    obtain ⟨g, rfl⟩ : ∃ g', g = g' + 1 := ⟨g - 1, by omega⟩
    rw [u_X9_toldBad_51, dm_0_40 hM, Option.bind_some, lm_17 hM, ix_ok hs (by omega), Option.bind_some, e, if_pos (nI_le (by omega) (by omega))]
    exact ⟨fun _ => rfl, fun ⟨j, a, b, _⟩ => by omega⟩
  | succ k ih =>
    intro i g h1 h2
    obtain ⟨g, rfl⟩ : ∃ g', g = g' + 1 := ⟨g - 1, by omega⟩
    rw [u_X9_toldBad_51, dm_0_40 hM, Option.bind_some, lm_17 hM, ix_ok hs (by omega), Option.bind_some, e, if_neg (nI_ge (by omega) (by omega)), dm_0_41 hM, Option.bind_some, lm_18 hM, c40, ix_ok (by omega) (by omega), Option.bind_some, nI_1]
    obtain ⟨q1, q2⟩ := ih (i + 1) g (by omega) (by omega)
    refine ⟨fun ha => ?_, fun ⟨j, a, b, c⟩ => ?_⟩
    · obtain ⟨v, hv, ev⟩ := ha i (by omega) (by omega)
      rw [if_neg (fun z => bel_n hv (by omega) ((isC_c _).mp (by rw [ev] at z; exact z)))]
      exact q1 (fun j a b => ha j (by omega) b)
    · by_cases z : f_X9_isCell (si_ σm 18 (40 * s + i)) = 0
      · rw [if_pos z]
      · rw [if_neg z]
        refine q2 ⟨j, ?_, b, c⟩
        rcases Nat.lt_or_ge i j with y | y
        · omega
        · have : j = i := by omega
          subst this
          exact absurd ((isC_c _).mpr c) z
theorem fl43 {σm : St_} (hM : ShM_ σm) {s sz : Nat} (hs : s < 4) (hz : sz ≤ 40) (e : si_ σm 17 s = nI sz) {c : Nat} (hc : c < 4) (x : Int32) : ∀ (k i g : Nat), i + k = sz → k < g → ((∀ j, i ≤ j → j < sz → ∃ v, v < 8 ∧ si_ σm 18 (40 * s + j) = nI v) → f_X9_flies_43 5000 g σm 0 (nI s) (nI c) x (nI i) = f_X9_flies_99 5000 5000 σm 0 (nI s) (nI c) x (si_ σm 6 (3 * c + 1)) 0 0) ∧ ((∃ j, i ≤ j ∧ j < sz ∧ f_X8_isBelow (si_ σm 18 (40 * s + j)) (nI 8) = 0) → f_X9_flies_43 5000 g σm 0 (nI s) (nI c) x (nI i) = some (-2, σm)) := by
  intro k
  induction k with
  | zero =>
    intro i g h1 h2
    obtain ⟨g, rfl⟩ : ∃ g', g = g' + 1 := ⟨g - 1, by omega⟩
    rw [u_X9_flies_43, dm_0_40 hM, Option.bind_some, lm_17 hM, ix_ok hs (by omega), Option.bind_some, e, if_pos (nI_le (by omega) (by omega)), dm_0_10 hM, Option.bind_some, lm_6 hM, ix_r1 c hc, Option.bind_some]
    exact ⟨fun _ => rfl, fun ⟨j, a, b, _⟩ => by omega⟩
  | succ k ih =>
    intro i g h1 h2
    obtain ⟨g, rfl⟩ : ∃ g', g = g' + 1 := ⟨g - 1, by omega⟩
    rw [u_X9_flies_43, dm_0_40 hM, Option.bind_some, lm_17 hM, ix_ok hs (by omega), Option.bind_some, e, if_neg (nI_ge (by omega) (by omega)), dm_0_41 hM, Option.bind_some, lm_18 hM, c40, ix_ok (by omega) (by omega), Option.bind_some, nI_1]
    obtain ⟨q1, q2⟩ := ih (i + 1) g (by omega) (by omega)
    refine ⟨fun ha => ?_, fun ⟨j, a, b, d⟩ => ?_⟩
    · obtain ⟨v, hv, ev⟩ := ha i (by omega) (by omega)
      rw [if_neg (fun z => bel_n hv (by omega) ((isW_c _).mp (by rw [ev] at z; exact z)))]
      exact q1 (fun j a b => ha j (by omega) b)
    · by_cases z : f_X9_isWord (si_ σm 18 (40 * s + i)) = 0
      · rw [if_pos z]
      · rw [if_neg z]
        refine q2 ⟨j, ?_, b, d⟩
        rcases Nat.lt_or_ge i j with y | y
        · omega
        · have : j = i := by omega
          subst this
          exact absurd ((isW_c _).mpr d) z
theorem fl_go2 {kd nu fl ni m c : Nat} {ce cs cr : Cd_} (p : Pm_ kd nu fl ni m ce cs cr) {s sz : Nat} {it : Nat → Nat} (x : Int32) : ∀ (k i g g2 : Nat) (v : Int32) (on : Nat) (σx σm : St_), i + k = sz → k < g → k < g2 → on < 36 → Th_ σx kd nu fl ni m ce cs cr → Cm_ σm c kd nu fl ni m ce cs cr → Se_ σx σm s sz 8 it → ∃ (r : Int32) (σx' σm' : St_), f_X8_flies_71 5000 g σx 0 x (2 * s + 41) (nI on) v (nI i) = some (r, σx') ∧ f_X9_flies_99 5000 g2 σm 0 (nI s) (nI c) x (nI on) v (nI i) = some (r, σm') ∧ TX_ σx σx' ∧ TM_ σm σm' := by
  intro k
  induction k with
  | zero =>
    intro i g g2 v on σx σm h1 h2 h3 hon hT hC hS
    obtain ⟨g, rfl⟩ : ∃ g', g = g' + 1 := ⟨g - 1, by omega⟩
    obtain ⟨g2, rfl⟩ : ∃ g', g2 = g' + 1 := ⟨g2 - 1, by omega⟩
    have hz := hS.2.1
    rw [u_X8_flies_71, u_X9_flies_99, hS.2.2.1, if_pos (nI_le (by omega) (by omega)), dm_0_40 hC.1, Option.bind_some, lm_17 hC.1, ix_ok hS.1 (by omega), Option.bind_some, hS.2.2.2.1, if_pos (nI_le (by omega) (by omega))]
    by_cases z : x = 0
    · rw [if_pos z, if_pos z]; exact ⟨_, _, _, rfl, rfl, TX_.refl hT.1, TM_.refl hC.1⟩
    · rw [if_neg z, if_neg z]; exact ⟨_, _, _, rfl, rfl, TX_.refl hT.1, TM_.refl hC.1⟩
  | succ k ih =>
    intro i g g2 v on σx σm h1 h2 h3 hon hT hC hS
    obtain ⟨g, rfl⟩ : ∃ g', g = g' + 1 := ⟨g - 1, by omega⟩
    obtain ⟨g2, rfl⟩ : ∃ g', g2 = g' + 1 := ⟨g2 - 1, by omega⟩
    have hz := hS.2.1
    obtain ⟨hw, -, em⟩ := hS.2.2.2.2 i (by omega)
    obtain ⟨s1, e1, t1⟩ := th_goal hT p hon hw
    obtain ⟨s2, e2, t2⟩ := cm_goes hC p hon hw
    rw [u_X8_flies_71, u_X9_flies_99, hS.2.2.1, if_neg (nI_ge (by omega) (by omega)), dx_0_7 hT.1, Option.bind_some, hS.item hT.1 (by omega), Option.bind_some, e1, Option.bind_some, dm_0_40 hC.1, Option.bind_some, lm_17 hC.1, ix_ok hS.1 (by omega), Option.bind_some, hS.2.2.2.1, if_neg (nI_ge (by omega) (by omega)), dm_0_41 hC.1, Option.bind_some, lm_18 hC.1, hS.mi (by omega), Option.bind_some, em, e2, Option.bind_some, nI_1]
    simp only
    have go := fun v' => ih (i + 1) g g2 v' _ s1 s2 (by omega) (by omega) (by omega) (gt_lt kd nu fl ni m ce cs on (it i) hon) (hT.congr t1) (hC.congr t2) ((hS.tx t1).tm t2)
    generalize gt_ kd nu fl ni m ce cs on (it i) = q at *
    by_cases z : nI q = nI on
    · rw [if_pos z, if_pos z]
      obtain ⟨r, s3, s4, f1, f2, f3, f4⟩ := go (v + 0)
      exact ⟨r, s3, s4, f1, f2, t1.trans f3, t2.trans f4⟩
    · rw [if_neg z, if_neg z]
      obtain ⟨r, s3, s4, f1, f2, f3, f4⟩ := go (v + 1)
      exact ⟨r, s3, s4, f1, f2, t1.trans f3, t2.trans f4⟩
/-- a refusal, both: or a sheet and a carpet -/
theorem ref_x {σx σm : St_} (h0 : Rel_ σx σm) {tc n : Nat} (hF : RF_ σx σm tc n) (hS : RS_ σx σm) (x1 x2 x3 : Int32) {most B : Nat} (hm : most ≤ 40) (hB : B < 2 ^ 31) :
    (f_X8_refusalOfTold 5000 σx 0 x1 x2 x3 (nI most) (nI B) = some (-2) ∧ (f_X8_isBelow x1 (nI 4) = 0 ∨ f_X8_isBelow x2 (nI n) = 0 ∨ x3 = 0)) ∨
    (∃ s c, s < 4 ∧ c < n ∧ x1 = nI s ∧ x2 = nI c ∧ ¬ x3 = 0 ∧ ((f_X8_refusalOfTold 5000 σx 0 x1 x2 x3 (nI most) (nI B) = some (-11) ∧ si_ σm 15 s = 0) ∨ ∃ sz, sz ≤ 40 ∧ si_ σm 15 s = 1 ∧ si_ σx (2 * s + 41) 2 = nI sz ∧ si_ σm 17 s = nI sz ∧ ((f_X8_refusalOfTold 5000 σx 0 x1 x2 x3 (nI most) (nI B) = some (-2) ∧ (most < sz ∨ (sz ≤ most ∧ ∃ j, j < sz ∧ f_X8_isBelow (si_ σm 18 (40 * s + j)) (nI B) = 0))) ∨ (f_X8_refusalOfTold 5000 σx 0 x1 x2 x3 (nI most) (nI B) = some 0 ∧ sz ≤ most ∧ ∃ it, Se_ σx σm s sz B it)))) := by
  have hX := h0.1
  have hn := hF.1
  have c1 := hF.2.1
  unfold f_X8_refusalOfTold
  rcases bel_c x1 (n := 4) (by omega) with b1 | ⟨s, hs, rfl⟩
  · rw [she_n hX x1 b1]
    exact Or.inl ⟨rfl, Or.inl b1⟩
  rw [she_s hX hs, Option.bind_some]
  simp only [oc_]
  rw [if_pos (hX.she hs).2.1, dx_0_0 hX, Option.bind_some]
  rcases bel_c x2 (n := n) (by omega) with b1 | ⟨c, hc, rfl⟩
  · rw [car_n hX hn c1 x2 b1, Option.bind_some]
    exact Or.inl ⟨rfl, Or.inr (Or.inl b1)⟩
  rw [car_s hX hn c1 hc, Option.bind_some]
  simp only
  rw [if_pos (hX.car (by omega)).2]
  by_cases z : x3 = 0
  · rw [if_pos z]
    exact Or.inl ⟨rfl, Or.inr (Or.inr z)⟩
  rw [if_neg z]
  refine Or.inr ⟨s, c, hs, hc, rfl, rfl, z, ?_⟩
  rcases she_st hS hs with ⟨g1, g2, g3⟩ | ⟨so, sz, g1, g2, g3, g4, g5, g6, g7, g8⟩
  · rw [if_neg (mis_1 g1)]
    exact Or.inl ⟨rfl, g3⟩
  rw [if_pos (mis_0 g3 g1), g4]
  refine Or.inr ⟨sz, g2, g5, rfl, g7, ?_⟩
  rcases Nat.lt_or_ge most sz with y | y
  · rw [if_pos (nI_lt y (by omega))]
    exact Or.inl ⟨rfl, Or.inl y⟩
  rw [if_neg (nI_nlt y (by omega))]
  have ev : f_X4_isAllBelow 5000 σx (2 * s + 41) (nI B) = f_X4_isAllBelow_2 5000 σx 5000 (2 * s + 41) (nI B) (nI 0) := rfl
  rw [ev]
  rcases all_x hX hs g2 g4 hB sz 0 5000 (by omega) (by omega) with ⟨q1, q2⟩ | ⟨q1, j, -, q3, q4⟩
  · rw [q1, Option.bind_some, if_neg (by decide)]
    refine Or.inr ⟨rfl, y, fun j => (si_ σx (2 * s + 42) j).toNatClampNeg, hs, g2, g4, g7, fun j hj => ?_⟩
    obtain ⟨v, hv, e⟩ := q2 j (by omega) hj
    have ee : (si_ σx (2 * s + 42) j).toNatClampNeg = v := by rw [e, nI_clamp (by omega)]
    show (si_ σx (2 * s + 42) j).toNatClampNeg < B ∧ _ = nI (si_ σx (2 * s + 42) j).toNatClampNeg ∧ _ = nI (si_ σx (2 * s + 42) j).toNatClampNeg
    rw [ee, ← g8 j hj]
    exact ⟨hv, e, e⟩
  · rw [q1, Option.bind_some, if_pos rfl]
    exact Or.inl ⟨rfl, Or.inr ⟨y, j, q3, by rw [← g8 j q3]; exact q4⟩⟩
theorem sim_flies : Sim_flies Rel_ := by
  intro σx σm h x1 x2 x3
  show ∃ (r : Int32) (σx' : St_) (σm' : St_), f_X8_flies 5000 σx 0 x1 x2 x3 = some (r, σx') ∧ f_X9_flies 5000 σm 0 x1 x2 x3 = some (r, σm') ∧ Rel_ σx' σm'
  have h0 := h
  obtain ⟨hX, hM, tc, n, hT, hF, hK, hP, hS⟩ := h
  have hn := hF.1
  have c1 := hF.2.1
  have c2 := hF.2.2.1
  have hone := one_b hn c2 x2
  have i4 := in_c (x := x3) (n := 1) (1 : Int64) rfl (by omega)
  have rx := ref_x h0 hF hS x1 x2 (f_X8_isBelow x3 (nI 2)) (most := 40) (B := 8) (by omega) (by omega)
  have eX : f_X8_flies 5000 σx 0 x1 x2 x3 = (f_X8_refusalOfTold 5000 σx 0 x1 x2 (f_X8_isBelow x3 (nI 2)) (nI 40) (nI 8)).bind fun q6 => (f_X8_sheetAt σx 0 x1).bind fun q7 => (dr_ σx 1 (sr_ σx 0 0)).bind fun b8 => (f_X1_carpetAt σx b8 x2).bind fun q9 => if q6 = 0 then oc_ q7 (some (q6, σx)) (fun b11 => if kd_ σx b11 = 4 then oc_ q9 (some (q6, σx)) (fun b12 => if kd_ σx b12 = 0 then (f_X8_think σx 0 b12).bind fun q13 => f_X8_flies_71 5000 5000 q13 0 x3 b11 (si_ q13 b12 2) (0 : Int32) (0 : Int32) else none) else none) else some (q6, σx) := rfl
  have nz : ∀ r : Int32, ¬ r = 0 → f_X8_refusalOfTold 5000 σx 0 x1 x2 (f_X8_isBelow x3 (nI 2)) (nI 40) (nI 8) = some r → f_X8_flies 5000 σx 0 x1 x2 x3 = some (r, σx) := fun r hr e => by
    rw [eX, e, Option.bind_some]
    rcases bel_c x1 (n := 4) (by omega) with b1 | ⟨s, hs, rfl⟩
    · rw [she_n hX x1 b1, Option.bind_some, dx_0_0 hX, Option.bind_some]
      rcases bel_c x2 (n := n) (by omega) with b2 | ⟨c, hc, rfl⟩
      · rw [car_n hX hn c1 x2 b2, Option.bind_some, if_neg hr]
      · rw [car_s hX hn c1 hc, Option.bind_some, if_neg hr]
    · rw [she_s hX hs, Option.bind_some, dx_0_0 hX, Option.bind_some]
      rcases bel_c x2 (n := n) (by omega) with b2 | ⟨c, hc, rfl⟩
      · rw [car_n hX hn c1 x2 b2, Option.bind_some, if_neg hr]
      · rw [car_s hX hn c1 hc, Option.bind_some, if_neg hr]
  rcases rx with ⟨e, hb⟩ | ⟨s, c, hs, hc, rfl, rfl, hx3, hr⟩
  · refine ⟨-2, σx, σm, nz _ (by decide) e, ?_, h0⟩
    unfold f_X9_flies
    by_cases z1 : f_X9_isSheet x1 = 0
    · rw [if_pos z1]
    rw [if_neg z1]
    by_cases z2 : f_X9_isOne σm 0 x2 = 0
    · rw [if_pos z2]
    rw [if_neg z2]
    rw [if_pos]
    rcases hb with hb | hb | hb
    · exact absurd ((isS_c _).mpr hb) z1
    · exact absurd (hone.mpr hb) z2
    · exact i4.mpr hb
  have eM : f_X9_flies 5000 σm 0 (nI s) (nI c) x3 = if si_ σm 15 s = 0 then some (-11, σm) else f_X9_flies_43 5000 5000 σm 0 (nI s) (nI c) x3 (nI 0) := by
    unfold f_X9_flies
    rw [if_neg (fun z => bel_n hs (by omega) ((isS_c _).mp z)), if_neg (fun z => bel_n hc (by omega) (hone.mp z)), if_neg (fun z => hx3 (i4.mp z)), dm_0_38 hM, Option.bind_some, lm_15 hM, ix_ok hs (by omega), Option.bind_some]
    rfl
  rw [eM]
  rcases hr with ⟨e, g⟩ | ⟨sz, hz, g1, g2, g3, hr⟩
  · rw [if_pos g]
    exact ⟨-11, σx, σm, nz _ (by decide) e, rfl, h0⟩
  rw [if_neg (by rw [g1]; decide)]
  obtain ⟨q1, q2⟩ := fl43 hM hs hz g3 (c := c) (by omega) x3 sz 0 5000 (by omega) (by omega)
  rcases hr with ⟨e, hr⟩ | ⟨e, hz', it, hSe⟩
  · refine ⟨-2, σx, σm, nz _ (by decide) e, ?_, h0⟩
    rcases hr with hr | ⟨-, j, j1, j2⟩
    · omega
    · exact q2 ⟨j, by omega, j1, j2⟩
  · rw [q1 (fun j _ hj => ⟨it j, (hSe.2.2.2.2 j hj).1, (hSe.2.2.2.2 j hj).2.2⟩)]
    obtain ⟨kd, nu, on, fl, ni, m, ce, cs, cr, σ1, p, hon, xo, mo, hC, e1, hTh, hsc⟩ := think_ok h0 hT hF hc
    obtain ⟨r, s3, s4, f1, f2, f3, f4⟩ := fl_go2 p x3 sz 0 5000 5000 0 on σ1 σm (by omega) (by omega) (by omega) hon hTh hC (hSe.sx hsc)
    refine ⟨r, s3, s4, ?_, by rw [mo]; exact f2, h0.sc (hsc.trans f3.sc) f4.sc⟩
    rw [eX, e, Option.bind_some, she_s hX hs, Option.bind_some, dx_0_0 hX, Option.bind_some, car_s hX hn c1 hc, Option.bind_some, if_pos rfl]
    simp only [oc_]
    rw [if_pos (hX.she hs).2.1, if_pos (hX.car (by omega)).2, e1, Option.bind_some, show si_ σ1 (c + 3) 2 = nI on from (hsc.2.i (by simp only [xZ_]; omega)).trans xo]
    exact f1
