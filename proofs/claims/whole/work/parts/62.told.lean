/-! TOLD, SAY, HIGHEST, DRAWN -/
theorem w17 (x : Int32) : (f_X9_in x.toInt64 10 17 = 0 ∧ (x < 10 ∨ f_X8_isBelow (x - 10) 8 = 0)) ∨ ∃ w, w < 8 ∧ x = nI (w + 10) := by
  rcases bel_c x (n := 18) (by omega) with h | ⟨j, hj, rfl⟩
  · rcases bel_0.mp h with z | z
    · refine Or.inl ⟨in_0.mpr (Or.inl ?_), Or.inl ?_⟩
      · rw [Int64.lt_iff_toInt_lt, Int32.toInt_toInt64]
        rw [lt_i] at z
        have e1 : (10 : Int64).toInt = 10 := rfl
        have e2 : (0 : Int32).toInt = 0 := rfl
        omega
      · rw [lt_i] at z ⊢
        have e1 : (10 : Int32).toInt = 10 := rfl
        have e2 : (0 : Int32).toInt = 0 := rfl
        omega
    · have z0 : ¬ x < 0 := by
        rw [le_i, nI_toInt (by omega)] at z
        rw [lt_i]
        have e2 : (0 : Int32).toInt = 0 := rfl
        omega
      obtain ⟨k, hk, rfl⟩ := nI_of z0
      have hk18 : 18 ≤ k := (nI_leI (by omega) hk).mp z
      refine Or.inl ⟨in_0.mpr (Or.inr ?_), Or.inr ?_⟩
      · rw [Int64.lt_iff_toInt_lt, Int32.toInt_toInt64, nI_toInt hk]
        have e1 : (17 : Int64).toInt = 17 := rfl
        omega
      · rw [show (10 : Int32) = nI 10 from rfl, pk_sub (by omega)]
        exact bel_0.mpr (Or.inr (nI_le (a := 8) (by omega) (by omega)))
  · rcases Nat.lt_or_ge j 10 with z | z
    · exact Or.inl ((show ∀ j, j < 10 → (f_X9_in (nI j).toInt64 10 17 = 0 ∧ (nI j < 10 ∨ f_X8_isBelow (nI j - 10) 8 = 0)) by decide +kernel) j z)
    · exact Or.inr ⟨j - 10, by omega, by congr 1; omega⟩
theorem w17n : ∀ w, w < 8 → (¬ f_X9_in (nI (w + 10)).toInt64 10 17 = 0 ∧ ¬ nI (w + 10) < 10 ∧ nI (w + 10) - 10 = nI w ∧ 2 ≤ nI (w + 10) ∧ ¬ nI (w + 10) ≤ 9 ∧ ¬ f_X8_isBelow (nI w) 8 = 0) := by decide +kernel
theorem sim_told : Sim_told Rel_ := by
  intro σx σm h x1 x2
  show ∃ (r : Int32) (σx' : St_) (σm' : St_), f_X8_told 5000 σx 0 x1 x2 = some (r, σx') ∧ f_X9_told 5000 σm 0 x1 x2 = some (r, σm') ∧ Rel_ σx' σm'
  have h0 := h
  obtain ⟨hX, hM, tc, n, hT, hF, hK, hP, hS⟩ := h
  have hF' := hF
  obtain ⟨hn, c1, c2, ⟨ni, hni, n1, n2⟩, ⟨t, ht, r1, r2⟩, ⟨m, hm, w1, w2⟩, hca⟩ := hF
  have hone := one_b hn c2 x1
  have i6 := in_c (x := x2) (n := 6) (6 : Int64) rfl (by omega)
  unfold f_X8_told f_X9_told
  rcases bel_c x2 (n := 7) (by omega) with b | ⟨j, hj, rfl⟩
  · have q0 : ¬ x2 = 0 := fun e => by rw [e] at b; exact absurd b (by decide +kernel)
    have q1 : ¬ x2 = 1 := fun e => by rw [e] at b; exact absurd b (by decide +kernel)
    have q6 : ¬ x2 = 6 := fun e => by rw [e] at b; exact absurd b (by decide +kernel)
    rw [if_neg q0, if_neg q1, if_pos (i6.mpr b), dx_0_0 hX, Option.bind_some]
    rcases bel_c x1 (n := n) (by omega) with b1 | ⟨c, hc, rfl⟩
    · rw [car_n hX hn c1 x1 b1, Option.bind_some]
      refine ⟨-2, σx, σm, rfl, ?_, h0⟩
      have ho : f_X9_isOf σm 0 x2 x1 = 0 := by
        unfold f_X9_isOf
        rw [if_neg q0, if_neg q1, if_pos (hone.mpr b1)]
      unfold f_X9_told_26
      rw [ho, if_pos rfl]
      split <;> rfl
    · rw [car_s hX hn c1 hc, Option.bind_some]
      simp only [oc_]
      rw [if_pos (hX.car (by omega)).2]
      have tt : (if x2 < 2 then f_X8_told_72 5000 σx 0 (nI c) x2 (c + 3) else if 5 < x2 then f_X8_told_72 5000 σx 0 (nI c) x2 (c + 3) else some (f_X0_tell σx (c + 3) x2, σx)) = f_X8_told_72 5000 σx 0 (nI c) x2 (c + 3) := by
        by_cases y : x2 < 2
        · rw [if_pos y]
        · rw [if_neg y, if_pos]
          rcases bel_0.mp b with z | z
          · rw [lt_i] at y z
            have e1 : (2 : Int32).toInt = 2 := rfl
            have e2 : (0 : Int32).toInt = 0 := rfl
            omega
          · rw [le_i, nI_toInt (by omega)] at z
            rw [lt_i]
            have e1 : (5 : Int32).toInt = 5 := rfl
            omega
      rw [tt]
      unfold f_X8_told_72
      rw [if_neg q6]
      rcases w17 x2 with ⟨g1, g2⟩ | ⟨w, hw, rfl⟩
      · rw [if_pos g1]
        refine ⟨-2, σx, σm, ?_, rfl, h0⟩
        by_cases z : x2 < 10
        · rw [if_pos z]
        · rw [if_neg z, if_pos (g2.elim (fun y => absurd y z) id)]
      · obtain ⟨g1, g2, g3, g4, g5, g6⟩ := w17n w hw
        obtain ⟨kd, nu, on, fl, ni', m', ce, cs, cr, σ1, p, hon, xo, mo, hC, e1, hTh, hsc⟩ := think_ok h0 hT hF' hc
        obtain ⟨σ2, f1, f2⟩ := th_goal hTh p hon hw
        obtain ⟨σ3, k1, k2⟩ := cm_goes hC p hon hw
        have ho : f_X9_isOf σm 0 (nI (w + 10)) (nI c) = 1 := by
          unfold f_X9_isOf
          rw [if_neg q0, if_neg q1, if_neg (fun z => bel_n hc (by omega) (hone.mp z))]
        rw [if_neg g2, g3, if_neg g6, e1, Option.bind_some, dx_0_7 hsc.1, Option.bind_some, show si_ σ1 (c + 3) 2 = nI on from (hsc.2.i (by simp only [xZ_]; omega)).trans xo, f1, Option.bind_some, if_neg g1]
        unfold f_X9_told_26
        rw [ho, if_neg (by decide), if_pos g4, if_neg g5, dm_0_10 hM, Option.bind_some, lm_6 hM, ix_r1 c (by omega), Option.bind_some, mo, g3, k1, Option.bind_some]
        exact ⟨_, _, _, rfl, rfl, h0.sc (hsc.trans f2.sc) k2.sc⟩
  · rw [if_neg (fun z => bel_n hj (by omega) (i6.mp z))]
    unfold f_X9_told_26
    by_cases j0 : j = 0
    · subst j0
      rw [if_pos (show nI 0 = 0 from rfl), dx_0_0 hX, Option.bind_some, n1, show f_X9_isOf σm 0 (nI 0) x1 = 1 from rfl, if_neg (by decide), if_neg (by decide), if_pos (show nI 0 = 0 from rfl), n2]
      exact ⟨_, _, _, rfl, rfl, h0⟩
    have q0 : ¬ nI j = 0 := nI_ne0 (by omega) (by omega)
    rw [if_neg q0]
    by_cases j1 : j = 1
    · subst j1
      rw [if_pos (show nI 1 = 1 from rfl)]
      have ho : f_X9_isOf σm 0 (nI 1) x1 = if f_X9_isCell x1 = 0 then 0 else 1 := by
        unfold f_X9_isOf
        rw [if_neg (by decide), if_pos (show nI 1 = 1 from rfl)]
      rw [ho]
      rcases bel_c x1 (n := 36) (by omega) with b1 | ⟨c, hc, rfl⟩
      · rw [if_pos (show f_X8_isBelow x1 36 = 0 from b1), if_pos ((isC_c _).mpr b1), if_pos rfl]
        exact ⟨_, _, _, rfl, rfl, h0⟩
      · rw [if_neg (show ¬ f_X8_isBelow (nI c) 36 = 0 from bel_n (n := 36) hc (by omega)), if_neg (fun z => bel_n hc (by omega) ((isC_c _).mp z)), if_neg (by decide), if_neg (by decide), if_neg (by decide), dx_0_0 hX, Option.bind_some, dm_0_8 hM, Option.bind_some, lm_4 hM, ix_ok hc (by omega), Option.bind_some, w2 c hc]
        refine ⟨_, σx, σm, ?_, rfl, h0⟩
        unfold f_X1_wallOn
        rw [w1, wal_b hm hc]
        cases m.testBit c <;> rfl
    have q1 : ¬ nI j = 1 := nI_ne (b := 1) (by omega) (by omega) j1
    rw [if_neg q1, dx_0_0 hX, Option.bind_some]
    have ho : f_X9_isOf σm 0 (nI j) x1 = if f_X9_isOne σm 0 x1 = 0 then 0 else 1 := by
      unfold f_X9_isOf
      rw [if_neg q0, if_neg q1]
    rw [ho]
    rcases bel_c x1 (n := n) (by omega) with b1 | ⟨c, hc, rfl⟩
    · rw [car_n hX hn c1 x1 b1, Option.bind_some, if_pos (hone.mpr b1), if_pos rfl]
      exact ⟨_, _, _, rfl, rfl, h0⟩
    rw [car_s hX hn c1 hc, Option.bind_some, if_neg (fun z => bel_n hc (by omega) (hone.mp z)), if_neg (by decide)]
    simp only [oc_]
    have l2 : (2 : Int32) ≤ nI j := nI_le (a := 2) (by omega) (by omega)
    rw [if_pos (hX.car (by omega)).2, if_neg (show ¬ nI j < 2 from nI_nlt (b := 2) (by omega) (by omega)), if_pos l2, if_pos (show nI j ≤ 9 from nI_le (b := 9) (by omega) (by omega))]
    obtain ⟨kd, nu, on, fl, a1, a2, a3, a4, b1, b2, b3, b4, b5, b6, b7, b8⟩ := hca c hc
    have d : j = 2 ∨ j = 3 ∨ j = 4 ∨ j = 5 ∨ j = 6 := by omega
    rcases d with rfl | rfl | rfl | rfl | rfl
    · rw [if_neg (by decide), if_neg (by decide), dm_0_10 hM, Option.bind_some, lm_6 hM, ix_rd c (by omega) 0 (by omega), Option.bind_some]
      exact ⟨_, σx, σm, rfl, by rw [show si_ σm 6 (3 * c + 0) = f_X0_tell σx (c + 3) (nI 2) from b6.trans b2.symm], h0⟩
    · rw [if_neg (by decide), if_neg (by decide), dm_0_10 hM, Option.bind_some, lm_6 hM, ix_rd c (by omega) 1 (by omega), Option.bind_some]
      exact ⟨_, σx, σm, rfl, by rw [show si_ σm 6 (3 * c + 1) = f_X0_tell σx (c + 3) (nI 3) from b7.trans b3.symm], h0⟩
    · rw [if_neg (by decide), if_neg (by decide), dm_0_10 hM, Option.bind_some, lm_6 hM, ix_rd c (by omega) 2 (by omega), Option.bind_some]
      exact ⟨_, σx, σm, rfl, by rw [show si_ σm 6 (3 * c + 2) = f_X0_tell σx (c + 3) (nI 4) from b8.trans b4.symm], h0⟩
    · rw [if_neg (by decide), if_pos (by decide), if_pos (by decide), dm_0_9 hM, Option.bind_some, lm_5 hM, ix_ok (by omega) (by omega), Option.bind_some]
      exact ⟨_, σx, σm, rfl, by rw [show si_ σm 5 c = f_X0_tell σx (c + 3) (nI 5) from b5.trans b1.symm], h0⟩
    · rw [if_pos (by decide), if_pos (by decide), if_neg (by decide)]
      unfold f_X8_told_72
      rw [if_pos (show nI 6 = 6 from rfl)]
      obtain ⟨v, s1, s2, e1, e2, e3, e4⟩ := high_ok h0 hT hF' hc
      rw [e1, e2]
      exact ⟨_, _, _, rfl, rfl, h0.sc e3 e4⟩
/-- one carpet flies at a word -/
theorem fly_ok {σx σm : St_} (h0 : Rel_ σx σm) {n c w : Nat} (hn : n ≤ 4) (c1 : si_ σx 1 1 = nI n) (hc : c < n) (hw : w < 8) : ∃ (r : Int32) (σx' σm' : St_), f_X8_fly 5000 σx 0 (c + 3) (nI w) = some (r, σx') ∧ f_X9_flies1 5000 σm 0 (nI c) (nI w) = some (r, σm') ∧ Rel_ σx' σm' ∧ si_ σx' 1 1 = nI n ∧ si_ σm' 0 11 = nI n := by
  have h := h0
  obtain ⟨hX, hM, tc, n', hT, hF, hK, hP, hS⟩ := h
  have : n' = n := (nI_eq (by have := hF.1; omega) (by omega)).mp (hF.2.1.symm.trans c1)
  subst this
  have c2 := hF.2.2.1
  obtain ⟨kd, nu, on, fl, ni', m', ce, cs, cr, σ1, p, hon, xo, mo, hC, e1, hTh, hsc⟩ := think_ok h0 hT hF hc
  obtain ⟨σ2, f1, f2⟩ := th_goal hTh p hon hw
  obtain ⟨σ3, k1, k2⟩ := cm_goes hC p hon hw
  have hg := gt_lt kd nu fl ni' m' ce cs on w hon
  have hs := hsc.trans f2.sc
  have x2 : si_ σ2 (c + 3) 2 = nI on := (hs.2.i (by simp only [xZ_]; omega)).trans xo
  have m2 : si_ σ3 6 (3 * c + 1) = nI on := (k2.2.i (by simp [mG_])).trans mo
  have d1 : si_ σ2 1 1 = nI n' := (hs.2.i (by simp [xZ_])).trans c1
  have d2 : si_ σ3 0 11 = nI n' := (k2.2.i (by simp [mG_])).trans c2
  unfold f_X8_fly f_X9_flies1
  rw [e1, Option.bind_some, dx_0_7 hsc.1, Option.bind_some, show si_ σ1 (c + 3) 2 = nI on from (hsc.2.i (by simp only [xZ_]; omega)).trans xo, f1, Option.bind_some, dm_0_10 hM, Option.bind_some, lm_6 hM, ix_r1 c (by omega), Option.bind_some, mo, k1, Option.bind_some]
  simp only
  rw [x2, dm_0_10 k2.1, Option.bind_some, lm_6 k2.1, ix_r1 c (by omega), Option.bind_some, m2]
  generalize hgg : gt_ kd nu fl ni' m' ce cs on w = g at *
  by_cases z : g = on
  · rw [if_pos (by rw [z]), if_pos (by rw [z])]
    exact ⟨_, _, _, rfl, rfl, h0.sc hs k2.sc, d1, d2⟩
  · have z' : ¬ nI g = nI on := fun q => z ((nI_eq (by omega) (by omega)).mp q)
    rw [if_neg z', if_neg z', Option.bind_some, show ln_ (ui_ σ3 6 (3 * c + 1) (nI g)) 6 = 12 from lm_6 k2.1, ix_r2 c (by omega), Option.bind_some]
    obtain ⟨hX', hM', tc', n2, hT', hF2, hK', hP', hS'⟩ := h0.sc hs k2.sc
    have : n2 = n' := (nI_eq (by have := hF2.1; omega) (by omega)).mp (hF2.2.1.symm.trans d1)
    subst this
    obtain ⟨hn', c1', c2', ⟨ni, hni, n1, n2'⟩, ⟨t, ht, r1, r2⟩, ⟨m, hm, w1, w2⟩, hca⟩ := hF2
    refine ⟨_, _, _, rfl, rfl, rel_F hX' hM' hT' hK' hP' hS' (Fr_.ui (Fr_.ui (Fr_.refl _ _) _ _ _ (by simp [xF_]; omega)) _ _ _ (by simp [xF_]; omega)) (Fr_.ui (Fr_.ui (Fr_.refl _ _) _ _ _ (by simp [mF_])) _ _ _ (by simp [mF_])) ⟨hn', by rw [g_si_ne (by omega), g_si_ne (by omega)]; exact c1', c2', ⟨ni, hni, by rw [g_si_ne (by omega), g_si_ne (by omega)]; exact n1, n2'⟩, ⟨t, ht, by rw [g_si_ne (by omega), g_si_ne (by omega)]; exact r1, r2⟩, ⟨m, hm, w1, w2⟩, fun i hi => ?_⟩, by rw [g_si_ne (by omega), g_si_ne (by omega)]; exact d1, d2⟩
    obtain ⟨kd, nu, on', fl, a1, a2, a3, a4, b1, b2, b3, b4, b5, b6, b7, b8⟩ := hca i hi
    by_cases hic : i = c
    · subst hic
      refine ⟨kd, nu, g, 1, a1, a2, hg, by omega, ?_, ?_, ?_, ?_, b5, ?_, ?_, ?_⟩
      · show si_ (ui_ (ui_ σ2 (i + 3) 2 (nI g)) (i + 3) 3 1) (i + 3) 0 = _
        rw [g_si_ui, if_pos rfl, if_neg (by omega), g_si_ui, if_pos rfl, if_neg (by omega)]; exact b1
      · show si_ (ui_ (ui_ σ2 (i + 3) 2 (nI g)) (i + 3) 3 1) (i + 3) 1 = _
        rw [g_si_ui, if_pos rfl, if_neg (by omega), g_si_ui, if_pos rfl, if_neg (by omega)]; exact b2
      · show si_ (ui_ (ui_ σ2 (i + 3) 2 (nI g)) (i + 3) 3 1) (i + 3) 2 = _
        rw [g_si_ui, if_pos rfl, if_neg (by omega), g_si_ui, if_pos rfl, if_pos rfl]
      · show si_ (ui_ (ui_ σ2 (i + 3) 2 (nI g)) (i + 3) 3 1) (i + 3) 3 = _
        rw [g_si_ui, if_pos rfl, if_pos rfl]; rfl
      · show si_ (ui_ (ui_ σ3 6 (3 * i + 1) (nI g)) 6 (3 * i + 2) 1) 6 (3 * i) = _
        rw [g_si_ui, if_pos rfl, if_neg (by omega), g_si_ui, if_pos rfl, if_neg (by omega)]; exact b6
      · show si_ (ui_ (ui_ σ3 6 (3 * i + 1) (nI g)) 6 (3 * i + 2) 1) 6 (3 * i + 1) = _
        rw [g_si_ui, if_pos rfl, if_neg (by omega), g_si_ui, if_pos rfl, if_pos rfl]
      · show si_ (ui_ (ui_ σ3 6 (3 * i + 1) (nI g)) 6 (3 * i + 2) 1) 6 (3 * i + 2) = _
        rw [g_si_ui, if_pos rfl, if_pos rfl]; rfl
    · refine (hca i hi).congr (fun k _ => ?_) rfl (fun k hk => ?_)
      · show si_ (ui_ (ui_ σ2 (c + 3) 2 (nI g)) (c + 3) 3 1) (i + 3) k = _
        rw [g_si_ne (by omega), g_si_ne (by omega)]
      · rw [g_si_ui, if_pos rfl, if_neg (by omega), g_si_ui, if_pos rfl, if_neg (by omega)]
theorem say_t {n w : Nat} (hn : n ≤ 4) {σx : St_} (hX : ShX_ σx) (c1 : si_ σx 1 1 = nI n) (v : Int32) : ∀ (j i g : Nat), i + j = 4 → n ≤ i → j < g → f_X8_say_47 5000 g σx 0 (nI w) v (nI i) = some (v, σx) := by
  intro j
  induction j with
  | zero =>
    intro i g h1 h2 h3
    obtain ⟨g, rfl⟩ : ∃ g', g = g' + 1 := ⟨g - 1, by omega⟩
    rw [u_X8_say_47, if_pos (show (4 : Int32) ≤ nI i from nI_le (a := 4) (by omega) (by omega))]
  | succ j ih =>
    intro i g h1 h2 h3
    obtain ⟨g, rfl⟩ : ∃ g', g = g' + 1 := ⟨g - 1, by omega⟩
    rw [u_X8_say_47, if_neg (show ¬ (4 : Int32) ≤ nI i from nI_ge (b := 4) (by omega) (by omega)), dx_0_0 hX, Option.bind_some, car_n hX hn c1 (nI i) (bel_0.mpr (Or.inr (nI_le h2 (by omega)))), Option.bind_some]
    simp only [oc_]
    rw [Int32.add_zero, nI_1]
    exact ih (i + 1) g (by omega) (by omega) (by omega)
theorem say_go {n w : Nat} (hn : n ≤ 4) (hw : w < 8) : ∀ (k i g g2 : Nat) (v : Int32) (σx σm : St_), i + k = n → k + (4 - n) < g → k < g2 → Rel_ σx σm → si_ σx 1 1 = nI n → si_ σm 0 11 = nI n → ∃ (r : Int32) (σx' σm' : St_), f_X8_say_47 5000 g σx 0 (nI w) v (nI i) = some (r, σx') ∧ f_X9_say_28 5000 g2 σm 0 (-1) (nI w) v (nI i) = some (r, σm') ∧ Rel_ σx' σm' := by
  intro k
  induction k with
  | zero =>
    intro i g g2 v σx σm h1 h2 h3 hR c1 c2
    obtain ⟨g2, rfl⟩ : ∃ g', g2 = g' + 1 := ⟨g2 - 1, by omega⟩
    refine ⟨v, σx, σm, say_t hn hR.1 c1 v (4 - i) i g (by omega) (by omega) (by omega), ?_, hR⟩
    rw [u_X9_say_28, c2, if_pos (nI_le (by omega) (by omega))]
  | succ k ih =>
    intro i g g2 v σx σm h1 h2 h3 hR c1 c2
    obtain ⟨g, rfl⟩ : ∃ g', g = g' + 1 := ⟨g - 1, by omega⟩
    obtain ⟨g2, rfl⟩ : ∃ g', g2 = g' + 1 := ⟨g2 - 1, by omega⟩
    obtain ⟨r, s1, s2, e1, e2, hR', d1, d2⟩ := fly_ok hR hn c1 (c := i) (by omega) hw
    obtain ⟨r', s3, s4, e3, e4, hR2⟩ := ih (i + 1) g g2 (v + r) s1 s2 (by omega) (by omega) (by omega) hR' d1 d2
    refine ⟨r', s3, s4, ?_, ?_, hR2⟩
    · rw [u_X8_say_47, if_neg (show ¬ (4 : Int32) ≤ nI i from nI_ge (b := 4) (by omega) (by omega)), dx_0_0 hR.1, Option.bind_some, car_s hR.1 hn c1 (by omega), Option.bind_some]
      simp only [oc_]
      rw [if_pos (hR.1.car (by omega)).2, e1, Option.bind_some, nI_1]
      exact e3
    · rw [u_X9_say_28, c2, if_neg (nI_ge (by omega) (by omega)), if_pos rfl, e2, Option.bind_some, nI_1]
      exact e4
theorem say_m2 {n c w : Nat} (hn : n ≤ 4) (hc : c < n) {σm : St_} (c2 : si_ σm 0 11 = nI n) (v : Int32) : ∀ (k i g : Nat), i + k = n → c < i → k < g → f_X9_say_28 5000 g σm 0 (nI c) (nI w) v (nI i) = some (v, σm) := by
  intro k
  induction k with
  | zero =>
    intro i g h1 h2 h3
    obtain ⟨g, rfl⟩ : ∃ g', g = g' + 1 := ⟨g - 1, by omega⟩
    rw [u_X9_say_28, c2, if_pos (nI_le (by omega) (by omega))]
  | succ k ih =>
    intro i g h1 h2 h3
    obtain ⟨g, rfl⟩ : ∃ g', g = g' + 1 := ⟨g - 1, by omega⟩
    have n1 : ¬ nI c = -1 := (show ∀ c, c < 4 → ¬ nI c = -1 by decide +kernel) c (by omega)
    rw [u_X9_say_28, c2, if_neg (nI_ge (by omega) (by omega)), if_neg n1, if_neg (nI_ne (by omega) (by omega) (by omega)), Int32.add_zero, nI_1]
    exact ih (i + 1) g (by omega) (by omega) (by omega)
theorem say_m1 {n c w : Nat} (hn : n ≤ 4) (hc : c < n) {σm σm' : St_} (c2 : si_ σm 0 11 = nI n) (c2' : si_ σm' 0 11 = nI n) {r : Int32} (e : f_X9_flies1 5000 σm 0 (nI c) (nI w) = some (r, σm')) : ∀ (k i g : Nat), i + k = c → 10 + k < g → f_X9_say_28 5000 g σm 0 (nI c) (nI w) 0 (nI i) = some (r, σm') := by
  have n1 : ¬ nI c = -1 := (show ∀ c, c < 4 → ¬ nI c = -1 by decide +kernel) c (by omega)
  intro k
  induction k with
  | zero =>
    intro i g h1 h3
    obtain ⟨g, rfl⟩ : ∃ g', g = g' + 1 := ⟨g - 1, by omega⟩
    have : i = c := by omega
    subst this
    rw [u_X9_say_28, c2, if_neg (nI_ge (by omega) (by omega)), if_neg n1, if_pos rfl, e, Option.bind_some, nI_1]
    simp only
    rw [Int32.zero_add]
    exact say_m2 hn hc c2' r (n - (i + 1)) (i + 1) g (by omega) (by omega) (by omega)
  | succ k ih =>
    intro i g h1 h3
    obtain ⟨g, rfl⟩ : ∃ g', g = g' + 1 := ⟨g - 1, by omega⟩
    rw [u_X9_say_28, c2, if_neg (nI_ge (by omega) (by omega)), if_neg n1, if_neg (nI_ne (by omega) (by omega) (by omega)), Int32.add_zero, nI_1]
    exact ih (i + 1) g (by omega) (by omega)
theorem sim_say : Sim_say Rel_ := by
  intro σx σm h x1 x2
  show ∃ (r : Int32) (σx' : St_) (σm' : St_), f_X8_say 5000 σx 0 x1 x2 = some (r, σx') ∧ f_X9_say 5000 σm 0 x1 x2 = some (r, σm') ∧ Rel_ σx' σm'
  have h0 := h
  obtain ⟨hX, hM, tc, n, hT, hF, hK, hP, hS⟩ := h
  have hn := hF.1
  have c1 := hF.2.1
  have c2 := hF.2.2.1
  have hone := one_b hn c2 x1
  unfold f_X8_say f_X9_say f_X9_say_13
  rcases bel_c x2 (n := 8) (by omega) with b | ⟨w, hw, rfl⟩
  · rw [if_pos (show f_X8_isBelow x2 8 = 0 from b), if_pos ((isW_c _).mpr b)]
    refine ⟨-2, σx, σm, rfl, ?_, h0⟩
    split
    · rfl
    · split <;> rfl
  rw [if_neg (show ¬ f_X8_isBelow (nI w) 8 = 0 from bel_n (n := 8) hw (by omega)), if_neg (fun z => bel_n hw (by omega) ((isW_c _).mp z))]
  by_cases z : x1 = -1
  · subst z
    rw [if_pos rfl, if_pos rfl]
    exact say_go hn hw n 0 5000 5000 0 σx σm (by omega) (by omega) (by omega) h0 c1 c2
  rw [if_neg z, if_neg z, dx_0_0 hX, Option.bind_some]
  rcases bel_c x1 (n := n) (by omega) with b1 | ⟨c, hc, rfl⟩
  · rw [car_n hX hn c1 x1 b1, if_pos (hone.mpr b1)]
    exact ⟨_, _, _, rfl, rfl, h0⟩
  rw [car_s hX hn c1 hc, Option.bind_some, if_neg (fun z => bel_n hc (by omega) (hone.mp z))]
  simp only [oc_]
  rw [if_pos (hX.car (by omega)).2]
  obtain ⟨r, s1, s2, e1, e2, hR', d1, d2⟩ := fly_ok h0 hn c1 hc hw
  rw [e1, Option.bind_some]
  exact ⟨r, s1, s2, rfl, say_m1 hn hc c2 d2 e2 c 0 5000 (by omega) (by omega), hR'⟩
theorem high_r {σx σm : St_} (h0 : Rel_ σx σm) {n c : Nat} (hn : n ≤ 4) (c1 : si_ σx 1 1 = nI n) (hc : c < n) : ∃ (v : Int32) (σx' σm' : St_), f_X8_heightOf 5000 σx 0 (nI c) = some (v, σx') ∧ f_X9_highOf 5000 σm 0 (nI c) = some (v, σm') ∧ Rel_ σx' σm' ∧ si_ σx' 1 1 = nI n ∧ si_ σm' 0 11 = nI n := by
  have h := h0
  obtain ⟨hX, hM, tc, n', hT, hF, hK, hP, hS⟩ := h
  have : n' = n := (nI_eq (by have := hF.1; omega) (by omega)).mp (hF.2.1.symm.trans c1)
  subst this
  obtain ⟨v, s1, s2, e1, e2, e3, e4⟩ := high_ok h0 hT hF hc
  exact ⟨v, s1, s2, e1, e2, h0.sc e3 e4, (e3.2.i (by simp [xZ_])).trans c1, (e4.2.i (by simp [mZ_])).trans hF.2.2.1⟩
theorem high_go {n : Nat} (hn : n ≤ 4) (x : Int32) : ∀ (k i g g2 : Nat) (a b : Int32) (σx σm : St_), i + k = n → k < g → k < g2 → Rel_ σx σm → si_ σx 1 1 = nI n → si_ σm 0 11 = nI n → ∃ (r : Int32) (σx' σm' : St_), f_X8_highest_18 5000 g σx 0 x a b (nI i) = some (r, σx') ∧ f_X9_highest_20 5000 g2 σm 0 x a b (nI i) = some (r, σm') ∧ Rel_ σx' σm' := by
  intro k
  induction k with
  | zero =>
    intro i g g2 a b σx σm h1 h2 h3 hR c1 c2
    obtain ⟨g, rfl⟩ : ∃ g', g = g' + 1 := ⟨g - 1, by omega⟩
    obtain ⟨g2, rfl⟩ : ∃ g', g2 = g' + 1 := ⟨g2 - 1, by omega⟩
    rw [u_X8_highest_18, u_X9_highest_20, dx_0_0 hR.1, Option.bind_some, c1, c2, if_pos (nI_le (by omega) (by omega)), if_pos (nI_le (by omega) (by omega))]
    by_cases z : x = 0
    · rw [if_pos z, if_pos z]; exact ⟨_, _, _, rfl, rfl, hR⟩
    · rw [if_neg z, if_neg z]; exact ⟨_, _, _, rfl, rfl, hR⟩
  | succ k ih =>
    intro i g g2 a b σx σm h1 h2 h3 hR c1 c2
    obtain ⟨g, rfl⟩ : ∃ g', g = g' + 1 := ⟨g - 1, by omega⟩
    obtain ⟨g2, rfl⟩ : ∃ g', g2 = g' + 1 := ⟨g2 - 1, by omega⟩
    obtain ⟨v, s1, s2, e1, e2, hR', d1, d2⟩ := high_r hR hn c1 (c := i) (by omega)
    rw [u_X8_highest_18, u_X9_highest_20, dx_0_0 hR.1, Option.bind_some, c1, c2, if_neg (nI_ge (by omega) (by omega)), if_neg (nI_ge (by omega) (by omega)), e1, e2, Option.bind_some, Option.bind_some, nI_1]
    simp only
    by_cases z : v ≤ b
    · rw [if_pos z, if_pos z]
      exact ih (i + 1) g g2 a b s1 s2 (by omega) (by omega) (by omega) hR' d1 d2
    · rw [if_neg z, if_neg z]
      exact ih (i + 1) g g2 (nI i) v s1 s2 (by omega) (by omega) (by omega) hR' d1 d2
theorem sim_highest : Sim_highest Rel_ := by
  intro σx σm h x
  show ∃ (r : Int32) (σx' : St_) (σm' : St_), f_X8_highest 5000 σx 0 x = some (r, σx') ∧ f_X9_highest 5000 σm 0 x = some (r, σm') ∧ Rel_ σx' σm'
  have h0 := h
  obtain ⟨hX, hM, tc, n, hT, hF, hK, hP, hS⟩ := h
  have i4 := in_c (x := x) (n := 1) (1 : Int64) rfl (by omega)
  unfold f_X8_highest f_X9_highest
  rcases bel_c x (n := 2) (by omega) with b | ⟨q, hq, rfl⟩
  · rw [if_pos (show f_X8_isBelow x 2 = 0 from b), if_pos (i4.mpr b)]
    exact ⟨_, _, _, rfl, rfl, h0⟩
  rw [if_neg (show ¬ f_X8_isBelow (nI q) 2 = 0 from bel_n (n := 2) hq (by omega)), if_neg (fun z => bel_n hq (by omega) (i4.mp z))]
  exact high_go hF.1 (nI q) n 0 5000 5000 (-1) (-1) σx σm (by omega) (by have := hF.1; omega) (by have := hF.1; omega) h0 hF.2.1 hF.2.2.1
theorem wd_ok (z : Int32) : ∃ w, w < 8 ∧ f_X8_wordOf z = nI w := by
  obtain ⟨n, hn, rfl⟩ := wb_of32 z
  refine ⟨n / 2 ^ 9 % 8, Nat.mod_lt _ (by decide), ?_⟩
  unfold f_X8_wordOf
  rw [pk_ushrN hn (9 : Int32) 9 (by decide +kernel)]
  exact pk_rem (d := 8) (by omega) (by omega) (by omega)
theorem drawn_go {kd nu fl ni m c : Nat} {ce cs cr : Cd_} (p : Pm_ kd nu fl ni m ce cs cr) {N : Nat} (hN : N < 100) : ∀ (k i g g2 : Nat) (z : Int32) (on : Nat) (σx σm : St_), i + k = N → k < g → k < g2 → on < 36 → Th_ σx kd nu fl ni m ce cs cr → Cm_ σm c kd nu fl ni m ce cs cr → ∃ (r : Int32) (σx' σm' : St_), f_X8_drawn_46 5000 g σx 0 (nI N) (nI on) z (nI i) = some (r, σx') ∧ f_X9_drawn_41 5000 g2 σm 0 (nI c) (nI N) z (nI on) (nI i) = some (r, σm') ∧ TX_ σx σx' ∧ TM_ σm σm' := by
  intro k
  induction k with
  | zero =>
    intro i g g2 z on σx σm h1 h2 h3 hon hT hC
    obtain ⟨g, rfl⟩ : ∃ g', g = g' + 1 := ⟨g - 1, by omega⟩
    obtain ⟨g2, rfl⟩ : ∃ g', g2 = g' + 1 := ⟨g2 - 1, by omega⟩
    rw [u_X8_drawn_46, u_X9_drawn_41, if_pos (nI_le (by omega) (by omega)), if_pos (nI_le (by omega) (by omega))]
    exact ⟨_, _, _, rfl, rfl, TX_.refl hT.1, TM_.refl hC.1⟩
  | succ k ih =>
    intro i g g2 z on σx σm h1 h2 h3 hon hT hC
    obtain ⟨g, rfl⟩ : ∃ g', g = g' + 1 := ⟨g - 1, by omega⟩
    obtain ⟨g2, rfl⟩ : ∃ g', g2 = g' + 1 := ⟨g2 - 1, by omega⟩
    have u : f_X9_drawn_41 5000 (g2 + 1) σm 0 (nI c) (nI N) z (nI on) (nI i) = (if nI N ≤ nI i then some (nI on, σm) else (f_X9_goesTo 5000 σm 0 (nI c) (nI on) (f_X8_wordOf (f_X8_drawnAfter z))).bind fun q2 => (f_X9_drawn_41 5000 g2) q2.2 0 (nI c) (nI N) (f_X8_drawnAfter z) q2.1 (nI i + 1)) := rfl
    obtain ⟨w, hw, ew⟩ := wd_ok (f_X8_drawnAfter z)
    obtain ⟨s1, e1, t1⟩ := th_goal hT p hon hw
    obtain ⟨s2, e2, t2⟩ := cm_goes hC p hon hw
    rw [u, u_X8_drawn_46, if_neg (nI_ge (by omega) (by omega)), if_neg (nI_ge (by omega) (by omega)), dx_0_7 hT.1, Option.bind_some, ew, e1, e2, Option.bind_some, Option.bind_some, nI_1]
    obtain ⟨r, s3, s4, f1, f2, f3, f4⟩ := ih (i + 1) g g2 (f_X8_drawnAfter z) _ s1 s2 (by omega) (by omega) (by omega) (gt_lt kd nu fl ni m ce cs on w hon) (hT.congr t1) (hC.congr t2)
    exact ⟨r, s3, s4, f1, f2, t1.trans f3, t2.trans f4⟩
theorem sim_drawn : Sim_drawn Rel_ := by
  intro σx σm h x1 x2 x3
  show ∃ (r : Int32) (σx' : St_) (σm' : St_), f_X8_drawn 5000 σx 0 x1 x2 x3 = some (r, σx') ∧ f_X9_drawn 5000 σm 0 x1 x2 x3 = some (r, σm') ∧ Rel_ σx' σm'
  have h0 := h
  obtain ⟨hX, hM, tc, n, hT, hF, hK, hP, hS⟩ := h
  have hn := hF.1
  have c1 := hF.2.1
  have c2 := hF.2.2.1
  have hone := one_b hn c2 x2
  have i4 := in_c (x := x3) (n := 99) (99 : Int64) rfl (by omega)
  unfold f_X8_drawn f_X9_drawn
  rw [dx_0_0 hX, Option.bind_some]
  rcases bel_c x2 (n := n) (by omega) with b1 | ⟨c, hc, rfl⟩
  · rw [car_n hX hn c1 x2 b1, if_pos (hone.mpr b1)]
    exact ⟨_, _, _, rfl, rfl, h0⟩
  rw [car_s hX hn c1 hc, Option.bind_some, if_neg (fun z => bel_n hc (by omega) (hone.mp z))]
  simp only [oc_]
  rw [if_pos (hX.car (by omega)).2]
  rcases bel_c x3 (n := 100) (by omega) with b | ⟨N, hN, rfl⟩
  · rw [if_pos (show f_X8_isBelow x3 100 = 0 from b), if_pos (i4.mpr b)]
    exact ⟨_, _, _, rfl, rfl, h0⟩
  rw [if_neg (show ¬ f_X8_isBelow (nI N) 100 = 0 from bel_n (n := 100) hN (by omega)), if_neg (fun z => bel_n hN (by omega) (i4.mp z))]
  obtain ⟨kd, nu, on, fl, ni, m, ce, cs, cr, σ1, p, hon, xo, mo, hC, e1, hTh, hsc⟩ := think_ok h0 hT hF hc
  rw [e1, Option.bind_some, show si_ σ1 (c + 3) 2 = nI on from (hsc.2.i (by simp only [xZ_]; omega)).trans xo, dm_0_10 hM, Option.bind_some, lm_6 hM, ix_r1 c (by omega), Option.bind_some, mo]
  obtain ⟨r, s3, s4, f1, f2, f3, f4⟩ := drawn_go p hN N 0 5000 5000 x1 on σ1 σm (by omega) (by omega) (by omega) hon hTh hC
  exact ⟨r, s3, s4, f1, f2, h0.sc (hsc.trans f3.sc) f4.sc⟩
