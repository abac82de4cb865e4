/-! a carpet is laid -/
theorem lay_ok {σx σm : St_} (h : Rel_ σx σm) (x1 x2 x3 : Int32) : ∃ (r : Int32) (σx' σm' : St_), f_X8_lay σx 0 x1 x2 x3 = some (r, σx') ∧ f_X9_carpet σm 0 x1 x2 x3 = some (r, σm') ∧ Rel_ σx' σm' ∧ Fr_ (fun r _ => 7 ≤ r) σx σx' ∧ Fr_ (fun r _ => 7 ≤ r) σm σm' := by
  have h0 := h
  obtain ⟨hX, hM, tc, n, hT, hF, hK, hP, hS⟩ := h
  obtain ⟨hn, c1, c2, ⟨ni, hni, n1, n2⟩, ⟨t, ht, r1, r2⟩, ⟨m, hm, w1, w2⟩, hca⟩ := hF
  unfold f_X8_lay f_X9_carpet f_X9_isCell
  have i1 := in_c (x := x1) (n := 5) (5 : Int64) rfl (by omega)
  have i2 := in_c (x := x2) (n := 9) (9 : Int64) rfl (by omega)
  have i3 := in_c (x := x3) (n := 35) (35 : Int64) rfl (by omega)
  rcases bel_c x1 (n := 6) (by omega) with b1 | ⟨k, hk, rfl⟩
  · exact ⟨-2, σx, σm, by rw [if_pos (show f_X8_isBelow x1 6 = 0 from b1)], by rw [if_pos (i1.mpr b1)], h0, Fr_.refl _ _, Fr_.refl _ _⟩
  have q1 : ¬ f_X8_isBelow (nI k) 6 = 0 := bel_n (n := 6) hk (by omega)
  rcases bel_c x2 (n := 10) (by omega) with b2 | ⟨nu, hnu, rfl⟩
  · exact ⟨-2, σx, σm, by rw [if_neg q1, if_pos (show f_X8_isBelow x2 10 = 0 from b2)], by rw [if_neg (fun z => q1 (i1.mp z)), if_pos (i2.mpr b2)], h0, Fr_.refl _ _, Fr_.refl _ _⟩
  have q2 : ¬ f_X8_isBelow (nI nu) 10 = 0 := bel_n (n := 10) hnu (by omega)
  rcases bel_c x3 (n := 36) (by omega) with b3 | ⟨on, hon, rfl⟩
  · exact ⟨-2, σx, σm, by rw [if_neg q1, if_neg q2, if_pos (show f_X8_isBelow x3 36 = 0 from b3)], by rw [if_neg (fun z => q1 (i1.mp z)), if_neg (fun z => q2 (i2.mp z)), if_pos (i3.mpr b3)], h0, Fr_.refl _ _, Fr_.refl _ _⟩
  have q3 : ¬ f_X8_isBelow (nI on) 36 = 0 := bel_n (n := 36) hon (by omega)
  rw [if_neg q1, if_neg q2, if_neg q3, if_neg (fun z => q1 (i1.mp z)), if_neg (fun z => q2 (i2.mp z)), if_neg (fun z => q3 (i3.mp z)), dx_0_0 hX, Option.bind_some, c2]
  unfold f_X1_add
  rw [dx_1_0 hX, Option.bind_some, lx_2 hX, c1]
  by_cases h4 : n = 4
  · subst h4
    rw [if_pos (show f_X8_isBelow (nI 4) (nI 4) = 0 by decide +kernel), if_pos (show nI 4 = 4 from rfl)]
    exact ⟨_, _, _, rfl, rfl, h0, Fr_.refl _ _, Fr_.refl _ _⟩
  have hn4 : n < 4 := by omega
  rw [if_neg (bel_n hn4 (by omega)), if_neg (fun z => by have := (nI_eq (b := 4) (by omega) (by omega)).mp z; omega), ix_ok hn4 (by omega), Option.bind_some, (hX.car hn4).1, Option.bind_some, Option.bind_some, dm_0_9 hM, Option.bind_some, lm_5 hM, ix_ok hn4 (by omega), Option.bind_some]
  have e1 : si_ (ui_ σm 5 n (nI k)) 0 11 = nI n := c2
  have d1 : dr_ (ui_ σm 5 n (nI k)) 10 (sr_ (ui_ σm 5 n (nI k)) 0 10) = some 6 := dm_0_10 hM
  have l1 : ln_ (ui_ σm 5 n (nI k)) 6 = 12 := lm_6 hM
  rw [d1, Option.bind_some, e1, l1, ix_r0 n hn4, Option.bind_some]
  have e2 : si_ (ui_ (ui_ σm 5 n (nI k)) 6 (3 * n) (nI nu)) 0 11 = nI n := c2
  have l2 : ln_ (ui_ (ui_ σm 5 n (nI k)) 6 (3 * n) (nI nu)) 6 = 12 := lm_6 hM
  rw [e2, l2, ix_r1 n hn4, Option.bind_some]
  have e3 : si_ (ui_ (ui_ (ui_ σm 5 n (nI k)) 6 (3 * n) (nI nu)) 6 (3 * n + 1) (nI on)) 0 11 = nI n := c2
  have l3 : ln_ (ui_ (ui_ (ui_ σm 5 n (nI k)) 6 (3 * n) (nI nu)) 6 (3 * n + 1) (nI on)) 6 = 12 := lm_6 hM
  rw [e3, l3, ix_r2 n hn4, Option.bind_some]
  have e4 : si_ (ui_ (ui_ (ui_ (ui_ σm 5 n (nI k)) 6 (3 * n) (nI nu)) 6 (3 * n + 1) (nI on)) 6 (3 * n + 2) 0) 0 11 = nI n := c2
  rw [e4, nI_1]
  have x1 : si_ (f_X0_become σx (n + 3) (nI k) (nI nu) (nI on) 0) 1 1 = nI n := by
    unfold f_X0_become
    rw [g_si_ne (by omega), g_si_ne (by omega), g_si_ne (by omega), g_si_ne (by omega), c1]
  rw [x1, nI_1]
  have y1 : si_ (ui_ (f_X0_become σx (n + 3) (nI k) (nI nu) (nI on) 0) 1 1 (nI (n + 1))) 1 1 = nI (n + 1) := by rw [si_ui, upd_g, if_pos rfl]
  have y2 : si_ (ui_ (ui_ (ui_ (ui_ (ui_ σm 5 n (nI k)) 6 (3 * n) (nI nu)) 6 (3 * n + 1) (nI on)) 6 (3 * n + 2) 0) 0 11 (nI (n + 1))) 0 11 = nI (n + 1) := by rw [si_ui, upd_g, if_pos rfl]
  rw [y1, y2, nI_pred]
  have fx : ∀ P : Nat → Nat → Prop, (∀ a, ¬ P (n + 3) a) → ¬ P 1 1 → Fr_ P σx (ui_ (f_X0_become σx (n + 3) (nI k) (nI nu) (nI on) 0) 1 1 (nI (n + 1))) := fun P h1 h2 => by
    unfold f_X0_become
    exact Fr_.ui (Fr_.ui (Fr_.ui (Fr_.ui (Fr_.ui (Fr_.refl _ _) _ _ _ (h1 _)) _ _ _ (h1 _)) _ _ _ (h1 _)) _ _ _ (h1 _)) _ _ _ h2
  have fm : ∀ P : Nat → Nat → Prop, ¬ P 5 n → (∀ a, ¬ P 6 a) → ¬ P 0 11 → Fr_ P σm (ui_ (ui_ (ui_ (ui_ (ui_ σm 5 n (nI k)) 6 (3 * n) (nI nu)) 6 (3 * n + 1) (nI on)) 6 (3 * n + 2) 0) 0 11 (nI (n + 1))) := fun P h0 h1 h2 =>
    Fr_.ui (Fr_.ui (Fr_.ui (Fr_.ui (Fr_.ui (Fr_.refl _ _) _ _ _ h0) _ _ _ (h1 _)) _ _ _ (h1 _)) _ _ _ (h1 _)) _ _ _ h2
  refine ⟨nI n, _, _, rfl, rfl, ⟨hX, hM, tc, n + 1, ?_, ?_, ?_, ?_, ?_⟩, fx _ (fun _ => by omega) (by omega), fm _ (by omega) (fun _ => by omega) (by omega)⟩
  · exact hT.congr (fx _ (fun _ => by simp [xT_]; omega) (by simp [xT_])) (fm _ (by simp [mT_]) (fun _ => by simp [mT_]) (by simp [mT_]))
  · refine ⟨by omega, y1, y2, ⟨ni, hni, ?_, n2⟩, ⟨t, ht, ?_, r2⟩, ⟨m, hm, w1, w2⟩, fun i hi => ?_⟩
    · exact ((fx (fun r k => r = 1 ∧ k ≠ 1) (fun _ => by omega) (by omega)).i (r := 1) (k := 2) (by omega)).trans n1
    · exact ((fx (fun r k => r = 1 ∧ k ≠ 1) (fun _ => by omega) (by omega)).i (r := 1) (k := 3) (by omega)).trans r1
    · by_cases hin : i = n
      · subst hin
        refine ⟨k, nu, on, 0, hk, hnu, hon, by omega, ?_, ?_, ?_, ?_, ?_, ?_, ?_, ?_⟩
        · show si_ (ui_ (f_X0_become σx (i + 3) (nI k) (nI nu) (nI on) 0) 1 1 (nI (i + 1))) (i + 3) 0 = _
          rw [g_si_ne (by omega)]; unfold f_X0_become; simp [g_si_ui]
        · show si_ (ui_ (f_X0_become σx (i + 3) (nI k) (nI nu) (nI on) 0) 1 1 (nI (i + 1))) (i + 3) 1 = _
          rw [g_si_ne (by omega)]; unfold f_X0_become; simp [g_si_ui]
        · show si_ (ui_ (f_X0_become σx (i + 3) (nI k) (nI nu) (nI on) 0) 1 1 (nI (i + 1))) (i + 3) 2 = _
          rw [g_si_ne (by omega)]; unfold f_X0_become; simp [g_si_ui]
        · show si_ (ui_ (f_X0_become σx (i + 3) (nI k) (nI nu) (nI on) 0) 1 1 (nI (i + 1))) (i + 3) 3 = _
          rw [g_si_ne (by omega)]; unfold f_X0_become; simp [g_si_ui]; rfl
        · simp [g_si_ui]
        · simp [g_si_ui]
        · simp [g_si_ui]
        · simp [g_si_ui]; rfl
      · refine (hca i (by omega)).congr (fun k _ => ?_) ?_ (fun k hk => ?_)
        · exact (fx (fun r k => r = i + 3) (fun _ => by omega) (by omega)).i (r := i + 3) rfl
        · exact (fm (fun r k => r = 5 ∧ k ≠ n) (by omega) (fun _ => by omega) (by omega)).i (r := 5) ⟨rfl, hin⟩
        · simp [g_si_ui, show ¬ 3 * i + k = 3 * n + 2 by omega, show ¬ 3 * i + k = 3 * n + 1 by omega, show ¬ 3 * i + k = 3 * n by omega]
  · rcases hK with ⟨k1, k2⟩ | ⟨k1, kn, k2, k3⟩
    · exact Or.inl ⟨((fx (fun r k => r = 0) (fun _ => by omega) (by omega)).i rfl).trans k1, k2⟩
    · refine Or.inr ⟨((fx (fun r k => r = 0) (fun _ => by omega) (by omega)).i rfl).trans k1, kn, by omega, ?_⟩
      obtain ⟨z1, z2, z3, ⟨v, v1, v2, v3⟩, ⟨t, t1, t2, t3⟩, ⟨m, m1, m2, m3⟩, z7⟩ := k3
      have f7 := fx (fun r k => 7 ≤ r) (fun _ => by omega) (by omega)
      refine ⟨z1, (f7.i (by omega)).trans z2, z3, ⟨v, v1, (f7.i (by omega)).trans v2, v3⟩, ⟨t, t1, (f7.i (by omega)).trans t2, t3⟩, ⟨m, m1, m2, m3⟩, fun i hi => (z7 i hi).congr (fun k _ => (f7.i (r := i + 9) (by omega))) ?_ (fun _ _ => rfl)⟩
      exact (fm (fun r k => r = 5 ∧ k ≠ n) (by omega) (fun _ => by omega) (by omega)).i (r := 5) ⟨rfl, by omega⟩
  · exact hP.congr (fx _ (fun _ => by simp [xP_]; omega) (by simp [xP_])) (fm _ (by simp [mP_]) (fun _ => by simp [mP_]) (by simp [mP_]))
  · exact hS.congr (fx _ (fun _ => by simp [xS_]; omega) (by simp [xS_])) (fm _ (by simp [mS_]) (fun _ => by simp [mS_]) (by simp [mS_]))
theorem sim_carpet : Sim_carpet Rel_ := by
  intro σx σm h x1 x2 x3
  obtain ⟨r, a, b, e1, e2, e3, -, -⟩ := lay_ok h x1 x2 x3
  exact ⟨r, a, b, by unfold f_X8_carpet; rw [e1]; rfl, e2, e3⟩
