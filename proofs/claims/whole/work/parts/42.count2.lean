/-! COUNT -/
theorem ct53 (fu : Nat) {σ : St_} (hM : ShM_ σ) {m : Nat} (hw : ∀ c, c < 36 → si_ σ 4 c = if m.testBit c then 1 else 0) : ∀ (k i fuel : Nat), i + k = 36 → k < fuel → f_X9_count_53 fu σ fuel 0 1 (nI (cs_ m i)) (nI i) = f_X9_count_81 fu σ fu 0 1 (nI (cs_ m 36)) 0 := by
  intro k
  induction k with
  | zero =>
    intro i fuel hi hf
    obtain ⟨g, rfl⟩ : ∃ g, fuel = g + 1 := ⟨fuel - 1, by omega⟩
    have : i = 36 := by omega
    subst this
    rfl
  | succ k ih =>
    intro i fuel hi hf
    obtain ⟨g, rfl⟩ : ∃ g, fuel = g + 1 := ⟨fuel - 1, by omega⟩
    show (if (36 : Int32) ≤ nI i then _ else if (1 : Int32) = (1 : Int32) then (dr_ σ 10 (sr_ σ 0 8)).bind fun b3 => (ix_ (nI i) (ln_ σ b3)).bind fun j4 => (f_X9_count_53 fu σ g) 0 1 (nI (cs_ m i) + (si_ σ b3 j4)) (nI i + (1 : Int32)) else _) = _
    rw [if_neg (show ¬ (36 : Int32) ≤ nI i from nI_ge (b := 36) (by omega) (by omega)), if_pos rfl, dm_0_8 hM, Option.bind_some, lm_4 hM, ix_ok (by omega) (by omega), Option.bind_some, hw i (by omega), nI_1]
    have e : nI (cs_ m i) + (if m.testBit i then 1 else 0) = nI (cs_ m (i + 1)) := by
      show _ = nI (cs_ m i + m / 2 ^ i % 2)
      rw [tb_d, ← nI_add]
      congr 1
      by_cases h : m.testBit i
      · rw [if_pos h, if_pos h]; rfl
      · rw [if_neg h, if_neg h]; rfl
    rw [e, ih (i + 1) g (by omega) (by omega)]
theorem ct81 (fu g : Nat) (σ : St_) (v : Int32) : f_X9_count_81 fu σ (g + 1) 0 1 v 0 = some v := by
  show (if si_ σ 0 11 ≤ 0 then if (1 : Int32) = 0 then _ else some v else if (1 : Int32) = (2 : Int32) then _ else if (1 : Int32) = 0 then _ else some v) = _
  by_cases h : si_ σ 0 11 ≤ 0
  · rw [if_pos h, if_neg (by decide)]
  · rw [if_neg h, if_neg (by decide), if_neg (by decide)]
/-- how many have flown -/
theorem fl_go (fu fu2 : Nat) {σx σm : St_} (hX : ShX_ σx) (hM : ShM_ σm) {n : Nat} (hn : n ≤ 4) (c1 : si_ σx 1 1 = nI n) (c2 : si_ σm 0 11 = nI n) (hca : ∀ i, i < n → si_ σx (i + 3) 3 = si_ σm 6 (3 * i + 2)) : ∀ (k i g h : Nat) (v : Int32), i + k = n → k < g → k < h → ∃ r, f_X1_flownCount_4 fu σx g 1 v (nI i) = some r ∧ f_X9_count_81 fu2 σm h 0 2 v (nI i) = some r := by
  intro k
  induction k with
  | zero =>
    intro i g h v hi hg hh
    obtain ⟨g, rfl⟩ : ∃ g', g = g' + 1 := ⟨g - 1, by omega⟩
    obtain ⟨h, rfl⟩ : ∃ h', h = h' + 1 := ⟨h - 1, by omega⟩
    have e : nI n ≤ nI i := nI_le (by omega) (by omega)
    refine ⟨v, ?_, ?_⟩
    · show (if si_ σx 1 1 ≤ nI i then some v else _) = _
      rw [c1, if_pos e]
    · show (if si_ σm 0 11 ≤ nI i then if (2 : Int32) = 0 then _ else some v else _) = _
      rw [c2, if_pos e, if_neg (by decide)]
  | succ k ih =>
    intro i g h v hi hg hh
    obtain ⟨g, rfl⟩ : ∃ g', g = g' + 1 := ⟨g - 1, by omega⟩
    obtain ⟨h, rfl⟩ : ∃ h', h = h' + 1 := ⟨h - 1, by omega⟩
    have e : ¬ nI n ≤ nI i := nI_ge (by omega) (by omega)
    obtain ⟨r, r1, r2⟩ := ih (i + 1) g h (v + si_ σm 6 (3 * i + 2)) (by omega) (by omega) (by omega)
    refine ⟨r, ?_, ?_⟩
    · show (if si_ σx 1 1 ≤ nI i then some v else (dr_ σx 13 (sr_ σx 1 0)).bind fun b2 => if (nI (ln_ σx b2)) ≤ nI i then some v else (ix_ (nI i) (ln_ σx b2)).bind fun j4 => (dr_ σx 0 (sr_ σx b2 j4)).bind fun b5 => (f_X1_flownCount_4 fu σx g) 1 (v + (si_ σx b5 3)) (nI i + (1 : Int32))) = _
      rw [c1, if_neg e, dx_1_0 hX, Option.bind_some, lx_2 hX, if_neg (nI_ge (by omega) (by omega)), ix_ok (by omega) (by omega), Option.bind_some, (hX.car (by omega)).1, Option.bind_some, hca i (by omega), nI_1, r1]
    · show (if si_ σm 0 11 ≤ nI i then _ else if (2 : Int32) = (2 : Int32) then (dr_ σm 10 (sr_ σm 0 10)).bind fun b5 => (ix_ (((3 : Int32) * nI i) + (2 : Int32)) (ln_ σm b5)).bind fun j6 => (f_X9_count_81 fu2 σm h) 0 2 (v + (si_ σm b5 j6)) (nI i + (1 : Int32)) else _) = _
      rw [c2, if_neg e, if_pos rfl, dm_0_10 hM, Option.bind_some, lm_6 hM, ix_r2 i (by omega), Option.bind_some, nI_1, r2]
theorem ct53_0 (fu g : Nat) (σ : St_) (x v : Int32) (h : ¬ x = 1) : f_X9_count_53 fu σ (g + 1) 0 x v 0 = f_X9_count_81 fu σ fu 0 x v 0 := by
  exact if_neg h
theorem sim_count : Sim_count Rel_ := by
  intro σx σm h x
  have h0 := h
  obtain ⟨hX, hM, tc, n, hT, hF, hK, hP, hS⟩ := h
  obtain ⟨hn, c1, c2, ⟨ni, hni, n1, n2⟩, ⟨t, ht, r1, r2⟩, ⟨m, hm, w1, w2⟩, hca⟩ := hF
  obtain ⟨k, hk, e1, e2, hj⟩ := hP
  have hin := in_c (x := x) (n := 5) (5 : Int64) rfl (by omega)
  rcases bel_c x (n := 6) (by omega) with hb | ⟨xc, hxc, rfl⟩
  · have q0 : ¬ x = 0 := fun e => by rw [e] at hb; exact absurd hb (by decide +kernel)
    have q1 : ¬ x = 1 := fun e => by rw [e] at hb; exact absurd hb (by decide +kernel)
    have q2 : ¬ x = 2 := fun e => by rw [e] at hb; exact absurd hb (by decide +kernel)
    have q3 : ¬ x = 3 := fun e => by rw [e] at hb; exact absurd hb (by decide +kernel)
    have q4 : ¬ x = 4 := fun e => by rw [e] at hb; exact absurd hb (by decide +kernel)
    have q5 : ¬ x = 5 := fun e => by rw [e] at hb; exact absurd hb (by decide +kernel)
    refine ⟨-2, ?_, ?_, h0⟩
    · unfold f_X8_count
      rw [if_neg q0, if_neg q1, if_neg q2, if_neg q3, if_neg q4, if_neg q5]
    · unfold f_X9_count
      rw [if_pos (hin.mpr hb)]
  have hnb := fun z => bel_n hxc (by omega) (hin.mp z)
  have a : xc = 0 ∨ xc = 1 ∨ xc = 2 ∨ xc = 3 ∨ xc = 4 ∨ xc = 5 := by omega
  rcases a with rfl | rfl | rfl | rfl | rfl | rfl
  · refine ⟨nI n, ?_, ?_, h0⟩
    · unfold f_X8_count
      rw [if_pos (show nI 0 = 0 from rfl), dx_0_0 hX, Option.bind_some, c1]
    · unfold f_X9_count
      rw [if_neg hnb, if_pos (by decide)]
      show f_X9_count_53 FU_ σm (4999 + 1) 0 (nI 0) 0 0 = _
      rw [ct53_0 _ _ _ _ _ (by decide)]
      show (if si_ σm 0 11 ≤ 0 then if nI 0 = 0 then some (si_ σm 0 11) else _ else if nI 0 = (2 : Int32) then _ else if nI 0 = 0 then some (si_ σm 0 11) else _) = _
      rw [if_pos (show nI 0 = 0 from rfl), if_neg (show ¬ nI 0 = (2 : Int32) by decide), c2]
      by_cases z : nI n ≤ 0
      · rw [if_pos z]
      · rw [if_neg z]
  · refine ⟨nI (cs_ m 36), ?_, ?_, h0⟩
    · unfold f_X8_count
      rw [if_neg (show ¬ nI 1 = 0 by decide), if_pos (show nI 1 = 1 from rfl), dx_0_0 hX, Option.bind_some, w1, bc_ok m hm]
    · unfold f_X9_count
      rw [if_neg hnb, if_pos (by decide)]
      have := ct53 FU_ hM w2 36 0 FU_ (by omega) (by unfold FU_; omega)
      exact this.trans (ct81 FU_ 4999 σm _)
  · obtain ⟨r, r1, r2⟩ := fl_go FU_ FU_ hX hM hn c1 c2 (fun i hi => by obtain ⟨kd, nu, on, fl, a1, a2, a3, a4, b1, b2, b3, b4, b5, b6, b7, b8⟩ := hca i hi; exact b4.trans b8.symm) n 0 FU_ FU_ 0 (by omega) (by unfold FU_; omega) (by unfold FU_; omega)
    refine ⟨r, ?_, ?_, h0⟩
    · unfold f_X8_count f_X1_flownCount
      rw [if_neg (show ¬ nI 2 = 0 by decide), if_neg (show ¬ nI 2 = 1 by decide), if_pos (show nI 2 = 2 from rfl), dx_0_0 hX, Option.bind_some, show (0 : Int32) = nI 0 from rfl, show nI 0 = 0 from rfl]
      have r1' : f_X1_flownCount_4 FU_ σx FU_ 1 0 0 = some r := r1
      rw [r1', Option.bind_some]
    · unfold f_X9_count
      rw [if_neg hnb, if_pos (by decide)]
      show f_X9_count_53 FU_ σm (4999 + 1) 0 (nI 2) 0 0 = _
      rw [ct53_0 _ _ _ _ _ (by decide)]
      exact r2
  · exact ⟨nI tc, by unfold f_X8_count; rw [if_neg (by decide), if_neg (by decide), if_neg (by decide), if_pos (show nI 3 = 3 from rfl), hT.2.2.1], by unfold f_X9_count; rw [if_neg hnb, if_neg (by decide), if_pos (show nI 3 = 3 from rfl), hT.2.2.2.1], h0⟩
  · exact ⟨nI k, by unfold f_X8_count; rw [if_neg (by decide), if_neg (by decide), if_neg (by decide), if_neg (by decide), if_pos (show nI 4 = 4 from rfl), dx_0_3 hX, Option.bind_some, e1], by unfold f_X9_count; rw [if_neg hnb, if_neg (by decide), if_neg (by decide), if_pos (show nI 4 = 4 from rfl), e2], h0⟩
  · exact ⟨nI t, by unfold f_X8_count; rw [if_neg (by decide), if_neg (by decide), if_neg (by decide), if_neg (by decide), if_neg (by decide), if_pos (show nI 5 = 5 from rfl), dx_0_0 hX, Option.bind_some, r1], by unfold f_X9_count; rw [if_neg hnb, if_neg (by decide), if_neg (by decide), if_neg (by decide), r2], h0⟩
