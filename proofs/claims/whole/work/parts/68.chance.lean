/-! CHANCE -/
section
variable {kd nu fl ni m c : Nat} {ce cs cr : Cd_}
theorem cb_go (p : Pm_ kd nu fl ni m ce cs cr) {t : Nat} : ∀ (k i g g2 : Nat) (z : Int32) (on : Nat) (σx σm : St_), i + k = 12 → k < g → k < g2 → on < 36 → Th_ σx kd nu fl ni m ce cs cr → Cm_ σm c kd nu fl ni m ce cs cr → ∃ (r : Int32) (σx' σm' : St_), f_X8_comesBy_9 5000 g σx 0 (nI t) (nI on) z (nI i) = some (r, σx') ∧ f_X9_comesBy_18 5000 g2 σm 0 (nI c) (nI t) z (nI on) (nI i) = some (r, σm') ∧ TX_ σx σx' ∧ TM_ σm σm' := by
  intro k
  induction k with
  | zero =>
    intro i g g2 z on σx σm h1 h2 h3 hon hT hC
    obtain ⟨g, rfl⟩ : ∃ g', g = g' + 1 := ⟨g - 1, by omega⟩
    obtain ⟨g2, rfl⟩ : ∃ g', g2 = g' + 1 := ⟨g2 - 1, by omega⟩
    have l : (12 : Int32) ≤ nI i := nI_le (a := 12) (by omega) (by omega)
    rw [u_X8_comesBy_9, u_X9_comesBy_18, if_pos l, if_pos l]
    by_cases y : nI on = nI t
    · rw [if_pos y, if_pos y]; exact ⟨_, _, _, rfl, rfl, TX_.refl hT.1, TM_.refl hC.1⟩
    · rw [if_neg y, if_neg y]; exact ⟨_, _, _, rfl, rfl, TX_.refl hT.1, TM_.refl hC.1⟩
  | succ k ih =>
    intro i g g2 z on σx σm h1 h2 h3 hon hT hC
    obtain ⟨g, rfl⟩ : ∃ g', g = g' + 1 := ⟨g - 1, by omega⟩
    obtain ⟨g2, rfl⟩ : ∃ g', g2 = g' + 1 := ⟨g2 - 1, by omega⟩
    have l : ¬ (12 : Int32) ≤ nI i := nI_ge (b := 12) (by omega) (by omega)
    have u : f_X9_comesBy_18 5000 (g2 + 1) σm 0 (nI c) (nI t) z (nI on) (nI i) = (if (12 : Int32) ≤ nI i then if nI on = nI t then some ((1 : Int32), σm) else some ((0 : Int32), σm) else if nI on = nI t then if nI on = nI t then some ((1 : Int32), σm) else some ((0 : Int32), σm) else (f_X9_goesTo 5000 σm 0 (nI c) (nI on) (f_X8_wordOf (f_X8_drawnAfter z))).bind fun q5 => (f_X9_comesBy_18 5000 g2) q5.2 0 (nI c) (nI t) (f_X8_drawnAfter z) q5.1 (nI i + 1)) := rfl
    rw [u, u_X8_comesBy_9, if_neg l, if_neg l]
    by_cases y : nI on = nI t
    · simp only [if_pos y]; exact ⟨_, _, _, rfl, rfl, TX_.refl hT.1, TM_.refl hC.1⟩
    rw [if_neg y, if_neg y]
    obtain ⟨w, hw, ew⟩ := wd_ok (f_X8_drawnAfter z)
    obtain ⟨s1, e1, t1⟩ := th_goal hT p hon hw
    obtain ⟨s2, e2, t2⟩ := cm_goes hC p hon hw
    rw [dx_0_7 hT.1, Option.bind_some, ew, e1, e2, Option.bind_some, Option.bind_some, nI_1]
    obtain ⟨r, s3, s4, f1, f2, f3, f4⟩ := ih (i + 1) g g2 (f_X8_drawnAfter z) _ s1 s2 (by omega) (by omega) (by omega) (gt_lt kd nu fl ni m ce cs on w hon) (hT.congr t1) (hC.congr t2)
    exact ⟨r, s3, s4, f1, f2, t1.trans f3, t2.trans f4⟩
theorem l20 : ∀ h, h < 21 → lN h + 1 = lN (h + 1) := by decide +kernel
theorem ch_go (p : Pm_ kd nu fl ni m ce cs cr) {t M st : Nat} (hc : c < 4) (hM : M < 21) (hst : st < 36) (x1 x5 : Int32) : ∀ (k i g g2 h : Nat) (σx σm : St_), i + k = M → h ≤ i → k < g → k < g2 → Th_ σx kd nu fl ni m ce cs cr → Cm_ σm c kd nu fl ni m ce cs cr → si_ σx (c + 3) 2 = nI st → si_ σm 6 (3 * c + 1) = nI st → ∃ (H g' g2' : Nat) (σx' σm' : St_), H ≤ M ∧ f_X8_chance_63 5000 g σx 0 x1 (nI M) (nI t) x5 (c + 3) (nI h) (nI i) = f_X8_chance_63 5000 (g' + 1) σx' 0 x1 (nI M) (nI t) x5 (c + 3) (nI H) (nI M) ∧ f_X9_chance_49 5000 g2 σm 0 x1 (nI M) (nI c) (nI t) x5 (lN h) (nI i) = f_X9_chance_49 5000 (g2' + 1) σm' 0 x1 (nI M) (nI c) (nI t) x5 (lN H) (nI M) ∧ TX_ σx σx' ∧ TM_ σm σm' := by
  intro k
  induction k with
  | zero =>
    intro i g g2 h σx σm h1 h4 h2 h3 hT hC xo mo
    obtain ⟨g, rfl⟩ : ∃ g', g = g' + 1 := ⟨g - 1, by omega⟩
    obtain ⟨g2, rfl⟩ : ∃ g', g2 = g' + 1 := ⟨g2 - 1, by omega⟩
    have : i = M := by omega
    subst this
    exact ⟨h, g, g2, σx, σm, h4, rfl, rfl, TX_.refl hT.1, TM_.refl hC.1⟩
  | succ k ih =>
    intro i g g2 h σx σm h1 h4 h2 h3 hT hC xo mo
    obtain ⟨g, rfl⟩ : ∃ g', g = g' + 1 := ⟨g - 1, by omega⟩
    obtain ⟨g2, rfl⟩ : ∃ g', g2 = g' + 1 := ⟨g2 - 1, by omega⟩
    obtain ⟨r, s1, s2, e1, e2, t1, t2⟩ := cb_go p (t := t) 12 0 5000 5000 (x1 + nI i) st σx σm (by omega) (by omega) (by omega) hst hT hC
    have e1' : f_X8_comesBy 5000 σx 0 (x1 + nI i) (nI st) (nI t) = some (r, s1) := e1
    have e2' : f_X9_comesBy 5000 σm 0 (x1 + nI i) (nI c) (nI t) = some (r, s2) := by
      unfold f_X9_comesBy
      rw [dm_0_10 hC.1, Option.bind_some, lm_6 hC.1, ix_r1 c hc, Option.bind_some, mo]
      exact e2
    rw [u_X8_chance_63, u_X9_chance_49, if_neg (nI_ge (by omega) (by omega)), if_neg (nI_ge (by omega) (by omega)), xo, e1', e2', Option.bind_some, Option.bind_some, nI_1, nI_1, l20 h (by omega), Int32.add_zero, Int64.add_zero]
    simp only
    have go := fun h' (hh : h' ≤ i + 1) => ih (i + 1) g g2 h' s1 s2 (by omega) hh (by omega) (by omega) (hT.congr t1) (hC.congr t2) ((t1.2.i (by simp only [xG_]; omega)).trans xo) ((t2.2.i (by simp [mG_])).trans mo)
    by_cases z : r = 0
    · rw [if_pos z, if_pos z]
      obtain ⟨H, g', g2', s3, s4, f0, f1, f2, f3, f4⟩ := go h (by omega)
      exact ⟨H, g', g2', s3, s4, f0, f1, f2, t1.trans f3, t2.trans f4⟩
    · rw [if_neg z, if_neg z]
      obtain ⟨H, g', g2', s3, s4, f0, f1, f2, f3, f4⟩ := go (h + 1) (by omega)
      exact ⟨H, g', g2', s3, s4, f0, f1, f2, t1.trans f3, t2.trans f4⟩
end
def cE_ (M H q : Nat) : Option Int64 := (f_X8_commonDivisor 5000 (nI H) (nI M)).bind fun q2 => if nI q = 0 then if ¬ (if (1 : Int32) < q2 then q2 else (1 : Int32)) = 0 then some ((nI H / (if (1 : Int32) < q2 then q2 else (1 : Int32))).toInt64) else none else if ¬ (if (1 : Int32) < q2 then q2 else (1 : Int32)) = 0 then some ((nI M / (if (1 : Int32) < q2 then q2 else (1 : Int32))).toInt64) else none
theorem ch_end0 : ∀ M, M < 20 → ∀ H, H < M + 2 → ((f_X9_chance_93 5000 5000 e0_ (nI (M + 1)) (nI 0) (lN H) (lN H) (nI (M + 1)).toInt64).map Prod.fst = cE_ (M + 1) H 0 ∧ (cE_ (M + 1) H 0).isSome = true) := by decide +kernel
theorem ch_end1 : ∀ M, M < 20 → ∀ H, H < M + 2 → ((f_X9_chance_93 5000 5000 e0_ (nI (M + 1)) (nI 1) (lN H) (lN H) (nI (M + 1)).toInt64).map Prod.fst = cE_ (M + 1) H 1 ∧ (cE_ (M + 1) H 1).isSome = true) := by decide +kernel
theorem ch_end {M H q : Nat} (hM : M < 21) (h0 : 0 < M) (hH : H ≤ M) (hq : q < 2) : ((f_X9_chance_93 5000 5000 e0_ (nI M) (nI q) (lN H) (lN H) (nI M).toInt64).map Prod.fst = cE_ M H q ∧ (cE_ M H q).isSome = true) := by
  obtain ⟨M, rfl⟩ : ∃ M', M = M' + 1 := ⟨M - 1, by omega⟩
  have : q = 0 ∨ q = 1 := by omega
  rcases this with rfl | rfl
  · exact ch_end0 M (by omega) H (by omega)
  · exact ch_end1 M (by omega) H (by omega)
theorem c93 (fu : Nat) (σ : St_) (a b : Int32) (v : Int64) : ∀ (g : Nat) (d e : Int64), f_X9_chance_93 fu g σ a b v d e = ((f_X9_chance_93 fu g e0_ a b v d e).map Prod.fst).map fun r => (r, σ) := by
  intro g
  induction g with
  | zero => intro d e; rfl
  | succ g ih =>
    intro d e
    rw [u_X9_chance_93, u_X9_chance_93]
    by_cases z : lg_cmp e 0 = 0
    · rw [if_pos z, if_pos z]
      by_cases y : b = 0
      · rw [if_pos y, if_pos y]
        by_cases x : ¬ d = 0
        · rw [if_pos x, if_pos x]; rfl
        · rw [if_neg x, if_neg x]; rfl
      · rw [if_neg y, if_neg y]
        by_cases x : ¬ d = 0
        · rw [if_pos x, if_pos x]; rfl
        · rw [if_neg x, if_neg x]; rfl
    · rw [if_neg z, if_neg z]
      by_cases x : ¬ e = 0
      · rw [if_pos x, if_pos x]; exact ih _ _
      · rw [if_neg x, if_neg x]; rfl
theorem m20 (x : Int32) : (f_X9_in x.toInt64 1 20 = 0 ∧ (f_X8_isBelow x (nI 21) = 0 ∨ x = 0)) ∨ ∃ M, 0 < M ∧ M < 21 ∧ x = nI M ∧ ¬ f_X9_in x.toInt64 1 20 = 0 := by
  rcases bel_c x (n := 21) (by omega) with h | ⟨j, hj, rfl⟩
  · refine Or.inl ⟨in_0.mpr ?_, Or.inl h⟩
    rw [Int64.lt_iff_toInt_lt, Int64.lt_iff_toInt_lt, Int32.toInt_toInt64]
    have e1 : (1 : Int64).toInt = 1 := rfl
    have e2 : (20 : Int64).toInt = 20 := rfl
    rcases bel_0.mp h with z | z
    · rw [lt_i] at z
      have e3 : (0 : Int32).toInt = 0 := rfl
      left; omega
    · rw [le_i, nI_toInt (by omega)] at z
      right; omega
  · rcases Nat.eq_zero_or_pos j with z | z
    · subst z
      exact Or.inl ⟨by decide +kernel, Or.inr rfl⟩
    · exact Or.inr ⟨j, z, hj, rfl, (show ∀ j, j < 21 → 0 < j → ¬ f_X9_in (nI j).toInt64 1 20 = 0 by decide +kernel) j hj z⟩
theorem sim_chance : Sim_chance Rel_ := by
  intro σx σm h x1 x2 x3 x4 x5
  show ∃ (r : Int64) (σx' : St_) (σm' : St_), f_X8_chance 5000 σx 0 x1 x2 x3 x4 x5 = some (r, σx') ∧ f_X9_chance 5000 σm 0 x1 x2 x3 x4 x5 = some (r, σm') ∧ Rel_ σx' σm'
  have h0 := h
  obtain ⟨hX, hM, tc, n, hT, hF, hK, hP, hS⟩ := h
  have hn := hF.1
  have c1 := hF.2.1
  have c2 := hF.2.2.1
  have hone := one_b hn c2 x3
  have i5 := in_c (x := x5) (n := 1) (1 : Int64) rfl (by omega)
  unfold f_X8_chance f_X9_chance
  rw [dx_0_0 hX, Option.bind_some]
  rcases bel_c x3 (n := n) (by omega) with b1 | ⟨c, hc, rfl⟩
  · rw [car_n hX hn c1 x3 b1, if_pos (hone.mpr b1)]
    exact ⟨_, _, _, rfl, rfl, h0⟩
  rw [car_s hX hn c1 hc, Option.bind_some, if_neg (fun z => bel_n hc (by omega) (hone.mp z))]
  simp only [oc_]
  rw [if_pos (hX.car (by omega)).2]
  rcases bel_c x4 (n := 36) (by omega) with b | ⟨t, ht, rfl⟩
  · rw [if_pos (show f_X8_isBelow x4 36 = 0 from b), if_pos ((isC_c _).mpr b)]
    exact ⟨_, _, _, rfl, rfl, h0⟩
  rw [if_neg (show ¬ f_X8_isBelow (nI t) 36 = 0 from bel_n (n := 36) ht (by omega)), if_neg (fun z => bel_n ht (by omega) ((isC_c _).mp z))]
  rcases m20 x2 with ⟨b, b'⟩ | ⟨M, m1, m2, rfl, b⟩
  · rw [if_pos b]
    refine ⟨_, σx, σm, ?_, rfl, h0⟩
    rcases b' with b' | b'
    · rw [if_pos (show f_X8_isBelow x2 21 = 0 from b')]
    · by_cases z : f_X8_isBelow x2 21 = 0
      · rw [if_pos z]
      · rw [if_neg z, if_pos b']
  rw [if_neg b, if_neg (show ¬ f_X8_isBelow (nI M) 21 = 0 from bel_n (n := 21) m2 (by omega)), if_neg (nI_ne0 m1 (by omega))]
  rcases bel_c x5 (n := 2) (by omega) with b | ⟨q, hq, rfl⟩
  · rw [if_pos (show f_X8_isBelow x5 2 = 0 from b), if_pos (i5.mpr b)]
    exact ⟨_, _, _, rfl, rfl, h0⟩
  rw [if_neg (show ¬ f_X8_isBelow (nI q) 2 = 0 from bel_n (n := 2) hq (by omega)), if_neg (fun z => bel_n hq (by omega) (i5.mp z))]
  obtain ⟨kd, nu, on, fl, ni, m, ce, cs, cr, σ1, p, hon, xo, mo, hC, e1, hTh, hsc⟩ := think_ok h0 hT hF hc
  rw [e1, Option.bind_some]
  have xo1 : si_ σ1 (c + 3) 2 = nI on := (hsc.2.i (by simp only [xZ_]; omega)).trans xo
  obtain ⟨H, g', g2', s3, s4, f0, f1, f2, f3, f4⟩ := ch_go p (t := t) (by omega) m2 hon x1 (nI q) M 0 5000 5000 0 σ1 σm (by omega) (by omega) (by omega) (by omega) hTh hC xo1 mo
  have f1' : f_X8_chance_63 5000 5000 σ1 0 x1 (nI M) (nI t) (nI q) (c + 3) 0 0 = _ := f1
  have f2' : f_X9_chance_49 5000 5000 σm 0 x1 (nI M) (nI c) (nI t) (nI q) 0 0 = _ := f2
  rw [f1', f2', u_X8_chance_63, u_X9_chance_49, if_pos (nI_le (Nat.le_refl _) (by omega)), if_pos (nI_le (Nat.le_refl _) (by omega)), c93]
  obtain ⟨k1, k2⟩ := ch_end m2 m1 f0 hq
  rw [k1]
  unfold cE_ at k2 ⊢
  rcases hd : f_X8_commonDivisor 5000 (nI H) (nI M) with _ | d
  · rw [hd] at k2; simp at k2
  rw [hd, Option.bind_some] at k2
  rw [Option.bind_some, Option.bind_some]
  by_cases y : nI q = 0
  · rw [if_pos y] at k2 ⊢
    rw [if_pos y]
    by_cases x : ¬ (if (1 : Int32) < d then d else (1 : Int32)) = 0
    · rw [if_pos x, if_pos x]
      exact ⟨_, _, _, rfl, rfl, h0.sc (hsc.trans f3.sc) f4.sc⟩
    · rw [if_neg x] at k2; simp at k2
  · rw [if_neg y] at k2 ⊢
    rw [if_neg y]
    by_cases x : ¬ (if (1 : Int32) < d then d else (1 : Int32)) = 0
    · rw [if_pos x, if_pos x]
      exact ⟨_, _, _, rfl, rfl, h0.sc (hsc.trans f3.sc) f4.sc⟩
    · rw [if_neg x] at k2; simp at k2
