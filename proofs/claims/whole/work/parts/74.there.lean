/-! THERE, FURTHEST -/
def Mg_ (G : Nat → Nat → Nat) (σ : St_) (c : Nat) : Prop := ∃ (kd nu fl ni m : Nat) (ce cs cr : Cd_), Pm_ kd nu fl ni m ce cs cr ∧ G = gt_ kd nu fl ni m ce cs ∧ Cm_ σ c kd nu fl ni m ce cs cr
theorem Mg_.lt {G : Nat → Nat → Nat} {σ : St_} {c : Nat} (h : Mg_ G σ c) : ∀ u w, u < 36 → w < 8 → G u w < 36 := by
  obtain ⟨kd, nu, fl, ni, m, ce, cs, cr, p, rfl, t⟩ := h
  exact fun u w hu _ => gt_lt kd nu fl ni m ce cs u w hu
theorem Mg_.sh {G : Nat → Nat → Nat} {σ : St_} {c : Nat} (h : Mg_ G σ c) : ShM_ σ := by
  obtain ⟨kd, nu, fl, ni, m, ce, cs, cr, p, rfl, t⟩ := h
  exact t.1
theorem Mg_.tab {G : Nat → Nat → Nat} {σ : St_} {c a : Nat} (h : Mg_ G σ c) (ha : a = 7 ∨ a = 8) : ∃ σ', f_X9_tables 5000 σ 0 (nI c) a = some σ' ∧ Zt_ a σ σ' ∧ Tb_ σ' a G := by
  obtain ⟨kd, nu, fl, ni, m, ce, cs, cr, p, rfl, t⟩ := h
  obtain ⟨σ', e, z, -, tb⟩ := tab_ok p ha t
  exact ⟨σ', e, z, tb⟩
theorem Mg_.sc {G : Nat → Nat → Nat} {σ σ' : St_} {c : Nat} (h : Mg_ G σ c) (t : ScM_ σ σ') : Mg_ G σ' c := by
  obtain ⟨kd, nu, fl, ni, m, ce, cs, cr, p, e, h⟩ := h
  exact ⟨kd, nu, fl, ni, m, ce, cs, cr, p, e, h.sc t⟩
theorem xpl_n {σ : St_} (hX : ShX_ σ) {n : Nat} (hn : n ≤ 4) (c1 : si_ σ 1 1 = nI n) (b : Nat) (x : Int32) (hx : f_X8_isBelow x (nI n) = 0) : f_X8_explore 5000 σ 0 b x = some (0, σ) := by
  unfold f_X8_explore
  rw [dx_0_0 hX, Option.bind_some, car_n hX hn c1 x hx]
  rfl
theorem xpl_s {σx σm : St_} (h0 : Rel_ σx σm) {tc n : Nat} (hT : RT_ σx σm tc) (hF : RF_ σx σm tc n) {c b : Nat} (hc : c < n) (hb : b = 24 ∨ b = 30) : ∃ (G : Nat → Nat → Nat) (s N : Nat) (q K L : Nat → Nat) (σ1 σ' : St_), s < 36 ∧ f_X8_explore 5000 σx 0 b (nI c) = some (1, σ') ∧ f_X8_think σx 0 (c + 3) = some σ1 ∧ Xb_ b σ1 σ' ∧ ScX_ σx σ' ∧ Wz_ σ' b G s N q K L ∧ si_ σm 6 (3 * c + 1) = nI s ∧ Mg_ G σm c := by
  have hX := h0.1
  have hn := hF.1
  obtain ⟨kd, nu, on, fl, ni, m, ce, cs, cr, σ1, p, hon, xo, mo, hC, eT, hTh, hsc⟩ := think_ok h0 hT hF hc
  have xo1 : si_ σ1 (c + 3) 2 = nI on := (hsc.2.i (by simp only [xZ_]; omega)).trans xo
  obtain ⟨σ', N, q, K, L, e, X, hW⟩ := ex_ok hb (G := gt_ kd nu fl ni m ce cs) (s := on) ⟨kd, nu, fl, ni, m, ce, cs, cr, p, rfl, hTh⟩ hon
  refine ⟨_, on, N, q, K, L, σ1, σ', hon, ?_, eT, X, hsc.trans (X.sc hb), hW, mo, kd, nu, fl, ni, m, ce, cs, cr, p, rfl, hC⟩
  unfold f_X8_explore
  rw [dx_0_0 hX, Option.bind_some, car_s hX hn hF.2.1 hc, Option.bind_some]
  simp only [oc_]
  rw [if_pos (hX.car (by omega)).2, eT, Option.bind_some, dx_0_7 hsc.1, Option.bind_some, xo1, e, Option.bind_some]
section
variable {G : Nat → Nat → Nat} {b s N : Nat} {q K L : Nat → Nat} {σ : St_}
theorem Wz_.row (h : Wz_ σ b G s N q K L) (c : Nat) : (∃ j, j < N ∧ q j = c) ↔ ∃ r, Wd_ r ∧ go_ G s r = c := by
  obtain ⟨-, ⟨pos, hB⟩, h3⟩ := h
  refine ⟨fun ⟨j, hj, e⟩ => ?_, fun ⟨r, hr, e⟩ => ?_⟩
  · obtain ⟨r, r1, -, -, r4⟩ := hB.1 j hj
    exact ⟨r, r1, r4.trans e⟩
  · obtain ⟨j, j1, j2, -⟩ := h3 r hr
    exact ⟨j, j1, j2.trans e⟩
/-- the first of the shortest rows, here -/
theorem Wz_.mr (h : Wz_ σ b G s N q K L) {j : Nat} (hj : j < N) : ∃ r, Mr_ G (fun v => v = q j) s r ∧ nm_ r = K j ∧ r.length = L j := by
  obtain ⟨-, ⟨pos, hB⟩, h3⟩ := h
  obtain ⟨r, r1, r2, r3, r4⟩ := hB.1 j hj
  refine ⟨r, ⟨r1, r4, fun r' h1 h2 => ?_⟩, r2, r3⟩
  obtain ⟨j', k1, k2, k3⟩ := h3 r' h1
  have e : j' = j := by
    rcases Nat.lt_trichotomy j' j with y | y | y
    · exact absurd (k2.trans h2) (hB.2.2.2.1 j' j y hj)
    · exact y
    · exact absurd (k2.trans h2).symm (hB.2.2.2.1 j j' y k1)
  subst e
  omega
theorem rea_4 (hb : b = 24 ∨ b = 30) (hX : ShX_ σ) (hx : Wx_ σ b G s N q K L N 0) : ∀ (k i g : Nat) (P : Nat → Bool), i + k = N → k < g → (∀ c, c < 36 → (P c = true ↔ ∃ j, j < i ∧ q j = c)) → ∃ P' : Nat → Bool, f_X7_reached_4 5000 σ g b (ba_ P 36) (nI i) = some (ba_ P' 36) ∧ ∀ c, c < 36 → (P' c = true ↔ ∃ j, j < N ∧ q j = c) := by
  obtain ⟨⟨d0, d1, d2, d3, d4⟩, l1, l2, l3, l4, l5⟩ := way_s hX hb
  have hn := hx.1
  intro k
  induction k with
  | zero =>
    intro i g P h1 h2 hP
    obtain ⟨g, rfl⟩ : ∃ g', g = g' + 1 := ⟨g - 1, by omega⟩
    have : i = N := by omega
    subst this
    refine ⟨P, ?_, hP⟩
    rw [u_X7_reached_4, hx.2.1, if_pos (nI_le (Nat.le_refl _) (by omega))]
  | succ k ih =>
    intro i g P h1 h2 hP
    obtain ⟨g, rfl⟩ : ∃ g', g = g' + 1 := ⟨g - 1, by omega⟩
    obtain ⟨a1, a2, a3, a4⟩ := hx.2.2.1 i (by omega)
    obtain ⟨P', f1, f2⟩ := ih (i + 1) g (fun k => P k || decide (k = q i)) (by omega) (by omega) (fun c hc => by
      show (P c || decide (c = q i)) = true ↔ _
      rw [Bool.or_eq_true, decide_eq_true_iff, hP c hc]
      refine ⟨fun z => ?_, fun ⟨j, j1, j2⟩ => ?_⟩
      · rcases z with ⟨j, j1, j2⟩ | z
        · exact ⟨j, by omega, j2⟩
        · exact ⟨i, by omega, z.symm⟩
      · by_cases e : j = i
        · subst e; exact Or.inr j2.symm
        · exact Or.inl ⟨j, by omega, j2⟩)
    refine ⟨P', ?_, f2⟩
    rw [u_X7_reached_4, hx.2.1, if_neg (nI_ge (by omega) (by omega)), if_neg (show ¬ (36 : Int32) ≤ nI i from nI_ge (b := 36) (by omega) (by omega)), d3, Option.bind_some, l4, ix_ok (by omega) (by omega), Option.bind_some, a2, nI_1, ← f1, ← bt_or 36 a1]
    rfl
end
section
variable {G : Nat → Nat → Nat} {σ : St_} {f : Nat → Nat}
theorem snk_2 (hM : ShM_ σ) (hT : Tb_ σ 7 G) (hG : ∀ u w, u < 36 → w < 8 → G u w < 36) {on : Nat} (hon : on < 36) : ∀ (k w g : Nat), w + k = 8 → k < g → ∃ x : Int32, f_X9_isSink_2 5000 σ g 0 (nI on) (nI w) = some x ∧ (x = 0 ↔ ¬ ∀ w', w ≤ w' → w' < 8 → G on w' = on) := by
  intro k
  induction k with
  | zero =>
    intro w g h1 h2
    obtain ⟨g, rfl⟩ : ∃ g', g = g' + 1 := ⟨g - 1, by omega⟩
    refine ⟨1, ?_, fun z => absurd z (by decide), fun z => absurd (fun w' a b => by omega) z⟩
    rw [u_X9_isSink_2, if_pos (show (8 : Int32) ≤ nI w from nI_le (a := 8) (by omega) (by omega))]
  | succ k ih =>
    intro w g h1 h2
    obtain ⟨g, rfl⟩ : ∃ g', g = g' + 1 := ⟨g - 1, by omega⟩
    have hg := hG on w hon (by omega)
    rw [u_X9_isSink_2, if_neg (show ¬ (8 : Int32) ≤ nI w from nI_ge (b := 8) (by omega) (by omega)), dm_0_27 hM, Option.bind_some, c8, lm_7 hM, ix_ok (by omega) (by omega), Option.bind_some, hT (8 * on + w) (by omega), show (8 * on + w) / 8 = on by omega, show (8 * on + w) % 8 = w by omega, nI_1]
    by_cases z : G on w = on
    · rw [if_pos (by rw [z])]
      obtain ⟨x, e1, e2⟩ := ih (w + 1) g (by omega) (by omega)
      refine ⟨x, e1, e2.trans ⟨fun y a => y (fun w' b c => a w' (by omega) c), fun y a => y (fun w' b c => ?_)⟩⟩
      by_cases e : w' = w
      · subst e; exact z
      · exact a w' (by omega) c
    · rw [if_neg (fun e => z ((nI_eq (by omega) (by omega)).mp e))]
      exact ⟨0, rfl, fun _ a => z (a w (Nat.le_refl _) (by omega)), fun _ => rfl⟩
theorem the_50 (hM : ShM_ σ) (hT : Tb_ σ 7 G) (hG : ∀ u w, u < 36 → w < 8 → G u w < 36) (hF : Fa_ σ 9 36 f) (hf : ∀ v, v < 36 → f v ≤ 1000000) (v2 : Int32) (P : Nat → Bool) (hP : ∀ c, c < 36 → (P c = true ↔ f c < 1000000 ∧ (v2 = 0 ∨ ∀ w, w < 8 → G c w = c))) : ∀ (k i g : Nat), i + k = 36 → k < g → f_X9_there_50 5000 g σ 0 v2 (ba_ P i) (nI i) = some (ba_ P 36, σ) := by
  intro k
  induction k with
  | zero =>
    intro i g h1 h2
    obtain ⟨g, rfl⟩ : ∃ g', g = g' + 1 := ⟨g - 1, by omega⟩
    have : i = 36 := by omega
    subst this
    rw [u_X9_there_50, if_pos (by decide)]
  | succ k ih =>
    intro i g h1 h2
    obtain ⟨g, rfl⟩ : ∃ g', g = g' + 1 := ⟨g - 1, by omega⟩
    have hi : i < 36 := by omega
    have go := ih (i + 1) g (by omega) (by omega)
    have go' : f_X9_there_50 5000 g σ 0 v2 (ba_ P i ||| (if P i = true then bt_ i else 0)) (nI (i + 1)) = some (ba_ P 36, σ) := go
    have hPi := hP i hi
    have hfi := hf i hi
    rw [u_X9_there_50, if_neg (show ¬ (36 : Int32) ≤ nI i from nI_ge (b := 36) (by omega) (by omega)), dm_0_29 hM, Option.bind_some, lm_9 hM, ix_ok hi (by omega), Option.bind_some, hF i hi, nI_1]
    by_cases z : 1000000 ≤ f i
    · rw [if_pos (show (1000000 : Int32) ≤ _ from nI_le (a := 1000000) z (by omega))]
      rw [if_neg (fun y => by have := (hPi.mp y).1; omega)] at go'
      exact go'
    rw [if_neg (show ¬ (1000000 : Int32) ≤ _ from nI_ge (b := 1000000) (by omega) (by omega))]
    by_cases y : v2 = 0
    · rw [if_pos y]
      rw [if_pos (hPi.mpr ⟨by omega, Or.inl y⟩)] at go'
      exact go'
    rw [if_neg y]
    obtain ⟨x, e1, e2⟩ := snk_2 hM hT hG hi 8 0 5000 (by omega) (by omega)
    have e1' : f_X9_isSink 5000 σ 0 (nI i) = some x := e1
    rw [e1', Option.bind_some]
    by_cases v : x = 0
    · rw [if_pos v]
      rw [if_neg (fun u => (e2.mp v) (fun w' _ c => by
        rcases (hPi.mp u).2 with a | a
        · exact absurd a y
        · exact a w' c))] at go'
      exact go'
    · rw [if_neg v]
      have : ∀ w', 0 ≤ w' → w' < 8 → G i w' = i := Classical.byContradiction fun u => v (e2.mpr u)
      rw [if_pos (hPi.mpr ⟨by omega, Or.inr (fun w hw => this w (Nat.zero_le _) hw)⟩)] at go'
      exact go'
end
/-- far and near, both -/
def Fx_ (G : Nat → Nat → Nat) (s : Nat) (f : Nat → Nat) : Prop := ∀ v, v < 36 → (f v = 1000000 ∧ ∀ r, Wd_ r → go_ G s r ≠ v) ∨ (f v < 36 ∧ (∃ r, Wd_ r ∧ r.length = f v ∧ go_ G s r = v) ∧ ∀ r, Wd_ r → go_ G s r = v → f v ≤ r.length)
theorem Fx_.le {G : Nat → Nat → Nat} {s : Nat} {f : Nat → Nat} (h : Fx_ G s f) : ∀ v, v < 36 → f v ≤ 1000000 := fun v hv => by
  rcases h v hv with ⟨a, -⟩ | ⟨a, -⟩ <;> omega
theorem Fx_.row {G : Nat → Nat → Nat} {s : Nat} {f : Nat → Nat} (h : Fx_ G s f) {v : Nat} (hv : v < 36) : f v < 1000000 ↔ ∃ r, Wd_ r ∧ go_ G s r = v := by
  rcases h v hv with ⟨a, b⟩ | ⟨a, ⟨r, r1, r2, r3⟩, b⟩
  · exact ⟨fun z => by omega, fun ⟨r, r1, r2⟩ => absurd r2 (b r r1)⟩
  · exact ⟨fun _ => ⟨r, r1, r3⟩, fun _ => by omega⟩
theorem Wz_.far {G : Nat → Nat → Nat} {b s N : Nat} {q K L : Nat → Nat} {σ : St_} {f : Nat → Nat} (h : Wz_ σ b G s N q K L) (hf : Fx_ G s f) {c : Nat} (hc : c < 36) : (si_ σ (b + 1) c = -1 ∧ f c = 1000000) ∨ (f c < 36 ∧ si_ σ (b + 1) c = nI (f c)) := by
  by_cases z : ∃ j, j < N ∧ q j = c
  · obtain ⟨j, hj, e⟩ := z
    obtain ⟨r, ⟨r1, r2, r3⟩, r4, r5⟩ := h.mr hj
    obtain ⟨a1, a2, a3, a4⟩ := h.1.2.2.1 j hj
    rcases hf c hc with ⟨a, b⟩ | ⟨a, ⟨r', k1, k2, k3⟩, b⟩
    · exact absurd (r2.trans e) (b r r1)
    · refine Or.inr ⟨a, ?_⟩
      have h1 := b r r1 (r2.trans e)
      have h2 := nm_len r1 k1 (r3 r' k1 (k3.trans e.symm))
      rw [← e, a3, ← r5]
      congr 1
      rw [e]; omega
  · refine Or.inl ⟨h.1.2.2.2.1 c hc (fun j hj e => z ⟨j, hj, e⟩), ?_⟩
    rcases hf c hc with ⟨a, b⟩ | ⟨a, ⟨r', k1, k2, k3⟩, b⟩
    · exact a
    · exact absurd ((h.row c).mpr ⟨r', k1, k3⟩) z
/-- the reference's half of there and furthest -/
theorem far_m {σm : St_} {G : Nat → Nat → Nat} {c s : Nat} (hg : Mg_ G σm c) (hc : c < 4) (hs : s < 36) (mo : si_ σm 6 (3 * c + 1) = nI s) {α : Type} (Kt : St_ → Option α) : ∃ (σ' : St_) (f : Nat → Nat), ScM_ σm σ' ∧ Tb_ σ' 7 G ∧ Fa_ σ' 9 36 f ∧ Fx_ G s f ∧ ((dr_ σm 10 (sr_ σm 0 27)).bind fun b9 => (f_X9_tables 5000 σm 0 (nI c) b9).bind fun q10 => (dr_ q10 10 (sr_ q10 0 10)).bind fun b11 => (ix_ (((3 : Int32) * nI c) + (1 : Int32)) (ln_ q10 b11)).bind fun j12 => (f_X9_spreads 5000 q10 0 (si_ q10 b11 j12)).bind Kt) = Kt σ' := by
  obtain ⟨s1, e1, z1, t1⟩ := hg.tab (a := 7) (Or.inl rfl)
  obtain ⟨s2, f, e2, z2, t2, F2, X2⟩ := spreads_ok hg.lt z1.1 t1 hs
  refine ⟨s2, f, (z1.sc (by omega) (by omega)).trans (z2.sc (by omega) (by omega)), t2, F2, X2, ?_⟩
  have mo1 : si_ s1 6 (3 * c + 1) = nI s := (z1.2.i ⟨by omega, by simp [mG_]⟩).trans mo
  rw [dm_0_27 hg.sh, Option.bind_some, e1, Option.bind_some, dm_0_10 z1.1, Option.bind_some, lm_6 z1.1, ix_r1 c hc, Option.bind_some, mo1, e2, Option.bind_some]
theorem sim_there : Sim_there Rel_ := by
  intro σx σm h x1 x2
  show ∃ (r : Int64) (σx' : St_) (σm' : St_), f_X8_there 5000 σx 0 x1 x2 = some (r, σx') ∧ f_X9_there 5000 σm 0 x1 x2 = some (r, σm') ∧ Rel_ σx' σm'
  have h0 := h
  obtain ⟨hX, hM, tc, n, hT, hF, hK, hP, hS⟩ := h
  have hn := hF.1
  have c1 := hF.2.1
  have c2 := hF.2.2.1
  have hone := one_b hn c2 x1
  have i2 := in_c (x := x2) (n := 1) (1 : Int64) rfl (by omega)
  unfold f_X8_there f_X9_there
  rcases bel_c x2 (n := 2) (by omega) with b | ⟨w, hw, rfl⟩
  · rw [if_pos (show f_X8_isBelow x2 2 = 0 from b), if_pos (i2.mpr b)]
    refine ⟨_, σx, σm, rfl, ?_, h0⟩
    split <;> rfl
  rw [if_neg (show ¬ f_X8_isBelow (nI w) 2 = 0 from bel_n (n := 2) hw (by omega)), if_neg (fun z => bel_n hw (by omega) (i2.mp z)), dx_0_8 hX, Option.bind_some]
  rcases bel_c x1 (n := n) (by omega) with b1 | ⟨c, hc, rfl⟩
  · rw [xpl_n hX hn c1 24 x1 b1, Option.bind_some, if_pos rfl, if_pos (hone.mpr b1)]
    exact ⟨_, _, _, rfl, rfl, h0⟩
  rw [if_neg (fun z => bel_n hc (by omega) (hone.mp z))]
  obtain ⟨G, s, N, q, K, L, σ1, σ', hs, e1, -, -, hsc, hW, mo, hg⟩ := xpl_s h0 hT hF hc (b := 24) (Or.inl rfl)
  rw [e1, Option.bind_some, if_neg (show ¬ ((1 : Int32), σ').1 = 0 by show ¬ (1 : Int32) = 0; decide)]
  obtain ⟨s2, f, sc2, t2, F2, X2, em⟩ := far_m hg (by omega) hs mo (fun q13 => f_X9_there_50 5000 5000 q13 0 (nI w) (0 : Int64) (0 : Int32))
  rw [em]
  let P : Nat → Bool := fun c => @decide (f c < 1000000 ∧ (nI w = 0 ∨ ∀ w, w < 8 → G c w = c)) (Classical.propDecidable _)
  have hP : ∀ c, c < 36 → (P c = true ↔ f c < 1000000 ∧ (nI w = 0 ∨ ∀ w, w < 8 → G c w = c)) := fun c _ => @decide_eq_true_iff _ (Classical.propDecidable _)
  have em2 : f_X9_there_50 5000 5000 s2 0 (nI w) 0 0 = some (ba_ P 36, s2) := the_50 sc2.1 t2 hg.lt F2 X2.le (nI w) P hP 36 0 5000 (by omega) (by omega)
  rw [em2]
  by_cases z : w = 0
  · subst z
    rw [if_pos (show nI 0 = 0 from rfl)]
    show ∃ r σx' σm', ((dr_ σ' 7 (sr_ σ' 0 8)).bind fun b13 => (f_X7_reached 5000 σ' b13).bind fun q14 => some (q14, σ')) = some (r, σx') ∧ _
    obtain ⟨P', f1, f2⟩ := rea_4 (Or.inl rfl) hsc.1 hW.1 N 0 5000 (fun _ => false) (by omega) (by have := hW.1.1; omega) (fun c hc => ⟨fun z => absurd z Bool.false_ne_true, fun ⟨j, j1, j2⟩ => by omega⟩)
    have f1' : f_X7_reached 5000 σ' 24 = some (ba_ P' 36) := by rw [ba_f] at f1; exact f1
    have eP : ba_ P' 36 = ba_ P 36 := ba_congr 36 (fun k hk => by
      rw [Bool.eq_iff_iff, f2 k hk, hP k hk, hW.row, X2.row hk]
      exact ⟨fun z => ⟨z, Or.inl rfl⟩, fun z => z.1⟩)
    rw [dx_0_8 hsc.1, Option.bind_some, f1', Option.bind_some, eP]
    exact ⟨_, _, _, rfl, rfl, h0.sc hsc sc2⟩
  · have hz : ¬ nI w = 0 := nI_ne0 (by omega) (by omega)
    rw [if_neg hz]
    show ∃ r σx' σm', ((dr_ σ' 7 (sr_ σ' 0 8)).bind fun b11 => some (f_X7_sinks σ' b11, σ')) = some (r, σx') ∧ _
    obtain ⟨-, -, -, -, -, -, -, ⟨Q, x9, x10⟩, -⟩ := hW.1
    have eP : f_X7_sinks σ' 24 = ba_ P 36 := by
      show sl_ σ' 24 7 = _
      rw [x9]
      refine ba_congr 36 (fun k hk => ?_)
      rw [Bool.eq_iff_iff, x10 k hk, hP k hk, X2.row hk, ← hW.row]
      exact ⟨fun ⟨j, j1, _, j3, j4⟩ => ⟨⟨j, j1, j3⟩, Or.inr j4⟩, fun ⟨⟨j, j1, j3⟩, y⟩ => ⟨j, j1, j1, j3, y.elim (fun a => absurd a hz) id⟩⟩
    rw [dx_0_8 hsc.1, Option.bind_some, eP]
    exact ⟨_, _, _, rfl, rfl, h0.sc hsc sc2⟩
