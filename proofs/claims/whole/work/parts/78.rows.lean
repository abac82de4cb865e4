/-! ROWS -/
def Xs_ (σ σ' : St_) : Prop := ShX_ σ' ∧ Fr_ (fun r _ => r ≠ 39 ∧ r ≠ 40) σ σ'
theorem Xs_.refl {σ : St_} (h : ShX_ σ) : Xs_ σ σ := ⟨h, Fr_.refl _ _⟩
theorem Xs_.trans {σ σ' σ'' : St_} (h : Xs_ σ σ') (g : Xs_ σ' σ'') : Xs_ σ σ'' := ⟨g.1, h.2.trans g.2⟩
theorem Xs_.ul {σ : St_} (h : ShX_ σ) {a : Nat} (ha : a = 39 ∨ a = 40) (k : Nat) (x : Int64) : Xs_ σ (ul_ σ a k x) := ⟨h, (Fr_.refl _ _).ul a k x (fun z => by omega)⟩
def Xr_ (σ σ' : St_) : Prop := ShX_ σ' ∧ Fr_ (fun r k => r ≠ 39 ∧ r ≠ 40 ∧ ¬ (r = 0 ∧ (k = 11 ∨ k = 12))) σ σ'
theorem Xr_.refl {σ : St_} (h : ShX_ σ) : Xr_ σ σ := ⟨h, Fr_.refl _ _⟩
theorem Xr_.trans {σ σ' σ'' : St_} (h : Xr_ σ σ') (g : Xr_ σ' σ'') : Xr_ σ σ'' := ⟨g.1, h.2.trans g.2⟩
theorem Xs_.r {σ σ' : St_} (h : Xs_ σ σ') : Xr_ σ σ' := ⟨h.1, h.2.mono (fun r k z => ⟨z.1, z.2.1⟩)⟩
theorem Xr_.sc {σ σ' : St_} (h : Xr_ σ σ') : ScX_ σ σ' := ⟨h.1, h.2.mono (by intro r k z; refine ⟨fun e => z ?_, fun e => z ?_, fun e => z ?_⟩ <;> simp only [xZ_] <;> omega)⟩
theorem Wx_.congr {σ σ' : St_} {b : Nat} {G : Nat → Nat → Nat} {s n : Nat} {q K L : Nat → Nat} {i w : Nat} (h : Wx_ σ b G s n q K L i w) (e : ∀ r k, b ≤ r → r < b + 6 → si_ σ' r k = si_ σ r k ∧ sl_ σ' r k = sl_ σ r k) : Wx_ σ' b G s n q K L i w := by
  obtain ⟨x1, x2, x3, x4, x5, x6, ⟨P, x7, x8⟩, ⟨Q, x9, x10⟩, x11⟩ := h
  refine ⟨x1, (e _ _ (by omega) (by omega)).1.trans x2, fun j hj => ?_, fun c hc hno => (e _ _ (by omega) (by omega)).1.trans (x4 c hc hno), fun j h0 hj => ?_, fun j w' hj hw' hp => (e _ _ (by omega) (by omega)).1.trans (x6 j w' hj hw' hp), ⟨P, (e _ _ (by omega) (by omega)).1.trans x7, x8⟩, ⟨Q, (e _ _ (by omega) (by omega)).2.trans x9, x10⟩, x11⟩
  · obtain ⟨a1, a2, a3, a4⟩ := x3 j hj
    exact ⟨a1, (e _ _ (by omega) (by omega)).1.trans a2, (e _ _ (by omega) (by omega)).1.trans a3, a4⟩
  · obtain ⟨i', w', a1, a2, a3, a4, a5, a6⟩ := x5 j h0 hj
    exact ⟨i', w', a1, a2, (e _ _ (by omega) (by omega)).1.trans a3, (e _ _ (by omega) (by omega)).1.trans a4, a5, a6⟩
theorem Wx_.xr {σ σ' : St_} {G : Nat → Nat → Nat} {s n : Nat} {q K L : Nat → Nat} {i w : Nat} (h : Wx_ σ 24 G s n q K L i w) (x : Xr_ σ σ') : Wx_ σ' 24 G s n q K L i w := h.congr (fun r k h1 h2 => ⟨x.2.i (by omega), x.2.l (by omega)⟩)
theorem dab {σ : St_} (h : ShX_ σ) {A k : Nat} (hA : A = 39 ∨ A = 40) (e : sr_ σ 0 k = some A) : dr_ σ 11 (sr_ σ 0 k) = some A := by
  refine dr_ok e ?_
  rcases hA with rfl | rfl
  · exact h.kd 39 (by decide)
  · exact h.kd 40 (by decide)
theorem lab {σ : St_} (h : ShX_ σ) {A : Nat} (hA : A = 39 ∨ A = 40) : ln_ σ A = 36 := by
  rcases hA with rfl | rfl
  · exact lx_39 h
  · exact lx_40 h
section
variable {G : Nat → Nat → Nat} {now : Nat → Int64} {A B : Nat}
theorem spr_27 (hA : A = 39 ∨ A = 40) (hB : B = 39 ∨ B = 40) (hAB : A ≠ B) {u : Nat} (hu : u < 36) (hG : ∀ w, w < 8 → G u w < 36) (v3 : Int32) (X : Nat → Int64) (Kt : St_ → Nat → Nat → Nat → Int32 → Option St_) : ∀ (k w g : Nat) (σ : St_), w + k = 8 → k < g → ShX_ σ → (∀ w, w < 8 → si_ σ 29 (8 * u + w) = nI (G u w)) → La_ σ A now → La_ σ B (fun c => X c + ew_ G (now u) u c w) → ∃ σ', f_X7_spread_27 5000 Kt g σ 24 A B v3 (nI u) (nI w) = Kt σ' 24 A B (v3 + 1) ∧ Xs_ σ σ' ∧ La_ σ' A now ∧ La_ σ' B (fun c => X c + ew_ G (now u) u c 8) := by
  intro k
  induction k with
  | zero =>
    intro w g σ h1 h2 hX hg hN hL
    obtain ⟨g, rfl⟩ : ∃ g', g = g' + 1 := ⟨g - 1, by omega⟩
    have : w = 8 := by omega
    subst this
    refine ⟨σ, ?_, Xs_.refl hX, hN, hL⟩
    rw [u_X7_spread_27, if_pos (by decide)]
  | succ k ih =>
    intro w g σ h1 h2 hX hg hN hL
    obtain ⟨g, rfl⟩ : ∃ g', g = g' + 1 := ⟨g - 1, by omega⟩
    have hw : w < 8 := by omega
    have hgw := hG w hw
    have eg : f_X7_goalOf σ 24 (nI u) (nI w) = some (nI (G u w)) := by
      unfold f_X7_goalOf
      rw [dx_24_4 hX, Option.bind_some, c8', lx_29 hX, if_neg (bel_n (by omega) (by omega)), ix_ok (by omega) (by omega), Option.bind_some, hg w hw]
    have zz := Xs_.ul hX hB (G u w) (X (G u w) + ew_ G (now u) u (G u w) w + now u)
    obtain ⟨σ', q1, q2, q3, q4⟩ := ih (w + 1) g _ (by omega) (by omega) zz.1 (fun w hw => (zz.2.i (by omega)).trans (hg w hw)) (hN.ne hAB _ _) ((hL.ul (G u w) (X (G u w) + ew_ G (now u) u (G u w) w + now u)).congr (fun c hc => by
      show X c + (ew_ G (now u) u c w + (if G u w = c then now u else 0)) = if c = G u w then _ else X c + ew_ G (now u) u c w
      by_cases z : c = G u w
      · rw [if_pos z.symm, if_pos z, z, Int64.add_assoc]
      · rw [if_neg (fun e => z e.symm), if_neg z, Int64.add_zero]))
    refine ⟨σ', ?_, zz.trans q2, q3, q4⟩
    rw [u_X7_spread_27, if_neg (show ¬ (8 : Int32) ≤ nI w from nI_ge (b := 8) hw (by omega)), eg, Option.bind_some, lab hX hB, if_neg (bel_n hgw (by omega)), lab hX hA, if_neg (bel_n hu (by omega)), ix_ok hgw (by omega), Option.bind_some, ix_ok hu (by omega), Option.bind_some, Option.bind_some, hL _ hgw, hN _ hu, nI_1]
    exact q1
theorem spr_2 {s N : Nat} {q K L : Nat → Nat} (hA : A = 39 ∨ A = 40) (hB : B = 39 ∨ B = 40) (hAB : A ≠ B) (hG : ∀ u w, u < 36 → w < 8 → G u w < 36) : ∀ (k i g : Nat) (σ : St_), i + k = N → k < g → ShX_ σ → Wx_ σ 24 G s N q K L N 0 → La_ σ A now → La_ σ B (fun c => sm_ (fun j => ew_ G (now (q j)) (q j) c 8) i) → ∃ σ', f_X7_spread_2 5000 g σ 24 A B (nI i) = some σ' ∧ Xs_ σ σ' ∧ La_ σ' A now ∧ La_ σ' B (fun c => sm_ (fun j => ew_ G (now (q j)) (q j) c 8) N) := by
  intro k
  induction k with
  | zero =>
    intro i g σ h1 h2 hX hx hN hL
    obtain ⟨g, rfl⟩ : ∃ g', g = g' + 1 := ⟨g - 1, by omega⟩
    have : i = N := by omega
    subst this
    have hn := hx.1
    refine ⟨σ, ?_, Xs_.refl hX, hN, hL⟩
    rw [u_X7_spread_2, hx.2.1, if_pos (nI_le (Nat.le_refl _) (by omega))]
  | succ k ih =>
    intro i g σ h1 h2 hX hx hN hL
    obtain ⟨g, rfl⟩ : ∃ g', g = g' + 1 := ⟨g - 1, by omega⟩
    have hn := hx.1
    have hi : i < N := by omega
    obtain ⟨a1, a2, -, -⟩ := hx.2.2.1 i hi
    obtain ⟨s1, e1, z1, n1, l1⟩ := spr_27 hA hB hAB a1 (fun w hw => hG _ w a1 hw) (nI i) (fun c => sm_ (fun j => ew_ G (now (q j)) (q j) c 8) i) (f_X7_spread_2 5000 g) 8 0 5000 σ (by omega) (by omega) hX (fun w hw => hx.2.2.2.2.2.1 i w hi hw (Or.inl hi)) hN (hL.congr (fun c hc => by
      show sm_ _ i + 0 = _
      rw [Int64.add_zero]))
    obtain ⟨s2, e2, z2, n2, l2⟩ := ih (i + 1) g s1 (by omega) (by omega) z1.1 (hx.xr z1.r) n1 l1
    refine ⟨s2, ?_, z1.trans z2, n2, l2⟩
    rw [u_X7_spread_2, hx.2.1, if_neg (nI_ge hi (by omega)), if_neg (show ¬ (36 : Int32) ≤ nI i from nI_ge (b := 36) (by omega) (by omega)), dx_24_3 hX, Option.bind_some, lx_28 hX, ix_ok (by omega) (by omega), Option.bind_some, show si_ σ 28 i = nI (q i) from a2]
    refine e1.trans ?_
    rw [nI_1]
    exact e2
theorem g_sl_uv (σ : St_) (a : Nat) (f : Nat → Int64) (b : Nat) : sl_ (uv_ σ a f) b = if b = a then f else sl_ σ b := rfl
theorem Xs_.uv {σ : St_} (h : ShX_ σ) {a : Nat} (ha : a = 39 ∨ a = 40) (f : Nat → Int64) : Xs_ σ (uv_ σ a f) := by
  refine ⟨h, rfl, rfl, rfl, fun r k p => ⟨rfl, ?_, rfl⟩⟩
  rw [g_sl_uv, if_neg (by omega)]
theorem swp {σ : St_} (h : ShX_ σ) (hA : A = 39 ∨ A = 40) (hB : B = 39 ∨ B = 40) (hAB : A ≠ B) : ShX_ (ur_ (ur_ σ 0 11 (some B)) 0 12 (some A)) := by
  have hs := h.2.2.2.1
  have w1 := (up_r σ 0 11 (some B) (fun b' hb' => by cases hb'; omega)).2.2.2.2 h.2.2.2.2
  have w2 := (up_r (ur_ σ 0 11 (some B)) 0 12 (some A) (fun b' hb' => by cases hb'; show A < sn_ σ; omega)).2.2.2.2 w1
  refine ⟨h.1, fun q hq => ?_, ?_, hs, w2⟩
  · have n1 : ¬ (q.1 = 0 ∧ (q.2.1 = 11 ∨ q.2.1 = 12)) := (show ∀ q ∈ rX_, ¬ (q.1 = 0 ∧ (q.2.1 = 11 ∨ q.2.1 = 12)) by decide) q hq
    rw [g_sr_ur, g_sr_ur]
    by_cases z : q.1 = 0
    · rw [if_pos z, if_neg (fun e => n1 ⟨z, Or.inr e⟩), if_pos z, if_neg (fun e => n1 ⟨z, Or.inl e⟩)]
      exact h.2.1 q hq
    · rw [if_neg z, if_neg z]
      exact h.2.1 q hq
  · have e1 : sr_ (ur_ (ur_ σ 0 11 (some B)) 0 12 (some A)) 0 11 = some B := by rw [g_sr_ur, if_pos rfl, if_neg (by omega), g_sr_ur, if_pos rfl, if_pos rfl]
    have e2 : sr_ (ur_ (ur_ σ 0 11 (some B)) 0 12 (some A)) 0 12 = some A := by rw [g_sr_ur, if_pos rfl, if_pos rfl]
    rw [e1, e2]
    rcases hA with rfl | rfl <;> rcases hB with rfl | rfl
    · exact absurd rfl hAB
    · exact Or.inr ⟨rfl, rfl⟩
    · exact Or.inl ⟨rfl, rfl⟩
    · exact absurd rfl hAB
end
theorem rows_go {G : Nat → Nat → Nat} {s N M on : Nat} {q K L : Nat → Nat} (hG : ∀ u w, u < 36 → w < 8 → G u w < 36) (hM : M < 21) (hon : on < 36) (hq1 : ∀ j, j < N → q j < 36) (hq2 : ∀ i j, i < j → j < N → q i ≠ q j) (hcl : ∀ j w, j < N → w < 8 → ∃ l, l < N ∧ q l = G (q j) w) : ∀ (k t g g2 : Nat) (σx σm : St_) (now : Nat → Int64) (A B : Nat), t + k = M → k < g → k < g2 → (A = 39 ∨ A = 40) → (B = 39 ∨ B = 40) → A ≠ B → ShX_ σx → Wx_ σx 24 G s N q K L N 0 → sr_ σx 0 11 = some A → sr_ σx 0 12 = some B → La_ σx A now → (∀ u, u < 36 → (¬ ∃ j, j < N ∧ q j = u) → now u = 0) → ShM_ σm → Tb_ σm 7 G → La_ σm 11 now → ∃ (r : Int64) (σx' σm' : St_), f_X8_rows_75 5000 g σx 0 (nI on) (nI M) (nI t) = some (r, σx') ∧ f_X9_rows_86 5000 g2 σm 0 (nI on) (nI M) (nI t) = some (r, σm') ∧ Xr_ σx σx' ∧ Zl_ σm σm' := by
  intro k
  induction k with
  | zero =>
    intro t g g2 σx σm now A B h1 h2 h3 hA hB hAB hX hx r1 r2 hN hz hSM hT hNm
    obtain ⟨g, rfl⟩ : ∃ g', g = g' + 1 := ⟨g - 1, by omega⟩
    obtain ⟨g2, rfl⟩ : ∃ g', g2 = g' + 1 := ⟨g2 - 1, by omega⟩
    refine ⟨now on, σx, σm, ?_, ?_, Xr_.refl hX, Zl_.refl hSM⟩
    · rw [u_X8_rows_75, if_pos (nI_le (by omega) (by omega)), dab hX hA r1, Option.bind_some, lab hX hA, ix_ok hon (by omega), Option.bind_some, hN on hon]
    · rw [u_X9_rows_86, if_pos (nI_le (by omega) (by omega)), dm_0_31 hSM, Option.bind_some, lm_11 hSM, ix_ok hon (by omega), Option.bind_some, hNm on hon]
  | succ k ih =>
    intro t g g2 σx σm now A B h1 h2 h3 hA hB hAB hX hx r1 r2 hN hz hSM hT hNm
    obtain ⟨g, rfl⟩ : ∃ g', g = g' + 1 := ⟨g - 1, by omega⟩
    obtain ⟨g2, rfl⟩ : ∃ g', g2 = g' + 1 := ⟨g2 - 1, by omega⟩
    have hn := hx.1
    obtain ⟨m1, em, zm, nm1⟩ := ro_86 hG (nI on) (nI M) t g2 hSM hT hNm (nI_ge (by omega) (by omega))
    have lB := lab hX hB
    have ef := fillL_ok (fu := 5000) (σ := σx) (a := B) 0 (by rw [lB]; omega) (by rw [lB]; omega)
    have z1 := Xs_.uv hX hB (fun j => if j < ln_ σx B then 0 else sl_ σx B j)
    have n1 : La_ (uv_ σx B (fun j => if j < ln_ σx B then 0 else sl_ σx B j)) A now := fun c hc => by rw [g_sl_uv, if_neg hAB]; exact hN c hc
    have b1 : La_ (uv_ σx B (fun j => if j < ln_ σx B then 0 else sl_ σx B j)) B (fun _ => 0) := fun c hc => by rw [g_sl_uv, if_pos rfl, if_pos (by rw [lB]; exact hc)]
    generalize uv_ σx B (fun j => if j < ln_ σx B then 0 else sl_ σx B j) = s1 at *
    obtain ⟨s2, e2, z2, n2, l2⟩ := spr_2 hA hB hAB hG N 0 5000 s1 (by omega) (by omega) z1.1 (hx.xr z1.r) n1 (b1.congr (fun c hc => rfl))
    have z12 := z1.trans z2
    have p1 : ∀ σ', Xs_ σx σ' → sr_ σ' 0 11 = some A ∧ sr_ σ' 0 12 = some B := fun σ' z => ⟨(z.2.r (by omega)).trans r1, (z.2.r (by omega)).trans r2⟩
    have e2' : f_X7_spread 5000 s1 24 A B = some s2 := e2
    have hX3 := swp z12.1 hA hB hAB
    have z3 : Xr_ s2 (ur_ (ur_ s2 0 11 (some B)) 0 12 (some A)) := ⟨hX3, Fr_.ur (Fr_.ur (Fr_.refl _ _) _ _ _ (fun z => z.2.2 ⟨rfl, Or.inl rfl⟩)) _ _ _ (fun z => z.2.2 ⟨rfl, Or.inr rfl⟩)⟩
    have hnx : ∀ c, c < 36 → nx_ G now c = sm_ (fun j => ew_ G (now (q j)) (q j) c 8) N := fun c _ => nx_q hq1 hq2 hz c
    obtain ⟨r, x', m', f1, f2, f3, f4⟩ := ih (t + 1) g g2 (ur_ (ur_ s2 0 11 (some B)) 0 12 (some A)) m1 (nx_ G now) B A (by omega) (by omega) (by omega) hB hA (fun e => hAB e.symm) hX3 (hx.xr (z12.r.trans z3)) (by rw [g_sr_ur, if_pos rfl, if_neg (by omega), g_sr_ur, if_pos rfl, if_pos rfl]) (by rw [g_sr_ur, if_pos rfl, if_pos rfl]) ((show La_ (ur_ (ur_ s2 0 11 (some B)) 0 12 (some A)) B _ from l2).congr hnx) (fun u hu hno => nx_z hq1 hq2 hz hcl hno) zm.1 (hT.zl zm) nm1
    refine ⟨r, x', m', ?_, em.trans f2, (z12.r.trans z3).trans f3, zm.trans f4⟩
    rw [u_X8_rows_75, if_neg (nI_ge (by omega) (by omega)), dab hX hB r2, Option.bind_some, ef, Option.bind_some, dx_0_8 z1.1, Option.bind_some, dab z1.1 hA (p1 s1 z1).1, Option.bind_some, dab z1.1 hB (p1 s1 z1).2, Option.bind_some, e2', Option.bind_some, dab z12.1 hA (p1 s2 z12).1, Option.bind_some, dab z12.1 hB (p1 s2 z12).2, Option.bind_some, nI_1]
    exact f1
theorem sim_rows : Sim_rows Rel_ := by
  intro σx σm h x1 x2 x3
  show ∃ (r : Int64) (σx' : St_) (σm' : St_), f_X8_rows 5000 σx 0 x1 x2 x3 = some (r, σx') ∧ f_X9_rows 5000 σm 0 x1 x2 x3 = some (r, σm') ∧ Rel_ σx' σm'
  have h0 := h
  obtain ⟨hX, hM, tc, n, hT, hF, hK, hP, hS⟩ := h
  have hn := hF.1
  have c1 := hF.2.1
  have c2 := hF.2.2.1
  have hone := one_b hn c2 x1
  have i3 := in_c (x := x3) (n := 20) (20 : Int64) rfl (by omega)
  unfold f_X8_rows f_X9_rows
  rcases bel_c x2 (n := 36) (by omega) with b | ⟨on, hon, rfl⟩
  · rw [if_pos (show f_X8_isBelow x2 36 = 0 from b), if_pos ((isC_c _).mpr b)]
    refine ⟨_, σx, σm, rfl, ?_, h0⟩
    split <;> rfl
  rw [if_neg (show ¬ f_X8_isBelow (nI on) 36 = 0 from bel_n (n := 36) hon (by omega)), if_neg (fun z => bel_n hon (by omega) ((isC_c _).mp z))]
  rcases bel_c x3 (n := 21) (by omega) with b | ⟨M, hM21, rfl⟩
  · rw [if_pos (show f_X8_isBelow x3 21 = 0 from b), if_pos (i3.mpr b)]
    refine ⟨_, σx, σm, rfl, ?_, h0⟩
    split <;> rfl
  rw [if_neg (show ¬ f_X8_isBelow (nI M) 21 = 0 from bel_n (n := 21) hM21 (by omega)), if_neg (fun z => bel_n hM21 (by omega) (i3.mp z)), dx_0_8 hX, Option.bind_some]
  rcases bel_c x1 (n := n) (by omega) with b1 | ⟨c, hc, rfl⟩
  · rw [xpl_n hX hn c1 24 x1 b1, Option.bind_some, if_pos rfl, if_pos (hone.mpr b1)]
    exact ⟨_, _, _, rfl, rfl, h0⟩
  rw [if_neg (fun z => bel_n hc (by omega) (hone.mp z))]
  obtain ⟨G, s, N, q, K, L, σ1, σ', hs, e1, -, -, hsc, hW, mo, hg⟩ := xpl_s h0 hT hF hc (b := 24) (Or.inl rfl)
  rw [e1, Option.bind_some, if_neg (show ¬ ((1 : Int32), σ').1 = 0 by show ¬ (1 : Int32) = 0; decide)]
  obtain ⟨s1, e2, z1, t1⟩ := hg.tab (a := 7) (Or.inl rfl)
  have mo1 : si_ s1 6 (3 * c + 1) = nI s := (z1.2.i ⟨by omega, by simp [mG_]⟩).trans mo
  obtain ⟨s2, e3, z2, n2⟩ := ro_43 (c := c) (by omega) hs (nI on) (nI M) 36 0 5000 s1 (by omega) (by omega) z1.1 mo1 (fun j hj => by omega)
  have e3' : f_X9_rows_43 5000 5000 s1 0 (nI c) (nI on) (nI M) 0 = f_X9_rows_86 5000 5000 s2 0 (nI on) (nI M) 0 := e3
  rw [dm_0_27 hM, Option.bind_some, e2, Option.bind_some, e3']
  dsimp only
  have hX' := hsc.1
  have hx := hW.1
  have hN0 := hx.2.2.2.2.2.2.2.2.1
  have q0 : q 0 = s := hx.2.2.2.2.2.2.2.2.2.2.2
  have est : f_X7_start σ' 24 = some (nI s) := by
    unfold f_X7_start
    rw [dx_24_3 hX', Option.bind_some, lx_28 hX', show ix_ (0 : Int32) 36 = some 0 from by decide +kernel, Option.bind_some, show si_ σ' 28 0 = nI (q 0) from (hx.2.2.1 0 hN0).2.1, q0]
  obtain ⟨A, B, hA, hB, hAB, r1, r2⟩ : ∃ A B, (A = 39 ∨ A = 40) ∧ (B = 39 ∨ B = 40) ∧ A ≠ B ∧ sr_ σ' 0 11 = some A ∧ sr_ σ' 0 12 = some B := by
    rcases hX'.2.2.1 with ⟨a, b⟩ | ⟨a, b⟩
    · exact ⟨39, 40, Or.inl rfl, Or.inr rfl, by omega, a, b⟩
    · exact ⟨40, 39, Or.inr rfl, Or.inl rfl, by omega, a, b⟩
  have lA := lab hX' hA
  have ef := fillL_ok (fu := 5000) (σ := σ') (a := A) 0 (by rw [lA]; omega) (by rw [lA]; omega)
  have y1 := Xs_.uv hX' hA (fun j => if j < ln_ σ' A then 0 else sl_ σ' A j)
  have b1 : La_ (uv_ σ' A (fun j => if j < ln_ σ' A then 0 else sl_ σ' A j)) A (fun _ => 0) := fun c hc => by rw [g_sl_uv, if_pos rfl, if_pos (by rw [lA]; exact hc)]
  rw [dx_0_8 hX', Option.bind_some, est, Option.bind_some, dab hX' hA r1, Option.bind_some, ef, Option.bind_some]
  generalize uv_ σ' A (fun j => if j < ln_ σ' A then 0 else sl_ σ' A j) = s3 at *
  have r1' : sr_ s3 0 11 = some A := (y1.2.r (by omega)).trans r1
  have r2' : sr_ s3 0 12 = some B := (y1.2.r (by omega)).trans r2
  rw [dab y1.1 hA r1', Option.bind_some, lab y1.1 hA, if_neg (bel_n hs (by omega)), ix_ok hs (by omega), Option.bind_some]
  have y2 := y1.trans (Xs_.ul y1.1 hA s 1)
  obtain ⟨pos, hBq⟩ := hW.2.1
  obtain ⟨r, x', m', f1, f2, f3, f4⟩ := rows_go hg.lt hM21 hon (fun j hj => (hx.2.2.1 j hj).1) hBq.2.2.2.1 (fun j w hj hw => by
    obtain ⟨r, r1, r2⟩ := (hW.row (q j)).mp ⟨j, hj, rfl⟩
    exact (hW.row _).mpr ⟨r ++ [w], Wd_.snoc.mpr ⟨r1, hw⟩, by rw [go_snoc, r2]⟩) M 0 5000 5000 (ul_ s3 A s 1) s2 (fun j => if j = s then 1 else 0) A B (by omega) (by omega) (by omega) hA hB hAB y2.1 (hx.xr y2.r) r1' r2' ((b1.ul s 1).congr (fun c hc => rfl)) (fun u hu hno => by
      show (if u = s then (1 : Int64) else 0) = 0
      rw [if_neg (fun e => hno ⟨0, hN0, by rw [q0, e]⟩)]) z2.1 (t1.zl z2) n2
  have f1' : f_X8_rows_75 5000 5000 (ul_ s3 A s 1) 0 (nI on) (nI M) 0 = some (r, x') := f1
  have f2' : f_X9_rows_86 5000 5000 s2 0 (nI on) (nI M) 0 = some (r, m') := f2
  rw [f1', f2']
  exact ⟨_, _, _, rfl, rfl, h0.sc (hsc.trans (y2.r.trans f3).sc) ((z1.sc (by omega) (by omega)).trans (z2.trans f4).sc)⟩
