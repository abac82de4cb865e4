/-! KINDS, NUMBERS, TEXTS THAT FIT; TELLS -/
/-- there: all as it was but scratch and one place -/
def IM_ (σm0 : St_) (a j : Nat) (σ : St_) : Prop := ShM_ σ ∧ Fr_ (fun r k => ¬ mG_ r k ∧ ¬ (r = a ∧ k = j)) σm0 σ ∧ sl_ σ a j = sl_ σm0 a j ∧ sr_ σ a j = sr_ σm0 a j
theorem IM_.refl {σ : St_} (h : ShM_ σ) (a j : Nat) : IM_ σ a j σ := ⟨h, Fr_.refl _ _, rfl, rfl⟩
theorem IM_.ui {σm0 σ : St_} {a j : Nat} (h : IM_ σm0 a j σ) (x : Int32) : IM_ σm0 a j (ui_ σ a j x) := ⟨h.1, h.2.1.ui a j x (fun z => z.2 ⟨rfl, rfl⟩), h.2.2⟩
theorem IM_.tm {σm0 σ σ' : St_} {a j : Nat} (h : IM_ σm0 a j σ) (t : TM_ σ σ') (hg : ¬ mG_ a j) : IM_ σm0 a j σ' := ⟨t.1, h.2.1.trans (t.2.mono (fun r k z => z.1)), (t.2.l hg).trans h.2.2.1, (t.2.r hg).trans h.2.2.2⟩
theorem IM_.at {σm0 σ : St_} {a j : Nat} (h : IM_ σm0 a j σ) (x : Int32) {r k : Nat} (n1 : ¬ mG_ r k) (n2 : ¬ (r = a ∧ k = j)) : si_ (ui_ σ a j x) r k = si_ σm0 r k := (h.ui x).2.1.i ⟨n1, n2⟩
theorem IM_.fin {σm0 σ : St_} {a j : Nat} (h : IM_ σm0 a j σ) {x : Int32} (e : x = si_ σm0 a j) : ScM_ σm0 (ui_ σ a j x) := by
  refine ⟨h.1, h.2.1.1, h.2.1.2.1, h.2.1.2.2.1, fun r k p => ?_⟩
  have n1 : ¬ mG_ r k := fun z => p (by simp only [mG_, mZ_] at z ⊢; omega)
  by_cases q : r = a ∧ k = j
  · obtain ⟨rfl, rfl⟩ := q
    refine ⟨?_, h.2.2.1, h.2.2.2⟩
    rw [g_si_ui, if_pos rfl, if_pos rfl, e]
  · exact (h.ui x).2.1.2.2.2 r k ⟨n1, q⟩
theorem Se_.im {σx σm σm' : St_} {s sz B : Nat} {it : Nat → Nat} (h : Se_ σx σm s sz B it) (e : ∀ r k, 15 ≤ r → si_ σm' r k = si_ σm r k) : Se_ σx σm' s sz B it := by
  obtain ⟨h1, h2, h3, h4, h5⟩ := h
  exact ⟨h1, h2, h3, (e _ _ (by omega)).trans h4, fun j hj => ⟨(h5 j hj).1, (h5 j hj).2.1, (e _ _ (by omega)).trans (h5 j hj).2.2⟩⟩
theorem sh0 : ∀ v, v < 10 → (0 : Int32) <<< (nI v &&& 31) = 0 := by decide +kernel
theorem fit_go {V fl ni m c s sz st : Nat} {it : Nat → Nat} {v6 : Int32} (h1 : 1 ≤ V) (hV : V ≤ 10) (hst : st < 36) (KD NU : Nat → Nat) (CE CS CR : Nat → Cd_) (hp : ∀ v, v < V → Pm_ (KD v) (NU v) fl ni m (CE v) (CS v) (CR v)) (F : Nat → St_ → Int32 → Int32 → Option (Int32 × St_)) (sx : St_ → Nat → Option St_) (IX IM : St_ → Prop) {σx0 σm0 : St_}
    (hF0 : ∀ g σ b, IX σ → F (g + 1) σ b (nI V) = some (b, σ))
    (hF1 : ∀ g σ b v, IX σ → v < V → F (g + 1) σ b (nI v) = (sx σ v).bind fun q => (f_X8_firstThatCannotBe 5000 q 0 (2 * s + 41) (nI st)).bind fun q4 => if q4.1 = (-1 : Int32) then F g q4.2 (b ||| ((1 : Int32) <<< (nI v &&& 31))) (nI v + 1) else F g q4.2 (b ||| (0 : Int32)) (nI v + 1))
    (hX : ∀ σ v, IX σ → v < V → ∃ σ1, sx σ v = some σ1 ∧ Th_ σ1 (KD v) (NU v) fl ni m (CE v) (CS v) (CR v) ∧ Se_ σ1 σm0 s sz 36 it ∧ ∀ σ2, TX_ σ1 σ2 → IX σ2)
    (hM : ∀ σ v, IM σ → v < V → ∃ σ1, f_X9_lays σ 0 v6 (nI c) (nI v) = some σ1 ∧ Cm_ σ1 c (KD v) (NU v) fl ni m (CE v) (CS v) (CR v) ∧ Se_ σx0 σ1 s sz 36 it ∧ si_ σ1 6 (3 * c + 1) = nI st ∧ ∀ σ2, TM_ σ1 σ2 → IM σ2) (v7 : Int32) :
    ∀ (k v g g2 : Nat) (b : Int32) (σx σm : St_), v + k = V → k < g → k < g2 → IX σx → IM σm → ∃ (r : Int32) (σx' σm' : St_), F g σx b (nI v) = some (r, σx') ∧ IX σx' ∧ IM σm' ∧ f_X9_tells_182 5000 g2 σm 0 (nI s) (nI c) b v6 v7 (nI (V - 1)) (nI v) = (f_X9_lays σm' 0 v6 (nI c) v7).bind fun q2 => some (r, q2) := by
  intro k
  induction k with
  | zero =>
    intro v g g2 b σx σm e1 e2 e3 iX iM
    obtain ⟨g, rfl⟩ : ∃ g', g = g' + 1 := ⟨g - 1, by omega⟩
    obtain ⟨g2, rfl⟩ : ∃ g', g2 = g' + 1 := ⟨g2 - 1, by omega⟩
    have : v = V := by omega
    subst this
    refine ⟨b, σx, σm, hF0 g σx b iX, iX, iM, ?_⟩
    rw [u_X9_tells_182, if_pos (nI_lt (by omega) (by omega))]
  | succ k ih =>
    intro v g g2 b σx σm e1 e2 e3 iX iM
    obtain ⟨g, rfl⟩ : ∃ g', g = g' + 1 := ⟨g - 1, by omega⟩
    obtain ⟨g2, rfl⟩ : ∃ g', g2 = g' + 1 := ⟨g2 - 1, by omega⟩
    have hv : v < V := by omega
    obtain ⟨x1, a1, a2, a3, a4⟩ := hX σx v iX hv
    obtain ⟨y1, b1, b2, b3, b4, b5⟩ := hM σm v iM hv
    obtain ⟨r, x2, c1, c2, c3⟩ := fox (hp v hv) hst a2 a3
    obtain ⟨r', y2, d1, d2, d3⟩ := fom (hp v hv) hst b2 b3 b4
    have er : r' = r := d3.uni c3
    subst er
    rw [hF1 g σx b v iX hv, a1, Option.bind_some, c1, Option.bind_some, u_X9_tells_182, if_neg (nI_nlt (by omega) (by omega)), b1, Option.bind_some, d1, Option.bind_some, nI_1]
    simp only
    by_cases z : r' = -1
    · rw [if_pos z, if_pos z]
      exact ih (v + 1) g g2 _ x2 y2 (by omega) (by omega) (by omega) (a4 x2 c2) (b5 y2 d2)
    · rw [if_neg z, if_neg z, sh0 v (by omega)]
      exact ih (v + 1) g g2 _ x2 y2 (by omega) (by omega) (by omega) (a4 x2 c2) (b5 y2 d2)
theorem Th_.kind {σ : St_} {kd nu fl ni m : Nat} {ce cs cr : Cd_} (h : Th_ σ kd nu fl ni m ce cs cr) (v : Nat) : Th_ (ui_ σ 21 2 (nI v)) v nu fl ni m ce cs cr := by
  obtain ⟨hX, h1, h2, h3, h4, h5, b, e, s, r, g1, q1, q2, q3, q4, g2, g3, g4, g5, a1, a2, a3⟩ := h
  have ar : ∀ {a : Nat} {c : Cd_}, 49 ≤ a → Ar_ σ a c → Ar_ (ui_ σ 21 2 (nI v)) a c := fun ha h => h.congr rfl rfl (fun j => by rw [g_si_ne (by omega)])
  exact ⟨hX, by rw [g_si_ui, if_pos rfl, if_pos rfl], h2, by rw [g_si_ne (by omega)]; exact h3, by rw [g_si_ne (by omega)]; exact h4, by rw [g_si_ne (by omega)]; exact h5, b, e, s, r, g1, q1, q2, q3, q4, g2, g3, g4, g5, ar q1 a1, ar q2 a2, ar q3 a3⟩
theorem Th_.num {σ : St_} {kd nu fl ni m : Nat} {ce cs cr : Cd_} (h : Th_ σ kd nu fl ni m ce cs cr) (v : Nat) : Th_ (ui_ σ 22 1 (nI v)) kd v fl ni m ce cs cr := by
  obtain ⟨hX, h1, h2, h3, h4, h5, b, e, s, r, g1, q1, q2, q3, q4, g2, g3, g4, g5, a1, a2, a3⟩ := h
  have ar : ∀ {a : Nat} {c : Cd_}, 49 ≤ a → Ar_ σ a c → Ar_ (ui_ σ 22 1 (nI v)) a c := fun ha h => h.congr rfl rfl (fun j => by rw [g_si_ne (by omega)])
  exact ⟨hX, by rw [g_si_ne (by omega)]; exact h1, h2, by rw [g_si_ui, if_pos rfl, if_pos rfl], by rw [g_si_ui, if_pos rfl, if_neg (by omega)]; exact h4, by rw [g_si_ui, if_pos rfl, if_neg (by omega)]; exact h5, b, e, s, r, g1, q1, q2, q3, q4, g2, g3, g4, g5, ar q1 a1, ar q2 a2, ar q3 a3⟩
theorem ur21 {σ : St_} (hX : ShX_ σ) {b : Nat} (hb : kd_ σ b = 5) : ShX_ (ur_ σ 21 4 (some b)) := by
  have hbl : b < sn_ σ := by
    rcases Nat.lt_or_ge b (sn_ σ) with z | z
    · exact z
    · have := hX.2.2.2.2.1 b z
      rw [hb] at this
      exact absurd this (by decide)
  refine ⟨hX.1, fun q hq => ?_, hX.2.2.1, hX.2.2.2.1, (up_r σ 21 4 (some b) (fun b' hb' => by cases hb'; exact hbl)).2.2.2.2 hX.2.2.2.2⟩
  rw [g_sr_ur]
  by_cases z : q.1 = 21
  · rw [if_pos z, if_neg ((show ∀ q ∈ rX_, ¬ q.2.1 = 4 ∨ ¬ q.1 = 21 by decide) q hq |>.elim id (fun w => absurd z w))]
    exact hX.2.1 q hq
  · rw [if_neg z]
    exact hX.2.1 q hq
theorem sc_ui {σ : St_} (hX : ShX_ σ) (a k : Nat) (x : Int32) (hz : xZ_ a k) : ScX_ σ (ui_ σ a k x) := ⟨hX, (Fr_.refl _ _).ui a k x (fun z => z hz)⟩
/-- refused, both alike -/
theorem tb_all {σx σm : St_} (h0 : Rel_ σx σm) {tc n : Nat} (hF : RF_ σx σm tc n) (hS : RS_ σx σm) (x1 x2 w w' : Int32) (hw : w' = 0 ↔ w = 0) : ∃ r : Int32, f_X8_refusalOfTold 5000 σx 0 x1 x2 w (nI 20) (nI 36) = some r ∧ f_X9_toldBad 5000 σm 0 x1 x2 w' = some r ∧ (¬ r = 0 ∨ (r = 0 ∧ ∃ (s c sz : Nat) (it : Nat → Nat), c < n ∧ x1 = nI s ∧ x2 = nI c ∧ sz ≤ 20 ∧ Se_ σx σm s sz 36 it)) := by
  have hM := h0.2.1
  have hone := one_b hF.1 hF.2.2.1 x2
  rcases ref_x h0 hF hS x1 x2 w (most := 20) (B := 36) (by omega) (by omega) with ⟨e, hb⟩ | ⟨s, c, hs, hc, rfl, rfl, hx3, hr⟩
  · refine ⟨-2, e, ?_, Or.inl (by decide)⟩
    unfold f_X9_toldBad
    by_cases z1 : f_X9_isSheet x1 = 0
    · rw [if_pos z1]
    rw [if_neg z1]
    by_cases z2 : f_X9_isOne σm 0 x2 = 0
    · rw [if_pos z2]
    rw [if_neg z2]
    rw [if_pos]
    rcases hb with hb | hb | hb
    · exact absurd ((isS_c _).mpr hb) z1
    · exact absurd (hone.mpr hb) z2
    · exact hw.mpr hb
  have hn := hF.1
  have eM : f_X9_toldBad 5000 σm 0 (nI s) (nI c) w' = if si_ σm 15 s = 0 then some (-11) else if si_ σm 17 s ≤ (20 : Int32) then f_X9_toldBad_51 5000 σm 5000 0 (nI s) (nI 0) else some (-2) := by
    unfold f_X9_toldBad
    rw [if_neg (fun z => bel_n hs (by omega) ((isS_c _).mp z)), if_neg (fun z => bel_n hc (by omega) (hone.mp z)), if_neg (fun z => hx3 (hw.mp z)), dm_0_38 hM, Option.bind_some, lm_15 hM, ix_ok hs (by omega), Option.bind_some, dm_0_40 hM, Option.bind_some, lm_17 hM, ix_ok hs (by omega), Option.bind_some]
    rfl
  rw [eM]
  rcases hr with ⟨e, g⟩ | ⟨sz, hz, g1, g2, g3, hr⟩
  · rw [if_pos g]
    exact ⟨-11, e, rfl, Or.inl (by decide)⟩
  rw [if_neg (by rw [g1]; decide), g3]
  obtain ⟨q1, q2⟩ := tb_go hM hs hz g3 sz 0 5000 (by omega) (by omega)
  rcases hr with ⟨e, hr⟩ | ⟨e, hz', it, hSe⟩
  · refine ⟨-2, e, ?_, Or.inl (by decide)⟩
    rcases hr with hr | ⟨h20, j, j1, j2⟩
    · rw [if_neg (show ¬ nI sz ≤ 20 from nI_ge (a := 20) hr (by omega))]
    · rw [if_pos (show nI sz ≤ 20 from nI_le (b := 20) h20 (by omega))]
      exact q2 ⟨j, by omega, j1, j2⟩
  · refine ⟨0, e, ?_, Or.inr ⟨rfl, s, c, sz, it, hc, rfl, rfl, hz', hSe⟩⟩
    rw [if_pos (show nI sz ≤ 20 from nI_le (b := 20) hz' (by omega))]
    exact q1 (fun j _ hj => ⟨it j, (hSe.2.2.2.2 j hj).1, (hSe.2.2.2.2 j hj).2.2⟩)
theorem pre_nz {α : Type} {σx : St_} (hX : ShX_ σx) {n : Nat} (hn : n ≤ 4) (c1 : si_ σx 1 1 = nI n) (x1 x2 : Int32) {r : Int32} (hr : ¬ r = 0) (K : Option Nat → Option Nat → Option α) (A : α) : ((f_X8_sheetAt σx 0 x1).bind fun q7 => (dr_ σx 1 (sr_ σx 0 0)).bind fun b8 => (f_X1_carpetAt σx b8 x2).bind fun q9 => if r = 0 then K q7 q9 else some A) = some A := by
  rcases bel_c x1 (n := 4) (by omega) with b1 | ⟨s, hs, rfl⟩
  · rw [she_n hX x1 b1, Option.bind_some, dx_0_0 hX, Option.bind_some]
    rcases bel_c x2 (n := n) (by omega) with b2 | ⟨c, hc, rfl⟩
    · rw [car_n hX hn c1 x2 b2, Option.bind_some, if_neg hr]
    · rw [car_s hX hn c1 hc, Option.bind_some, if_neg hr]
  · rw [she_s hX hs, Option.bind_some, dx_0_0 hX, Option.bind_some]
    rcases bel_c x2 (n := n) (by omega) with b2 | ⟨c, hc, rfl⟩
    · rw [car_n hX hn c1 x2 b2, Option.bind_some, if_neg hr]
    · rw [car_s hX hn c1 hc, Option.bind_some, if_neg hr]
theorem pre_0 {α : Type} {σx : St_} (hX : ShX_ σx) {n s c : Nat} (hn : n ≤ 4) (c1 : si_ σx 1 1 = nI n) (hs : s < 4) (hc : c < n) (K : Option Nat → Option Nat → Option α) (A : α) : ((f_X8_sheetAt σx 0 (nI s)).bind fun q7 => (dr_ σx 1 (sr_ σx 0 0)).bind fun b8 => (f_X1_carpetAt σx b8 (nI c)).bind fun q9 => if (0 : Int32) = 0 then K q7 q9 else some A) = K (some (2 * s + 41)) (some (c + 3)) := by
  rw [she_s hX hs, Option.bind_some, dx_0_0 hX, Option.bind_some, car_s hX hn c1 hc, Option.bind_some, if_pos rfl]
theorem told_5 {σ : St_} (hM : ShM_ σ) {n c : Nat} (hn : n ≤ 4) (c2 : si_ σ 0 11 = nI n) (hc : c < n) : f_X9_told 5000 σ 0 (nI c) 5 = some (si_ σ 5 c, σ) := by
  unfold f_X9_told f_X9_told_26
  have ho : f_X9_isOf σ 0 5 (nI c) = 1 := by
    unfold f_X9_isOf
    rw [if_neg (by decide), if_neg (by decide), if_neg (fun z => bel_n hc (by omega) ((one_b hn c2 (nI c)).mp z))]
  rw [if_neg (by decide +kernel), ho, if_neg (by decide), if_pos (by decide), if_pos (by decide), if_pos (by decide), if_pos rfl, dm_0_9 hM, Option.bind_some, lm_5 hM, ix_ok (by omega) (by omega), Option.bind_some]
theorem told_2 {σ : St_} (hM : ShM_ σ) {n c : Nat} (hn : n ≤ 4) (c2 : si_ σ 0 11 = nI n) (hc : c < n) : f_X9_told 5000 σ 0 (nI c) 2 = some (si_ σ 6 (3 * c), σ) := by
  unfold f_X9_told f_X9_told_26
  have ho : f_X9_isOf σ 0 2 (nI c) = 1 := by
    unfold f_X9_isOf
    rw [if_neg (by decide), if_neg (by decide), if_neg (fun z => bel_n hc (by omega) ((one_b hn c2 (nI c)).mp z))]
  have e : ix_ (((3 : Int32) * nI c + 2) - 2) 12 = some (3 * c) := ix_rd c (by omega) 0 (by omega)
  rw [if_neg (by decide +kernel), ho, if_neg (by decide), if_pos (by decide), if_pos (by decide), if_neg (by decide), dm_0_10 hM, Option.bind_some, lm_6 hM, e, Option.bind_some]
theorem lay_5 {σ : St_} (hM : ShM_ σ) {c : Nat} (hc : c < 4) (x : Int32) : f_X9_lays σ 0 5 (nI c) x = some (ui_ σ 5 c x) := by
  unfold f_X9_lays
  rw [if_neg (by decide), if_neg (by decide), if_pos (by decide), if_pos rfl, dm_0_9 hM, Option.bind_some, lm_5 hM, ix_ok hc (by omega), Option.bind_some]
theorem lay_2 {σ : St_} (hM : ShM_ σ) {c : Nat} (hc : c < 4) (x : Int32) : f_X9_lays σ 0 2 (nI c) x = some (ui_ σ 6 (3 * c) x) := by
  have e : ix_ (((3 : Int32) * nI c + 2) - 2) 12 = some (3 * c) := ix_rd c (by omega) 0 (by omega)
  unfold f_X9_lays
  rw [if_neg (by decide), if_neg (by decide), if_neg (by decide), dm_0_10 hM, Option.bind_some, lm_6 hM, e, Option.bind_some]
theorem lay_6 (σ : St_) (c x : Int32) : f_X9_lays σ 0 6 c x = some (ui_ σ 0 4 x) := by
  unfold f_X9_lays
  rw [if_neg (by decide), if_neg (by decide), if_pos (by decide), if_neg (by decide)]
