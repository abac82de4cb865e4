/-! SHORTEST -/
/-- far and near, to some -/
def Fy_ (G : Nat → Nat → Nat) (N : Nat) (D : Nat → Prop) (f : Nat → Nat) : Prop := ∀ v, v < N → (f v = 1000000 ∧ ∀ r, Wd_ r → ¬ D (go_ G v r)) ∨ (f v < N ∧ (∃ r, Wd_ r ∧ r.length = f v ∧ D (go_ G v r)) ∧ ∀ r, Wd_ r → D (go_ G v r) → f v ≤ r.length)
section
variable {G : Nat → Nat → Nat} {N : Nat} {D : Nat → Prop} {f : Nat → Nat}
theorem Fy_.le (h : Fy_ G N D f) (hN : N ≤ 1000000) {v : Nat} (hv : v < N) : f v ≤ 1000000 := by
  rcases h v hv with ⟨a, -⟩ | ⟨a, -⟩ <;> omega
theorem Fy_.zero (h : Fy_ G N D f) (hN : N ≤ 1000000) {v : Nat} (hv : v < N) : f v = 0 ↔ D v := by
  rcases h v hv with ⟨a, b⟩ | ⟨a, ⟨r, r1, r2, r3⟩, b⟩
  · exact ⟨fun z => by omega, fun z => absurd z (b [] Wd_.nil)⟩
  · refine ⟨fun z => ?_, fun z => ?_⟩
    · rw [z] at r2
      have : r = [] := List.length_eq_zero_iff.mp r2
      subst this
      exact r3
    · have := b [] Wd_.nil z
      exact Nat.le_zero.mp this
/-- the first word that leads nearer -/
theorem Fy_.step (h : Fy_ G N D f) (hN : N < 1000000) (hG : ∀ u w, u < N → w < 8 → G u w < N) {v d : Nat} (hv : v < N) (e : f v = d + 1) (hd : d + 1 < 1000000) : ∃ w, w < 8 ∧ f (G v w) = d ∧ ∀ w', w' < w → f (G v w') ≠ d := by
  have ge : ∀ w, w < 8 → d ≤ f (G v w) := fun w hw => by
    rcases h v hv with ⟨a, b⟩ | ⟨a, -, b⟩
    · omega
    · rcases h (G v w) (hG v w hv hw) with ⟨a', b'⟩ | ⟨a', ⟨r, r1, r2, r3⟩, b'⟩
      · omega
      · have := b (w :: r) (Wd_.cons.mpr ⟨hw, r1⟩) r3
        rw [List.length_cons] at this
        omega
  have ex : ∃ w, w < 8 ∧ f (G v w) = d := by
    rcases h v hv with ⟨a, b⟩ | ⟨a, ⟨r, r1, r2, r3⟩, b⟩
    · omega
    · cases r with
      | nil => rw [e] at r2; exact absurd r2 (by simp)
      | cons w r =>
        obtain ⟨k1, k2⟩ := Wd_.cons.mp r1
        refine ⟨w, k1, ?_⟩
        rw [List.length_cons] at r2
        have h1 := ge w k1
        rcases h (G v w) (hG v w hv k1) with ⟨a', b'⟩ | ⟨a', -, b'⟩
        · exact absurd r3 (b' r k2)
        · have := b' r k2 r3
          omega
  obtain ⟨w, ⟨h1, h2⟩, h3⟩ := pk_least (fun w => w < 8 ∧ f (G v w) = d) ex
  exact ⟨w, h1, h2, fun w' hw' z => h3 w' hw' ⟨by omega, z⟩⟩
theorem Fy_.mr0 {v : Nat} (h : D v) : Mr_ G D v [] := ⟨Wd_.nil, h, fun r' _ _ => by show 0 ≤ _; omega⟩
theorem Fy_.mrs (h : Fy_ G N D f) (hN : N < 1000000) (hG : ∀ u w, u < N → w < 8 → G u w < N) {v d w : Nat} (hv : v < N) (e : f v = d + 1) (hd : d + 1 < 1000000) (hw : w < 8) (hl : ∀ w', w' < w → f (G v w') ≠ d) {r : List Nat} (hr : Mr_ G D (G v w) r) (hrl : r.length = d) : Mr_ G D v (w :: r) := by
  rcases h v hv with ⟨a, b⟩ | ⟨a, -, b⟩
  · omega
  refine hr.cons hw (fun r' h1 h2 => by have := b r' h1 h2; omega) (fun w' hw' r' h1 h2 h3 => ?_)
  refine hl w' hw' ?_
  rcases h (G v w') (hG v w' hv (by omega)) with ⟨a', b'⟩ | ⟨a', ⟨r2, r3, r4, r5⟩, b'⟩
  · exact absurd h3 (b' r' h1)
  · have k1 := b' r' h1 h3
    have k2 := b (w' :: r2) (Wd_.cons.mpr ⟨by omega, r3⟩) r5
    rw [List.length_cons] at k2
    omega
end
section
variable {G : Nat → Nat → Nat} {σ : St_} {f : Nat → Nat}
theorem sh_104 (hM : ShM_ σ) (hT : Tb_ σ 7 G) (hG : ∀ u w, u < 36 → w < 8 → G u w < 36) (hF : Fa_ σ 9 36 f) (hf : ∀ v, v < 36 → f v ≤ 1000000) {v d w0 : Nat} (hv : v < 36) (e : f v = d + 1) (hw0 : w0 < 8) (e0 : f (G v w0) = d) (hl : ∀ w', w' < w0 → f (G v w') ≠ d) (x2 : Int32) (acc : Nat) (Kt : St_ → Nat → Int32 → Int32 → Int32 → Option (Int32 × St_)) : ∀ (k w g : Nat), w + k = w0 → k < g → f_X9_shortest_104 5000 Kt g σ 0 x2 (nI v) (nI acc) (nI w) = Kt σ 0 x2 (nI (G v w0)) (nI (10 * acc + w0 + 1)) := by
  have hfv := hf v hv
  intro k
  induction k with
  | zero =>
    intro w g h1 h2
    obtain ⟨g, rfl⟩ : ∃ g', g = g' + 1 := ⟨g - 1, by omega⟩
    have : w = w0 := by omega
    subst this
    have hg := hG v w hv hw0
    rw [u_X9_shortest_104, dm_0_29 hM, Option.bind_some, dm_0_27 hM, Option.bind_some, c8, lm_7 hM, ix_ok (by omega) (by omega), Option.bind_some, hT (8 * v + w) (by omega), show (8 * v + w) / 8 = v by omega, show (8 * v + w) % 8 = w by omega, lm_9 hM, ix_ok hg (by omega), Option.bind_some, ix_ok hv (by omega), Option.bind_some, hF _ hg, hF v hv, e0, e, nI_pred, if_pos rfl, Option.bind_some, hT (8 * v + w) (by omega), show (8 * v + w) / 8 = v by omega, show (8 * v + w) % 8 = w by omega]
    congr 1
    show nI 10 * nI acc + nI w + 1 = _
    rw [pk_mul, nI_add, nI_1]
  | succ k ih =>
    intro w g h1 h2
    obtain ⟨g, rfl⟩ : ∃ g', g = g' + 1 := ⟨g - 1, by omega⟩
    have hg := hG v w hv (by omega)
    have hfg := hf _ hg
    rw [u_X9_shortest_104, dm_0_29 hM, Option.bind_some, dm_0_27 hM, Option.bind_some, c8, lm_7 hM, ix_ok (by omega) (by omega), Option.bind_some, hT (8 * v + w) (by omega), show (8 * v + w) / 8 = v by omega, show (8 * v + w) % 8 = w by omega, lm_9 hM, ix_ok hg (by omega), Option.bind_some, ix_ok hv (by omega), Option.bind_some, hF _ hg, hF v hv, e, nI_pred, if_neg (fun y => hl w (by omega) ((nI_eq (by omega) (by omega)).mp y)), nI_1]
    exact ih (w + 1) g (by omega) (by omega)
theorem sh_95 (hM : ShM_ σ) (hT : Tb_ σ 7 G) (hG : ∀ u w, u < 36 → w < 8 → G u w < 36) (hF : Fa_ σ 9 36 f) {on : Nat} (hon : on < 36) (hy : Fy_ G 36 (fun v => v = on) f) : ∀ (d g v acc : Nat), d < g → v < 36 → f v = d → d < 36 → ∃ r, Mr_ G (fun v => v = on) v r ∧ r.length = d ∧ f_X9_shortest_95 5000 g σ 0 (nI on) (nI v) (nI acc) = some (nI (acc * 10 ^ d + nm_ r), σ) := by
  intro d
  induction d with
  | zero =>
    intro g v acc h1 hv e h3
    obtain ⟨g, rfl⟩ : ∃ g', g = g' + 1 := ⟨g - 1, by omega⟩
    have ev : v = on := (hy.zero (by omega) hv).mp e
    refine ⟨[], Fy_.mr0 ev, rfl, ?_⟩
    rw [u_X9_shortest_95, if_pos (by rw [ev])]
    show some (nI acc, σ) = some (nI (acc * 1 + 0), σ)
    rw [Nat.mul_one, Nat.add_zero]
  | succ d ih =>
    intro g v acc h1 hv e h3
    obtain ⟨g, rfl⟩ : ∃ g', g = g' + 1 := ⟨g - 1, by omega⟩
    have nv : ¬ v = on := fun z => by
      have := (hy.zero (by omega) hv).mpr z
      omega
    obtain ⟨w, hw, e0, hl⟩ := hy.step (by omega) hG hv e (by omega)
    have hg := hG v w hv hw
    obtain ⟨r, r1, r2, r3⟩ := ih g (G v w) (10 * acc + w + 1) (by omega) hg e0 (by omega)
    refine ⟨w :: r, hy.mrs (by omega) hG hv e (by omega) hw hl r1 r2, by rw [List.length_cons, r2], ?_⟩
    have := sh_104 hM hT hG hF (fun v hv => hy.le (by omega) hv) hv e hw e0 hl (nI on) acc (f_X9_shortest_95 5000 g) w 0 5000 (by omega) (by omega)
    have t : f_X9_shortest_104 5000 (f_X9_shortest_95 5000 g) 5000 σ 0 (nI on) (nI v) (nI acc) 0 = _ := this
    rw [u_X9_shortest_95, if_neg (nI_ne (by omega) (by omega) nv), t, r3, nm_cons, r2, Nat.pow_succ]
    congr 2
    have : (10 * acc + w + 1) * 10 ^ d = acc * (10 ^ d * 10) + (w + 1) * 10 ^ d := by
      rw [Nat.add_assoc, Nat.add_mul, Nat.mul_comm 10 acc, Nat.mul_assoc, Nat.mul_comm 10 (10 ^ d)]
    congr 1
    omega
end
theorem dig_30 {G : Nat → Nat → Nat} {b s N : Nat} {q K L : Nat → Nat} {σ : St_} (hb : b = 24 ∨ b = 30) (hX : ShX_ σ) (hx : Wx_ σ b G s N q K L N 0) {far : Nat} (hfar : far < 36) : ∀ (k t g j dg pl : Nat), t + k = far → k < g → j < N → L j = k → f_X7_digitsTo_30 5000 σ g b (nI far) (nI dg) (nI pl) (nI (q j)) (nI t) = some (nI (dg + pl * K j)) := by
  obtain ⟨⟨d0, d1, d2, d3, d4⟩, l1, l2, l3, l4, l5⟩ := way_s hX hb
  obtain ⟨x1, x2, x3, x4, x5, x6, -, -, x11, x12, x13, x14⟩ := hx
  intro k
  induction k with
  | zero =>
    intro t g j dg pl h1 h2 hj hl
    obtain ⟨g, rfl⟩ : ∃ g', g = g' + 1 := ⟨g - 1, by omega⟩
    have : j = 0 := by
      rcases Nat.eq_zero_or_pos j with z | z
      · exact z
      · obtain ⟨i', w', a1, a2, a3, a4, a5, a6⟩ := x5 j z hj
        omega
    subst this
    rw [u_X7_digitsTo_30, if_pos (nI_le (by omega) (by omega)), x13, Nat.mul_zero, Nat.add_zero]
  | succ k ih =>
    intro t g j dg pl h1 h2 hj hl
    obtain ⟨g, rfl⟩ : ∃ g', g = g' + 1 := ⟨g - 1, by omega⟩
    have h0 : 0 < j := by
      rcases Nat.eq_zero_or_pos j with z | z
      · subst z; omega
      · exact z
    obtain ⟨i', w', a1, a2, a3, a4, a5, a6⟩ := x5 j h0 hj
    have hq := (x3 j hj).1
    have go := ih (t + 1) g i' (dg + (w' + 1) * pl) (pl * 10) (by omega) (by omega) (by omega) (by omega)
    rw [u_X7_digitsTo_30, if_neg (nI_ge (by omega) (by omega)), if_neg (show ¬ f_X8_isBelow (nI (q j)) 36 = 0 from bel_n (n := 36) hq (by omega)), d2, Option.bind_some, l3, ix_ok hq (by omega), Option.bind_some, d1, Option.bind_some, l2, ix_ok hq (by omega), Option.bind_some, a3, a4, nI_1, nI_1, pk_mul, nI_add, show nI pl * 10 = nI (pl * 10) from pk_mul pl 10, go, a5]
    congr 2
    have : pl * (10 * K i' + w' + 1) = (w' + 1) * pl + pl * 10 * K i' := by
      rw [Nat.add_assoc, Nat.mul_add, Nat.mul_comm pl (w' + 1), Nat.mul_assoc, Nat.add_comm]
    omega
theorem sim_shortest : Sim_shortest Rel_ := by
  intro σx σm h x1 x2 x3
  show ∃ (r : Int32) (σx' : St_) (σm' : St_), f_X8_shortest 5000 σx 0 x1 x2 x3 = some (r, σx') ∧ f_X9_shortest 5000 σm 0 x1 x2 x3 = some (r, σm') ∧ Rel_ σx' σm'
  have h0 := h
  obtain ⟨hX, hM, tc, n, hT, hF, hK, hP, hS⟩ := h
  have hn := hF.1
  have c1 := hF.2.1
  have c2 := hF.2.2.1
  have hone := one_b hn c2 x1
  have i3 := in_c (x := x3) (n := 1) (1 : Int64) rfl (by omega)
  unfold f_X8_shortest f_X9_shortest
  rcases bel_c x2 (n := 36) (by omega) with b | ⟨on, hon, rfl⟩
  · rw [if_pos (show f_X8_isBelow x2 36 = 0 from b), if_pos ((isC_c _).mpr b)]
    refine ⟨_, σx, σm, rfl, ?_, h0⟩
    split <;> rfl
  rw [if_neg (show ¬ f_X8_isBelow (nI on) 36 = 0 from bel_n (n := 36) hon (by omega)), if_neg (fun z => bel_n hon (by omega) ((isC_c _).mp z))]
  rcases bel_c x3 (n := 2) (by omega) with b | ⟨w, hw, rfl⟩
  · rw [if_pos (show f_X8_isBelow x3 2 = 0 from b), if_pos (i3.mpr b)]
    refine ⟨_, σx, σm, rfl, ?_, h0⟩
    split <;> rfl
  rw [if_neg (show ¬ f_X8_isBelow (nI w) 2 = 0 from bel_n (n := 2) hw (by omega)), if_neg (fun z => bel_n hw (by omega) (i3.mp z)), dx_0_8 hX, Option.bind_some]
  rcases bel_c x1 (n := n) (by omega) with b1 | ⟨c, hc, rfl⟩
  · rw [xpl_n hX hn c1 24 x1 b1, Option.bind_some, if_pos rfl, if_pos (hone.mpr b1)]
    exact ⟨_, _, _, rfl, rfl, h0⟩
  rw [if_neg (fun z => bel_n hc (by omega) (hone.mp z))]
  obtain ⟨G, s, N, q, K, L, σ1, σ', hs, e1, -, -, hsc, hW, mo, hg⟩ := xpl_s h0 hT hF hc (b := 24) (Or.inl rfl)
  rw [e1, Option.bind_some, if_neg (show ¬ ((1 : Int32), σ').1 = 0 by show ¬ (1 : Int32) = 0; decide)]
  obtain ⟨s1, e2, z1, t1⟩ := hg.tab (a := 7) (Or.inl rfl)
  obtain ⟨s2, f, e3, z2, t2, F2, X2⟩ := gathers_ok hg.lt z1.1 t1 hon
  have hy : Fy_ G 36 (fun v => v = on) f := X2
  have sc2 : ScM_ σm s2 := (z1.sc (by omega) (by omega)).trans (z2.sc (by omega) (by omega))
  have mo2 : si_ s2 6 (3 * c + 1) = nI s := ((z2.2.i (by omega)).trans (z1.2.i ⟨by omega, by simp [mG_]⟩)).trans mo
  rw [dm_0_27 hM, Option.bind_some, e2, Option.bind_some, e3, Option.bind_some, dm_0_10 sc2.1, Option.bind_some, lm_6 sc2.1, ix_r1 c (by omega), Option.bind_some, dm_0_29 sc2.1, Option.bind_some, mo2, lm_9 sc2.1, ix_ok hs (by omega), Option.bind_some, F2 s hs]
  have hfs := hy.le (by omega) hs
  have d8 := dx_0_8 hsc.1
  have eA : f_X7_stepsTo σ' 24 (nI on) = some (si_ σ' 25 on) := by
    unfold f_X7_stepsTo
    rw [if_neg (show ¬ f_X8_isBelow (nI on) 36 = 0 from bel_n (n := 36) hon (by omega)), dx_24_0 hsc.1, Option.bind_some, lx_25 hsc.1, ix_ok hon (by omega), Option.bind_some]
  by_cases hr : ∃ j, j < N ∧ q j = on
  · obtain ⟨j, hj, ej⟩ := hr
    subst ej
    obtain ⟨r, hmr, r4, r5⟩ := hW.mr hj
    obtain ⟨a1, a2, a3, a4⟩ := hW.1.2.2.1 j hj
    have hN := hW.1.1
    have efs : f s = L j ∧ f s < 36 := by
      rcases hy s hs with ⟨a, b⟩ | ⟨a, ⟨r', k1, k2, k3⟩, b⟩
      · exact absurd hmr.2.1 (b r hmr.1)
      · have h1 := b r hmr.1 hmr.2.1
        have h2 := hmr.len k1 k3
        omega
    have a3' : si_ σ' 25 (q j) = nI (L j) := a3
    rw [if_neg (show ¬ nI (f s) = 1000000 from fun y => by have := (nI_eq (b := 1000000) (by omega) (by omega)).mp y; omega)]
    by_cases z : w = 0
    · subst z
      rw [if_pos (show nI 0 = 0 from rfl), if_neg (show ¬ nI 0 = 1 by decide), if_pos (show nI 0 = 0 from rfl)]
      show ∃ r σx' σm', ((dr_ σ' 7 (sr_ σ' 0 8)).bind fun b17 => (f_X7_stepsTo σ' b17 (nI (q j))).bind fun q18 => some (q18, σ')) = some (r, σx') ∧ _
      rw [d8, Option.bind_some, eA, Option.bind_some, a3', efs.1]
      exact ⟨_, _, _, rfl, rfl, h0.sc hsc sc2⟩
    · have : w = 1 := by omega
      subst this
      rw [if_neg (show ¬ nI 1 = 0 by decide), if_pos (show nI 1 = 1 from rfl), if_neg (show ¬ nI 1 = 0 by decide)]
      show ∃ r σx' σm', ((dr_ σ' 7 (sr_ σ' 0 8)).bind fun b17 => (f_X7_digitsTo 5000 σ' b17 (nI (q j))).bind fun q18 => some (q18, σ')) = some (r, σx') ∧ _
      unfold f_X7_digitsTo
      rw [d8, Option.bind_some, eA, Option.bind_some, a3', efs.1, if_neg ((show ∀ j, j < 36 → ¬ nI j = (-1 : Int32) by decide +kernel) _ (by omega))]
      by_cases y : L j ≤ 9
      · have y' : nI (L j) ≤ 9 := nI_le (b := 9) y (by omega)
        rw [if_pos y', if_pos y']
        have k1 := dig_30 (Or.inl rfl) hsc.1 hW.1 (far := L j) (by omega) (L j) 0 5000 j 0 1 (by omega) (by omega) hj rfl
        have k1' : f_X7_digitsTo_30 5000 σ' 5000 24 (nI (L j)) 0 1 (nI (q j)) 0 = some (nI (0 + 1 * K j)) := k1
        obtain ⟨r2, m1, m2, m3⟩ := sh_95 sc2.1 t2 hg.lt F2 hon hy (f s) 5000 s 0 (by omega) hs rfl efs.2
        have m3' : f_X9_shortest_95 5000 5000 s2 0 (nI (q j)) (nI s) 0 = some (nI (0 * 10 ^ f s + nm_ r2), s2) := m3
        rw [k1', m3', Option.bind_some, Nat.zero_add, Nat.zero_mul, Nat.zero_add, Nat.one_mul, ← r4, hmr.uni m1]
        exact ⟨_, _, _, rfl, rfl, h0.sc hsc sc2⟩
      · have y' : ¬ nI (L j) ≤ 9 := nI_ge (a := 9) (by omega) (by omega)
        rw [if_neg y', if_neg y', Option.bind_some]
        exact ⟨_, _, _, rfl, rfl, h0.sc hsc sc2⟩
  · have a3' : si_ σ' 25 on = -1 := hW.1.2.2.2.1 on hon (fun j hj e => hr ⟨j, hj, e⟩)
    have efs : f s = 1000000 := by
      rcases hy s hs with ⟨a, b⟩ | ⟨a, ⟨r', k1, k2, k3⟩, b⟩
      · exact a
      · exact absurd ((hW.row on).mpr ⟨r', k1, k3⟩) hr
    rw [efs, if_pos (show nI 1000000 = 1000000 from rfl)]
    by_cases z : w = 0
    · subst z
      rw [if_pos (show nI 0 = 0 from rfl)]
      show ∃ r σx' σm', ((dr_ σ' 7 (sr_ σ' 0 8)).bind fun b17 => (f_X7_stepsTo σ' b17 (nI on)).bind fun q18 => some (q18, σ')) = some (r, σx') ∧ _
      rw [d8, Option.bind_some, eA, Option.bind_some, a3']
      exact ⟨_, _, _, rfl, rfl, h0.sc hsc sc2⟩
    · rw [if_neg (nI_ne0 (by omega) (by omega))]
      show ∃ r σx' σm', ((dr_ σ' 7 (sr_ σ' 0 8)).bind fun b17 => (f_X7_digitsTo 5000 σ' b17 (nI on)).bind fun q18 => some (q18, σ')) = some (r, σx') ∧ _
      unfold f_X7_digitsTo
      rw [d8, Option.bind_some, eA, Option.bind_some, a3', if_pos rfl, Option.bind_some]
      exact ⟨_, _, _, rfl, rfl, h0.sc hsc sc2⟩
