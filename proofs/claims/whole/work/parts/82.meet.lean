/-! MEET -/
theorem nm_inj : ∀ (n : Nat) (r r' : List Nat), r.length = n → Wd_ r → Wd_ r' → nm_ r = nm_ r' → r = r' := by
  intro n
  induction n with
  | zero =>
    intro r r' h h1 h2 e
    have l := nm_len h2 h1 (by omega)
    have : r = [] := List.length_eq_zero_iff.mp h
    subst this
    exact (List.length_eq_zero_iff.mp (by simpa using l)).symm
  | succ n ih =>
    intro r r' h h1 h2 e
    have l1 := nm_len h2 h1 (by omega)
    have l2 := nm_len h1 h2 (by omega)
    rcases snoc_c r with rfl | ⟨a, w, rfl⟩
    · exact absurd h (by simp)
    rcases snoc_c r' with rfl | ⟨a', w', rfl⟩
    · rw [h] at l2; exact absurd l2 (by simp)
    obtain ⟨k1, k2⟩ := Wd_.snoc.mp h1
    obtain ⟨k3, k4⟩ := Wd_.snoc.mp h2
    rw [nm_snoc, nm_snoc] at e
    have ew : w = w' := by omega
    have ea := ih a a' (by rw [List.length_append] at h; simp at h; exact h) k1 k3 (by omega)
    rw [ea, ew]
theorem think_fr {σ σ1 : St_} (hX : ShX_ σ) {a : Nat} (h : f_X8_think σ 0 a = some σ1) : ∀ r k, r ≠ 21 → r ≠ 22 → si_ σ1 r k = si_ σ r k := by
  unfold f_X8_think at h
  rw [dx_0_7 hX, Option.bind_some, dx_0_0 hX, Option.bind_some] at h
  obtain ⟨q4, e4, h⟩ := ob_ h
  unfold f_X6_takeUp at e4
  rw [show dr_ (ul_ (ui_ σ 21 2 (si_ σ a 0)) 21 3 (sl_ σ 1 4)) 10 (sr_ (ul_ (ui_ σ 21 2 (si_ σ a 0)) 21 3 (sl_ σ 1 4)) 21 0) = some 22 from dx_21_0 hX, Option.bind_some] at e4
  obtain ⟨j5, -, e4⟩ := ob_ e4
  obtain ⟨j6, -, e4⟩ := ob_ e4
  obtain ⟨j7, -, e4⟩ := ob_ e4
  have k4 := Option.some.inj e4
  have fr : ∀ r k, r ≠ 21 → r ≠ 22 → si_ q4 r k = si_ σ r k := fun r k n1 n2 => by
    rw [← k4, g_si_ne n2, g_si_ne n2, g_si_ne n2]
    show si_ (ui_ σ 21 2 _) r k = _
    rw [g_si_ne n1]
  obtain ⟨b5, -, h⟩ := ob_ h
  obtain ⟨b6, -, h⟩ := ob_ h
  obtain ⟨q7, -, h⟩ := ob_ h
  obtain ⟨q8, e8, h⟩ := ob_ h
  have k8 := Option.some.inj h
  unfold f_X6_goBy at e8
  split at e8
  · have k9 := Option.some.inj e8
    intro r k n1 n2
    rw [← k8, ← k9]
    exact fr r k n1 n2
  · cases e8
theorem gof_e2 {σ σ' : St_} (hX : ShX_ σ) (hX' : ShX_ σ') {b : Nat} (hb : b = 24 ∨ b = 30) (hj : ∀ j, si_ σ' (b + 5) j = si_ σ (b + 5) j) (u w : Int32) : f_X7_goalOf σ' b u w = f_X7_goalOf σ b u w := by
  obtain ⟨⟨d0, d1, d2, d3, d4⟩, l1, l2, l3, l4, l5⟩ := way_s hX hb
  obtain ⟨⟨d0', d1', d2', d3', d4'⟩, l1', l2', l3', l4', l5'⟩ := way_s hX' hb
  unfold f_X7_goalOf
  rw [d4, d4', Option.bind_some, Option.bind_some, l5, l5']
  rw [show (fun j7 => some (si_ σ' (b + 5) j7)) = (fun j7 => some (si_ σ (b + 5) j7)) from funext fun j => by rw [hj j]]
theorem sim_meet : Sim_meet Rel_ := by
  intro σx σm h x1 x2 x3
  show ∃ (r : Int32) (σx' : St_) (σm' : St_), f_X8_meet 5000 σx 0 x1 x2 x3 = some (r, σx') ∧ f_X9_meet 5000 σm 0 x1 x2 x3 = some (r, σm') ∧ Rel_ σx' σm'
  have h0 := h
  obtain ⟨hX, hM, tc, n, hT, hF, hK, hP, hS⟩ := h
  have hn := hF.1
  have c1 := hF.2.1
  have c2 := hF.2.2.1
  have hone := fun x => one_b hn c2 x
  have i3 := in_c (x := x3) (n := 1) (1 : Int64) rfl (by omega)
  unfold f_X8_meet f_X9_meet
  by_cases z : x1 = x2
  · rw [if_pos z]
    refine ⟨_, σx, σm, rfl, ?_, h0⟩
    split
    · rfl
    · split
      · rfl
      · rfl
  rw [if_neg z]
  rcases bel_c x3 (n := 2) (by omega) with b | ⟨w, hw, rfl⟩
  · rw [if_pos (show f_X8_isBelow x3 2 = 0 from b)]
    refine ⟨_, σx, σm, rfl, ?_, h0⟩
    split
    · rfl
    · split
      · rfl
      · rw [if_pos (i3.mpr b)]
  rw [if_neg (show ¬ f_X8_isBelow (nI w) 2 = 0 from bel_n (n := 2) hw (by omega)), if_neg z, if_neg (fun z => bel_n hw (by omega) (i3.mp z)), dx_0_8 hX, Option.bind_some]
  rcases bel_c x1 (n := n) (by omega) with b1 | ⟨c, hc, rfl⟩
  · rw [xpl_n hX hn c1 24 x1 b1, Option.bind_some, if_pos rfl, if_pos ((hone x1).mpr b1)]
    exact ⟨_, _, _, rfl, rfl, h0⟩
  rw [if_neg (fun z => bel_n hc (by omega) ((hone _).mp z))]
  obtain ⟨G1, s1, N1, q1, K1, L1, -, σ1, hs1, e1, -, -, hsc1, hW1, mo1, hg1⟩ := xpl_s h0 hT hF hc (b := 24) (Or.inl rfl)
  rw [e1, Option.bind_some, if_neg (show ¬ ((1 : Int32), σ1).1 = 0 by show ¬ (1 : Int32) = 0; decide)]
  dsimp only
  have hX1 := hsc1.1
  have hR1 := h0.sc hsc1 (ScM_.refl hM)
  have c1' : si_ σ1 1 1 = nI n := (hsc1.2.i (by simp [xZ_])).trans c1
  rw [dx_0_9 hX1, Option.bind_some]
  rcases bel_c x2 (n := n) (by omega) with b2 | ⟨c', hc', rfl⟩
  · rw [xpl_n hX1 hn c1' 30 x2 b2, Option.bind_some, if_pos rfl, if_pos ((hone x2).mpr b2)]
    exact ⟨_, _, _, rfl, rfl, hR1⟩
  rw [if_neg (fun z => bel_n hc' (by omega) ((hone _).mp z))]
  have hR1' := hR1
  obtain ⟨-, -, tc1, n1, hT1, hF1, -, -, -⟩ := hR1'
  have en : n1 = n := (nI_eq (by have := hF1.1; omega) (by omega)).mp (hF1.2.1.symm.trans c1')
  subst en
  obtain ⟨G2, s2, N2, q2, K2, L2, σt, σ2, hs2, e2, eth, xb, hsc2, hW2, mo2, hg2⟩ := xpl_s hR1 hT1 hF1 hc' (b := 30) (Or.inr rfl)
  rw [e2, Option.bind_some, if_neg (show ¬ ((1 : Int32), σ2).1 = 0 by show ¬ (1 : Int32) = 0; decide)]
  dsimp only
  have hX2 := hsc2.1
  have fr : ∀ r k, 24 ≤ r → r < 30 → si_ σ2 r k = si_ σ1 r k := fun r k k1 k2 => (xb.2.i ⟨by simp only [xG_]; omega, by omega⟩).trans (think_fr hX1 eth r k (by omega) (by omega))
  have g1 : Gf_ σ2 24 G1 s1 := fun r w hr hw => by
    rw [gof_e2 hX1 hX2 (Or.inl rfl) (fun j => fr _ _ (by omega) (by omega))]
    exact hW1.gf (Or.inl rfl) hX1 r w hr hw
  have g2 : Gf_ σ2 30 G2 s2 := hW2.gf (Or.inr rfl) hX2
  have o1 : si_ σ2 28 0 = nI s1 := by
    rw [fr _ _ (by omega) (by omega), show si_ σ1 28 0 = nI (q1 0) from (hW1.1.2.2.1 0 hW1.1.2.2.2.2.2.2.2.2.1).2.1, hW1.1.2.2.2.2.2.2.2.2.2.2.2]
  have o2 : si_ σ2 34 0 = nI s2 := by
    rw [show si_ σ2 34 0 = nI (q2 0) from (hW2.1.2.2.1 0 hW2.1.2.2.2.2.2.2.2.2.1).2.1, hW2.1.2.2.2.2.2.2.2.2.2.2.2]
  obtain ⟨σ3, e3, xp, hres⟩ := seek_ok hg1.lt hg2.lt hs1 hs2 hX2 g1 g2 o1 o2
  rw [dx_0_10 hX2, Option.bind_some, dx_0_8 hX2, Option.bind_some, dx_0_9 hX2, Option.bind_some, e3, Option.bind_some, dx_0_10 xp.1, Option.bind_some, Option.bind_some]
  have scx : ScX_ σx σ3 := (hsc1.trans hsc2).trans xp.sc
  obtain ⟨m1, f1, z1, t1⟩ := hg1.tab (a := 7) (Or.inl rfl)
  have sc1 := z1.sc (by omega) (by omega)
  obtain ⟨m2, f2, z2, t2⟩ := (hg2.sc sc1).tab (a := 8) (Or.inr rfl)
  have sc2 := z2.sc (by omega) (by omega)
  have t1' : Tb_ m2 7 G1 := fun k hk => (z2.2.i ⟨by omega, by simp [mG_]⟩).trans (t1 k hk)
  obtain ⟨m3, f, f3, z3, u1, u2, F3, hy⟩ := both_ok hg1.lt hg2.lt z2.1 t1' t2
  have sc3 := z3.sc (by omega) (by omega)
  have scm := (sc1.trans sc2).trans sc3
  have mo1' : si_ m3 6 (3 * c + 1) = nI s1 := (scm.2.i (by simp [mZ_])).trans mo1
  have mo2' : si_ m3 6 (3 * c' + 1) = nI s2 := (scm.2.i (by simp [mZ_])).trans mo2
  have hM3 := scm.1
  have hp : 36 * s1 + s2 < 1296 := by omega
  rw [dm_0_27 hM, Option.bind_some, f1, Option.bind_some, dm_0_28 z1.1, Option.bind_some, f2, Option.bind_some, f3, Option.bind_some, dm_0_10 hM3, Option.bind_some, lm_6 hM3, ix_r1 c (by omega), Option.bind_some, ix_r1 c' (by omega), Option.bind_some, dm_0_30 hM3, Option.bind_some, mo1', mo2', c36, lm_10 hM3, ix_ok hp (by omega), Option.bind_some, F3 _ hp]
  have hfl := hy.le (by omega) hp
  rcases hres with ⟨k1, k2, k3⟩ | ⟨r, hmr, k1, k2, k3⟩
  · have ef : f (36 * s1 + s2) = 1000000 := by
      rcases hy _ hp with ⟨a, b⟩ | ⟨a, ⟨r', r1, r2, r3⟩, b⟩
      · exact a
      · exact absurd r3 (k3 r' r1)
    rw [ef, if_pos (show nI 1000000 = 1000000 from rfl), Option.bind_some, F3 _ hp, ef, if_pos (show nI 1000000 = 1000000 from rfl), k1, k2]
    refine ⟨-1, σ3, m3, ?_, rfl, h0.sc scx scm⟩
    split <;> rfl
  · have ef : f (36 * s1 + s2) = r.length ∧ f (36 * s1 + s2) < 1296 := by
      rcases hy _ hp with ⟨a, b⟩ | ⟨a, ⟨r', r1, r2, r3⟩, b⟩
      · exact absurd hmr.2.1 (b r hmr.1)
      · have l1 := b r hmr.1 hmr.2.1
        have l2 := hmr.len r1 r3
        omega
    have nf : ¬ nI (f (36 * s1 + s2)) = 1000000 := fun y => by have := (nI_eq (b := 1000000) (by omega) (by omega)).mp y; omega
    rw [if_neg nf]
    by_cases y : w = 0
    · subst y
      rw [if_pos (show nI 0 = 0 from rfl), if_pos (show nI 0 = 0 from rfl), Option.bind_some, F3 _ hp, if_neg nf, Option.bind_some, F3 _ hp, k1, ef.1]
      exact ⟨_, _, _, rfl, rfl, h0.sc scx scm⟩
    · have hz : ¬ nI w = 0 := nI_ne0 (by omega) (by omega)
      obtain ⟨r2, m4, m5, m6⟩ := me_124 hg1.lt hg2.lt hM3 u1 u2 F3 hy (f (36 * s1 + s2)) 5000 (36 * s1 + s2) (by omega) hp rfl ef.2
      have er : r = r2 := nm_inj _ r r2 rfl hmr.1 m4.1 (hmr.uni m4)
      rw [if_neg hz, if_neg hz, m6, k2, er]
      exact ⟨_, _, _, rfl, rfl, h0.sc scx scm⟩
