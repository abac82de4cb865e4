/-! A NEW OBJECT, both -/
theorem u_X8_init_156 (fu n : Nat) (σ : St_) (v0 : Nat) (v1 : Int32) : f_X8_init_156 fu (n + 1) σ v0 v1 = (if (nI (sLen_.getD 0 0)) ≤ v1 then (dr_ σ 3 (sr_ σ v0 3)).bind fun b2 => (f_X3_reads fu σ b2).bind fun q3 => if q3.1 = 0 then (dr_ (ui_ q3.2 v0 5 (1 : Int32)) 3 (sr_ (ui_ q3.2 v0 5 (1 : Int32)) v0 3)).bind fun b6 => some (f_X3_clear (ui_ q3.2 v0 5 (1 : Int32)) b6) else (dr_ q3.2 15 (sr_ q3.2 v0 4)).bind fun b8 => (dr_ q3.2 3 (sr_ q3.2 v0 3)).bind fun b9 => (f_X3_made fu q3.2 b9).bind fun q10 => (dr_ q10.2 5 q10.1).bind fun b16 => (ix_ (0 : Int32) (ln_ q10.2 b8)).bind fun j17 => (dr_ (ui_ (ur_ q10.2 b8 j17 (some b16)) v0 5 (1 : Int32)) 3 (sr_ (ui_ (ur_ q10.2 b8 j17 (some b16)) v0 5 (1 : Int32)) v0 3)).bind fun b18 => some (f_X3_clear (ui_ (ur_ q10.2 b8 j17 (some b16)) v0 5 (1 : Int32)) b18) else (dr_ σ 3 (sr_ σ v0 3)).bind fun b20 => (ix_ v1 (sLen_.getD 0 0)).bind fun j21 => (f_X3_put σ b20 ((sByt_.getD 0 []).getD j21 0)).bind fun q22 => (f_X8_init_156 fu n) q22.2 v0 (v1 + (1 : Int32))) := rfl
def c0_ (j : Nat) : Nat := ((sByt_.getD 0 []).getD j 0).toNatClampNeg
theorem c0_ok : ∀ j, j < 44 → (c0_ j < 256 ∧ (sByt_.getD 0 []).getD j 0 = nI (c0_ j)) := by decide +kernel
theorem let_go : ∀ (k i g : Nat) (σ : St_), i + k = 44 → k < g → ShX_ σ → si_ σ 13 1 = nI i → (∀ j, j < i → si_ σ 14 j = nI (c0_ j)) → ∃ (σ' : St_) (g' : Nat), f_X8_init_156 5000 g σ 0 (nI i) = f_X8_init_156 5000 (g' + 1) σ' 0 (nI 44) ∧ Tp_ σ' c0_ 44 ∧ Fr_ (fun r k => ¬ (r = 14 ∨ (r = 13 ∧ k = 1))) σ σ' := by
  intro k
  induction k with
  | zero =>
    intro i g σ h1 h2 hX e hj
    obtain ⟨g, rfl⟩ : ∃ g', g = g' + 1 := ⟨g - 1, by omega⟩
    have : i = 44 := by omega
    subst this
    exact ⟨σ, g, rfl, ⟨hX, by omega, e, fun j h => ⟨(c0_ok j h).1, hj j h⟩⟩, Fr_.refl _ _⟩
  | succ k ih =>
    intro i g σ h1 h2 hX e hj
    obtain ⟨g, rfl⟩ : ∃ g', g = g' + 1 := ⟨g - 1, by omega⟩
    have hi : i < 44 := by omega
    have ep : f_X3_put σ 13 (nI (c0_ i)) = some (nI (i + 1), ui_ (ui_ σ 14 i (nI (c0_ i))) 13 1 (nI (i + 1))) := by
      unfold f_X3_put
      rw [dx_13_0 hX, Option.bind_some, e, lx_14 hX, if_neg (bel_n (by omega) (by omega)), ix_ok (by omega) (by omega), Option.bind_some]
      have e2 : si_ (ui_ σ 14 i (nI (c0_ i))) 13 1 = nI i := by rw [g_si_ne (by omega)]; exact e
      rw [e2, nI_1, si_ui, upd_g, if_pos rfl]
    obtain ⟨σ', g', f1, f2, f3⟩ := ih (i + 1) g (ui_ (ui_ σ 14 i (nI (c0_ i))) 13 1 (nI (i + 1))) (by omega) (by omega) hX (by rw [g_si_ui, if_pos rfl, if_pos rfl]) (fun j h => by
      rw [g_si_ne (by omega), g_si_ui, if_pos rfl]
      by_cases z : j = i
      · rw [if_pos z, z]
      · rw [if_neg z]; exact hj j (by omega))
    refine ⟨σ', g', ?_, f2, Fr_.trans (Fr_.ui (Fr_.ui (Fr_.refl _ _) _ _ _ (fun z => z (Or.inl rfl))) _ _ _ (fun z => z (Or.inr ⟨rfl, rfl⟩))) f3⟩
    rw [u_X8_init_156, show sLen_.getD 0 0 = 44 from rfl, if_neg (nI_ge hi (by omega)), dx_0_3 hX, Option.bind_some, ix_ok hi (by omega), Option.bind_some, (c0_ok i hi).2, ep, Option.bind_some, nI_1]
    exact f1
def cE0_ : Cd_ := [(0, 1), (1, 0), (9, 0)]
def cS0_ : Cd_ := [(1, 0), (0, 2), (9, 0)]
def cR0_ : Cd_ := [(0, 1)]
theorem txt_x1 : ((pText_ (tk_ c0_ 44 44 0)).1.map fun t => t.1) = some cE0_ := by decide +kernel
theorem txt_x2 : ((pText_ (tk_ c0_ 44 44 0)).1.map fun t => t.2.1) = some cS0_ := by decide +kernel
theorem txt_x3 : ((pText_ (tk_ c0_ 44 44 0)).1.map fun t => t.2.2) = some cR0_ := by decide +kernel
theorem txt_x4 : (pText_ (tk_ c0_ 44 44 0)).2 = [] := by decide +kernel
theorem txt_x : pText_ (tk_ c0_ 44 44 0) = (some (cE0_, cS0_, cR0_), []) := by
  have h1 := txt_x1
  have h2 := txt_x2
  have h3 := txt_x3
  have h4 := txt_x4
  generalize pText_ (tk_ c0_ 44 44 0) = P at h1 h2 h3 h4 ⊢
  obtain ⟨o, r⟩ := P
  rcases o with _ | ⟨ce, cs, cr⟩
  · cases h1
  · cases h1; cases h2; cases h3; cases h4; rfl
def c1_ (j : Nat) : Nat := if j < 44 then c0_ j else 32
theorem txt_m1 : ((pText_ (tk_ c1_ 48 48 0)).1.map fun t => t.1) = some cE0_ := by decide +kernel
theorem txt_m2 : ((pText_ (tk_ c1_ 48 48 0)).1.map fun t => t.2.1) = some cS0_ := by decide +kernel
theorem txt_m3 : ((pText_ (tk_ c1_ 48 48 0)).1.map fun t => t.2.2) = some cR0_ := by decide +kernel
theorem txt_m4 : (pText_ (tk_ c1_ 48 48 0)).2 = [] := by decide +kernel
theorem txt_m : pText_ (tk_ c1_ 48 48 0) = (some (cE0_, cS0_, cR0_), []) := by
  have h1 := txt_m1
  have h2 := txt_m2
  have h3 := txt_m3
  have h4 := txt_m4
  generalize pText_ (tk_ c1_ 48 48 0) = P at h1 h2 h3 h4 ⊢
  obtain ⟨o, r⟩ := P
  rcases o with _ | ⟨ce, cs, cr⟩
  · cases h1
  · cases h1; cases h2; cases h3; cases h4; rfl
theorem let_m : ∀ j, j < 48 → (c1_ j < 256 ∧ si_ m26_ 1 (160 * 0 + j) = nI (c1_ j)) := by decide +kernel
theorem sim_init : Sim_init Rel_ := by
  obtain ⟨σ1, g', e1, hTp, fr1⟩ := let_go 44 0 5000 a16_ (by omega) (by omega) sh_a16 (by decide +kernel) (fun j h => by omega)
  obtain ⟨σa, σ2, b, f1, f1b, hXa, hb, f2, f3, f4, f5, f6, f7, f8, f9, f10, f11⟩ := (read_ok hTp).1 cE0_ cS0_ cR0_ [] txt_x
  have hX1 := hTp.1
  have h49 := hX1.2.2.2.1
  have hsa : sn_ σa = sn_ σ1 := f2.2.2.1
  have hbl : b < sn_ σ2 := by
    rcases Nat.lt_or_ge b (sn_ σ2) with z | z
    · exact z
    · have := f4.2.2.2.2.1 b z
      rw [f5] at this
      exact absurd this (by decide)
  have hX3 : ShX_ (ur_ σ2 19 0 (some b)) := by
    refine ⟨f4.1, fun q hq => ?_, f4.2.2.1, f4.2.2.2.1, wf_ur' f4.2.2.2.2 19 0 b hbl⟩
    have hne : q.1 ≠ 19 := (show ∀ q ∈ rX_, q.1 ≠ 19 by decide) q hq
    rw [g_sr_ur, if_neg hne]
    exact f4.2.1 q hq
  have ex : f_X8_init FU_ (nw_ e0_ 8 0) 0 = some (ui_ (ui_ (ur_ σ2 19 0 (some b)) 0 5 1) 13 1 0) := by
    have t1 : f_X8_init FU_ (nw_ e0_ 8 0) 0 = f_X8_init_156 5000 5000 a16_ 0 0 := e_mk
    have t2 : f_X8_init_156 5000 5000 a16_ 0 0 = f_X8_init_156 5000 (g' + 1) σ1 0 (nI 44) := e1
    rw [t1, t2, u_X8_init_156, show sLen_.getD 0 0 = 44 from rfl, if_pos (nI_le (Nat.le_refl _) (by omega)), dx_0_3 hX1, Option.bind_some, f1, Option.bind_some, if_neg (show ¬ (1 : Int32) = 0 by decide)]
    dsimp only
    rw [dx_0_4 hXa, Option.bind_some, dx_0_3 hXa, Option.bind_some, f1b, Option.bind_some]
    dsimp only
    rw [dr_ok rfl f5, Option.bind_some, lx_19 f4, show ix_ (0 : Int32) 6 = some 0 from by decide +kernel, Option.bind_some, show dr_ (ui_ (ur_ σ2 19 0 (some b)) 0 5 1) 3 (sr_ (ui_ (ur_ σ2 19 0 (some b)) 0 5 1) 0 3) = some 13 from dx_0_3 hX3, Option.bind_some]
    rfl
  -- what stays as it was made
  have sx : ∀ r k, r < 49 → ¬ (xB_ r k ∨ r = 14 ∨ (r = 13 ∧ k = 1) ∨ (r = 0 ∧ k = 5)) → si_ (ui_ (ui_ (ur_ σ2 19 0 (some b)) 0 5 1) 13 1 0) r k = si_ a16_ r k := fun r k hr hn => by
    have q0 : si_ σ2 r k = si_ a16_ r k := by
      rw [(f3 r (by omega)).2.2.1, f2.i (fun w => hn (Or.inl w)), fr1.i (fun w => hn (Or.inr (by rcases w with w | w; exact Or.inl w; exact Or.inr (Or.inl w))))]
    rw [g_si_ui]
    have q1 : si_ (ui_ (ur_ σ2 19 0 (some b)) 0 5 1) r k = si_ a16_ r k := by
      rw [g_si_ui]
      by_cases z : r = 0
      · rw [if_pos z]
        by_cases y : k = 5
        · exact absurd (Or.inr (Or.inr (Or.inr ⟨z, y⟩))) hn
        · rw [if_neg y]; exact q0
      · rw [if_neg z]; exact q0
    by_cases z : r = 13
    · rw [if_pos z]
      by_cases y : k = 1
      · exact absurd (Or.inr (Or.inr (Or.inl ⟨z, y⟩))) hn
      · rw [if_neg y, q1]
    · rw [if_neg z, q1]
  have sl : sl_ (ui_ (ui_ (ur_ σ2 19 0 (some b)) 0 5 1) 13 1 0) 1 4 = 0 := by
    show sl_ σ2 1 4 = 0
    rw [(f3 1 (by omega)).2.2.2.1, f2.l (by simp [xB_, xR_, xA_]), fr1.l (by omega)]
    decide +kernel
  refine ⟨_, m26_, ex, e_mm, hX3, sh_m26, 1, 0, ?_, ?_, ?_, ?_, ?_⟩
  · refine ⟨by omega, by omega, ?_, by decide +kernel, fun t ht => ?_⟩
    · rw [g_si_ne (by omega), g_si_ui, if_pos rfl, if_pos rfl]; rfl
    · have : t = 0 := by omega
      subst this
      have ar : ∀ {a : Nat} {cd : Cd_}, 49 ≤ a → Ar_ σ2 a cd → Ar_ (ui_ (ui_ (ur_ σ2 19 0 (some b)) 0 5 1) 13 1 0) a cd := fun ha h => h.congr rfl rfl (fun j => by
        rw [g_si_ne (by omega), g_si_ne (by omega)]
        rfl)
      have rr : ∀ k, sr_ (ui_ (ui_ (ur_ σ2 19 0 (some b)) 0 5 1) 13 1 0) b k = sr_ σ2 b k := fun k => by
        show sr_ (ur_ σ2 19 0 (some b)) b k = _
        rw [g_sr_ur, if_neg (by omega)]
      refine ⟨b, b + 1, b + 2, b + 3, 48, c1_, cE0_, cS0_, cR0_, ?_, by omega, by omega, by omega, by omega, f5, (rr 0).trans f6, (rr 1).trans f7, (rr 2).trans f8, ar (by omega) f9, ar (by omega) f10, ar (by omega) f11, by omega, by decide +kernel, fun j hj => let_m j hj, txt_m⟩
      show sr_ (ur_ σ2 19 0 (some b)) 19 0 = some b
      rw [g_sr_ur, if_pos rfl, if_pos rfl]
  · refine ⟨by omega, ?_, by decide +kernel, ⟨0, by omega, ?_, by decide +kernel⟩, ⟨0, by omega, ?_, by decide +kernel⟩, ⟨0, by decide, sl, by decide +kernel⟩, fun i hi => by omega⟩
    · exact (sx 1 1 (by omega) (by simp [xB_, xR_, xA_])).trans (by decide +kernel)
    · exact (sx 1 2 (by omega) (by simp [xB_, xR_, xA_])).trans (by decide +kernel)
    · exact (sx 1 3 (by omega) (by simp [xB_, xR_, xA_])).trans (by decide +kernel)
  · exact Or.inl ⟨(sx 0 2 (by omega) (by simp [xB_, xR_, xA_])).trans (by decide +kernel), by decide +kernel⟩
  · refine ⟨0, by omega, ?_, by decide +kernel, fun j hj => by omega⟩
    rw [g_si_ui, if_pos rfl, if_pos rfl]; rfl
  · intro s hs
    have d : s = 0 ∨ s = 1 ∨ s = 2 ∨ s = 3 := by omega
    refine Or.inl ⟨?_, ?_, ?_⟩
    · rw [sx _ 1 (by omega) (by simp only [xB_, xR_, xA_]; omega)]
      rcases d with rfl | rfl | rfl | rfl <;> decide +kernel
    · rw [sx _ 2 (by omega) (by simp only [xB_, xR_, xA_]; omega)]
      rcases d with rfl | rfl | rfl | rfl <;> decide +kernel
    · rcases d with rfl | rfl | rfl | rfl <;> decide +kernel
theorem sims_ : Sims_ Rel_ := ⟨fun _ _ h => h.kinds, sim_init, sim_set, sim_carpet, sim_told, sim_asks, sim_feed, sim_text, sim_force, sim_say, sim_flies, sim_shortest, sim_there, sim_furthest, sim_meet, sim_rows, sim_highest, sim_tells, sim_ways, sim_drawn, sim_chance, sim_image, sim_back, sim_count, sim_sheet, sim_cell, sim_copy, sim_carpets, sim_taken⟩
