/-! TEXT -/
/-- the tape goes over into the texts, there -/
theorem txt_go {σ0 : St_} (hM : ShM_ σ0) {tc k : Nat} (htc : tc < 6) (hk : k ≤ 160) (e3 : si_ σ0 0 3 = nI tc) (e6 : si_ σ0 0 6 = nI k) : ∀ (q j g : Nat) (f : Nat → Int32), j + q = k → q < g → f_X9_text_14 5000 g (uw_ σ0 1 f) 0 (nI j) = f_X9_text_14 5000 1 (uw_ σ0 1 (fun p => if 160 * tc + j ≤ p ∧ p < 160 * tc + k then si_ σ0 3 (p - 160 * tc) else f p)) 0 (nI k) := by
  intro q
  induction q with
  | zero =>
    intro j g f h1 h2
    obtain ⟨g, rfl⟩ : ∃ g', g = g' + 1 := ⟨g - 1, by omega⟩
    have : j = k := by omega
    subst this
    have e : uw_ σ0 1 (fun p => if 160 * tc + j ≤ p ∧ p < 160 * tc + j then si_ σ0 3 (p - 160 * tc) else f p) = uw_ σ0 1 f := uw_ext fun p => by rw [if_neg (by omega)]
    rw [e]
    show (if si_ σ0 0 6 ≤ nI j then _ else _) = (if si_ σ0 0 6 ≤ nI j then _ else _)
    rw [e6, if_pos (nI_le (Nat.le_refl _) (by omega)), if_pos (nI_le (Nat.le_refl _) (by omega))]
  | succ q ih =>
    intro j g f h1 h2
    obtain ⟨g, rfl⟩ : ∃ g', g = g' + 1 := ⟨g - 1, by omega⟩
    have e160 : (160 : Int32) * nI tc = nI (160 * tc) := (Int32.ofNat_mul 160 tc).symm
    have st : f_X9_text_14 5000 (g + 1) (uw_ σ0 1 f) 0 (nI j) = f_X9_text_14 5000 g (ui_ (uw_ σ0 1 f) 1 (160 * tc + j) (si_ σ0 3 j)) 0 (nI (j + 1)) := by
      show (if si_ σ0 0 6 ≤ nI j then _ else (dr_ σ0 10 (sr_ σ0 0 1)).bind fun b6 => (dr_ σ0 10 (sr_ σ0 0 5)).bind fun b7 => (ix_ (nI j) (ln_ σ0 b7)).bind fun j8 => (ix_ (((160 : Int32) * (si_ σ0 0 3)) + nI j) (ln_ σ0 b6)).bind fun j9 => (f_X9_text_14 5000 g) (ui_ (uw_ σ0 1 f) b6 j9 (si_ (uw_ σ0 1 f) b7 j8)) 0 (nI j + (1 : Int32))) = _
      rw [e6, if_neg (nI_ge (by omega) (by omega)), dm_0_1 hM, Option.bind_some, dm_0_5 hM, Option.bind_some, lm_3 hM, ix_ok (by omega) (by omega), Option.bind_some, e3, e160, nI_add, lm_1 hM, ix_ok (by omega) (by omega), Option.bind_some, nI_1]
      rfl
    rw [st, ui_uw, ih (j + 1) g _ (by omega) (by omega)]
    congr 1
    apply uw_ext
    intro p
    rw [upd_g]
    by_cases h1 : p = 160 * tc + j
    · rw [if_neg (by omega), if_pos h1, if_pos (by omega), h1]
      congr 1
      omega
    · by_cases h2 : 160 * tc + (j + 1) ≤ p ∧ p < 160 * tc + k
      · rw [if_pos h2, if_pos (by omega)]
      · rw [if_neg h2, if_neg h1, if_neg (by omega)]
theorem sim_text : Sim_text Rel_ := by
  intro σx σm h _
  have h0 := h
  obtain ⟨hX, hM, tc, n, hT, hF, hK, hP, hS⟩ := h
  have hT' := hT
  obtain ⟨t1, t2, x5, m3, htx⟩ := hT
  by_cases hfull : tc = 6
  · subst hfull
    refine ⟨-4, σx, σm, ?_, ?_, h0⟩
    · unfold f_X8_text
      rw [dx_0_4 hX, Option.bind_some, lx_19 hX, x5, if_pos (bel_0.mpr (Or.inr (nI_le (Nat.le_refl _) (by omega))))]
    · unfold f_X9_text
      rw [m3, if_pos (show nI 6 = 6 from rfl)]
  have htc : tc < 6 := by omega
  have hP' := hP
  obtain ⟨k, hk, p1, m6, hj⟩ := hP
  let c : Nat → Nat := fun j => (si_ σx 14 j).toNatClampNeg
  have hc : ∀ j, j < k → c j < 256 ∧ si_ σx 14 j = nI (c j) ∧ si_ σm 3 j = nI (c j) := fun j hjk => by
    obtain ⟨d, hd, e1, e2⟩ := hj j hjk
    have : c j = d := by
      show (si_ σx 14 j).toNatClampNeg = d
      rw [e1, nI_clamp (by omega)]
    rw [this]
    exact ⟨hd, e1, e2⟩
  have hTp : Tp_ σx c k := ⟨hX, hk, p1, fun j hjk => ⟨(hc j hjk).1, (hc j hjk).2.1⟩⟩
  obtain ⟨rx1, rx2⟩ := read_ok hTp
  -- the reference's state behind the copying
  let σ1 := uw_ σm 1 (fun p => if 160 * tc + 0 ≤ p ∧ p < 160 * tc + k then si_ σm 3 (p - 160 * tc) else si_ σm 1 p)
  let σ2 := ui_ (ui_ σ1 2 tc (nI k)) 0 6 0
  have eM : f_X9_text 5000 σm 0 = (f_X9_read 5000 σ2 0 (nI tc) (nI 0)).bind fun q4 => if (si_ q4.2 0 25) = 0 then some ((si_ (ui_ q4.2 0 3 ((si_ q4.2 0 3) + (1 : Int32))) 0 3) - (1 : Int32), ui_ q4.2 0 3 ((si_ q4.2 0 3) + (1 : Int32))) else some ((-100 : Int32) - (si_ q4.2 0 26), q4.2) := by
    unfold f_X9_text
    rw [m3, if_neg (show ¬ nI tc = 6 from nI_ne (b := 6) (by omega) (by omega) hfull)]
    have := txt_go hM htc hk m3 m6 k 0 5000 (si_ σm 1) (by omega) (by omega)
    rw [uw_id] at this
    rw [show (0 : Int32) = nI 0 from rfl, this]
    show (if si_ σm 0 6 ≤ nI k then (dr_ σm 10 (sr_ σm 0 2)).bind fun b2 => (ix_ (si_ σm 0 3) (ln_ σm b2)).bind fun j3 => (f_X9_read 5000 (ui_ (ui_ σ1 b2 j3 (si_ σm 0 6)) 0 6 (0 : Int32)) 0 (si_ (ui_ (ui_ σ1 b2 j3 (si_ σm 0 6)) 0 6 (0 : Int32)) 0 3) (0 : Int32)).bind fun q4 => _ else _) = _
    rw [m6, if_pos (nI_le (Nat.le_refl _) (by omega)), dm_0_2 hM, Option.bind_some, m3, lm_2 hM, ix_ok htc (by omega), Option.bind_some]
    have e3 : si_ (ui_ (ui_ σ1 2 tc (nI k)) 0 6 0) 0 3 = nI tc := m3
    rw [e3]
    rfl
  have rm := mc_read (σ := σ2) (c := c) (n := k) (t := tc) hM htc hk (by show si_ (ui_ σ1 2 tc (nI k)) 2 tc = _; rw [si_ui, upd_g, if_pos rfl]) (fun j hjk => ⟨(hc j hjk).1, by
    show (if 160 * tc + 0 ≤ 160 * tc + j ∧ 160 * tc + j < 160 * tc + k then si_ σm 3 (160 * tc + j - 160 * tc) else si_ σm 1 (160 * tc + j)) = _
    rw [if_pos (by omega), Nat.add_sub_cancel_left]
    exact (hc j hjk).2.2⟩) 0 (by omega)
  obtain ⟨rm1, rm2⟩ := rm
  have fm2 : ∀ P : Nat → Nat → Prop, (∀ p, 160 * tc ≤ p → ¬ P 1 p) → ¬ P 2 tc → ¬ P 0 6 → Fr_ P σm σ2 := fun P a1 a2 a3 => by
    have base : Fr_ P σm σ1 := by
      refine ⟨rfl, rfl, rfl, fun r q hpq => ⟨?_, rfl, rfl⟩⟩
      show si_ (uw_ σm 1 _) r q = _
      rw [g_si_uw]
      by_cases e : r = 1
      · subst e
        rw [if_pos rfl]
        by_cases z : 160 * tc + 0 ≤ q ∧ q < 160 * tc + k
        · exact absurd hpq (a1 q (by omega))
        · rw [if_neg z]
      · rw [if_neg e]
    exact Fr_.ui (Fr_.ui base _ _ _ a2) _ _ _ a3
  rcases hq : pText_ (tk_ c k k 0) with ⟨_ | ⟨ce, cs, cr⟩, r⟩
  · obtain ⟨σx', f1, f2, f3, f4⟩ := rx2 r hq
    obtain ⟨v, σm', g1, g2, g3, g4, g5⟩ := rm2 r hq
    refine ⟨-100 - nI (pl_ k r), f_X3_clear σx' 13, σm', ?_, ?_, ?_⟩
    · unfold f_X8_text
      have f1' : f_X3_reads FU_ σx 13 = some (0, σx') := f1
      rw [dx_0_4 hX, Option.bind_some, lx_19 hX, x5, if_neg (bel_n htc (by omega)), dx_0_3 hX, Option.bind_some, f1', Option.bind_some, if_pos rfl]
      simp only
      rw [dx_0_3 f3, Option.bind_some, f4, Option.bind_some]
    · have : f_X9_text FU_ σm 0 = f_X9_text 5000 σm 0 := rfl
      rw [this, eM, g1, Option.bind_some]
      simp only
      rw [g4, if_neg (show ¬ (1 : Int32) = 0 by decide), g5]
    · have fx : Fr_ (fun r k => ¬ (xB_ r k ∨ (r = 13 ∧ k = 1))) σx (f_X3_clear σx' 13) := Fr_.ui (f2.mono fun r k z w => z (Or.inl w)) _ _ _ (by simp)
      have fm : ∀ P : Nat → Nat → Prop, (∀ p, 160 * tc ≤ p → ¬ P 1 p) → ¬ P 2 tc → ¬ P 0 6 → (∀ k, 18 ≤ k → k ≤ 26 → ¬ P 0 k) → Fr_ P σm σm' := fun P a1 a2 a3 a4 => (fm2 P a1 a2 a3).trans (g3.mono fun r k hp z => a4 k z.2.1 z.2.2 (by rw [z.1] at hp; exact hp))
      refine ⟨f3, g2, tc, n, ?_, ?_, ?_, ⟨0, by omega, rfl, ?_, fun j hj => by omega⟩, ?_⟩
      · have fx' : Fr_ xT_ σx (f_X3_clear σx' 13) := fx.mono (by intro r k q z; simp only [xT_, xB_, xR_, xA_] at q z; omega)
        have fm' := fm (fun r k => (r = 0 ∧ k = 3) ∨ (r = 1 ∧ k < 160 * tc) ∨ (r = 2 ∧ k < tc)) (by intro p hp; omega) (by omega) (by omega) (by intro k h1 h2; omega)
        refine ⟨t1, t2, (fx'.i (Or.inl ⟨rfl, rfl⟩)).trans x5, (fm'.i (Or.inl ⟨rfl, rfl⟩)).trans m3, fun t ht => ?_⟩
        have := htx t ht
        rw [fx'.r (Or.inr (Or.inl rfl)), fm'.i (r := 2) (k := t) (Or.inr (Or.inr ⟨rfl, ht⟩))]
        exact this.congr (fun a ha _ => ⟨congrFun fx'.1 a, congrFun fx'.2.1 a, fun _ => fx'.i (Or.inr (Or.inr ha)), fun _ => fx'.r (Or.inr (Or.inr ha))⟩) (fun j hj => fm'.i (Or.inr (Or.inl ⟨rfl, by omega⟩)))
      · exact hF.congr (fx.mono (by intro r k q z; simp only [xF_, xB_, xR_, xA_] at q z; omega)) (fm _ (by intro p _; simp [mF_]) (by simp [mF_]) (by simp [mF_]) (by intro k h1 h2; simp [mF_]; omega))
      · exact hK.congr (fx.mono (by intro r k q z; simp only [xK_, xB_, xR_, xA_] at q z; omega)) (fm _ (by intro p _; simp [mK_]) (by simp [mK_]) (by simp [mK_]) (by intro k h1 h2; simp [mK_]; omega))
      · exact (g3.i (by omega)).trans rfl
      · exact hS.congr (fx.mono (by intro r k q z; simp only [xS_, xB_, xR_, xA_] at q z; omega)) (fm _ (by intro p _; simp [mS_]) (by simp [mS_]) (by simp [mS_]) (by intro k h1 h2; simp [mS_]))
  · have hr : r = [] := by
      unfold pText_ at hq
      repeat' split at hq
      all_goals first | (cases hq; rfl) | (cases hq)
    subst hr
    obtain ⟨σa, σx', b, f1, f1b, hXa, hb, f2, f3, f4, f5, f6, f7, f8, f9, f10, f11⟩ := rx1 ce cs cr [] hq
    obtain ⟨σm', g1, g2, g3, g4⟩ := rm1 ce cs cr [] hq
    have h49 := hX.2.2.2.1
    have hsa : sn_ σa = sn_ σx := f2.2.2.1
    have kx5 : si_ σx' 0 5 = nI tc := by
      rw [(f3 0 (by omega)).2.2.1, f2.i (by simp [xB_, xR_, xA_])]
      exact x5
    have km3 : si_ σm' 0 3 = nI tc := (g3.i (by omega)).trans m3
    refine ⟨nI tc, ui_ (ur_ (f_X3_clear σx' 13) 19 tc (some b)) 0 5 (nI (tc + 1)), ui_ σm' 0 3 (nI (tc + 1)), ?_, ?_, ?_⟩
    · unfold f_X8_text
      have f1' : f_X3_reads FU_ σx 13 = some (1, σa) := f1
      have f1b' : f_X3_made FU_ σa 13 = some (some b, σx') := f1b
      have ka5 : si_ σa 0 5 = nI tc := (f2.i (by simp [xB_, xR_, xA_])).trans x5
      rw [dx_0_4 hX, Option.bind_some, lx_19 hX, x5, if_neg (bel_n htc (by omega)), dx_0_3 hX, Option.bind_some, f1', Option.bind_some, if_neg (show ¬ (1 : Int32) = 0 by decide)]
      simp only
      rw [dx_0_4 hXa, Option.bind_some, dx_0_3 hXa, Option.bind_some, f1b', Option.bind_some]
      simp only
      have hd : dr_ (ur_ σx' 19 tc (some b)) 3 (sr_ (ur_ σx' 19 tc (some b)) 0 3) = some 13 := by
        have := dx_0_3 f4
        exact this
      have ec : f_X3_clear (ur_ σx' 19 tc (some b)) 13 = ur_ (f_X3_clear σx' 13) 19 tc (some b) := rfl
      rw [dr_ok rfl f5, Option.bind_some, lx_19 f4, ka5, ix_ok htc (by omega), Option.bind_some, hd, Option.bind_some, ec]
      have e5 : si_ (ur_ (f_X3_clear σx' 13) 19 tc (some b)) 0 5 = nI tc := kx5
      rw [e5, nI_1, si_ui, upd_g, if_pos rfl, nI_pred]
    · have : f_X9_text FU_ σm 0 = f_X9_text 5000 σm 0 := rfl
      rw [this, eM, g1, Option.bind_some]
      simp only
      rw [g4, if_pos rfl, km3, nI_1, si_ui, upd_g, if_pos rfl, nI_pred]
    · -- what stays as it was
      have sx : ∀ r, r < sn_ σx → ∀ k, ¬ (xB_ r k ∨ (r = 13 ∧ k = 1) ∨ (r = 0 ∧ k = 5)) → si_ (ui_ (ur_ (f_X3_clear σx' 13) 19 tc (some b)) 0 5 (nI (tc + 1))) r k = si_ σx r k := fun r hr k hn => by
        rw [g_si_ui]
        have q1 : si_ (ur_ (f_X3_clear σx' 13) 19 tc (some b)) r k = si_ σx r k := by
          show si_ (ui_ σx' 13 1 0) r k = _
          rw [g_si_ui]
          have q2 : si_ σx' r k = si_ σx r k := by rw [(f3 r (by omega)).2.2.1]; exact f2.i (fun w => hn (Or.inl w))
          by_cases e : r = 13
          · rw [if_pos e]
            by_cases e2 : k = 1
            · exact absurd (Or.inr (Or.inl ⟨e, e2⟩)) hn
            · rw [if_neg e2, q2]
          · rw [if_neg e, q2]
        by_cases e : r = 0
        · rw [if_pos e]
          by_cases e2 : k = 5
          · exact absurd (Or.inr (Or.inr ⟨e, e2⟩)) hn
          · rw [if_neg e2, q1]
        · rw [if_neg e, q1]
      have slx : ∀ r, r < sn_ σx → ∀ k, ¬ xB_ r k → sl_ (ui_ (ur_ (f_X3_clear σx' 13) 19 tc (some b)) 0 5 (nI (tc + 1))) r k = sl_ σx r k := fun r hr k hn => by
        show sl_ σx' r k = _
        rw [(f3 r (by omega)).2.2.2.1]; exact f2.l hn
      have kdx : ∀ r, r < sn_ σx → kd_ σx' r = kd_ σx r ∧ ln_ σx' r = ln_ σx r := fun r hr => by
        obtain ⟨q1, q2, -⟩ := f3 r (by omega)
        exact ⟨q1.trans (congrFun f2.1 r), q2.trans (congrFun f2.2.1 r)⟩
      have fm : ∀ P : Nat → Nat → Prop, (∀ p, 160 * tc ≤ p → ¬ P 1 p) → ¬ P 2 tc → ¬ P 0 6 → (∀ k, 18 ≤ k → k ≤ 26 → ¬ P 0 k) → ¬ P 0 3 → Fr_ P σm (ui_ σm' 0 3 (nI (tc + 1))) := fun P a1 a2 a3 a4 a5 => Fr_.ui ((fm2 P a1 a2 a3).trans (g3.mono fun r k hp z => a4 k z.2.1 z.2.2 (by rw [z.1] at hp; exact hp))) _ _ _ a5
      have shx : ShX_ (ur_ (f_X3_clear σx' 13) 19 tc (some b)) := by
        have hbl : b < sn_ (f_X3_clear σx' 13) := by
          show b < sn_ σx'
          rcases Nat.lt_or_ge b (sn_ σx') with z | z
          · exact z
          · have := f4.2.2.2.2.1 b z
            rw [f5] at this
            exact absurd this (by decide)
        refine ⟨f4.1, fun q hq => ?_, ?_, f4.2.2.2.1, (up_r (f_X3_clear σx' 13) 19 tc (some b) (fun b' hb' => by cases hb'; exact hbl)).2.2.2.2 f4.2.2.2.2⟩
        · have hne : q.1 ≠ 19 := (show ∀ q ∈ rX_, q.1 ≠ 19 by decide) q hq
          rw [g_sr_ur, if_neg hne]
          exact f4.2.1 q hq
        · exact f4.2.2.1
      refine ⟨shx, g2, tc + 1, n, ?_, ?_, ?_, ?_, ?_⟩
      · refine ⟨by omega, by omega, rfl, rfl, fun t ht => ?_⟩
        have e19 : ∀ t, sr_ (ui_ (ur_ (f_X3_clear σx' 13) 19 tc (some b)) 0 5 (nI (tc + 1))) 19 t = if t = tc then some b else sr_ σx 19 t := fun t => by
          show sr_ (ur_ (f_X3_clear σx' 13) 19 tc (some b)) 19 t = _
          rw [g_sr_ur, if_pos rfl]
          by_cases z : t = tc
          · rw [if_pos z, if_pos z]
          · rw [if_neg z, if_neg z]
            show sr_ σx' 19 t = _
            rw [(f3 19 (by omega)).2.2.2.2]
            exact f2.r (by simp [xB_, xR_, xA_])
        rw [e19 t]
        by_cases z : t = tc
        · subst z
          rw [if_pos rfl]
          have ar : ∀ {a : Nat} {cd : Cd_}, 49 ≤ a → Ar_ σx' a cd → Ar_ (ui_ (ur_ (f_X3_clear σx' 13) 19 t (some b)) 0 5 (nI (t + 1))) a cd := fun ha h => h.congr rfl rfl (fun j => by
            rw [g_si_ne (by omega)]
            show si_ (ui_ σx' 13 1 0) _ j = _
            rw [g_si_ne (by omega)])
          have rr : ∀ k, sr_ (ui_ (ur_ (f_X3_clear σx' 13) 19 t (some b)) 0 5 (nI (t + 1))) b k = sr_ σx' b k := fun k => by
            show sr_ (ur_ (f_X3_clear σx' 13) 19 t (some b)) b k = _
            rw [g_sr_ur, if_neg (by omega)]
            rfl
          refine ⟨b, b + 1, b + 2, b + 3, k, c, ce, cs, cr, rfl, by omega, by omega, by omega, by omega, f5, (rr 0).trans f6, (rr 1).trans f7, (rr 2).trans f8, ar (by omega) f9, ar (by omega) f10, ar (by omega) f11, hk, ?_, fun j hj => ⟨(hc j hj).1, ?_⟩, hq⟩
          · rw [g_si_ne (by decide), g3.i (r := 2) (k := t) (by omega)]
            show si_ (ui_ σ1 2 t (nI k)) 2 t = _
            rw [si_ui, upd_g, if_pos rfl]
          · show si_ σm' 1 (160 * t + j) = _
            rw [g3.i (r := 1) (k := 160 * t + j) (by omega)]
            show (if 160 * t + 0 ≤ 160 * t + j ∧ 160 * t + j < 160 * t + k then si_ σm 3 (160 * t + j - 160 * t) else si_ σm 1 (160 * t + j)) = _
            rw [if_pos (by omega), Nat.add_sub_cancel_left]
            exact (hc j hj).2.2
        · rw [if_neg z]
          have ht' : t < tc := by omega
          have := htx t ht'
          have fm' := fm (fun r k => (r = 1 ∧ k < 160 * tc) ∨ (r = 2 ∧ k < tc)) (by intro p hp; omega) (by omega) (by omega) (by intro k h1 h2; omega) (by omega)
          rw [fm'.i (r := 2) (k := t) (Or.inr ⟨rfl, ht'⟩)]
          refine this.congr (fun a ha hk => ?_) (fun j hj => fm'.i (Or.inl ⟨rfl, by omega⟩))
          have hal : a < sn_ σx := by
            rcases Nat.lt_or_ge a (sn_ σx) with w | w
            · exact w
            · exact absurd (hX.2.2.2.2.1 a w) hk
          refine ⟨(kdx a hal).1, (kdx a hal).2, fun j => sx a hal j (by simp only [xB_, xR_, xA_]; omega), fun j => ?_⟩
          show sr_ (ur_ (f_X3_clear σx' 13) 19 tc (some b)) a j = _
          rw [g_sr_ur, if_neg (by omega)]
          show sr_ σx' a j = _
          rw [(f3 a (by omega)).2.2.2.2]
          exact f2.r (by simp only [xB_, xR_, xA_]; omega)
      · have fm' := fm mF_ (by intro p _; simp [mF_]) (by simp [mF_]) (by simp [mF_]) (by intro k h1 h2; simp [mF_]; omega) (by simp [mF_])
        have := Fl_.congr (x' := si_ (ui_ (ur_ (f_X3_clear σx' 13) 19 tc (some b)) 0 5 (nI (tc + 1))) 1) (w' := sl_ (ui_ (ur_ (f_X3_clear σx' 13) 19 tc (some b)) 0 5 (nI (tc + 1))) 1 4) (car' := fun i => si_ (ui_ (ur_ (f_X3_clear σx' 13) 19 tc (some b)) 0 5 (nI (tc + 1))) (i + 3)) hF (fun k => sx 1 (by omega) k (by simp only [xB_, xR_, xA_]; omega)) (slx 1 (by omega) 4 (by simp only [xB_, xR_, xA_]; omega)) (fun i hi k => sx (i + 3) (by omega) k (by simp only [xB_, xR_, xA_]; omega)) (fm'.i (Or.inl ⟨rfl, Or.inl rfl⟩)) (fm'.i (Or.inl ⟨rfl, Or.inr (Or.inl rfl)⟩)) (fm'.i (Or.inl ⟨rfl, Or.inr (Or.inr rfl)⟩)) (fun _ => fm'.i (Or.inr (Or.inl rfl))) (fun _ => fm'.i (Or.inr (Or.inr (Or.inl rfl)))) (fun _ => fm'.i (Or.inr (Or.inr (Or.inr rfl))))
        obtain ⟨y1, y2, y3, y4, ⟨t, w1, w2, w3⟩, y6, y7⟩ := this
        exact ⟨y1, y2, y3, y4, ⟨t, by omega, w2, w3⟩, y6, y7⟩
      · have fm' := fm mK_ (by intro p _; simp [mK_]) (by simp [mK_]) (by simp [mK_]) (by intro k h1 h2; simp [mK_]; omega) (by simp [mK_])
        rcases hK with ⟨k1, k2⟩ | ⟨k1, kn, k2, k3⟩
        · exact Or.inl ⟨(sx 0 (by omega) 2 (by simp only [xB_, xR_, xA_]; omega)).trans k1, (fm'.i (Or.inl ⟨rfl, Or.inl rfl⟩)).trans k2⟩
        · refine Or.inr ⟨(sx 0 (by omega) 2 (by simp only [xB_, xR_, xA_]; omega)).trans k1, kn, k2, ?_⟩
          have := Fl_.congr (x' := si_ (ui_ (ur_ (f_X3_clear σx' 13) 19 tc (some b)) 0 5 (nI (tc + 1))) 7) (w' := sl_ (ui_ (ur_ (f_X3_clear σx' 13) 19 tc (some b)) 0 5 (nI (tc + 1))) 7 4) (car' := fun i => si_ (ui_ (ur_ (f_X3_clear σx' 13) 19 tc (some b)) 0 5 (nI (tc + 1))) (i + 9)) k3 (fun k => sx 7 (by omega) k (by simp only [xB_, xR_, xA_]; omega)) (slx 7 (by omega) 4 (by simp only [xB_, xR_, xA_]; omega)) (fun i hi k => sx (i + 9) (by omega) k (by simp only [xB_, xR_, xA_]; omega)) (fm'.i (Or.inl ⟨rfl, Or.inl rfl⟩)) (fm'.i (Or.inl ⟨rfl, Or.inr (Or.inl rfl)⟩)) (fm'.i (Or.inl ⟨rfl, Or.inr (Or.inr rfl)⟩)) (fun _ => fm'.i (Or.inr (Or.inl rfl))) (fun _ => fm'.i (Or.inr (Or.inr (Or.inl rfl)))) (fun _ => fm'.i (Or.inr (Or.inr (Or.inr rfl))))
          obtain ⟨y1, y2, y3, y4, ⟨t, w1, w2, w3⟩, y6, y7⟩ := this
          exact ⟨y1, y2, y3, y4, ⟨t, by omega, w2, w3⟩, y6, y7⟩
      · refine ⟨0, by omega, rfl, ?_, fun j hj => by omega⟩
        exact (g3.i (r := 0) (k := 6) (by omega)).trans rfl
      · have fm' := fm mS_ (by intro p _; simp [mS_]) (by simp [mS_]) (by simp [mS_]) (by intro k h1 h2; simp [mS_]) (by simp [mS_])
        intro s hs
        exact (hS s hs).congr (fun k => sx _ (by omega) k (by simp only [xB_, xR_, xA_]; omega)) (fun k => sx _ (by omega) k (by simp only [xB_, xR_, xA_]; omega)) (fm'.i ⟨by omega, by omega⟩) (fm'.i ⟨by omega, by omega⟩) (fm'.i ⟨by omega, by omega⟩) (fun _ => fm'.i ⟨by omega, by omega⟩)
