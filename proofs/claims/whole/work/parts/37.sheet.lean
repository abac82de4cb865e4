/-! SHEETS -/
theorem she_n {σ : St_} (h : ShX_ σ) (x : Int32) (hx : f_X8_isBelow x (nI 4) = 0) : f_X8_sheetAt σ 0 x = some none := by
  unfold f_X8_sheetAt
  rw [dx_0_6 h, Option.bind_some, lx_20 h, if_pos hx]
theorem she_s {σ : St_} (h : ShX_ σ) {s : Nat} (hs : s < 4) : f_X8_sheetAt σ 0 (nI s) = some (some (2 * s + 41)) := by
  unfold f_X8_sheetAt
  rw [dx_0_6 h, Option.bind_some, lx_20 h, if_neg (bel_n hs (by omega)), ix_ok hs (by omega), Option.bind_some, (h.she hs).1, Option.bind_some]
theorem isS_c (x : Int32) : f_X9_isSheet x = 0 ↔ f_X8_isBelow x (nI 4) = 0 := in_c (x := x) (n := 3) (3 : Int64) rfl (by omega)
theorem c40 (a b : Nat) : (40 : Int32) * nI a + nI b = nI (40 * a + b) := by
  rw [show (40 : Int32) = nI 40 from rfl, show nI 40 * nI a = nI (40 * a) from (Int32.ofNat_mul 40 a).symm, nI_add]
/-- the loop that clears a sheet there -/
theorem clr_go (fu : Nat) {σ0 : St_} (hM : ShM_ σ0) {s d n : Nat} (hs : s < 4) (hd : d < 3) (hn : n ≤ 40) : ∀ (k i fuel : Nat) (f : Nat → Int32), i + k = n → k < fuel → f_X9_sheet_77 fu fuel (uw_ σ0 18 f) 0 (nI s) (nI d) (nI n) (nI i) = some (1, uw_ σ0 18 (fun j => if 40 * s + i ≤ j ∧ j < 40 * s + n then 0 else f j)) := by
  intro k
  induction k with
  | zero =>
    intro i fuel f hi hf
    obtain ⟨g, rfl⟩ : ∃ g, fuel = g + 1 := ⟨fuel - 1, by omega⟩
    show (if nI n ≤ nI i then some ((1 : Int32), uw_ σ0 18 f) else _) = _
    rw [if_pos (nI_le (by omega) (by omega))]
    congr 2
    exact uw_ext fun j => by rw [if_neg (by omega)]
  | succ k ih =>
    intro i fuel f hi hf
    obtain ⟨g, rfl⟩ : ∃ g, fuel = g + 1 := ⟨fuel - 1, by omega⟩
    show (if nI n ≤ nI i then some ((1 : Int32), uw_ σ0 18 f) else if nI d < 0 then some ((1 : Int32), uw_ σ0 18 f) else (dr_ σ0 10 (sr_ σ0 0 41)).bind fun b3 => (ix_ (((40 : Int32) * nI s) + nI i) (ln_ σ0 b3)).bind fun j4 => (f_X9_sheet_77 fu g) (ui_ (uw_ σ0 18 f) b3 j4 (0 : Int32)) 0 (nI s) (nI d) (nI n) (nI i + (1 : Int32))) = _
    rw [if_neg (nI_ge (by omega) (by omega)), if_neg (nI_pos (by omega)), dm_0_41 hM, Option.bind_some, lm_18 hM, c40, ix_ok (by omega) (by omega), Option.bind_some, nI_1, ui_uw, ih (i + 1) g _ (by omega) (by omega)]
    congr 2
    apply uw_ext
    intro j
    rw [upd_g]
    by_cases h1 : j = 40 * s + i
    · rw [if_neg (by omega), if_pos h1, if_pos (by omega)]
    · by_cases h2 : 40 * s + (i + 1) ≤ j ∧ j < 40 * s + n
      · rw [if_pos h2, if_pos (by omega)]
      · rw [if_neg h2, if_neg h1, if_neg (by omega)]
theorem clr_m (fu : Nat) (σ : St_) (s n : Int32) (d : Int32) (hd : d < 0) : f_X9_sheet_77 fu 5000 σ 0 s d n 0 = some (1, σ) := by
  show (if n ≤ 0 then some ((1 : Int32), σ) else if d < 0 then some ((1 : Int32), σ) else _) = _
  by_cases h : n ≤ 0
  · rw [if_pos h]
  · rw [if_neg h, if_pos hd]
/-- the sort that is asked for -/
theorem srt_c (x : Int32) : (x < -1 ∧ f_X9_in x.toInt64 (-1) 2 = 0) ∨ (¬ x < -1 ∧ ¬ x < 3 ∧ f_X9_in x.toInt64 (-1) 2 = 0) ∨ (x = -1 ∧ ¬ f_X9_in x.toInt64 (-1) 2 = 0) ∨ ∃ d, d < 3 ∧ x = nI d ∧ ¬ f_X9_in x.toInt64 (-1) 2 = 0 := by
  have e1 : (-1 : Int64).toInt = -1 := by decide +kernel
  have e2 : (2 : Int64).toInt = 2 := rfl
  have e3 : (-1 : Int32).toInt = -1 := by decide +kernel
  have e4 : (3 : Int32).toInt = 3 := rfl
  by_cases h1 : x < -1
  · refine Or.inl ⟨h1, in_0.mpr (Or.inl ?_)⟩
    rw [Int64.lt_iff_toInt_lt, Int32.toInt_toInt64, e1]
    rw [Int32.lt_iff_toInt_lt, e3] at h1
    exact h1
  · by_cases h2 : x < 3
    · have hn : ¬ f_X9_in x.toInt64 (-1) 2 = 0 := by
        rw [in_0, Int64.lt_iff_toInt_lt, Int64.lt_iff_toInt_lt, Int32.toInt_toInt64, e1, e2]
        rw [Int32.lt_iff_toInt_lt, e3] at h1
        rw [Int32.lt_iff_toInt_lt, e4] at h2
        omega
      by_cases h3 : x = -1
      · exact Or.inr (Or.inr (Or.inl ⟨h3, hn⟩))
      · refine Or.inr (Or.inr (Or.inr ?_))
        have h4 : ¬ x < 0 := by
          have : ¬ x.toInt = -1 := fun z => h3 (Int32.toInt_inj.mp (z.trans e3.symm))
          rw [Int32.lt_iff_toInt_lt, e3] at h1
          rw [Int32.lt_iff_toInt_lt, show (0 : Int32).toInt = 0 from rfl]
          omega
        obtain ⟨j, hj, rfl⟩ := nI_of h4
        exact ⟨j, by rw [show (3 : Int32) = nI 3 from rfl, nI_ltI hj (by omega)] at h2; exact h2, rfl, hn⟩
    · refine Or.inr (Or.inl ⟨h1, h2, in_0.mpr (Or.inr ?_)⟩)
      rw [Int64.lt_iff_toInt_lt, Int32.toInt_toInt64, e2]
      rw [Int32.lt_iff_toInt_lt, e4] at h2
      omega
theorem sh_ui {σ : St_} (h : ShX_ σ) (a k : Nat) (v : Int32) : ShX_ (ui_ σ a k v) := h
theorem sim_sheet : Sim_sheet Rel_ := by
  intro σx σm h x1 x2 x3
  have h0 := h
  obtain ⟨hX, hM, tc, n, hT, hF, hK, hP, hS⟩ := h
  rcases bel_c x1 (n := 4) (by omega) with hb | ⟨s, hs, rfl⟩
  · refine ⟨-2, σx, σm, ?_, ?_, h0⟩
    · unfold f_X8_sheet
      rw [she_n hX x1 hb]
      rfl
    · unfold f_X9_sheet
      rw [if_pos ((isS_c x1).mpr hb)]
  have hsn : ¬ f_X9_isSheet (nI s) = 0 := fun z => bel_n hs (by omega) ((isS_c _).mp z)
  obtain ⟨g1, g2, g3, g4⟩ := hX.she hs
  have eX : ∀ y z, f_X8_sheet FU_ σx 0 (nI s) y z = (if y < (-1 : Int32) then some ((-2 : Int32), σx) else if y < (3 : Int32) then if y = (-1 : Int32) then some ((1 : Int32), f_X4_makeMissing σx (2 * s + 41)) else if z ≤ (40 : Int32) then if 0 ≤ z then (f_X4_makeRow FU_ σx (2 * s + 41) y z).bind fun q11 => some ((1 : Int32), q11) else some ((-14 : Int32), σx) else some ((-2 : Int32), σx) else some ((-2 : Int32), σx)) := fun y z => by
    unfold f_X8_sheet
    rw [she_s hX hs, Option.bind_some]
    show (if _ then _ else _) = _
    rw [if_pos g2]
  rcases srt_c x2 with ⟨a1, a2⟩ | ⟨a1, a2, a3⟩ | ⟨a1, a2⟩ | ⟨d, hd, rfl, a2⟩
  · exact ⟨-2, σx, σm, by rw [eX, if_pos a1], by unfold f_X9_sheet; rw [if_neg hsn, if_pos a2], h0⟩
  · exact ⟨-2, σx, σm, by rw [eX, if_neg a1, if_neg a2], by unfold f_X9_sheet; rw [if_neg hsn, if_pos a3], h0⟩
  · subst a1
    have hr : f_X9_sheet FU_ σm 0 (nI s) (-1) x3 = some (1, ui_ (ui_ (ui_ σm 15 s 0) 16 s (-1)) 17 s x3) := by
      unfold f_X9_sheet f_X9_sheet_45
      rw [if_neg hsn, if_neg a2, if_pos (by decide), if_pos (by decide), dm_0_38 hM, Option.bind_some, if_pos (by decide), lm_15 hM, ix_ok hs (by omega), Option.bind_some]
      have d1 : dr_ (ui_ σm 15 s 0) 10 (sr_ (ui_ σm 15 s 0) 0 39) = some 16 := dm_0_39 hM
      have l1 : ln_ (ui_ σm 15 s 0) 16 = 4 := lm_16 hM
      rw [d1, Option.bind_some, l1, ix_ok hs (by omega), Option.bind_some]
      have d2 : dr_ (ui_ (ui_ σm 15 s 0) 16 s (-1)) 10 (sr_ (ui_ (ui_ σm 15 s 0) 16 s (-1)) 0 40) = some 17 := dm_0_40 hM
      have l2 : ln_ (ui_ (ui_ σm 15 s 0) 16 s (-1)) 17 = 4 := lm_17 hM
      rw [d2, Option.bind_some, l2, ix_ok hs (by omega), Option.bind_some]
      exact clr_m _ _ _ _ _ (by decide)
    refine ⟨1, f_X4_makeMissing σx (2 * s + 41), _, by rw [eX, if_neg (by decide), if_pos (by decide), if_pos rfl], hr, ?_⟩
    unfold f_X4_makeMissing
    refine rel_S hX hM hT hF hK hP (Fr_.ui (Fr_.ui (Fr_.refl _ _) _ _ _ (by simp [xS_]; omega)) _ _ _ (by simp [xS_]; omega)) (Fr_.ui (Fr_.ui (Fr_.ui (Fr_.refl _ _) _ _ _ (by simp [mS_])) _ _ _ (by simp [mS_])) _ _ _ (by simp [mS_])) fun u hu => ?_
    by_cases e : u = s
    · subst e
      refine Or.inl ⟨?_, ?_, ?_⟩
      · rw [g_si_ui, if_pos rfl, if_neg (by decide), g_si_ui, if_pos rfl, if_pos rfl]
      · rw [g_si_ui, if_pos rfl, if_pos rfl]
      · rw [g_si_ne (by decide), g_si_ne (by decide), g_si_ui, if_pos rfl, if_pos rfl]
    · refine (hS u hu).congr (fun k => ?_) (fun k => ?_) ?_ ?_ ?_ (fun _ => rfl)
      · rw [g_si_ne (by omega), g_si_ne (by omega)]
      · rw [g_si_ne (by omega), g_si_ne (by omega)]
      · rw [g_si_ne (by decide), g_si_ne (by decide), g_si_ui, if_pos rfl, if_neg e]
      · rw [g_si_ne (by decide), g_si_ui, if_pos rfl, if_neg e]; rfl
      · rw [g_si_ui, if_pos rfl, if_neg e]; rfl
  · have d1 : ¬ nI d < (-1 : Int32) := (show ∀ d, d < 3 → ¬ nI d < (-1 : Int32) by decide +kernel) d hd
    have d2 : nI d < (3 : Int32) := nI_lt (b := 3) hd (by omega)
    have d3 : ¬ nI d = (-1 : Int32) := fun z => nI_pos (n := d) (by omega) (by rw [z]; decide)
    have d4 : ¬ nI d < 0 := nI_pos (by omega)
    by_cases e1 : x3 ≤ 40
    · by_cases e2 : 0 ≤ x3
      · obtain ⟨m, hm, rfl⟩ := nI_of2 (x := x3) (M := 40) (n := 40) rfl (by intro z; rw [Int32.lt_iff_toInt_lt] at z; rw [Int32.le_iff_toInt_le] at e2; omega) e1
        have hr : f_X9_sheet FU_ σm 0 (nI s) (nI d) (nI m) = some (1, uw_ (ui_ (ui_ (ui_ σm 15 s 1) 16 s (nI d)) 17 s (nI m)) 18 (fun j => if 40 * s + 0 ≤ j ∧ j < 40 * s + m then 0 else si_ σm 18 j)) := by
          unfold f_X9_sheet f_X9_sheet_45
          rw [if_neg hsn, if_neg a2, if_neg d4, if_pos e1, if_neg d4, if_pos e2, dm_0_38 hM, Option.bind_some, if_neg d4, lm_15 hM, ix_ok hs (by omega), Option.bind_some]
          have d1 : dr_ (ui_ σm 15 s 1) 10 (sr_ (ui_ σm 15 s 1) 0 39) = some 16 := dm_0_39 hM
          have l1 : ln_ (ui_ σm 15 s 1) 16 = 4 := lm_16 hM
          rw [d1, Option.bind_some, l1, ix_ok hs (by omega), Option.bind_some]
          have d2 : dr_ (ui_ (ui_ σm 15 s 1) 16 s (nI d)) 10 (sr_ (ui_ (ui_ σm 15 s 1) 16 s (nI d)) 0 40) = some 17 := dm_0_40 hM
          have l2 : ln_ (ui_ (ui_ σm 15 s 1) 16 s (nI d)) 17 = 4 := lm_17 hM
          rw [d2, Option.bind_some, l2, ix_ok hs (by omega), Option.bind_some]
          have := clr_go FU_ (σ0 := ui_ (ui_ (ui_ σm 15 s 1) 16 s (nI d)) 17 s (nI m)) hM hs hd hm m 0 FU_ (si_ σm 18) (by omega) (by unfold FU_; omega)
          rw [← this]
          congr 1
          exact (uw_id _ _).symm
        have hl : f_X8_sheet FU_ σx 0 (nI s) (nI d) (nI m) = some (1, uw_ (ui_ (ui_ σx (2 * s + 41) 1 (nI d)) (2 * s + 41) 2 (nI m)) (2 * s + 42) (fun j => if j < 40 then 0 else si_ σx (2 * s + 42) j)) := by
          rw [eX, if_neg d1, if_pos d2, if_neg d3, if_pos e1, if_pos e2]
          unfold f_X4_makeRow
          have q1 : dr_ (ui_ (ui_ σx (2 * s + 41) 1 (nI d)) (2 * s + 41) 2 (nI m)) 10 (sr_ (ui_ (ui_ σx (2 * s + 41) 1 (nI d)) (2 * s + 41) 2 (nI m)) (2 * s + 41) 0) = some (2 * s + 42) := g3
          have q2 : ln_ (ui_ (ui_ σx (2 * s + 41) 1 (nI d)) (2 * s + 41) 2 (nI m)) (2 * s + 42) = 40 := g4
          rw [q1, Option.bind_some, fill_ok 0 (by rw [q2]; decide) (by rw [q2]; decide), q2]
          simp only [Option.bind_some]
          rw [g_si_ne (by omega), g_si_ne (by omega)]
        refine ⟨_, _, _, hl, hr, rel_S hX hM hT hF hK hP (Fr_.uw (Fr_.ui (Fr_.ui (Fr_.refl _ _) _ _ _ (by simp [xS_]; omega)) _ _ _ (by simp [xS_]; omega)) _ _ (fun _ => by simp [xS_]; omega)) (Fr_.uw (Fr_.ui (Fr_.ui (Fr_.ui (Fr_.refl _ _) _ _ _ (by simp [mS_])) _ _ _ (by simp [mS_])) _ _ _ (by simp [mS_])) _ _ (fun _ => by simp [mS_])) fun u hu => ?_⟩
        by_cases e : u = s
        · subst e
          refine Or.inr ⟨d, m, hd, hm, ?_, ?_, ?_, ?_, ?_, fun j hj => ?_⟩
          · rw [g_si_uw, if_neg (by omega), g_si_ui, if_pos rfl, if_neg (by decide), g_si_ui, if_pos rfl, if_pos rfl]
          · rw [g_si_uw, if_neg (by omega), g_si_ui, if_pos rfl, if_pos rfl]
          · rw [g_si_uw, if_neg (by omega), g_si_ne (by decide), g_si_ne (by decide), g_si_ui, if_pos rfl, if_pos rfl]
          · rw [g_si_uw, if_neg (by omega), g_si_ne (by decide), g_si_ui, if_pos rfl, if_pos rfl]
          · rw [g_si_uw, if_neg (by omega), g_si_ui, if_pos rfl, if_pos rfl]
          · rw [si_uw, si_uw, if_pos (by omega), if_pos (by omega)]
        · have hold := hS u hu
          have hi : ∀ j, j < 40 → si_ (uw_ (ui_ (ui_ (ui_ σm 15 s 1) 16 s (nI d)) 17 s (nI m)) 18 (fun j => if 40 * s + 0 ≤ j ∧ j < 40 * s + m then 0 else si_ σm 18 j)) 18 (40 * u + j) = si_ σm 18 (40 * u + j) := fun j hj => by
            rw [si_uw, if_neg (by omega)]
          have k1 : ∀ k, si_ (uw_ (ui_ (ui_ σx (2 * s + 41) 1 (nI d)) (2 * s + 41) 2 (nI m)) (2 * s + 42) (fun j => if j < 40 then 0 else si_ σx (2 * s + 42) j)) (2 * u + 41) k = si_ σx (2 * u + 41) k := fun k => by
            rw [g_si_uw, if_neg (by omega), g_si_ne (by omega), g_si_ne (by omega)]
          have k2 : ∀ k, si_ (uw_ (ui_ (ui_ σx (2 * s + 41) 1 (nI d)) (2 * s + 41) 2 (nI m)) (2 * s + 42) (fun j => if j < 40 then 0 else si_ σx (2 * s + 42) j)) (2 * u + 42) k = si_ σx (2 * u + 42) k := fun k => by
            rw [g_si_uw, if_neg (by omega), g_si_ne (by omega), g_si_ne (by omega)]
          have m1 : si_ (uw_ (ui_ (ui_ (ui_ σm 15 s 1) 16 s (nI d)) 17 s (nI m)) 18 (fun j => if 40 * s + 0 ≤ j ∧ j < 40 * s + m then 0 else si_ σm 18 j)) 15 u = si_ σm 15 u := by
            rw [g_si_uw, if_neg (by omega), g_si_ne (by decide), g_si_ne (by decide), g_si_ui, if_pos rfl, if_neg e]
          have m2 : si_ (uw_ (ui_ (ui_ (ui_ σm 15 s 1) 16 s (nI d)) 17 s (nI m)) 18 (fun j => if 40 * s + 0 ≤ j ∧ j < 40 * s + m then 0 else si_ σm 18 j)) 16 u = si_ σm 16 u := by
            rw [g_si_uw, if_neg (by omega), g_si_ne (by decide), g_si_ui, if_pos rfl, if_neg e]; rfl
          have m3 : si_ (uw_ (ui_ (ui_ (ui_ σm 15 s 1) 16 s (nI d)) 17 s (nI m)) 18 (fun j => if 40 * s + 0 ≤ j ∧ j < 40 * s + m then 0 else si_ σm 18 j)) 17 u = si_ σm 17 u := by
            rw [g_si_uw, if_neg (by omega), g_si_ui, if_pos rfl, if_neg e]; rfl
          rcases hold with ⟨h1, h2, h3⟩ | ⟨so, n, h1, h2, h3, h4, h5, h6, h7, h8⟩
          · exact Or.inl ⟨(k1 1).trans h1, (k1 2).trans h2, m1.trans h3⟩
          · exact Or.inr ⟨so, n, h1, h2, (k1 1).trans h3, (k1 2).trans h4, m1.trans h5, m2.trans h6, m3.trans h7, fun j hj => (k2 j).trans ((h8 j hj).trans (hi j (by omega)).symm)⟩
      · exact ⟨-14, σx, σm, by rw [eX, if_neg d1, if_pos d2, if_neg d3, if_pos e1, if_neg e2], by unfold f_X9_sheet; rw [if_neg hsn, if_neg a2, if_neg d4, if_pos e1, if_neg d4, if_neg e2], h0⟩
    · exact ⟨-2, σx, σm, by rw [eX, if_neg d1, if_pos d2, if_neg d3, if_neg e1], by unfold f_X9_sheet; rw [if_neg hsn, if_neg a2, if_neg d4, if_neg e1], h0⟩
