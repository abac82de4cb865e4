/-! IMAGE, BACK -/
theorem bec_g (σ : St_) (a : Nat) (x y z w : Int32) (r k : Nat) : si_ (f_X0_become σ a x y z w) r k = if r = a then (if k = 3 then w else if k = 2 then z else if k = 1 then y else if k = 0 then x else si_ σ r k) else si_ σ r k := by
  unfold f_X0_become
  simp only [g_si_ui]
  by_cases h : r = a
  · simp only [if_pos h]
  · simp only [if_neg h]
theorem bec_fr {P : Nat → Nat → Prop} {σ0 σ : St_} (h : Fr_ P σ0 σ) (a : Nat) (x y z w : Int32) (n : ∀ k, ¬ P a k) : Fr_ P σ0 (f_X0_become σ a x y z w) :=
  Fr_.ui (Fr_.ui (Fr_.ui (Fr_.ui h _ _ _ (n _)) _ _ _ (n _)) _ _ _ (n _)) _ _ _ (n _)
def bi_ (σ : St_) (i : Nat) : St_ := f_X0_become σ (i + 9) (si_ σ (i + 3) 0) (si_ σ (i + 3) 1) (si_ σ (i + 3) 2) (si_ σ (i + 3) 3)
def bb_ (σ : St_) (i : Nat) : St_ := f_X0_become σ (i + 3) (si_ σ (i + 9) 0) (si_ σ (i + 9) 1) (si_ σ (i + 9) 2) (si_ σ (i + 9) 3)
theorem bi_st (fu g : Nat) {σ : St_} (h : ShX_ σ) {i : Nat} (hi : i < 4) : f_X1_becomeLike_34 fu (g + 1) σ 7 1 (nI i) = f_X1_becomeLike_34 fu g (bi_ σ i) 7 1 (nI (i + 1)) := by
  show ((dr_ σ 13 (sr_ σ 7 0)).bind fun b1 => if (nI (ln_ σ b1)) ≤ nI i then some σ else (dr_ σ 13 (sr_ σ 1 0)).bind fun b3 => if (nI (ln_ σ b3)) ≤ nI i then some σ else (ix_ (nI i) (ln_ σ b3)).bind fun j5 => (dr_ σ 0 (sr_ σ b3 j5)).bind fun b6 => (ix_ (nI i) (ln_ σ b1)).bind fun j7 => (dr_ σ 0 (sr_ σ b1 j7)).bind fun b8 => (f_X1_becomeLike_34 fu g) (f_X0_become σ b8 (si_ σ b6 0) (si_ σ b6 1) (si_ σ b6 2) (si_ σ b6 3)) 7 1 (nI i + (1 : Int32))) = _
  rw [dx_7_0 h, dx_1_0 h]
  simp only [Option.bind_some]
  rw [lx_2 h, lx_8 h, if_neg (nI_ge hi (by omega)), if_neg (nI_ge hi (by omega)), ix_ok hi (by omega), Option.bind_some, (h.car hi).1, Option.bind_some, Option.bind_some, (h.car2 hi).1, Option.bind_some, nI_1]
  rfl
theorem bb_st (fu g : Nat) {σ : St_} (h : ShX_ σ) {i : Nat} (hi : i < 4) : f_X1_becomeLike_34 fu (g + 1) σ 1 7 (nI i) = f_X1_becomeLike_34 fu g (bb_ σ i) 1 7 (nI (i + 1)) := by
  show ((dr_ σ 13 (sr_ σ 1 0)).bind fun b1 => if (nI (ln_ σ b1)) ≤ nI i then some σ else (dr_ σ 13 (sr_ σ 7 0)).bind fun b3 => if (nI (ln_ σ b3)) ≤ nI i then some σ else (ix_ (nI i) (ln_ σ b3)).bind fun j5 => (dr_ σ 0 (sr_ σ b3 j5)).bind fun b6 => (ix_ (nI i) (ln_ σ b1)).bind fun j7 => (dr_ σ 0 (sr_ σ b1 j7)).bind fun b8 => (f_X1_becomeLike_34 fu g) (f_X0_become σ b8 (si_ σ b6 0) (si_ σ b6 1) (si_ σ b6 2) (si_ σ b6 3)) 1 7 (nI i + (1 : Int32))) = _
  rw [dx_7_0 h, dx_1_0 h]
  simp only [Option.bind_some]
  rw [lx_2 h, lx_8 h, if_neg (nI_ge hi (by omega)), if_neg (nI_ge hi (by omega)), ix_ok hi (by omega), Option.bind_some, (h.car2 hi).1, Option.bind_some, Option.bind_some, (h.car hi).1, Option.bind_some, nI_1]
  rfl
theorem bi_en (fu g : Nat) {σ : St_} (h : ShX_ σ) : f_X1_becomeLike_34 fu (g + 1) σ 7 1 (nI 4) = some σ := by
  show ((dr_ σ 13 (sr_ σ 7 0)).bind fun b1 => if (nI (ln_ σ b1)) ≤ nI 4 then some σ else _) = _
  rw [dx_7_0 h, Option.bind_some, lx_8 h, if_pos (nI_le (by omega) (by omega))]
theorem bb_en (fu g : Nat) {σ : St_} (h : ShX_ σ) : f_X1_becomeLike_34 fu (g + 1) σ 1 7 (nI 4) = some σ := by
  show ((dr_ σ 13 (sr_ σ 1 0)).bind fun b1 => if (nI (ln_ σ b1)) ≤ nI 4 then some σ else _) = _
  rw [dx_1_0 h, Option.bind_some, lx_2 h, if_pos (nI_le (by omega) (by omega))]
/-- the image is taken, here -/
theorem img_x {σ : St_} (h : ShX_ σ) : ∃ σ', f_X1_becomeLike FU_ σ 7 1 = some σ' ∧ ShX_ σ' ∧ Fr_ (fun r k => ¬ (r = 7 ∨ (9 ≤ r ∧ r < 13))) σ σ' ∧ si_ σ' 7 1 = si_ σ 1 1 ∧ si_ σ' 7 2 = si_ σ 1 2 ∧ si_ σ' 7 3 = si_ σ 1 3 ∧ sl_ σ' 7 4 = sl_ σ 1 4 ∧ ∀ i, i < 4 → ∀ k, k < 4 → si_ σ' (i + 9) k = si_ σ (i + 3) k := by
  unfold f_X1_becomeLike
  have w : ∀ τ : St_, ShX_ τ → f_X1_becomeLike_34 FU_ FU_ τ 7 1 0 = some (bi_ (bi_ (bi_ (bi_ τ 0) 1) 2) 3) := fun τ hτ => by
    show f_X1_becomeLike_34 FU_ (4995 + 1 + 1 + 1 + 1 + 1) τ 7 1 (nI 0) = _
    rw [bi_st FU_ _ hτ (by omega), bi_st FU_ _ (σ := bi_ τ 0) hτ (by omega), bi_st FU_ _ (σ := bi_ (bi_ τ 0) 1) hτ (by omega), bi_st FU_ _ (σ := bi_ (bi_ (bi_ τ 0) 1) 2) hτ (by omega), bi_en FU_ _ (σ := bi_ (bi_ (bi_ (bi_ τ 0) 1) 2) 3) hτ]
  refine ⟨_, w _ h, h, ?_, rfl, rfl, rfl, ?_, ?_⟩
  · exact bec_fr (bec_fr (bec_fr (bec_fr (Fr_.ul (Fr_.ui (Fr_.ui (Fr_.ui (Fr_.refl _ _) _ _ _ (by omega)) _ _ _ (by omega)) _ _ _ (by omega)) _ _ _ (by omega)) _ _ _ _ _ (by omega)) _ _ _ _ _ (by omega)) _ _ _ _ _ (by omega)) _ _ _ _ _ (by omega)
  · show sl_ (ul_ _ 7 4 _) 7 4 = _
    rw [g_sl_ul, if_pos rfl, if_pos rfl]
    rfl
  · intro i hi k hk
    have a : i = 0 ∨ i = 1 ∨ i = 2 ∨ i = 3 := by omega
    have b : k = 0 ∨ k = 1 ∨ k = 2 ∨ k = 3 := by omega
    rcases a with rfl | rfl | rfl | rfl <;> rcases b with rfl | rfl | rfl | rfl <;> rfl
theorem img_b {σ : St_} (h : ShX_ σ) : ∃ σ', f_X1_becomeLike FU_ σ 1 7 = some σ' ∧ ShX_ σ' ∧ Fr_ (fun r k => ¬ (r = 1 ∨ (3 ≤ r ∧ r < 7))) σ σ' ∧ si_ σ' 1 1 = si_ σ 7 1 ∧ si_ σ' 1 2 = si_ σ 7 2 ∧ si_ σ' 1 3 = si_ σ 7 3 ∧ sl_ σ' 1 4 = sl_ σ 7 4 ∧ ∀ i, i < 4 → ∀ k, k < 4 → si_ σ' (i + 3) k = si_ σ (i + 9) k := by
  unfold f_X1_becomeLike
  have w : ∀ τ : St_, ShX_ τ → f_X1_becomeLike_34 FU_ FU_ τ 1 7 0 = some (bb_ (bb_ (bb_ (bb_ τ 0) 1) 2) 3) := fun τ hτ => by
    show f_X1_becomeLike_34 FU_ (4995 + 1 + 1 + 1 + 1 + 1) τ 1 7 (nI 0) = _
    rw [bb_st FU_ _ hτ (by omega), bb_st FU_ _ (σ := bb_ τ 0) hτ (by omega), bb_st FU_ _ (σ := bb_ (bb_ τ 0) 1) hτ (by omega), bb_st FU_ _ (σ := bb_ (bb_ (bb_ τ 0) 1) 2) hτ (by omega), bb_en FU_ _ (σ := bb_ (bb_ (bb_ (bb_ τ 0) 1) 2) 3) hτ]
  refine ⟨_, w _ h, h, ?_, rfl, rfl, rfl, ?_, ?_⟩
  · exact bec_fr (bec_fr (bec_fr (bec_fr (Fr_.ul (Fr_.ui (Fr_.ui (Fr_.ui (Fr_.refl _ _) _ _ _ (by omega)) _ _ _ (by omega)) _ _ _ (by omega)) _ _ _ (by omega)) _ _ _ _ _ (by omega)) _ _ _ _ _ (by omega)) _ _ _ _ _ (by omega)) _ _ _ _ _ (by omega)
  · show sl_ (ul_ _ 1 4 _) 1 4 = _
    rw [g_sl_ul, if_pos rfl, if_pos rfl]
    rfl
  · intro i hi k hk
    have a : i = 0 ∨ i = 1 ∨ i = 2 ∨ i = 3 := by omega
    have b : k = 0 ∨ k = 1 ∨ k = 2 ∨ k = 3 := by omega
    rcases a with rfl | rfl | rfl | rfl <;> rcases b with rfl | rfl | rfl | rfl <;> rfl
/-- a row that is copied into another, place by place, as far as L -/
def cp_ (f g : Nat → Int32) (i L : Nat) : Nat → Int32 := fun p => if i ≤ p ∧ p < L then g p else f p
theorem cp_up (f g : Nat → Int32) (i L : Nat) (h : i < L) (p : Nat) : cp_ (upd f i (g i)) g (i + 1) L p = cp_ f g i L p := by
  unfold cp_
  rw [upd_g]
  by_cases h1 : p = i
  · subst h1; rw [if_neg (by omega), if_pos rfl, if_pos (by omega)]
  · by_cases h2 : i + 1 ≤ p ∧ p < L
    · rw [if_pos h2, if_pos (by omega)]
    · rw [if_neg h2, if_neg h1, if_neg (by omega)]
theorem im28 (fu : Nat) {σ0 : St_} (hM : ShM_ σ0) : ∀ (k i fuel : Nat) (f : Nat → Int32), i + k = 12 → k < fuel → f_X9_image_28 fu fuel (uw_ σ0 14 f) 0 (nI i) = f_X9_image_28 fu 1 (uw_ σ0 14 (cp_ f (si_ σ0 6) i 12)) 0 (nI 12) := by
  intro k
  induction k with
  | zero =>
    intro i fuel f hi hf
    obtain ⟨g, rfl⟩ : ∃ g, fuel = g + 1 := ⟨fuel - 1, by omega⟩
    have : i = 12 := by omega
    subst this
    have e : uw_ σ0 14 (cp_ f (si_ σ0 6) 12 12) = uw_ σ0 14 f := uw_ext fun p => by unfold cp_; rw [if_neg (by omega)]
    rw [e]
    rfl
  | succ k ih =>
    intro i fuel f hi hf
    obtain ⟨g, rfl⟩ : ∃ g, fuel = g + 1 := ⟨fuel - 1, by omega⟩
    show (if (12 : Int32) ≤ nI i then _ else (dr_ σ0 10 (sr_ σ0 0 34)).bind fun b2 => (dr_ σ0 10 (sr_ σ0 0 10)).bind fun b3 => (ix_ (nI i) (ln_ σ0 b3)).bind fun j4 => (ix_ (nI i) (ln_ σ0 b2)).bind fun j5 => (f_X9_image_28 fu g) (ui_ (uw_ σ0 14 f) b2 j5 (si_ (uw_ σ0 14 f) b3 j4)) 0 (nI i + (1 : Int32))) = _
    rw [if_neg (show ¬ (12 : Int32) ≤ nI i from nI_ge (b := 12) (by omega) (by omega)), dm_0_34 hM, dm_0_10 hM]
    simp only [Option.bind_some]
    rw [lm_6 hM, lm_14 hM, ix_ok (by omega : i < 12) (by omega)]
    simp only [Option.bind_some]
    rw [nI_1, ui_uw, ih (i + 1) g _ (by omega) (by omega)]
    congr 1
    exact uw_ext fun p => cp_up f (si_ σ0 6) i 12 (by omega) p
theorem im2 (fu : Nat) {σ0 : St_} (hM : ShM_ σ0) : ∀ (k i fuel : Nat) (f : Nat → Int32), i + k = 36 → k < fuel → f_X9_image_2 fu fuel (uw_ σ0 13 f) 0 (nI i) = f_X9_image_28 fu fu (uw_ σ0 13 (cp_ f (si_ σ0 4) i 36)) 0 (nI 0) := by
  intro k
  induction k with
  | zero =>
    intro i fuel f hi hf
    obtain ⟨g, rfl⟩ : ∃ g, fuel = g + 1 := ⟨fuel - 1, by omega⟩
    have : i = 36 := by omega
    subst this
    have e : uw_ σ0 13 (cp_ f (si_ σ0 4) 36 36) = uw_ σ0 13 f := uw_ext fun p => by unfold cp_; rw [if_neg (by omega)]
    rw [e]
    rfl
  | succ k ih =>
    intro i fuel f hi hf
    obtain ⟨g, rfl⟩ : ∃ g, fuel = g + 1 := ⟨fuel - 1, by omega⟩
    show (if (36 : Int32) ≤ nI i then _ else (dr_ σ0 10 (sr_ σ0 0 33)).bind fun b2 => (dr_ σ0 10 (sr_ σ0 0 8)).bind fun b3 => (ix_ (nI i) (ln_ σ0 b3)).bind fun j4 => (ix_ (nI i) (ln_ σ0 b2)).bind fun j5 => (f_X9_image_2 fu g) (ui_ (uw_ σ0 13 f) b2 j5 (si_ (uw_ σ0 13 f) b3 j4)) 0 (nI i + (1 : Int32))) = _
    rw [if_neg (show ¬ (36 : Int32) ≤ nI i from nI_ge (b := 36) (by omega) (by omega)), dm_0_33 hM, dm_0_8 hM]
    simp only [Option.bind_some]
    rw [lm_4 hM, lm_13 hM, ix_ok (by omega : i < 36) (by omega)]
    simp only [Option.bind_some]
    rw [nI_1, ui_uw, ih (i + 1) g _ (by omega) (by omega)]
    congr 1
    exact uw_ext fun p => cp_up f (si_ σ0 4) i 36 (by omega) p
theorem bk39 (fu : Nat) {σ0 : St_} (hM : ShM_ σ0) : ∀ (k i fuel : Nat) (f : Nat → Int32), i + k = 12 → k < fuel → f_X9_back_39 fu fuel (uw_ σ0 6 f) 0 (nI i) = f_X9_back_39 fu 1 (uw_ σ0 6 (cp_ f (si_ σ0 14) i 12)) 0 (nI 12) := by
  intro k
  induction k with
  | zero =>
    intro i fuel f hi hf
    obtain ⟨g, rfl⟩ : ∃ g, fuel = g + 1 := ⟨fuel - 1, by omega⟩
    have : i = 12 := by omega
    subst this
    have e : uw_ σ0 6 (cp_ f (si_ σ0 14) 12 12) = uw_ σ0 6 f := uw_ext fun p => by unfold cp_; rw [if_neg (by omega)]
    rw [e]
    rfl
  | succ k ih =>
    intro i fuel f hi hf
    obtain ⟨g, rfl⟩ : ∃ g, fuel = g + 1 := ⟨fuel - 1, by omega⟩
    show (if (12 : Int32) ≤ nI i then _ else (dr_ σ0 10 (sr_ σ0 0 10)).bind fun b2 => (dr_ σ0 10 (sr_ σ0 0 34)).bind fun b3 => (ix_ (nI i) (ln_ σ0 b3)).bind fun j4 => (ix_ (nI i) (ln_ σ0 b2)).bind fun j5 => (f_X9_back_39 fu g) (ui_ (uw_ σ0 6 f) b2 j5 (si_ (uw_ σ0 6 f) b3 j4)) 0 (nI i + (1 : Int32))) = _
    rw [if_neg (show ¬ (12 : Int32) ≤ nI i from nI_ge (b := 12) (by omega) (by omega)), dm_0_34 hM, dm_0_10 hM]
    simp only [Option.bind_some]
    rw [lm_6 hM, lm_14 hM, ix_ok (by omega : i < 12) (by omega)]
    simp only [Option.bind_some]
    rw [nI_1, ui_uw, ih (i + 1) g _ (by omega) (by omega)]
    congr 1
    exact uw_ext fun p => cp_up f (si_ σ0 14) i 12 (by omega) p
theorem bk13 (fu : Nat) {σ0 : St_} (hM : ShM_ σ0) : ∀ (k i fuel : Nat) (f : Nat → Int32), i + k = 36 → k < fuel → f_X9_back_13 fu fuel (uw_ σ0 4 f) 0 (nI i) = f_X9_back_39 fu fu (uw_ σ0 4 (cp_ f (si_ σ0 13) i 36)) 0 (nI 0) := by
  intro k
  induction k with
  | zero =>
    intro i fuel f hi hf
    obtain ⟨g, rfl⟩ : ∃ g, fuel = g + 1 := ⟨fuel - 1, by omega⟩
    have : i = 36 := by omega
    subst this
    have e : uw_ σ0 4 (cp_ f (si_ σ0 13) 36 36) = uw_ σ0 4 f := uw_ext fun p => by unfold cp_; rw [if_neg (by omega)]
    rw [e]
    rfl
  | succ k ih =>
    intro i fuel f hi hf
    obtain ⟨g, rfl⟩ : ∃ g, fuel = g + 1 := ⟨fuel - 1, by omega⟩
    show (if (36 : Int32) ≤ nI i then _ else (dr_ σ0 10 (sr_ σ0 0 8)).bind fun b2 => (dr_ σ0 10 (sr_ σ0 0 33)).bind fun b3 => (ix_ (nI i) (ln_ σ0 b3)).bind fun j4 => (ix_ (nI i) (ln_ σ0 b2)).bind fun j5 => (f_X9_back_13 fu g) (ui_ (uw_ σ0 4 f) b2 j5 (si_ (uw_ σ0 4 f) b3 j4)) 0 (nI i + (1 : Int32))) = _
    rw [if_neg (show ¬ (36 : Int32) ≤ nI i from nI_ge (b := 36) (by omega) (by omega)), dm_0_33 hM, dm_0_8 hM]
    simp only [Option.bind_some]
    rw [lm_4 hM, lm_13 hM, ix_ok (by omega : i < 36) (by omega)]
    simp only [Option.bind_some]
    rw [nI_1, ui_uw, ih (i + 1) g _ (by omega) (by omega)]
    congr 1
    exact uw_ext fun p => cp_up f (si_ σ0 13) i 36 (by omega) p
/-- a floor, all of it, is another's -/
theorem Fl_.of {tc : Nat} {x x' : Nat → Int32} {w w' : Int64} {car car' : Nat → Nat → Int32} {many many' night night' rule rule' : Int32} {wa wa' ki ki' ro ro' : Nat → Int32} {n : Nat} (h : Fl_ tc x w car many night rule wa ki ro n)
    (e1 : x' 1 = x 1) (e2 : x' 2 = x 2) (e3 : x' 3 = x 3) (ew : w' = w) (ec : ∀ i, i < 4 → ∀ k, k < 4 → car' i k = car i k) (m1 : many' = many) (m2 : night' = night) (m3 : rule' = rule) (ewa : ∀ k, k < 36 → wa' k = wa k) (eki : ∀ k, k < n → ki' k = ki k) (ero : ∀ k, k < 12 → ro' k = ro k) : Fl_ tc x' w' car' many' night' rule' wa' ki' ro' n := by
  obtain ⟨h1, h2, h3, ⟨v, v1, v2, v3⟩, ⟨t, t1, t2, t3⟩, ⟨m, y1, y2, y3⟩, h7⟩ := h
  exact ⟨h1, e1.trans h2, m1.trans h3, ⟨v, v1, e2.trans v2, m2.trans v3⟩, ⟨t, t1, e3.trans t2, m3.trans t3⟩, ⟨m, y1, ew.trans y2, fun c hc => (ewa c hc).trans (y3 c hc)⟩, fun i hi => (h7 i hi).congr (fun k hk => ec i (by omega) k hk) (eki i hi) (fun k _ => ero _ (by omega))⟩
theorem img_m {σ : St_} (hM : ShM_ σ) : ∃ σ', f_X9_image FU_ σ 0 = some (si_ σ 0 11, σ') ∧ ShM_ σ' ∧ Fr_ (fun r k => ¬ ((r = 0 ∧ (k = 35 ∨ k = 36 ∨ k = 37)) ∨ r = 13 ∨ r = 14)) σ σ' ∧ si_ σ' 0 35 = si_ σ 0 11 ∧ si_ σ' 0 36 = si_ σ 0 7 ∧ si_ σ' 0 37 = si_ σ 0 4 ∧ (∀ k, k < 36 → si_ σ' 13 k = si_ σ 4 k) ∧ (∀ k, k < 12 → si_ σ' 14 k = si_ σ 6 k) := by
  have e1 := im2 FU_ (σ0 := σ) hM 36 0 FU_ (si_ σ 13) (by omega) (by unfold FU_; omega)
  rw [uw_id] at e1
  have e2 := im28 FU_ (σ0 := uw_ σ 13 (cp_ (si_ σ 13) (si_ σ 4) 0 36)) hM 12 0 FU_ (si_ σ 14) (by omega) (by unfold FU_; omega)
  have e3 : uw_ (uw_ σ 13 (cp_ (si_ σ 13) (si_ σ 4) 0 36)) 14 (si_ σ 14) = uw_ σ 13 (cp_ (si_ σ 13) (si_ σ 4) 0 36) := uw_id (uw_ σ 13 (cp_ (si_ σ 13) (si_ σ 4) 0 36)) 14
  rw [e3] at e2
  refine ⟨_, e1.trans e2, hM, ?_, rfl, rfl, rfl, ?_, ?_⟩
  · exact Fr_.ui (Fr_.ui (Fr_.ui (Fr_.uw (Fr_.uw (Fr_.refl _ _) _ _ (by omega)) _ _ (by omega)) _ _ _ (by omega)) _ _ _ (by omega)) _ _ _ (by omega)
  · intro k hk
    show cp_ (si_ σ 13) (si_ σ 4) 0 36 k = _
    unfold cp_
    rw [if_pos (by omega)]
  · intro k hk
    show cp_ (si_ σ 14) (si_ σ 6) 0 12 k = _
    unfold cp_
    rw [if_pos (by omega)]
theorem bck_m {σ : St_} (hM : ShM_ σ) (h : ¬ si_ σ 0 35 = -1) : ∃ σ', f_X9_back FU_ σ 0 = some (si_ σ 0 35, σ') ∧ ShM_ σ' ∧ Fr_ (fun r k => ¬ ((r = 0 ∧ (k = 11 ∨ k = 7 ∨ k = 4)) ∨ r = 4 ∨ r = 6)) σ σ' ∧ si_ σ' 0 11 = si_ σ 0 35 ∧ si_ σ' 0 7 = si_ σ 0 36 ∧ si_ σ' 0 4 = si_ σ 0 37 ∧ (∀ k, k < 36 → si_ σ' 4 k = si_ σ 13 k) ∧ (∀ k, k < 12 → si_ σ' 6 k = si_ σ 14 k) := by
  have e1 := bk13 FU_ (σ0 := σ) hM 36 0 FU_ (si_ σ 4) (by omega) (by unfold FU_; omega)
  rw [uw_id] at e1
  have e2 := bk39 FU_ (σ0 := uw_ σ 4 (cp_ (si_ σ 4) (si_ σ 13) 0 36)) hM 12 0 FU_ (si_ σ 6) (by omega) (by unfold FU_; omega)
  have e3 : uw_ (uw_ σ 4 (cp_ (si_ σ 4) (si_ σ 13) 0 36)) 6 (si_ σ 6) = uw_ σ 4 (cp_ (si_ σ 4) (si_ σ 13) 0 36) := uw_id (uw_ σ 4 (cp_ (si_ σ 4) (si_ σ 13) 0 36)) 6
  rw [e3] at e2
  have e0 : f_X9_back FU_ σ 0 = f_X9_back_13 FU_ FU_ σ 0 (nI 0) := by
    unfold f_X9_back
    rw [if_neg h]
    rfl
  refine ⟨_, e0.trans (e1.trans e2), hM, ?_, rfl, rfl, rfl, ?_, ?_⟩
  · exact Fr_.ui (Fr_.ui (Fr_.ui (Fr_.uw (Fr_.uw (Fr_.refl _ _) _ _ (by omega)) _ _ (by omega)) _ _ _ (by omega)) _ _ _ (by omega)) _ _ _ (by omega)
  · intro k hk
    show cp_ (si_ σ 4) (si_ σ 13) 0 36 k = _
    unfold cp_
    rw [if_pos (by omega)]
  · intro k hk
    show cp_ (si_ σ 6) (si_ σ 14) 0 12 k = _
    unfold cp_
    rw [if_pos (by omega)]
theorem sim_image : Sim_image Rel_ := by
  intro σx σm h _
  obtain ⟨hX, hM, tc, n, hT, hF, hK, hP, hS⟩ := h
  obtain ⟨σ1, a1, a2, a3, a4, a5, a6, a7, a8⟩ := img_x hX
  obtain ⟨σ2, b1, b2, b3, b4, b5, b6, b7, b8⟩ := img_m hM
  have hl : f_X8_image FU_ σx 0 = some (si_ σm 0 11, ui_ σ1 0 2 1) := by
    unfold f_X8_image
    rw [dx_0_1 hX, dx_0_0 hX]
    simp only [Option.bind_some]
    rw [a1, Option.bind_some, show dr_ (ui_ σ1 0 2 1) 1 (sr_ (ui_ σ1 0 2 1) 0 1) = some 7 from dx_0_1 a2, Option.bind_some, show si_ (ui_ σ1 0 2 1) 7 1 = si_ σ1 7 1 from rfl, a4, hF.2.1, hF.2.2.1]
  have fx : Fr_ (fun r k => ¬ (r = 7 ∨ (9 ≤ r ∧ r < 13) ∨ (r = 0 ∧ k = 2))) σx (ui_ σ1 0 2 1) := Fr_.ui (a3.mono (fun r k => by omega)) _ _ _ (by omega)
  refine ⟨_, _, _, hl, b1, a2, b2, tc, n, hT.congr (fx.mono ?_) (b3.mono ?_), hF.congr (fx.mono ?_) (b3.mono ?_), Or.inr ⟨rfl, n, Nat.le_refl _, ?_⟩, hP.congr (fx.mono ?_) (b3.mono ?_), hS.congr (fx.mono ?_) (b3.mono ?_)⟩
  any_goals (intro r k q z; simp only [xT_, xF_, xK_, xP_, xS_, mT_, mF_, mK_, mP_, mS_, xZ_, mZ_] at q z; omega)
  refine Fl_.of hF a4 a5 a6 a7 (fun i hi k hk => ?_) b4 b5 b6 b7 (fun k _ => b3.i (by omega)) b8
  show si_ (ui_ σ1 0 2 1) (i + 9) k = si_ σx (i + 3) k
  rw [g_si_ne (by omega), a8 i hi k hk]
theorem sim_back : Sim_back Rel_ := by
  intro σx σm h _
  have h0 := h
  obtain ⟨hX, hM, tc, n, hT, hF, hK, hP, hS⟩ := h
  rcases hK with ⟨k1, k2⟩ | ⟨k1, kn, k2, k3⟩
  · refine ⟨-3, σx, σm, ?_, ?_, h0⟩
    · unfold f_X8_back
      rw [if_pos k1]
    · unfold f_X9_back
      rw [if_pos k2]
  have hne : ¬ si_ σm 0 35 = -1 := by
    rw [k3.2.2.1]
    have := k3.1
    exact (show ∀ d, d < 5 → ¬ nI d = (-1 : Int32) by decide +kernel) kn (by omega)
  obtain ⟨σ1, a1, a2, a3, a4, a5, a6, a7, a8⟩ := img_b hX
  obtain ⟨σ2, b1, b2, b3, b4, b5, b6, b7, b8⟩ := bck_m hM hne
  have hl : f_X8_back FU_ σx 0 = some (si_ σm 0 35, σ1) := by
    unfold f_X8_back
    rw [k1, if_neg (by decide), dx_0_1 hX, dx_0_0 hX]
    simp only [Option.bind_some]
    rw [a1, Option.bind_some, dx_0_0 a2, Option.bind_some, a4, k3.2.1, k3.2.2.1]
  have hF2 : RF_ σ1 σ2 tc kn := Fl_.of k3 a4 a5 a6 a7 (fun i hi k hk => a8 i hi k hk) b4 b5 b6 b7 (fun k _ => b3.i (by omega)) b8
  refine ⟨_, _, _, hl, b1, a2, b2, tc, kn, hT.congr (a3.mono ?_) (b3.mono ?_), hF2, RK_.congr (Or.inr ⟨k1, kn, Nat.le_refl _, k3⟩) (a3.mono ?_) (b3.mono ?_), hP.congr (a3.mono ?_) (b3.mono ?_), hS.congr (a3.mono ?_) (b3.mono ?_)⟩
  all_goals (intro r k q z; simp only [xT_, xF_, xK_, xP_, xS_, mT_, mF_, mK_, mP_, mS_, xZ_, mZ_] at q z; omega)
