/-! MEET, there -/
def Bo_ (G1 G2 : Nat → Nat → Nat) (p w : Nat) : Nat := 36 * G1 (p / 36) w + G2 (p % 36) w
def Dg_ (p : Nat) : Prop := p / 36 = p % 36
section
variable {G1 G2 : Nat → Nat → Nat}
theorem bo_lt (h1 : ∀ u w, u < 36 → w < 8 → G1 u w < 36) (h2 : ∀ u w, u < 36 → w < 8 → G2 u w < 36) : ∀ u w, u < 1296 → w < 8 → Bo_ G1 G2 u w < 1296 := fun u w hu hw => by
  have a := h1 (u / 36) w (by omega) hw
  have b := h2 (u % 36) w (by omega) hw
  unfold Bo_
  omega
theorem bo_go (h1 : ∀ u w, u < 36 → w < 8 → G1 u w < 36) (h2 : ∀ u w, u < 36 → w < 8 → G2 u w < 36) : ∀ (r : List Nat), Wd_ r → ∀ a c, a < 36 → c < 36 → go_ (Bo_ G1 G2) (36 * a + c) r = 36 * go_ G1 a r + go_ G2 c r ∧ go_ G1 a r < 36 ∧ go_ G2 c r < 36 := by
  intro r
  induction r with
  | nil => intro _ a c ha hc; exact ⟨rfl, ha, hc⟩
  | cons w r ih =>
    intro h a c ha hc
    obtain ⟨k1, k2⟩ := Wd_.cons.mp h
    have e : Bo_ G1 G2 (36 * a + c) w = 36 * G1 a w + G2 c w := by
      unfold Bo_
      rw [show (36 * a + c) / 36 = a by omega, show (36 * a + c) % 36 = c by omega]
    show go_ (Bo_ G1 G2) (Bo_ G1 G2 (36 * a + c) w) r = 36 * go_ G1 (G1 a w) r + go_ G2 (G2 c w) r ∧ go_ G1 (G1 a w) r < 36 ∧ go_ G2 (G2 c w) r < 36
    rw [e]
    exact ih k2 _ _ (h1 a w ha k1) (h2 c w hc k1)
theorem c36 (a b : Nat) : (36 : Int32) * nI a + nI b = nI (36 * a + b) := by
  show nI 36 * nI a + nI b = _
  rw [pk_mul, nI_add]
theorem c36' (a b : Nat) : nI a * (36 : Int32) + nI b = nI (36 * a + b) := by
  show nI a * nI 36 + nI b = _
  rw [pk_mul, nI_add, Nat.mul_comm]
theorem d36 {p : Nat} (hp : p < 1296) : nI p / 36 = nI (p / 36) ∧ nI p - nI p / 36 * 36 = nI (p % 36) := ⟨pk_div (d := 36) (by omega) (by omega) (by omega), pk_rem (d := 36) (by omega) (by omega) (by omega)⟩
variable {σ : St_}
theorem lead_ok (hM : ShM_ σ) (t1 : Tb_ σ 7 G1) (t2 : Tb_ σ 8 G2) {p w : Nat} (hp : p < 1296) (hw : w < 8) : f_X9_bothLead σ 0 (nI p) (nI w) = some (nI (Bo_ G1 G2 p w)) := by
  unfold f_X9_bothLead
  rw [dm_0_27 hM, Option.bind_some, (d36 hp).2, (d36 hp).1, c8, lm_7 hM, ix_ok (by omega) (by omega), Option.bind_some, dm_0_28 hM, Option.bind_some, c8, lm_8 hM, ix_ok (by omega) (by omega), Option.bind_some, t1 _ (by omega), t2 _ (by omega), show (8 * (p / 36) + w) / 8 = p / 36 by omega, show (8 * (p / 36) + w) % 8 = w by omega, show (8 * (p % 36) + w) / 8 = p % 36 by omega, show (8 * (p % 36) + w) % 8 = w by omega, c36]
  rfl
theorem gb_58 (h1 : ∀ u w, u < 36 → w < 8 → G1 u w < 36) (h2 : ∀ u w, u < 36 → w < 8 → G2 u w < 36) {f : Nat → Nat} (hf : ∀ v, v < 1296 → f v ≤ 1000000) {p : Nat} (hp : p < 1296) (K41 : St_ → Nat → Int32 → Option St_) (K49 : St_ → Nat → Int32 → Int32 → Option St_) : ∀ (k w g : Nat) (σ : St_) (v : Int32), w + k = 8 → k < g → ShM_ σ → Tb_ σ 7 G1 → Tb_ σ 8 G2 → Fa_ σ 10 1296 (rxs_ (Eh_ (Bo_ G1 G2)) f (8 * p + w)) → Fg_ (Eh_ (Bo_ G1 G2)) f (8 * p + w) v → ∃ σ' v', f_X9_gathersBoth_58 5000 K41 K49 g σ 0 v (nI p) (nI w) = K49 σ' 0 v' (nI (p + 1)) ∧ Tb_ σ' 7 G1 ∧ Tb_ σ' 8 G2 ∧ Zf_ 10 σ σ' ∧ Fa_ σ' 10 1296 (rxs_ (Eh_ (Bo_ G1 G2)) f (8 * (p + 1))) ∧ Fg_ (Eh_ (Bo_ G1 G2)) f (8 * (p + 1)) v' := by
  intro k
  induction k with
  | zero =>
    intro w g σ v e1 e2 hM t1 t2 hF hg
    obtain ⟨g, rfl⟩ : ∃ g', g = g' + 1 := ⟨g - 1, by omega⟩
    have : w = 8 := by omega
    subst this
    refine ⟨σ, v, ?_, t1, t2, Zf_.refl hM 10, hF, hg⟩
    rw [u_X9_gathersBoth_58, if_pos (by decide), nI_1]
  | succ k ih =>
    intro w g σ v e1 e2 hM t1 t2 hF hg
    obtain ⟨g, rfl⟩ : ∃ g', g = g' + 1 := ⟨g - 1, by omega⟩
    have hw : w < 8 := by omega
    have hv := bo_lt h1 h2 p w hp hw
    have eE : Eh_ (Bo_ G1 G2) (8 * p + w) = (Bo_ G1 G2 p w, p) := by
      unfold Eh_
      rw [show (8 * p + w) / 8 = p by omega, show (8 * p + w) % 8 = w by omega]
    have b1 := Nat.le_trans (rxs_le (Eh_ (Bo_ G1 G2)) f p (8 * p + w)) (hf _ hp)
    have b2 := Nat.le_trans (rxs_le (Eh_ (Bo_ G1 G2)) f (Bo_ G1 G2 p w) (8 * p + w)) (hf _ hv)
    rw [u_X9_gathersBoth_58, if_neg (show ¬ (8 : Int32) ≤ nI w from nI_ge (b := 8) hw (by omega)), dm_0_30 hM, Option.bind_some, lead_ok hM t1 t2 hp hw, Option.bind_some, lm_10 hM, ix_ok hv (by omega), Option.bind_some, ix_ok hp (by omega), Option.bind_some, hF _ hp, hF _ hv, nI_1, nI_1]
    by_cases z1 : rxs_ (Eh_ (Bo_ G1 G2)) f (8 * p + w) p ≤ rxs_ (Eh_ (Bo_ G1 G2)) f (8 * p + w) (Bo_ G1 G2 p w) + 1
    · have n : ¬ rcd_ (rxs_ (Eh_ (Bo_ G1 G2)) f (8 * p + w)) (Eh_ (Bo_ G1 G2) (8 * p + w)) := fun z => by
        rw [eE] at z
        have z' : rxs_ (Eh_ (Bo_ G1 G2)) f (8 * p + w) (Bo_ G1 G2 p w) + 1 < rxs_ (Eh_ (Bo_ G1 G2)) f (8 * p + w) p ∧ rxs_ (Eh_ (Bo_ G1 G2)) f (8 * p + w) (Bo_ G1 G2 p w) + 1 < 1000000 := z
        omega
      rw [if_pos (nI_le z1 (by omega))]
      exact ih (w + 1) g σ v (by omega) (by omega) hM t1 t2 (hF.congr (rxs_no n)) (hg.no n)
    rw [if_neg (nI_ge (by omega) (by omega))]
    by_cases z2 : 1000000 ≤ rxs_ (Eh_ (Bo_ G1 G2)) f (8 * p + w) (Bo_ G1 G2 p w) + 1
    · have n : ¬ rcd_ (rxs_ (Eh_ (Bo_ G1 G2)) f (8 * p + w)) (Eh_ (Bo_ G1 G2) (8 * p + w)) := fun z => by
        rw [eE] at z
        have z' : rxs_ (Eh_ (Bo_ G1 G2)) f (8 * p + w) (Bo_ G1 G2 p w) + 1 < rxs_ (Eh_ (Bo_ G1 G2)) f (8 * p + w) p ∧ rxs_ (Eh_ (Bo_ G1 G2)) f (8 * p + w) (Bo_ G1 G2 p w) + 1 < 1000000 := z
        omega
      rw [if_pos (show (1000000 : Int32) ≤ _ from nI_le (a := 1000000) z2 (by omega))]
      exact ih (w + 1) g σ v (by omega) (by omega) hM t1 t2 (hF.congr (rxs_no n)) (hg.no n)
    rw [if_neg (show ¬ (1000000 : Int32) ≤ _ from nI_ge (b := 1000000) (by omega) (by omega)), Option.bind_some]
    have n : rcd_ (rxs_ (Eh_ (Bo_ G1 G2)) f (8 * p + w)) (Eh_ (Bo_ G1 G2) (8 * p + w)) := by
      rw [eE]
      refine ⟨?_, ?_⟩
      · show rxs_ (Eh_ (Bo_ G1 G2)) f (8 * p + w) (Bo_ G1 G2 p w) + 1 < rxs_ (Eh_ (Bo_ G1 G2)) f (8 * p + w) p; omega
      · show rxs_ (Eh_ (Bo_ G1 G2)) f (8 * p + w) (Bo_ G1 G2 p w) + 1 < 1000000; omega
    have zz := Zf_.ui hM 10 p (nI (rxs_ (Eh_ (Bo_ G1 G2)) f (8 * p + w) (Bo_ G1 G2 p w) + 1))
    obtain ⟨σ', v', q1, q2, q3, q4, q5, q6⟩ := ih (w + 1) g _ 1 (by omega) (by omega) zz.1 (t1.zf zz (by omega)) (t2.zf zz (by omega)) ((hF.up p (rxs_ (Eh_ (Bo_ G1 G2)) f (8 * p + w) (Bo_ G1 G2 p w) + 1)).congr (fun x => by
      have := rxs_yes n x
      rw [eE] at this
      exact this)) (Fg_.yes n)
    exact ⟨σ', v', q1, q2, q3, zz.trans q4, q5, q6⟩
theorem gb_49 (h1 : ∀ u w, u < 36 → w < 8 → G1 u w < 36) (h2 : ∀ u w, u < 36 → w < 8 → G2 u w < 36) {f : Nat → Nat} (hf : ∀ v, v < 1296 → f v ≤ 1000000) (K41 : St_ → Nat → Int32 → Option St_) : ∀ (k p g : Nat) (σ : St_) (v : Int32), p + k = 1296 → k < g → ShM_ σ → Tb_ σ 7 G1 → Tb_ σ 8 G2 → Fa_ σ 10 1296 (rxs_ (Eh_ (Bo_ G1 G2)) f (8 * p)) → Fg_ (Eh_ (Bo_ G1 G2)) f (8 * p) v → ∃ σ' v', f_X9_gathersBoth_49 5000 K41 g σ 0 v (nI p) = K41 σ' 0 v' ∧ Tb_ σ' 7 G1 ∧ Tb_ σ' 8 G2 ∧ Zf_ 10 σ σ' ∧ Fa_ σ' 10 1296 (rxs_ (Eh_ (Bo_ G1 G2)) f 10368) ∧ Fg_ (Eh_ (Bo_ G1 G2)) f 10368 v' := by
  intro k
  induction k with
  | zero =>
    intro p g σ v e1 e2 hM t1 t2 hF hg
    obtain ⟨g, rfl⟩ : ∃ g', g = g' + 1 := ⟨g - 1, by omega⟩
    have : p = 1296 := by omega
    subst this
    refine ⟨σ, v, ?_, t1, t2, Zf_.refl hM 10, hF, hg⟩
    rw [u_X9_gathersBoth_49, if_pos (by decide)]
  | succ k ih =>
    intro p g σ v e1 e2 hM t1 t2 hF hg
    obtain ⟨g, rfl⟩ : ∃ g', g = g' + 1 := ⟨g - 1, by omega⟩
    obtain ⟨s1, v1, q1, q2, q3, q4, q5, q6⟩ := gb_58 h1 h2 hf (show p < 1296 by omega) K41 (f_X9_gathersBoth_49 5000 K41 g) 8 0 5000 σ v (by omega) (by omega) hM t1 t2 hF hg
    obtain ⟨s2, v2, r1, r2, r3, r4, r5, r6⟩ := ih (p + 1) g s1 v1 (by omega) (by omega) q4.1 q2 q3 q5 q6
    refine ⟨s2, v2, ?_, r2, r3, q4.trans r4, r5, r6⟩
    rw [u_X9_gathersBoth_49, if_neg (show ¬ (1296 : Int32) ≤ nI p from nI_ge (b := 1296) (by omega) (by omega))]
    exact q1.trans r1
def fd0_ (v : Nat) : Nat := if v / 36 = v % 36 then 0 else 1000000
theorem gb_2 : ∀ (k i g : Nat) (σ : St_), i + k = 1296 → k < g → ShM_ σ → (∀ v, v < i → si_ σ 10 v = nI (fd0_ v)) → ∃ σ', f_X9_gathersBoth_2 5000 g σ 0 (nI i) = f_X9_gathersBoth_41 5000 5000 σ' 0 1 ∧ Zf_ 10 σ σ' ∧ Fa_ σ' 10 1296 fd0_ := by
  intro k
  induction k with
  | zero =>
    intro i g σ e1 e2 hM hF
    obtain ⟨g, rfl⟩ : ∃ g', g = g' + 1 := ⟨g - 1, by omega⟩
    have : i = 1296 := by omega
    subst this
    refine ⟨σ, ?_, Zf_.refl hM 10, hF⟩
    rw [u_X9_gathersBoth_2, if_pos (by decide)]
  | succ k ih =>
    intro i g σ e1 e2 hM hF
    obtain ⟨g, rfl⟩ : ∃ g', g = g' + 1 := ⟨g - 1, by omega⟩
    have hi : i < 1296 := by omega
    have zz := fun x => Zf_.ui hM 10 i x
    have go := fun (x : Int32) (hx : x = nI (fd0_ i)) => ih (i + 1) g (ui_ σ 10 i x) (by omega) (by omega) hM (fun v hv => by
      rw [g_si_ui, if_pos rfl]
      by_cases z : v = i
      · rw [if_pos z, hx, z]
      · rw [if_neg z]; exact hF v (by omega))
    rw [u_X9_gathersBoth_2, if_neg (show ¬ (1296 : Int32) ≤ nI i from nI_ge (b := 1296) hi (by omega)), dm_0_30 hM, Option.bind_some, (d36 hi).2, (d36 hi).1, lm_10 hM, ix_ok hi (by omega), Option.bind_some, Option.bind_some, nI_1]
    by_cases z : i / 36 = i % 36
    · rw [if_pos (by rw [z])]
      obtain ⟨σ', q1, q2, q3⟩ := go 0 (by unfold fd0_; rw [if_pos z]; rfl)
      exact ⟨σ', q1, (zz 0).trans q2, q3⟩
    · rw [if_neg (fun y => z ((nI_eq (by omega) (by omega)).mp y))]
      obtain ⟨σ', q1, q2, q3⟩ := go 1000000 (by unfold fd0_; rw [if_neg z]; rfl)
      exact ⟨σ', q1, (zz 1000000).trans q2, q3⟩
theorem both_ok (h1 : ∀ u w, u < 36 → w < 8 → G1 u w < 36) (h2 : ∀ u w, u < 36 → w < 8 → G2 u w < 36) (hM : ShM_ σ) (t1 : Tb_ σ 7 G1) (t2 : Tb_ σ 8 G2) : ∃ σ' f, f_X9_gathersBoth 5000 σ 0 = some σ' ∧ Zf_ 10 σ σ' ∧ Tb_ σ' 7 G1 ∧ Tb_ σ' 8 G2 ∧ Fa_ σ' 10 1296 f ∧ Fy_ (Bo_ G1 G2) 1296 Dg_ f := by
  obtain ⟨σ1, e1, z1, F1⟩ := gb_2 1296 0 5000 σ (by omega) (by omega) hM (fun v hv => by omega)
  have hG := bo_lt h1 h2
  have hE := eg_h (N := 1296) (M := 10368) (by omega) (D := Dg_) hG
  obtain ⟨σ2, f, e2, i2, z2, F2, S2, R2⟩ := rl_out (N := 1296) (M := 10368) (a := 10) (by omega) hE (fun g σ v => f_X9_gathersBoth_41 5000 g σ 0 v) (fun σ => ShM_ σ ∧ Tb_ σ 7 G1 ∧ Tb_ σ 8 G2) (fun g σ => by
      show f_X9_gathersBoth_41 5000 (g + 1) σ 0 0 = _
      rw [u_X9_gathersBoth_41, if_pos rfl]) (fun g σ f iI hF hf => by
      obtain ⟨hM, t1, t2⟩ := iI
      obtain ⟨σ', v', q1, q2, q3, q4, q5, q6⟩ := gb_49 h1 h2 hf (f_X9_gathersBoth_41 5000 g) 1296 0 5000 σ 0 (by omega) (by omega) hM t1 t2 hF (Fg_.z _ _)
      refine ⟨σ', v', ?_, ⟨q4.1, q2, q3⟩, q4, q5, q6⟩
      show f_X9_gathersBoth_41 5000 (g + 1) σ 0 1 = _
      rw [u_X9_gathersBoth_41, if_neg (by decide)]
      exact q1) 1296 0 5000 σ1 fd0_ (by omega) (by omega) ⟨z1.1, t1.zf z1 (by omega), t2.zf z1 (by omega)⟩ F1
      ⟨fun v _ => by unfold fd0_; split <;> omega, fun v e => by unfold fd0_; rw [if_pos (show v / 36 = v % 36 from e.2)], fun v hv h => by
        unfold fd0_ at h ⊢
        by_cases z : v / 36 = v % 36
        · rw [if_pos z]; exact ⟨hv, z⟩
        · rw [if_neg z] at h; omega⟩
      (fun d v hd hp => by
        have : d = 0 := by omega
        subst this
        have e : v / 36 = v % 36 := hp.2
        unfold fd0_
        rw [if_pos e]; exact Nat.le_refl _)
  refine ⟨σ2, f, e1.trans e2, z1.trans z2, i2.2.1, i2.2.2, F2, fun v hv => ?_⟩
  rcases rx_fin (by omega) hE S2 R2 v hv with ⟨a, b⟩ | ⟨a, b, c⟩
  · exact Or.inl ⟨a, fun r hr e => b r.length ((pa_g hG _ _).mpr ⟨hv, r, hr, rfl, e⟩)⟩
  · exact Or.inr ⟨a, ((pa_g hG _ _).mp b).2, fun r hr e => c _ ((pa_g hG _ _).mpr ⟨hv, r, hr, rfl, e⟩)⟩
variable {f : Nat → Nat}
theorem me_137 (h1 : ∀ u w, u < 36 → w < 8 → G1 u w < 36) (h2 : ∀ u w, u < 36 → w < 8 → G2 u w < 36) (hM : ShM_ σ) (t1 : Tb_ σ 7 G1) (t2 : Tb_ σ 8 G2) (hF : Fa_ σ 10 1296 f) (hf : ∀ v, v < 1296 → f v ≤ 1000000) {v d w0 : Nat} (hv : v < 1296) (e : f v = d + 1) (hw0 : w0 < 8) (e0 : f (Bo_ G1 G2 v w0) = d) (hl : ∀ w', w' < w0 → f (Bo_ G1 G2 v w') ≠ d) (Kt : St_ → Nat → Int32 → Option (Int32 × St_)) : ∀ (k w g : Nat), w + k = w0 → k < g → f_X9_meet_137 5000 Kt g σ 0 (nI v) (nI w) = Kt σ 0 (nI (Bo_ G1 G2 v w0)) := by
  have hfv := hf v hv
  intro k
  induction k with
  | zero =>
    intro w g q1 q2
    obtain ⟨g, rfl⟩ : ∃ g', g = g' + 1 := ⟨g - 1, by omega⟩
    have : w = w0 := by omega
    subst this
    have hg := bo_lt h1 h2 v w hv hw0
    rw [u_X9_meet_137, dm_0_30 hM, Option.bind_some, lead_ok hM t1 t2 hv hw0, Option.bind_some, lm_10 hM, ix_ok hg (by omega), Option.bind_some, ix_ok hv (by omega), Option.bind_some, hF _ hg, hF v hv, e0, e, nI_pred, if_pos rfl, Option.bind_some]
  | succ k ih =>
    intro w g q1 q2
    obtain ⟨g, rfl⟩ : ∃ g', g = g' + 1 := ⟨g - 1, by omega⟩
    have hg := bo_lt h1 h2 v w hv (by omega)
    have hfg := hf _ hg
    rw [u_X9_meet_137, dm_0_30 hM, Option.bind_some, lead_ok hM t1 t2 hv (by omega), Option.bind_some, lm_10 hM, ix_ok hg (by omega), Option.bind_some, ix_ok hv (by omega), Option.bind_some, hF _ hg, hF v hv, e, nI_pred, if_neg (fun y => hl w (by omega) ((nI_eq (by omega) (by omega)).mp y)), nI_1]
    exact ih (w + 1) g (by omega) (by omega)
theorem me_124 (h1 : ∀ u w, u < 36 → w < 8 → G1 u w < 36) (h2 : ∀ u w, u < 36 → w < 8 → G2 u w < 36) (hM : ShM_ σ) (t1 : Tb_ σ 7 G1) (t2 : Tb_ σ 8 G2) (hF : Fa_ σ 10 1296 f) (hy : Fy_ (Bo_ G1 G2) 1296 Dg_ f) : ∀ (d g v : Nat), d < g → v < 1296 → f v = d → d < 1296 → ∃ r, Mr_ (Bo_ G1 G2) Dg_ v r ∧ r.length = d ∧ f_X9_meet_124 5000 g σ 0 (nI v) = some (nI (go_ (Bo_ G1 G2) v r % 36), σ) := by
  intro d
  induction d with
  | zero =>
    intro g v q1 hv e q3
    obtain ⟨g, rfl⟩ : ∃ g', g = g' + 1 := ⟨g - 1, by omega⟩
    refine ⟨[], Fy_.mr0 ((hy.zero (by omega) hv).mp e), rfl, ?_⟩
    rw [u_X9_meet_124, dm_0_30 hM, Option.bind_some, lm_10 hM, ix_ok hv (by omega), Option.bind_some, hF v hv, e, if_pos (show nI 0 ≤ 0 by decide), (d36 hv).2]
    rfl
  | succ d ih =>
    intro g v q1 hv e q3
    obtain ⟨g, rfl⟩ : ∃ g', g = g' + 1 := ⟨g - 1, by omega⟩
    obtain ⟨w, hw, e0, hl⟩ := hy.step (by omega) (bo_lt h1 h2) hv e (by omega)
    have hg := bo_lt h1 h2 v w hv hw
    obtain ⟨r, r1, r2, r3⟩ := ih g (Bo_ G1 G2 v w) (by omega) hg e0 (by omega)
    refine ⟨w :: r, hy.mrs (by omega) (bo_lt h1 h2) hv e (by omega) hw hl r1 r2, by rw [List.length_cons, r2], ?_⟩
    have := me_137 h1 h2 hM t1 t2 hF (fun v hv => hy.le (by omega) hv) hv e hw e0 hl (f_X9_meet_124 5000 g) w 0 5000 (by omega) (by omega)
    have t : f_X9_meet_137 5000 (f_X9_meet_124 5000 g) 5000 σ 0 (nI v) 0 = _ := this
    rw [u_X9_meet_124, dm_0_30 hM, Option.bind_some, lm_10 hM, ix_ok hv (by omega), Option.bind_some, hF v hv, e, if_neg (nI_nle (by omega) (by omega)), t, r3]
    rfl
end
