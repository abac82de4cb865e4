/-! WORDS BY WHICH ONE COMES THERE -/
def wc_ (G : Nat → Nat) (t : Nat) : Nat → Nat
  | 0 => 0
  | k + 1 => wc_ G t k + if G k = t then 1 else 0
def fd_ (G : Nat → Nat) (t : Nat) : Nat → Nat → Nat
  | 0, F => F
  | k + 1, F => fd_ G t k (if G k = t then k else F)
theorem wc_le (G : Nat → Nat) (t : Nat) : ∀ k, wc_ G t k ≤ k := by
  intro k
  induction k with
  | zero => exact Nat.le_refl _
  | succ k ih =>
    show wc_ G t k + (if G k = t then 1 else 0) ≤ k + 1
    split <;> omega
theorem wc_0 (G : Nat → Nat) (t : Nat) : ∀ k, wc_ G t k = 0 ↔ ∀ w, w < k → G w ≠ t := by
  intro k
  induction k with
  | zero => exact ⟨fun _ w hw => by omega, fun _ => rfl⟩
  | succ k ih =>
    show wc_ G t k + (if G k = t then 1 else 0) = 0 ↔ _
    by_cases z : G k = t
    · rw [if_pos z]
      exact ⟨fun h => by omega, fun h => absurd z (h k (by omega))⟩
    · rw [if_neg z, Nat.add_zero, ih]
      refine ⟨fun h w hw => ?_, fun h w hw => h w (by omega)⟩
      by_cases e : w = k
      · subst e; exact z
      · exact h w (by omega)
theorem fd_n (G : Nat → Nat) (t : Nat) : ∀ k F, (∀ w, w < k → G w ≠ t) → fd_ G t k F = F := by
  intro k
  induction k with
  | zero => intro F _; rfl
  | succ k ih =>
    intro F h
    show fd_ G t k (if G k = t then k else F) = F
    rw [if_neg (h k (by omega))]
    exact ih F (fun w hw => h w (by omega))
theorem fd_s (G : Nat → Nat) (t : Nat) : ∀ k F w, w < k → G w = t → (∀ v, v < w → G v ≠ t) → fd_ G t k F = w := by
  intro k
  induction k with
  | zero => intro F w hw; omega
  | succ k ih =>
    intro F w hw e h
    show fd_ G t k (if G k = t then k else F) = w
    by_cases z : w = k
    · subst z
      rw [if_pos e]
      exact fd_n G t w w h
    · exact ih _ w (by omega) e h
section
variable {kd nu fl ni m c : Nat} {ce cs cr : Cd_}
theorem fw_x (p : Pm_ kd nu fl ni m ce cs cr) {on t : Nat} (hon : on < 36) (ht : t < 36) : ∀ (k w g : Nat) (σ : St_), w + k = 8 → k < g → Th_ σ kd nu fl ni m ce cs cr → ∃ (r : Int32) (σ' : St_), f_X6_firstWord_2 5000 g σ 21 (nI on) (nI t) (nI w) = some (r, σ') ∧ TX_ σ σ' ∧ ((r = -1 ∧ ∀ v, w ≤ v → v < 8 → gt_ kd nu fl ni m ce cs on v ≠ t) ∨ ∃ v, w ≤ v ∧ v < 8 ∧ r = nI v ∧ gt_ kd nu fl ni m ce cs on v = t ∧ ∀ v', w ≤ v' → v' < v → gt_ kd nu fl ni m ce cs on v' ≠ t) := by
  intro k
  induction k with
  | zero =>
    intro w g σ h1 h2 hT
    obtain ⟨g, rfl⟩ : ∃ g', g = g' + 1 := ⟨g - 1, by omega⟩
    refine ⟨-1, σ, ?_, TX_.refl hT.1, Or.inl ⟨rfl, fun v a b => by omega⟩⟩
    rw [u_X6_firstWord_2, if_pos (show (8 : Int32) ≤ nI w from nI_le (a := 8) (by omega) (by omega))]
  | succ k ih =>
    intro w g σ h1 h2 hT
    obtain ⟨g, rfl⟩ : ∃ g', g = g' + 1 := ⟨g - 1, by omega⟩
    obtain ⟨s1, e1, t1⟩ := th_goal hT p hon (show w < 8 by omega)
    have hg := gt_lt kd nu fl ni m ce cs on w hon
    rw [u_X6_firstWord_2, if_neg (show ¬ (8 : Int32) ≤ nI w from nI_ge (b := 8) (by omega) (by omega)), e1, Option.bind_some, nI_1]
    simp only
    by_cases z : gt_ kd nu fl ni m ce cs on w = t
    · rw [if_pos (by rw [z])]
      exact ⟨_, _, rfl, t1, Or.inr ⟨w, by omega, by omega, rfl, z, fun v a b => by omega⟩⟩
    · rw [if_neg (fun q => z ((nI_eq (by omega) (by omega)).mp q))]
      obtain ⟨r, s2, f1, f2, f3⟩ := ih (w + 1) g s1 (by omega) (by omega) (hT.congr t1)
      refine ⟨r, s2, f1, t1.trans f2, ?_⟩
      rcases f3 with ⟨a, b⟩ | ⟨v, a1, a2, a3, a4, a5⟩
      · refine Or.inl ⟨a, fun v q1 q2 => ?_⟩
        by_cases e : v = w
        · subst e; exact z
        · exact b v (by omega) q2
      · refine Or.inr ⟨v, by omega, a2, a3, a4, fun v' q1 q2 => ?_⟩
        by_cases e : v' = w
        · subst e; exact z
        · exact a5 v' (by omega) q2
theorem fw_ok (p : Pm_ kd nu fl ni m ce cs cr) {on t : Nat} (hon : on < 36) (ht : t < 36) {σ : St_} (hT : Th_ σ kd nu fl ni m ce cs cr) : ∃ (r : Int32) (σ' : St_), f_X6_firstWord 5000 σ 21 (nI on) (nI t) = some (r, σ') ∧ TX_ σ σ' ∧ ((r = -1 ∧ ∀ v, v < 8 → gt_ kd nu fl ni m ce cs on v ≠ t) ∨ ∃ v, v < 8 ∧ r = nI v ∧ gt_ kd nu fl ni m ce cs on v = t ∧ ∀ v', v' < v → gt_ kd nu fl ni m ce cs on v' ≠ t) := by
  obtain ⟨r, s, e, t1, h⟩ := fw_x p hon ht 8 0 5000 σ (by omega) (by omega) hT
  refine ⟨r, s, e, t1, ?_⟩
  rcases h with ⟨a, b⟩ | ⟨v, -, a2, a3, a4, a5⟩
  · exact Or.inl ⟨a, fun v hv => b v (by omega) hv⟩
  · exact Or.inr ⟨v, a2, a3, a4, fun v' hv => a5 v' (by omega) hv⟩
theorem wc_x (p : Pm_ kd nu fl ni m ce cs cr) {on t : Nat} (hon : on < 36) (ht : t < 36) : ∀ (k w g : Nat) (σ : St_), w + k = 8 → k < g → Th_ σ kd nu fl ni m ce cs cr → ∃ (σ' : St_), f_X6_wordCount_5 5000 g σ 21 (nI on) (nI t) (nI (wc_ (gt_ kd nu fl ni m ce cs on) t w)) (nI w) = some (nI (wc_ (gt_ kd nu fl ni m ce cs on) t 8), σ') ∧ TX_ σ σ' := by
  intro k
  induction k with
  | zero =>
    intro w g σ h1 h2 hT
    obtain ⟨g, rfl⟩ : ∃ g', g = g' + 1 := ⟨g - 1, by omega⟩
    have : w = 8 := by omega
    subst this
    refine ⟨σ, ?_, TX_.refl hT.1⟩
    rw [u_X6_wordCount_5, if_pos (by decide)]
  | succ k ih =>
    intro w g σ h1 h2 hT
    obtain ⟨g, rfl⟩ : ∃ g', g = g' + 1 := ⟨g - 1, by omega⟩
    obtain ⟨s1, e1, t1⟩ := th_goal hT p hon (show w < 8 by omega)
    have hg := gt_lt kd nu fl ni m ce cs on w hon
    obtain ⟨s2, f1, f2⟩ := ih (w + 1) g s1 (by omega) (by omega) (hT.congr t1)
    refine ⟨s2, ?_, t1.trans f2⟩
    rw [u_X6_wordCount_5, if_neg (show ¬ (8 : Int32) ≤ nI w from nI_ge (b := 8) (by omega) (by omega)), e1, Option.bind_some, nI_1, nI_1, Int32.add_zero]
    simp only
    by_cases z : gt_ kd nu fl ni m ce cs on w = t
    · rw [if_pos (by rw [z])]
      have : wc_ (gt_ kd nu fl ni m ce cs on) t (w + 1) = wc_ (gt_ kd nu fl ni m ce cs on) t w + 1 := by
        show _ + _ = _
        rw [if_pos z]
      rw [this] at f1
      exact f1
    · rw [if_neg (fun q => z ((nI_eq (by omega) (by omega)).mp q))]
      have : wc_ (gt_ kd nu fl ni m ce cs on) t (w + 1) = wc_ (gt_ kd nu fl ni m ce cs on) t w := by
        show _ + _ = _
        rw [if_neg z]; rfl
      rw [this] at f1
      exact f1
theorem wc_ok (p : Pm_ kd nu fl ni m ce cs cr) {on t : Nat} (hon : on < 36) (ht : t < 36) {σ : St_} (hT : Th_ σ kd nu fl ni m ce cs cr) : ∃ (σ' : St_), f_X6_wordCount 5000 σ 21 (nI on) (nI t) = some (nI (wc_ (gt_ kd nu fl ni m ce cs on) t 8), σ') ∧ TX_ σ σ' := wc_x p hon ht 8 0 5000 σ (by omega) (by omega) hT
/-- there -/
theorem wa_go (p : Pm_ kd nu fl ni m ce cs cr) {on t s i : Nat} (hon : on < 36) (ht : t < 36) (hs : 40 * s + i < 160) (x4 : Int32) : ∀ (k g a F : Nat) (σ : St_), k ≤ 8 → k < g → Cm_ σ c kd nu fl ni m ce cs cr → si_ σ 18 (40 * s + i) = nI t → ∃ (σ' : St_), f_X9_wordsAt_20 5000 g σ 0 (nI s) (nI c) (nI i) x4 (nI on) (nI a) (nI F) (nI k + (-1)) = some (if x4 = 0 then nI (fd_ (gt_ kd nu fl ni m ce cs on) t k F) else nI (a + wc_ (gt_ kd nu fl ni m ce cs on) t k), σ') ∧ TM_ σ σ' := by
  intro k
  induction k with
  | zero =>
    intro g a F σ h1 h2 hC hi
    obtain ⟨g, rfl⟩ : ∃ g', g = g' + 1 := ⟨g - 1, by omega⟩
    refine ⟨σ, ?_, TM_.refl hC.1⟩
    rw [u_X9_wordsAt_20, if_pos (by decide +kernel)]
    by_cases z : x4 = 0
    · rw [if_pos z, if_pos z]; rfl
    · rw [if_neg z, if_neg z]; rfl
  | succ k ih =>
    intro g a F σ h1 h2 hC hi
    obtain ⟨g, rfl⟩ : ∃ g', g = g' + 1 := ⟨g - 1, by omega⟩
    obtain ⟨s1, e1, t1⟩ := cm_goes hC p hon (show k < 8 by omega)
    have hg := gt_lt kd nu fl ni m ce cs on k hon
    have hi' : si_ s1 18 (40 * s + i) = nI t := (t1.2.i (by simp [mG_])).trans hi
    rw [pk_m1, u_X9_wordsAt_20, if_neg (nI_pos (by omega)), e1, Option.bind_some]
    simp only
    rw [dm_0_41 t1.1, Option.bind_some, lm_18 t1.1, c40, ix_ok hs (by omega), Option.bind_some, hi']
    by_cases z : gt_ kd nu fl ni m ce cs on k = t
    · rw [if_pos (by rw [z]), nI_1]
      obtain ⟨s2, f1, f2⟩ := ih g (a + 1) k s1 (by omega) (by omega) (hC.congr t1) hi'
      refine ⟨s2, ?_, t1.trans f2⟩
      rw [f1]
      show _ = some (if x4 = 0 then nI (fd_ (gt_ kd nu fl ni m ce cs on) t k (if gt_ kd nu fl ni m ce cs on k = t then k else F)) else nI (a + (wc_ (gt_ kd nu fl ni m ce cs on) t k + if gt_ kd nu fl ni m ce cs on k = t then 1 else 0)), s2)
      rw [if_pos z, if_pos z]
      congr 4
      omega
    · rw [if_neg (fun q => z ((nI_eq (by omega) (by omega)).mp q))]
      obtain ⟨s2, f1, f2⟩ := ih g a F s1 (by omega) (by omega) (hC.congr t1) hi'
      refine ⟨s2, ?_, t1.trans f2⟩
      rw [f1]
      show _ = some (if x4 = 0 then nI (fd_ (gt_ kd nu fl ni m ce cs on) t k (if gt_ kd nu fl ni m ce cs on k = t then k else F)) else nI (a + (wc_ (gt_ kd nu fl ni m ce cs on) t k + if gt_ kd nu fl ni m ce cs on k = t then 1 else 0)), s2)
      rw [if_neg z, if_neg z]
      rfl
/-- the cell ahead of a seen one -/
def ah_ (st : Nat) (it : Nat → Nat) (i : Nat) : Nat := if i = 0 then st else it (i - 1)
theorem ah_lt {st sz : Nat} {it : Nat → Nat} (h : st < 36) (hi : ∀ j, j < sz → it j < 36) {i : Nat} (hs : i < sz) : ah_ st it i < 36 := by
  unfold ah_
  split
  · exact h
  · exact hi _ (by omega)
theorem ah_x {σx σm : St_} {s sz st : Nat} {it : Nat → Nat} (h : Se_ σx σm s sz 36 it) (hX : ShX_ σx) {i : Nat} (hi : i < sz) : f_X8_cellAhead σx (2 * s + 41) (nI i) (nI st) = some (nI (ah_ st it i)) := by
  unfold f_X8_cellAhead ah_
  have hz := h.2.1
  by_cases z : i = 0
  · subst z
    rw [if_pos (show nI 0 = 0 from rfl), if_pos rfl]
  · rw [if_neg (nI_ne0 (by omega) (by omega)), if_neg z]
    obtain ⟨i, rfl⟩ : ∃ j, i = j + 1 := ⟨i - 1, by omega⟩
    rw [nI_pred, h.item hX (by omega)]
    rfl
theorem wa_m (p : Pm_ kd nu fl ni m ce cs cr) {σx σm : St_} (hC : Cm_ σm c kd nu fl ni m ce cs cr) {s sz st : Nat} {it : Nat → Nat} (h : Se_ σx σm s sz 36 it) (hst : st < 36) (mo : si_ σm 6 (3 * c + 1) = nI st) {i : Nat} (hi : i < sz) (x4 : Int32) : ∃ (σ' : St_), f_X9_wordsAt 5000 σm 0 (nI s) (nI c) (nI i) x4 = some (if x4 = 0 then nI (fd_ (gt_ kd nu fl ni m ce cs (ah_ st it i)) (it i) 8 8) else nI (wc_ (gt_ kd nu fl ni m ce cs (ah_ st it i)) (it i) 8), σ') ∧ TM_ σm σ' := by
  have hz := h.2.1
  have hs := h.1
  have hM := hC.1
  have ea : f_X9_ahead σm 0 (nI s) (nI c) (nI i) = some (nI (ah_ st it i)) := by
    unfold f_X9_ahead ah_
    by_cases z : i = 0
    · subst z
      rw [if_pos (show nI 0 = 0 from rfl), if_pos rfl, dm_0_10 hM, Option.bind_some, lm_6 hM, ix_r1 c hC.2.1, Option.bind_some, mo]
    · rw [if_neg (nI_ne0 (by omega) (by omega)), if_neg z]
      obtain ⟨i, rfl⟩ : ∃ j, i = j + 1 := ⟨i - 1, by omega⟩
      rw [dm_0_41 hM, Option.bind_some, lm_18 hM, c40, ← Nat.add_assoc, nI_pred, ix_ok (by omega) (by omega), Option.bind_some, (h.2.2.2.2 i (by omega)).2.2]
      rfl
  unfold f_X9_wordsAt
  rw [ea, Option.bind_some]
  obtain ⟨σ', e, t⟩ := wa_go p (ah_lt hst (fun j hj => (h.2.2.2.2 j hj).1) hi) (h.2.2.2.2 i hi).1 (by omega) x4 8 5000 0 8 σm (by omega) (by omega) hC (h.2.2.2.2 i hi).2.2
  refine ⟨σ', ?_, t⟩
  rw [Nat.zero_add] at e
  exact e
/-- a seen cell fits -/
def Fit_ (G : Nat → Nat → Nat) (st : Nat) (it : Nat → Nat) (i : Nat) : Prop := ∃ w, w < 8 ∧ G (ah_ st it i) w = it i
theorem fit_wc (G : Nat → Nat → Nat) (st : Nat) (it : Nat → Nat) (i : Nat) : wc_ (G (ah_ st it i)) (it i) 8 = 0 ↔ ¬ Fit_ G st it i := by
  rw [wc_0]
  exact ⟨fun h ⟨w, hw, e⟩ => h w hw e, fun h w hw e => h ⟨w, hw, e⟩⟩
/-- the first that can't be -/
def FO_ (G : Nat → Nat → Nat) (st : Nat) (it : Nat → Nat) (sz i : Nat) (r : Int32) : Prop := (r = -1 ∧ ∀ j, i ≤ j → j < sz → Fit_ G st it j) ∨ ∃ j, i ≤ j ∧ j < sz ∧ r = nI j ∧ ¬ Fit_ G st it j ∧ ∀ j', i ≤ j' → j' < j → Fit_ G st it j'
theorem FO_.uni {G : Nat → Nat → Nat} {st : Nat} {it : Nat → Nat} {sz i : Nat} {r r' : Int32} (h : FO_ G st it sz i r) (h' : FO_ G st it sz i r') : r = r' := by
  rcases h with ⟨a, b⟩ | ⟨j, a1, a2, a3, a4, a5⟩ <;> rcases h' with ⟨c, d⟩ | ⟨j', c1, c2, c3, c4, c5⟩
  · rw [a, c]
  · exact absurd (b j' c1 c2) c4
  · exact absurd (d j a1 a2) a4
  · have : j = j' := by
      rcases Nat.lt_trichotomy j j' with q | q | q
      · exact absurd (c5 j a1 q) a4
      · exact q
      · exact absurd (a5 j' c1 q) c4
    rw [a3, c3, this]
theorem FO_.step {G : Nat → Nat → Nat} {st : Nat} {it : Nat → Nat} {sz i : Nat} {r : Int32} (hi : i < sz) (f : Fit_ G st it i) (h : FO_ G st it sz (i + 1) r) : FO_ G st it sz i r := by
  rcases h with ⟨a, b⟩ | ⟨j, a1, a2, a3, a4, a5⟩
  · refine Or.inl ⟨a, fun j q1 q2 => ?_⟩
    by_cases z : j = i
    · subst z; exact f
    · exact b j (by omega) q2
  · refine Or.inr ⟨j, by omega, a2, a3, a4, fun j' q1 q2 => ?_⟩
    by_cases z : j' = i
    · subst z; exact f
    · exact a5 j' (by omega) q2
theorem FO_.neg1 {G : Nat → Nat → Nat} {st : Nat} {it : Nat → Nat} {sz : Nat} (hz : sz ≤ 40) {r : Int32} (h : FO_ G st it sz 0 r) : r = -1 ↔ ∀ j, j < sz → Fit_ G st it j := by
  rcases h with ⟨a, b⟩ | ⟨j, a1, a2, a3, a4, a5⟩
  · exact ⟨fun _ j hj => b j (by omega) hj, fun _ => a⟩
  · refine ⟨fun e => ?_, fun h => absurd (h j a2) a4⟩
    rw [a3] at e
    exact absurd e ((show ∀ j, j < 40 → ¬ nI j = (-1 : Int32) by decide +kernel) j (by omega))
theorem fo_x (p : Pm_ kd nu fl ni m ce cs cr) {σm : St_} {s sz st : Nat} {it : Nat → Nat} (hst : st < 36) : ∀ (k i g : Nat) (σx : St_), i + k = sz → k < g → Th_ σx kd nu fl ni m ce cs cr → Se_ σx σm s sz 36 it → ∃ (r : Int32) (σ' : St_), f_X8_firstThatCannotBe_2 5000 g σx 0 (2 * s + 41) (nI st) (nI i) = some (r, σ') ∧ TX_ σx σ' ∧ FO_ (gt_ kd nu fl ni m ce cs) st it sz i r := by
  intro k
  induction k with
  | zero =>
    intro i g σx h1 h2 hT hS
    obtain ⟨g, rfl⟩ : ∃ g', g = g' + 1 := ⟨g - 1, by omega⟩
    have hz := hS.2.1
    refine ⟨-1, σx, ?_, TX_.refl hT.1, Or.inl ⟨rfl, fun j a b => by omega⟩⟩
    rw [u_X8_firstThatCannotBe_2, hS.2.2.1, if_pos (nI_le (by omega) (by omega))]
  | succ k ih =>
    intro i g σx h1 h2 hT hS
    obtain ⟨g, rfl⟩ : ∃ g', g = g' + 1 := ⟨g - 1, by omega⟩
    have hz := hS.2.1
    have hi : i < sz := by omega
    obtain ⟨r, s1, e1, t1, hr⟩ := fw_ok p (ah_lt hst (fun j hj => (hS.2.2.2.2 j hj).1) hi) (hS.2.2.2.2 i hi).1 hT
    rw [u_X8_firstThatCannotBe_2, hS.2.2.1, if_neg (nI_ge (by omega) (by omega)), dx_0_7 hT.1, Option.bind_some, ah_x hS hT.1 hi, Option.bind_some, hS.item hT.1 hi, Option.bind_some, e1, Option.bind_some, nI_1]
    simp only
    rcases hr with ⟨a, b⟩ | ⟨v, a2, a3, a4, a5⟩
    · rw [if_pos a]
      exact ⟨_, _, rfl, t1, Or.inr ⟨i, by omega, hi, rfl, fun ⟨w, hw, e⟩ => b w hw e, fun j' q1 q2 => by omega⟩⟩
    · rw [if_neg (by rw [a3]; exact (show ∀ j, j < 8 → ¬ nI j = (-1 : Int32) by decide +kernel) v a2)]
      obtain ⟨r2, s2, f1, f2, f3⟩ := ih (i + 1) g s1 (by omega) (by omega) (hT.congr t1) (hS.tx t1)
      exact ⟨r2, s2, f1, t1.trans f2, f3.step hi ⟨v, a2, a4⟩⟩
theorem fo_m (p : Pm_ kd nu fl ni m ce cs cr) {σx : St_} {s sz st : Nat} {it : Nat → Nat} (hst : st < 36) : ∀ (k i g : Nat) (σm : St_), i + k = sz → k < g → Cm_ σm c kd nu fl ni m ce cs cr → Se_ σx σm s sz 36 it → si_ σm 6 (3 * c + 1) = nI st → ∃ (r : Int32) (σ' : St_), f_X9_firstOther_2 5000 g σm 0 (nI s) (nI c) (nI i) = some (r, σ') ∧ TM_ σm σ' ∧ FO_ (gt_ kd nu fl ni m ce cs) st it sz i r := by
  intro k
  induction k with
  | zero =>
    intro i g σm h1 h2 hC hS mo
    obtain ⟨g, rfl⟩ : ∃ g', g = g' + 1 := ⟨g - 1, by omega⟩
    have hz := hS.2.1
    refine ⟨-1, σm, ?_, TM_.refl hC.1, Or.inl ⟨rfl, fun j a b => by omega⟩⟩
    rw [u_X9_firstOther_2, dm_0_40 hC.1, Option.bind_some, lm_17 hC.1, ix_ok hS.1 (by omega), Option.bind_some, hS.2.2.2.1, if_pos (nI_le (by omega) (by omega))]
  | succ k ih =>
    intro i g σm h1 h2 hC hS mo
    obtain ⟨g, rfl⟩ : ∃ g', g = g' + 1 := ⟨g - 1, by omega⟩
    have hz := hS.2.1
    have hi : i < sz := by omega
    obtain ⟨s1, e1, t1⟩ := wa_m p hC hS hst mo hi 1
    rw [u_X9_firstOther_2, dm_0_40 hC.1, Option.bind_some, lm_17 hC.1, ix_ok hS.1 (by omega), Option.bind_some, hS.2.2.2.1, if_neg (nI_ge (by omega) (by omega)), e1, Option.bind_some, if_neg (show ¬ (1 : Int32) = 0 by decide), nI_1]
    simp only
    have hle := wc_le (gt_ kd nu fl ni m ce cs (ah_ st it i)) (it i) 8
    have hf := fit_wc (gt_ kd nu fl ni m ce cs) st it i
    generalize wc_ (gt_ kd nu fl ni m ce cs (ah_ st it i)) (it i) 8 = q at *
    by_cases z : q = 0
    · subst z
      rw [if_pos (show nI 0 = 0 from rfl)]
      exact ⟨_, _, rfl, t1, Or.inr ⟨i, by omega, hi, rfl, hf.mp rfl, fun j' q1 q2 => by omega⟩⟩
    · rw [if_neg (nI_ne0 (by omega) (by omega))]
      obtain ⟨r2, s2, f1, f2, f3⟩ := ih (i + 1) g s1 (by omega) (by omega) (hC.congr t1) (hS.tm t1) ((t1.2.i (by simp [mG_])).trans mo)
      exact ⟨r2, s2, f1, t1.trans f2, f3.step hi (Classical.byContradiction fun y => z (hf.mpr y))⟩
theorem fox (p : Pm_ kd nu fl ni m ce cs cr) {σm σx : St_} {s sz st : Nat} {it : Nat → Nat} (hst : st < 36) (hT : Th_ σx kd nu fl ni m ce cs cr) (hS : Se_ σx σm s sz 36 it) : ∃ (r : Int32) (σ' : St_), f_X8_firstThatCannotBe 5000 σx 0 (2 * s + 41) (nI st) = some (r, σ') ∧ TX_ σx σ' ∧ FO_ (gt_ kd nu fl ni m ce cs) st it sz 0 r := fo_x p hst sz 0 5000 σx (by omega) (by have := hS.2.1; omega) hT hS
theorem fom (p : Pm_ kd nu fl ni m ce cs cr) {σm σx : St_} {s sz st : Nat} {it : Nat → Nat} (hst : st < 36) (hC : Cm_ σm c kd nu fl ni m ce cs cr) (hS : Se_ σx σm s sz 36 it) (mo : si_ σm 6 (3 * c + 1) = nI st) : ∃ (r : Int32) (σ' : St_), f_X9_firstOther 5000 σm 0 (nI s) (nI c) = some (r, σ') ∧ TM_ σm σ' ∧ FO_ (gt_ kd nu fl ni m ce cs) st it sz 0 r := fo_m p hst sz 0 5000 σm (by omega) (by have := hS.2.1; omega) hC hS mo
/-- rows of what was seen: the first row, sure words, how many -/
theorem fr_go (p : Pm_ kd nu fl ni m ce cs cr) {s sz st : Nat} {it : Nat → Nat} (hst : st < 36) (hf : ∀ j, j < sz → Fit_ (gt_ kd nu fl ni m ce cs) st it j) : ∀ (k i g g2 : Nat) (v : Int32) (σx σm : St_), i + k = sz → k < g → k < g2 → Th_ σx kd nu fl ni m ce cs cr → Cm_ σm c kd nu fl ni m ce cs cr → Se_ σx σm s sz 36 it → si_ σm 6 (3 * c + 1) = nI st → ∃ (r : Int32) (σx' σm' : St_), f_X8_firstRow_28 5000 g σx 0 (2 * s + 41) (nI st) v (nI i) = some (r, σx') ∧ f_X9_firstRow_30 5000 g2 σm 0 (nI s) (nI c) v (nI i) = some (r, σm') ∧ TX_ σx σx' ∧ TM_ σm σm' := by
  intro k
  induction k with
  | zero =>
    intro i g g2 v σx σm h1 h2 h3 hT hC hS mo
    obtain ⟨g, rfl⟩ : ∃ g', g = g' + 1 := ⟨g - 1, by omega⟩
    obtain ⟨g2, rfl⟩ : ∃ g', g2 = g' + 1 := ⟨g2 - 1, by omega⟩
    have hz := hS.2.1
    rw [u_X8_firstRow_28, u_X9_firstRow_30, hS.2.2.1, if_pos (nI_le (by omega) (by omega)), dm_0_40 hC.1, Option.bind_some, lm_17 hC.1, ix_ok hS.1 (by omega), Option.bind_some, hS.2.2.2.1, if_pos (nI_le (by omega) (by omega))]
    exact ⟨_, _, _, rfl, rfl, TX_.refl hT.1, TM_.refl hC.1⟩
  | succ k ih =>
    intro i g g2 v σx σm h1 h2 h3 hT hC hS mo
    obtain ⟨g, rfl⟩ : ∃ g', g = g' + 1 := ⟨g - 1, by omega⟩
    obtain ⟨g2, rfl⟩ : ∃ g', g2 = g' + 1 := ⟨g2 - 1, by omega⟩
    have hz := hS.2.1
    have hi : i < sz := by omega
    obtain ⟨r, s1, e1, t1, hr⟩ := fw_ok p (ah_lt hst (fun j hj => (hS.2.2.2.2 j hj).1) hi) (hS.2.2.2.2 i hi).1 hT
    obtain ⟨s2, e2, t2⟩ := wa_m p hC hS hst mo hi 0
    rw [u_X8_firstRow_28, u_X9_firstRow_30, hS.2.2.1, if_neg (nI_ge (by omega) (by omega)), dx_0_7 hT.1, Option.bind_some, ah_x hS hT.1 hi, Option.bind_some, hS.item hT.1 hi, Option.bind_some, e1, Option.bind_some, dm_0_40 hC.1, Option.bind_some, lm_17 hC.1, ix_ok hS.1 (by omega), Option.bind_some, hS.2.2.2.1, if_neg (nI_ge (by omega) (by omega)), e2, Option.bind_some, if_pos rfl, nI_1]
    simp only
    have er : nI (fd_ (gt_ kd nu fl ni m ce cs (ah_ st it i)) (it i) 8 8) = r := by
      rcases hr with ⟨a, b⟩ | ⟨w, a2, a3, a4, a5⟩
      · obtain ⟨w, hw, e⟩ := hf i hi
        exact absurd e (b w hw)
      · rw [fd_s _ _ 8 8 w a2 a4 a5, a3]
    rw [er, Int32.mul_comm 10 v]
    obtain ⟨r2, s3, s4, f1, f2, f3, f4⟩ := ih (i + 1) g g2 (v * 10 + r + 1) s1 s2 (by omega) (by omega) (by omega) (hT.congr t1) (hC.congr t2) ((hS.tx t1).tm t2) ((t2.2.i (by simp [mG_])).trans mo)
    exact ⟨r2, s3, s4, f1, f2, t1.trans f3, t2.trans f4⟩
theorem su_go (p : Pm_ kd nu fl ni m ce cs cr) {s sz st : Nat} {it : Nat → Nat} (hst : st < 36) : ∀ (k i g g2 : Nat) (v : Int32) (σx σm : St_), i + k = sz → k < g → k < g2 → Th_ σx kd nu fl ni m ce cs cr → Cm_ σm c kd nu fl ni m ce cs cr → Se_ σx σm s sz 36 it → si_ σm 6 (3 * c + 1) = nI st → ∃ (r : Int32) (σx' σm' : St_), f_X8_sureWords_5 5000 g σx 0 (2 * s + 41) (nI st) v (nI i) = some (r, σx') ∧ f_X9_tells_61 5000 g2 σm 0 (nI s) (nI c) v (nI i) = some (r, σm') ∧ TX_ σx σx' ∧ TM_ σm σm' := by
  intro k
  induction k with
  | zero =>
    intro i g g2 v σx σm h1 h2 h3 hT hC hS mo
    obtain ⟨g, rfl⟩ : ∃ g', g = g' + 1 := ⟨g - 1, by omega⟩
    obtain ⟨g2, rfl⟩ : ∃ g', g2 = g' + 1 := ⟨g2 - 1, by omega⟩
    have hz := hS.2.1
    rw [u_X8_sureWords_5, u_X9_tells_61, hS.2.2.1, if_pos (nI_le (by omega) (by omega)), dm_0_40 hC.1, Option.bind_some, lm_17 hC.1, ix_ok hS.1 (by omega), Option.bind_some, hS.2.2.2.1, if_pos (nI_le (by omega) (by omega))]
    exact ⟨_, _, _, rfl, rfl, TX_.refl hT.1, TM_.refl hC.1⟩
  | succ k ih =>
    intro i g g2 v σx σm h1 h2 h3 hT hC hS mo
    obtain ⟨g, rfl⟩ : ∃ g', g = g' + 1 := ⟨g - 1, by omega⟩
    obtain ⟨g2, rfl⟩ : ∃ g', g2 = g' + 1 := ⟨g2 - 1, by omega⟩
    have hz := hS.2.1
    have hi : i < sz := by omega
    obtain ⟨s1, e1, t1⟩ := wc_ok p (ah_lt hst (fun j hj => (hS.2.2.2.2 j hj).1) hi) (hS.2.2.2.2 i hi).1 hT
    obtain ⟨s2, e2, t2⟩ := wa_m p hC hS hst mo hi 1
    rw [u_X8_sureWords_5, u_X9_tells_61, hS.2.2.1, if_neg (nI_ge (by omega) (by omega)), dx_0_7 hT.1, Option.bind_some, ah_x hS hT.1 hi, Option.bind_some, hS.item hT.1 hi, Option.bind_some, e1, Option.bind_some, dm_0_40 hC.1, Option.bind_some, lm_17 hC.1, ix_ok hS.1 (by omega), Option.bind_some, hS.2.2.2.1, if_neg (nI_ge (by omega) (by omega)), e2, Option.bind_some, if_neg (show ¬ (1 : Int32) = 0 by decide), nI_1]
    simp only
    have go := fun v' => ih (i + 1) g g2 v' s1 s2 (by omega) (by omega) (by omega) (hT.congr t1) (hC.congr t2) ((hS.tx t1).tm t2) ((t2.2.i (by simp [mG_])).trans mo)
    generalize nI (wc_ (gt_ kd nu fl ni m ce cs (ah_ st it i)) (it i) 8) = q at *
    by_cases z : q = 1
    · rw [if_pos z, if_pos z]
      obtain ⟨r2, s3, s4, f1, f2, f3, f4⟩ := go (v + 1)
      exact ⟨r2, s3, s4, f1, f2, t1.trans f3, t2.trans f4⟩
    · rw [if_neg z, if_neg z]
      obtain ⟨r2, s3, s4, f1, f2, f3, f4⟩ := go (v + 0)
      exact ⟨r2, s3, s4, f1, f2, t1.trans f3, t2.trans f4⟩
theorem hm_go (p : Pm_ kd nu fl ni m ce cs cr) {s sz st : Nat} {it : Nat → Nat} (hst : st < 36) : ∀ (k i g g2 : Nat) (v : Int64) (σx σm : St_), i + k = sz → k < g → k < g2 → Th_ σx kd nu fl ni m ce cs cr → Cm_ σm c kd nu fl ni m ce cs cr → Se_ σx σm s sz 36 it → si_ σm 6 (3 * c + 1) = nI st → ∃ (r : Int64) (σx' σm' : St_), f_X8_howMany_5 5000 g σx 0 (2 * s + 41) (nI st) v (nI i) = some (r, σx') ∧ f_X9_ways_30 5000 g2 σm 0 (nI s) (nI c) v (nI i) = some (r, σm') ∧ TX_ σx σx' ∧ TM_ σm σm' := by
  intro k
  induction k with
  | zero =>
    intro i g g2 v σx σm h1 h2 h3 hT hC hS mo
    obtain ⟨g, rfl⟩ : ∃ g', g = g' + 1 := ⟨g - 1, by omega⟩
    obtain ⟨g2, rfl⟩ : ∃ g', g2 = g' + 1 := ⟨g2 - 1, by omega⟩
    have hz := hS.2.1
    rw [u_X8_howMany_5, u_X9_ways_30, hS.2.2.1, if_pos (nI_le (by omega) (by omega)), dm_0_40 hC.1, Option.bind_some, lm_17 hC.1, ix_ok hS.1 (by omega), Option.bind_some, hS.2.2.2.1, if_pos (nI_le (by omega) (by omega))]
    exact ⟨_, _, _, rfl, rfl, TX_.refl hT.1, TM_.refl hC.1⟩
  | succ k ih =>
    intro i g g2 v σx σm h1 h2 h3 hT hC hS mo
    obtain ⟨g, rfl⟩ : ∃ g', g = g' + 1 := ⟨g - 1, by omega⟩
    obtain ⟨g2, rfl⟩ : ∃ g', g2 = g' + 1 := ⟨g2 - 1, by omega⟩
    have hz := hS.2.1
    have hi : i < sz := by omega
    obtain ⟨s1, e1, t1⟩ := wc_ok p (ah_lt hst (fun j hj => (hS.2.2.2.2 j hj).1) hi) (hS.2.2.2.2 i hi).1 hT
    obtain ⟨s2, e2, t2⟩ := wa_m p hC hS hst mo hi 1
    rw [u_X8_howMany_5, u_X9_ways_30, hS.2.2.1, if_neg (nI_ge (by omega) (by omega)), dx_0_7 hT.1, Option.bind_some, ah_x hS hT.1 hi, Option.bind_some, hS.item hT.1 hi, Option.bind_some, e1, Option.bind_some, dm_0_40 hC.1, Option.bind_some, lm_17 hC.1, ix_ok hS.1 (by omega), Option.bind_some, hS.2.2.2.1, if_neg (nI_ge (by omega) (by omega)), e2, Option.bind_some, if_neg (show ¬ (1 : Int32) = 0 by decide), nI_1]
    obtain ⟨r2, s3, s4, f1, f2, f3, f4⟩ := ih (i + 1) g g2 (v * (nI (wc_ (gt_ kd nu fl ni m ce cs (ah_ st it i)) (it i) 8)).toInt64) s1 s2 (by omega) (by omega) (by omega) (hT.congr t1) (hC.congr t2) ((hS.tx t1).tm t2) ((t2.2.i (by simp [mG_])).trans mo)
    exact ⟨r2, s3, s4, f1, f2, t1.trans f3, t2.trans f4⟩
end
