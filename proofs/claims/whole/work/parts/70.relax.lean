/-! THERE: TABLES, NEARER AND NEARER -/
def Tb_ (σ : St_) (a : Nat) (G : Nat → Nat → Nat) : Prop := ∀ k, k < 288 → si_ σ a k = nI (G (k / 8) (k % 8))
def Fa_ (σ : St_) (a N : Nat) (f : Nat → Nat) : Prop := ∀ v, v < N → si_ σ a v = nI (f v)
def Zf_ (a : Nat) (σ σ' : St_) : Prop := ShM_ σ' ∧ Fr_ (fun r _ => r ≠ a) σ σ'
theorem Zf_.refl {σ : St_} (h : ShM_ σ) (a : Nat) : Zf_ a σ σ := ⟨h, Fr_.refl _ _⟩
theorem Zf_.trans {a : Nat} {σ σ' σ'' : St_} (h : Zf_ a σ σ') (g : Zf_ a σ' σ'') : Zf_ a σ σ'' := ⟨g.1, h.2.trans g.2⟩
theorem Zf_.ui {σ : St_} (h : ShM_ σ) (a j : Nat) (x : Int32) : Zf_ a σ (ui_ σ a j x) := ⟨h, (Fr_.refl _ _).ui a j x (fun z => z rfl)⟩
theorem Zf_.sc {a : Nat} {σ σ' : St_} (h : Zf_ a σ σ') (h1 : 7 ≤ a) (h2 : a < 13) : ScM_ σ σ' := ⟨h.1, h.2.mono (fun r k z e => by subst e; exact z (by simp only [mZ_]; omega))⟩
theorem Tb_.zf {a b : Nat} {σ σ' : St_} {G : Nat → Nat → Nat} (h : Tb_ σ a G) (z : Zf_ b σ σ') (n : a ≠ b) : Tb_ σ' a G := fun k hk => (z.2.i n).trans (h k hk)
theorem Fa_.congr {σ : St_} {a N : Nat} {f f' : Nat → Nat} (h : Fa_ σ a N f) (e : ∀ x, f' x = f x) : Fa_ σ a N f' := fun v hv => by rw [h v hv, e]
theorem Fa_.up {σ : St_} {a N : Nat} {f : Nat → Nat} (h : Fa_ σ a N f) (v y : Nat) : Fa_ (ui_ σ a v (nI y)) a N (fun x => if x = v then y else f x) := fun x hx => by
  rw [g_si_ui, if_pos rfl]
  show _ = nI (if x = v then y else f x)
  by_cases z : x = v
  · rw [if_pos z, if_pos z]
  · rw [if_neg z, if_neg z]; exact h x hx
theorem Cm_.sc {σ σ' : St_} {c kd nu fl ni m : Nat} {ce cs cr : Cd_} (h : Cm_ σ c kd nu fl ni m ce cs cr) (t : ScM_ σ σ') : Cm_ σ' c kd nu fl ni m ce cs cr := by
  obtain ⟨hM, hc, k1, k2, k3, k4, k5, t0, n, ch, t1, t2, t3, t4, t5, t6⟩ := h
  exact ⟨t.1, hc, (t.2.i (by simp [mZ_])).trans k1, (t.2.i (by simp [mZ_])).trans k2, (t.2.i (by simp [mZ_])).trans k3, (t.2.i (by simp [mZ_])).trans k4, fun k hk => (t.2.i (by simp [mZ_])).trans (k5 k hk), t0, n, ch, t1, t2, (t.2.i (by simp [mZ_])).trans t3, (t.2.i (by simp [mZ_])).trans t4, fun j hj => ⟨(t5 j hj).1, (t.2.i (by simp [mZ_])).trans (t5 j hj).2⟩, t6⟩
theorem c8 (a b : Nat) : (8 : Int32) * nI a + nI b = nI (8 * a + b) := by
  show nI 8 * nI a + nI b = _
  rw [pk_mul, nI_add]
theorem c8' (a b : Nat) : nI a * (8 : Int32) + nI b = nI (8 * a + b) := by
  show nI a * nI 8 + nI b = _
  rw [pk_mul, nI_add, Nat.mul_comm]
section
variable {kd nu fl ni m c : Nat} {ce cs cr : Cd_}
/-- scratch of a table: what else is kept -/
def Zt_ (a : Nat) (σ σ' : St_) : Prop := ShM_ σ' ∧ Fr_ (fun r k => r ≠ a ∧ ¬ mG_ r k) σ σ'
theorem Zt_.trans {a : Nat} {σ σ' σ'' : St_} (h : Zt_ a σ σ') (g : Zt_ a σ' σ'') : Zt_ a σ σ'' := ⟨g.1, h.2.trans g.2⟩
theorem Zt_.sc {a : Nat} {σ σ' : St_} (h : Zt_ a σ σ') (h1 : 7 ≤ a) (h2 : a < 13) : ScM_ σ σ' := ⟨h.1, h.2.mono (fun r k z => ⟨fun e => by subst e; exact z (by simp only [mZ_]; omega), fun e => z (by simp only [mZ_, mG_] at e ⊢; omega)⟩)⟩
theorem tab_11 (p : Pm_ kd nu fl ni m ce cs cr) {a on : Nat} (ha : a = 7 ∨ a = 8) (hon : on < 36) (K : St_ → Nat → Int32 → Nat → Int32 → Option St_) : ∀ (k w g : Nat) (σ : St_), w + k = 8 → k < g → Cm_ σ c kd nu fl ni m ce cs cr → (∀ j, j < 8 * on + w → si_ σ a j = nI (gt_ kd nu fl ni m ce cs (j / 8) (j % 8))) → ∃ σ', f_X9_tables_11 5000 K g σ 0 (nI c) a (nI on) (nI w) = K σ' 0 (nI c) a (nI (on + 1)) ∧ Zt_ a σ σ' ∧ Cm_ σ' c kd nu fl ni m ce cs cr ∧ ∀ j, j < 8 * (on + 1) → si_ σ' a j = nI (gt_ kd nu fl ni m ce cs (j / 8) (j % 8)) := by
  intro k
  induction k with
  | zero =>
    intro w g σ h1 h2 hC hj
    obtain ⟨g, rfl⟩ : ∃ g', g = g' + 1 := ⟨g - 1, by omega⟩
    have : w = 8 := by omega
    subst this
    refine ⟨σ, ?_, ⟨hC.1, Fr_.refl _ _⟩, hC, fun j h => hj j (by omega)⟩
    rw [u_X9_tables_11, if_pos (by decide), nI_1]
  | succ k ih =>
    intro w g σ h1 h2 hC hj
    obtain ⟨g, rfl⟩ : ∃ g', g = g' + 1 := ⟨g - 1, by omega⟩
    obtain ⟨s1, e1, t1⟩ := cm_goes hC p hon (show w < 8 by omega)
    have hC1 := hC.congr t1
    have hl : ln_ s1 a = 288 := by
      rcases ha with rfl | rfl
      · exact lm_7 hC1.1
      · exact lm_8 hC1.1
    have z1 : Zt_ a s1 (ui_ s1 a (8 * on + w) (nI (gt_ kd nu fl ni m ce cs on w))) := ⟨hC1.1, (Fr_.refl _ _).ui _ _ _ (fun z => z.1 rfl)⟩
    have hC2 := hC1.sc (z1.sc (by omega) (by omega))
    obtain ⟨σ', f1, f2, f3, f4⟩ := ih (w + 1) g _ (by omega) (by omega) hC2 (fun j h => by
      rw [g_si_ui, if_pos rfl]
      by_cases z : j = 8 * on + w
      · rw [if_pos z, z, show (8 * on + w) / 8 = on by omega, show (8 * on + w) % 8 = w by omega]
      · rw [if_neg z, t1.2.i (by simp only [mG_]; omega)]
        exact hj j (by omega))
    refine ⟨σ', ?_, Zt_.trans (Zt_.trans ⟨t1.1, t1.2.mono (fun r k z => z.2)⟩ z1) f2, f3, f4⟩
    rw [u_X9_tables_11, if_neg (show ¬ (8 : Int32) ≤ nI w from nI_ge (b := 8) (by omega) (by omega)), e1, Option.bind_some, c8, hl, ix_ok (by omega) (by omega), Option.bind_some, nI_1]
    exact f1
theorem tab_2 (p : Pm_ kd nu fl ni m ce cs cr) {a : Nat} (ha : a = 7 ∨ a = 8) : ∀ (k on g : Nat) (σ : St_), on + k = 36 → k < g → Cm_ σ c kd nu fl ni m ce cs cr → (∀ j, j < 8 * on → si_ σ a j = nI (gt_ kd nu fl ni m ce cs (j / 8) (j % 8))) → ∃ σ', f_X9_tables_2 5000 g σ 0 (nI c) a (nI on) = some σ' ∧ Zt_ a σ σ' ∧ Cm_ σ' c kd nu fl ni m ce cs cr ∧ Tb_ σ' a (gt_ kd nu fl ni m ce cs) := by
  intro k
  induction k with
  | zero =>
    intro on g σ h1 h2 hC hj
    obtain ⟨g, rfl⟩ : ∃ g', g = g' + 1 := ⟨g - 1, by omega⟩
    have : on = 36 := by omega
    subst this
    refine ⟨σ, ?_, ⟨hC.1, Fr_.refl _ _⟩, hC, fun j h => hj j (by omega)⟩
    rw [u_X9_tables_2, if_pos (by decide)]
  | succ k ih =>
    intro on g σ h1 h2 hC hj
    obtain ⟨g, rfl⟩ : ∃ g', g = g' + 1 := ⟨g - 1, by omega⟩
    obtain ⟨s1, f1, f2, f3, f4⟩ := tab_11 p ha (show on < 36 by omega) (f_X9_tables_2 5000 g) 8 0 5000 σ (by omega) (by omega) hC (fun j h => hj j (by omega))
    obtain ⟨s2, g1, g2, g3, g4⟩ := ih (on + 1) g s1 (by omega) (by omega) f3 f4
    refine ⟨s2, ?_, f2.trans g2, g3, g4⟩
    rw [u_X9_tables_2, if_neg (show ¬ (36 : Int32) ≤ nI on from nI_ge (b := 36) (by omega) (by omega))]
    exact f1.trans g1
theorem tab_ok (p : Pm_ kd nu fl ni m ce cs cr) {a : Nat} (ha : a = 7 ∨ a = 8) {σ : St_} (hC : Cm_ σ c kd nu fl ni m ce cs cr) : ∃ σ', f_X9_tables 5000 σ 0 (nI c) a = some σ' ∧ Zt_ a σ σ' ∧ Cm_ σ' c kd nu fl ni m ce cs cr ∧ Tb_ σ' a (gt_ kd nu fl ni m ce cs) := tab_2 p ha 36 0 5000 σ (by omega) (by omega) hC (fun j h => by omega)
end
/-- whether something was nearer -/
def Fg_ (E : Nat → Nat × Nat) (f : Nat → Nat) (i : Nat) (v : Int32) : Prop := (v = 0 ∧ rst_ E f i) ∨ (v = 1 ∧ ¬ rst_ E f i)
theorem Fg_.z (E : Nat → Nat × Nat) (f : Nat → Nat) : Fg_ E f 0 0 := Or.inl ⟨rfl, fun j hj => by omega⟩
theorem Fg_.no {E : Nat → Nat × Nat} {f : Nat → Nat} {i : Nat} {v : Int32} (h : Fg_ E f i v) (n : ¬ rcd_ (rxs_ E f i) (E i)) : Fg_ E f (i + 1) v := by
  rcases h with ⟨a, b⟩ | ⟨a, b⟩
  · refine Or.inl ⟨a, fun j hj => ?_⟩
    by_cases z : j = i
    · subst z; exact n
    · exact b j (by omega)
  · exact Or.inr ⟨a, fun z => b (fun j hj => z j (by omega))⟩
theorem Fg_.yes {E : Nat → Nat × Nat} {f : Nat → Nat} {i : Nat} (n : rcd_ (rxs_ E f i) (E i)) : Fg_ E f (i + 1) 1 := Or.inr ⟨rfl, fun z => z i (by omega) n⟩
theorem rxs_no {E : Nat → Nat × Nat} {f : Nat → Nat} {i : Nat} (n : ¬ rcd_ (rxs_ E f i) (E i)) (x : Nat) : rxs_ E f (i + 1) x = rxs_ E f i x := by
  show rx1_ (rxs_ E f i) (E i) x = _
  unfold rx1_
  rw [if_neg (fun z => n z.1)]
theorem rxs_yes {E : Nat → Nat × Nat} {f : Nat → Nat} {i : Nat} (n : rcd_ (rxs_ E f i) (E i)) (x : Nat) : rxs_ E f (i + 1) x = if x = (E i).2 then rxs_ E f i (E i).1 + 1 else rxs_ E f i x := by
  show rx1_ (rxs_ E f i) (E i) x = _
  unfold rx1_
  by_cases z : x = (E i).2
  · rw [if_pos ⟨n, z⟩, if_pos z]
  · rw [if_neg (fun y => z y.2), if_neg z]
/-- pass by pass, till nothing is nearer -/
theorem rl_out {N M a : Nat} {S : Nat → Prop} {Er : Nat → Nat → Prop} {E : Nat → Nat × Nat} (hN : N + 1 < 1000000) (hE : Eg_ N M S Er E) (O : Nat → St_ → Int32 → Option St_) (Inv : St_ → Prop)
    (hO0 : ∀ g σ, O (g + 1) σ 0 = some σ)
    (hO1 : ∀ g σ f, Inv σ → Fa_ σ a N f → (∀ v, v < N → f v ≤ 1000000) → ∃ σ' v', O (g + 1) σ 1 = O g σ' v' ∧ Inv σ' ∧ Zf_ a σ σ' ∧ Fa_ σ' a N (rxs_ E f M) ∧ Fg_ E f M v') :
    ∀ (k t g : Nat) (σ : St_) (f : Nat → Nat), t + k = N → k + 2 ≤ g → Inv σ → Fa_ σ a N f → So_ N S Er f → (∀ d v, d ≤ t → Pa_ S Er d v → f v ≤ d) → ∃ σ' f', O g σ 1 = some σ' ∧ Inv σ' ∧ Zf_ a σ σ' ∧ Fa_ σ' a N f' ∧ So_ N S Er f' ∧ rst_ E f' M := by
  intro k
  induction k with
  | zero =>
    intro t g σ f h1 h2 iI hF hS hL
    obtain ⟨g, rfl⟩ : ∃ g', g = g' + 2 := ⟨g - 2, by omega⟩
    obtain ⟨σ', v', e, i', z', F', fg⟩ := hO1 (g + 1) σ f iI hF hS.1
    rcases fg with ⟨rfl, b⟩ | ⟨rfl, b⟩
    · refine ⟨σ', f, by rw [e, hO0], i', z', F'.congr (fun x => (rst_same M b x).symm), hS, b⟩
    · have := rch_lt hE hS hL b
      omega
  | succ k ih =>
    intro t g σ f h1 h2 iI hF hS hL
    obtain ⟨g, rfl⟩ : ∃ g', g = g' + 2 := ⟨g - 2, by omega⟩
    obtain ⟨σ', v', e, i', z', F', fg⟩ := hO1 (g + 1) σ f iI hF hS.1
    rcases fg with ⟨rfl, b⟩ | ⟨rfl, b⟩
    · refine ⟨σ', f, by rw [e, hO0], i', z', F'.congr (fun x => (rst_same M b x).symm), hS, b⟩
    · have hlt := rch_lt hE hS hL b
      obtain ⟨σ2, f2, q1, q2, q3, q4, q5, q6⟩ := ih (t + 1) (g + 1) σ' (rxs_ E f M) (by omega) (by omega) i' F' (hS.rxs hE M (Nat.le_refl _)) (lv_step hE hS (by omega) hL)
      exact ⟨σ2, f2, by rw [e, q1], q2, z'.trans q3, q4, q5, q6⟩
section
variable {G : Nat → Nat → Nat}
def Es_ (G : Nat → Nat → Nat) (k : Nat) : Nat × Nat := (k / 8, G (k / 8) (k % 8))
def Eh_ (G : Nat → Nat → Nat) (k : Nat) : Nat × Nat := (G (k / 8) (k % 8), k / 8)
theorem eg_s (hG : ∀ u w, u < 36 → w < 8 → G u w < 36) {s : Nat} (hs : s < 36) : Eg_ 36 288 (fun v => v = s) (fun u v => u < 36 ∧ ∃ w, w < 8 ∧ v = G u w) (Es_ G) := by
  refine ⟨fun v e => by subst e; exact hs, fun k hk => ⟨?_, ?_, ?_, k % 8, by omega, rfl⟩, fun u v ⟨h1, w, h2, h3⟩ => ⟨8 * u + w, by omega, ?_⟩⟩
  · show k / 8 < 36; omega
  · exact hG _ _ (by omega) (by omega)
  · show k / 8 < 36; omega
  · unfold Es_
    rw [show (8 * u + w) / 8 = u by omega, show (8 * u + w) % 8 = w by omega, h3]
theorem eg_h {N M : Nat} (hM : M = 8 * N) {D : Nat → Prop} (hG : ∀ u w, u < N → w < 8 → G u w < N) : Eg_ N M (fun v => v < N ∧ D v) (fun u v => v < N ∧ ∃ w, w < 8 ∧ u = G v w) (Eh_ G) := by
  refine ⟨fun v e => e.1, fun k hk => ⟨?_, ?_, ?_, k % 8, by omega, rfl⟩, fun u v ⟨h1, w, h2, h3⟩ => ⟨8 * v + w, by omega, ?_⟩⟩
  · exact hG _ _ (by omega) (by omega)
  · show k / 8 < N; omega
  · show k / 8 < N; omega
  · unfold Eh_
    rw [show (8 * v + w) / 8 = v by omega, show (8 * v + w) % 8 = w by omega, h3]
theorem sp_42 (hG : ∀ u w, u < 36 → w < 8 → G u w < 36) {f : Nat → Nat} (hf : ∀ v, v < 36 → f v ≤ 1000000) (K : St_ → Nat → Int32 → Option St_) : ∀ (k i g : Nat) (σ : St_) (v : Int32), i + k = 288 → k < g → ShM_ σ → Tb_ σ 7 G → Fa_ σ 9 36 (rxs_ (Es_ G) f i) → Fg_ (Es_ G) f i v → ∃ σ' v', f_X9_spreads_42 5000 K g σ 0 v (nI i) = K σ' 0 v' ∧ Tb_ σ' 7 G ∧ Zf_ 9 σ σ' ∧ Fa_ σ' 9 36 (rxs_ (Es_ G) f 288) ∧ Fg_ (Es_ G) f 288 v' := by
  intro k
  induction k with
  | zero =>
    intro i g σ v h1 h2 hM hT hF hg
    obtain ⟨g, rfl⟩ : ∃ g', g = g' + 1 := ⟨g - 1, by omega⟩
    have : i = 288 := by omega
    subst this
    refine ⟨σ, v, ?_, hT, Zf_.refl hM 9, hF, hg⟩
    rw [u_X9_spreads_42, if_pos (by decide)]
  | succ k ih =>
    intro i g σ v h1 h2 hM hT hF hg
    obtain ⟨g, rfl⟩ : ∃ g', g = g' + 1 := ⟨g - 1, by omega⟩
    have hi : i < 288 := by omega
    have hu : i / 8 < 36 := by omega
    have hv := hG (i / 8) (i % 8) hu (by omega)
    have e8 : nI i / 8 = nI (i / 8) := pk_div (d := 8) (by omega) (by omega) (by omega)
    have b1 := Nat.le_trans (rxs_le (Es_ G) f (i / 8) i) (hf _ hu)
    have b2 := Nat.le_trans (rxs_le (Es_ G) f (G (i / 8) (i % 8)) i) (hf _ hv)
    rw [u_X9_spreads_42, if_neg (show ¬ (288 : Int32) ≤ nI i from nI_ge (b := 288) hi (by omega)), dm_0_29 hM, Option.bind_some, e8, lm_9 hM, ix_ok hu (by omega), Option.bind_some, dm_0_27 hM, Option.bind_some, lm_7 hM, ix_ok hi (by omega), Option.bind_some, hT i hi, ix_ok hv (by omega), Option.bind_some, hF _ hu, hF _ hv, nI_1, nI_1]
    by_cases z1 : rxs_ (Es_ G) f i (G (i / 8) (i % 8)) ≤ rxs_ (Es_ G) f i (i / 8) + 1
    · have n : ¬ rcd_ (rxs_ (Es_ G) f i) (Es_ G i) := fun z => by have z' : rxs_ (Es_ G) f i (i / 8) + 1 < rxs_ (Es_ G) f i (G (i / 8) (i % 8)) ∧ rxs_ (Es_ G) f i (i / 8) + 1 < 1000000 := z; omega
      rw [if_pos (nI_le z1 (by omega))]
      exact ih (i + 1) g σ v (by omega) (by omega) hM hT (hF.congr (rxs_no n)) (hg.no n)
    rw [if_neg (nI_ge (by omega) (by omega))]
    by_cases z2 : 1000000 ≤ rxs_ (Es_ G) f i (i / 8) + 1
    · have n : ¬ rcd_ (rxs_ (Es_ G) f i) (Es_ G i) := fun z => by have z' : rxs_ (Es_ G) f i (i / 8) + 1 < rxs_ (Es_ G) f i (G (i / 8) (i % 8)) ∧ rxs_ (Es_ G) f i (i / 8) + 1 < 1000000 := z; omega
      rw [if_pos (show (1000000 : Int32) ≤ _ from nI_le (a := 1000000) z2 (by omega))]
      exact ih (i + 1) g σ v (by omega) (by omega) hM hT (hF.congr (rxs_no n)) (hg.no n)
    rw [if_neg (show ¬ (1000000 : Int32) ≤ _ from nI_ge (b := 1000000) (by omega) (by omega)), Option.bind_some, hT i hi, ix_ok hv (by omega), Option.bind_some]
    have n : rcd_ (rxs_ (Es_ G) f i) (Es_ G i) := by
      refine ⟨?_, ?_⟩
      · show rxs_ (Es_ G) f i (i / 8) + 1 < rxs_ (Es_ G) f i (G (i / 8) (i % 8)); omega
      · show rxs_ (Es_ G) f i (i / 8) + 1 < 1000000; omega
    have zz := Zf_.ui hM 9 (G (i / 8) (i % 8)) (nI (rxs_ (Es_ G) f i (i / 8) + 1))
    obtain ⟨σ', v', q1, q2, q3, q4, q5⟩ := ih (i + 1) g _ 1 (by omega) (by omega) zz.1 (hT.zf zz (by omega)) ((hF.up (G (i / 8) (i % 8)) (rxs_ (Es_ G) f i (i / 8) + 1)).congr (fun x => rxs_yes n x)) (Fg_.yes n)
    exact ⟨σ', v', q1, q2, zz.trans q3, q4, q5⟩
theorem ga_42 (hG : ∀ u w, u < 36 → w < 8 → G u w < 36) {f : Nat → Nat} (hf : ∀ v, v < 36 → f v ≤ 1000000) (K : St_ → Nat → Int32 → Option St_) : ∀ (k i g : Nat) (σ : St_) (v : Int32), i + k = 288 → k < g → ShM_ σ → Tb_ σ 7 G → Fa_ σ 9 36 (rxs_ (Eh_ G) f i) → Fg_ (Eh_ G) f i v → ∃ σ' v', f_X9_gathers_42 5000 K g σ 0 v (nI i) = K σ' 0 v' ∧ Tb_ σ' 7 G ∧ Zf_ 9 σ σ' ∧ Fa_ σ' 9 36 (rxs_ (Eh_ G) f 288) ∧ Fg_ (Eh_ G) f 288 v' := by
  intro k
  induction k with
  | zero =>
    intro i g σ v h1 h2 hM hT hF hg
    obtain ⟨g, rfl⟩ : ∃ g', g = g' + 1 := ⟨g - 1, by omega⟩
    have : i = 288 := by omega
    subst this
    refine ⟨σ, v, ?_, hT, Zf_.refl hM 9, hF, hg⟩
    rw [u_X9_gathers_42, if_pos (by decide)]
  | succ k ih =>
    intro i g σ v h1 h2 hM hT hF hg
    obtain ⟨g, rfl⟩ : ∃ g', g = g' + 1 := ⟨g - 1, by omega⟩
    have hi : i < 288 := by omega
    have hu : i / 8 < 36 := by omega
    have hv := hG (i / 8) (i % 8) hu (by omega)
    have e8 : nI i / 8 = nI (i / 8) := pk_div (d := 8) (by omega) (by omega) (by omega)
    have b1 := Nat.le_trans (rxs_le (Eh_ G) f (i / 8) i) (hf _ hu)
    have b2 := Nat.le_trans (rxs_le (Eh_ G) f (G (i / 8) (i % 8)) i) (hf _ hv)
    rw [u_X9_gathers_42, if_neg (show ¬ (288 : Int32) ≤ nI i from nI_ge (b := 288) hi (by omega)), dm_0_29 hM, Option.bind_some, dm_0_27 hM, Option.bind_some, lm_7 hM, ix_ok hi (by omega), Option.bind_some, hT i hi, lm_9 hM, ix_ok hv (by omega), Option.bind_some, e8, ix_ok hu (by omega), Option.bind_some, hF _ hu, hF _ hv, nI_1, nI_1]
    by_cases z1 : rxs_ (Eh_ G) f i (i / 8) ≤ rxs_ (Eh_ G) f i (G (i / 8) (i % 8)) + 1
    · have n : ¬ rcd_ (rxs_ (Eh_ G) f i) (Eh_ G i) := fun z => by have z' : rxs_ (Eh_ G) f i (G (i / 8) (i % 8)) + 1 < rxs_ (Eh_ G) f i (i / 8) ∧ rxs_ (Eh_ G) f i (G (i / 8) (i % 8)) + 1 < 1000000 := z; omega
      rw [if_pos (nI_le z1 (by omega))]
      exact ih (i + 1) g σ v (by omega) (by omega) hM hT (hF.congr (rxs_no n)) (hg.no n)
    rw [if_neg (nI_ge (by omega) (by omega))]
    by_cases z2 : 1000000 ≤ rxs_ (Eh_ G) f i (G (i / 8) (i % 8)) + 1
    · have n : ¬ rcd_ (rxs_ (Eh_ G) f i) (Eh_ G i) := fun z => by have z' : rxs_ (Eh_ G) f i (G (i / 8) (i % 8)) + 1 < rxs_ (Eh_ G) f i (i / 8) ∧ rxs_ (Eh_ G) f i (G (i / 8) (i % 8)) + 1 < 1000000 := z; omega
      rw [if_pos (show (1000000 : Int32) ≤ _ from nI_le (a := 1000000) z2 (by omega))]
      exact ih (i + 1) g σ v (by omega) (by omega) hM hT (hF.congr (rxs_no n)) (hg.no n)
    rw [if_neg (show ¬ (1000000 : Int32) ≤ _ from nI_ge (b := 1000000) (by omega) (by omega)), Option.bind_some]
    have n : rcd_ (rxs_ (Eh_ G) f i) (Eh_ G i) := by
      refine ⟨?_, ?_⟩
      · show rxs_ (Eh_ G) f i (G (i / 8) (i % 8)) + 1 < rxs_ (Eh_ G) f i (i / 8); omega
      · show rxs_ (Eh_ G) f i (G (i / 8) (i % 8)) + 1 < 1000000; omega
    have zz := Zf_.ui hM 9 (i / 8) (nI (rxs_ (Eh_ G) f i (G (i / 8) (i % 8)) + 1))
    obtain ⟨σ', v', q1, q2, q3, q4, q5⟩ := ih (i + 1) g _ 1 (by omega) (by omega) zz.1 (hT.zf zz (by omega)) ((hF.up (i / 8) (rxs_ (Eh_ G) f i (G (i / 8) (i % 8)) + 1)).congr (fun x => rxs_yes n x)) (Fg_.yes n)
    exact ⟨σ', v', q1, q2, zz.trans q3, q4, q5⟩
def f0_far (on : Nat) (v : Nat) : Nat := if v = on then 0 else 1000000
theorem sp_2 {on : Nat} (hon : on < 36) : ∀ (k i g : Nat) (σ : St_), i + k = 36 → k < g → ShM_ σ → (∀ v, v < i → si_ σ 9 v = nI (f0_far on v)) → ∃ σ', f_X9_spreads_2 5000 g σ 0 (nI on) (nI i) = f_X9_spreads_34 5000 5000 σ' 0 1 ∧ Zf_ 9 σ σ' ∧ Fa_ σ' 9 36 (f0_far on) := by
  intro k
  induction k with
  | zero =>
    intro i g σ h1 h2 hM hF
    obtain ⟨g, rfl⟩ : ∃ g', g = g' + 1 := ⟨g - 1, by omega⟩
    have : i = 36 := by omega
    subst this
    refine ⟨σ, ?_, Zf_.refl hM 9, hF⟩
    rw [u_X9_spreads_2, if_pos (by decide)]
  | succ k ih =>
    intro i g σ h1 h2 hM hF
    obtain ⟨g, rfl⟩ : ∃ g', g = g' + 1 := ⟨g - 1, by omega⟩
    have zz := fun x => Zf_.ui hM 9 i x
    have go := fun (x : Int32) (hx : x = nI (f0_far on i)) => ih (i + 1) g (ui_ σ 9 i x) (by omega) (by omega) hM (fun v hv => by
      rw [g_si_ui, if_pos rfl]
      by_cases z : v = i
      · rw [if_pos z, hx, z]
      · rw [if_neg z]; exact hF v (by omega))
    rw [u_X9_spreads_2, if_neg (show ¬ (36 : Int32) ≤ nI i from nI_ge (b := 36) (by omega) (by omega)), dm_0_29 hM, Option.bind_some, lm_9 hM, ix_ok (by omega) (by omega), Option.bind_some, Option.bind_some, nI_1]
    by_cases z : i = on
    · rw [if_pos (by rw [z])]
      obtain ⟨σ', q1, q2, q3⟩ := go 0 (by unfold f0_far; rw [if_pos z]; rfl)
      exact ⟨σ', q1, (zz 0).trans q2, q3⟩
    · rw [if_neg (nI_ne (by omega) (by omega) z)]
      obtain ⟨σ', q1, q2, q3⟩ := go 1000000 (by unfold f0_far; rw [if_neg z]; rfl)
      exact ⟨σ', q1, (zz 1000000).trans q2, q3⟩
theorem ga_2 {on : Nat} (hon : on < 36) : ∀ (k i g : Nat) (σ : St_), i + k = 36 → k < g → ShM_ σ → (∀ v, v < i → si_ σ 9 v = nI (f0_far on v)) → ∃ σ', f_X9_gathers_2 5000 g σ 0 (nI on) (nI i) = f_X9_gathers_34 5000 5000 σ' 0 1 ∧ Zf_ 9 σ σ' ∧ Fa_ σ' 9 36 (f0_far on) := by
  intro k
  induction k with
  | zero =>
    intro i g σ h1 h2 hM hF
    obtain ⟨g, rfl⟩ : ∃ g', g = g' + 1 := ⟨g - 1, by omega⟩
    have : i = 36 := by omega
    subst this
    refine ⟨σ, ?_, Zf_.refl hM 9, hF⟩
    rw [u_X9_gathers_2, if_pos (by decide)]
  | succ k ih =>
    intro i g σ h1 h2 hM hF
    obtain ⟨g, rfl⟩ : ∃ g', g = g' + 1 := ⟨g - 1, by omega⟩
    have zz := fun x => Zf_.ui hM 9 i x
    have go := fun (x : Int32) (hx : x = nI (f0_far on i)) => ih (i + 1) g (ui_ σ 9 i x) (by omega) (by omega) hM (fun v hv => by
      rw [g_si_ui, if_pos rfl]
      by_cases z : v = i
      · rw [if_pos z, hx, z]
      · rw [if_neg z]; exact hF v (by omega))
    rw [u_X9_gathers_2, if_neg (show ¬ (36 : Int32) ≤ nI i from nI_ge (b := 36) (by omega) (by omega)), dm_0_29 hM, Option.bind_some, lm_9 hM, ix_ok (by omega) (by omega), Option.bind_some, Option.bind_some, nI_1]
    by_cases z : i = on
    · rw [if_pos (by rw [z])]
      obtain ⟨σ', q1, q2, q3⟩ := go 0 (by unfold f0_far; rw [if_pos z]; rfl)
      exact ⟨σ', q1, (zz 0).trans q2, q3⟩
    · rw [if_neg (nI_ne (by omega) (by omega) z)]
      obtain ⟨σ', q1, q2, q3⟩ := go 1000000 (by unfold f0_far; rw [if_neg z]; rfl)
      exact ⟨σ', q1, (zz 1000000).trans q2, q3⟩
/-- what is far, from one on -/
theorem spreads_ok (hG : ∀ u w, u < 36 → w < 8 → G u w < 36) {σ : St_} (hM : ShM_ σ) (hT : Tb_ σ 7 G) {s : Nat} (hs : s < 36) : ∃ σ' f, f_X9_spreads 5000 σ 0 (nI s) = some σ' ∧ Zf_ 9 σ σ' ∧ Tb_ σ' 7 G ∧ Fa_ σ' 9 36 f ∧ ∀ v, v < 36 → (f v = 1000000 ∧ ∀ r, Wd_ r → go_ G s r ≠ v) ∨ (f v < 36 ∧ (∃ r, Wd_ r ∧ r.length = f v ∧ go_ G s r = v) ∧ ∀ r, Wd_ r → go_ G s r = v → f v ≤ r.length) := by
  obtain ⟨σ1, e1, z1, F1⟩ := sp_2 hs 36 0 5000 σ (by omega) (by omega) hM (fun v hv => by omega)
  have hE := eg_s hG hs
  obtain ⟨σ2, f, e2, -, z2, F2, S2, R2⟩ := rl_out (N := 36) (M := 288) (a := 9) (by omega) hE (fun g σ v => f_X9_spreads_34 5000 g σ 0 v) (fun σ => ShM_ σ ∧ Tb_ σ 7 G) (fun g σ => by
      show f_X9_spreads_34 5000 (g + 1) σ 0 0 = _
      rw [u_X9_spreads_34, if_pos rfl]) (fun g σ f iI hF hf => by
      obtain ⟨hM, hT⟩ := iI
      obtain ⟨σ', v', q1, q2, q3, q4, q5⟩ := sp_42 hG hf (f_X9_spreads_34 5000 g) 288 0 5000 σ 0 (by omega) (by omega) hM hT hF (Fg_.z _ _)
      refine ⟨σ', v', ?_, ⟨q3.1, q2⟩, q3, q4, q5⟩
      show f_X9_spreads_34 5000 (g + 1) σ 0 1 = _
      rw [u_X9_spreads_34, if_neg (by decide)]
      exact q1) 36 0 5000 σ1 (f0_far s) (by omega) (by omega) ⟨z1.1, hT.zf z1 (by omega)⟩ F1
      ⟨fun v _ => by unfold f0_far; split <;> omega, fun v e => by unfold f0_far; rw [if_pos e], fun v _ h => by
        unfold f0_far at h ⊢
        by_cases z : v = s
        · rw [if_pos z]; exact z
        · rw [if_neg z] at h; omega⟩
      (fun d v hd hp => by
        have : d = 0 := by omega
        subst this
        have e : v = s := hp
        unfold f0_far
        rw [if_pos e]; exact Nat.le_refl _)
  refine ⟨σ2, f, e1.trans e2, z1.trans z2, (hT.zf z1 (by omega)).zf z2 (by omega), F2, fun v hv => ?_⟩
  rcases rx_fin (by omega) hE S2 R2 v hv with ⟨a, b⟩ | ⟨a, b, c⟩
  · exact Or.inl ⟨a, fun r hr e => b r.length ((pa_s hG hs _ _).mpr ⟨r, hr, rfl, e⟩)⟩
  · exact Or.inr ⟨a, (pa_s hG hs _ _).mp b, fun r hr e => c _ ((pa_s hG hs _ _).mpr ⟨r, hr, rfl, e⟩)⟩
/-- what is far, to one -/
theorem gathers_ok (hG : ∀ u w, u < 36 → w < 8 → G u w < 36) {σ : St_} (hM : ShM_ σ) (hT : Tb_ σ 7 G) {s : Nat} (hs : s < 36) : ∃ σ' f, f_X9_gathers 5000 σ 0 (nI s) = some σ' ∧ Zf_ 9 σ σ' ∧ Tb_ σ' 7 G ∧ Fa_ σ' 9 36 f ∧ ∀ v, v < 36 → (f v = 1000000 ∧ ∀ r, Wd_ r → go_ G v r ≠ s) ∨ (f v < 36 ∧ (∃ r, Wd_ r ∧ r.length = f v ∧ go_ G v r = s) ∧ ∀ r, Wd_ r → go_ G v r = s → f v ≤ r.length) := by
  obtain ⟨σ1, e1, z1, F1⟩ := ga_2 hs 36 0 5000 σ (by omega) (by omega) hM (fun v hv => by omega)
  have hE := eg_h (N := 36) (M := 288) (by omega) (D := fun v => v = s) hG
  obtain ⟨σ2, f, e2, -, z2, F2, S2, R2⟩ := rl_out (N := 36) (M := 288) (a := 9) (by omega) hE (fun g σ v => f_X9_gathers_34 5000 g σ 0 v) (fun σ => ShM_ σ ∧ Tb_ σ 7 G) (fun g σ => by
      show f_X9_gathers_34 5000 (g + 1) σ 0 0 = _
      rw [u_X9_gathers_34, if_pos rfl]) (fun g σ f iI hF hf => by
      obtain ⟨hM, hT⟩ := iI
      obtain ⟨σ', v', q1, q2, q3, q4, q5⟩ := ga_42 hG hf (f_X9_gathers_34 5000 g) 288 0 5000 σ 0 (by omega) (by omega) hM hT hF (Fg_.z _ _)
      refine ⟨σ', v', ?_, ⟨q3.1, q2⟩, q3, q4, q5⟩
      show f_X9_gathers_34 5000 (g + 1) σ 0 1 = _
      rw [u_X9_gathers_34, if_neg (by decide)]
      exact q1) 36 0 5000 σ1 (f0_far s) (by omega) (by omega) ⟨z1.1, hT.zf z1 (by omega)⟩ F1
      ⟨fun v _ => by unfold f0_far; split <;> omega, fun v e => by unfold f0_far; rw [if_pos e.2], fun v hv h => by
        unfold f0_far at h ⊢
        by_cases z : v = s
        · rw [if_pos z]; exact ⟨hv, z⟩
        · rw [if_neg z] at h; omega⟩
      (fun d v hd hp => by
        have : d = 0 := by omega
        subst this
        have e : v = s := hp.2
        unfold f0_far
        rw [if_pos e]; exact Nat.le_refl _)
  refine ⟨σ2, f, e1.trans e2, z1.trans z2, (hT.zf z1 (by omega)).zf z2 (by omega), F2, fun v hv => ?_⟩
  rcases rx_fin (by omega) hE S2 R2 v hv with ⟨a, b⟩ | ⟨a, b, c⟩
  · exact Or.inl ⟨a, fun r hr e => b r.length ((pa_g hG _ _).mpr ⟨hv, r, hr, rfl, e⟩)⟩
  · exact Or.inr ⟨a, ((pa_g hG _ _).mp b).2, fun r hr e => c _ ((pa_g hG _ _).mpr ⟨hv, r, hr, rfl, e⟩)⟩
end
