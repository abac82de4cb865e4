/-! HOW MANY ROWS LEAD WHERE: sums -/
def sm_ (F : Nat → Int64) : Nat → Int64
  | 0 => 0
  | k + 1 => sm_ F k + F k
theorem sm_congr {F F' : Nat → Int64} : ∀ n, (∀ k, k < n → F k = F' k) → sm_ F n = sm_ F' n := by
  intro n
  induction n with
  | zero => intro _; rfl
  | succ n ih =>
    intro h
    show sm_ F n + F n = sm_ F' n + F' n
    rw [ih (fun k hk => h k (by omega)), h n (by omega)]
theorem sm_0 : ∀ n, sm_ (fun _ => 0) n = 0 := by
  intro n
  induction n with
  | zero => rfl
  | succ n ih => show sm_ (fun _ => 0) n + 0 = 0; rw [ih]; rfl
theorem sm_1 {F F' : Nat → Int64} {c : Nat} {x : Int64} (e : F' c = F c + x) (h : ∀ u, u ≠ c → F' u = F u) : ∀ n, c < n → sm_ F' n = sm_ F n + x := by
  intro n
  induction n with
  | zero => intro hc; omega
  | succ n ih =>
    intro hc
    show sm_ F' n + F' n = sm_ F n + F n + x
    by_cases z : c = n
    · subst z
      rw [sm_congr c (fun k hk => h k (by omega)), e, Int64.add_assoc]
    · rw [ih (by omega), h n (fun e => z e.symm), Int64.add_assoc, Int64.add_comm x, ← Int64.add_assoc]
/-- a sum over those that were found, in whatever order -/
theorem sm_perm {N : Nat} {F : Nat → Int64} {q : Nat → Nat} : ∀ n, (∀ j, j < n → q j < N) → (∀ i j, i < j → j < n → q i ≠ q j) → ∀ F' : Nat → Int64, (∀ u, u < N → ((∃ j, j < n ∧ q j = u) → F' u = F u) ∧ ((¬ ∃ j, j < n ∧ q j = u) → F' u = 0)) → sm_ F' N = sm_ (fun i => F (q i)) n := by
  intro n
  induction n with
  | zero =>
    intro _ _ F' h
    rw [sm_congr (F' := fun _ => 0) N (fun k hk => (h k hk).2 (fun ⟨j, hj, _⟩ => by omega)), sm_0]
    rfl
  | succ n ih =>
    intro h1 h2 F' h
    have hn := h1 n (by omega)
    have := ih (fun j hj => h1 j (by omega)) (fun i j hij hj => h2 i j hij (by omega)) (fun u => if u = q n then 0 else F' u) (fun u hu => ⟨fun ⟨j, hj, e⟩ => ?_, fun hno => ?_⟩)
    · show sm_ F' N = sm_ (fun i => F (q i)) n + F (q n)
      rw [← this]
      refine sm_1 (c := q n) ?_ (fun u hu => ?_) N hn
      · rw [if_pos rfl, Int64.zero_add]
        exact (h (q n) hn).1 ⟨n, by omega, rfl⟩
      · rw [if_neg hu]
    · have ne : u ≠ q n := fun z => h2 j n hj (by omega) (by rw [e, z])
      rw [if_neg ne]
      exact (h u hu).1 ⟨j, by omega, e⟩
    · by_cases z : u = q n
      · rw [if_pos z]
      · rw [if_neg z]
        refine (h u hu).2 (fun ⟨j, hj, e⟩ => ?_)
        by_cases y : j = n
        · subst y; exact z e.symm
        · exact hno ⟨j, by omega, e⟩
/-- of one cell, its words below w -/
def ew_ (G : Nat → Nat → Nat) (x : Int64) (u c : Nat) : Nat → Int64
  | 0 => 0
  | w + 1 => ew_ G x u c w + (if G u w = c then x else 0)
theorem ew_0 (G : Nat → Nat → Nat) (u c : Nat) : ∀ w, ew_ G 0 u c w = 0 := by
  intro w
  induction w with
  | zero => rfl
  | succ w ih =>
    show ew_ G 0 u c w + (if G u w = c then 0 else 0) = 0
    rw [ih]
    split <;> rfl
theorem ew_n {G : Nat → Nat → Nat} {x : Int64} {u c : Nat} : ∀ w, (∀ v, v < w → G u v ≠ c) → ew_ G x u c w = 0 := by
  intro w
  induction w with
  | zero => intro _; rfl
  | succ w ih =>
    intro h
    show ew_ G x u c w + (if G u w = c then x else 0) = 0
    rw [ih (fun v hv => h v (by omega)), if_neg (h w (by omega))]
    rfl
def nx_ (G : Nat → Nat → Nat) (now : Nat → Int64) (c : Nat) : Int64 := sm_ (fun u => ew_ G (now u) u c 8) 36
def rvv_ (G : Nat → Nat → Nat) (now : Nat → Int64) (c i : Nat) : Int64 := sm_ (fun u => ew_ G (now u) u c 8) (i / 8) + ew_ G (now (i / 8)) (i / 8) c (i % 8)
theorem rvv_s (G : Nat → Nat → Nat) (now : Nat → Int64) (c i : Nat) : rvv_ G now c (i + 1) = rvv_ G now c i + (if G (i / 8) (i % 8) = c then now (i / 8) else 0) := by
  unfold rvv_
  by_cases z : i % 8 = 7
  · rw [show (i + 1) / 8 = i / 8 + 1 by omega, show (i + 1) % 8 = 0 by omega]
    show sm_ _ (i / 8) + ew_ G (now (i / 8)) (i / 8) c (7 + 1) + 0 = _
    rw [Int64.add_zero, z, Int64.add_assoc]
    rfl
  · rw [show (i + 1) / 8 = i / 8 by omega, show (i + 1) % 8 = i % 8 + 1 by omega, Int64.add_assoc]
    rfl
theorem rvv_0 (G : Nat → Nat → Nat) (now : Nat → Int64) (c : Nat) : rvv_ G now c 0 = 0 := rfl
theorem rvv_e (G : Nat → Nat → Nat) (now : Nat → Int64) (c : Nat) : rvv_ G now c 288 = nx_ G now c := by
  show sm_ _ 36 + 0 = _
  rw [Int64.add_zero]
  rfl
/-- found cells alone count -/
theorem nx_q {G : Nat → Nat → Nat} {now : Nat → Int64} {q : Nat → Nat} {n : Nat} (h1 : ∀ j, j < n → q j < 36) (h2 : ∀ i j, i < j → j < n → q i ≠ q j) (h0 : ∀ u, u < 36 → (¬ ∃ j, j < n ∧ q j = u) → now u = 0) (c : Nat) : nx_ G now c = sm_ (fun i => ew_ G (now (q i)) (q i) c 8) n :=
  sm_perm (N := 36) (F := fun u => ew_ G (now u) u c 8) n h1 h2 (fun u => ew_ G (now u) u c 8) (fun u hu => ⟨fun _ => rfl, fun hno => by
    show ew_ G (now u) u c 8 = 0
    rw [h0 u hu hno, ew_0]⟩)
theorem nx_z {G : Nat → Nat → Nat} {now : Nat → Int64} {q : Nat → Nat} {n : Nat} (h1 : ∀ j, j < n → q j < 36) (h2 : ∀ i j, i < j → j < n → q i ≠ q j) (h0 : ∀ u, u < 36 → (¬ ∃ j, j < n ∧ q j = u) → now u = 0) (hcl : ∀ j w, j < n → w < 8 → ∃ l, l < n ∧ q l = G (q j) w) {c : Nat} (hno : ¬ ∃ j, j < n ∧ q j = c) : nx_ G now c = 0 := by
  rw [nx_q h1 h2 h0 c, sm_congr (F' := fun _ => 0) n (fun j hj => ?_), sm_0]
  refine ew_n 8 (fun w hw e => hno ?_)
  obtain ⟨l, l1, l2⟩ := hcl j w hj hw
  exact ⟨l, l1, l2.trans e⟩
def La_ (σ : St_) (a : Nat) (f : Nat → Int64) : Prop := ∀ k, k < 36 → sl_ σ a k = f k
def Zl_ (σ σ' : St_) : Prop := ShM_ σ' ∧ Fr_ (fun r _ => r ≠ 11 ∧ r ≠ 12) σ σ'
theorem Zl_.refl {σ : St_} (h : ShM_ σ) : Zl_ σ σ := ⟨h, Fr_.refl _ _⟩
theorem Zl_.trans {σ σ' σ'' : St_} (h : Zl_ σ σ') (g : Zl_ σ' σ'') : Zl_ σ σ'' := ⟨g.1, h.2.trans g.2⟩
theorem Zl_.ul {σ : St_} (h : ShM_ σ) {a : Nat} (ha : a = 11 ∨ a = 12) (k : Nat) (x : Int64) : Zl_ σ (ul_ σ a k x) := ⟨h, (Fr_.refl _ _).ul a k x (fun z => by omega)⟩
theorem Zl_.sc {σ σ' : St_} (h : Zl_ σ σ') : ScM_ σ σ' := ⟨h.1, h.2.mono (fun r k z => ⟨fun e => by subst e; exact z (by simp [mZ_]), fun e => by subst e; exact z (by simp [mZ_])⟩)⟩
theorem Tb_.zl {σ σ' : St_} {G : Nat → Nat → Nat} (h : Tb_ σ 7 G) (z : Zl_ σ σ') : Tb_ σ' 7 G := fun k hk => (z.2.i (by omega)).trans (h k hk)
theorem La_.ul {σ : St_} {a : Nat} {f : Nat → Int64} (h : La_ σ a f) (c : Nat) (x : Int64) : La_ (ul_ σ a c x) a (fun k => if k = c then x else f k) := fun k hk => by
  rw [g_sl_ul, if_pos rfl]
  show _ = if k = c then x else f k
  by_cases z : k = c
  · rw [if_pos z, if_pos z]
  · rw [if_neg z, if_neg z]; exact h k hk
theorem La_.ne {σ : St_} {a b : Nat} {f : Nat → Int64} (h : La_ σ a f) (n : a ≠ b) (c : Nat) (x : Int64) : La_ (ul_ σ b c x) a f := fun k hk => by
  rw [g_sl_ul, if_neg n]; exact h k hk
theorem La_.congr {σ : St_} {a : Nat} {f f' : Nat → Int64} (h : La_ σ a f) (e : ∀ k, k < 36 → f' k = f k) : La_ σ a f' := fun k hk => (h k hk).trans (e k hk).symm
section
variable {G : Nat → Nat → Nat} {now : Nat → Int64}
theorem ro_161 (v2 v3 v4 : Int32) {f : Nat → Int64} (Kt : St_ → Nat → Int32 → Int32 → Int32 → Option (Int64 × St_)) : ∀ (k i g : Nat) (σ : St_), i + k = 36 → k < g → ShM_ σ → La_ σ 12 f → (∀ j, j < i → sl_ σ 11 j = f j) → ∃ σ', f_X9_rows_161 5000 Kt g σ 0 v2 v3 v4 (nI i) = Kt σ' 0 v2 v3 (v4 + 1) ∧ Zl_ σ σ' ∧ La_ σ' 11 f := by
  intro k
  induction k with
  | zero =>
    intro i g σ h1 h2 hM hL hN
    obtain ⟨g, rfl⟩ : ∃ g', g = g' + 1 := ⟨g - 1, by omega⟩
    have : i = 36 := by omega
    subst this
    refine ⟨σ, ?_, Zl_.refl hM, hN⟩
    rw [u_X9_rows_161, if_pos (by decide)]
  | succ k ih =>
    intro i g σ h1 h2 hM hL hN
    obtain ⟨g, rfl⟩ : ∃ g', g = g' + 1 := ⟨g - 1, by omega⟩
    obtain ⟨σ', q1, q2, q3⟩ := ih (i + 1) g (ul_ σ 11 i (f i)) (by omega) (by omega) hM (hL.ne (by omega) _ _) (fun j hj => by
      rw [g_sl_ul, if_pos rfl]
      by_cases z : j = i
      · rw [if_pos z, z]
      · rw [if_neg z]; exact hN j (by omega))
    refine ⟨σ', ?_, (Zl_.ul hM (Or.inl rfl) _ _).trans q2, q3⟩
    rw [u_X9_rows_161, if_neg (show ¬ (36 : Int32) ≤ nI i from nI_ge (b := 36) (by omega) (by omega)), dm_0_31 hM, Option.bind_some, dm_0_32 hM, Option.bind_some, lm_12 hM, ix_ok (by omega) (by omega), Option.bind_some, lm_11 hM, ix_ok (by omega) (by omega), Option.bind_some, hL i (by omega), nI_1]
    exact q1
theorem ro_119 (hG : ∀ u w, u < 36 → w < 8 → G u w < 36) (v2 v3 v4 : Int32) (Kt : St_ → Nat → Int32 → Int32 → Int32 → Option (Int64 × St_)) : ∀ (k i g : Nat) (σ : St_), i + k = 288 → k < g → ShM_ σ → Tb_ σ 7 G → La_ σ 11 now → La_ σ 12 (fun c => rvv_ G now c i) → ∃ σ', f_X9_rows_119 5000 Kt g σ 0 v2 v3 v4 (nI i) = f_X9_rows_161 5000 Kt 5000 σ' 0 v2 v3 v4 0 ∧ Zl_ σ σ' ∧ La_ σ' 12 (nx_ G now) := by
  intro k
  induction k with
  | zero =>
    intro i g σ h1 h2 hM hT hN hL
    obtain ⟨g, rfl⟩ : ∃ g', g = g' + 1 := ⟨g - 1, by omega⟩
    have : i = 288 := by omega
    subst this
    refine ⟨σ, ?_, Zl_.refl hM, hL.congr (fun k _ => (rvv_e G now k).symm)⟩
    rw [u_X9_rows_119, if_pos (by decide)]
  | succ k ih =>
    intro i g σ h1 h2 hM hT hN hL
    obtain ⟨g, rfl⟩ : ∃ g', g = g' + 1 := ⟨g - 1, by omega⟩
    have hg := hG (i / 8) (i % 8) (by omega) (by omega)
    have e8 : nI i / 8 = nI (i / 8) := pk_div (d := 8) (by omega) (by omega) (by omega)
    have zz := Zl_.ul hM (Or.inr rfl) (G (i / 8) (i % 8)) (rvv_ G now (G (i / 8) (i % 8)) i + now (i / 8))
    obtain ⟨σ', q1, q2, q3⟩ := ih (i + 1) g _ (by omega) (by omega) zz.1 (hT.zl zz) (hN.ne (by omega) _ _) ((hL.ul (G (i / 8) (i % 8)) (rvv_ G now (G (i / 8) (i % 8)) i + now (i / 8))).congr (fun c hc => by
      show rvv_ G now c (i + 1) = if c = G (i / 8) (i % 8) then _ else rvv_ G now c i
      rw [rvv_s]
      by_cases z : c = G (i / 8) (i % 8)
      · rw [if_pos z.symm, if_pos z, z]
      · rw [if_neg (fun e => z e.symm), if_neg z, Int64.add_zero]))
    refine ⟨σ', ?_, zz.trans q2, q3⟩
    rw [u_X9_rows_119, if_neg (show ¬ (288 : Int32) ≤ nI i from nI_ge (b := 288) (by omega) (by omega)), dm_0_32 hM, Option.bind_some, dm_0_27 hM, Option.bind_some, lm_7 hM, ix_ok (by omega) (by omega), Option.bind_some, hT i (by omega), lm_12 hM, ix_ok hg (by omega), Option.bind_some, dm_0_31 hM, Option.bind_some, e8, lm_11 hM, ix_ok (by omega) (by omega), Option.bind_some, Option.bind_some, hL _ hg, hN _ (by omega), nI_1]
    exact q1
theorem ro_95 (v2 v3 v4 : Int32) (Kt : St_ → Nat → Int32 → Int32 → Int32 → Option (Int64 × St_)) : ∀ (k i g : Nat) (σ : St_), i + k = 36 → k < g → ShM_ σ → La_ σ 11 now → (∀ j, j < i → sl_ σ 12 j = 0) → ∃ σ', f_X9_rows_95 5000 Kt g σ 0 v2 v3 v4 (nI i) = f_X9_rows_119 5000 Kt 5000 σ' 0 v2 v3 v4 0 ∧ Zl_ σ σ' ∧ La_ σ' 11 now ∧ La_ σ' 12 (fun _ => 0) := by
  intro k
  induction k with
  | zero =>
    intro i g σ h1 h2 hM hN hL
    obtain ⟨g, rfl⟩ : ∃ g', g = g' + 1 := ⟨g - 1, by omega⟩
    have : i = 36 := by omega
    subst this
    refine ⟨σ, ?_, Zl_.refl hM, hN, hL⟩
    rw [u_X9_rows_95, if_pos (by decide)]
  | succ k ih =>
    intro i g σ h1 h2 hM hN hL
    obtain ⟨g, rfl⟩ : ∃ g', g = g' + 1 := ⟨g - 1, by omega⟩
    obtain ⟨σ', q1, q2, q3⟩ := ih (i + 1) g (ul_ σ 12 i 0) (by omega) (by omega) hM (hN.ne (by omega) _ _) (fun j hj => by
      rw [g_sl_ul, if_pos rfl]
      by_cases z : j = i
      · rw [if_pos z]
      · rw [if_neg z]; exact hL j (by omega))
    refine ⟨σ', ?_, (Zl_.ul hM (Or.inr rfl) _ _).trans q2, q3⟩
    rw [u_X9_rows_95, if_neg (show ¬ (36 : Int32) ≤ nI i from nI_ge (b := 36) (by omega) (by omega)), dm_0_32 hM, Option.bind_some, lm_12 hM, ix_ok (by omega) (by omega), Option.bind_some, nI_1]
    exact q1
theorem ro_43 {c s : Nat} (hc : c < 4) (hs : s < 36) (v2 v3 : Int32) : ∀ (k i g : Nat) (σ : St_), i + k = 36 → k < g → ShM_ σ → si_ σ 6 (3 * c + 1) = nI s → (∀ j, j < i → sl_ σ 11 j = if j = s then 1 else 0) → ∃ σ', f_X9_rows_43 5000 g σ 0 (nI c) v2 v3 (nI i) = f_X9_rows_86 5000 5000 σ' 0 v2 v3 0 ∧ Zl_ σ σ' ∧ La_ σ' 11 (fun j => if j = s then 1 else 0) := by
  intro k
  induction k with
  | zero =>
    intro i g σ h1 h2 hM mo hN
    obtain ⟨g, rfl⟩ : ∃ g', g = g' + 1 := ⟨g - 1, by omega⟩
    have : i = 36 := by omega
    subst this
    refine ⟨σ, ?_, Zl_.refl hM, hN⟩
    rw [u_X9_rows_43, if_pos (by decide)]
  | succ k ih =>
    intro i g σ h1 h2 hM mo hN
    obtain ⟨g, rfl⟩ : ∃ g', g = g' + 1 := ⟨g - 1, by omega⟩
    have go := fun (x : Int64) (hx : x = if i = s then 1 else 0) => ih (i + 1) g (ul_ σ 11 i x) (by omega) (by omega) hM mo (fun j hj => by
      rw [g_sl_ul, if_pos rfl]
      by_cases z : j = i
      · rw [if_pos z, z, hx]
      · rw [if_neg z]; exact hN j (by omega))
    rw [u_X9_rows_43, if_neg (show ¬ (36 : Int32) ≤ nI i from nI_ge (b := 36) (by omega) (by omega)), dm_0_31 hM, Option.bind_some, dm_0_10 hM, Option.bind_some, lm_6 hM, ix_r1 c hc, Option.bind_some, mo, lm_11 hM, ix_ok (by omega) (by omega), Option.bind_some, Option.bind_some, nI_1]
    by_cases z : i = s
    · rw [if_pos (by rw [z])]
      obtain ⟨σ', q1, q2, q3⟩ := go 1 (by rw [if_pos z])
      exact ⟨σ', q1, (Zl_.ul hM (Or.inl rfl) _ _).trans q2, q3⟩
    · rw [if_neg (nI_ne (by omega) (by omega) z)]
      obtain ⟨σ', q1, q2, q3⟩ := go 0 (by rw [if_neg z])
      exact ⟨σ', q1, (Zl_.ul hM (Or.inl rfl) _ _).trans q2, q3⟩
/-- one word more, there -/
theorem ro_86 (hG : ∀ u w, u < 36 → w < 8 → G u w < 36) (v2 v3 : Int32) (v4 g : Nat) {σ : St_} (hM : ShM_ σ) (hT : Tb_ σ 7 G) (hN : La_ σ 11 now) (hlt : ¬ v3 ≤ nI v4) : ∃ σ', f_X9_rows_86 5000 (g + 1) σ 0 v2 v3 (nI v4) = f_X9_rows_86 5000 g σ' 0 v2 v3 (nI (v4 + 1)) ∧ Zl_ σ σ' ∧ La_ σ' 11 (nx_ G now) := by
  obtain ⟨s1, e1, z1, n1, l1⟩ := ro_95 v2 v3 (nI v4) (f_X9_rows_86 5000 g) 36 0 5000 σ (by omega) (by omega) hM hN (fun j hj => by omega)
  obtain ⟨s2, e2, z2, l2⟩ := ro_119 hG v2 v3 (nI v4) (f_X9_rows_86 5000 g) 288 0 5000 s1 (by omega) (by omega) z1.1 (hT.zl z1) n1 (l1.congr (fun k _ => rvv_0 G now k))
  obtain ⟨s3, e3, z3, l3⟩ := ro_161 v2 v3 (nI v4) (f_X9_rows_86 5000 g) 36 0 5000 s2 (by omega) (by omega) z2.1 l2 (fun j hj => by omega)
  refine ⟨s3, ?_, (z1.trans z2).trans z3, l3⟩
  rw [u_X9_rows_86, if_neg hlt, ← nI_1]
  exact e1.trans (e2.trans e3)
end
