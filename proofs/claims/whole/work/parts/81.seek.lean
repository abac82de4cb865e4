/-! MEET, here: seek -/
section
variable {G1 G2 : Nat → Nat → Nat} {s1 s2 : Nat}
/-- one word to both -/
theorem pw_ok (h1 : ∀ u w, u < 36 → w < 8 → G1 u w < 36) (h2 : ∀ u w, u < 36 → w < 8 → G2 u w < 36) (hs1 : s1 < 36) (hs2 : s2 < 36) {σ : St_} (hX : ShX_ σ) (g1 : Gf_ σ 24 G1 s1) (g2 : Gf_ σ 30 G2 s2) {n i w : Nat} {q K L : Nat → Nat} (hq : Pq_ σ n q L) (hB : Bq_ (Bo_ G1 G2) (36 * s1 + s2) n q K L (10 * K i + w + 1)) (hi : i < n) (hw : w < 8) (g : Nat) : ∃ σ', f_X2_leave_3 5000 (g + 1) σ 36 24 30 (nI (q i)) (nI (L i + 1)) (nI w) = f_X2_leave_3 5000 g σ' 36 24 30 (nI (q i)) (nI (L i + 1)) (nI (w + 1)) ∧ Xp_ σ σ' ∧ ((∃ (n' : Nat) (q' K' L' : Nat → Nat), Pq_ σ' n' q' L' ∧ Bq_ (Bo_ G1 G2) (36 * s1 + s2) n' q' K' L' (10 * K' i + (w + 1) + 1) ∧ n ≤ n' ∧ (∀ j, j < n → q' j = q j ∧ L' j = L j) ∧ ∀ j, n ≤ j → j < n' → L' j = L i + 1) ∨ Pd_ σ' (Bo_ G1 G2) (36 * s1 + s2)) := by
  have hn := hq.lt hB.2.2.2.1
  have hq0 := hq
  obtain ⟨p1, p2, p3, p4, p5, p6, p7, p8⟩ := hq
  obtain ⟨hqi, eqi, hLi⟩ := p4 i hi
  obtain ⟨ρ, ρ1, ρ2, ρ3, ρ4⟩ := hB.1 i hi
  obtain ⟨b1, b2, b3⟩ := bo_go h1 h2 ρ ρ1 s1 s2 hs1 hs2
  rw [ρ4] at b1
  have ea : q i / 36 = go_ G1 s1 ρ := by omega
  have ec : q i % 36 = go_ G2 s2 ρ := by omega
  have ha := h1 (q i / 36) w (by omega) hw
  have hc := h2 (q i % 36) w (by omega) hw
  have e1 : f_X7_goalOf σ 24 (nI (q i) / 36) (nI w) = some (nI (G1 (q i / 36) w)) := by
    rw [(d36 hqi).1, ea]; exact g1 ρ w ρ1 hw
  have e2 : f_X7_goalOf σ 30 (nI (q i) - nI (q i) / 36 * 36) (nI w) = some (nI (G2 (q i % 36) w)) := by
    rw [(d36 hqi).2, ec]; exact g2 ρ w ρ1 hw
  have eB : Bo_ G1 G2 (q i) w = 36 * G1 (q i / 36) w + G2 (q i % 36) w := rfl
  rw [u_X2_leave_3, if_neg (show ¬ (8 : Int32) ≤ nI w from nI_ge (b := 8) hw (by omega)), if_pos p7, e1, Option.bind_some, e2, Option.bind_some, nI_1]
  generalize hva : G1 (q i / 36) w = a at *
  generalize hvc : G2 (q i % 36) w = c at *
  obtain ⟨P, x1, x2⟩ := p5 a ha
  by_cases z : P c = true
  · obtain ⟨l, l1, l2⟩ := (x2 c hc).mp z
    rw [pd_o hX ha hc x1 z, Option.bind_some]
    exact ⟨σ, rfl, Xp_.refl hX, Or.inl ⟨n, q, K, L, hq0, hB.old hi hw rfl ⟨l, l1, by rw [l2, eB]⟩, Nat.le_refl _, fun j hj => ⟨rfl, rfl⟩, fun j k1 k2 => by omega⟩⟩
  · have hnew : ∀ l, l < n → q l ≠ Bo_ G1 G2 (q i) w := fun l hl e => z ((x2 c hc).mpr ⟨l, hl, by rw [e, eB]⟩)
    obtain ⟨σ', f1, f2, f3, f4, f5, f6, f7⟩ := pd_n hX ha hc x1 z p3 hn (nI (L i + 1))
    rw [f1, Option.bind_some]
    refine ⟨σ', rfl, f2, ?_⟩
    by_cases y : a = c
    · right
      obtain ⟨k1, k2⟩ := f6 y
      refine ⟨ρ ++ [w], ⟨Wd_.snoc.mpr ⟨ρ1, hw⟩, ?_, fun r' r1 r2 => ?_⟩, ?_, ?_, ?_⟩
      · rw [go_snoc, ρ4, eB]
        show (36 * a + c) / 36 = (36 * a + c) % 36
        omega
      · rcases Nat.lt_or_ge (nm_ r') (10 * K i + w + 1) with v | v
        · obtain ⟨j, j1, j2, -⟩ := hB.2.2.2.2 r' r1 v
          exact absurd (by rw [j2]; exact r2) (p8 j j1)
        · rw [nm_snoc, ρ2]; exact v
      · rw [k1, List.length_append, ρ3]; rfl
      · rw [k2, go_snoc, ρ4, eB]
        congr 1
        omega
      · rw [go_snoc, ρ4, eB]; omega
    · left
      obtain ⟨k1, k2⟩ := f7 y
      refine ⟨n + 1, fun j => if j = n then Bo_ G1 G2 (q i) w else q j, fun j => if j = n then 10 * K i + w + 1 else K j, fun j => if j = n then L i + 1 else L j, ⟨by omega, by omega, f5, fun j hj => ?_, fun a' ha' => ?_, k1.trans p6, k2.trans p7, fun j hj => ?_⟩, ?_, by omega, fun j hj => ⟨if_neg (by omega), if_neg (by omega)⟩, fun j q1 q2 => if_pos (by omega)⟩
      · show (if j = n then Bo_ G1 G2 (q i) w else q j) < 1296 ∧ si_ σ' 37 j = nI (if j = n then Bo_ G1 G2 (q i) w else q j) ∧ (if j = n then L i + 1 else L j) ≤ j
        rw [f3]
        by_cases v : j = n
        · rw [if_pos v, if_pos v, if_pos v, eB]
          exact ⟨by omega, rfl, by omega⟩
        · rw [if_neg v, if_neg v, if_neg v]
          exact p4 j (by omega)
      · show ∃ P, sl_ σ' 38 a' = ba_ P 36 ∧ ∀ c, c < 36 → (P c = true ↔ ∃ j, j < n + 1 ∧ (if j = n then Bo_ G1 G2 (q i) w else q j) = 36 * a' + c)
        have ext : ∀ (Q : Nat → Bool) (c' : Nat), (Q c' = true ↔ ∃ j, j < n ∧ q j = 36 * a' + c') → ((∃ j, j < n + 1 ∧ (if j = n then Bo_ G1 G2 (q i) w else q j) = 36 * a' + c') ↔ (Q c' = true ∨ 36 * a + c = 36 * a' + c')) := fun Q c' hQ => by
          rw [hQ]
          refine ⟨fun ⟨j, j1, j2⟩ => ?_, fun u => ?_⟩
          · by_cases v : j = n
            · rw [if_pos v, eB] at j2; exact Or.inr j2
            · rw [if_neg v] at j2; exact Or.inl ⟨j, by omega, j2⟩
          · rcases u with ⟨j, j1, j2⟩ | u
            · exact ⟨j, by omega, by rw [if_neg (by omega)]; exact j2⟩
            · exact ⟨n, by omega, by rw [if_pos rfl, eB]; exact u⟩
        by_cases v : a' = a
        · subst v
          refine ⟨fun k => P k || decide (k = c), ?_, fun c' hc' => ?_⟩
          · rw [f4, if_pos rfl, bt_or 36 hc]
          · show (P c' || decide (c' = c)) = true ↔ _
            rw [ext P c' (x2 c' hc'), Bool.or_eq_true, decide_eq_true_iff]
            exact ⟨fun u => u.imp_right (fun e => by omega), fun u => u.imp_right (fun e => by omega)⟩
        · obtain ⟨P', y1, y2⟩ := p5 a' ha'
          refine ⟨P', ?_, fun c' hc' => ?_⟩
          · rw [f4, if_neg v, y1]
          · rw [ext P' c' (y2 c' hc')]
            exact ⟨Or.inl, fun u => u.elim id (fun e => by omega)⟩
      · show ¬ Dg_ (if j = n then Bo_ G1 G2 (q i) w else q j)
        by_cases v : j = n
        · rw [if_pos v, eB]
          show ¬ (36 * a + c) / 36 = (36 * a + c) % 36
          omega
        · rw [if_neg v]
          exact p8 j (by omega)
      · show Bq_ (Bo_ G1 G2) (36 * s1 + s2) (n + 1) _ _ _ (10 * (if i = n then 10 * K i + w + 1 else K i) + (w + 1) + 1)
        rw [if_neg (by omega)]
        exact hB.new hi hw rfl hnew (fun j hj => if_neg (by omega)) (if_pos rfl) (fun j hj => if_neg (by omega)) (if_pos rfl) (fun j hj => if_neg (by omega)) (if_pos rfl)
theorem pl_done {σ : St_} {B : Nat → Nat → Nat} {p0 : Nat} (h : Pd_ σ B p0) (x y : Int32) (w g : Nat) : f_X2_leave_3 5000 (g + 1) σ 36 24 30 x y (nI w) = some σ := by
  rw [u_X2_leave_3]
  split
  · rfl
  · rw [if_neg h.on]
theorem pl_ok (h1 : ∀ u w, u < 36 → w < 8 → G1 u w < 36) (h2 : ∀ u w, u < 36 → w < 8 → G2 u w < 36) (hs1 : s1 < 36) (hs2 : s2 < 36) {i p l : Nat} : ∀ (k w g : Nat) (σ : St_) (n : Nat) (q K L : Nat → Nat), w + k = 8 → k + 1 < g → ShX_ σ → Gf_ σ 24 G1 s1 → Gf_ σ 30 G2 s2 → Pq_ σ n q L → Bq_ (Bo_ G1 G2) (36 * s1 + s2) n q K L (10 * K i + w + 1) → i < n → q i = p → L i = l → ∃ σ', f_X2_leave_3 5000 g σ 36 24 30 (nI p) (nI (l + 1)) (nI w) = some σ' ∧ Xp_ σ σ' ∧ ((∃ (n' : Nat) (q' K' L' : Nat → Nat), Pq_ σ' n' q' L' ∧ Bq_ (Bo_ G1 G2) (36 * s1 + s2) n' q' K' L' (10 * K' i + 9) ∧ n ≤ n' ∧ (∀ j, j < n → q' j = q j ∧ L' j = L j) ∧ ∀ j, n ≤ j → j < n' → L' j = l + 1) ∨ Pd_ σ' (Bo_ G1 G2) (36 * s1 + s2)) := by
  intro k
  induction k with
  | zero =>
    intro w g σ n q K L e1 e2 hX g1 g2 hq hB hi eq el
    obtain ⟨g, rfl⟩ : ∃ g', g = g' + 1 := ⟨g - 1, by omega⟩
    have : w = 8 := by omega
    subst this
    refine ⟨σ, ?_, Xp_.refl hX, Or.inl ⟨n, q, K, L, hq, hB, Nat.le_refl _, fun j hj => ⟨rfl, rfl⟩, fun j k1 k2 => by omega⟩⟩
    rw [u_X2_leave_3, if_pos (by decide)]
  | succ k ih =>
    intro w g σ n q K L e1 e2 hX g1 g2 hq hB hi eq el
    obtain ⟨g, rfl⟩ : ∃ g', g = g' + 1 := ⟨g - 1, by omega⟩
    obtain ⟨σ', f1, f2, f3⟩ := pw_ok h1 h2 hs1 hs2 hX g1 g2 hq hB hi (show w < 8 by omega) g
    rw [eq, el] at f1
    rw [f1]
    rcases f3 with ⟨n', q', K', L', a1, a2, a3, a4, a5⟩ | f3
    · obtain ⟨σ2, b1, b2, b3⟩ := ih (w + 1) g σ' n' q' K' L' (by omega) (by omega) f2.1 (g1.xp (Or.inl rfl) hX f2) (g2.xp (Or.inr rfl) hX f2) a1 a2 (by omega) ((a4 i hi).1.trans eq) ((a4 i hi).2.trans el)
      refine ⟨σ2, b1, f2.trans b2, ?_⟩
      rcases b3 with ⟨n2, q2, K2, L2, c1, c2, c3, c4, c5⟩ | b3
      · refine Or.inl ⟨n2, q2, K2, L2, c1, c2, by omega, fun j hj => ⟨(c4 j (by omega)).1.trans (a4 j hj).1, (c4 j (by omega)).2.trans (a4 j hj).2⟩, fun j k1 k2 => ?_⟩
        rcases Nat.lt_or_ge j n' with y | y
        · rw [(c4 j y).2, a5 j k1 y, el]
        · exact c5 j y k2
      · exact Or.inr b3
    · obtain ⟨g, rfl⟩ : ∃ g', g = g' + 1 := ⟨g - 1, by omega⟩
      exact ⟨σ', pl_done f3 _ _ _ _, f2, Or.inr f3⟩
/-- where the search stands at the i-th pair -/
def Ph_ (B : Nat → Nat → Nat) (p0 n i : Nat) (q K L : Nat → Nat) : Prop := (i < n ∧ Bq_ B p0 n q K L (10 * K i + 1)) ∨ (i = n ∧ Bq_ B p0 n q K L (10 * K (i - 1) + 9))
theorem sk_76 (h1 : ∀ u w, u < 36 → w < 8 → G1 u w < 36) (h2 : ∀ u w, u < 36 → w < 8 → G2 u w < 36) (hs1 : s1 < 36) (hs2 : s2 < 36) {e l : Nat} (he : e ≤ 1296) (Kt : St_ → Nat → Nat → Nat → Int32 → Int32 → Option St_) : ∀ (k i g : Nat) (σ : St_) (n : Nat) (q K L : Nat → Nat), i + k = e → k + 1 < g → ShX_ σ → Gf_ σ 24 G1 s1 → Gf_ σ 30 G2 s2 → Pq_ σ n q L → Ph_ (Bo_ G1 G2) (36 * s1 + s2) n i q K L → e ≤ n → (∀ j, i ≤ j → j < e → L j = l) → (∀ j, e ≤ j → j < n → L j = l + 1) → ∃ σ', f_X2_seek_76 5000 Kt g σ 36 24 30 (nI (l + 1)) (nI e) (nI i) = Kt σ' 36 24 30 (nI e) (nI (l + 2)) ∧ Xp_ σ σ' ∧ ((∃ (n' : Nat) (q' K' L' : Nat → Nat), Pq_ σ' n' q' L' ∧ Ph_ (Bo_ G1 G2) (36 * s1 + s2) n' e q' K' L' ∧ e ≤ n' ∧ ∀ j, e ≤ j → j < n' → L' j = l + 1) ∨ Pd_ σ' (Bo_ G1 G2) (36 * s1 + s2)) := by
  intro k
  induction k with
  | zero =>
    intro i g σ n q K L e1 e2 hX g1 g2 hq hB hen hL1 hL2
    obtain ⟨g, rfl⟩ : ∃ g', g = g' + 1 := ⟨g - 1, by omega⟩
    have : i = e := by omega
    subst this
    refine ⟨σ, ?_, Xp_.refl hX, Or.inl ⟨n, q, K, L, hq, hB, hen, hL2⟩⟩
    rw [u_X2_seek_76, if_pos (nI_le (Nat.le_refl _) (by omega)), nI_1]
  | succ k ih =>
    intro i g σ n q K L e1 e2 hX g1 g2 hq hB hen hL1 hL2
    obtain ⟨g, rfl⟩ : ∃ g', g = g' + 1 := ⟨g - 1, by omega⟩
    have hi : i < n := by omega
    have hqi := hq.2.2.2.1 i hi
    have hon := hq.2.2.2.2.2.2.1
    rcases hB with ⟨-, hB⟩ | ⟨z, -⟩
    · obtain ⟨σ', f1, f2, f3⟩ := pl_ok h1 h2 hs1 hs2 (i := i) (p := q i) (l := l) 8 0 5000 σ n q K L (by omega) (by omega) hX g1 g2 hq hB hi rfl (hL1 i (Nat.le_refl _) (by omega))
      have f1' : f_X2_leave 5000 σ 36 24 30 (nI (q i)) (nI (l + 1)) = some σ' := f1
      rw [u_X2_seek_76, if_neg (nI_ge (by omega) (by omega)), dx_36_0 hX, Option.bind_some, lx_37 hX, if_neg (nI_ge (by omega) (by omega)), if_pos hon, ix_ok (by omega) (by omega), Option.bind_some, hqi.2.1, f1', Option.bind_some, nI_1]
      rcases f3 with ⟨n', q', K', L', a1, a2, a3, a4, a5⟩ | f3
      · obtain ⟨σ2, b1, b2, b3⟩ := ih (i + 1) g σ' n' q' K' L' (by omega) (by omega) f2.1 (g1.xp (Or.inl rfl) hX f2) (g2.xp (Or.inr rfl) hX f2) a1 (by
          rcases Nat.lt_or_ge (i + 1) n' with y | y
          · exact Or.inl ⟨y, a2.next y rfl⟩
          · exact Or.inr ⟨by omega, a2⟩) (by omega) (fun j k1 k2 => (a4 j (by omega)).2.trans (hL1 j (by omega) k2)) (fun j k1 k2 => by
          rcases Nat.lt_or_ge j n with y | y
          · exact (a4 j y).2.trans (hL2 j k1 y)
          · exact a5 j y k2)
        exact ⟨σ2, b1, f2.trans b2, b3⟩
      · obtain ⟨g, rfl⟩ : ∃ g', g = g' + 1 := ⟨g - 1, by omega⟩
        refine ⟨σ', ?_, f2, Or.inr f3⟩
        rw [u_X2_seek_76]
        by_cases y : nI e ≤ nI (i + 1)
        · rw [if_pos y, nI_1]
        · rw [if_neg y, dx_36_0 f2.1, Option.bind_some]
          by_cases v : nI (ln_ σ' 37) ≤ nI (i + 1)
          · rw [if_pos v, nI_1]
          · rw [if_neg v, if_neg f3.on, nI_1]
    · omega
theorem sk_done {σ : St_} (hX : ShX_ σ) {B : Nat → Nat → Nat} {p0 : Nat} (h : Pd_ σ B p0) (x y : Int32) (g : Nat) : f_X2_seek_41 5000 (g + 1) σ 36 24 30 x y = some σ := by
  rw [u_X2_seek_41, dx_36_0 hX, Option.bind_some]
  split
  · rfl
  · split
    · rfl
    · rw [if_neg h.on]
/-- none meet -/
def Pn_ (σ : St_) (B : Nat → Nat → Nat) (p0 : Nat) : Prop := si_ σ 36 3 = -1 ∧ si_ σ 36 4 = -1 ∧ ∀ r, Wd_ r → ¬ Dg_ (go_ B p0 r)
theorem sk_41 (h1 : ∀ u w, u < 36 → w < 8 → G1 u w < 36) (h2 : ∀ u w, u < 36 → w < 8 → G2 u w < 36) (hs1 : s1 < 36) (hs2 : s2 < 36) : ∀ (k i l g : Nat) (σ : St_) (n : Nat) (q K L : Nat → Nat), 1296 - i ≤ k → k + 1 < g → ShX_ σ → Gf_ σ 24 G1 s1 → Gf_ σ 30 G2 s2 → Pq_ σ n q L → Ph_ (Bo_ G1 G2) (36 * s1 + s2) n i q K L → i ≤ n → (∀ j, i ≤ j → j < n → L j = l) → ∃ σ', f_X2_seek_41 5000 g σ 36 24 30 (nI i) (nI (l + 1)) = some σ' ∧ Xp_ σ σ' ∧ (Pn_ σ' (Bo_ G1 G2) (36 * s1 + s2) ∨ Pd_ σ' (Bo_ G1 G2) (36 * s1 + s2)) := by
  intro k
  induction k with
  | zero =>
    intro i l g σ n q K L e1 e2 hX g1 g2 hq hB hin hL
    exfalso
    have hB' : ∃ pos, Bq_ (Bo_ G1 G2) (36 * s1 + s2) n q K L pos := by
      rcases hB with ⟨-, b⟩ | ⟨-, b⟩ <;> exact ⟨_, b⟩
    obtain ⟨pos, b⟩ := hB'
    have := hq.lt b.2.2.2.1
    omega
  | succ k ih =>
    intro i l g σ n q K L e1 e2 hX g1 g2 hq hB hin hL
    obtain ⟨g, rfl⟩ : ∃ g', g = g' + 1 := ⟨g - 1, by omega⟩
    rcases hB with ⟨hi, hB⟩ | ⟨hi, hB⟩
    · have hn := hq.lt hB.2.2.2.1
      have hLi := (hq.2.2.2.1 i hi).2.2
      have hl := hL i (Nat.le_refl _) hi
      obtain ⟨σ', f1, f2, f3⟩ := sk_76 h1 h2 hs1 hs2 (e := n) (l := l) (by omega) (f_X2_seek_41 5000 g) (n - i) i 5000 σ n q K L (by omega) (by omega) hX g1 g2 hq (Or.inl ⟨hi, hB⟩) (Nat.le_refl _) (fun j k1 k2 => hL j k1 k2) (fun j k1 k2 => by omega)
      rw [u_X2_seek_41, dx_36_0 hX, Option.bind_some, lx_37 hX, if_neg (nI_ge (by omega) (by omega)), hq.2.2.1, if_neg (nI_ge hi (by omega)), if_pos hq.2.2.2.2.2.2.1, f1]
      rcases f3 with ⟨n', q', K', L', a1, a2, a3, a4⟩ | f3
      · obtain ⟨σ2, b1, b2, b3⟩ := ih n (l + 1) g σ' n' q' K' L' (by omega) (by omega) f2.1 (g1.xp (Or.inl rfl) hX f2) (g2.xp (Or.inr rfl) hX f2) a1 a2 a3 a4
        exact ⟨σ2, b1, f2.trans b2, b3⟩
      · obtain ⟨g, rfl⟩ : ∃ g', g = g' + 1 := ⟨g - 1, by omega⟩
        exact ⟨σ', sk_done f2.1 f3 _ _ _, f2, Or.inr f3⟩
    · subst hi
      obtain ⟨p1, p2, p3, p4, p5, p6, p7, p8⟩ := hq
      refine ⟨σ, ?_, Xp_.refl hX, Or.inl ⟨p6, p7, fun r hr hD => ?_⟩⟩
      · rw [u_X2_seek_41, dx_36_0 hX, Option.bind_some]
        split
        · rfl
        · rw [p3, if_pos (nI_le (Nat.le_refl _) (by omega))]
      · obtain ⟨j, j1, j2, -⟩ := hB.end (i := i - 1) (by omega) rfl r.length r rfl hr
        exact p8 j j1 (by rw [j2]; exact hD)
theorem seek_ok (h1 : ∀ u w, u < 36 → w < 8 → G1 u w < 36) (h2 : ∀ u w, u < 36 → w < 8 → G2 u w < 36) (hs1 : s1 < 36) (hs2 : s2 < 36) {σ : St_} (hX : ShX_ σ) (g1 : Gf_ σ 24 G1 s1) (g2 : Gf_ σ 30 G2 s2) (o1 : si_ σ 28 0 = nI s1) (o2 : si_ σ 34 0 = nI s2) : ∃ σ', f_X2_seek 5000 σ 36 24 30 = some σ' ∧ Xp_ σ σ' ∧ (Pn_ σ' (Bo_ G1 G2) (36 * s1 + s2) ∨ Pd_ σ' (Bo_ G1 G2) (36 * s1 + s2)) := by
  have l38 := lx_38 hX
  have ef := fillL_ok (fu := 5000) (σ := σ) (a := 38) 0 (by rw [l38]; omega) (by rw [l38]; omega)
  have x1 : Xp_ σ (uv_ σ 38 (fun j => if j < ln_ σ 38 then 0 else sl_ σ 38 j)) := by
    refine ⟨hX, rfl, rfl, rfl, fun r k p => ⟨rfl, ?_, rfl⟩⟩
    rw [g_sl_uv, if_neg (by omega)]
  have y1 : ∀ a, a < 36 → sl_ (uv_ σ 38 (fun j => if j < ln_ σ 38 then 0 else sl_ σ 38 j)) 38 a = 0 := fun a ha => by rw [g_sl_uv, if_pos rfl, if_pos (by rw [l38]; exact ha)]
  have e1 : f_X2_seek 5000 σ 36 24 30 = (f_X7_start (ui_ (ui_ (ui_ (uv_ σ 38 (fun j => if j < ln_ σ 38 then 0 else sl_ σ 38 j)) 36 2 0) 36 3 (-1)) 36 4 (-1)) 24).bind fun q5 => (f_X7_start (ui_ (ui_ (ui_ (uv_ σ 38 (fun j => if j < ln_ σ 38 then 0 else sl_ σ 38 j)) 36 2 0) 36 3 (-1)) 36 4 (-1)) 30).bind fun q6 => (f_X2_discover (ui_ (ui_ (ui_ (uv_ σ 38 (fun j => if j < ln_ σ 38 then 0 else sl_ σ 38 j)) 36 2 0) 36 3 (-1)) 36 4 (-1)) 36 q5 q6 0).bind fun q7 => f_X2_seek_41 5000 5000 q7 36 24 30 0 1 := by
    unfold f_X2_seek
    rw [dx_36_1 hX, Option.bind_some, ef, Option.bind_some]
  rw [e1]
  generalize uv_ σ 38 (fun j => if j < ln_ σ 38 then 0 else sl_ σ 38 j) = t1 at *
  have x2 : Xp_ t1 (ui_ (ui_ (ui_ t1 36 2 0) 36 3 (-1)) 36 4 (-1)) := ⟨x1.1, Fr_.ui (Fr_.ui (Fr_.ui (Fr_.refl _ _) _ _ _ (by omega)) _ _ _ (by omega)) _ _ _ (by omega)⟩
  have v2 : si_ (ui_ (ui_ (ui_ t1 36 2 0) 36 3 (-1)) 36 4 (-1)) 36 2 = nI 0 := by
    rw [g_si_ui, if_pos rfl, if_neg (by omega), g_si_ui, if_pos rfl, if_neg (by omega), g_si_ui, if_pos rfl, if_pos rfl]; rfl
  have v3 : si_ (ui_ (ui_ (ui_ t1 36 2 0) 36 3 (-1)) 36 4 (-1)) 36 3 = -1 := by
    rw [g_si_ui, if_pos rfl, if_neg (by omega), g_si_ui, if_pos rfl, if_pos rfl]
  have v4 : si_ (ui_ (ui_ (ui_ t1 36 2 0) 36 3 (-1)) 36 4 (-1)) 36 4 = -1 := by
    rw [g_si_ui, if_pos rfl, if_pos rfl]
  have y2 : ∀ a, a < 36 → sl_ (ui_ (ui_ (ui_ t1 36 2 0) 36 3 (-1)) 36 4 (-1)) 38 a = 0 := y1
  generalize ui_ (ui_ (ui_ t1 36 2 0) 36 3 (-1)) 36 4 (-1) = t2 at *
  have x12 := x1.trans x2
  have st1 : f_X7_start t2 24 = some (nI s1) := by
    unfold f_X7_start
    rw [dx_24_3 x12.1, Option.bind_some, lx_28 x12.1, show ix_ (0 : Int32) 36 = some 0 from by decide +kernel, Option.bind_some, x12.2.i (by omega), o1]
  have st2 : f_X7_start t2 30 = some (nI s2) := by
    unfold f_X7_start
    rw [dx_30_3 x12.1, Option.bind_some, lx_34 x12.1, show ix_ (0 : Int32) 36 = some 0 from by decide +kernel, Option.bind_some, x12.2.i (by omega), o2]
  rw [st1, Option.bind_some, st2, Option.bind_some]
  obtain ⟨t3, f1, f2, f3, f4, f5, f6, f7⟩ := pd_n x12.1 hs1 hs2 (P := fun _ => false) (by rw [y2 s1 hs1, ba_f]) Bool.false_ne_true v2 (by omega) 0
  rw [f1, Option.bind_some]
  have x13 := x12.trans f2
  by_cases z : s1 = s2
  · obtain ⟨k1, k2⟩ := f6 z
    have hd : Pd_ t3 (Bo_ G1 G2) (36 * s1 + s2) := by
      refine ⟨[], ⟨Wd_.nil, ?_, fun r' _ _ => by show 0 ≤ _; omega⟩, k1, ?_, ?_⟩
      · show (36 * s1 + s2) / 36 = (36 * s1 + s2) % 36
        omega
      · rw [k2]
        show nI s1 = nI ((36 * s1 + s2) % 36)
        congr 1; omega
      · show 36 * s1 + s2 < 1296
        omega
    exact ⟨t3, sk_done x13.1 hd _ _ _, x13, Or.inr hd⟩
  · obtain ⟨k1, k2⟩ := f7 z
    have hq : Pq_ t3 1 (fun _ => 36 * s1 + s2) (fun _ => 0) := by
      refine ⟨by omega, by omega, f5, fun j hj => ⟨by show 36 * s1 + s2 < 1296; omega, ?_, Nat.zero_le _⟩, fun a ha => ?_, k1.trans v3, k2.trans v4, fun j hj => ?_⟩
      · have : j = 0 := by omega
        subst this
        rw [f3, if_pos rfl]
      · by_cases y : a = s1
        · subst y
          refine ⟨fun k => false || decide (k = s2), ?_, fun c hc => ?_⟩
          · rw [f4, if_pos rfl]; exact bt_or (P := fun _ => false) 36 hs2
          · show (false || decide (c = s2)) = true ↔ _
            rw [Bool.false_or, decide_eq_true_iff]
            exact ⟨fun e => ⟨0, by omega, by show 36 * a + s2 = 36 * a + c; omega⟩, fun ⟨j, _, e⟩ => by have e' : 36 * a + s2 = 36 * a + c := e; omega⟩
        · refine ⟨fun _ => false, ?_, fun c hc => ⟨fun e => absurd e Bool.false_ne_true, fun ⟨j, _, e⟩ => by have e' : 36 * s1 + s2 = 36 * a + c := e; omega⟩⟩
          rw [f4, if_neg y, y2 a ha, ba_f]
      · show ¬ (36 * s1 + s2) / 36 = (36 * s1 + s2) % 36
        omega
    obtain ⟨σ', b1, b2, b3⟩ := sk_41 h1 h2 hs1 hs2 1296 0 0 5000 t3 1 (fun _ => 36 * s1 + s2) (fun _ => 0) (fun _ => 0) (by omega) (by omega) x13.1 (g1.xp (Or.inl rfl) hX x13) (g2.xp (Or.inr rfl) hX x13) hq (Or.inl ⟨by omega, Bq_.start rfl rfl rfl⟩) (by omega) (fun j _ _ => rfl)
    exact ⟨σ', b1, x13.trans b2, b3⟩
end
