/-! ROWS OF WORDS -/
def Wd_ (r : List Nat) : Prop := ∀ w ∈ r, w < 8
def go_ (G : Nat → Nat → Nat) : Nat → List Nat → Nat
  | s, [] => s
  | s, w :: r => go_ G (G s w) r
/-- the number of a row: longer ones are greater, of like length the first differing word decides -/
def nm_ (r : List Nat) : Nat := r.foldl (fun a w => 10 * a + w + 1) 0
theorem go_app (G : Nat → Nat → Nat) : ∀ (r r' : List Nat) (s : Nat), go_ G s (r ++ r') = go_ G (go_ G s r) r' := by
  intro r
  induction r with
  | nil => intro r' s; rfl
  | cons w r ih => intro r' s; exact ih r' (G s w)
theorem go_snoc (G : Nat → Nat → Nat) (r : List Nat) (w s : Nat) : go_ G s (r ++ [w]) = G (go_ G s r) w := go_app G r [w] s
theorem nm_snoc (r : List Nat) (w : Nat) : nm_ (r ++ [w]) = 10 * nm_ r + w + 1 := by
  unfold nm_
  rw [List.foldl_append]
  rfl
theorem Wd_.snoc {r : List Nat} {w : Nat} : Wd_ (r ++ [w]) ↔ Wd_ r ∧ w < 8 := by
  refine ⟨fun h => ⟨fun x hx => h x (List.mem_append_left _ hx), h w (List.mem_append_right _ (List.mem_singleton.mpr rfl))⟩, fun h x hx => ?_⟩
  rcases List.mem_append.mp hx with z | z
  · exact h.1 x z
  · rw [List.mem_singleton.mp z]; exact h.2
theorem Wd_.cons {r : List Nat} {w : Nat} : Wd_ (w :: r) ↔ w < 8 ∧ Wd_ r := by
  refine ⟨fun h => ⟨h w List.mem_cons_self, fun x hx => h x (List.mem_cons_of_mem _ hx)⟩, fun h x hx => ?_⟩
  rcases List.mem_cons.mp hx with z | z
  · rw [z]; exact h.1
  · exact h.2 x z
theorem Wd_.nil : Wd_ [] := fun _ h => absurd h List.not_mem_nil
theorem snoc_c (r : List Nat) : r = [] ∨ ∃ r' w, r = r' ++ [w] := by
  induction r with
  | nil => exact Or.inl rfl
  | cons a r ih =>
    rcases ih with rfl | ⟨r', w, rfl⟩
    · exact Or.inr ⟨[], a, rfl⟩
    · exact Or.inr ⟨a :: r', w, rfl⟩
theorem nm_b : ∀ (n : Nat) (r : List Nat), r.length = n → Wd_ r → 10 ^ n ≤ 9 * nm_ r + 1 ∧ 9 * nm_ r + 8 ≤ 8 * 10 ^ n := by
  intro n
  induction n with
  | zero =>
    intro r h _
    have : r = [] := List.length_eq_zero_iff.mp h
    subst this
    exact ⟨by decide, by decide⟩
  | succ n ih =>
    intro r h hW
    rcases snoc_c r with rfl | ⟨r', w, rfl⟩
    · exact absurd h (by simp)
    · have hl : r'.length = n := by rw [List.length_append] at h; simp at h; exact h
      obtain ⟨h1, h2⟩ := Wd_.snoc.mp hW
      obtain ⟨a, b⟩ := ih r' hl h1
      rw [nm_snoc, Nat.pow_succ]
      generalize 10 ^ n = X at *
      omega
theorem nm_len {r r' : List Nat} (h : Wd_ r) (h' : Wd_ r') (e : nm_ r ≤ nm_ r') : r.length ≤ r'.length := by
  rcases Nat.lt_or_ge r'.length r.length with z | z
  · obtain ⟨a, -⟩ := nm_b _ r rfl h
    obtain ⟨-, b⟩ := nm_b _ r' rfl h'
    have : 10 ^ (r'.length + 1) ≤ 10 ^ r.length := Nat.pow_le_pow_right (by omega) z
    rw [Nat.pow_succ] at this
    generalize 10 ^ r'.length = X at *
    generalize 10 ^ r.length = Y at *
    omega
  · exact z
theorem nm_fold : ∀ (r : List Nat) (a : Nat), r.foldl (fun a w => 10 * a + w + 1) a = a * 10 ^ r.length + nm_ r := by
  intro r
  induction r with
  | nil => intro a; simp [nm_]
  | cons w r ih =>
    intro a
    have e : nm_ (w :: r) = (w + 1) * 10 ^ r.length + nm_ r := by
      show List.foldl _ (10 * 0 + w + 1) r = _
      rw [ih, show 10 * 0 + w + 1 = w + 1 by omega]
    rw [e]
    show List.foldl _ (10 * a + w + 1) r = _
    rw [ih, List.length_cons, Nat.pow_succ]
    have : (10 * a + w + 1) * 10 ^ r.length = a * (10 ^ r.length * 10) + (w + 1) * 10 ^ r.length := by
      rw [Nat.add_assoc, Nat.add_mul, Nat.mul_comm 10 a, Nat.mul_assoc, Nat.mul_comm 10 (10 ^ r.length)]
    omega
theorem nm_cons (w : Nat) (r : List Nat) : nm_ (w :: r) = (w + 1) * 10 ^ r.length + nm_ r := by
  show List.foldl _ (10 * 0 + w + 1) r = _
  rw [nm_fold, show 10 * 0 + w + 1 = w + 1 by omega]
theorem nm_lt {r : List Nat} (h : Wd_ r) : nm_ r < 10 ^ r.length := by
  have := (nm_b _ r rfl h).2
  generalize 10 ^ r.length = X at *
  omega
/-! SEARCH IN BREADTH -/
def Bq_ (G : Nat → Nat → Nat) (s n : Nat) (q K L : Nat → Nat) (pos : Nat) : Prop :=
  (∀ j, j < n → ∃ r, Wd_ r ∧ nm_ r = K j ∧ r.length = L j ∧ go_ G s r = q j) ∧ (∀ i j, i < j → j < n → K i < K j) ∧ (∀ j, j < n → K j < pos) ∧ (∀ i j, i < j → j < n → q i ≠ q j) ∧ ∀ r, Wd_ r → nm_ r < pos → ∃ j, j < n ∧ q j = go_ G s r ∧ K j ≤ nm_ r
section
variable {G : Nat → Nat → Nat} {s n pos : Nat} {q K L : Nat → Nat}
theorem Bq_.start {q K L : Nat → Nat} (hq : q 0 = s) (hK : K 0 = 0) (hL : L 0 = 0) : Bq_ G s 1 q K L 1 := by
  refine ⟨fun j hj => ?_, fun i j h1 h2 => by omega, fun j hj => ?_, fun i j h1 h2 => by omega, fun r hr h => ?_⟩
  · have : j = 0 := by omega
    subst this
    exact ⟨[], Wd_.nil, hK.symm, hL.symm, hq.symm⟩
  · have : j = 0 := by omega
    subst this
    omega
  · rcases snoc_c r with rfl | ⟨r', w, rfl⟩
    · exact ⟨0, by omega, hq, by rw [hK]; omega⟩
    · rw [nm_snoc] at h; omega
theorem Bq_.ext (h : Bq_ G s n q K L pos) {r : List Nat} {v j : Nat} (hv : v < 8) (hj : j < n) (e : q j = go_ G s r) (hk : K j ≤ nm_ r) (hp : 10 * K j + v + 1 < pos) : ∃ l, l < n ∧ q l = go_ G s (r ++ [v]) ∧ K l ≤ nm_ (r ++ [v]) := by
  obtain ⟨ρ, p1, p2, p3, p4⟩ := h.1 j hj
  obtain ⟨l, l1, l2, l3⟩ := h.2.2.2.2 (ρ ++ [v]) (Wd_.snoc.mpr ⟨p1, hv⟩) (by rw [nm_snoc, p2]; exact hp)
  refine ⟨l, l1, ?_, ?_⟩
  · rw [l2, go_snoc, go_snoc, p4, e]
  · rw [nm_snoc, p2] at l3
    rw [nm_snoc]
    omega
theorem Bq_.le (h : Bq_ G s n q K L pos) {i j : Nat} (hi : i < n) (e : K j ≤ K i) : j ≤ i ∨ n ≤ j := by
  rcases Nat.lt_or_ge i j with z | z
  · rcases Nat.lt_or_ge j n with y | y
    · have := h.2.1 i j z y; omega
    · exact Or.inr y
  · exact Or.inl z
/-- a word is said at the cell at hand -/
theorem Bq_.last (h : Bq_ G s n q K L pos) {i w : Nat} (hi : i < n) (hw : w < 8) (e : pos = 10 * K i + w + 1) {r : List Nat} (hr : Wd_ r) (hn : nm_ r < pos + 1) : (∃ j, j < n ∧ q j = go_ G s r ∧ K j ≤ nm_ r) ∨ (go_ G s r = G (q i) w ∧ nm_ r = pos) := by
  rcases Nat.lt_or_ge (nm_ r) pos with z | z
  · exact Or.inl (h.2.2.2.2 r hr z)
  · rcases snoc_c r with rfl | ⟨r', v, rfl⟩
    · have : nm_ [] = 0 := rfl
      omega
    · obtain ⟨h1, h2⟩ := Wd_.snoc.mp hr
      rw [nm_snoc] at z hn ⊢
      have e1 : v = w := by omega
      have e2 : nm_ r' = K i := by omega
      subst e1
      obtain ⟨j, j1, j2, j3⟩ := h.2.2.2.2 r' h1 (by omega)
      have hle : j ≤ i := (h.le hi (by omega)).elim id (fun z => by omega)
      by_cases y : j = i
      · subst y
        refine Or.inr ⟨?_, by omega⟩
        rw [go_snoc, j2]
      · have := h.2.1 j i (by omega) hi
        left
        have := h.ext h2 j1 j2 j3 (by omega)
        rw [nm_snoc] at this
        exact this
theorem Bq_.old (h : Bq_ G s n q K L pos) {i w : Nat} (hi : i < n) (hw : w < 8) (e : pos = 10 * K i + w + 1) (hl : ∃ l, l < n ∧ q l = G (q i) w) : Bq_ G s n q K L (pos + 1) := by
  refine ⟨h.1, h.2.1, fun j hj => by have := h.2.2.1 j hj; omega, h.2.2.2.1, fun r hr hn => ?_⟩
  rcases h.last hi hw e hr hn with z | ⟨z1, z2⟩
  · exact z
  · obtain ⟨l, l1, l2⟩ := hl
    exact ⟨l, l1, by rw [l2, z1], by have := h.2.2.1 l l1; omega⟩
theorem Bq_.new (h : Bq_ G s n q K L pos) {i w : Nat} (hi : i < n) (hw : w < 8) (e : pos = 10 * K i + w + 1) (hl : ∀ l, l < n → q l ≠ G (q i) w) {q' K' L' : Nat → Nat} (eq : ∀ j, j < n → q' j = q j) (eq1 : q' n = G (q i) w) (eK : ∀ j, j < n → K' j = K j) (eK1 : K' n = pos) (eL : ∀ j, j < n → L' j = L j) (eL1 : L' n = L i + 1) : Bq_ G s (n + 1) q' K' L' (pos + 1) := by
  refine ⟨fun j hj => ?_, fun a b h1 h2 => ?_, fun j hj => ?_, fun a b h1 h2 => ?_, fun r hr hn => ?_⟩
  · by_cases z : j = n
    · subst z
      obtain ⟨ρ, p1, p2, p3, p4⟩ := h.1 i hi
      exact ⟨ρ ++ [w], Wd_.snoc.mpr ⟨p1, hw⟩, by rw [nm_snoc, p2, eK1, e], by rw [List.length_append, p3, eL1]; rfl, by rw [go_snoc, p4, eq1]⟩
    · rw [eq j (by omega), eK j (by omega), eL j (by omega)]
      exact h.1 j (by omega)
  · by_cases z : b = n
    · subst z
      rw [eK a h1, eK1]
      exact h.2.2.1 a h1
    · rw [eK a (by omega), eK b (by omega)]
      exact h.2.1 a b h1 (by omega)
  · by_cases z : j = n
    · subst z
      rw [eK1]; omega
    · rw [eK j (by omega)]
      have := h.2.2.1 j (by omega)
      omega
  · by_cases z : b = n
    · subst z
      rw [eq a h1, eq1]
      exact hl a h1
    · rw [eq a (by omega), eq b (by omega)]
      exact h.2.2.2.1 a b h1 (by omega)
  · rcases h.last hi hw e hr hn with ⟨j, j1, j2, j3⟩ | ⟨z1, z2⟩
    · exact ⟨j, by omega, by rw [eq j j1, j2], by rw [eK j j1]; exact j3⟩
    · exact ⟨n, by omega, by rw [eq1, z1], by rw [eK1, z2]; exact Nat.le_refl _⟩
theorem Bq_.next (h : Bq_ G s n q K L pos) {i : Nat} (hi : i + 1 < n) (e : pos = 10 * K i + 9) : Bq_ G s n q K L (10 * K (i + 1) + 1) := by
  have hk := h.2.1 i (i + 1) (by omega) hi
  refine ⟨h.1, h.2.1, fun j hj => by have := h.2.2.1 j hj; omega, h.2.2.2.1, fun r hr hn => ?_⟩
  rcases Nat.lt_or_ge (nm_ r) pos with z | z
  · exact h.2.2.2.2 r hr z
  · rcases snoc_c r with rfl | ⟨r', v, rfl⟩
    · have : nm_ [] = 0 := rfl
      omega
    · obtain ⟨h1, h2⟩ := Wd_.snoc.mp hr
      rw [nm_snoc] at z hn
      have h3 := h.2.2.1 (i + 1) hi
      obtain ⟨j, j1, j2, j3⟩ := h.2.2.2.2 r' h1 (by omega)
      have hle : j ≤ i := by
        rcases Nat.lt_or_ge i j with y | y
        · by_cases x : j = i + 1
          · subst x; omega
          · have := h.2.1 (i + 1) j (by omega) j1; omega
        · exact y
      have hkk : K j ≤ K i := by
        by_cases x : j = i
        · subst x; exact Nat.le_refl _
        · exact Nat.le_of_lt (h.2.1 j i (by omega) (by omega))
      exact h.ext h2 j1 j2 j3 (by omega)
theorem Bq_.end (h : Bq_ G s n q K L pos) {i : Nat} (hi : i + 1 = n) (e : pos = 10 * K i + 9) : ∀ (m : Nat) (r : List Nat), r.length = m → Wd_ r → ∃ j, j < n ∧ q j = go_ G s r ∧ K j ≤ nm_ r := by
  intro m
  induction m with
  | zero =>
    intro r hl hr
    have : r = [] := List.length_eq_zero_iff.mp hl
    subst this
    exact h.2.2.2.2 [] hr (by have : nm_ [] = 0 := rfl; omega)
  | succ m ih =>
    intro r hl hr
    rcases snoc_c r with rfl | ⟨r', v, rfl⟩
    · exact absurd hl (by simp)
    · obtain ⟨h1, h2⟩ := Wd_.snoc.mp hr
      obtain ⟨j, j1, j2, j3⟩ := ih r' (by rw [List.length_append] at hl; simp at hl; exact hl) h1
      have hkk : K j ≤ K i := by
        by_cases x : j = i
        · subst x; exact Nat.le_refl _
        · exact Nat.le_of_lt (h.2.1 j i (by omega) (by omega))
      exact h.ext h2 j1 j2 j3 (by omega)
end
/-- so many that are unlike don't go into fewer -/
theorem pgn : ∀ (N n : Nat) (f : Nat → Nat), (∀ i, i < n → f i < N) → (∀ i j, i < j → j < n → f i ≠ f j) → n ≤ N := by
  intro N
  induction N with
  | zero =>
    intro n f h1 _
    rcases Nat.eq_zero_or_pos n with z | z
    · omega
    · have := h1 0 z; omega
  | succ N ih =>
    intro n f h1 h2
    by_cases hx : ∃ i0, i0 < n ∧ f i0 = N
    · obtain ⟨i0, a, b⟩ := hx
      have := ih (n - 1) (fun i => if i < i0 then f i else f (i + 1)) (fun i hi => by
        show (if i < i0 then f i else f (i + 1)) < N
        split
        · rename_i z
          have k1 := h1 i (by omega)
          have k2 := h2 i i0 z a
          omega
        · rename_i z
          have k1 := h1 (i + 1) (by omega)
          have k2 := h2 i0 (i + 1) (by omega) (by omega)
          omega) (fun i j hij hj => by
        show (if i < i0 then f i else f (i + 1)) ≠ (if j < i0 then f j else f (j + 1))
        split
        · split
          · exact h2 i j hij (by omega)
          · exact h2 i (j + 1) (by omega) (by omega)
        · split
          · omega
          · exact h2 (i + 1) (j + 1) (by omega) (by omega))
      omega
    · have := ih n f (fun i hi => by
        have k1 := h1 i hi
        have k2 : f i ≠ N := fun e => hx ⟨i, hi, e⟩
        omega) h2
      omega
/-! NEARER AND NEARER -/
def Pa_ (S : Nat → Prop) (E : Nat → Nat → Prop) : Nat → Nat → Prop
  | 0, v => S v
  | d + 1, v => ∃ u, Pa_ S E d u ∧ E u v
def rcd_ (f : Nat → Nat) (e : Nat × Nat) : Prop := f e.1 + 1 < f e.2 ∧ f e.1 + 1 < 1000000
def rx1_ (f : Nat → Nat) (e : Nat × Nat) (x : Nat) : Nat := if (f e.1 + 1 < f e.2 ∧ f e.1 + 1 < 1000000) ∧ x = e.2 then f e.1 + 1 else f x
def rxs_ (E : Nat → Nat × Nat) (f : Nat → Nat) : Nat → Nat → Nat
  | 0 => f
  | k + 1 => rx1_ (rxs_ E f k) (E k)
/-- nothing was nearer so far -/
def rst_ (E : Nat → Nat × Nat) (f : Nat → Nat) (k : Nat) : Prop := ∀ j, j < k → ¬ rcd_ (rxs_ E f j) (E j)
theorem rx1_le (f : Nat → Nat) (e : Nat × Nat) (x : Nat) : rx1_ f e x ≤ f x := by
  unfold rx1_
  split
  · rename_i h
    rw [h.2]; omega
  · exact Nat.le_refl _
theorem rxs_mono (E : Nat → Nat × Nat) (f : Nat → Nat) (x k : Nat) : ∀ l, rxs_ E f (k + l) x ≤ rxs_ E f k x := by
  intro l
  induction l with
  | zero => exact Nat.le_refl _
  | succ l ih => exact Nat.le_trans (rx1_le _ _ _) ih
theorem rxs_le (E : Nat → Nat × Nat) (f : Nat → Nat) (x k : Nat) : rxs_ E f k x ≤ f x := by
  have := rxs_mono E f x 0 k
  rw [Nat.zero_add] at this
  exact this
def So_ (N : Nat) (S : Nat → Prop) (Er : Nat → Nat → Prop) (f : Nat → Nat) : Prop := (∀ v, v < N → f v ≤ 1000000) ∧ (∀ v, S v → f v = 0) ∧ ∀ v, v < N → f v < 1000000 → Pa_ S Er (f v) v
/-- the edges of a graph, in a row -/
def Eg_ (N M : Nat) (S : Nat → Prop) (Er : Nat → Nat → Prop) (E : Nat → Nat × Nat) : Prop := (∀ v, S v → v < N) ∧ (∀ k, k < M → (E k).1 < N ∧ (E k).2 < N ∧ Er (E k).1 (E k).2) ∧ ∀ u v, Er u v → ∃ k, k < M ∧ E k = (u, v)
section
variable {N M : Nat} {S : Nat → Prop} {Er : Nat → Nat → Prop} {E : Nat → Nat × Nat}
theorem pa_lt (hE : Eg_ N M S Er E) : ∀ (d v : Nat), Pa_ S Er d v → v < N := by
  intro d v h
  cases d with
  | zero => exact hE.1 v h
  | succ d =>
    obtain ⟨u, -, h2⟩ := h
    obtain ⟨k, k1, k2⟩ := hE.2.2 u v h2
    have := (hE.2.1 k k1).2.1
    rw [k2] at this
    exact this
theorem So_.rxs (hE : Eg_ N M S Er E) {f : Nat → Nat} (h : So_ N S Er f) : ∀ k, k ≤ M → So_ N S Er (rxs_ E f k) := by
  intro k
  induction k with
  | zero => intro _; exact h
  | succ k ih =>
    intro hk
    have g := ih (by omega)
    refine ⟨fun v hv => Nat.le_trans (rx1_le _ _ _) (g.1 v hv), fun v hv => ?_, fun v hv hlt => ?_⟩
    · have := rx1_le (rxs_ E f k) (E k) v
      rw [g.2.1 v hv] at this
      exact Nat.le_zero.mp this
    · show Pa_ S Er (rx1_ (rxs_ E f k) (E k) v) v
      have hlt' : rx1_ (rxs_ E f k) (E k) v < 1000000 := hlt
      unfold rx1_ at hlt' ⊢
      by_cases c : (rxs_ E f k (E k).1 + 1 < rxs_ E f k (E k).2 ∧ rxs_ E f k (E k).1 + 1 < 1000000) ∧ v = (E k).2
      · rw [if_pos c]
        obtain ⟨e1, e2, e3⟩ := hE.2.1 k (by omega)
        refine ⟨(E k).1, g.2.2 _ e1 (by omega), ?_⟩
        rw [c.2]; exact e3
      · rw [if_neg c] at hlt' ⊢
        exact g.2.2 v hv hlt'
theorem rx_edge (f : Nat → Nat) {k : Nat} (hk : k < M) : rxs_ E f M (E k).2 ≤ f (E k).1 + 1 ∨ 1000000 ≤ f (E k).1 + 1 := by
  have h1 := rxs_mono E f (E k).2 (k + 1) (M - (k + 1))
  rw [show k + 1 + (M - (k + 1)) = M by omega] at h1
  have h2 := rxs_le E f (E k).1 k
  have h3 : rxs_ E f (k + 1) (E k).2 = rx1_ (rxs_ E f k) (E k) (E k).2 := rfl
  rw [h3] at h1
  unfold rx1_ at h1
  by_cases c : (rxs_ E f k (E k).1 + 1 < rxs_ E f k (E k).2 ∧ rxs_ E f k (E k).1 + 1 < 1000000)
  · rw [if_pos ⟨c, rfl⟩] at h1
    left; omega
  · rw [if_neg (fun z => c z.1)] at h1
    omega
theorem rst_same {f : Nat → Nat} : ∀ k, rst_ E f k → ∀ x, rxs_ E f k x = f x := by
  intro k
  induction k with
  | zero => intro _ x; rfl
  | succ k ih =>
    intro h x
    show rx1_ (rxs_ E f k) (E k) x = f x
    unfold rx1_
    rw [if_neg (fun z => h k (by omega) z.1)]
    exact ih (fun j hj => h j (by omega)) x
theorem lv_step (hE : Eg_ N M S Er E) {f : Nat → Nat} (h : So_ N S Er f) {t : Nat} (ht : t + 1 < 1000000) (hl : ∀ d v, d ≤ t → Pa_ S Er d v → f v ≤ d) : ∀ d v, d ≤ t + 1 → Pa_ S Er d v → rxs_ E f M v ≤ d := by
  intro d v hd hp
  cases d with
  | zero =>
    have := rxs_le E f v M
    rw [h.2.1 v hp] at this
    exact this
  | succ d =>
    obtain ⟨u, h1, h2⟩ := hp
    obtain ⟨k, k1, k2⟩ := hE.2.2 u v h2
    have h3 := hl d u (by omega) h1
    have h4 := rx_edge (E := E) f k1
    rw [k2] at h4
    dsimp only at h4
    omega
theorem dx_c (hE : Eg_ N M S Er E) {d v : Nat} (h : Pa_ S Er d v) : ∃ d0, d0 ≤ d ∧ d0 < N ∧ Pa_ S Er d0 v ∧ ∀ d', d' < d0 → ¬ Pa_ S Er d' v := by
  obtain ⟨d0, h1, h2⟩ := pk_least (fun d => Pa_ S Er d v) ⟨d, h⟩
  have ch : ∀ i, i ≤ d0 → ∃ u, Pa_ S Er (d0 - i) u ∧ ∀ d', d' < d0 - i → ¬ Pa_ S Er d' u := by
    intro i
    induction i with
    | zero => intro _; exact ⟨v, h1, h2⟩
    | succ i ih =>
      intro hi
      obtain ⟨u, a, b⟩ := ih (by omega)
      rw [show d0 - i = (d0 - (i + 1)) + 1 by omega] at a b
      obtain ⟨u', a1, a2⟩ := a
      exact ⟨u', a1, fun d' hd z => b (d' + 1) (by omega) ⟨u', z, a2⟩⟩
  refine ⟨d0, ?_, ?_, h1, h2⟩
  · rcases Nat.lt_or_ge d d0 with z | z
    · exact absurd h (h2 d z)
    · exact z
  · have ch2 : ∀ j, ∃ u, j < d0 + 1 → (Pa_ S Er j u ∧ ∀ d', d' < j → ¬ Pa_ S Er d' u) := fun j => by
      by_cases hj : j < d0 + 1
      · obtain ⟨u, a, b⟩ := ch (d0 - j) (by omega)
        rw [show d0 - (d0 - j) = j by omega] at a b
        exact ⟨u, fun _ => ⟨a, b⟩⟩
      · exact ⟨0, fun z => absurd z hj⟩
    obtain ⟨F, hF⟩ := Classical.axiomOfChoice ch2
    have := pgn N (d0 + 1) F (fun i hi => pa_lt hE i _ (hF i hi).1) (fun i j hij hj e => by
      have a := (hF i (by omega)).1
      have b := (hF j hj).2 i hij
      rw [e] at a
      exact b a)
    omega
theorem rch_lt (hE : Eg_ N M S Er E) {f : Nat → Nat} (h : So_ N S Er f) {t : Nat} (hl : ∀ d v, d ≤ t → Pa_ S Er d v → f v ≤ d) (hc : ¬ rst_ E f M) : t + 1 < N := by
  have : ∃ j, j < M ∧ rcd_ (rxs_ E f j) (E j) := Classical.byContradiction fun z => hc (fun j hj c => z ⟨j, hj, c⟩)
  obtain ⟨j, hj, c⟩ := this
  have g := h.rxs hE j (by omega)
  obtain ⟨e1, e2, e3⟩ := hE.2.1 j hj
  unfold rcd_ at c
  have hp : Pa_ S Er (rxs_ E f j (E j).1 + 1) (E j).2 := ⟨(E j).1, g.2.2 _ e1 (by omega), e3⟩
  obtain ⟨d0, a1, a2, a3, a4⟩ := dx_c hE hp
  rcases Nat.lt_or_ge t d0 with z | z
  · omega
  · have h1 := hl d0 _ z a3
    have h2 := rxs_le E f (E j).2 j
    omega
theorem rx_fin (hN : N ≤ 1000000) (hE : Eg_ N M S Er E) {f : Nat → Nat} (h : So_ N S Er f) (hc : rst_ E f M) : ∀ v, v < N → (f v = 1000000 ∧ ∀ d, ¬ Pa_ S Er d v) ∨ (f v < N ∧ Pa_ S Er (f v) v ∧ ∀ d, Pa_ S Er d v → f v ≤ d) := by
  have cmp : ∀ d v, d < 1000000 → Pa_ S Er d v → f v ≤ d := by
    intro d
    induction d with
    | zero => intro v _ hp; rw [h.2.1 v hp]; omega
    | succ d ih =>
      intro v hd hp
      obtain ⟨u, h1, h2⟩ := hp
      obtain ⟨k, k1, k2⟩ := hE.2.2 u v h2
      have h3 := ih u (by omega) h1
      have h4 := hc k k1
      unfold rcd_ at h4
      have e1 := rst_same k (fun j hj => hc j (by omega)) (E k).1
      have e2 := rst_same k (fun j hj => hc j (by omega)) (E k).2
      rw [e1, e2, k2] at h4
      dsimp only at h4
      omega
  intro v hv
  by_cases z : ∃ d, Pa_ S Er d v
  · obtain ⟨d, hp⟩ := z
    obtain ⟨d0, a1, a2, a3, a4⟩ := dx_c hE hp
    have h1 := cmp d0 v (by omega) a3
    have h2 := h.2.2 v hv (by omega)
    have h3 : ¬ f v < d0 := fun y => a4 _ y h2
    refine Or.inr ⟨by omega, h2, fun d hd => ?_⟩
    rcases Nat.lt_or_ge d (f v) with y | y
    · exact absurd hd (a4 d (by omega))
    · exact y
  · refine Or.inl ⟨?_, fun d hd => z ⟨d, hd⟩⟩
    have h1 := h.1 v hv
    rcases Nat.lt_or_ge (f v) 1000000 with y | y
    · exact absurd ⟨_, h.2.2 v hv y⟩ z
    · omega
end
/-- from one on -/
theorem pa_s {G : Nat → Nat → Nat} {N s : Nat} (hG : ∀ u w, u < N → w < 8 → G u w < N) (hs : s < N) : ∀ d v, Pa_ (fun v => v = s) (fun u v => u < N ∧ ∃ w, w < 8 ∧ v = G u w) d v ↔ ∃ r, Wd_ r ∧ r.length = d ∧ go_ G s r = v := by
  have gl : ∀ r : List Nat, Wd_ r → ∀ s, s < N → go_ G s r < N := by
    intro r
    induction r with
    | nil => intro _ s hs; exact hs
    | cons w r ih => intro h s hs; exact ih (Wd_.cons.mp h).2 _ (hG s w hs (Wd_.cons.mp h).1)
  intro d
  induction d with
  | zero =>
    intro v
    refine ⟨fun h => ⟨[], Wd_.nil, rfl, h.symm⟩, fun ⟨r, _, h2, h3⟩ => ?_⟩
    have : r = [] := List.length_eq_zero_iff.mp h2
    subst this
    exact h3.symm
  | succ d ih =>
    intro v
    refine ⟨fun ⟨u, h1, h2, w, h3, h4⟩ => ?_, fun ⟨r, h1, h2, h3⟩ => ?_⟩
    · obtain ⟨r, r1, r2, r3⟩ := (ih u).mp h1
      exact ⟨r ++ [w], Wd_.snoc.mpr ⟨r1, h3⟩, by rw [List.length_append, r2]; rfl, by rw [go_snoc, r3, h4]⟩
    · rcases snoc_c r with rfl | ⟨r', w, rfl⟩
      · exact absurd h2 (by simp)
      · obtain ⟨k1, k2⟩ := Wd_.snoc.mp h1
        refine ⟨go_ G s r', (ih _).mpr ⟨r', k1, by rw [List.length_append] at h2; simp at h2; exact h2, rfl⟩, gl r' k1 s hs, w, k2, ?_⟩
        rw [← h3, go_snoc]
/-- to one of some -/
theorem pa_g {G : Nat → Nat → Nat} {N : Nat} {D : Nat → Prop} (hG : ∀ u w, u < N → w < 8 → G u w < N) : ∀ d v, Pa_ (fun v => v < N ∧ D v) (fun u v => v < N ∧ ∃ w, w < 8 ∧ u = G v w) d v ↔ v < N ∧ ∃ r, Wd_ r ∧ r.length = d ∧ D (go_ G v r) := by
  intro d
  induction d with
  | zero =>
    intro v
    refine ⟨fun h => ⟨h.1, [], Wd_.nil, rfl, h.2⟩, fun ⟨h0, r, _, h2, h3⟩ => ?_⟩
    have : r = [] := List.length_eq_zero_iff.mp h2
    subst this
    exact ⟨h0, h3⟩
  | succ d ih =>
    intro v
    refine ⟨fun ⟨u, h1, h2, w, h3, h4⟩ => ?_, fun ⟨h0, r, h1, h2, h3⟩ => ?_⟩
    · obtain ⟨-, r, r1, r2, r3⟩ := (ih u).mp h1
      subst h4
      exact ⟨h2, w :: r, Wd_.cons.mpr ⟨h3, r1⟩, by rw [List.length_cons, r2], r3⟩
    · cases r with
      | nil => exact absurd h2 (by simp)
      | cons w r =>
        obtain ⟨k1, k2⟩ := Wd_.cons.mp h1
        exact ⟨G v w, (ih _).mpr ⟨hG v w h0 k1, r, k2, by simpa using h2, h3⟩, h0, w, k1, rfl⟩
/-- the first of the shortest rows to some -/
def Mr_ (G : Nat → Nat → Nat) (D : Nat → Prop) (v : Nat) (r : List Nat) : Prop := Wd_ r ∧ D (go_ G v r) ∧ ∀ r', Wd_ r' → D (go_ G v r') → nm_ r ≤ nm_ r'
theorem Mr_.uni {G : Nat → Nat → Nat} {D : Nat → Prop} {v : Nat} {r r' : List Nat} (h : Mr_ G D v r) (h' : Mr_ G D v r') : nm_ r = nm_ r' := Nat.le_antisymm (h.2.2 r' h'.1 h'.2.1) (h'.2.2 r h.1 h.2.1)
theorem Mr_.len {G : Nat → Nat → Nat} {D : Nat → Prop} {v : Nat} {r r' : List Nat} (h : Mr_ G D v r) (h1 : Wd_ r') (h2 : D (go_ G v r')) : r.length ≤ r'.length := nm_len h.1 h1 (h.2.2 r' h1 h2)
/-- one word more at the front: the first that leads nearer -/
theorem Mr_.cons {G : Nat → Nat → Nat} {D : Nat → Prop} {v w : Nat} {r : List Nat} (hw : w < 8) (h : Mr_ G D (G v w) r) (hmin : ∀ r', Wd_ r' → D (go_ G v r') → r.length + 1 ≤ r'.length) (hfirst : ∀ w', w' < w → ∀ r', Wd_ r' → r'.length = r.length → ¬ D (go_ G (G v w') r')) : Mr_ G D v (w :: r) := by
  refine ⟨Wd_.cons.mpr ⟨hw, h.1⟩, h.2.1, fun r' h1 h2 => ?_⟩
  have h3 := hmin r' h1 h2
  cases r' with
  | nil => exact absurd h3 (by simp)
  | cons w' r' =>
    obtain ⟨k1, k2⟩ := Wd_.cons.mp h1
    rw [List.length_cons] at h3
    rw [nm_cons, nm_cons]
    have b1 := nm_lt h.1
    have b2 := nm_b _ r' rfl k2
    rcases Nat.lt_or_ge r.length r'.length with z | z
    · have hp : 10 ^ (r.length + 1) ≤ 10 ^ r'.length := Nat.pow_le_pow_right (by omega) z
      rw [Nat.pow_succ] at hp
      have hq : (w + 1) * 10 ^ r.length ≤ 8 * 10 ^ r.length := Nat.mul_le_mul_right _ (by omega)
      have hr : 1 * 10 ^ r'.length ≤ (w' + 1) * 10 ^ r'.length := Nat.mul_le_mul_right _ (by omega)
      generalize 10 ^ r.length = X at *
      generalize 10 ^ r'.length = Y at *
      omega
    · have el : r'.length = r.length := by omega
      rw [el] at b2 ⊢
      rcases Nat.lt_trichotomy w w' with y | y | y
      · have hq : (w + 1 + 1) * 10 ^ r.length ≤ (w' + 1) * 10 ^ r.length := Nat.mul_le_mul_right _ (by omega)
        rw [Nat.add_mul (w + 1) 1] at hq
        generalize (w + 1) * 10 ^ r.length = A at *
        generalize (w' + 1) * 10 ^ r.length = B at *
        generalize 10 ^ r.length = X at *
        omega
      · subst y
        have := h.2.2 r' k2 h2
        omega
      · exact absurd h2 (hfirst w' y r' k2 el)
