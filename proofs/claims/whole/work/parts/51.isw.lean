/-! THE REFERENCE'S TOKENS: what is at hand -/
def cod_ (k : Nat) : Nat := [0, 16, 17, 18, 19, 20, 21, 4, 5, 6, 7, 8, 9].getD k 0
theorem sp_eq (c : Nat → Nat) (i e t : Nat) : sp1_ c i e t = true ↔ (List.range (e - i)).map (fun k => c (i + k)) = ws_ t := by
  unfold sp1_
  constructor
  · intro h
    rw [Bool.and_eq_true, all_ge] at h
    have h1 : e - i = (ws_ t).length := by simpa using h.1
    apply List.ext_getElem
    · simp [h1]
    · intro k a b
      simp at a
      have := h.2 k b
      simp only [List.getElem_map, List.getElem_range]
      have h3 : c (i + k) = (ws_ t).getD k 0 := by simpa using this
      rw [h3, List.getD_eq_getElem?_getD, List.getElem?_eq_getElem b]
      rfl
  · intro h
    have hl : e - i = (ws_ t).length := by rw [← h]; simp
    rw [Bool.and_eq_true, all_ge]
    refine ⟨by simp [hl], fun k hk => ?_⟩
    rw [← h, List.getD_eq_getElem?_getD]
    have : k < ((List.range (e - i)).map (fun k => c (i + k))).length := by simp; omega
    rw [List.getElem?_eq_getElem this]
    simp
theorem ws_ij : ∀ a, a < 13 → ∀ b, b < 13 → ws_ a = ws_ b → a = b := by decide +kernel
theorem wt_sp (c : Nat → Nat) (i e : Nat) : ∀ k, 1 ≤ k → k < 13 → (wt_ c i e = cod_ k ↔ sp1_ c i e k = true) := by
  have hd : ∀ a b, a < 13 → b < 13 → sp1_ c i e a = true → sp1_ c i e b = true → a = b := fun a b ha hb h1 h2 => ws_ij a ha b hb (((sp_eq c i e a).mp h1).symm.trans ((sp_eq c i e b).mp h2))
  intro k h1 h13
  by_cases hs : ∃ j, 1 ≤ j ∧ j < 13 ∧ sp1_ c i e j = true
  · obtain ⟨j, j1, j2, hj⟩ := hs
    have hw : wt_ c i e = cod_ j := by
      have ne : ∀ b, b < 13 → b ≠ j → sp1_ c i e b = false := fun b hb hne => by
        by_cases z : sp1_ c i e b = true
        · exact absurd (hd b j hb j2 z hj) hne
        · simpa using z
      unfold wt_
      have q : j = 1 ∨ j = 2 ∨ j = 3 ∨ j = 4 ∨ j = 5 ∨ j = 6 ∨ j = 7 ∨ j = 8 ∨ j = 9 ∨ j = 10 ∨ j = 11 ∨ j = 12 := by omega
      rcases q with rfl | rfl | rfl | rfl | rfl | rfl | rfl | rfl | rfl | rfl | rfl | rfl
      · simp [hj, cod_]
      · simp [hj, cod_, ne 1]
      · simp [hj, cod_, ne 1, ne 2]
      · simp [hj, cod_, ne 1, ne 2, ne 3]
      · simp [hj, cod_, ne 1, ne 2, ne 3, ne 4]
      · simp [hj, cod_, ne 1, ne 2, ne 3, ne 4, ne 5]
      · simp [hj, cod_, ne 1, ne 2, ne 3, ne 4, ne 5, ne 6]
      · simp [hj, cod_, ne 1, ne 2, ne 3, ne 4, ne 5, ne 6, ne 7]
      · simp [hj, cod_, ne 1, ne 2, ne 3, ne 4, ne 5, ne 6, ne 7, ne 8]
      · simp [hj, cod_, ne 1, ne 2, ne 3, ne 4, ne 5, ne 6, ne 7, ne 8, ne 9]
      · simp [hj, cod_, ne 1, ne 2, ne 3, ne 4, ne 5, ne 6, ne 7, ne 8, ne 9, ne 10]
      · simp [hj, cod_, ne 1, ne 2, ne 3, ne 4, ne 5, ne 6, ne 7, ne 8, ne 9, ne 10, ne 11]
    rw [hw]
    constructor
    · intro e
      have : j = k := (show ∀ a, a < 13 → ∀ b, b < 13 → 1 ≤ a → cod_ a = cod_ b → a = b by decide +kernel) j j2 k h13 j1 e
      rw [← this]; exact hj
    · intro z
      rw [hd j k j2 h13 hj z]
  · have ne : ∀ b, 1 ≤ b → b < 13 → sp1_ c i e b = false := fun b hb1 hb => by
      by_cases z : sp1_ c i e b = true
      · exact absurd ⟨b, hb1, hb, z⟩ hs
      · simpa using z
    have hw : wt_ c i e = 1 := by
      unfold wt_
      simp [ne]
    rw [hw, ne k h1 h13]
    have : ¬ 1 = cod_ k := (show ∀ b, b < 13 → ¬ 1 = cod_ b by decide +kernel) k h13
    simp [this]
theorem ws_8 : ∀ t, t < 13 → 1 ≤ t → (ws_ t).length ≤ 6 ∧ ∀ k, k < (ws_ t).length → ¬ (ws_ t).getD k 0 = 0 := by decide +kernel
/-- the padded letters are the word -/
theorem pad_w {c : Nat → Nat} {i e t : Nat} (h1 : 1 ≤ t) (h13 : t < 13) (hie : i < e) (hl : ∀ j, i ≤ j → j < e → isL_ (c j) = true) : (e ≤ i + 8 ∧ ∀ k, k < 8 → (if i + k < e then c (i + k) else 0) = (ws_ t).getD k 0) ↔ sp1_ c i e t = true := by
  obtain ⟨w6, wn⟩ := ws_8 t h13 h1
  have nz : ∀ j, i ≤ j → j < e → ¬ c j = 0 := fun j a b z => by
    have := hl j a b
    rw [z] at this
    exact absurd this (by decide)
  unfold sp1_
  rw [Bool.and_eq_true, all_ge]
  constructor
  · rintro ⟨a, b⟩
    have hlen : e - i = (ws_ t).length := by
      rcases Nat.lt_trichotomy (e - i) (ws_ t).length with z | z | z
      · have := b (e - i) (by omega)
        rw [if_neg (by omega)] at this
        exact absurd this.symm (wn _ z)
      · exact z
      · have := b (ws_ t).length (by omega)
        rw [if_pos (by omega), List.getD_eq_getElem?_getD, List.getElem?_eq_none (Nat.le_refl _)] at this
        exact absurd this (nz _ (by omega) (by omega))
    refine ⟨by simp [hlen], fun k hk => ?_⟩
    have := b k (by omega)
    rw [if_pos (by omega)] at this
    simp [this]
  · rintro ⟨a, b⟩
    have hlen : e - i = (ws_ t).length := by simpa using a
    refine ⟨by omega, fun k hk => ?_⟩
    by_cases z : i + k < e
    · rw [if_pos z]
      have := b k (by omega)
      simpa using this
    · rw [if_neg z, List.getD_eq_getElem?_getD, List.getElem?_eq_none (by omega)]
      rfl
theorem isl_1 {σ0 : St_} {c : Nat → Nat} {n t : Nat} (hB : Bm_ σ0 c n t) {σ : St_} {d h pl : Nat} (hH : Hh_ σ0 n σ d h) (e22 : si_ σ 0 22 = nI pl) (hp : pl ≤ n) (k x : Nat) (hk : k < 8) (hx : x < 256) : f_X9_isLetter σ 0 (nI k) (nI x) = some (if (if pl + k < h then c (pl + k) else 0) = x then 1 else 0) := by
  obtain ⟨hf, h1, e20, -, -⟩ := hH
  have hn := hB.2.1
  unfold f_X9_isLetter
  rw [e20, e22, nI_add]
  by_cases a : pl + k < h
  · rw [if_neg (nI_ge a (by omega)), if_pos a, byt_i hB hf (by omega), Option.bind_some]
    have := (hB.2.2.2.2.2 (pl + k) (by omega)).1
    by_cases b : c (pl + k) = x
    · rw [if_pos b, if_pos (by rw [b])]
    · rw [if_neg b, if_neg (nI_ne this hx b)]
  · rw [if_pos (nI_le (by omega) (by omega)), if_neg a]
    by_cases b : 0 = x
    · rw [if_pos b, ← b, if_pos (show nI 0 = 0 from rfl)]
    · rw [if_neg b, if_neg (nI_ne0 (by omega) (by omega))]
theorem ite01 (p : Prop) [Decidable p] : ((if p then (1 : Int32) else 0) = 0) ↔ ¬ p := by
  by_cases h : p <;> simp [h]
theorem isw_8 {σ0 : St_} {c : Nat → Nat} {n t : Nat} (hB : Bm_ σ0 c n t) {σ : St_} {d h pl : Nat} (hH : Hh_ σ0 n σ d h) (e21 : si_ σ 0 21 = 1) (e22 : si_ σ 0 22 = nI pl) (hp : pl ≤ n) (x0 x1 x2 x3 x4 x5 x6 x7 : Nat) (g0 : x0 < 256) (g1 : x1 < 256) (g2 : x2 < 256) (g3 : x3 < 256) (g4 : x4 < 256) (g5 : x5 < 256) (g6 : x6 < 256) (g7 : x7 < 256) :
    (f_X9_isWord_ σ 0 (nI x0) (nI x1) (nI x2) (nI x3) (nI x4) (nI x5) (nI x6) (nI x7) = some 1 ∧ (h ≤ pl + 8 ∧ ∀ k, k < 8 → (if pl + k < h then c (pl + k) else 0) = [x0, x1, x2, x3, x4, x5, x6, x7].getD k 0)) ∨
    (f_X9_isWord_ σ 0 (nI x0) (nI x1) (nI x2) (nI x3) (nI x4) (nI x5) (nI x6) (nI x7) = some 0 ∧ ¬ (h ≤ pl + 8 ∧ ∀ k, k < 8 → (if pl + k < h then c (pl + k) else 0) = [x0, x1, x2, x3, x4, x5, x6, x7].getD k 0)) := by
  have hn := hB.2.1
  have hh := hH.2.1
  unfold f_X9_isWord_ f_X9_isWord__112
  rw [hH.2.2.2.2, if_pos rfl, e21, if_pos rfl, e22, hH.2.2.1, show nI pl + 8 = nI (pl + 8) from nI_add pl 8]
  have L := fun k x hk hx => isl_1 hB hH e22 hp k x hk hx
  rw [show (0 : Int32) = nI 0 from rfl, L 0 x0 (by omega) g0, show (1 : Int32) = nI 1 from rfl, L 1 x1 (by omega) g1, show (2 : Int32) = nI 2 from rfl, L 2 x2 (by omega) g2, show (3 : Int32) = nI 3 from rfl, L 3 x3 (by omega) g3, show (4 : Int32) = nI 4 from rfl, L 4 x4 (by omega) g4, show (5 : Int32) = nI 5 from rfl, L 5 x5 (by omega) g5, show (6 : Int32) = nI 6 from rfl, L 6 x6 (by omega) g6, show (7 : Int32) = nI 7 from rfl, L 7 x7 (by omega) g7]
  simp only [Option.bind_some, show nI 0 = 0 from rfl, show nI 1 = 1 from rfl, ite01]
  by_cases a : h ≤ pl + 8
  · rw [if_neg (nI_nlt a (by omega))]
    generalize hy : (fun k => if pl + k < h then c (pl + k) else 0) = y
    have hy' : ∀ k, (if pl + k < h then c (pl + k) else 0) = y k := fun k => by rw [← hy]
    simp only [hy']
    have all : (h ≤ pl + 8 ∧ ∀ k, k < 8 → y k = [x0, x1, x2, x3, x4, x5, x6, x7].getD k 0) ↔ (y 0 = x0 ∧ y 1 = x1 ∧ y 2 = x2 ∧ y 3 = x3 ∧ y 4 = x4 ∧ y 5 = x5 ∧ y 6 = x6 ∧ y 7 = x7) := by
      constructor
      · rintro ⟨-, z⟩
        exact ⟨z 0 (by omega), z 1 (by omega), z 2 (by omega), z 3 (by omega), z 4 (by omega), z 5 (by omega), z 6 (by omega), z 7 (by omega)⟩
      · rintro ⟨z0, z1, z2, z3, z4, z5, z6, z7⟩
        refine ⟨a, fun k hk => ?_⟩
        have q : k = 0 ∨ k = 1 ∨ k = 2 ∨ k = 3 ∨ k = 4 ∨ k = 5 ∨ k = 6 ∨ k = 7 := by omega
        rcases q with rfl | rfl | rfl | rfl | rfl | rfl | rfl | rfl
        · exact z0
        · exact z1
        · exact z2
        · exact z3
        · exact z4
        · exact z5
        · exact z6
        · exact z7
    rw [all]
    by_cases z0 : y 0 = x0
    · by_cases z1 : y 1 = x1
      · by_cases z2 : y 2 = x2
        · by_cases z3 : y 3 = x3
          · by_cases z4 : y 4 = x4
            · by_cases z5 : y 5 = x5
              · by_cases z6 : y 6 = x6
                · by_cases z7 : y 7 = x7
                  · left; simp [z0, z1, z2, z3, z4, z5, z6, z7]
                  · right; simp [z0, z1, z2, z3, z4, z5, z6, z7]
                · right; simp [z0, z1, z2, z3, z4, z5, z6]
              · right; simp [z0, z1, z2, z3, z4, z5]
            · right; simp [z0, z1, z2, z3, z4]
          · right; simp [z0, z1, z2, z3]
        · right; simp [z0, z1, z2]
      · right; simp [z0, z1]
    · right; simp [z0]
  · right
    rw [if_pos (nI_lt (by omega) (by omega))]
    exact ⟨rfl, fun z => a z.1⟩
