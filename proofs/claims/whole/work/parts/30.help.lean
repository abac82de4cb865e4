/-! HELPERS of the pure part -/
theorem g_si_ui (σ : St_) (a k : Nat) (v : Int32) (b j : Nat) : si_ (ui_ σ a k v) b j = if b = a then (if j = k then v else si_ σ b j) else si_ σ b j := by
  show va_up σ.1 a (upd (σ.1 a) k v) b j = _
  unfold va_up
  by_cases h : b = a
  · subst h
    rw [if_pos rfl, if_pos rfl]
    rfl
  · rw [if_neg h, if_neg h]
    rfl
theorem g_si_uif (σ : St_) (a k : Nat) (v : Int32) (b : Nat) : si_ (ui_ σ a k v) b = if b = a then upd (si_ σ b) k v else si_ σ b := by
  show va_up σ.1 a (upd (σ.1 a) k v) b = _
  unfold va_up
  by_cases h : b = a
  · subst h
    rw [if_pos rfl, if_pos rfl]
    rfl
  · rw [if_neg h, if_neg h]
    rfl
theorem g_si_ne {σ : St_} {a k : Nat} {v : Int32} {b : Nat} (h : b ≠ a) : si_ (ui_ σ a k v) b = si_ σ b := by rw [g_si_uif, if_neg h]
theorem g_si_ul (σ : St_) (a k : Nat) (v : Int64) : si_ (ul_ σ a k v) = si_ σ := rfl
theorem g_si_ur (σ : St_) (a k : Nat) (v : Option Nat) : si_ (ur_ σ a k v) = si_ σ := rfl
theorem g_sl_ui (σ : St_) (a k : Nat) (v : Int32) : sl_ (ui_ σ a k v) = sl_ σ := rfl
theorem g_sl_ur (σ : St_) (a k : Nat) (v : Option Nat) : sl_ (ur_ σ a k v) = sl_ σ := rfl
theorem g_sr_ui (σ : St_) (a k : Nat) (v : Int32) : sr_ (ui_ σ a k v) = sr_ σ := rfl
theorem g_sr_ul (σ : St_) (a k : Nat) (v : Int64) : sr_ (ul_ σ a k v) = sr_ σ := rfl
theorem g_kd_ui (σ : St_) (a k : Nat) (v : Int32) : kd_ (ui_ σ a k v) = kd_ σ := rfl
theorem g_kd_ul (σ : St_) (a k : Nat) (v : Int64) : kd_ (ul_ σ a k v) = kd_ σ := rfl
theorem g_kd_ur (σ : St_) (a k : Nat) (v : Option Nat) : kd_ (ur_ σ a k v) = kd_ σ := rfl
theorem g_ln_ui (σ : St_) (a k : Nat) (v : Int32) : ln_ (ui_ σ a k v) = ln_ σ := rfl
theorem g_ln_ul (σ : St_) (a k : Nat) (v : Int64) : ln_ (ul_ σ a k v) = ln_ σ := rfl
theorem g_ln_ur (σ : St_) (a k : Nat) (v : Option Nat) : ln_ (ur_ σ a k v) = ln_ σ := rfl
theorem g_sl_ul (σ : St_) (a k : Nat) (v : Int64) (b j : Nat) : sl_ (ul_ σ a k v) b j = if b = a then (if j = k then v else sl_ σ b j) else sl_ σ b j := by
  show va_up σ.2.1 a (vp_updL (σ.2.1 a) k v) b j = _
  unfold va_up
  by_cases h : b = a
  · subst h
    rw [if_pos rfl, if_pos rfl]
    rfl
  · rw [if_neg h, if_neg h]
    rfl
theorem g_sr_ur (σ : St_) (a k : Nat) (v : Option Nat) (b j : Nat) : sr_ (ur_ σ a k v) b j = if b = a then (if j = k then v else sr_ σ b j) else sr_ σ b j := by
  show va_up σ.2.2.1 a (va_up (σ.2.2.1 a) k v) b j = _
  unfold va_up
  by_cases h : b = a
  · subst h
    rw [if_pos rfl, if_pos rfl]
    rfl
  · rw [if_neg h, if_neg h]
    rfl
theorem dr_ok {σ : St_} {c a : Nat} {o : Option Nat} (h1 : o = some a) (h2 : kd_ σ a = c) : dr_ σ c o = some a := by
  subst h1
  show (if kd_ σ a = c then some a else none) = some a
  rw [if_pos h2]
theorem ix_ok {j n : Nat} (h : j < n) (hn : n < 2 ^ 31) : ix_ (nI j) n = some j := by
  unfold ix_
  rw [if_neg (nI_pos (Nat.lt_trans h hn)), nI_clamp (Nat.lt_trans h hn), if_pos h]
theorem ix_ok' {x : Int32} {j n : Nat} (e : x = nI j) (h : j < n) (hn : n < 2 ^ 31) : ix_ x n = some j := by rw [e]; exact ix_ok h hn
/-- a number against a bound: outside, or a natural one -/
theorem bel_0 {x e : Int32} : f_X8_isBelow x e = 0 ↔ (x < 0 ∨ e ≤ x) := by
  unfold f_X8_isBelow
  by_cases h1 : x < 0
  · simp [h1]
  · by_cases h2 : e ≤ x
    · simp [h1, h2]
    · simp [h1, h2]
theorem bel_n {j n : Nat} (h : j < n) (hn : n < 2 ^ 31) : ¬ f_X8_isBelow (nI j) (nI n) = 0 := by
  rw [bel_0]
  intro h2
  rcases h2 with h2 | h2
  · exact nI_pos (Nat.lt_trans h hn) h2
  · exact nI_ge h hn h2
theorem bel_c (x : Int32) {n : Nat} (hn : n < 2 ^ 31) : f_X8_isBelow x (nI n) = 0 ∨ ∃ j, j < n ∧ x = nI j := by
  rcases pk_ix x hn with h | h | h
  · exact Or.inl (bel_0.mpr (Or.inl h))
  · exact Or.inl (bel_0.mpr (Or.inr h))
  · exact Or.inr h
theorem lt_i (a b : Int32) : a < b ↔ a.toInt < b.toInt := Int32.lt_iff_toInt_lt
theorem le_i (a b : Int32) : a ≤ b ↔ a.toInt ≤ b.toInt := Int32.le_iff_toInt_le
theorem lgc_lt {x y : Int64} : lg_cmp x y < 0 ↔ x < y := by
  unfold lg_cmp
  by_cases h1 : y < x
  · have h3 : ¬ x < y := by
      rw [Int64.lt_iff_toInt_lt] at h1 ⊢
      omega
    rw [if_pos h1]
    exact ⟨fun h => absurd h (by decide), fun h => absurd h h3⟩
  · rw [if_neg h1]
    by_cases h2 : x = y
    · rw [if_pos h2]
      subst h2
      exact ⟨fun h => absurd h (by decide), fun h => absurd h h1⟩
    · rw [if_neg h2]
      refine ⟨fun _ => ?_, fun _ => by decide⟩
      rw [Int64.lt_iff_toInt_lt] at h1 ⊢
      have : x.toInt ≠ y.toInt := fun e => h2 (Int64.toInt_inj.mp e)
      omega
theorem lgc_gt {x y : Int64} : 0 < lg_cmp x y ↔ y < x := by
  unfold lg_cmp
  by_cases h1 : y < x
  · rw [if_pos h1]
    exact ⟨fun _ => h1, fun _ => by decide⟩
  · rw [if_neg h1]
    by_cases h2 : x = y
    · rw [if_pos h2]
      exact ⟨fun h => absurd h (by decide), fun h => absurd h h1⟩
    · rw [if_neg h2]
      exact ⟨fun h => absurd h (by decide), fun h => absurd h h1⟩
theorem in_0 {x lo hi : Int64} : f_X9_in x lo hi = 0 ↔ (x < lo ∨ hi < x) := by
  unfold f_X9_in
  by_cases h1 : x < lo
  · have := lgc_lt.mpr h1
    simp [this, h1]
  · have e1 : ¬ lg_cmp x lo < 0 := fun z => h1 (lgc_lt.mp z)
    by_cases h2 : hi < x
    · have := lgc_gt.mpr h2
      simp [e1, this, h2]
    · have e2 : ¬ 0 < lg_cmp x hi := fun z => h2 (lgc_gt.mp z)
      simp [e1, e2, h1, h2]
/-- an int as a long, within 0 and a bound: the same as below the next -/
theorem in_b {x : Int32} {n : Nat} (hn : n + 1 < 2 ^ 31) : f_X9_in x.toInt64 0 ((nI n).toInt64) = 0 ↔ f_X8_isBelow x (nI (n + 1)) = 0 := by
  rw [in_0, bel_0, Int64.lt_iff_toInt_lt, Int64.lt_iff_toInt_lt, Int32.lt_iff_toInt_lt, Int32.le_iff_toInt_le, Int32.toInt_toInt64, Int32.toInt_toInt64, nI_toInt (by omega), nI_toInt (by omega)]
  have e : (0 : Int64).toInt = 0 := rfl
  have e2 : (0 : Int32).toInt = 0 := rfl
  rw [e, e2]
  constructor
  · rintro (h | h)
    · exact Or.inl h
    · exact Or.inr (by omega)
  · rintro (h | h)
    · exact Or.inl h
    · exact Or.inr (by omega)
theorem in_c {x : Int32} {n : Nat} (m : Int64) (hm : m = (nI n).toInt64) (hn : n + 1 < 2 ^ 31) : f_X9_in x.toInt64 0 m = 0 ↔ f_X8_isBelow x (nI (n + 1)) = 0 := by rw [hm]; exact in_b hn
