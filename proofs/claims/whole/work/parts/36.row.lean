/-! ROWS WRITTEN WHOLE -/
theorem uw_uw (σ : St_) (a : Nat) (f g : Nat → Int32) : uw_ (uw_ σ a f) a g = uw_ σ a g := by
  show (va_up (va_up σ.1 a f) a g, σ.2) = (va_up σ.1 a g, σ.2)
  have : va_up (va_up σ.1 a f) a g = va_up σ.1 a g := by
    funext j
    unfold va_up
    by_cases h : j = a
    · rw [if_pos h, if_pos h]
    · rw [if_neg h, if_neg h, if_neg h]
  rw [this]
theorem ui_uw (σ : St_) (a k : Nat) (f : Nat → Int32) (v : Int32) : ui_ (uw_ σ a f) a k v = uw_ σ a (upd f k v) := by
  have : ui_ (uw_ σ a f) a k v = uw_ (uw_ σ a f) a (upd (si_ (uw_ σ a f) a) k v) := rfl
  rw [this, uw_uw, si_uw]
theorem ui_eq (σ : St_) (a k : Nat) (v : Int32) : ui_ σ a k v = uw_ σ a (upd (si_ σ a) k v) := rfl
theorem uw_id (σ : St_) (a : Nat) : uw_ σ a (si_ σ a) = σ := by
  show (va_up σ.1 a (σ.1 a), σ.2) = σ
  have : va_up σ.1 a (σ.1 a) = σ.1 := by
    funext j
    unfold va_up
    by_cases h : j = a
    · rw [if_pos h, h]
    · rw [if_neg h]
  rw [this]
theorem uw_ext {σ : St_} {a : Nat} {f g : Nat → Int32} (h : ∀ j, f j = g j) : uw_ σ a f = uw_ σ a g := by rw [funext h]
def uv_ (σ : St_) (a : Nat) (f : Nat → Int64) : St_ := (σ.1, va_up σ.2.1 a f, σ.2.2)
theorem uv_uv (σ : St_) (a : Nat) (f g : Nat → Int64) : uv_ (uv_ σ a f) a g = uv_ σ a g := by
  show (σ.1, va_up (va_up σ.2.1 a f) a g, σ.2.2) = (σ.1, va_up σ.2.1 a g, σ.2.2)
  have : va_up (va_up σ.2.1 a f) a g = va_up σ.2.1 a g := by
    funext j
    unfold va_up
    by_cases h : j = a
    · rw [if_pos h, if_pos h]
    · rw [if_neg h, if_neg h, if_neg h]
  rw [this]
theorem sl_uv (σ : St_) (a : Nat) (f : Nat → Int64) : sl_ (uv_ σ a f) a = f := by
  show va_up σ.2.1 a f a = _
  rw [va_up, if_pos rfl]
theorem ul_uv (σ : St_) (a k : Nat) (f : Nat → Int64) (v : Int64) : ul_ (uv_ σ a f) a k v = uv_ σ a (vp_updL f k v) := by
  have : ul_ (uv_ σ a f) a k v = uv_ (uv_ σ a f) a (vp_updL (sl_ (uv_ σ a f) a) k v) := rfl
  rw [this, uv_uv, sl_uv]
theorem ul_eq (σ : St_) (a k : Nat) (v : Int64) : ul_ σ a k v = uv_ σ a (vp_updL (sl_ σ a) k v) := rfl
theorem uv_id (σ : St_) (a : Nat) : uv_ σ a (sl_ σ a) = σ := by
  show (σ.1, va_up σ.2.1 a (σ.2.1 a), σ.2.2) = σ
  have : va_up σ.2.1 a (σ.2.1 a) = σ.2.1 := by
    funext j
    unfold va_up
    by_cases h : j = a
    · rw [if_pos h, h]
    · rw [if_neg h]
  rw [this]
theorem uv_ext {σ : St_} {a : Nat} {f g : Nat → Int64} (h : ∀ j, f j = g j) : uv_ σ a f = uv_ σ a g := by rw [funext h]
theorem Fr_.uv {P : Nat → Nat → Prop} {σ σ' : St_} (h : Fr_ P σ σ') (a : Nat) (f : Nat → Int64) (n : ∀ k, ¬ P a k) : Fr_ P σ (uv_ σ' a f) := by
  refine h.trans ⟨rfl, rfl, rfl, fun r j p => ⟨rfl, ?_, rfl⟩⟩
  show va_up σ'.2.1 a f r j = _
  unfold va_up
  by_cases e : r = a
  · subst e; exact absurd p (n j)
  · rw [if_neg e]; rfl
theorem fill_go (fu : Nat) (v : Int32) : ∀ (k : Nat) (σ : St_) (a i fuel : Nat), ln_ σ a < 2 ^ 31 → i + k = ln_ σ a → k < fuel → f_J7_fill_53178_5 fu fuel σ a v (nI i) (nI (ln_ σ a)) = some (uw_ σ a (fun j => if i ≤ j ∧ j < ln_ σ a then v else si_ σ a j)) := by
  intro k
  induction k with
  | zero =>
    intro σ a i fuel hl hi hf
    obtain ⟨f, rfl⟩ : ∃ f, fuel = f + 1 := ⟨fuel - 1, by omega⟩
    show (if nI (ln_ σ a) ≤ nI i then some σ else _) = _
    rw [if_pos (nI_le (by omega) (by omega))]
    congr 1
    conv => lhs; rw [← uw_id σ a]
    exact uw_ext fun j => by rw [if_neg (by omega)]
  | succ k ih =>
    intro σ a i fuel hl hi hf
    obtain ⟨f, rfl⟩ : ∃ f, fuel = f + 1 := ⟨fuel - 1, by omega⟩
    show (if nI (ln_ σ a) ≤ nI i then some σ else (ix_ (nI i) (ln_ σ a)).bind fun j2 => (f_J7_fill_53178_5 fu f) (ui_ σ a j2 v) a v (nI i + 1) (nI (ln_ σ a))) = _
    rw [if_neg (nI_ge (by omega) (by omega)), ix_ok (by omega) hl, Option.bind_some, nI_1]
    have := ih (ui_ σ a i v) a (i + 1) f hl (by show i + 1 + k = ln_ σ a; omega) (by omega)
    have e : ln_ (ui_ σ a i v) a = ln_ σ a := rfl
    rw [e] at this
    rw [this, ui_eq, uw_uw, si_uw]
    congr 1
    apply uw_ext
    intro j
    rw [upd_g]
    by_cases h1 : j = i
    · rw [if_neg (by omega), if_pos h1, if_pos (by omega)]
    · by_cases h2 : i + 1 ≤ j ∧ j < ln_ σ a
      · rw [if_pos h2, if_pos (by omega)]
      · rw [if_neg h2, if_neg h1, if_neg (by omega)]
theorem fill_ok {fu : Nat} {σ : St_} {a : Nat} (v : Int32) (hl : ln_ σ a < 2 ^ 31) (hf : ln_ σ a < fu) : f_J7_fill_53178 fu σ a v = some (uw_ σ a (fun j => if j < ln_ σ a then v else si_ σ a j)) := by
  have := fill_go fu v (ln_ σ a) σ a 0 fu hl (by omega) hf
  unfold f_J7_fill_53178
  rw [show (0 : Int32) = nI 0 from rfl, this]
  congr 1
  exact uw_ext fun j => by simp
theorem fillL_go (fu : Nat) (v : Int64) : ∀ (k : Nat) (σ : St_) (a i fuel : Nat), ln_ σ a < 2 ^ 31 → i + k = ln_ σ a → k < fuel → f_J7_fill_d0a16_6 fu fuel σ a v (nI i) (nI (ln_ σ a)) = some (uv_ σ a (fun j => if i ≤ j ∧ j < ln_ σ a then v else sl_ σ a j)) := by
  intro k
  induction k with
  | zero =>
    intro σ a i fuel hl hi hf
    obtain ⟨f, rfl⟩ : ∃ f, fuel = f + 1 := ⟨fuel - 1, by omega⟩
    show (if nI (ln_ σ a) ≤ nI i then some σ else _) = _
    rw [if_pos (nI_le (by omega) (by omega))]
    congr 1
    conv => lhs; rw [← uv_id σ a]
    exact uv_ext fun j => by rw [if_neg (by omega)]
  | succ k ih =>
    intro σ a i fuel hl hi hf
    obtain ⟨f, rfl⟩ : ∃ f, fuel = f + 1 := ⟨fuel - 1, by omega⟩
    show (if nI (ln_ σ a) ≤ nI i then some σ else (ix_ (nI i) (ln_ σ a)).bind fun j2 => (f_J7_fill_d0a16_6 fu f) (ul_ σ a j2 v) a v (nI i + 1) (nI (ln_ σ a))) = _
    rw [if_neg (nI_ge (by omega) (by omega)), ix_ok (by omega) hl, Option.bind_some, nI_1]
    have := ih (ul_ σ a i v) a (i + 1) f hl (by show i + 1 + k = ln_ σ a; omega) (by omega)
    have e : ln_ (ul_ σ a i v) a = ln_ σ a := rfl
    rw [e] at this
    rw [this, ul_eq, uv_uv, sl_uv]
    congr 1
    apply uv_ext
    intro j
    show (if i + 1 ≤ j ∧ j < ln_ σ a then v else if j = i then v else sl_ σ a j) = _
    by_cases h1 : j = i
    · rw [if_neg (by omega), if_pos h1, if_pos (by omega)]
    · by_cases h2 : i + 1 ≤ j ∧ j < ln_ σ a
      · rw [if_pos h2, if_pos (by omega)]
      · rw [if_neg h2, if_neg h1, if_neg (by omega)]
theorem fillL_ok {fu : Nat} {σ : St_} {a : Nat} (v : Int64) (hl : ln_ σ a < 2 ^ 31) (hf : ln_ σ a < fu) : f_J7_fill_d0a16 fu σ a v = some (uv_ σ a (fun j => if j < ln_ σ a then v else sl_ σ a j)) := by
  have := fillL_go fu v (ln_ σ a) σ a 0 fu hl (by omega) hf
  unfold f_J7_fill_d0a16
  rw [show (0 : Int32) = nI 0 from rfl, this]
  congr 1
  exact uv_ext fun j => by simp
