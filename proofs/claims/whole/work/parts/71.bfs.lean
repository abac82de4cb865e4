/-! HERE: ALL CELLS THAT A CARPET CAN COME TO -/
theorem bt_or {P : Nat → Bool} {c : Nat} : ∀ n, c < n → ba_ P n ||| bt_ c = ba_ (fun k => P k || decide (k = c)) n := by
  intro n
  induction n with
  | zero => intro h; omega
  | succ n ih =>
    intro h
    show (ba_ P n ||| (if P n = true then bt_ n else 0)) ||| bt_ c = ba_ (fun k => P k || decide (k = c)) n ||| (if (P n || decide (n = c)) = true then bt_ n else 0)
    by_cases z : n = c
    · subst z
      rw [ba_congr (P := fun k => P k || decide (k = n)) (Q := P) n (fun k hk => by
        show (P k || decide (k = n)) = P k
        rw [decide_eq_false (by omega), Bool.or_false])]
      have e : (P n || decide (n = n)) = true := by simp
      rw [if_pos e]
      by_cases y : P n = true
      · rw [if_pos y, Int64.or_assoc, Int64.or_self]
      · rw [if_neg y, Int64.or_zero]
    · have e : (P n || decide (n = c)) = P n := by simp [z]
      rw [e, ← ih (by omega), Int64.or_assoc, Int64.or_assoc, Int64.or_comm (bt_ c)]
def bu_ (k : Nat) : Int32 := (1 : Int32) <<< (nI k &&& 31)
def bw_ (P : Nat → Bool) : Nat → Int32
  | 0 => 0
  | k + 1 => bw_ P k ||| (if P k = true then bu_ k else 0)
theorem bw_congr {P Q : Nat → Bool} : ∀ n, (∀ k, k < n → P k = Q k) → bw_ P n = bw_ Q n := by
  intro n
  induction n with
  | zero => intro _; rfl
  | succ n ih =>
    intro h
    show bw_ P n ||| _ = bw_ Q n ||| _
    rw [ih (fun k hk => h k (by omega)), h n (by omega)]
theorem bu_or {P : Nat → Bool} {c : Nat} : ∀ n, c < n → bw_ P n ||| bu_ c = bw_ (fun k => P k || decide (k = c)) n := by
  intro n
  induction n with
  | zero => intro h; omega
  | succ n ih =>
    intro h
    show (bw_ P n ||| (if P n = true then bu_ n else 0)) ||| bu_ c = bw_ (fun k => P k || decide (k = c)) n ||| (if (P n || decide (n = c)) = true then bu_ n else 0)
    by_cases z : n = c
    · subst z
      rw [bw_congr (P := fun k => P k || decide (k = n)) (Q := P) n (fun k hk => by
        show (P k || decide (k = n)) = P k
        rw [decide_eq_false (by omega), Bool.or_false])]
      have e : (P n || decide (n = n)) = true := by simp
      rw [if_pos e]
      by_cases y : P n = true
      · rw [if_pos y, Int32.or_assoc, Int32.or_self]
      · rw [if_neg y, Int32.or_zero]
    · have e : (P n || decide (n = c)) = P n := by simp [z]
      rw [e, ← ih (by omega), Int32.or_assoc, Int32.or_assoc, Int32.or_comm (bu_ c)]
/-- a thought that goes by G -/
def Tg_ (G : Nat → Nat → Nat) (σ : St_) : Prop := ∃ (kd nu fl ni m : Nat) (ce cs cr : Cd_), Pm_ kd nu fl ni m ce cs cr ∧ G = gt_ kd nu fl ni m ce cs ∧ Th_ σ kd nu fl ni m ce cs cr
def Xb_ (b : Nat) (σ σ' : St_) : Prop := ShX_ σ' ∧ Fr_ (fun r k => ¬ xG_ r k ∧ ¬ (b ≤ r ∧ r < b + 6)) σ σ'
theorem Xb_.refl {σ : St_} (h : ShX_ σ) (b : Nat) : Xb_ b σ σ := ⟨h, Fr_.refl _ _⟩
theorem Xb_.trans {b : Nat} {σ σ' σ'' : St_} (h : Xb_ b σ σ') (g : Xb_ b σ' σ'') : Xb_ b σ σ'' := ⟨g.1, h.2.trans g.2⟩
theorem Xb_.tx {b : Nat} {σ σ' : St_} (h : TX_ σ σ') : Xb_ b σ σ' := ⟨h.1, h.2.mono (fun r k z => z.1)⟩
theorem Xb_.ui {σ : St_} (h : ShX_ σ) {b a : Nat} (k : Nat) (x : Int32) (h1 : b ≤ a) (h2 : a < b + 6) : Xb_ b σ (ui_ σ a k x) := ⟨h, (Fr_.refl _ _).ui a k x (fun z => z.2 ⟨h1, h2⟩)⟩
theorem Xb_.ul {σ : St_} (h : ShX_ σ) {b a : Nat} (k : Nat) (x : Int64) (h1 : b ≤ a) (h2 : a < b + 6) : Xb_ b σ (ul_ σ a k x) := ⟨h, (Fr_.refl _ _).ul a k x (fun z => z.2 ⟨h1, h2⟩)⟩
theorem Xb_.sc {b : Nat} {σ σ' : St_} (h : Xb_ b σ σ') (hb : b = 24 ∨ b = 30) : ScX_ σ σ' := ⟨h.1, h.2.mono (by intro r k z; refine ⟨fun w => z ?_, fun w => z ?_⟩ <;> simp only [xG_, xZ_] at w ⊢ <;> omega)⟩
theorem Th_.xb {σ σ' : St_} {b kd nu fl ni m : Nat} {ce cs cr : Cd_} (hb : b = 24 ∨ b = 30) (h : Th_ σ kd nu fl ni m ce cs cr) (t : Xb_ b σ σ') : Th_ σ' kd nu fl ni m ce cs cr := by
  obtain ⟨-, h1, h2, h3, h4, h5, b', e, s, r, g1, q1, q2, q3, q4, g2, g3, g4, g5, a1, a2, a3⟩ := h
  obtain ⟨hX, hf⟩ := t
  have pl : ∀ {r k : Nat}, ¬ xG_ r k → (r < 24 ∨ 49 ≤ r) → ¬ xG_ r k ∧ ¬ (b ≤ r ∧ r < b + 6) := fun h1 h2 => ⟨h1, by omega⟩
  have ar : ∀ {a : Nat} {c : Cd_}, 49 ≤ a → Ar_ σ a c → Ar_ σ' a c := fun ha h => h.congr (congrFun hf.1 _) (congrFun hf.2.1 _) (fun j => hf.i (pl (by simp only [xG_]; omega) (Or.inr ha)))
  exact ⟨hX, (hf.i (pl (by simp [xG_]) (by omega))).trans h1, (hf.l (pl (by simp [xG_]) (by omega))).trans h2, (hf.i (pl (by simp [xG_]) (by omega))).trans h3, (hf.i (pl (by simp [xG_]) (by omega))).trans h4, (hf.i (pl (by simp [xG_]) (by omega))).trans h5, b', e, s, r, (hf.r (pl (by simp [xG_]) (by omega))).trans g1, q1, q2, q3, q4, (congrFun hf.1 b').trans g2, (hf.r (pl (by simp only [xG_]; omega) (Or.inr q4))).trans g3, (hf.r (pl (by simp only [xG_]; omega) (Or.inr q4))).trans g4, (hf.r (pl (by simp only [xG_]; omega) (Or.inr q4))).trans g5, ar q1 a1, ar q2 a2, ar q3 a3⟩
theorem Tg_.sh {G : Nat → Nat → Nat} {σ : St_} (h : Tg_ G σ) : ShX_ σ := by
  obtain ⟨kd, nu, fl, ni, m, ce, cs, cr, p, e, t⟩ := h
  exact t.1
theorem Tg_.lt {G : Nat → Nat → Nat} {σ : St_} (h : Tg_ G σ) {u : Nat} (w : Nat) (hu : u < 36) : G u w < 36 := by
  obtain ⟨kd, nu, fl, ni, m, ce, cs, cr, p, rfl, t⟩ := h
  exact gt_lt kd nu fl ni m ce cs u w hu
theorem Tg_.goal {G : Nat → Nat → Nat} {σ : St_} (h : Tg_ G σ) {u w : Nat} (hu : u < 36) (hw : w < 8) : ∃ σ', f_X6_goal 5000 σ 21 (nI u) (nI w) = some (nI (G u w), σ') ∧ TX_ σ σ' := by
  obtain ⟨kd, nu, fl, ni, m, ce, cs, cr, p, rfl, t⟩ := h
  exact th_goal t p hu hw
theorem Tg_.xb {G : Nat → Nat → Nat} {b : Nat} {σ σ' : St_} (h : Tg_ G σ) (hb : b = 24 ∨ b = 30) (t : Xb_ b σ σ') : Tg_ G σ' := by
  obtain ⟨kd, nu, fl, ni, m, ce, cs, cr, p, e, h⟩ := h
  exact ⟨kd, nu, fl, ni, m, ce, cs, cr, p, e, h.xb hb t⟩
/-- the rows of one -/
theorem way_s {σ : St_} (h : ShX_ σ) {b : Nat} (hb : b = 24 ∨ b = 30) : (dr_ σ 10 (sr_ σ b 0) = some (b + 1) ∧ dr_ σ 10 (sr_ σ b 1) = some (b + 2) ∧ dr_ σ 10 (sr_ σ b 2) = some (b + 3) ∧ dr_ σ 10 (sr_ σ b 3) = some (b + 4) ∧ dr_ σ 10 (sr_ σ b 4) = some (b + 5)) ∧ ln_ σ (b + 1) = 36 ∧ ln_ σ (b + 2) = 36 ∧ ln_ σ (b + 3) = 36 ∧ ln_ σ (b + 4) = 36 ∧ ln_ σ (b + 5) = 288 := by
  rcases hb with rfl | rfl
  · exact ⟨⟨dx_24_0 h, dx_24_1 h, dx_24_2 h, dx_24_3 h, dx_24_4 h⟩, lx_25 h, lx_26 h, lx_27 h, lx_28 h, lx_29 h⟩
  · exact ⟨⟨dx_30_0 h, dx_30_1 h, dx_30_2 h, dx_30_3 h, dx_30_4 h⟩, lx_31 h, lx_32 h, lx_33 h, lx_34 h, lx_35 h⟩
theorem disc_o {σ : St_} (h : ShX_ σ) {b g : Nat} (hb : b = 24 ∨ b = 30) (hg : g < 36) (x2 x3 x4 : Int32) (n : ¬ si_ σ (b + 1) g = -1) : f_X7_discover σ b (nI g) x2 x3 x4 = some σ := by
  obtain ⟨⟨d0, d1, d2, d3, d4⟩, l1, l2, l3, l4, l5⟩ := way_s h hb
  unfold f_X7_discover
  rw [if_neg (show ¬ f_X8_isBelow (nI g) 36 = 0 from bel_n (n := 36) hg (by omega)), d0, Option.bind_some, l1, ix_ok hg (by omega), Option.bind_some, if_neg n]
theorem disc_n {σ : St_} (h : ShX_ σ) {b g n : Nat} (hb : b = 24 ∨ b = 30) (hg : g < 36) (x2 x3 x4 : Int32) (e : si_ σ (b + 1) g = -1) (e5 : si_ σ b 5 = nI n) (hn : n < 36) : ∃ σ', f_X7_discover σ b (nI g) x2 x3 x4 = some σ' ∧ Xb_ b σ σ' ∧ (∀ c, si_ σ' (b + 1) c = if c = g then x4 else si_ σ (b + 1) c) ∧ (∀ c, si_ σ' (b + 2) c = if c = g then x2 else si_ σ (b + 2) c) ∧ (∀ c, si_ σ' (b + 3) c = if c = g then x3 else si_ σ (b + 3) c) ∧ (∀ c, si_ σ' (b + 4) c = if c = n then nI g else si_ σ (b + 4) c) ∧ (∀ c, si_ σ' (b + 5) c = si_ σ (b + 5) c) ∧ si_ σ' b 5 = nI (n + 1) ∧ si_ σ' b 6 = si_ σ b 6 ∧ sl_ σ' b 7 = sl_ σ b 7 := by
  obtain ⟨⟨d0, d1, d2, d3, d4⟩, l1, l2, l3, l4, l5⟩ := way_s h hb
  refine ⟨ui_ (ui_ (ui_ (ui_ (ui_ σ (b + 1) g x4) (b + 2) g x2) (b + 3) g x3) (b + 4) n (nI g)) b 5 (nI (n + 1)), ?_, ⟨h, ?_⟩, fun c => ?_, fun c => ?_, fun c => ?_, fun c => ?_, fun c => ?_, ?_, ?_, rfl⟩
  · have r5 : si_ (ui_ (ui_ (ui_ σ (b + 1) g x4) (b + 2) g x2) (b + 3) g x3) b 5 = nI n := by
      rw [g_si_ne (by omega), g_si_ne (by omega), g_si_ne (by omega)]; exact e5
    have r6 : si_ (ui_ (ui_ (ui_ (ui_ σ (b + 1) g x4) (b + 2) g x2) (b + 3) g x3) (b + 4) n (nI g)) b 5 = nI n := by
      rw [g_si_ne (by omega)]; exact r5
    unfold f_X7_discover
    rw [if_neg (show ¬ f_X8_isBelow (nI g) 36 = 0 from bel_n (n := 36) hg (by omega)), d0, Option.bind_some, l1, ix_ok hg (by omega), Option.bind_some, if_pos e, e5, if_neg (show ¬ f_X8_isBelow (nI n) 36 = 0 from bel_n (n := 36) hn (by omega)), Option.bind_some,
      show dr_ (ui_ σ (b + 1) g x4) 10 (sr_ (ui_ σ (b + 1) g x4) b 1) = some (b + 2) from d1, Option.bind_some, show ln_ (ui_ σ (b + 1) g x4) (b + 2) = 36 from l2, ix_ok hg (by omega), Option.bind_some,
      show dr_ (ui_ (ui_ σ (b + 1) g x4) (b + 2) g x2) 10 (sr_ (ui_ (ui_ σ (b + 1) g x4) (b + 2) g x2) b 2) = some (b + 3) from d2, Option.bind_some, show ln_ (ui_ (ui_ σ (b + 1) g x4) (b + 2) g x2) (b + 3) = 36 from l3, ix_ok hg (by omega), Option.bind_some,
      show dr_ (ui_ (ui_ (ui_ σ (b + 1) g x4) (b + 2) g x2) (b + 3) g x3) 10 (sr_ (ui_ (ui_ (ui_ σ (b + 1) g x4) (b + 2) g x2) (b + 3) g x3) b 3) = some (b + 4) from d3, Option.bind_some, r5, show ln_ (ui_ (ui_ (ui_ σ (b + 1) g x4) (b + 2) g x2) (b + 3) g x3) (b + 4) = 36 from l4, ix_ok hn (by omega), Option.bind_some, r6, nI_1]
  · exact Fr_.ui (Fr_.ui (Fr_.ui (Fr_.ui (Fr_.ui (Fr_.refl _ _) _ _ _ (fun z => z.2 ⟨by omega, by omega⟩)) _ _ _ (fun z => z.2 ⟨by omega, by omega⟩)) _ _ _ (fun z => z.2 ⟨by omega, by omega⟩)) _ _ _ (fun z => z.2 ⟨by omega, by omega⟩)) _ _ _ (fun z => z.2 ⟨by omega, by omega⟩)
  · rw [g_si_ne (by omega), g_si_ne (by omega), g_si_ne (by omega), g_si_ne (by omega), g_si_ui, if_pos rfl]
  · rw [g_si_ne (by omega), g_si_ne (by omega), g_si_ne (by omega), g_si_ui, if_pos rfl, g_si_ne (by omega)]
  · rw [g_si_ne (by omega), g_si_ne (by omega), g_si_ui, if_pos rfl, g_si_ne (by omega), g_si_ne (by omega)]
  · rw [g_si_ne (by omega), g_si_ui, if_pos rfl, g_si_ne (by omega), g_si_ne (by omega), g_si_ne (by omega)]
  · rw [g_si_ne (by omega), g_si_ne (by omega), g_si_ne (by omega), g_si_ne (by omega), g_si_ne (by omega)]
  · rw [g_si_ui, if_pos rfl, if_pos rfl]
  · rw [g_si_ui, if_pos rfl, if_neg (by omega), g_si_ne (by omega), g_si_ne (by omega), g_si_ne (by omega), g_si_ne (by omega)]
/-- what is known behind word w at the i-th cell -/
def Wx_ (σ : St_) (b : Nat) (G : Nat → Nat → Nat) (s n : Nat) (q K L : Nat → Nat) (i w : Nat) : Prop :=
  n ≤ 36 ∧ si_ σ b 5 = nI n ∧ (∀ j, j < n → q j < 36 ∧ si_ σ (b + 4) j = nI (q j) ∧ si_ σ (b + 1) (q j) = nI (L j) ∧ L j ≤ j) ∧ (∀ c, c < 36 → (∀ j, j < n → q j ≠ c) → si_ σ (b + 1) c = -1) ∧
  (∀ j, 0 < j → j < n → ∃ i' w', i' < j ∧ w' < 8 ∧ si_ σ (b + 2) (q j) = nI (q i') ∧ si_ σ (b + 3) (q j) = nI w' ∧ K j = 10 * K i' + w' + 1 ∧ L j = L i' + 1) ∧
  (∀ j w', j < n → w' < 8 → (j < i ∨ (j = i ∧ w' < w)) → si_ σ (b + 5) (8 * q j + w') = nI (G (q j) w')) ∧
  (∃ P, si_ σ b 6 = bw_ P 8 ∧ ∀ w', w' < 8 → (P w' = true ↔ ∃ j, j < n ∧ (j < i ∨ (j = i ∧ w' < w)) ∧ G (q j) w' ≠ q j)) ∧
  (∃ P, sl_ σ b 7 = ba_ P 36 ∧ ∀ c, c < 36 → (P c = true ↔ ∃ j, j < n ∧ j < i ∧ q j = c ∧ ∀ w', w' < 8 → G c w' = c)) ∧ 0 < n ∧ L 0 = 0 ∧ K 0 = 0 ∧ q 0 = s
