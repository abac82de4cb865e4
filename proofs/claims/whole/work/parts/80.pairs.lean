/-! MEET, here -/
def bn_ (P : Nat → Bool) : Nat → Nat
  | 0 => 0
  | k + 1 => bn_ P k ||| (if P k = true then 2 ^ k else 0)
theorem bt_lN : ∀ k, k < 36 → bt_ k = lN (2 ^ k) := by decide +kernel
theorem bn_lt (P : Nat → Bool) : ∀ n, bn_ P n < 2 ^ n := by
  intro n
  induction n with
  | zero => exact Nat.one_pos
  | succ n ih =>
    show bn_ P n ||| _ < 2 ^ (n + 1)
    refine Nat.or_lt_two_pow (Nat.lt_trans ih (wb_lt2 (by omega))) ?_
    split
    · exact wb_lt2 (by omega)
    · exact Nat.pow_pos (by omega)
theorem bn_bit (P : Nat → Bool) : ∀ n i, i < n → (bn_ P n).testBit i = P i := by
  intro n
  induction n with
  | zero => intro i hi; omega
  | succ n ih =>
    intro i hi
    show (bn_ P n ||| (if P n = true then 2 ^ n else 0)).testBit i = P i
    by_cases y : P n = true
    · rw [if_pos y, fb_bit_set]
      by_cases z : i = n
      · subst z; rw [y]; simp
      · rw [ih i (by omega)]; simp [z]
    · rw [if_neg y, Nat.or_zero]
      by_cases z : i = n
      · subst z
        rw [Nat.testBit_lt_two_pow (bn_lt P i)]
        exact (Bool.eq_false_iff.mpr y).symm
      · exact ih i (by omega)
theorem ba_bn (P : Nat → Bool) : ∀ n, n ≤ 36 → ba_ P n = lN (bn_ P n) := by
  intro n
  induction n with
  | zero => intro _; rfl
  | succ n ih =>
    intro h
    show ba_ P n ||| (if P n = true then bt_ n else 0) = lN (bn_ P n ||| (if P n = true then 2 ^ n else 0))
    have b1 : bn_ P n < 2 ^ 64 := Nat.lt_trans (bn_lt P n) (wb_lt2 (by omega))
    rw [ih (by omega)]
    by_cases y : P n = true
    · rw [if_pos y, if_pos y, bt_lN n (by omega), wb_or b1 (wb_lt2 (by omega))]
    · rw [if_neg y, if_neg y, Int64.or_zero, Nat.or_zero]
/-- whether a cell is among some -/
theorem ba_at (P : Nat → Bool) {c : Nat} (hc : c < 36) : (lg_cmp ((((ba_ P 36).toUInt64 >>> ((nI c).toInt64.toUInt64 &&& Int64.toUInt64 63)).toInt64) &&& (1 : Int64)) (1 : Int64)) = 0 ↔ P c = true := by
  rw [ba_bn P 36 (by omega), wal_b (bn_lt P 36) hc, bn_bit P 36 c hc]
  exact lgc_1 (P c)
def Xp_ (σ σ' : St_) : Prop := ShX_ σ' ∧ Fr_ (fun r _ => ¬ (36 ≤ r ∧ r < 39)) σ σ'
theorem Xp_.refl {σ : St_} (h : ShX_ σ) : Xp_ σ σ := ⟨h, Fr_.refl _ _⟩
theorem Xp_.trans {σ σ' σ'' : St_} (h : Xp_ σ σ') (g : Xp_ σ' σ'') : Xp_ σ σ'' := ⟨g.1, h.2.trans g.2⟩
theorem Xp_.sc {σ σ' : St_} (h : Xp_ σ σ') : ScX_ σ σ' := ⟨h.1, h.2.mono (by intro r k z w; apply z; simp only [xZ_]; omega)⟩
theorem pd_o {σ : St_} (hX : ShX_ σ) {a c : Nat} (ha : a < 36) (hc : c < 36) {P : Nat → Bool} (e : sl_ σ 38 a = ba_ P 36) (hP : P c = true) (x : Int32) : f_X2_discover σ 36 (nI a) (nI c) x = some σ := by
  unfold f_X2_discover
  rw [if_neg (show ¬ f_X8_isBelow (nI a) 36 = 0 from bel_n (n := 36) ha (by omega)), dx_36_1 hX, Option.bind_some, lx_38 hX, ix_ok ha (by omega), Option.bind_some, e, if_pos ((ba_at P hc).mpr hP)]
theorem pd_n {σ : St_} (hX : ShX_ σ) {a c n : Nat} (ha : a < 36) (hc : c < 36) {P : Nat → Bool} (e : sl_ σ 38 a = ba_ P 36) (hP : ¬ P c = true) (e2 : si_ σ 36 2 = nI n) (hn : n < 1296) (x : Int32) : ∃ σ', f_X2_discover σ 36 (nI a) (nI c) x = some σ' ∧ Xp_ σ σ' ∧ (∀ j, si_ σ' 37 j = if j = n then nI (36 * a + c) else si_ σ 37 j) ∧ (∀ a', sl_ σ' 38 a' = if a' = a then ba_ P 36 ||| bt_ c else sl_ σ 38 a') ∧ si_ σ' 36 2 = nI (n + 1) ∧ (a = c → si_ σ' 36 3 = x ∧ si_ σ' 36 4 = nI a) ∧ (a ≠ c → si_ σ' 36 3 = si_ σ 36 3 ∧ si_ σ' 36 4 = si_ σ 36 4) := by
  have key : ∀ t : St_, t = ui_ (ui_ (ul_ σ 38 a (ba_ P 36 ||| bt_ c)) 37 n (nI (36 * a + c))) 36 2 (nI (n + 1)) → Xp_ σ t ∧ (∀ j, si_ t 37 j = if j = n then nI (36 * a + c) else si_ σ 37 j) ∧ (∀ a', sl_ t 38 a' = if a' = a then ba_ P 36 ||| bt_ c else sl_ σ 38 a') ∧ si_ t 36 2 = nI (n + 1) ∧ si_ t 36 3 = si_ σ 36 3 ∧ si_ t 36 4 = si_ σ 36 4 := fun t et => by
    subst et
    refine ⟨⟨hX, Fr_.ui (Fr_.ui (Fr_.ul (Fr_.refl _ _) _ _ _ (by omega)) _ _ _ (by omega)) _ _ _ (by omega)⟩, fun j => ?_, fun a' => ?_, ?_, ?_, ?_⟩
    · rw [g_si_ne (by omega), g_si_ui, if_pos rfl]; rfl
    · show sl_ (ul_ σ 38 a (ba_ P 36 ||| bt_ c)) 38 a' = _
      rw [g_sl_ul, if_pos rfl]
    · rw [g_si_ui, if_pos rfl, if_pos rfl]
    · rw [g_si_ui, if_pos rfl, if_neg (by omega), g_si_ne (by omega)]; rfl
    · rw [g_si_ui, if_pos rfl, if_neg (by omega), g_si_ne (by omega)]; rfl
  obtain ⟨k1, k2, k3, k4, k5, k6⟩ := key _ rfl
  have r2 : si_ (ui_ (ul_ σ 38 a (ba_ P 36 ||| bt_ c)) 37 n (nI (36 * a + c))) 36 2 = nI n := by
    rw [g_si_ne (by omega)]; exact e2
  have ev : f_X2_discover σ 36 (nI a) (nI c) x = if nI a = nI c then some (ui_ (ui_ (ui_ (ui_ (ul_ σ 38 a (ba_ P 36 ||| bt_ c)) 37 n (nI (36 * a + c))) 36 2 (nI (n + 1))) 36 3 x) 36 4 (nI a)) else some (ui_ (ui_ (ul_ σ 38 a (ba_ P 36 ||| bt_ c)) 37 n (nI (36 * a + c))) 36 2 (nI (n + 1))) := by
    unfold f_X2_discover
    rw [if_neg (show ¬ f_X8_isBelow (nI a) 36 = 0 from bel_n (n := 36) ha (by omega)), dx_36_1 hX, Option.bind_some, lx_38 hX, ix_ok ha (by omega), Option.bind_some, e, if_neg (fun z => hP ((ba_at P hc).mp z)), dx_36_0 hX, Option.bind_some, e2, lx_37 hX, if_neg (bel_n hn (by omega)), Option.bind_some, Option.bind_some]
    have eb : (1 : Int64) <<< ((nI c).toInt64 &&& 63) = bt_ c := rfl
    rw [e, eb, c36', show si_ (ul_ σ 38 a (ba_ P 36 ||| bt_ c)) 36 2 = nI n from e2, show ln_ (ul_ σ 38 a (ba_ P 36 ||| bt_ c)) 37 = 1296 from lx_37 hX, ix_ok hn (by omega), Option.bind_some, r2, nI_1]
  rw [ev]
  by_cases z : a = c
  · rw [if_pos (by rw [z])]
    refine ⟨_, rfl, k1.trans ⟨hX, Fr_.ui (Fr_.ui (Fr_.refl _ _) _ _ _ (by omega)) _ _ _ (by omega)⟩, fun j => ?_, fun a' => k3 a', ?_, fun _ => ⟨?_, ?_⟩, fun y => absurd z y⟩
    · rw [g_si_ne (by omega), g_si_ne (by omega)]; exact k2 j
    · rw [g_si_ui, if_pos rfl, if_neg (by omega), g_si_ui, if_pos rfl, if_neg (by omega)]; exact k4
    · rw [g_si_ui, if_pos rfl, if_neg (by omega), g_si_ui, if_pos rfl, if_pos rfl]
    · rw [g_si_ui, if_pos rfl, if_pos rfl]
  · rw [if_neg (fun y => z ((nI_eq (by omega) (by omega)).mp y))]
    exact ⟨_, rfl, k1, k2, k3, k4, fun y => absurd y z, fun _ => ⟨k5, k6⟩⟩
/-- where words lead from a found cell -/
theorem gof_eq {σ σ' : St_} (hX : ShX_ σ) (x : Xp_ σ σ') {b : Nat} (hb : b = 24 ∨ b = 30) (u w : Int32) : f_X7_goalOf σ' b u w = f_X7_goalOf σ b u w := by
  obtain ⟨⟨d0, d1, d2, d3, d4⟩, l1, l2, l3, l4, l5⟩ := way_s hX hb
  obtain ⟨⟨d0', d1', d2', d3', d4'⟩, l1', l2', l3', l4', l5'⟩ := way_s x.1 hb
  unfold f_X7_goalOf
  rw [d4, d4', Option.bind_some, Option.bind_some, l5, l5']
  have : ∀ j, si_ σ' (b + 5) j = si_ σ (b + 5) j := fun j => x.2.i (by omega)
  rw [show (fun j7 => some (si_ σ' (b + 5) j7)) = (fun j7 => some (si_ σ (b + 5) j7)) from funext fun j => by rw [this j]]
def Gf_ (σ : St_) (b : Nat) (G : Nat → Nat → Nat) (s : Nat) : Prop := ∀ r w, Wd_ r → w < 8 → f_X7_goalOf σ b (nI (go_ G s r)) (nI w) = some (nI (G (go_ G s r) w))
theorem Wz_.gf {σ : St_} {b : Nat} (hb : b = 24 ∨ b = 30) (hX : ShX_ σ) {G : Nat → Nat → Nat} {s N : Nat} {q K L : Nat → Nat} (h : Wz_ σ b G s N q K L) : Gf_ σ b G s := fun r w hr hw => by
  obtain ⟨⟨d0, d1, d2, d3, d4⟩, l1, l2, l3, l4, l5⟩ := way_s hX hb
  obtain ⟨j, hj, e, -⟩ := h.2.2 r hr
  have hq := (h.1.2.2.1 j hj).1
  have hg := h.1.2.2.2.2.2.1 j w hj hw (Or.inl hj)
  rw [← e]
  unfold f_X7_goalOf
  rw [d4, Option.bind_some, c8', l5, if_neg (bel_n (by omega) (by omega)), ix_ok (by omega) (by omega), Option.bind_some, hg]
theorem Gf_.xp {σ σ' : St_} {b : Nat} {G : Nat → Nat → Nat} {s : Nat} (h : Gf_ σ b G s) (hb : b = 24 ∨ b = 30) (hX : ShX_ σ) (x : Xp_ σ σ') : Gf_ σ' b G s := fun r w hr hw => by rw [gof_eq hX x hb]; exact h r w hr hw
/-- pairs that were found, none of them on one cell -/
def Pq_ (σ : St_) (n : Nat) (q L : Nat → Nat) : Prop := n ≤ 1296 ∧ 0 < n ∧ si_ σ 36 2 = nI n ∧ (∀ j, j < n → q j < 1296 ∧ si_ σ 37 j = nI (q j) ∧ L j ≤ j) ∧ (∀ a, a < 36 → ∃ P, sl_ σ 38 a = ba_ P 36 ∧ ∀ c, c < 36 → (P c = true ↔ ∃ j, j < n ∧ q j = 36 * a + c)) ∧ si_ σ 36 3 = -1 ∧ si_ σ 36 4 = -1 ∧ ∀ j, j < n → ¬ Dg_ (q j)
/-- two lie on one cell -/
def Pd_ (σ : St_) (B : Nat → Nat → Nat) (p0 : Nat) : Prop := ∃ r, Mr_ B Dg_ p0 r ∧ si_ σ 36 3 = nI r.length ∧ si_ σ 36 4 = nI (go_ B p0 r % 36) ∧ go_ B p0 r < 1296
theorem Pd_.on {σ : St_} {B : Nat → Nat → Nat} {p0 : Nat} (h : Pd_ σ B p0) : ¬ si_ σ 36 4 = -1 := by
  obtain ⟨r, -, -, e, -⟩ := h
  rw [e]
  exact (show ∀ j, j < 36 → ¬ nI j = (-1 : Int32) by decide +kernel) _ (Nat.mod_lt _ (by omega))
theorem Pq_.lt {σ : St_} {n : Nat} {q L : Nat → Nat} (h : Pq_ σ n q L) (hi : ∀ i j, i < j → j < n → q i ≠ q j) : n < 1296 := by
  obtain ⟨-, -, -, h4, -, -, -, h8⟩ := h
  have := pgn 1296 (n + 1) (fun j => if j = n then 0 else q j) (fun j hj => by
    show (if j = n then 0 else q j) < 1296
    split
    · omega
    · exact (h4 j (by omega)).1) (fun a c k1 k2 => by
    show (if a = n then 0 else q a) ≠ (if c = n then 0 else q c)
    rw [if_neg (by omega)]
    split
    · intro e
      exact h8 a (by omega) (by rw [e]; rfl)
    · exact hi a c k1 (by omega))
  omega
