/-! FURTHEST -/
def fb_ (f : Nat → Nat) : Nat → Option Nat
  | 0 => none
  | k + 1 => if 1000000 ≤ f k then fb_ f k else match fb_ f k with
    | none => some k
    | some c => if f k ≤ f c then some c else some k
theorem fb_i (f : Nat → Nat) : ∀ k, (fb_ f k = none → ∀ c, c < k → 1000000 ≤ f c) ∧ ∀ c, fb_ f k = some c → c < k ∧ f c < 1000000 := by
  intro k
  induction k with
  | zero => exact ⟨fun _ c hc => by omega, fun c h => by cases h⟩
  | succ k ih =>
    obtain ⟨h1, h2⟩ := ih
    show ((if 1000000 ≤ f k then fb_ f k else match fb_ f k with
    | none => some k
    | some c => if f k ≤ f c then some c else some k) = none → _) ∧ ∀ c, (if 1000000 ≤ f k then fb_ f k else match fb_ f k with
    | none => some k
    | some c => if f k ≤ f c then some c else some k) = some c → _
    by_cases z : 1000000 ≤ f k
    · rw [if_pos z]
      refine ⟨fun e c hc => ?_, fun c e => ⟨by have := (h2 c e).1; omega, (h2 c e).2⟩⟩
      by_cases y : c = k
      · subst y; exact z
      · exact h1 e c (by omega)
    · rw [if_neg z]
      rcases hq : fb_ f k with _ | c0
      · exact ⟨fun e => (by cases e), fun c e => (by cases e; omega)⟩
      · have := h2 c0 hq
        show ((if f k ≤ f c0 then some c0 else some k) = none → _) ∧ ∀ c, (if f k ≤ f c0 then some c0 else some k) = some c → _
        by_cases y : f k ≤ f c0
        · rw [if_pos y]
          exact ⟨fun e => (by cases e), fun c e => (by cases e; omega)⟩
        · rw [if_neg y]
          exact ⟨fun e => (by cases e), fun c e => (by cases e; omega)⟩
theorem fur_x {G : Nat → Nat → Nat} {b s N : Nat} {q K L : Nat → Nat} {σ : St_} {f : Nat → Nat} (hb : b = 24 ∨ b = 30) (hX : ShX_ σ) (h : Wz_ σ b G s N q K L) (hf : Fx_ G s f) : ∀ (k i g : Nat), i + k = 36 → 0 < i → k < g → f_X7_furthestCell_4 5000 σ g b (nI ((fb_ f i).getD 0)) (nI i) = some (nI ((fb_ f 36).getD 0)) := by
  obtain ⟨⟨d0, d1, d2, d3, d4⟩, l1, l2, l3, l4, l5⟩ := way_s hX hb
  intro k
  induction k with
  | zero =>
    intro i g h1 h0 h2
    obtain ⟨g, rfl⟩ : ∃ g', g = g' + 1 := ⟨g - 1, by omega⟩
    have : i = 36 := by omega
    subst this
    rw [u_X7_furthestCell_4, if_pos (by decide)]
  | succ k ih =>
    intro i g h1 h0 h2
    obtain ⟨g, rfl⟩ : ∃ g', g = g' + 1 := ⟨g - 1, by omega⟩
    obtain ⟨b1, b2⟩ := fb_i f i
    have hbi : (fb_ f i).getD 0 < 36 := by
      rcases hq : fb_ f i with _ | c0
      · show (0 : Nat) < 36; omega
      · have := (b2 c0 hq).1
        show c0 < 36; omega
    have go := ih (i + 1) g (by omega) (by omega) (by omega)
    have e1 : fb_ f (i + 1) = if 1000000 ≤ f i then fb_ f i else match fb_ f i with
      | none => some i
      | some c => if f i ≤ f c then some c else some i := rfl
    rw [u_X7_furthestCell_4, if_neg (show ¬ (36 : Int32) ≤ nI i from nI_ge (b := 36) (by omega) (by omega)), d0, Option.bind_some, l1, ix_ok (by omega) (by omega), Option.bind_some, ix_ok hbi (by omega), Option.bind_some, nI_1]
    have fi := h.far hf (show i < 36 by omega)
    have fbb := h.far hf hbi
    have m1 : ∀ j, j < 36 → ((-1 : Int32) ≤ nI j ∧ ¬ nI j ≤ (-1 : Int32)) := by decide +kernel
    rcases fi with ⟨a1, a2⟩ | ⟨a1, a2⟩
    · rw [if_pos (show 1000000 ≤ f i by omega)] at e1
      rw [e1] at go
      rw [a1, if_pos]
      · exact go
      · rcases fbb with ⟨c1, c2⟩ | ⟨c1, c2⟩
        · rw [c1]; decide
        · rw [c2]; exact (m1 _ c1).1
    · rw [if_neg (show ¬ 1000000 ≤ f i by omega)] at e1
      rw [a2]
      rcases hq : fb_ f i with _ | c0
      · rw [hq] at e1 fbb
        have e1' : fb_ f (i + 1) = some i := e1
        rw [e1'] at go
        have z := b1 hq 0 h0
        have fbb' : (si_ σ (b + 1) 0 = -1 ∧ f 0 = 1000000) ∨ (f 0 < 36 ∧ si_ σ (b + 1) 0 = nI (f 0)) := fbb
        rcases fbb' with ⟨c1, c2⟩ | ⟨c1, c2⟩
        · show (if nI (f i) ≤ si_ σ (b + 1) 0 then _ else _) = _
          rw [c1, if_neg (m1 _ a1).2]
          exact go
        · omega
      · rw [hq] at e1 fbb
        have e1' : fb_ f (i + 1) = if f i ≤ f c0 then some c0 else some i := e1
        have fbb' : (si_ σ (b + 1) c0 = -1 ∧ f c0 = 1000000) ∨ (f c0 < 36 ∧ si_ σ (b + 1) c0 = nI (f c0)) := fbb
        have z := (b2 c0 hq).2
        rcases fbb' with ⟨c1, c2⟩ | ⟨c1, c2⟩
        · omega
        · show (if nI (f i) ≤ si_ σ (b + 1) c0 then f_X7_furthestCell_4 5000 σ g b (nI c0) (nI (i + 1)) else f_X7_furthestCell_4 5000 σ g b (nI i) (nI (i + 1))) = _
          rw [c2]
          by_cases y : f i ≤ f c0
          · rw [if_pos (nI_le y (by omega))]
            rw [e1', if_pos y] at go
            exact go
          · rw [if_neg (nI_ge (by omega) (by omega))]
            rw [e1', if_neg y] at go
            exact go
/-- words that move none -/
def idl_ (X : Int32) : Int32 := (255 : Int32) &&& (X ^^^ (-1 : Int32))
theorem idl_and (X : Int32) : idl_ X &&& 255 = idl_ X := by
  unfold idl_
  rw [Int32.and_comm (255 : Int32), Int32.and_assoc, Int32.and_self]
theorem idl_or (X y : Int32) : idl_ X &&& ((255 : Int32) &&& (y ^^^ (-1 : Int32))) = idl_ (X ||| y) := by
  unfold idl_
  apply Int32.toBitVec_inj.1
  have h1 : (-1 : Int32).toBitVec = BitVec.allOnes 32 := by decide
  rw [Int32.toBitVec_and, Int32.toBitVec_and, Int32.toBitVec_and, Int32.toBitVec_and, Int32.toBitVec_xor, Int32.toBitVec_xor, Int32.toBitVec_xor, Int32.toBitVec_or, h1]
  apply BitVec.eq_of_getLsbD_eq
  intro i hi
  rw [BitVec.getLsbD_and, BitVec.getLsbD_and, BitVec.getLsbD_and, BitVec.getLsbD_and, BitVec.getLsbD_xor, BitVec.getLsbD_xor, BitVec.getLsbD_xor, BitVec.getLsbD_or, BitVec.getLsbD_allOnes, decide_eq_true hi]
  cases X.toBitVec.getLsbD i <;> cases y.toBitVec.getLsbD i <;> cases ((255 : Int32).toBitVec.getLsbD i) <;> rfl
section
variable {G : Nat → Nat → Nat} {σ : St_} {f : Nat → Nat}
theorem fu_107 (hM : ShM_ σ) (hT : Tb_ σ 7 G) (hG : ∀ u w, u < 36 → w < 8 → G u w < 36) {on : Nat} (hon : on < 36) (v2 v3 : Int32) (Kt : St_ → Nat → Int32 → Int32 → Int32 → Int32 → Option (Int32 × St_)) : ∀ (k w g : Nat) (P : Nat → Bool), w + k = 8 → k < g → ∃ P' : Nat → Bool, f_X9_furthest_107 5000 Kt g σ 0 v2 v3 (idl_ (bw_ P 8)) (nI on) (nI w) = Kt σ 0 v2 v3 (idl_ (bw_ P' 8)) (nI (on + 1)) ∧ ∀ w', w' < 8 → (P' w' = true ↔ (P w' = true ∨ (w ≤ w' ∧ G on w' ≠ on))) := by
  intro k
  induction k with
  | zero =>
    intro w g P h1 h2
    obtain ⟨g, rfl⟩ : ∃ g', g = g' + 1 := ⟨g - 1, by omega⟩
    refine ⟨P, ?_, fun w' hw' => ⟨fun z => Or.inl z, fun z => z.elim id (fun y => by omega)⟩⟩
    rw [u_X9_furthest_107, if_pos (show (8 : Int32) ≤ nI w from nI_le (a := 8) (by omega) (by omega)), nI_1]
  | succ k ih =>
    intro w g P h1 h2
    obtain ⟨g, rfl⟩ : ∃ g', g = g' + 1 := ⟨g - 1, by omega⟩
    have hw : w < 8 := by omega
    have hg := hG on w hon hw
    rw [u_X9_furthest_107, if_neg (show ¬ (8 : Int32) ≤ nI w from nI_ge (b := 8) hw (by omega)), dm_0_27 hM, Option.bind_some, c8, lm_7 hM, ix_ok (by omega) (by omega), Option.bind_some, hT (8 * on + w) (by omega), show (8 * on + w) / 8 = on by omega, show (8 * on + w) % 8 = w by omega, nI_1]
    by_cases z : G on w = on
    · rw [if_pos (by rw [z]), idl_and]
      obtain ⟨P', e1, e2⟩ := ih (w + 1) g P (by omega) (by omega)
      refine ⟨P', e1, fun w' hw' => (e2 w' hw').trans ⟨fun y => y.elim Or.inl (fun y => Or.inr ⟨by omega, y.2⟩), fun y => y.elim Or.inl (fun y => Or.inr ⟨?_, y.2⟩)⟩⟩
      by_cases e : w' = w
      · subst e; exact absurd z y.2
      · omega
    · rw [if_neg (fun e => z ((nI_eq (by omega) (by omega)).mp e)), idl_or]
      obtain ⟨P', e1, e2⟩ := ih (w + 1) g (fun k => P k || decide (k = w)) (by omega) (by omega)
      rw [← bu_or 8 hw] at e1
      refine ⟨P', e1, fun w' hw' => (e2 w' hw').trans ?_⟩
      show ((P w' || decide (w' = w)) = true ∨ _) ↔ _
      rw [Bool.or_eq_true, decide_eq_true_iff]
      refine ⟨fun y => ?_, fun y => ?_⟩
      · rcases y with (y | y) | y
        · exact Or.inl y
        · subst y; exact Or.inr ⟨Nat.le_refl _, z⟩
        · exact Or.inr ⟨by omega, y.2⟩
      · rcases y with y | y
        · exact Or.inl (Or.inl y)
        · by_cases e : w' = w
          · exact Or.inl (Or.inr e)
          · exact Or.inr ⟨by omega, y.2⟩
def en_o (o : Option Nat) : Int32 := match o with
  | none => -1
  | some c => nI c
theorem fu_56 (hM : ShM_ σ) (hT : Tb_ σ 7 G) (hG : ∀ u w, u < 36 → w < 8 → G u w < 36) (hF : Fa_ σ 9 36 f) (hf : ∀ v, v < 36 → f v ≤ 1000000) (v2 : Int32) : ∀ (k on g : Nat) (P : Nat → Bool), on + k = 36 → k < g → (∀ w, w < 8 → (P w = true ↔ ∃ c, c < on ∧ f c < 1000000 ∧ G c w ≠ c)) → ∃ (P' : Nat → Bool) (g' : Nat), f_X9_furthest_56 5000 g σ 0 v2 (en_o (fb_ f on)) (idl_ (bw_ P 8)) (nI on) = f_X9_furthest_56 5000 (g' + 1) σ 0 v2 (en_o (fb_ f 36)) (idl_ (bw_ P' 8)) (nI 36) ∧ ∀ w, w < 8 → (P' w = true ↔ ∃ c, c < 36 ∧ f c < 1000000 ∧ G c w ≠ c) := by
  intro k
  induction k with
  | zero =>
    intro on g P h1 h2 hP
    obtain ⟨g, rfl⟩ : ∃ g', g = g' + 1 := ⟨g - 1, by omega⟩
    have : on = 36 := by omega
    subst this
    exact ⟨P, g, rfl, hP⟩
  | succ k ih =>
    intro on g P h1 h2 hP
    obtain ⟨g, rfl⟩ : ∃ g', g = g' + 1 := ⟨g - 1, by omega⟩
    have hon : on < 36 := by omega
    have hfo := hf on hon
    obtain ⟨b1, b2⟩ := fb_i f on
    have e1 : fb_ f (on + 1) = if 1000000 ≤ f on then fb_ f on else match fb_ f on with
      | none => some on
      | some c => if f on ≤ f c then some c else some on := rfl
    rw [u_X9_furthest_56, if_neg (show ¬ (36 : Int32) ≤ nI on from nI_ge (b := 36) hon (by omega)), dm_0_29 hM, Option.bind_some, lm_9 hM, ix_ok hon (by omega), Option.bind_some, hF on hon, nI_1]
    by_cases z : 1000000 ≤ f on
    · rw [if_pos (show (1000000 : Int32) ≤ _ from nI_le (a := 1000000) z (by omega))]
      rw [if_pos z] at e1
      rw [← e1]
      refine ih (on + 1) g P (by omega) (by omega) (fun w hw => (hP w hw).trans ⟨fun ⟨c, c1, c2, c3⟩ => ⟨c, by omega, c2, c3⟩, fun ⟨c, c1, c2, c3⟩ => ⟨c, ?_, c2, c3⟩⟩)
      by_cases e : c = on
      · subst e; omega
      · omega
    rw [if_neg (show ¬ (1000000 : Int32) ≤ _ from nI_ge (b := 1000000) (by omega) (by omega))]
    rw [if_neg z] at e1
    have inn : ∀ v3 : Int32, v3 = en_o (fb_ f (on + 1)) → ∃ (P' : Nat → Bool) (g' : Nat), f_X9_furthest_107 5000 (f_X9_furthest_56 5000 g) 5000 σ 0 v2 v3 (idl_ (bw_ P 8)) (nI on) 0 = f_X9_furthest_56 5000 (g' + 1) σ 0 v2 (en_o (fb_ f 36)) (idl_ (bw_ P' 8)) (nI 36) ∧ ∀ w, w < 8 → (P' w = true ↔ ∃ c, c < 36 ∧ f c < 1000000 ∧ G c w ≠ c) := fun v3 hv => by
      obtain ⟨P1, q1, q2⟩ := fu_107 hM hT hG hon v2 v3 (f_X9_furthest_56 5000 g) 8 0 5000 P (by omega) (by omega)
      have q1' : f_X9_furthest_107 5000 (f_X9_furthest_56 5000 g) 5000 σ 0 v2 v3 (idl_ (bw_ P 8)) (nI on) 0 = _ := q1
      rw [q1', hv]
      refine ih (on + 1) g P1 (by omega) (by omega) (fun w hw => (q2 w hw).trans ⟨fun y => ?_, fun ⟨c, c1, c2, c3⟩ => ?_⟩)
      · rcases y with y | y
        · obtain ⟨c, c1, c2, c3⟩ := (hP w hw).mp y
          exact ⟨c, by omega, c2, c3⟩
        · exact ⟨on, by omega, by omega, y.2⟩
      · by_cases e : c = on
        · subst e; exact Or.inr ⟨Nat.zero_le _, c3⟩
        · exact Or.inl ((hP w hw).mpr ⟨c, by omega, c2, c3⟩)
    rcases hq : fb_ f on with _ | c0
    · rw [hq] at e1
      have e1' : fb_ f (on + 1) = some on := e1
      rw [if_pos (show en_o none = -1 from rfl)]
      exact inn (nI on) (by rw [e1']; rfl)
    · rw [hq] at e1
      have e1' : fb_ f (on + 1) = if f on ≤ f c0 then some c0 else some on := e1
      have hc0 := b2 c0 hq
      rw [if_neg (show ¬ en_o (some c0) = -1 from (show ∀ j, j < 36 → ¬ nI j = (-1 : Int32) by decide +kernel) c0 (by omega)), Option.bind_some]
      have ei : ix_ (en_o (some c0)) 36 = some c0 := ix_ok (by omega) (by omega)
      rw [ei, Option.bind_some, hF on hon, hF c0 (by omega)]
      by_cases y : f on ≤ f c0
      · rw [if_pos (nI_le y (by omega))]
        exact inn _ (by rw [e1', if_pos y])
      · rw [if_neg (nI_ge (by omega) (by omega))]
        exact inn _ (by rw [e1', if_neg y]; rfl)
end
theorem sim_furthest : Sim_furthest Rel_ := by
  intro σx σm h x1 x2
  show ∃ (r : Int32) (σx' : St_) (σm' : St_), f_X8_furthest 5000 σx 0 x1 x2 = some (r, σx') ∧ f_X9_furthest 5000 σm 0 x1 x2 = some (r, σm') ∧ Rel_ σx' σm'
  have h0 := h
  obtain ⟨hX, hM, tc, n, hT, hF, hK, hP, hS⟩ := h
  have hn := hF.1
  have c1 := hF.2.1
  have c2 := hF.2.2.1
  have hone := one_b hn c2 x1
  have i2 := in_c (x := x2) (n := 2) (2 : Int64) rfl (by omega)
  unfold f_X8_furthest f_X9_furthest
  rcases bel_c x2 (n := 3) (by omega) with b | ⟨w, hw, rfl⟩
  · rw [if_pos (show f_X8_isBelow x2 3 = 0 from b), if_pos (i2.mpr b)]
    refine ⟨_, σx, σm, rfl, ?_, h0⟩
    split <;> rfl
  rw [if_neg (show ¬ f_X8_isBelow (nI w) 3 = 0 from bel_n (n := 3) hw (by omega)), if_neg (fun z => bel_n hw (by omega) (i2.mp z)), dx_0_8 hX, Option.bind_some]
  rcases bel_c x1 (n := n) (by omega) with b1 | ⟨c, hc, rfl⟩
  · rw [xpl_n hX hn c1 24 x1 b1, Option.bind_some, if_pos rfl, if_pos (hone.mpr b1)]
    exact ⟨_, _, _, rfl, rfl, h0⟩
  rw [if_neg (fun z => bel_n hc (by omega) (hone.mp z))]
  obtain ⟨G, s, N, q, K, L, σ1, σ', hs, e1, -, -, hsc, hW, mo, hg⟩ := xpl_s h0 hT hF hc (b := 24) (Or.inl rfl)
  rw [e1, Option.bind_some, if_neg (show ¬ ((1 : Int32), σ').1 = 0 by show ¬ (1 : Int32) = 0; decide)]
  obtain ⟨s2, f, sc2, t2, F2, X2, em⟩ := far_m hg (by omega) hs mo (fun q13 => f_X9_furthest_56 5000 5000 q13 0 (nI w) (-1 : Int32) (255 : Int32) (0 : Int32))
  rw [em]
  obtain ⟨P', g', e2, hP'⟩ := fu_56 sc2.1 t2 hg.lt F2 X2.le (nI w) 36 0 5000 (fun _ => false) (by omega) (by omega) (fun w hw => ⟨fun z => absurd z Bool.false_ne_true, fun ⟨c, c1, _⟩ => by omega⟩)
  have e255 : idl_ (bw_ (fun _ => false) 8) = 255 := by decide +kernel
  rw [e255] at e2
  have e2' : f_X9_furthest_56 5000 5000 s2 0 (nI w) (-1) 255 0 = f_X9_furthest_56 5000 (g' + 1) s2 0 (nI w) (en_o (fb_ f 36)) (idl_ (bw_ P' 8)) (nI 36) := e2
  rw [e2', u_X9_furthest_56, if_pos (show (36 : Int32) ≤ nI 36 by decide)]
  obtain ⟨b1, b2⟩ := fb_i f 36
  have hfs : f s < 1000000 := (X2.row hs).mpr ⟨[], Wd_.nil, rfl⟩
  obtain ⟨c0, hc0⟩ : ∃ c0, fb_ f 36 = some c0 := by
    rcases hq : fb_ f 36 with _ | c0
    · have := b1 hq s hs; omega
    · exact ⟨c0, rfl⟩
  obtain ⟨hc36, hfc⟩ := b2 c0 hc0
  have ex : f_X7_furthestCell 5000 σ' 24 = some (nI c0) := by
    have := fur_x (Or.inl rfl) hsc.1 hW X2 35 1 5000 (by omega) (by omega) (by omega)
    rw [hc0] at this
    have e0 : (fb_ f 1).getD 0 = 0 := by
      have h1 : fb_ f 1 = if 1000000 ≤ f 0 then none else some 0 := rfl
      rw [h1]
      split <;> rfl
    rw [e0] at this
    exact this
  rw [hc0]
  have d8 := dx_0_8 hsc.1
  by_cases z : w = 2
  · subst z
    rw [if_pos (show nI 2 = 2 from rfl), if_neg (show ¬ nI 2 = 0 by decide), if_neg (show ¬ nI 2 = 1 by decide)]
    show ∃ r σx' σm', ((dr_ σ' 7 (sr_ σ' 0 8)).bind fun b15 => some (f_X7_idleWords σ' b15, σ')) = some (r, σx') ∧ _
    obtain ⟨-, -, -, -, -, -, ⟨P, x7, x8⟩, -⟩ := hW.1
    have eP : f_X7_idleWords σ' 24 = idl_ (bw_ P' 8) := by
      show idl_ (si_ σ' 24 6) = _
      rw [x7]
      congr 1
      refine bw_congr 8 (fun k hk => ?_)
      rw [Bool.eq_iff_iff, x8 k hk, hP' k hk]
      refine ⟨fun ⟨j, j1, _, j3⟩ => ?_, fun ⟨v, v1, v2, v3⟩ => ?_⟩
      · have hq := (hW.1.2.2.1 j j1).1
        exact ⟨q j, hq, (X2.row hq).mpr ((hW.row _).mp ⟨j, j1, rfl⟩), j3⟩
      · obtain ⟨j, j1, j2⟩ := (hW.row v).mpr ((X2.row v1).mp v2)
        exact ⟨j, j1, Or.inl j1, by rw [j2]; exact v3⟩
    rw [d8, Option.bind_some, eP]
    exact ⟨_, _, _, rfl, rfl, h0.sc hsc sc2⟩
  · rw [if_neg (show ¬ nI w = 2 from nI_ne (b := 2) (by omega) (by omega) z)]
    show ∃ r σx' σm', ((dr_ σ' 7 (sr_ σ' 0 8)).bind fun b11 => (f_X7_furthestCell 5000 σ' b11).bind fun q12 => if nI w = 0 then some (q12, σ') else (f_X7_stepsTo σ' b11 q12).bind fun q14 => some (q14, σ')) = some (r, σx') ∧ _
    rw [d8, Option.bind_some, ex, Option.bind_some]
    by_cases y : w = 0
    · subst y
      rw [if_pos (show nI 0 = 0 from rfl), if_pos (show nI 0 = 0 from rfl)]
      exact ⟨_, _, _, rfl, rfl, h0.sc hsc sc2⟩
    · have : w = 1 := by omega
      subst this
      rw [if_neg (show ¬ nI 1 = 0 by decide), if_neg (show ¬ nI 1 = 0 by decide), if_pos (show nI 1 = 1 from rfl), dm_0_29 sc2.1, Option.bind_some, lm_9 sc2.1, show ix_ (en_o (some c0)) 36 = some c0 from ix_ok hc36 (by omega), Option.bind_some, F2 c0 hc36]
      unfold f_X7_stepsTo
      rw [if_neg (show ¬ f_X8_isBelow (nI c0) 36 = 0 from bel_n (n := 36) hc36 (by omega)), dx_24_0 hsc.1, Option.bind_some, lx_25 hsc.1, ix_ok hc36 (by omega), Option.bind_some]
      rcases hW.far X2 hc36 with ⟨-, a⟩ | ⟨-, a⟩
      · omega
      · rw [show si_ σ' 25 c0 = nI (f c0) from a]
        exact ⟨_, _, _, rfl, rfl, h0.sc hsc sc2⟩
