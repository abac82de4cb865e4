/-! ASKS, HEIGHTS, TOLD -/
theorem isC_c (x : Int32) : f_X9_isCell x = 0 ↔ f_X8_isBelow x (nI 36) = 0 := in_c (x := x) (n := 35) (35 : Int64) rfl (by omega)
theorem isW_c (x : Int32) : f_X9_isWord x = 0 ↔ f_X8_isBelow x (nI 8) = 0 := in_c (x := x) (n := 7) (7 : Int64) rfl (by omega)
theorem sim_asks : Sim_asks Rel_ := by
  intro σx σm h x1 x2 x3 x4
  have h0 := h
  obtain ⟨hX, hM, tc, n, hT, hF, hK, hP, hS⟩ := h
  have hn := hF.1
  have c1 := hF.2.1
  have c2 := hF.2.2.1
  have hone := one_b hn c2 x1
  unfold f_X8_asks f_X9_asks
  rw [dx_0_0 hX, Option.bind_some]
  rcases bel_c x1 (n := n) (by omega) with b1 | ⟨c, hc, rfl⟩
  · rw [car_n hX hn c1 x1 b1, if_pos (hone.mpr b1)]
    exact ⟨_, _, _, rfl, rfl, h0⟩
  rw [car_s hX hn c1 hc, Option.bind_some, if_neg (fun z => bel_n hc (by omega) (hone.mp z))]
  simp only [oc_]
  rw [if_pos (hX.car (by omega)).2]
  rcases bel_c x2 (n := 36) (by omega) with b | ⟨on, hon, rfl⟩
  · rw [if_pos (show f_X8_isBelow x2 36 = 0 from b), if_pos ((isC_c _).mpr b)]
    exact ⟨_, _, _, rfl, rfl, h0⟩
  rw [if_neg (show ¬ f_X8_isBelow (nI on) 36 = 0 from bel_n (n := 36) hon (by omega)), if_neg (fun z => bel_n hon (by omega) ((isC_c _).mp z))]
  rcases bel_c x3 (n := 8) (by omega) with b | ⟨w, hw, rfl⟩
  · rw [if_pos (show f_X8_isBelow x3 8 = 0 from b), if_pos ((isW_c _).mpr b)]
    exact ⟨_, _, _, rfl, rfl, h0⟩
  rw [if_neg (show ¬ f_X8_isBelow (nI w) 8 = 0 from bel_n (n := 8) hw (by omega)), if_neg (fun z => bel_n hw (by omega) ((isW_c _).mp z))]
  have i4 := in_c (x := x4) (n := 1) (1 : Int64) rfl (by omega)
  rcases bel_c x4 (n := 2) (by omega) with b | ⟨q, hq, rfl⟩
  · rw [if_pos (show f_X8_isBelow x4 2 = 0 from b), if_pos (i4.mpr b)]
    exact ⟨_, _, _, rfl, rfl, h0⟩
  rw [if_neg (show ¬ f_X8_isBelow (nI q) 2 = 0 from bel_n (n := 2) hq (by omega)), if_neg (fun z => bel_n hq (by omega) (i4.mp z))]
  obtain ⟨kd, nu, on0, fl, ni, m, ce, cs, cr, σ1, p, -, -, -, hC, e1, hTh, hsc⟩ := think_ok h0 hT hF hc
  rw [e1, Option.bind_some]
  have d7 : dr_ σ1 6 (sr_ σ1 0 7) = some 21 := dx_0_7 hsc.1
  by_cases z : q = 0
  · subst z
    rw [if_pos (show nI 0 = 0 from rfl), if_pos (show nI 0 = 0 from rfl), d7, Option.bind_some]
    obtain ⟨σ2, f1, f2⟩ := th_east hTh p hon hw
    obtain ⟨σ3, g1, g2⟩ := cm_east hC p hon hw
    have f1' : f_X6_east FU_ σ1 21 (nI on) (nI w) = some (ea_ kd nu fl ni ce on w, σ2) := f1
    have g1' : f_X9_eastOf FU_ σm 0 (nI c) (nI on) (nI w) = some (ea_ kd nu fl ni ce on w, σ3) := g1
    rw [f1', g1']
    exact ⟨_, _, _, rfl, rfl, h0.sc (hsc.trans f2.sc) g2.sc⟩
  · have hz : ¬ nI q = 0 := nI_ne0 (by omega) (by omega)
    rw [if_neg hz, if_neg hz, d7, Option.bind_some]
    obtain ⟨σ2, f1, f2⟩ := th_south hTh p hon hw
    obtain ⟨σ3, g1, g2⟩ := cm_south hC p hon hw
    have f1' : f_X6_south FU_ σ1 21 (nI on) (nI w) = some (so_ kd nu fl ni cs on w, σ2) := f1
    have g1' : f_X9_southOf FU_ σm 0 (nI c) (nI on) (nI w) = some (so_ kd nu fl ni cs on w, σ3) := g1
    rw [f1', g1']
    exact ⟨_, _, _, rfl, rfl, h0.sc (hsc.trans f2.sc) g2.sc⟩
/-- how many lie near -/
def nr_ (on : Nat → Nat) (c n : Nat) : Nat → Nat
  | 0 => 0
  | i + 1 => nr_ on c n i + (if i ≠ c ∧ i < n ∧ ¬ 1 < f_X1_distance (nI (on c)) (nI (on i)) then 1 else 0)
theorem nr_n (on : Nat → Nat) (c n : Nat) : ∀ k, nr_ on c n (n + k) = nr_ on c n n := by
  intro k
  induction k with
  | zero => rfl
  | succ k ih =>
    show nr_ on c n (n + k) + _ = _
    rw [ih, if_neg (fun z => absurd z.2.1 (Nat.not_lt.mpr (Nat.le_add_right n k)))]
    rfl
theorem dis_c : ∀ a, a < 36 → ∀ b, b < 36 → ((1 < f_X1_distance (nI a) (nI b)) ↔ (2 ≤ f_X9_steps (nI b) (nI a))) := by decide +kernel
theorem near_x {σ : St_} (hX : ShX_ σ) {n c : Nat} (hn : n ≤ 4) (e1 : si_ σ 1 1 = nI n) (hc : c < n) (on : Nat → Nat) (ho : ∀ i, i < n → si_ σ (i + 3) 2 = nI (on i)) : ∀ (k i g : Nat), i + k = 4 → k < g → f_X1_nearTo_11 5000 σ g 1 (nI c) (some (c + 3)) (nI (nr_ on c n i)) (nI i) = some (nI (nr_ on c n 4)) := by
  intro k
  induction k with
  | zero =>
    intro i g h1 h2
    obtain ⟨g, rfl⟩ : ∃ g', g = g' + 1 := ⟨g - 1, by omega⟩
    have : i = 4 := by omega
    subst this
    show ((dr_ σ 13 (sr_ σ 1 0)).bind fun b1 => if (nI (ln_ σ b1)) ≤ nI 4 then _ else _) = _
    rw [dx_1_0 hX, Option.bind_some, lx_2 hX, if_pos (by decide)]
  | succ k ih =>
    intro i g h1 h2
    obtain ⟨g, rfl⟩ : ∃ g', g = g' + 1 := ⟨g - 1, by omega⟩
    show ((dr_ σ 13 (sr_ σ 1 0)).bind fun b1 => if (nI (ln_ σ b1)) ≤ nI i then some (nI (nr_ on c n i)) else (f_X1_carpetAt σ 1 (nI i)).bind fun q3 => if nI i = nI c then (f_X1_nearTo_11 5000 σ g) 1 (nI c) (some (c + 3)) (nI (nr_ on c n i)) (nI i + (1 : Int32)) else if kd_ σ (c + 3) = 0 then oc_ q3 ((f_X1_nearTo_11 5000 σ g) 1 (nI c) (some (c + 3)) (nI (nr_ on c n i)) (nI i + (1 : Int32))) (fun b6 => if kd_ σ b6 = 0 then if (1 : Int32) < (f_X1_distance (si_ σ (c + 3) 2) (si_ σ b6 2)) then (f_X1_nearTo_11 5000 σ g) 1 (nI c) (some (c + 3)) (nI (nr_ on c n i) + (0 : Int32)) (nI i + (1 : Int32)) else (f_X1_nearTo_11 5000 σ g) 1 (nI c) (some (c + 3)) (nI (nr_ on c n i) + (1 : Int32)) (nI i + (1 : Int32)) else none) else none) = _
    rw [dx_1_0 hX, Option.bind_some, lx_2 hX, if_neg (nI_ge (by omega) (by omega)), nI_1]
    have go := ih (i + 1) g (by omega) (by omega)
    have e0 : ∀ x, x = 0 → nr_ on c n (i + 1) = nr_ on c n i + x → nr_ on c n (i + 1) = nr_ on c n i := fun x hx e => by rw [e, hx]; rfl
    by_cases hi : i < n
    · rw [car_s hX hn e1 hi, Option.bind_some]
      by_cases hic : i = c
      · rw [if_pos (by rw [hic])]
        have : nr_ on c n (i + 1) = nr_ on c n i := by show nr_ on c n i + _ = _; rw [if_neg (fun z => z.1 hic)]; rfl
        rw [this] at go
        exact go
      · rw [if_neg (fun z => hic ((nI_eq (by omega) (by omega)).mp z)), if_pos (hX.car (by omega)).2]
        show (if kd_ σ (i + 3) = 0 then _ else _) = _
        rw [if_pos (hX.car (by omega)).2, ho c hc, ho i hi]
        by_cases d : 1 < f_X1_distance (nI (on c)) (nI (on i))
        · rw [if_pos d, Int32.add_zero]
          have : nr_ on c n (i + 1) = nr_ on c n i := by show nr_ on c n i + _ = _; rw [if_neg (fun z => z.2.2 d)]; rfl
          rw [this] at go
          exact go
        · rw [if_neg d, nI_1]
          have : nr_ on c n (i + 1) = nr_ on c n i + 1 := by show nr_ on c n i + _ = _; rw [if_pos ⟨hic, hi, d⟩]
          rw [this] at go
          exact go
    · rw [car_n hX hn e1 (nI i) (bel_0.mpr (Or.inr (nI_le (by omega) (by omega)))), Option.bind_some, if_neg (fun z => by have := (nI_eq (by omega) (by omega)).mp z; omega), if_pos (hX.car (by omega)).2]
      have : nr_ on c n (i + 1) = nr_ on c n i := by show nr_ on c n i + _ = _; rw [if_neg (fun z => hi z.2.1)]; rfl
      rw [this] at go
      exact go
theorem near_m {σ : St_} (hM : ShM_ σ) {n c : Nat} (hn : n ≤ 4) (e1 : si_ σ 0 11 = nI n) (hc : c < n) (on : Nat → Nat) (ho : ∀ i, i < n → on i < 36 ∧ si_ σ 6 (3 * i + 1) = nI (on i)) (k1 : Int32) : ∀ (k i g : Nat), i + k = n → k < g → f_X9_highOf_19 5000 g σ 0 (nI c) k1 (nI (nr_ on c n i)) (nI i) = f_X9_highOf_19 5000 1 σ 0 (nI c) k1 (nI (nr_ on c n n)) (nI n) := by
  intro k
  induction k with
  | zero =>
    intro i g h1 h2
    obtain ⟨g, rfl⟩ : ∃ g', g = g' + 1 := ⟨g - 1, by omega⟩
    have : i = n := by omega
    subst this
    show (if si_ σ 0 11 ≤ nI i then _ else _) = (if si_ σ 0 11 ≤ nI i then _ else _)
    rw [e1, if_pos (nI_le (Nat.le_refl _) (by omega)), if_pos (nI_le (Nat.le_refl _) (by omega))]
  | succ k ih =>
    intro i g h1 h2
    obtain ⟨g, rfl⟩ : ∃ g', g = g' + 1 := ⟨g - 1, by omega⟩
    have go := ih (i + 1) g (by omega) (by omega)
    have hi : i < n := by omega
    show (if si_ σ 0 11 ≤ nI i then _ else if nI i = nI c then (f_X9_highOf_19 5000 g) σ 0 (nI c) k1 (nI (nr_ on c n i) + (0 : Int32)) (nI i + (1 : Int32)) else (dr_ σ 10 (sr_ σ 0 10)).bind fun b9 => (ix_ (((3 : Int32) * nI i) + (1 : Int32)) (ln_ σ b9)).bind fun j10 => (ix_ (((3 : Int32) * nI c) + (1 : Int32)) (ln_ σ b9)).bind fun j11 => if (2 : Int32) ≤ (f_X9_steps (si_ σ b9 j10) (si_ σ b9 j11)) then (f_X9_highOf_19 5000 g) σ 0 (nI c) k1 (nI (nr_ on c n i) + (0 : Int32)) (nI i + (1 : Int32)) else (f_X9_highOf_19 5000 g) σ 0 (nI c) k1 (nI (nr_ on c n i) + (1 : Int32)) (nI i + (1 : Int32))) = _
    rw [e1, if_neg (nI_ge hi (by omega)), show nI i + 1 = nI (i + 1) from nI_1 i, Int32.add_zero]
    by_cases hic : i = c
    · rw [if_pos (by rw [hic])]
      have : nr_ on c n (i + 1) = nr_ on c n i := by show nr_ on c n i + _ = _; rw [if_neg (fun z => z.1 hic)]; rfl
      rw [this] at go
      exact go
    · rw [if_neg (fun z => hic ((nI_eq (by omega) (by omega)).mp z)), dm_0_10 hM, Option.bind_some, lm_6 hM, ix_r1 i (by omega), Option.bind_some, ix_r1 c (by omega), Option.bind_some, (ho i hi).2, (ho c hc).2]
      have dc := dis_c (on c) (ho c hc).1 (on i) (ho i hi).1
      by_cases d : 1 < f_X1_distance (nI (on c)) (nI (on i))
      · rw [if_pos (dc.mp d)]
        have : nr_ on c n (i + 1) = nr_ on c n i := by show nr_ on c n i + _ = _; rw [if_neg (fun z => z.2.2 d)]; rfl
        rw [this] at go
        exact go
      · rw [if_neg (fun z => d (dc.mpr z)), nI_1]
        have : nr_ on c n (i + 1) = nr_ on c n i + 1 := by show nr_ on c n i + _ = _; rw [if_pos ⟨hic, hi, d⟩]
        rw [this] at go
        exact go
/-- how high a carpet rises, both -/
theorem high_ok {σx σm : St_} (h : Rel_ σx σm) {tc n : Nat} (hT : RT_ σx σm tc) (hF : RF_ σx σm tc n) {c : Nat} (hc : c < n) : ∃ (v : Int32) (σx' σm' : St_), f_X8_heightOf 5000 σx 0 (nI c) = some (v, σx') ∧ f_X9_highOf 5000 σm 0 (nI c) = some (v, σm') ∧ ScX_ σx σx' ∧ ScM_ σm σm' := by
  have hX := h.1
  have hM := h.2.1
  have hn := hF.1
  have c1 := hF.2.1
  have c2 := hF.2.2.1
  obtain ⟨kd, nu, on0, fl, ni, m, ce, cs, cr, σ1, p, hon, xo, mo, hC, e1, hTh, hsc⟩ := think_ok h hT hF hc
  let on : Nat → Nat := fun i => (si_ σm 6 (3 * i + 1)).toNatClampNeg
  have ho : ∀ i, i < n → on i < 36 ∧ si_ σm 6 (3 * i + 1) = nI (on i) ∧ si_ σx (i + 3) 2 = nI (on i) := fun i hi => by
    obtain ⟨kd, nu, on', fl, a1, a2, a3, a4, b1, b2, b3, b4, b5, b6, b7, b8⟩ := hF.2.2.2.2.2.2 i hi
    have : on i = on' := by
      show (si_ σm 6 (3 * i + 1)).toNatClampNeg = on'
      rw [b7, nI_clamp (by omega)]
    rw [this]
    exact ⟨a3, b7, b3⟩
  have hoc : on c = on0 := by
    show (si_ σm 6 (3 * c + 1)).toNatClampNeg = on0
    rw [mo, nI_clamp (by omega)]
  have fr1 := hsc.2
  have near1 : f_X1_nearTo 5000 σ1 1 (nI c) = some (nI (nr_ on c n n)) := by
    unfold f_X1_nearTo
    have q1 : si_ σ1 1 1 = nI n := (fr1.i (by simp [xZ_])).trans c1
    rw [car_s hsc.1 hn q1 hc, Option.bind_some]
    have := near_x hsc.1 hn q1 hc on (fun i hi => (fr1.i (by simp only [xZ_]; omega)).trans (ho i hi).2.2) 4 0 5000 (by omega) (by omega)
    rw [show nr_ on c n 4 = nr_ on c n n by rw [show (4 : Nat) = n + (4 - n) by omega]; exact nr_n on c n (4 - n)] at this
    exact this
  obtain ⟨σ2, f1, f2⟩ := th_height hTh p hon (nI (nr_ on c n n))
  have eX : f_X8_heightOf 5000 σx 0 (nI c) = some (he_ kd nu fl ni cr on0 (nI (nr_ on c n n)), σ2) := by
    unfold f_X8_heightOf
    rw [dx_0_0 hX, Option.bind_some, car_s hX hn c1 hc, Option.bind_some]
    simp only [oc_]
    rw [if_pos (hX.car (by omega)).2, e1, Option.bind_some, dx_0_7 hsc.1, Option.bind_some, dx_0_0 hsc.1, Option.bind_some, near1, Option.bind_some, show si_ σ1 (c + 3) 2 = nI on0 from (fr1.i (by simp only [xZ_]; omega)).trans xo, f1, Option.bind_some]
  obtain ⟨p1, p2, p3, p4, p5, p6, p7, p8⟩ := p
  obtain ⟨σ3, g1, g2⟩ := says_ok hC ⟨p1, p2, p3, p4, p5, p6, p7, p8⟩ hon (w := 0) 2 (by omega)
  have g1' : f_X9_says 5000 σm 0 2 (nI c) (nI on0) 0 = some (wi_ (va_l (nv6_ nu fl ni on0 0) cr) 0 99, σ3) := g1
  have hc4 : c < 4 := by omega
  have k5 : si_ σm 5 c = nI kd := hC.2.2.1
  by_cases k4 : kd = 4
  · subst k4
    refine ⟨_, σ2, σm, eX, ?_, hsc.trans f2.sc, ScM_.refl hM⟩
    unfold f_X9_highOf
    rw [dm_0_9 hM, Option.bind_some, lm_5 hM, ix_ok hc4 (by omega), Option.bind_some, k5, if_pos (show nI 4 = 4 from rfl)]
    rfl
  · refine ⟨_, σ2, σ3, eX, ?_, hsc.trans f2.sc, g2.sc⟩
    unfold f_X9_highOf
    rw [dm_0_9 hM, Option.bind_some, lm_5 hM, ix_ok hc4 (by omega), Option.bind_some, k5, if_neg (show ¬ nI kd = 4 from nI_ne (b := 4) (by omega) (by omega) k4)]
    have := near_m hM hn c2 hc on (fun i hi => ⟨(ho i hi).1, (ho i hi).2.1⟩) (nI kd) n 0 5000 (by omega) (by omega)
    have st : f_X9_highOf_19 5000 5000 σm 0 (nI c) (nI kd) 0 0 = f_X9_highOf_19 5000 1 σm 0 (nI c) (nI kd) (nI (nr_ on c n n)) (nI n) := this
    rw [st]
    show (if si_ σm 0 11 ≤ nI n then (dr_ σm 10 (sr_ σm 0 10)).bind fun b2 => (ix_ (((3 : Int32) * nI c) + (1 : Int32)) (ln_ σm b2)).bind fun j3 => (f_X9_says 5000 σm 0 (2 : Int32) (nI c) (si_ σm b2 j3) (0 : Int32)).bind fun q4 => if nI kd = (2 : Int32) then f_X9_highOf_139 5000 q4.2 q4.1 else if nI kd = (1 : Int32) then f_X9_highOf_139 5000 q4.2 ((q4.1 + nI (nr_ on c n n)) + (2 : Int32)) else if nI kd = (3 : Int32) then f_X9_highOf_139 5000 q4.2 ((2 : Int32) * ((q4.1 + nI (nr_ on c n n)) + (2 : Int32))) else f_X9_highOf_139 5000 q4.2 (q4.1 + nI (nr_ on c n n)) else _) = _
    rw [c2, if_pos (nI_le (Nat.le_refl _) (by omega)), dm_0_10 hM, Option.bind_some, lm_6 hM, ix_r1 c hc4, Option.bind_some, mo, g1', Option.bind_some]
    unfold he_ hk_ f_X9_highOf_139
    have q : kd = 0 ∨ kd = 1 ∨ kd = 2 ∨ kd = 3 ∨ kd = 5 := by omega
    rcases q with rfl | rfl | rfl | rfl | rfl <;> rfl
