/-! THE REFERENCE'S READER: tests, failing, loops -/
theorem wt_22 (c : Nat → Nat) (i e : Nat) : wt_ c i e < 22 ∧ 0 < wt_ c i e ∧ ¬ wt_ c i e = 2 := by
  unfold wt_
  repeat' split
  all_goals decide
theorem iss_40 : ∀ x, x < 256 → isS_ x = true → 40 ≤ x := by decide +kernel
theorem cod_r : ∀ k, k < 13 → 1 ≤ k → 4 ≤ cod_ k ∧ cod_ k < 22 := by decide +kernel
theorem isw_t {σ0 : St_} {c : Nat → Nat} {n t : Nat} (hB : Bm_ σ0 c n t) {d : Nat} {σ : St_} {ts : List Tk_} (hN : Nx_ σ0 c n σ d ts) (k : Nat) (h1 : 1 ≤ k) (h13 : k < 13) (x0 x1 x2 x3 x4 x5 x6 x7 : Nat) (hx : x0 < 256 ∧ x1 < 256 ∧ x2 < 256 ∧ x3 < 256 ∧ x4 < 256 ∧ x5 < 256 ∧ x6 < 256 ∧ x7 < 256) (hw : ∀ j, j < 8 → [x0, x1, x2, x3, x4, x5, x6, x7].getD j 0 = (ws_ k).getD j 0) :
    f_X9_isWord_ σ 0 (nI x0) (nI x1) (nI x2) (nI x3) (nI x4) (nI x5) (nI x6) (nI x7) = some (if hd_ ts = cod_ k then 1 else 0) := by
  obtain ⟨-, h, hH, h2⟩ := hN
  have hc := cod_r k h13 h1
  have no : ∀ v : Int32, si_ σ 0 21 = v → ¬ v = 1 → f_X9_isWord_ σ 0 (nI x0) (nI x1) (nI x2) (nI x3) (nI x4) (nI x5) (nI x6) (nI x7) = some 0 := fun v e ne => by
    unfold f_X9_isWord_ f_X9_isWord__112
    rw [hH.2.2.2.2, if_pos rfl, e, if_neg ne]
  rcases h2 with ⟨rfl, e21, -⟩ | ⟨t, pl, v, r, rfl, e22, hp, h3⟩
  · rw [no 0 e21 (by decide), if_neg]
    show ¬ 0 = cod_ k
    omega
  · show _ = some (if t = cod_ k then 1 else 0)
    rcases h3 with ⟨e21, hlt, ht, hl, -⟩ | ⟨e21, ht, -⟩ | ⟨e21, ht, ht2, -⟩ | ⟨e21, ht⟩
    · have pw := pad_w h1 h13 hlt hl
      have pw2 : (h ≤ pl + 8 ∧ ∀ k, k < 8 → (if pl + k < h then c (pl + k) else 0) = [x0, x1, x2, x3, x4, x5, x6, x7].getD k 0) ↔ sp1_ c pl h k = true := by
        rw [← pw]
        constructor
        · rintro ⟨a, b⟩; exact ⟨a, fun j hj => (b j hj).trans (hw j hj)⟩
        · rintro ⟨a, b⟩; exact ⟨a, fun j hj => (b j hj).trans (hw j hj).symm⟩
      rcases isw_8 hB hH e21 e22 hp x0 x1 x2 x3 x4 x5 x6 x7 hx.1 hx.2.1 hx.2.2.1 hx.2.2.2.1 hx.2.2.2.2.1 hx.2.2.2.2.2.1 hx.2.2.2.2.2.2.1 hx.2.2.2.2.2.2.2 with ⟨e, z⟩ | ⟨e, z⟩
      · rw [e, if_pos (by rw [ht]; exact (wt_sp c pl h k h1 h13).mpr (pw2.mp z))]
      · rw [e, if_neg (by rw [ht]; exact fun w => z (pw2.mpr ((wt_sp c pl h k h1 h13).mp w)))]
    · rw [no 2 e21 (by decide), if_neg (by omega)]
    · rw [no 3 e21 (by decide), if_neg (by have := iss_40 _ ht2 ht; omega)]
    · rw [no 4 e21 (by decide), if_neg (by omega)]
theorem isg_t {σ0 : St_} {c : Nat → Nat} {n d : Nat} {σ : St_} {ts : List Tk_} (hN : Nx_ σ0 c n σ d ts) (w : Nat) (hw : w < 256) (hs : isS_ w = true) : f_X9_isSign σ 0 (nI w) = if hd_ ts = w then 1 else 0 := by
  obtain ⟨-, h, hH, h2⟩ := hN
  have h40 := iss_40 w hw hs
  unfold f_X9_isSign
  rw [hH.2.2.2.2, if_pos rfl]
  rcases h2 with ⟨rfl, e21, -⟩ | ⟨t, pl, v, r, rfl, e22, hp, h3⟩
  · rw [e21, if_neg (by decide), if_neg]
    show ¬ 0 = w
    omega
  · show _ = if t = w then 1 else 0
    rcases h3 with ⟨e21, hlt, ht, hl, -⟩ | ⟨e21, ht, -⟩ | ⟨e21, ht, ht2, el, -⟩ | ⟨e21, ht⟩
    · rw [e21, if_neg (by decide), if_neg (by have := (wt_22 c pl h).1; omega)]
    · rw [e21, if_neg (by decide), if_neg (by omega)]
    · rw [e21, if_pos rfl, el, nI_l (by omega)]
      have : lg_cmp (lN t) (lN w) = 0 ↔ t = w := by
        unfold lg_cmp
        by_cases a : lN w < lN t
        · rw [if_pos a]
          have : w < t := (lN_lt (by omega) (by omega)).mp a
          exact ⟨fun z => absurd z (by decide), fun z => by omega⟩
        · rw [if_neg a]
          by_cases b : lN t = lN w
          · rw [if_pos b]
            exact ⟨fun _ => (lN_eq (by omega) (by omega)).mp b, fun _ => rfl⟩
          · rw [if_neg b]
            exact ⟨fun z => absurd z (by decide), fun z => absurd (by rw [z]) b⟩
      by_cases b : t = w
      · rw [if_pos b, if_pos (this.mpr b)]
      · rw [if_neg b, if_neg (fun z => b (this.mp z))]
    · rw [e21, if_neg (by decide), if_neg (by omega)]
/-- something is wrong, there -/
def Bd_ (σ0 σ : St_) (pl : Nat) : Prop := Fm_ σ0 σ ∧ si_ σ 0 25 = 1 ∧ si_ σ 0 26 = nI pl
theorem nx_fail {σ0 : St_} {c : Nat → Nat} {n d : Nat} {σ : St_} {ts : List Tk_} (hN : Nx_ σ0 c n σ d ts) : Bd_ σ0 (f_X9_fail σ 0) (pl_ n ts) := by
  obtain ⟨-, h, hH, h2⟩ := hN
  unfold f_X9_fail
  rw [if_pos hH.2.2.2.2]
  refine ⟨(hH.1.ui _ (by omega)).ui _ (by omega), rfl, ?_⟩
  rw [g_si_ui, if_pos rfl, if_pos rfl]
  show si_ σ 0 22 = _
  rcases h2 with ⟨rfl, e21, e22⟩ | ⟨t, pl, v, r, rfl, e22, hp, h3⟩
  · exact e22
  · exact e22
theorem bd_fail {σ0 σ : St_} {pl : Nat} (h : Bd_ σ0 σ pl) : f_X9_fail σ 0 = σ := by
  unfold f_X9_fail
  rw [h.2.1, if_neg (by decide)]
theorem bd_sg {σ0 σ : St_} {pl : Nat} (h : Bd_ σ0 σ pl) (x : Int32) : f_X9_isSign σ 0 x = 0 := by
  unfold f_X9_isSign
  rw [h.2.1, if_neg (by decide)]
theorem bd_w {σ0 σ : St_} {pl : Nat} (h : Bd_ σ0 σ pl) (x0 x1 x2 x3 x4 x5 x6 x7 : Int32) : f_X9_isWord_ σ 0 x0 x1 x2 x3 x4 x5 x6 x7 = some 0 := by
  unfold f_X9_isWord_ f_X9_isWord__112
  rw [h.2.1, if_neg (by decide)]
theorem bd_cl {σ0 σ : St_} {pl : Nat} (h : Bd_ σ0 σ pl) (v : Int32) : Bd_ σ0 (ui_ σ 0 24 v) pl := ⟨h.1.ui _ (by omega), h.2.1, h.2.2⟩
/-- one less is open -/
theorem nx_cl {σ0 : St_} {c : Nat → Nat} {n d : Nat} {σ : St_} {ts : List Tk_} (hN : Nx_ σ0 c n σ (d + 1) ts) : Nx_ σ0 c n (ui_ σ 0 24 (si_ σ 0 24 - 1)) d ts := by
  obtain ⟨ht, h, hH, h2⟩ := hN
  refine ⟨ht, h, ⟨hH.1.ui _ (by omega), hH.2.1, hH.2.2.1, ?_, hH.2.2.2.2⟩, h2⟩
  rw [g_si_ui, if_pos rfl, if_pos rfl, hH.2.2.2.1, nI_pred]
theorem nx_bad {σ0 : St_} {c : Nat → Nat} {n d : Nat} {σ : St_} {ts : List Tk_} (hN : Nx_ σ0 c n σ d ts) : si_ σ 0 25 = 0 := by
  obtain ⟨-, h, hH, -⟩ := hN
  exact hH.2.2.2.2
/-- one more is opened -/
theorem nx_op {σ0 : St_} {c : Nat → Nat} {n t : Nat} (hB : Bm_ σ0 c n t) {d : Nat} {σ : St_} {ts : List Tk_} (hN : Nx_ σ0 c n σ d ts) (hd : d < 5) (h1 : hd_ ts ≠ 1) (h0 : ts ≠ []) : ∃ σ', f_X9_opens 5000 σ 0 = some (1, σ') ∧ Nx_ σ0 c n σ' (d + 1) ts.tail := by
  have hN0 := hN
  obtain ⟨ht, h, hH, h2⟩ := hN
  have hN1 : Nx_ σ0 c n (ui_ σ 0 24 (nI (d + 1))) (d + 1) ts := ⟨ht, h, ⟨hH.1.ui _ (by omega), hH.2.1, hH.2.2.1, rfl, hH.2.2.2.2⟩, h2⟩
  obtain ⟨σ', e1, e2⟩ := nx_go hB hN1 h1 h0
  refine ⟨σ', ?_, e2⟩
  unfold f_X9_opens
  rw [hH.2.2.2.1, if_neg (show ¬ nI d = 5 from nI_ne (b := 5) (by omega) (by omega) (by omega)), nI_1, e1, Option.bind_some]
theorem nx_no {σ0 : St_} {c : Nat → Nat} {n : Nat} {σ : St_} {ts : List Tk_} (hN : Nx_ σ0 c n σ 5 ts) : f_X9_opens 5000 σ 0 = some (0, f_X9_fail σ 0) := by
  obtain ⟨ht, h, hH, h2⟩ := hN
  unfold f_X9_opens
  rw [hH.2.2.2.1, if_pos (show nI 5 = 5 from rfl)]
def en0_ (σ0 : St_) (k : Nat) : Int32 := if k < 6 then si_ σ0 0 (12 + k) else 0
theorem isw_l {σ0 : St_} {c : Nat → Nat} {n t : Nat} (hB : Bm_ σ0 c n t) {d : Nat} {σ : St_} {ts : List Tk_} (hN : Nx_ σ0 c n σ d ts) :
    f_X9_isWord_ σ 0 119 111 114 100 0 0 0 0 = some (if hd_ ts = 16 then 1 else 0) ∧ f_X9_isWord_ σ 0 110 117 109 98 101 114 0 0 = some (if hd_ ts = 17 then 1 else 0) ∧ f_X9_isWord_ σ 0 99 111 108 117 109 110 0 0 = some (if hd_ ts = 18 then 1 else 0) ∧ f_X9_isWord_ σ 0 114 111 119 0 0 0 0 0 = some (if hd_ ts = 19 then 1 else 0) ∧ f_X9_isWord_ σ 0 110 105 103 104 116 0 0 0 = some (if hd_ ts = 20 then 1 else 0) ∧ f_X9_isWord_ σ 0 102 108 111 119 110 0 0 0 = some (if hd_ ts = 21 then 1 else 0) ∧
    f_X9_isWord_ σ 0 101 97 115 116 115 0 0 0 = some (if hd_ ts = 4 then 1 else 0) ∧ f_X9_isWord_ σ 0 115 111 117 116 104 115 0 0 = some (if hd_ ts = 5 then 1 else 0) ∧ f_X9_isWord_ σ 0 114 105 115 101 115 0 0 0 = some (if hd_ ts = 6 then 1 else 0) ∧ f_X9_isWord_ σ 0 111 114 0 0 0 0 0 0 = some (if hd_ ts = 7 then 1 else 0) ∧ f_X9_isWord_ σ 0 97 110 100 0 0 0 0 0 = some (if hd_ ts = 8 then 1 else 0) ∧ f_X9_isWord_ σ 0 110 111 116 0 0 0 0 0 = some (if hd_ ts = 9 then 1 else 0) :=
  ⟨isw_t hB hN 1 (by omega) (by omega) 119 111 114 100 0 0 0 0 (by decide) (by decide +kernel), isw_t hB hN 2 (by omega) (by omega) 110 117 109 98 101 114 0 0 (by decide) (by decide +kernel), isw_t hB hN 3 (by omega) (by omega) 99 111 108 117 109 110 0 0 (by decide) (by decide +kernel), isw_t hB hN 4 (by omega) (by omega) 114 111 119 0 0 0 0 0 (by decide) (by decide +kernel), isw_t hB hN 5 (by omega) (by omega) 110 105 103 104 116 0 0 0 (by decide) (by decide +kernel), isw_t hB hN 6 (by omega) (by omega) 102 108 111 119 110 0 0 0 (by decide) (by decide +kernel),
   isw_t hB hN 7 (by omega) (by omega) 101 97 115 116 115 0 0 0 (by decide) (by decide +kernel), isw_t hB hN 8 (by omega) (by omega) 115 111 117 116 104 115 0 0 (by decide) (by decide +kernel), isw_t hB hN 9 (by omega) (by omega) 114 105 115 101 115 0 0 0 (by decide) (by decide +kernel), isw_t hB hN 10 (by omega) (by omega) 111 114 0 0 0 0 0 0 (by decide) (by decide +kernel), isw_t hB hN 11 (by omega) (by omega) 97 110 100 0 0 0 0 0 (by decide) (by decide +kernel), isw_t hB hN 12 (by omega) (by omega) 110 111 116 0 0 0 0 0 (by decide) (by decide +kernel)⟩
/-- a name -/
theorem nm_ok {σ0 : St_} {c : Nat → Nat} {n t : Nat} (hB : Bm_ σ0 c n t) {d : Nat} {σ : St_} {ts : List Tk_} (hN : Nx_ σ0 c n σ d ts) : f_X9_name σ 0 = if 16 ≤ hd_ ts ∧ hd_ ts < 22 then some (en0_ σ0 (hd_ ts - 16), σ) else some (0, f_X9_fail σ 0) := by
  obtain ⟨w1, w2, w3, w4, w5, w6, -⟩ := isw_l hB hN
  have hf : ∀ k, 12 ≤ k → k < 18 → si_ σ 0 k = si_ σ0 0 k := fun k h1 h2 => by
    obtain ⟨-, h, hH, -⟩ := hN
    exact hH.1.2.i (by simp [mR_]; omega)
  unfold f_X9_name
  rw [w1, w2, w3, w4, w5, w6]
  simp only [Option.bind_some, ite01]
  by_cases a : 16 ≤ hd_ ts ∧ hd_ ts < 22
  · rw [if_pos a]
    have q : hd_ ts = 16 ∨ hd_ ts = 17 ∨ hd_ ts = 18 ∨ hd_ ts = 19 ∨ hd_ ts = 20 ∨ hd_ ts = 21 := by omega
    rcases q with q | q | q | q | q | q <;> simp [q, en0_, hf]
  · rw [if_neg a]
    simp [show ¬ hd_ ts = 16 by omega, show ¬ hd_ ts = 17 by omega, show ¬ hd_ ts = 18 by omega, show ¬ hd_ ts = 19 by omega, show ¬ hd_ ts = 20 by omega, show ¬ hd_ ts = 21 by omega]
abbrev Gm_ : Type := St_ → Nat → Option (Int32 × St_)
/-- a reading method there is a parser whose code is worked out -/
def MC_ (σ0 : St_) (c : Nat → Nat) (n : Nat) (G : Gm_) (K : Nat) (P : List Tk_ → PR_) : Prop := ∀ (σ : St_) (ts : List Tk_), Nx_ σ0 c n σ K ts →
  (∀ cd r, P ts = (some cd, r) → ∃ σ', G σ 0 = some (va_l (en0_ σ0) cd, σ') ∧ Nx_ σ0 c n σ' K r) ∧ (∀ r, P ts = (none, r) → ∃ v σ', G σ 0 = some (v, σ') ∧ Bd_ σ0 σ' (pl_ n r))
theorem ml_loop {σ0 : St_} {c : Nat → Nat} {n t : Nat} (hB : Bm_ σ0 c n t) {F : Gm_} {K : Nat} {P : List Tk_ → PR_} (hF : MC_ σ0 c n F K P) (hP : Wp_ P) {sg : Nat → Bool} {op : Nat → Nat} (hs0 : sg 0 = false) (hs1 : sg 1 = false) (ho : ∀ t, 4 ≤ op t ∧ op t ≤ 10) (Lf : Nat → St_ → Nat → Int32 → Option (Int32 × St_))
    (hL1 : ∀ g σ ts v, Nx_ σ0 c n σ K ts → sg (hd_ ts) = false → Lf (g + 1) σ 0 v = some (v, σ))
    (hL2 : ∀ g σ ts v, Nx_ σ0 c n σ K ts → sg (hd_ ts) = true → Lf (g + 1) σ 0 v = (f_X9_next 5000 σ 0).bind fun q4 => (F q4 0).bind fun q5 => Lf g q5.2 0 (u2_ (op (hd_ ts)) v q5.1))
    (hL3 : ∀ g σ pl v, Bd_ σ0 σ pl → Lf (g + 1) σ 0 v = some (v, σ)) :
    ∀ (k g : Nat) (σ : St_) (ts : List Tk_) (acc : Cd_) (m : Nat), ts.length ≤ k → ts.length + 1 < g → Nx_ σ0 c n σ K ts → Gd_ acc m →
      (∀ cd r, pLoop_ sg op P k acc ts = (some cd, r) → ∃ σ', Lf g σ 0 (va_l (en0_ σ0) acc) = some (va_l (en0_ σ0) cd, σ') ∧ Nx_ σ0 c n σ' K r) ∧ (∀ r, pLoop_ sg op P k acc ts = (none, r) → ∃ v σ', Lf g σ 0 (va_l (en0_ σ0) acc) = some (v, σ') ∧ Bd_ σ0 σ' (pl_ n r)) := by
  intro k
  induction k with
  | zero =>
    intro g σ ts acc m h1 h2 hN hg
    obtain ⟨g, rfl⟩ : ∃ g', g = g' + 1 := ⟨g - 1, by omega⟩
    have : ts = [] := List.length_eq_zero_iff.mp (by omega)
    subst this
    have e := hL1 g σ [] (va_l (en0_ σ0) acc) hN hs0
    exact ⟨fun cd r he => by cases he; exact ⟨σ, e, hN⟩, fun r he => by cases he⟩
  | succ k ih =>
    intro g σ ts acc m h1 h2 hN hg
    obtain ⟨g, rfl⟩ : ∃ g', g = g' + 1 := ⟨g - 1, by omega⟩
    unfold pLoop_
    by_cases a : sg (hd_ ts) = true
    · rw [if_pos a, hL2 g σ ts _ hN a]
      have n1 : hd_ ts ≠ 1 := fun z => by rw [z, hs1] at a; cases a
      have n0 : ts ≠ [] := fun z => by rw [z, show hd_ [] = 0 from rfl, hs0] at a; cases a
      obtain ⟨σ1, e1, e2⟩ := nx_go hB hN n1 n0
      rw [e1, Option.bind_some]
      have hl : ts.tail.length + 1 = ts.length := by
        cases ts with
        | nil => exact absurd rfl n0
        | cons x r => rfl
      obtain ⟨s1, s2⟩ := hF σ1 ts.tail e2
      rcases hq : P ts.tail with ⟨_ | cd, r⟩
      · obtain ⟨v, σ2, f1, f2⟩ := s2 r hq
        rw [f1, Option.bind_some]
        refine ⟨fun cd r he => (by cases he), fun r' he => ?_⟩
        cases he
        obtain ⟨g, rfl⟩ : ∃ g', g = g' + 1 := ⟨g - 1, by omega⟩
        exact ⟨_, σ2, hL3 g σ2 _ _ f2, f2⟩
      · obtain ⟨σ2, f1, f2⟩ := s1 cd r hq
        rw [f1, Option.bind_some]
        obtain ⟨pre, ep, hgd⟩ := hP ts.tail e2.1.1
        rw [hq] at ep hgd
        simp only at ep hgd ⊢
        have hr : r.length ≤ ts.tail.length := by rw [ep]; simp
        have gd2 := gd_bi hg (hgd cd rfl) (op (hd_ ts)) (ho _)
        rw [← vl_bi hg (hgd cd rfl) (op (hd_ ts)) (ho _)]
        exact ih g σ2 r _ _ (by omega) (by omega) f2 gd2
    · rw [if_neg a]
      have e := hL1 g σ ts (va_l (en0_ σ0) acc) hN (by simpa using a)
      exact ⟨fun cd r he => by cases he; exact ⟨σ, e, hN⟩, fun r he => by cases he⟩
theorem ml_many {σ0 : St_} {c : Nat → Nat} {n t : Nat} (hB : Bm_ σ0 c n t) {F : Gm_} {K : Nat} {P : List Tk_ → PR_} (hF : MC_ σ0 c n F K P) (hP : Wp_ P) {sg : Nat → Bool} {op : Nat → Nat} (hs0 : sg 0 = false) (hs1 : sg 1 = false) (ho : ∀ t, 4 ≤ op t ∧ op t ≤ 10) (Lf : Nat → St_ → Nat → Int32 → Option (Int32 × St_))
    (hL1 : ∀ g σ ts v, Nx_ σ0 c n σ K ts → sg (hd_ ts) = false → Lf (g + 1) σ 0 v = some (v, σ))
    (hL2 : ∀ g σ ts v, Nx_ σ0 c n σ K ts → sg (hd_ ts) = true → Lf (g + 1) σ 0 v = (f_X9_next 5000 σ 0).bind fun q4 => (F q4 0).bind fun q5 => Lf g q5.2 0 (u2_ (op (hd_ ts)) v q5.1))
    (hL3 : ∀ g σ pl v, Bd_ σ0 σ pl → Lf (g + 1) σ 0 v = some (v, σ)) (G : Gm_) (hG : ∀ σ, G σ 0 = (F σ 0).bind fun q1 => Lf 5000 q1.2 0 q1.1) : MC_ σ0 c n G K (pMany_ sg op P) := by
  intro σ ts hN
  obtain ⟨s1, s2⟩ := hF σ ts hN
  unfold pMany_
  rw [hG]
  rcases hq : P ts with ⟨_ | cd, r⟩
  · obtain ⟨v, σ2, f1, f2⟩ := s2 r hq
    rw [f1, Option.bind_some]
    refine ⟨fun cd r he => (by cases he), fun r' he => ?_⟩
    cases he
    exact ⟨_, σ2, hL3 4999 σ2 _ _ f2, f2⟩
  · obtain ⟨σ2, f1, f2⟩ := s1 cd r hq
    rw [f1, Option.bind_some]
    obtain ⟨pre, ep, hgd⟩ := hP ts hN.1.1
    rw [hq] at ep hgd
    simp only at ep hgd ⊢
    have := f2.1.2
    exact ml_loop hB hF hP hs0 hs1 ho Lf hL1 hL2 hL3 r.length 5000 σ2 r cd _ (Nat.le_refl _) (by omega) f2 (hgd cd rfl)
