/-! A CARPET IS TAKEN INTO THOUGHT -/
/-- the text that is forced, both -/
theorem rel_t {σx σm : St_} {tc : Nat} (hT : RT_ σx σm tc) {t : Nat} (ht : t < tc) : ∃ (b e s r n : Nat) (ch : Nat → Nat) (ce cs cr : Cd_), sr_ σx 19 t = some b ∧ 49 ≤ b ∧ 49 ≤ e ∧ 49 ≤ s ∧ 49 ≤ r ∧ kd_ σx b = 5 ∧ sr_ σx b 0 = some e ∧ sr_ σx b 1 = some s ∧ sr_ σx b 2 = some r ∧ Ar_ σx e ce ∧ Ar_ σx s cs ∧ Ar_ σx r cr ∧ n ≤ 160 ∧ si_ σm 2 t = nI n ∧ (∀ j, j < n → ch j < 256 ∧ si_ σm 1 (160 * t + j) = nI (ch j)) ∧ pText_ (tk_ ch n n 0) = (some (ce, cs, cr), []) ∧ Gd_ ce 158 ∧ Gd_ cs 158 ∧ Gd_ cr 158 := by
  obtain ⟨b, e, s, r, n, ch, ce, cs, cr, h1, h2, h3, h4, h5, h6, h7, h8, h9, h10, h11, h12, h13, h14, h15, h16⟩ := hT.2.2.2.2 t ht
  obtain ⟨g1, g2, g3⟩ := gd_text h16 (to_tk ch n n 0) (Nat.le_trans (len_tk ch n n 0) h13)
  exact ⟨b, e, s, r, n, ch, ce, cs, cr, h1, h2, h3, h4, h5, h6, h7, h8, h9, h10, h11, h12, h13, h14, h15, h16, g1, g2, g3⟩
theorem txt_at {σ : St_} (hX : ShX_ σ) {t : Nat} (ht : t < 6) : f_X8_textAt σ 0 (nI t) = some (sr_ σ 19 t) := by
  unfold f_X8_textAt
  rw [dx_0_4 hX, Option.bind_some, lx_19 hX, if_neg (bel_n ht (by omega)), ix_ok ht (by omega), Option.bind_some]
theorem think_ok {σx σm : St_} (h : Rel_ σx σm) {tc n : Nat} (hT : RT_ σx σm tc) (hF : RF_ σx σm tc n) {c : Nat} (hc : c < n) : ∃ (kd nu on fl ni m : Nat) (ce cs cr : Cd_) (σ' : St_), Pm_ kd nu fl ni m ce cs cr ∧ on < 36 ∧ si_ σx (c + 3) 2 = nI on ∧ si_ σm 6 (3 * c + 1) = nI on ∧ Cm_ σm c kd nu fl ni m ce cs cr ∧ f_X8_think σx 0 (c + 3) = some σ' ∧ Th_ σ' kd nu fl ni m ce cs cr ∧ ScX_ σx σ' := by
  have hX := h.1
  have hM := h.2.1
  obtain ⟨hn, c1, c2, ⟨ni, hni, n1, n2⟩, ⟨t, ht, r1, r2⟩, ⟨m, hm, w1, w2⟩, hca⟩ := hF
  obtain ⟨kd, nu, on, fl, a1, a2, a3, a4, b1, b2, b3, b4, b5, b6, b7, b8⟩ := hca c hc
  obtain ⟨b, e, s, r, k, ch, ce, cs, cr, h1, h2, h3, h4, h5, h6, h7, h8, h9, h10, h11, h12, h13, h14, h15, h16, g1, g2, g3⟩ := rel_t hT ht
  have htc := hT.2.1
  let σ1 := ui_ (ui_ (ui_ (ul_ (ui_ σx 21 2 (nI kd)) 21 3 (lN m)) 22 1 (nI nu)) 22 5 (nI fl)) 22 4 (nI ni)
  have hX1 : ShX_ σ1 := hX
  have hbl : b < sn_ σx := by
    rcases Nat.lt_or_ge b (sn_ σx) with z | z
    · exact z
    · have := hX.2.2.2.2.1 b z
      rw [h6] at this
      exact absurd this (by decide)
  have hX2 : ShX_ (ur_ σ1 21 4 (some b)) := by
    refine ⟨hX1.1, fun q hq => ?_, hX1.2.2.1, hX1.2.2.2.1, (up_r σ1 21 4 (some b) (fun b' hb' => by cases hb'; exact hbl)).2.2.2.2 hX1.2.2.2.2⟩
    rw [g_sr_ur]
    by_cases z : q.1 = 21
    · rw [if_pos z, if_neg ((show ∀ q ∈ rX_, ¬ q.2.1 = 4 ∨ ¬ q.1 = 21 by decide) q hq |>.elim id (fun w => absurd z w))]
      exact hX1.2.1 q hq
    · rw [if_neg z]
      exact hX1.2.1 q hq
  have fr : Fr_ (fun r k => ¬ xZ_ r k) σx (ur_ σ1 21 4 (some b)) := Fr_.ur (Fr_.ui (Fr_.ui (Fr_.ui (Fr_.ul (Fr_.ui (Fr_.refl _ _) _ _ _ (by simp [xZ_])) _ _ _ (by simp [xZ_])) _ _ _ (by simp [xZ_])) _ _ _ (by simp [xZ_])) _ _ _ (by simp [xZ_])) _ _ _ (by simp [xZ_])
  have ar : ∀ {a : Nat} {cd : Cd_}, 49 ≤ a → Ar_ σx a cd → Ar_ (ur_ σ1 21 4 (some b)) a cd := fun ha hh => hh.congr rfl rfl (fun j => fr.i (by simp only [xZ_]; omega))
  have rr : ∀ k, sr_ (ur_ σ1 21 4 (some b)) b k = sr_ σx b k := fun k => fr.r (by simp only [xZ_]; omega)
  refine ⟨kd, nu, on, fl, ni, m, ce, cs, cr, ur_ σ1 21 4 (some b), ⟨a1, a2, a4, hni, hm, g1, g2, g3⟩, a3, b3, b7, ⟨hM, by omega, b5, b6, b8, n2, w2, t, k, ch, by omega, h13, r2, h14, h15, h16⟩, ?_, ⟨hX2, rfl, ?_, rfl, rfl, rfl, b, e, s, r, ?_, h3, h4, h5, h2, h6, (rr 0).trans h7, (rr 1).trans h8, (rr 2).trans h9, ar h3 h10, ar h4 h11, ar h5 h12⟩, ⟨hX2, fr⟩⟩
  · have tk : f_X6_takeUp σx 21 (c + 3) (lN m) (nI ni) = some σ1 := by
      unfold f_X6_takeUp
      rw [show si_ σx (c + 3) 0 = nI kd from b1, show dr_ (ul_ (ui_ σx 21 2 (nI kd)) 21 3 (lN m)) 10 (sr_ (ul_ (ui_ σx 21 2 (nI kd)) 21 3 (lN m)) 21 0) = some 22 from dx_21_0 hX, Option.bind_some, show ln_ (ul_ (ui_ σx 21 2 (nI kd)) 21 3 (lN m)) 22 = 6 from lx_22 hX, show ix_ (1 : Int32) 6 = some 1 from by decide +kernel, Option.bind_some]
      have q1 : si_ (ul_ (ui_ σx 21 2 (nI kd)) 21 3 (lN m)) (c + 3) 1 = nI nu := by
        show si_ (ui_ σx 21 2 (nI kd)) (c + 3) 1 = _
        rw [g_si_ne (by omega)]; exact b2
      rw [q1, show ln_ (ui_ (ul_ (ui_ σx 21 2 (nI kd)) 21 3 (lN m)) 22 1 (nI nu)) 22 = 6 from lx_22 hX, show ix_ (5 : Int32) 6 = some 5 from by decide +kernel, Option.bind_some]
      have q2 : si_ (ui_ (ul_ (ui_ σx 21 2 (nI kd)) 21 3 (lN m)) 22 1 (nI nu)) (c + 3) 3 = nI fl := by
        rw [g_si_ne (by omega)]
        show si_ (ui_ σx 21 2 (nI kd)) (c + 3) 3 = _
        rw [g_si_ne (by omega)]; exact b4
      rw [q2, show ln_ (ui_ (ui_ (ul_ (ui_ σx 21 2 (nI kd)) 21 3 (lN m)) 22 1 (nI nu)) 22 5 (nI fl)) 22 = 6 from lx_22 hX, show ix_ (4 : Int32) 6 = some 4 from by decide +kernel, Option.bind_some]
    unfold f_X8_think
    rw [dx_0_7 hX, Option.bind_some, dx_0_0 hX, Option.bind_some, w1, n1, tk, Option.bind_some, dx_0_7 hX1, Option.bind_some, dx_0_0 hX1, Option.bind_some, show si_ σ1 1 3 = nI t from r1, txt_at hX1 (by omega), Option.bind_some, show sr_ σ1 19 t = some b from h1]
    unfold f_X6_goBy
    rw [if_pos (show qk_ σ1 (some b) 5 = true by show decide (kd_ σx b = 5) = true; rw [h6]; rfl)]
    rfl
  · show sl_ (ul_ (ui_ σx 21 2 (nI kd)) 21 3 (lN m)) 21 3 = lN m
    rw [g_sl_ul, if_pos rfl, if_pos rfl]
  · rw [g_sr_ur, if_pos rfl, if_pos rfl]
