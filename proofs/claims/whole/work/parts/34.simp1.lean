/-! SIMPLE CALLS -/
/-- the floor alone has changed, but for the kinds -/
theorem rel_F {σx σm σx' σm' : St_} {tc n : Nat} (hX : ShX_ σx') (hM : ShM_ σm') (hT : RT_ σx σm tc) (hK : RK_ σx σm tc n) (hP : RP_ σx σm) (hS : RS_ σx σm) (ex : Fr_ (fun r k => ¬ xF_ r k) σx σx') (em : Fr_ (fun r k => ¬ (mF_ r k ∧ r ≠ 5)) σm σm') (hF : RF_ σx' σm' tc n) : Rel_ σx' σm' := by
  refine ⟨hX, hM, tc, n, hT.congr (ex.mono ?_) (em.mono ?_), hF, hK.congr (ex.mono ?_) (em.mono ?_), hP.congr (ex.mono ?_) (em.mono ?_), hS.congr (ex.mono ?_) (em.mono ?_)⟩ <;> intro r k q z <;> simp only [xT_, xF_, xK_, xP_, xS_, mT_, mF_, mK_, mP_, mS_, xZ_, mZ_] at q z <;> omega
/-- the sheets alone have changed -/
theorem rel_S {σx σm σx' σm' : St_} {tc n : Nat} (hX : ShX_ σx') (hM : ShM_ σm') (hT : RT_ σx σm tc) (hF : RF_ σx σm tc n) (hK : RK_ σx σm tc n) (hP : RP_ σx σm) (ex : Fr_ (fun r k => ¬ xS_ r k) σx σx') (em : Fr_ (fun r k => ¬ mS_ r k) σm σm') (hS : RS_ σx' σm') : Rel_ σx' σm' := by
  refine ⟨hX, hM, tc, n, hT.congr (ex.mono ?_) (em.mono ?_), hF.congr (ex.mono ?_) (em.mono ?_), hK.congr (ex.mono ?_) (em.mono ?_), hP.congr (ex.mono ?_) (em.mono ?_), hS⟩ <;> intro r k q z <;> simp only [xT_, xF_, xK_, xP_, xS_, mT_, mF_, mK_, mP_, mS_, xZ_, mZ_] at q z <;> omega
theorem sim_feed : Sim_feed Rel_ := by
  intro σx σm h x
  obtain ⟨hX, hM, tc, n, hT, hF, hK, hP, hS⟩ := h
  obtain ⟨k, hk, e1, e2, hj⟩ := hP
  unfold f_X8_feed f_X9_feed
  rw [show ((256 : Int32)) = nI 256 from rfl]
  have hc := in_c (x := x) (n := 255) (255 : Int64) rfl (by omega)
  rcases bel_c x (n := 256) (by omega) with h1 | ⟨c, hc', rfl⟩
  · rw [if_pos h1, if_pos (hc.mpr h1)]
    exact ⟨_, _, _, rfl, rfl, hX, hM, tc, n, hT, hF, hK, ⟨k, hk, e1, e2, hj⟩, hS⟩
  · rw [if_neg (bel_n hc' (by omega)), if_neg (fun z => bel_n hc' (by omega) (hc.mp z)), dx_0_3 hX, Option.bind_some]
    unfold f_X3_put
    rw [dx_13_0 hX, Option.bind_some, lx_14 hX, e1, e2, show (160 : Int32) = nI 160 from rfl]
    by_cases h3 : k = 160
    · subst h3
      rw [if_pos (by decide +kernel), if_pos rfl]
      exact ⟨_, _, _, rfl, rfl, hX, hM, tc, n, hT, hF, hK, ⟨160, hk, e1, e2, hj⟩, hS⟩
    · have h4 : k < 160 := by omega
      rw [if_neg (bel_n h4 (by omega)), if_neg (fun z => h3 ((nI_eq (by omega) (by omega)).mp z)), dm_0_5 hM, ix_ok h4 (by omega), Option.bind_some, Option.bind_some, Option.bind_some, lm_3 hM, ix_ok h4 (by omega), Option.bind_some]
      have a1 : si_ (ui_ σx 14 k (nI c)) 13 1 = nI k := e1
      have a2 : si_ (ui_ σm 3 k (nI c)) 0 6 = nI k := e2
      rw [a1, a2, nI_1]
      refine ⟨nI (k + 1), ui_ (ui_ σx 14 k (nI c)) 13 1 (nI (k + 1)), ui_ (ui_ σm 3 k (nI c)) 0 6 (nI (k + 1)), by rw [si_ui, upd_g, if_pos rfl], by rw [si_ui, upd_g, if_pos rfl], hX, hM, tc, n, hT.congr (Fr_.ui (Fr_.ui (Fr_.refl _ _) _ _ _ (by simp [xT_])) _ _ _ (by simp [xT_])) (Fr_.ui (Fr_.ui (Fr_.refl _ _) _ _ _ (by simp [mT_])) _ _ _ (by simp [mT_])), hF.congr (Fr_.ui (Fr_.ui (Fr_.refl _ _) _ _ _ (by simp [xF_])) _ _ _ (by simp [xF_])) (Fr_.ui (Fr_.ui (Fr_.refl _ _) _ _ _ (by simp [mF_])) _ _ _ (by simp [mF_])), hK.congr (Fr_.ui (Fr_.ui (Fr_.refl _ _) _ _ _ (by simp [xK_])) _ _ _ (by simp [xK_])) (Fr_.ui (Fr_.ui (Fr_.refl _ _) _ _ _ (by simp [mK_])) _ _ _ (by simp [mK_])), ⟨k + 1, by omega, rfl, rfl, fun j hj' => ?_⟩, hS⟩
      by_cases h5 : j = k
      · subst h5
        exact ⟨c, hc', by rw [g_si_ne (by decide), si_ui, upd_g, if_pos rfl], by rw [g_si_ne (by decide), si_ui, upd_g, if_pos rfl]⟩
      · obtain ⟨d, hd, f1, f2⟩ := hj j (by omega)
        exact ⟨d, hd, by rw [g_si_ne (by decide), si_ui, upd_g, if_neg h5, f1], by rw [g_si_ne (by decide), si_ui, upd_g, if_neg h5, f2]⟩
theorem sim_force : Sim_force Rel_ := by
  intro σx σm h x
  obtain ⟨hX, hM, tc, n, hT, hF, hK, hP, hS⟩ := h
  have hT' := hT
  obtain ⟨t1, t2, e1, e2, -⟩ := hT
  obtain ⟨hn, c1, c2, hni, ⟨t, ht, r1, r2⟩, hw, hca⟩ := hF
  unfold f_X8_force f_X9_force
  rw [e1, e2]
  obtain ⟨u, rfl⟩ : ∃ u, tc = u + 1 := ⟨tc - 1, by omega⟩
  rw [nI_pred]
  have hc := in_b (x := x) (n := u) (by omega)
  rcases bel_c x (n := u + 1) (by omega) with h1 | ⟨c, hc', rfl⟩
  · rw [if_pos h1, if_pos (hc.mpr h1)]
    exact ⟨_, _, _, rfl, rfl, hX, hM, u + 1, n, hT', ⟨hn, c1, c2, hni, ⟨t, ht, r1, r2⟩, hw, hca⟩, hK, hP, hS⟩
  · rw [if_neg (bel_n hc' (by omega)), if_neg (fun z => bel_n hc' (by omega) (hc.mp z)), dx_0_0 hX, Option.bind_some, r1, r2]
    exact ⟨_, _, _, rfl, rfl, hX, hM, u + 1, n, hT'.congr (Fr_.ui (Fr_.refl _ _) _ _ _ (by simp [xT_])) (Fr_.ui (Fr_.refl _ _) _ _ _ (by simp [mT_])), ⟨hn, c1, c2, hni, ⟨c, hc', rfl, rfl⟩, hw, fun i hi => (hca i hi).congr (fun k _ => congrFun (g_si_ne (by omega)) k) rfl (fun _ _ => rfl)⟩, hK.congr (Fr_.ui (Fr_.refl _ _) _ _ _ (by simp [xK_])) (Fr_.ui (Fr_.refl _ _) _ _ _ (by simp [mK_])), hP, hS.congr (Fr_.ui (Fr_.refl _ _) _ _ _ (by simp [xS_])) (Fr_.ui (Fr_.refl _ _) _ _ _ (by simp [mS_]))⟩
/-- a bit of the walls -/
theorem tb_d (m c : Nat) : m / 2 ^ c % 2 = if m.testBit c then 1 else 0 := by
  rw [Nat.testBit_eq_decide_div_mod_eq]
  by_cases h : m / 2 ^ c % 2 = 1
  · simp [h]
  · simp [h]; omega
theorem wal_b {m c : Nat} (hm : m < 2 ^ 36) (hc : c < 36) : ((((lN m).toUInt64 >>> ((nI c).toInt64.toUInt64 &&& Int64.toUInt64 63)).toInt64) &&& (1 : Int64)) = if m.testBit c then 1 else 0 := by
  rw [wb_bit (by omega) (by omega), tb_d]
  by_cases h : m.testBit c
  · rw [if_pos h, if_pos h]; rfl
  · rw [if_neg h, if_neg h]; rfl
theorem wal_i {m c : Nat} (hm : m < 2 ^ 36) (hc : c < 36) : lN m ||| ((1 : Int64) <<< ((nI c).toInt64 &&& 63)) = lN (m ||| 2 ^ c) := by
  have h := wb_shl 1 (k := c) (by omega)
  have h2 : 2 ^ c < 2 ^ 64 := wb_lt2 (by omega)
  rw [show (1 : Int64) = lN 1 from rfl, h, Nat.one_mul, wb_or (by omega) h2]
theorem lN_bit (m i : Nat) (hi : i < 64) : (lN m).toBitVec.getLsbD i = m.testBit i := by
  rw [wb_tb, BitVec.getLsbD_ofNat]; simp [hi]
theorem wal_o {m c : Nat} (hm : m < 2 ^ 36) (hc : c < 36) : lN m &&& (((1 : Int64) <<< ((nI c).toInt64 &&& 63)) ^^^ (-1 : Int64)) = lN (m ^^^ (m &&& 2 ^ c)) := by
  have h := wb_shl 1 (k := c) (by omega)
  rw [show (1 : Int64) = lN 1 from rfl, h, Nat.one_mul]
  apply wb_inj
  apply BitVec.eq_of_getLsbD_eq
  intro i hi
  rw [Int64.toBitVec_and, BitVec.getLsbD_and, Int64.toBitVec_xor, BitVec.getLsbD_xor, lN_bit _ _ hi, lN_bit _ _ hi, lN_bit _ _ hi, Nat.testBit_xor, Nat.testBit_and]
  have e : (-lN 1).toBitVec = BitVec.allOnes 64 := by decide +kernel
  rw [e, BitVec.getLsbD_allOnes]
  simp only [hi, decide_true]
  cases m.testBit i <;> cases (2 ^ c).testBit i <;> rfl
theorem lt_pt {m k : Nat} (h : ∀ i, k ≤ i → m.testBit i = false) : m < 2 ^ k := Nat.lt_pow_two_of_testBit m h
theorem tb_0 {m k i : Nat} (h : m < 2 ^ k) (hi : k ≤ i) : m.testBit i = false := Nat.testBit_lt_two_pow (Nat.lt_of_lt_of_le h (Nat.pow_le_pow_right (by decide) hi))
/-- carpet c's k-th number there -/
theorem ix_r1 : ∀ c, c < 4 → ix_ ((3 : Int32) * nI c + 1) 12 = some (3 * c + 1) := by decide +kernel
theorem ix_r0 : ∀ c, c < 4 → ix_ ((3 : Int32) * nI c) 12 = some (3 * c) := by decide +kernel
theorem ix_r2 : ∀ c, c < 4 → ix_ ((3 : Int32) * nI c + 2) 12 = some (3 * c + 2) := by decide +kernel
theorem ix_rd : ∀ c, c < 4 → ∀ d, d < 3 → ix_ (((3 : Int32) * nI c + nI (d + 2)) - 2) 12 = some (3 * c + d) := by decide +kernel
theorem sim_set : Sim_set Rel_ := by
  intro σx σm h x of v
  have h0 := h
  obtain ⟨hX, hM, tc, n, hT, hF, hK, hP, hS⟩ := h
  have hF' := hF
  obtain ⟨hn, c1, c2, ⟨ni, hni, n1, n2⟩, ⟨t, ht, r1, r2⟩, ⟨m, hm, w1, w2⟩, hca⟩ := hF
  have hin := in_c (x := x) (n := 4) (4 : Int64) rfl (by omega)
  rcases bel_c x (n := 5) (by omega) with hb | ⟨xc, hxc, rfl⟩
  · have q0 : ¬ x = 0 := fun e => by rw [e] at hb; exact absurd hb (by decide +kernel)
    have q1 : ¬ x = 1 := fun e => by rw [e] at hb; exact absurd hb (by decide +kernel)
    have q2 : ¬ x = 2 := fun e => by rw [e] at hb; exact absurd hb (by decide +kernel)
    have q3 : ¬ x = 3 := fun e => by rw [e] at hb; exact absurd hb (by decide +kernel)
    have q4 : ¬ x = 4 := fun e => by rw [e] at hb; exact absurd hb (by decide +kernel)
    refine ⟨-2, σx, σm, ?_, ?_, h0⟩
    · unfold f_X8_set
      rw [if_neg q0, if_neg q1, if_neg q2, if_neg q3, if_neg q4]
    · unfold f_X9_set
      rw [if_pos (hin.mpr hb)]
  have hnb := fun z => bel_n hxc (by omega) (hin.mp z)
  have hin6 : ¬ f_X9_in ((nI xc).toInt64) 0 6 = 0 := fun z => bel_n (n := 7) (by omega) (by omega) ((in_c (n := 6) (6 : Int64) rfl (by omega)).mp z)
  by_cases x0 : xc = 0
  · subst x0
    have hq := in_c (x := v) (n := 999) ((f_X9_mostOf (nI 0)).toInt64) (by rfl) (by omega)
    have ho : f_X9_isOf σm 0 (nI 0) of = 1 := rfl
    rcases bel_c v (n := 1000) (by omega) with h1 | ⟨c, hc', rfl⟩
    · refine ⟨-2, σx, σm, ?_, ?_, h0⟩
      · unfold f_X8_set f_X8_setNight
        rw [if_pos (show nI 0 = 0 from rfl), if_pos (show f_X8_isBelow v 1000 = 0 from h1)]
        rfl
      · unfold f_X9_set
        rw [if_neg hnb, ho, if_neg (by decide), if_pos (hq.mpr h1)]
    · refine ⟨nI ni, ui_ σx 1 2 (nI c), ui_ σm 0 7 (nI c), ?_, ?_, rel_F hX hM hT hK hP hS (Fr_.ui (Fr_.refl _ _) _ _ _ (by simp [xF_])) (Fr_.ui (Fr_.refl _ _) _ _ _ (by simp [mF_])) ⟨hn, c1, c2, ⟨c, hc', rfl, rfl⟩, ⟨t, ht, r1, r2⟩, ⟨m, hm, w1, w2⟩, fun i hi => (hca i hi).congr (fun k _ => congrFun (g_si_ne (by omega)) k) rfl (fun _ _ => rfl)⟩⟩
      · unfold f_X8_set f_X8_setNight
        rw [if_pos (show nI 0 = 0 from rfl), if_neg (show ¬ f_X8_isBelow (nI c) 1000 = 0 from bel_n (n := 1000) hc' (by omega)), dx_0_0 hX, Option.bind_some, n1]
        rfl
      · unfold f_X9_set
        rw [if_neg hnb, ho, if_neg (by decide), if_neg (fun z => bel_n hc' (by omega) (hq.mp z))]
        unfold f_X9_told f_X9_told_26
        rw [if_neg hin6, ho, if_neg (by decide), if_neg (by decide), if_pos (show nI 0 = 0 from rfl), Option.bind_some, n2]
        rfl
  by_cases x1 : xc = 1
  · subst x1
    have hq := in_c (x := v) (n := 1) ((f_X9_mostOf (nI 1)).toInt64) (by rfl) (by omega)
    have hcl := in_c (x := of) (n := 35) (35 : Int64) rfl (by omega)
    rcases bel_c of (n := 36) (by omega) with h1 | ⟨c, hc', rfl⟩
    · refine ⟨-2, σx, σm, ?_, ?_, h0⟩
      · unfold f_X8_set f_X8_setWall
        rw [if_neg (by decide), if_pos (show nI 1 = 1 from rfl), if_pos (show f_X8_isBelow of 36 = 0 from h1)]
        rfl
      · have ho : f_X9_isOf σm 0 (nI 1) of = 0 := by
          unfold f_X9_isOf f_X9_isCell
          rw [if_neg (by decide), if_pos (show nI 1 = 1 from rfl), if_pos (hcl.mpr h1)]
        unfold f_X9_set
        rw [if_neg hnb, ho, if_pos rfl]
    have ho : f_X9_isOf σm 0 (nI 1) (nI c) = 1 := by
      unfold f_X9_isOf f_X9_isCell
      rw [if_neg (by decide), if_pos (show nI 1 = 1 from rfl), if_neg (fun z => bel_n hc' (by omega) (hcl.mp z))]
    rcases bel_c v (n := 2) (by omega) with h1 | ⟨d, hd', rfl⟩
    · refine ⟨-2, σx, σm, ?_, ?_, h0⟩
      · unfold f_X8_set f_X8_setWall
        rw [if_neg (by decide), if_pos (show nI 1 = 1 from rfl), if_neg (show ¬ f_X8_isBelow (nI c) 36 = 0 from bel_n (n := 36) hc' (by omega)), if_pos (show f_X8_isBelow v 2 = 0 from h1)]
        rfl
      · unfold f_X9_set
        rw [if_neg hnb, ho, if_neg (by decide), if_pos (hq.mpr h1)]
    · have hw : f_X1_wallOn σx 1 (nI c) = si_ σm 4 c := by
        unfold f_X1_wallOn
        rw [w1, wal_b hm hc', w2 c hc']
        by_cases hb : m.testBit c
        · rw [if_pos hb, if_pos hb]; rfl
        · rw [if_neg hb, if_neg hb]; rfl
      have hr : f_X9_set FU_ σm 0 (nI 1) (nI c) (nI d) = some (si_ σm 4 c, ui_ σm 4 c (nI d)) := by
        unfold f_X9_set
        rw [if_neg hnb, ho, if_neg (by decide), if_neg (fun z => bel_n hd' (by omega) (hq.mp z))]
        unfold f_X9_told f_X9_told_26 f_X9_lays
        rw [if_neg hin6, ho, if_neg (by decide), if_neg (by decide), if_neg (by decide), dm_0_8 hM, Option.bind_some, lm_4 hM, ix_ok hc' (by omega), Option.bind_some, Option.bind_some, if_neg (by decide), if_pos (show nI 1 = 1 from rfl), dm_0_8 hM, Option.bind_some, lm_4 hM, ix_ok hc' (by omega)]
        rfl
      have hl : f_X8_set σx 0 (nI 1) (nI c) (nI d) = some (si_ σm 4 c, f_X1_putWall σx 1 (nI c) (nI d)) := by
        unfold f_X8_set f_X8_setWall
        rw [if_neg (by decide), if_pos (show nI 1 = 1 from rfl), if_neg (show ¬ f_X8_isBelow (nI c) 36 = 0 from bel_n (n := 36) hc' (by omega)), if_neg (show ¬ f_X8_isBelow (nI d) 2 = 0 from bel_n (n := 2) hd' (by omega)), dx_0_0 hX, Option.bind_some, hw]
        rfl
      have hd2 : d = 0 ∨ d = 1 := by omega
      rcases hd2 with rfl | rfl
      · refine ⟨_, _, _, hl, hr, ?_⟩
        unfold f_X1_putWall
        rw [if_neg (by decide), w1, wal_o hm hc']
        refine rel_F hX hM hT hK hP hS (Fr_.ul (Fr_.refl _ _) _ _ _ (by simp [xF_])) (Fr_.ui (Fr_.refl _ _) _ _ _ (by simp [mF_])) ⟨hn, c1, c2, ⟨ni, hni, n1, n2⟩, ⟨t, ht, r1, r2⟩, ⟨m ^^^ (m &&& 2 ^ c), lt_pt fun i hi => ?_, rfl, fun e he => ?_⟩, fun i hi => (hca i hi).congr (fun k _ => rfl) rfl (fun _ _ => rfl)⟩
        · rw [Nat.testBit_xor, Nat.testBit_and, tb_0 hm hi]; rfl
        · rw [si_ui, upd_g, w2 e he, Nat.testBit_xor, Nat.testBit_and, Nat.testBit_two_pow]
          by_cases hce : e = c
          · subst hce
            rw [if_pos rfl]
            cases m.testBit e <;> simp <;> rfl
          · rw [if_neg hce]
            simp [show ¬ c = e from fun z => hce z.symm]
      · refine ⟨_, _, _, hl, hr, ?_⟩
        unfold f_X1_putWall
        rw [if_pos (show nI 1 = 1 from rfl), w1, wal_i hm hc']
        refine rel_F hX hM hT hK hP hS (Fr_.ul (Fr_.refl _ _) _ _ _ (by simp [xF_])) (Fr_.ui (Fr_.refl _ _) _ _ _ (by simp [mF_])) ⟨hn, c1, c2, ⟨ni, hni, n1, n2⟩, ⟨t, ht, r1, r2⟩, ⟨m ||| 2 ^ c, lt_pt fun i hi => ?_, rfl, fun e he => ?_⟩, fun i hi => (hca i hi).congr (fun k _ => rfl) rfl (fun _ _ => rfl)⟩
        · rw [fb_bit_set, tb_0 hm hi]; simp; omega
        · rw [si_ui, upd_g, w2 e he, fb_bit_set]
          by_cases hce : e = c
          · subst hce
            rw [if_pos rfl]
            simp; rfl
          · rw [if_neg hce]
            simp [hce]
  obtain ⟨d, rfl⟩ : ∃ d, xc = d + 2 := ⟨xc - 2, by omega⟩
  have hd : d < 3 := by omega
  have g0 : ¬ nI (d + 2) = 0 := nI_ne0 (by omega) (by omega)
  have g1 : ¬ nI (d + 2) = 1 := fun z => by have := (nI_eq (b := 1) (by omega) (by omega)).mp z; omega
  obtain ⟨E, hE, e1, e2⟩ : ∃ E : Nat, E + 1 < 2 ^ 31 ∧ f_X8_endOf (nI (d + 2)) = nI (E + 1) ∧ (f_X9_mostOf (nI (d + 2))).toInt64 = (nI E).toInt64 ∧ (d = 0 → E = 9) ∧ (d = 1 → E = 35) ∧ (d = 2 → E = 1) := by
    have : d = 0 ∨ d = 1 ∨ d = 2 := by omega
    rcases this with rfl | rfl | rfl
    · exact ⟨9, by decide, rfl, rfl, fun _ => rfl, by decide, by decide⟩
    · exact ⟨35, by decide, rfl, rfl, by decide, fun _ => rfl, by decide⟩
    · exact ⟨1, by decide, rfl, rfl, by decide, by decide, fun _ => rfl⟩
  have hq := in_c (x := v) (n := E) ((f_X9_mostOf (nI (d + 2))).toInt64) e2.1 hE
  have hX8 : f_X8_set σx 0 (nI (d + 2)) of v = f_X8_setOfCarpet σx 0 (nI (d + 2)) of v := by
    unfold f_X8_set
    rw [if_neg g0, if_neg g1]
    have : d = 0 ∨ d = 1 ∨ d = 2 := by omega
    rcases this with rfl | rfl | rfl
    · rw [if_pos (show nI 2 = 2 from rfl)]; cases f_X8_setOfCarpet σx 0 (nI 2) of v <;> rfl
    · rw [if_neg (by decide), if_pos (show nI 3 = 3 from rfl)]; cases f_X8_setOfCarpet σx 0 (nI 3) of v <;> rfl
    · rw [if_neg (by decide), if_neg (by decide), if_pos (show nI 4 = 4 from rfl)]; cases f_X8_setOfCarpet σx 0 (nI 4) of v <;> rfl
  rw [hX8]
  have hone := one_b hn c2 of
  rcases bel_c of (n := n) (by omega) with h1 | ⟨c, hc', rfl⟩
  · refine ⟨-2, σx, σm, ?_, ?_, h0⟩
    · unfold f_X8_setOfCarpet
      rw [dx_0_0 hX, Option.bind_some, car_n hX hn c1 of h1]
      rfl
    · have ho : f_X9_isOf σm 0 (nI (d + 2)) of = 0 := by
        unfold f_X9_isOf
        rw [if_neg g0, if_neg g1, if_pos (hone.mpr h1)]
      unfold f_X9_set
      rw [if_neg hnb, ho, if_pos rfl]
  have hk := (hX.car (c := c) (by omega)).2
  have ho : f_X9_isOf σm 0 (nI (d + 2)) (nI c) = 1 := by
    unfold f_X9_isOf
    rw [if_neg g0, if_neg g1, if_neg (fun z => bel_n hc' (by omega) (hone.mp z))]
  rcases bel_c v (n := E + 1) hE with h1 | ⟨w, hw', rfl⟩
  · refine ⟨-2, σx, σm, ?_, ?_, h0⟩
    · unfold f_X8_setOfCarpet
      rw [dx_0_0 hX, Option.bind_some, car_s hX hn c1 hc', Option.bind_some]
      show (if _ then _ else _) = _
      rw [if_pos hk, e1, if_pos h1]
    · unfold f_X9_set
      rw [if_neg hnb, ho, if_neg (by decide), if_pos (hq.mpr h1)]
  obtain ⟨kd, nu, on, fl, a1, a2, a3, a4, b1, b2, b3, b4, b5, b6, b7, b8⟩ := hca c hc'
  have hr : f_X9_set FU_ σm 0 (nI (d + 2)) (nI c) (nI w) = some (si_ σm 6 (3 * c + d), ui_ σm 6 (3 * c + d) (nI w)) := by
    unfold f_X9_set
    rw [if_neg hnb, ho, if_neg (by decide), if_neg (fun z => bel_n hw' hE (hq.mp z))]
    unfold f_X9_told f_X9_told_26 f_X9_lays
    rw [if_neg hin6, ho, if_neg (by decide), if_pos (show (2 : Int32) ≤ nI (d + 2) from nI_le (a := 2) (by omega) (by omega)), if_pos (show nI (d + 2) ≤ (9 : Int32) from nI_le (b := 9) (by omega) (by omega)), if_neg (show ¬ (5 : Int32) ≤ nI (d + 2) from nI_ge (b := 5) (by omega) (by omega)), dm_0_10 hM, Option.bind_some, lm_6 hM, ix_rd c (by omega) d hd, Option.bind_some, Option.bind_some, if_neg g0, if_neg g1, if_neg (show ¬ (5 : Int32) ≤ nI (d + 2) from nI_ge (b := 5) (by omega) (by omega)), dm_0_10 hM, Option.bind_some, lm_6 hM, ix_rd c (by omega) d hd]
    rfl
  have hl : f_X8_setOfCarpet σx 0 (nI (d + 2)) (nI c) (nI w) = some (si_ σm 6 (3 * c + d), ui_ σx (c + 3) (d + 1) (nI w)) := by
    unfold f_X8_setOfCarpet
    rw [dx_0_0 hX, Option.bind_some, car_s hX hn c1 hc', Option.bind_some]
    show (if _ then _ else _) = _
    rw [if_pos hk, e1, if_neg (bel_n hw' hE)]
    unfold f_X0_tell f_X0_put
    have : d = 0 ∨ d = 1 ∨ d = 2 := by omega
    rcases this with rfl | rfl | rfl
    · rw [if_pos (show nI 2 = 2 from rfl), if_pos (show nI 2 = 2 from rfl), show si_ σm 6 (3 * c + 0) = si_ σx (c + 3) 1 from b6.trans b2.symm]
    · rw [if_neg (by decide), if_pos (show nI 3 = 3 from rfl), if_neg (by decide), if_pos (show nI 3 = 3 from rfl), show si_ σm 6 (3 * c + 1) = si_ σx (c + 3) 2 from b7.trans b3.symm]
    · rw [if_neg (by decide), if_neg (by decide), if_pos (show nI 4 = 4 from rfl), if_neg (by decide), if_neg (by decide), show si_ σm 6 (3 * c + 2) = si_ σx (c + 3) 3 from b8.trans b4.symm]
  refine ⟨_, _, _, hl, hr, rel_F hX hM hT hK hP hS (Fr_.ui (Fr_.refl _ _) _ _ _ (by simp [xF_]; omega)) (Fr_.ui (Fr_.refl _ _) _ _ _ (by simp [mF_])) ⟨hn, by rw [g_si_ne (by omega)]; exact c1, c2, ⟨ni, hni, by rw [g_si_ne (by omega)]; exact n1, n2⟩, ⟨t, ht, by rw [g_si_ne (by omega)]; exact r1, r2⟩, ⟨m, hm, w1, w2⟩, fun i hi => ?_⟩⟩
  by_cases hic : i = c
  · subst hic
    show Ca_ (si_ (ui_ σx (i + 3) (d + 1) (nI w)) (i + 3)) _ (si_ (ui_ σm 6 (3 * i + d) (nI w)) 6) i
    rw [si_ui, si_ui]
    have : d = 0 ∨ d = 1 ∨ d = 2 := by omega
    rcases this with rfl | rfl | rfl
    · have hE2 := e2.2.1 rfl
      refine ⟨kd, w, on, fl, a1, by omega, a3, a4, b1, rfl, b3, b4, b5, ?_, ?_, ?_⟩ <;> rw [upd_g]
      · rw [if_pos (by omega)]
      · rw [if_neg (by omega)]; exact b7
      · rw [if_neg (by omega)]; exact b8
    · have hE2 := e2.2.2.1 rfl
      refine ⟨kd, nu, w, fl, a1, a2, by omega, a4, b1, b2, rfl, b4, b5, ?_, ?_, ?_⟩ <;> rw [upd_g]
      · rw [if_neg (by omega)]; exact b6
      · rw [if_pos (by omega)]
      · rw [if_neg (by omega)]; exact b8
    · have hE2 := e2.2.2.2 rfl
      refine ⟨kd, nu, on, w, a1, a2, a3, by omega, b1, b2, b3, rfl, b5, ?_, ?_, ?_⟩ <;> rw [upd_g]
      · rw [if_neg (by omega)]; exact b6
      · rw [if_neg (by omega)]; exact b7
      · rw [if_pos (by omega)]
  · refine (hca i hi).congr (fun k _ => congrFun (g_si_ne (by omega)) k) rfl (fun k hk => ?_)
    rw [si_ui, upd_g, if_neg (by omega)]
