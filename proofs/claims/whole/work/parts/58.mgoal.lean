/-! HOW FAR, HOW HIGH: there -/
/-- a carpet there: kind, number, flown, night, walls, the rule's text -/
def Cm_ (σ : St_) (c kd nu fl ni m : Nat) (ce cs cr : Cd_) : Prop := ShM_ σ ∧ c < 4 ∧ si_ σ 5 c = nI kd ∧ si_ σ 6 (3 * c) = nI nu ∧ si_ σ 6 (3 * c + 2) = nI fl ∧ si_ σ 0 7 = nI ni ∧ (∀ k, k < 36 → si_ σ 4 k = if m.testBit k then 1 else 0) ∧ ∃ (t n : Nat) (ch : Nat → Nat), t < 6 ∧ n ≤ 160 ∧ si_ σ 0 4 = nI t ∧ si_ σ 2 t = nI n ∧ (∀ j, j < n → ch j < 256 ∧ si_ σ 1 (160 * t + j) = nI (ch j)) ∧ pText_ (tk_ ch n n 0) = (some (ce, cs, cr), [])
def mG_ (r k : Nat) : Prop := r = 0 ∧ 12 ≤ k ∧ k ≤ 26
def TM_ (σ σ' : St_) : Prop := ShM_ σ' ∧ Fr_ (fun r k => ¬ mG_ r k) σ σ'
theorem TM_.refl {σ : St_} (h : ShM_ σ) : TM_ σ σ := ⟨h, Fr_.refl _ _⟩
theorem TX_.refl {σ : St_} (h : ShX_ σ) : TX_ σ σ := ⟨h, Fr_.refl _ _⟩
theorem TM_.trans {σ σ' σ'' : St_} (h : TM_ σ σ') (g : TM_ σ' σ'') : TM_ σ σ'' := ⟨g.1, h.2.trans g.2⟩
theorem TM_.sc {σ σ' : St_} (h : TM_ σ σ') : ScM_ σ σ' := ⟨h.1, h.2.mono (by intro r k z w; apply z; simp only [mG_, mZ_] at w ⊢; omega)⟩
theorem Cm_.congr {σ σ' : St_} {c kd nu fl ni m : Nat} {ce cs cr : Cd_} (h : Cm_ σ c kd nu fl ni m ce cs cr) (t : TM_ σ σ') : Cm_ σ' c kd nu fl ni m ce cs cr := by
  obtain ⟨-, h1, h2, h3, h4, h5, h6, tt, n, ch, g1, g2, g3, g4, g5, g6⟩ := h
  obtain ⟨hM, hf⟩ := t
  exact ⟨hM, h1, (hf.i (by simp [mG_])).trans h2, (hf.i (by simp [mG_])).trans h3, (hf.i (by simp [mG_])).trans h4, (hf.i (by simp [mG_])).trans h5, fun k hk => (hf.i (by simp [mG_])).trans (h6 k hk), tt, n, ch, g1, g2, (hf.i (by simp [mG_])).trans g3, (hf.i (by simp [mG_])).trans g4, fun j hj => ⟨(g5 j hj).1, (hf.i (by simp [mG_])).trans (g5 j hj).2⟩, g6⟩
theorem says_ok {σ : St_} {c kd nu fl ni m : Nat} {ce cs cr : Cd_} (h : Cm_ σ c kd nu fl ni m ce cs cr) (p : Pm_ kd nu fl ni m ce cs cr) {on w : Nat} (hon : on < 36) (which : Nat) (hw : which < 3) : ∃ σ', f_X9_says 5000 σ 0 (nI which) (nI c) (nI on) (nI w) = some (if which = 2 then wi_ (va_l (nv6_ nu fl ni on w) cr) 0 99 else wi_ (va_l (nv6_ nu fl ni on w) (if which = 0 then ce else cs)) (-5) 5, σ') ∧ TM_ σ σ' := by
  obtain ⟨hM, h1, h2, h3, h4, h5, h6, t, n, ch, g1, g2, g3, g4, g5, g6⟩ := h
  obtain ⟨p1, p2, p3, p4, p5, p6, p7, p8⟩ := p
  obtain ⟨r1, r2⟩ := rem6 on hon
  let σ1 := ui_ (ui_ (ui_ (ui_ (ui_ (ui_ σ 0 12 (nI w)) 0 13 (nI nu)) 0 14 (nI (on % 6))) 0 15 (nI (on / 6))) 0 16 (nI ni)) 0 17 (nI fl)
  have hM1 : ShM_ σ1 := hM
  obtain ⟨s1, -⟩ := mc_read (σ := σ1) (c := ch) (n := n) (t := t) hM1 g1 g2 g4 g5 which hw
  obtain ⟨σ2, e1, e2, e3, e4⟩ := s1 ce cs cr [] g6
  have env : ∀ k, k < 6 → en0_ σ1 k = nv6_ nu fl ni on w k := fun k hk => by
    unfold en0_
    rw [if_pos hk]
    have q : k = 0 ∨ k = 1 ∨ k = 2 ∨ k = 3 ∨ k = 4 ∨ k = 5 := by omega
    rcases q with rfl | rfl | rfl | rfl | rfl | rfl <;> rfl
  have hv : ∀ {cd : Cd_}, Gd_ cd 158 → va_l (en0_ σ1) cd = va_l (nv6_ nu fl ni on w) cd := fun hg => va_env env hg
  have fr : TM_ σ σ2 := ⟨e2, Fr_.trans (Fr_.ui (Fr_.ui (Fr_.ui (Fr_.ui (Fr_.ui (Fr_.ui (Fr_.refl _ _) _ _ _ (by simp [mG_])) _ _ _ (by simp [mG_])) _ _ _ (by simp [mG_])) _ _ _ (by simp [mG_])) _ _ _ (by simp [mG_])) _ _ _ (by simp [mG_])) (e3.mono (fun r k z => by simp only [mG_] at z; omega))⟩
  refine ⟨σ2, ?_, fr⟩
  have eS : f_X9_says 5000 σ 0 (nI which) (nI c) (nI on) (nI w) = (f_X9_read 5000 σ1 0 (nI t) (nI which)).bind fun q8 => if nI which = (2 : Int32) then some (f_X9_within q8.1 (0 : Int32) (99 : Int32), q8.2) else some (f_X9_within q8.1 (-5 : Int32) (5 : Int32), q8.2) := by
    unfold f_X9_says
    rw [show dr_ (ui_ σ 0 12 (nI w)) 10 (sr_ (ui_ σ 0 12 (nI w)) 0 10) = some 6 from dm_0_10 hM, Option.bind_some, show ln_ (ui_ σ 0 12 (nI w)) 6 = 12 from lm_6 hM, ix_r0 c h1, Option.bind_some, r1, r2, show si_ (ui_ σ 0 12 (nI w)) 6 (3 * c) = nI nu from h3]
    have s7 : si_ (ui_ (ui_ (ui_ (ui_ σ 0 12 (nI w)) 0 13 (nI nu)) 0 14 (nI (on % 6))) 0 15 (nI (on / 6))) 0 7 = nI ni := h5
    rw [s7]
    have l6 : ln_ (ui_ (ui_ (ui_ (ui_ (ui_ σ 0 12 (nI w)) 0 13 (nI nu)) 0 14 (nI (on % 6))) 0 15 (nI (on / 6))) 0 16 (nI ni)) 6 = 12 := lm_6 hM
    rw [l6, ix_r2 c h1, Option.bind_some]
    have s6 : si_ (ui_ (ui_ (ui_ (ui_ (ui_ σ 0 12 (nI w)) 0 13 (nI nu)) 0 14 (nI (on % 6))) 0 15 (nI (on / 6))) 0 16 (nI ni)) 6 (3 * c + 2) = nI fl := h4
    rw [s6]
    have s4 : si_ (ui_ (ui_ (ui_ (ui_ (ui_ (ui_ σ 0 12 (nI w)) 0 13 (nI nu)) 0 14 (nI (on % 6))) 0 15 (nI (on / 6))) 0 16 (nI ni)) 0 17 (nI fl)) 0 4 = nI t := g3
    rw [s4]
  rw [eS, e1, Option.bind_some]
  simp only
  have q : which = 0 ∨ which = 1 ∨ which = 2 := by omega
  rcases q with rfl | rfl | rfl
  · rw [show pick_ 0 ce cs cr = ce from rfl, hv p6]; rfl
  · rw [show pick_ 1 ce cs cr = cs from rfl, hv p7]; rfl
  · rw [show pick_ 2 ce cs cr = cr from rfl, hv p8]; rfl
theorem cm_east {σ : St_} {c kd nu fl ni m : Nat} {ce cs cr : Cd_} (h : Cm_ σ c kd nu fl ni m ce cs cr) (p : Pm_ kd nu fl ni m ce cs cr) {on w : Nat} (hon : on < 36) (hw : w < 8) : ∃ σ', f_X9_eastOf 5000 σ 0 (nI c) (nI on) (nI w) = some (ea_ kd nu fl ni ce on w, σ') ∧ TM_ σ σ' := by
  have h0 := h
  obtain ⟨hM, h1, h2, h3, h4, h5, h6, -⟩ := h
  obtain ⟨p1, p2, p3, p4, p5, p6, p7, p8⟩ := p
  obtain ⟨σ', e1, t⟩ := says_ok h0 ⟨p1, p2, p3, p4, p5, p6, p7, p8⟩ hon (w := w) 0 (by omega)
  have e1' : f_X9_says 5000 σ 0 0 (nI c) (nI on) (nI w) = some (wi_ (va_l (nv6_ nu fl ni on w) ce) (-5) 5, σ') := e1
  obtain ⟨hM', -, -, h3', -⟩ := h0.congr t
  unfold f_X9_eastOf
  rw [dm_0_9 hM, Option.bind_some, lm_5 hM, ix_ok h1 (by omega), Option.bind_some, h2]
  have z0 : wi_ 0 (-5) 5 = 0 := by decide +kernel
  have e45 : f_X9_eastOf_45 5000 σ 0 (nI c) (nI on) (nI w) (nI kd) = some (wi_ (if kd = 1 then 2 * (wi_ (va_l (nv6_ nu fl ni on w) ce) (-5) 5) else if kd = 3 then 2 * (wi_ (va_l (nv6_ nu fl ni on w) ce) (-5) 5) + nI (nu % 3) else if kd = 5 then -(wi_ (va_l (nv6_ nu fl ni on w) ce) (-5) 5) else wi_ (va_l (nv6_ nu fl ni on w) ce) (-5) 5) (-5) 5, σ') := by
    unfold f_X9_eastOf_45 f_X9_eastOf_106
    rw [e1', Option.bind_some]
    simp only
    rw [dm_0_10 hM', Option.bind_some, lm_6 hM', ix_r0 c h1, Option.bind_some, h3', mod3 nu p2]
    have q : kd = 0 ∨ kd = 1 ∨ kd = 2 ∨ kd = 3 ∨ kd = 4 ∨ kd = 5 := by omega
    rcases q with rfl | rfl | rfl | rfl | rfl | rfl <;> rfl
  have e20 : f_X9_eastOf_20 5000 σ 0 (nI c) (nI on) (nI w) (nI kd) = if ¬ w % 2 = 0 then some (0, σ) else if kd = 4 then (if ¬ ni % 2 = 0 then some (0, σ) else f_X9_eastOf_45 5000 σ 0 (nI c) (nI on) (nI w) (nI kd)) else f_X9_eastOf_45 5000 σ 0 (nI c) (nI on) (nI w) (nI kd) := by
    unfold f_X9_eastOf_20
    rw [h5]
    by_cases z : w % 2 = 0
    · rw [if_neg (fun q => (odd8' w hw).mp q z), if_neg (not_not_intro z)]
      by_cases z4 : kd = 4
      · subst z4
        rw [if_pos (show nI 4 = 4 from rfl), if_pos rfl]
        by_cases y : ni % 2 = 0
        · rw [if_neg (fun q => (oddn' ni p4).mp q y), if_neg (not_not_intro y)]
        · rw [if_pos ((oddn' ni p4).mpr y), if_pos y]
      · rw [if_neg (show ¬ nI kd = 4 from nI_ne (b := 4) (by omega) (by omega) z4), if_neg z4]
    · rw [if_pos ((odd8' w hw).mpr z), if_pos z]
  unfold ea_ ek_
  have q : kd = 0 ∨ kd = 1 ∨ kd = 2 ∨ kd = 3 ∨ kd = 4 ∨ kd = 5 := by omega
  rcases q with rfl | rfl | rfl | rfl | rfl | rfl
  · exact ⟨σ', e45, t⟩
  · exact ⟨σ', e45, t⟩
  · rw [if_pos (show nI 2 = 2 from rfl), e20]
    by_cases z : w % 2 = 0
    · rw [if_neg (not_not_intro z), if_neg (by decide), e45]
      refine ⟨σ', ?_, t⟩
      simp [z]
    · rw [if_pos z]
      refine ⟨σ, ?_, TM_.refl hM⟩
      simp [z, z0]
  · exact ⟨σ', e45, t⟩
  · rw [if_neg (show ¬ nI 4 = 2 by decide), if_pos (show nI 4 = 4 from rfl), e20]
    by_cases z : w % 2 = 0
    · rw [if_neg (not_not_intro z), if_pos rfl]
      by_cases y : ni % 2 = 0
      · rw [if_neg (not_not_intro y), e45]
        refine ⟨σ', ?_, t⟩
        simp [z, y]
      · rw [if_pos y]
        refine ⟨σ, ?_, TM_.refl hM⟩
        simp [z, y, z0]
    · rw [if_pos z]
      refine ⟨σ, ?_, TM_.refl hM⟩
      simp [z, z0]
  · exact ⟨σ', e45, t⟩
theorem cm_south {σ : St_} {c kd nu fl ni m : Nat} {ce cs cr : Cd_} (h : Cm_ σ c kd nu fl ni m ce cs cr) (p : Pm_ kd nu fl ni m ce cs cr) {on w : Nat} (hon : on < 36) (hw : w < 8) : ∃ σ', f_X9_southOf 5000 σ 0 (nI c) (nI on) (nI w) = some (so_ kd nu fl ni cs on w, σ') ∧ TM_ σ σ' := by
  have h0 := h
  obtain ⟨hM, h1, h2, h3, h4, h5, h6, -⟩ := h
  obtain ⟨p1, p2, p3, p4, p5, p6, p7, p8⟩ := p
  obtain ⟨σ', e1, t⟩ := says_ok h0 ⟨p1, p2, p3, p4, p5, p6, p7, p8⟩ hon (w := w) 1 (by omega)
  have e1' : f_X9_says 5000 σ 0 1 (nI c) (nI on) (nI w) = some (wi_ (va_l (nv6_ nu fl ni on w) cs) (-5) 5, σ') := e1
  refine ⟨σ', ?_, t⟩
  unfold f_X9_southOf f_X9_southOf_69
  rw [dm_0_9 hM, Option.bind_some, lm_5 hM, ix_ok h1 (by omega), Option.bind_some, h2, e1', Option.bind_some]
  unfold so_ sk_
  have q : kd = 0 ∨ kd = 1 ∨ kd = 2 ∨ kd = 3 ∨ kd = 4 ∨ kd = 5 := by omega
  by_cases z : w ≤ 5
  · have z' : nI w ≤ 5 := nI_le (b := 5) z (by omega)
    rw [if_pos z, if_pos z']
    rcases q with rfl | rfl | rfl | rfl | rfl | rfl <;> rfl
  · have z' : ¬ nI w ≤ 5 := nI_ge (a := 5) (by omega) (by omega)
    rw [if_neg z, if_neg z']
    rcases q with rfl | rfl | rfl | rfl | rfl | rfl <;> rfl
theorem cm_goes {σ : St_} {c kd nu fl ni m : Nat} {ce cs cr : Cd_} (h : Cm_ σ c kd nu fl ni m ce cs cr) (p : Pm_ kd nu fl ni m ce cs cr) {on w : Nat} (hon : on < 36) (hw : w < 8) : ∃ σ', f_X9_goesTo 5000 σ 0 (nI c) (nI on) (nI w) = some (nI (gt_ kd nu fl ni m ce cs on w), σ') ∧ TM_ σ σ' := by
  obtain ⟨σ1, e1, t1⟩ := cm_east h p hon hw
  obtain ⟨σ2, e2, t2⟩ := cm_south (h.congr t1) p hon hw
  obtain ⟨r1, r2⟩ := rem6 on hon
  obtain ⟨hM, -, -, -, -, -, hwa, -⟩ := h.congr (t1.trans t2)
  refine ⟨σ2, ?_, t1.trans t2⟩
  unfold f_X9_goesTo gt_
  rw [e1, Option.bind_some]
  simp only
  rw [e2, Option.bind_some]
  simp only
  rw [r1, r2]
  generalize nI (on % 6) + ea_ kd nu fl ni ce on w = x
  generalize nI (on / 6) + so_ kd nu fl ni cs on w = y
  have i1 := in_c (x := x) (n := 5) (5 : Int64) rfl (by omega)
  have i2 := in_c (x := y) (n := 5) (5 : Int64) rfl (by omega)
  rcases bel_c x (n := 6) (by omega) with z | ⟨j, hj, rfl⟩
  · rw [if_pos (i1.mpr z), if_pos (show f_X8_isBelow x 6 = 0 from z)]
  have bj : ¬ f_X8_isBelow (nI j) 6 = 0 := bel_n (n := 6) hj (by omega)
  rw [if_neg bj, if_neg (fun q => bj (i1.mp q))]
  rcases bel_c y (n := 6) (by omega) with z | ⟨k, hk, rfl⟩
  · rw [if_pos (i2.mpr z), if_pos (show f_X8_isBelow y 6 = 0 from z)]
  have bk : ¬ f_X8_isBelow (nI k) 6 = 0 := bel_n (n := 6) hk (by omega)
  rw [if_neg bk, if_neg (fun q => bk (i2.mp q)), nI_clamp (by omega), nI_clamp (by omega), dm_0_8 hM, Option.bind_some, lm_4 hM, (cel6 hj hk).2, ix_ok (by omega) (by omega), Option.bind_some, hwa _ (by omega)]
  by_cases b : m.testBit (6 * k + j) = true
  · rw [if_pos b, if_pos b, if_pos rfl]
  · rw [if_neg b, if_neg b, if_neg (by decide)]
/-- the codes of a text are good -/
theorem gd_part {key : Nat} {ts r : List Tk_} {c : Cd_} (h : pPart_ key ts = (some c, r)) (ht : To_ ts) (hk : key ≠ 0) : ∃ pre, ts = pre ++ r ∧ 2 ≤ pre.length ∧ Gd_ c (pre.length - 2) := by
  unfold pPart_ at h
  by_cases a : hd_ ts = key
  · rw [if_pos a] at h
    cases ts with
    | nil => exact absurd a.symm hk
    | cons x ts =>
      obtain ⟨pre, e, hg⟩ := (wp_lv 5).1 ts (fun y hy => ht y (List.mem_cons_of_mem _ hy))
      simp only [List.tail_cons] at h
      rcases hq : (lv_s 5).1 ts with ⟨_ | cd, r1⟩
      · rw [hq] at h; cases h
      · rw [hq] at h e hg
        simp only at h e hg
        by_cases b : hd_ r1 = 59
        · rw [if_pos b] at h
          cases r1 with
          | nil => exact absurd b (by simp [hd_])
          | cons y r1 =>
            cases h
            refine ⟨x :: (pre ++ [y]), by rw [e]; simp, by simp, ?_⟩
            have : (x :: (pre ++ [y])).length - 2 = pre.length := by simp
            rw [this]
            exact hg c rfl
        · rw [if_neg b] at h; cases h
  · rw [if_neg a] at h; cases h
theorem gd_text {ts : List Tk_} {a b d : Cd_} (h : pText_ ts = (some (a, b, d), [])) (ht : To_ ts) (hl : ts.length ≤ 160) : Gd_ a 158 ∧ Gd_ b 158 ∧ Gd_ d 158 := by
  unfold pText_ at h
  rcases h1 : pPart_ 4 ts with ⟨_ | c1, r1⟩
  · rw [h1] at h; cases h
  rw [h1] at h
  simp only at h
  rcases h2 : pPart_ 5 r1 with ⟨_ | c2, r2⟩
  · rw [h2] at h; cases h
  rw [h2] at h
  simp only at h
  rcases h3 : pPart_ 6 r2 with ⟨_ | c3, r3⟩
  · rw [h3] at h; cases h
  rw [h3] at h
  simp only at h
  obtain ⟨p1, e1, l1, g1⟩ := gd_part h1 ht (by omega)
  have ht1 : To_ r1 := by rw [e1] at ht; exact ht.app
  obtain ⟨p2, e2, l2, g2⟩ := gd_part h2 ht1 (by omega)
  have ht2 : To_ r2 := by rw [e2] at ht1; exact ht1.app
  obtain ⟨p3, e3, l3, g3⟩ := gd_part h3 ht2 (by omega)
  have k1 : p1.length + r1.length ≤ 160 := by rw [e1, List.length_append] at hl; exact hl
  have k2 : p2.length + r2.length = r1.length := by rw [e2, List.length_append]
  have k3 : p3.length + r3.length = r2.length := by rw [e3, List.length_append]
  cases r3 with
  | nil =>
    cases h
    exact ⟨g1.mono (by omega), g2.mono (by omega), g3.mono (by omega)⟩
  | cons x r => cases h
