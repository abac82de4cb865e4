/-! THE REFERENCE'S TOKENS: next -/
theorem sg_c : ∀ x, x < 256 → (isS_ x = true ↔ (nI x = 40 ∨ nI x = 41 ∨ nI x = 59 ∨ nI x = 43 ∨ nI x = 45 ∨ nI x = 42 ∨ nI x = 60 ∨ nI x = 61)) := by decide +kernel
theorem w_c : ∀ x, x < 256 → (isW_ x = true ↔ (nI x = 32 ∨ nI x = 10)) := by decide +kernel
theorem nx_0 {σ0 : St_} {c : Nat → Nat} {n t : Nat} (hB : Bm_ σ0 c n t) {d : Nat} : ∀ (k g h : Nat) (σ : St_), n - h ≤ k → n - h < g → Hh_ σ0 n σ d h → ∃ σ', f_X9_next_0 5000 g σ 0 = some σ' ∧ Nx_ σ0 c n σ' d (tk_ c n n h) := by
  intro k
  have hn := hB.2.1
  have endc : ∀ (g h : Nat) (σ : St_), n ≤ h → Hh_ σ0 n σ d h → ∃ σ', f_X9_next_0 5000 (g + 1) σ 0 = some σ' ∧ Nx_ σ0 c n σ' d (tk_ c n n h) := by
    intro g h σ hh hH
    have hH0 := hH
    obtain ⟨hf, h1, e20, e24, e25⟩ := hH
    have b0 : f_X9_byteAt σ 0 (si_ σ 0 20) = some (-1) := by rw [e20]; exact byt_o hB hf hh (by omega)
    have b1 : f_X9_byteAt (ui_ σ 0 22 (si_ σ 0 20)) 0 (si_ (ui_ σ 0 22 (si_ σ 0 20)) 0 20) = some (-1) := by
      have : si_ (ui_ σ 0 22 (si_ σ 0 20)) 0 20 = nI h := e20
      rw [this]
      exact byt_o hB (hf.ui _ (by omega)) hh (by omega)
    refine ⟨ui_ (ui_ (ui_ (ui_ σ 0 22 (si_ σ 0 20)) 0 21 4) 0 21 0) 0 22 (si_ σ 0 19), ?_, ?_⟩
    · show ((f_X9_byteAt σ 0 (si_ σ 0 20)).bind fun q1 => if q1 = (32 : Int32) then _ else (f_X9_byteAt σ 0 (si_ σ 0 20)).bind fun q3 => if q3 = (10 : Int32) then _ else (f_X9_byteAt (ui_ σ 0 22 (si_ σ 0 20)) 0 (si_ (ui_ σ 0 22 (si_ σ 0 20)) 0 20)).bind fun q5 => if 0 ≤ q5 then _ else _) = _
      rw [b0, Option.bind_some, if_neg (by decide), Option.bind_some, if_neg (by decide), b1, Option.bind_some, if_neg (by decide)]
      rfl
    · rw [tk_e c n h hh]
      refine ⟨⟨fun x hx => (by cases hx), by simp⟩, h, ⟨(((hf.ui _ (by omega)).ui _ (by omega)).ui _ (by omega)).ui _ (by omega), h1, e20, e24, e25⟩, Or.inl ⟨rfl, rfl, ?_⟩⟩
      show si_ σ 0 19 = nI n
      rw [hf.2.i (r := 0) (k := 19) (by simp [mR_]), hB.2.2.2.1]
  induction k with
  | zero =>
    intro g h σ h1 h2 hH
    obtain ⟨g, rfl⟩ : ∃ g', g = g' + 1 := ⟨g - 1, by omega⟩
    exact endc g h σ (by omega) hH
  | succ k ih =>
    intro g h σ h1 h2 hH
    obtain ⟨g, rfl⟩ : ∃ g', g = g' + 1 := ⟨g - 1, by omega⟩
    rcases Nat.lt_or_ge h n with hh | hh
    · have hH0 := hH
      obtain ⟨hf, h1', e20, e24, e25⟩ := hH
      have hc := (hB.2.2.2.2.2 h hh).1
      have b0 : f_X9_byteAt σ 0 (si_ σ 0 20) = some (nI (c h)) := by rw [e20]; exact byt_i hB hf hh
      have b1 : f_X9_byteAt (ui_ σ 0 22 (si_ σ 0 20)) 0 (si_ (ui_ σ 0 22 (si_ σ 0 20)) 0 20) = some (nI (c h)) := by
        have : si_ (ui_ σ 0 22 (si_ σ 0 20)) 0 20 = nI h := e20
        rw [this]
        exact byt_i hB (hf.ui _ (by omega)) hh
      by_cases aw : isW_ (c h) = true
      · have e0 : f_X9_next_0 5000 (g + 1) σ 0 = f_X9_next_0 5000 g (ui_ σ 0 20 (nI (h + 1))) 0 := by
          show ((f_X9_byteAt σ 0 (si_ σ 0 20)).bind fun q1 => if q1 = (32 : Int32) then (f_X9_next_0 5000 g) (ui_ σ 0 20 ((si_ σ 0 20) + (1 : Int32))) 0 else (f_X9_byteAt σ 0 (si_ σ 0 20)).bind fun q3 => if q3 = (10 : Int32) then (f_X9_next_0 5000 g) (ui_ σ 0 20 ((si_ σ 0 20) + (1 : Int32))) 0 else _) = _
          rw [b0, Option.bind_some, Option.bind_some, e20, nI_1]
          rcases (w_c _ hc).mp aw with z | z
          · rw [if_pos z]
          · rw [if_pos z]
            split <;> rfl
        rw [e0, tk_u c n h hh]
        have nL : ¬ isL_ (c h) = true := (show ∀ x, x < 256 → isW_ x = true → ¬ isL_ x = true by decide +kernel) _ hc aw
        have nD : ¬ isD_ (c h) = true := (show ∀ x, x < 256 → isW_ x = true → ¬ isD_ x = true by decide +kernel) _ hc aw
        rw [if_neg nL, if_neg nD, if_pos aw]
        exact ih g (h + 1) _ (by omega) (by omega) ⟨hf.ui _ (by omega), by omega, rfl, e24, e25⟩
      · have nw : ¬ nI (c h) = 32 ∧ ¬ nI (c h) = 10 := ⟨fun z => aw ((w_c _ hc).mpr (Or.inl z)), fun z => aw ((w_c _ hc).mpr (Or.inr z))⟩
        let σ1 := ui_ (ui_ σ 0 22 (nI h)) 0 21 4
        have hf1 : Fm_ σ0 σ1 := (hf.ui _ (by omega)).ui _ (by omega)
        have e0 : f_X9_next_0 5000 (g + 1) σ 0 = (if (f_X9_in (nI (c h)).toInt64 (97 : Int64) (122 : Int64)) = 0 then if (f_X9_in (nI (c h)).toInt64 (48 : Int64) (57 : Int64)) = 0 then if nI (c h) = (40 : Int32) then f_X9_next_300 5000 σ1 0 (nI (c h)) else if nI (c h) = (41 : Int32) then f_X9_next_300 5000 σ1 0 (nI (c h)) else if nI (c h) = (59 : Int32) then f_X9_next_300 5000 σ1 0 (nI (c h)) else if nI (c h) = (43 : Int32) then f_X9_next_300 5000 σ1 0 (nI (c h)) else if nI (c h) = (45 : Int32) then f_X9_next_300 5000 σ1 0 (nI (c h)) else if nI (c h) = (42 : Int32) then f_X9_next_300 5000 σ1 0 (nI (c h)) else if nI (c h) = (60 : Int32) then f_X9_next_300 5000 σ1 0 (nI (c h)) else if nI (c h) = (61 : Int32) then f_X9_next_300 5000 σ1 0 (nI (c h)) else some σ1 else f_X9_next_160 5000 5000 (ul_ (ui_ σ1 0 21 (2 : Int32)) 0 23 (0 : Int64)) 0 (0 : Int32) else f_X9_next_100 5000 5000 (ui_ σ1 0 21 (1 : Int32)) 0) := by
          show ((f_X9_byteAt σ 0 (si_ σ 0 20)).bind fun q1 => if q1 = (32 : Int32) then _ else (f_X9_byteAt σ 0 (si_ σ 0 20)).bind fun q3 => if q3 = (10 : Int32) then _ else (f_X9_byteAt (ui_ σ 0 22 (si_ σ 0 20)) 0 (si_ (ui_ σ 0 22 (si_ σ 0 20)) 0 20)).bind fun q5 => if 0 ≤ q5 then _ else _) = _
          rw [b0, Option.bind_some, if_neg nw.1, Option.bind_some, if_neg nw.2, b1, Option.bind_some, if_pos (nI_pos' (by omega)), e20]
        rw [e0, tk_u c n h hh]
        by_cases a1 : isL_ (c h) = true
        · rw [if_neg (fun z => (in_l _ hc).mp z a1), if_pos a1]
          have := nx100 hB n 5000 h (ui_ σ1 0 21 1) (by omega) (by omega) (by omega) (hf1.ui _ (by omega)) e20
          rw [this]
          have hl := rn_1 isL_ c n h hh a1
          obtain ⟨-, q2, q3⟩ := rn_i isL_ c n n h
          have q2 := q2 (by omega)
          have ht : To3_ ((wt_ c h (rn_ isL_ c n n h), h, 0) :: tk_ c n n (rn_ isL_ c n n h)) := by
            have := to3_tk c hn h
            rw [tk_u c n h hh, if_pos a1] at this
            exact this
          exact ⟨_, rfl, ht, rn_ isL_ c n n h, ⟨(hf1.ui _ (by omega)).ui _ (by omega), q2, rfl, e24, e25⟩, Or.inr ⟨_, h, 0, _, rfl, rfl, by omega, Or.inl ⟨rfl, hl, rfl, fun j z1 z2 => (q3 j z1 z2).2, rfl⟩⟩⟩
        rw [if_pos ((in_l _ hc).mpr a1), if_neg a1]
        by_cases a2 : isD_ (c h) = true
        · rw [if_neg (fun z => (in_d _ hc).mp z a2), if_pos a2]
          have hl := rn_1 isD_ c n h hh a2
          obtain ⟨-, q2, q3⟩ := rn_i isD_ c n n h
          have q2 := q2 (by omega)
          obtain ⟨σ', r1, r2, r3, r4, r5, r6, r7, r8⟩ := nx160 hB (i := h) n 5000 0 (ul_ (ui_ σ1 0 21 (2 : Int32)) 0 23 (0 : Int64)) (by omega) (by omega) (by omega) (fun q z1 z2 => by omega) ((hf1.ui _ (by omega)).ul _ (by omega)) e20 rfl
          rw [Nat.add_zero] at r3 r4 r5
          have ht : To3_ (((if 4 < rn_ isD_ c n n h - h then 1 else 2), h, nv_ c h (rn_ isD_ c n n h - h)) :: tk_ c n n (rn_ isD_ c n n h)) := by
            have := to3_tk c hn h
            rw [tk_u c n h hh, if_neg a1, if_pos a2] at this
            exact this
          refine ⟨σ', r1, ht, rn_ isD_ c n n h, ⟨r2, q2, r3, r7.trans e24, r8.trans e25⟩, Or.inr ⟨_, h, _, _, rfl, r6, by omega, ?_⟩⟩
          by_cases a3 : 4 < rn_ isD_ c n n h - h
          · rw [if_pos a3] at r4 ⊢
            exact Or.inr (Or.inr (Or.inr ⟨r4, rfl⟩))
          · rw [if_neg a3] at r4 ⊢
            rw [show min (rn_ isD_ c n n h - h) 4 = rn_ isD_ c n n h - h by omega] at r5
            refine Or.inr (Or.inl ⟨r4, rfl, r5, ?_, rfl⟩)
            rw [if_neg a3] at ht
            exact ht.1 _ List.mem_cons_self rfl
        rw [if_pos ((in_d _ hc).mpr a2), if_neg a2, if_neg aw]
        have ht : To3_ (((if isS_ (c h) = true then c h else 1), h, 0) :: tk_ c n n (h + 1)) := by
          have := to3_tk c hn h
          rw [tk_u c n h hh, if_neg a1, if_neg a2, if_neg aw] at this
          exact this
        by_cases a4 : isS_ (c h) = true
        · rw [if_pos a4] at ht ⊢
          have e1 : (if nI (c h) = (40 : Int32) then f_X9_next_300 5000 σ1 0 (nI (c h)) else if nI (c h) = (41 : Int32) then f_X9_next_300 5000 σ1 0 (nI (c h)) else if nI (c h) = (59 : Int32) then f_X9_next_300 5000 σ1 0 (nI (c h)) else if nI (c h) = (43 : Int32) then f_X9_next_300 5000 σ1 0 (nI (c h)) else if nI (c h) = (45 : Int32) then f_X9_next_300 5000 σ1 0 (nI (c h)) else if nI (c h) = (42 : Int32) then f_X9_next_300 5000 σ1 0 (nI (c h)) else if nI (c h) = (60 : Int32) then f_X9_next_300 5000 σ1 0 (nI (c h)) else if nI (c h) = (61 : Int32) then f_X9_next_300 5000 σ1 0 (nI (c h)) else some σ1) = f_X9_next_300 5000 σ1 0 (nI (c h)) := by
            have hz := (sg_c _ hc).mp a4
            repeat' split
            all_goals first | rfl | (exfalso; rcases hz with z | z | z | z | z | z | z | z <;> contradiction)
          rw [e1]
          refine ⟨_, rfl, ht, h + 1, ⟨((hf1.ui _ (by omega)).ul _ (by omega)).ui _ (by omega), by omega, ?_, e24, e25⟩, Or.inr ⟨_, h, 0, _, rfl, rfl, by omega, Or.inr (Or.inr (Or.inl ⟨rfl, a4, hc, ?_, rfl⟩))⟩⟩
          · rw [g_si_ui, if_pos rfl, if_pos rfl, ← nI_1]
            congr 1
          · show sl_ (ul_ _ 0 23 _) 0 23 = _
            rw [g_sl_ul, if_pos rfl, if_pos rfl, nI_l (by omega)]
        · rw [if_neg a4] at ht ⊢
          have hz := fun z => a4 ((sg_c _ hc).mpr z)
          rw [if_neg (fun z => hz (Or.inl z)), if_neg (fun z => hz (Or.inr (Or.inl z))), if_neg (fun z => hz (Or.inr (Or.inr (Or.inl z)))), if_neg (fun z => hz (Or.inr (Or.inr (Or.inr (Or.inl z))))), if_neg (fun z => hz (Or.inr (Or.inr (Or.inr (Or.inr (Or.inl z)))))), if_neg (fun z => hz (Or.inr (Or.inr (Or.inr (Or.inr (Or.inr (Or.inl z))))))), if_neg (fun z => hz (Or.inr (Or.inr (Or.inr (Or.inr (Or.inr (Or.inr (Or.inl z)))))))), if_neg (fun z => hz (Or.inr (Or.inr (Or.inr (Or.inr (Or.inr (Or.inr (Or.inr z))))))))]
          exact ⟨_, rfl, ht, h, ⟨hf1, by omega, e20, e24, e25⟩, Or.inr ⟨_, h, 0, _, rfl, rfl, by omega, Or.inr (Or.inr (Or.inr ⟨rfl, rfl⟩))⟩⟩
    · exact endc g h σ hh hH
theorem nx_ok {σ0 : St_} {c : Nat → Nat} {n t : Nat} (hB : Bm_ σ0 c n t) {d h : Nat} {σ : St_} (hH : Hh_ σ0 n σ d h) : ∃ σ', f_X9_next 5000 σ 0 = some σ' ∧ Nx_ σ0 c n σ' d (tk_ c n n h) := nx_0 hB n 5000 h σ (by omega) (by have := hB.2.1; omega) hH
/-- on to the next token -/
theorem nx_go {σ0 : St_} {c : Nat → Nat} {n t : Nat} (hB : Bm_ σ0 c n t) {d : Nat} {σ : St_} {ts : List Tk_} (hN : Nx_ σ0 c n σ d ts) (h1 : hd_ ts ≠ 1) (h0 : ts ≠ []) : ∃ σ', f_X9_next 5000 σ 0 = some σ' ∧ Nx_ σ0 c n σ' d ts.tail := by
  obtain ⟨-, h, hH, h2⟩ := hN
  rcases h2 with ⟨z, -, -⟩ | ⟨t, pl, v, r, rfl, e22, hp, h3⟩
  · exact absurd z h0
  · have := nx_ok hB hH
    rcases h3 with ⟨-, -, -, -, hr⟩ | ⟨-, -, -, -, hr⟩ | ⟨-, -, -, -, hr⟩ | ⟨-, hr⟩
    · rw [← hr] at this; exact this
    · rw [← hr] at this; exact this
    · rw [← hr] at this; exact this
    · exact absurd hr h1
