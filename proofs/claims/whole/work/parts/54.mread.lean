/-! THE REFERENCE READS A TEXT -/
theorem pt34_bd {σ0 σ : St_} {pl : Nat} (h : Bd_ σ0 σ pl) (v : Int32) : f_X9_part_34 5000 σ 0 v = some (v, σ) := by
  unfold f_X9_part_34
  rw [bd_sg h, if_pos rfl, bd_fail h, h.2.1, if_neg (show ¬ (1 : Int32) = 0 by decide)]
theorem mc_part {σ0 : St_} {c : Nat → Nat} {n t : Nat} (hB : Bm_ σ0 c n t) {σ : St_} {ts : List Tk_} (hN : Nx_ σ0 c n σ 0 ts) (key : Nat) (hk : key ≠ 0) (hk1 : key ≠ 1) :
    (∀ cd r, pPart_ key ts = (some cd, r) → ∃ σ', f_X9_part 5000 σ 0 (if hd_ ts = key then 1 else 0) = some (va_l (en0_ σ0) cd, σ') ∧ Nx_ σ0 c n σ' 0 r) ∧ (∀ r, pPart_ key ts = (none, r) → ∃ v σ', f_X9_part 5000 σ 0 (if hd_ ts = key then 1 else 0) = some (v, σ') ∧ Bd_ σ0 σ' (pl_ n r)) := by
  unfold f_X9_part pPart_
  simp only [ite01]
  by_cases a : hd_ ts = key
  · rw [if_neg (not_not_intro a), if_pos a]
    have n0 : ts ≠ [] := fun z => by rw [z] at a; exact hk a.symm
    obtain ⟨σ1, e1, e2⟩ := nx_go hB hN (by rw [a]; exact hk1) n0
    unfold f_X9_part_8
    rw [if_pos (nx_bad hN), e1, Option.bind_some, if_pos (nx_bad e2)]
    obtain ⟨s1, s2⟩ := (mc_l0 hB).1 σ1 _ e2
    rcases hq : (lv_s 5).1 ts.tail with ⟨_ | cd, r⟩
    · obtain ⟨v, σ2, g1, g2⟩ := s2 r hq
      rw [g1, Option.bind_some]
      simp only
      rw [pt34_bd g2]
      refine ⟨fun cd r he => (by cases he), fun r he => ?_⟩
      cases he
      exact ⟨_, _, rfl, g2⟩
    · obtain ⟨σ2, g1, g2⟩ := s1 cd r hq
      rw [g1, Option.bind_some]
      simp only
      unfold f_X9_part_34
      rw [show (59 : Int32) = nI 59 from rfl, isg_t g2 59 (by omega) (by decide)]
      simp only [ite01]
      by_cases b : hd_ r = 59
      · rw [if_neg (not_not_intro b), if_pos b, if_pos (nx_bad g2)]
        obtain ⟨σ3, k1, k2⟩ := nx_go hB g2 (by omega) (fun z => by rw [z] at b; exact absurd b (by simp [hd_]))
        rw [k1, Option.bind_some]
        refine ⟨fun cd' r he => ?_, fun r he => (by cases he)⟩
        cases he
        exact ⟨_, rfl, k2⟩
      · rw [if_pos b, if_neg b]
        have bad := nx_fail g2
        rw [bad.2.1, if_neg (show ¬ (1 : Int32) = 0 by decide)]
        refine ⟨fun cd r he => (by cases he), fun r he => ?_⟩
        cases he
        exact ⟨_, _, rfl, bad⟩
  · rw [if_pos a, if_neg a]
    have bad := nx_fail hN
    unfold f_X9_part_8
    rw [bad.2.1, if_neg (show ¬ (1 : Int32) = 0 by decide), if_neg (show ¬ (1 : Int32) = 0 by decide), pt34_bd bad]
    refine ⟨fun cd r he => (by cases he), fun r he => ?_⟩
    cases he
    exact ⟨_, _, rfl, bad⟩
def pick_ (w : Nat) (a b d : Cd_) : Cd_ := if w = 0 then a else if w = 1 then b else d
theorem rd147 (σ : St_) (w : Nat) (hw : w < 3) (v3 v4 v5 : Int32) : f_X9_read_147 5000 σ (nI w) v3 v4 v5 = some (if w = 0 then v3 else if w = 1 then v4 else v5, σ) := by
  have : w = 0 ∨ w = 1 ∨ w = 2 := by omega
  rcases this with rfl | rfl | rfl <;> rfl
theorem rd_bd {σ0 σ : St_} {pl : Nat} (h : Bd_ σ0 σ pl) (w : Nat) (hw : w < 3) (a b : Int32) : (∃ v, f_X9_read_93 5000 σ 0 (nI w) a b = some (v, σ)) ∧ ∀ d, ∃ v, f_X9_read_127 5000 σ 0 (nI w) a b d = some (v, σ) := by
  have e : ∀ d, ∃ v, f_X9_read_127 5000 σ 0 (nI w) a b d = some (v, σ) := fun d => by
    unfold f_X9_read_127
    rw [h.2.1, if_neg (show ¬ (1 : Int32) = 0 by decide), rd147 _ _ hw]
    exact ⟨_, rfl⟩
  refine ⟨?_, e⟩
  unfold f_X9_read_93
  rw [h.2.1, if_neg (show ¬ (1 : Int32) = 0 by decide)]
  exact e _
theorem mc_read {σ : St_} {c : Nat → Nat} {n t : Nat} (hM : ShM_ σ) (ht : t < 6) (hn : n ≤ 160) (h2 : si_ σ 2 t = nI n) (hc : ∀ j, j < n → c j < 256 ∧ si_ σ 1 (160 * t + j) = nI (c j)) (w : Nat) (hw : w < 3) :
    (∀ ce cs cr r, pText_ (tk_ c n n 0) = (some (ce, cs, cr), r) → ∃ σ', f_X9_read 5000 σ 0 (nI t) (nI w) = some (va_l (en0_ σ) (pick_ w ce cs cr), σ') ∧ ShM_ σ' ∧ Fr_ (fun r k => ¬ (r = 0 ∧ 18 ≤ k ∧ k ≤ 26)) σ σ' ∧ si_ σ' 0 25 = 0) ∧
    (∀ r, pText_ (tk_ c n n 0) = (none, r) → ∃ v σ', f_X9_read 5000 σ 0 (nI t) (nI w) = some (v, σ') ∧ ShM_ σ' ∧ Fr_ (fun r k => ¬ (r = 0 ∧ 18 ≤ k ∧ k ≤ 26)) σ σ' ∧ si_ σ' 0 25 = 1 ∧ si_ σ' 0 26 = nI (pl_ n r)) := by
  have e160 : (160 : Int32) * nI t = nI (160 * t) := (Int32.ofNat_mul 160 t).symm
  let σ0 := ui_ (ui_ σ 0 18 (nI (160 * t))) 0 19 (nI n)
  have hB : Bm_ σ0 c n t := ⟨hM, hn, ht, rfl, rfl, hc⟩
  have hH : Hh_ σ0 n (ui_ (ui_ (ui_ σ0 0 20 0) 0 24 0) 0 25 0) 0 0 := ⟨⟨hM, Fr_.ui (Fr_.ui (Fr_.ui (Fr_.refl _ _) _ _ _ (by simp [mR_])) _ _ _ (by simp [mR_])) _ _ _ (by simp [mR_])⟩, by omega, rfl, rfl, rfl⟩
  have fr0 : Fr_ (fun r k => ¬ (r = 0 ∧ 18 ≤ k ∧ k ≤ 26)) σ σ0 := Fr_.ui (Fr_.ui (Fr_.refl _ _) _ _ _ (by simp)) _ _ _ (by simp)
  have fr : ∀ {τ : St_}, Fm_ σ0 τ → Fr_ (fun r k => ¬ (r = 0 ∧ 18 ≤ k ∧ k ≤ 26)) σ τ := fun h => fr0.trans (h.2.mono (fun r k z => by simp only [mR_]; omega))
  have env : en0_ σ0 = en0_ σ := by
    funext k
    unfold en0_
    by_cases hk : k < 6
    · rw [if_pos hk, if_pos hk]
      show si_ (ui_ (ui_ σ 0 18 (nI (160 * t))) 0 19 (nI n)) 0 (12 + k) = si_ σ 0 (12 + k)
      rw [g_si_ui, if_pos rfl, if_neg (by omega), g_si_ui, if_pos rfl, if_neg (by omega)]
    · rw [if_neg hk, if_neg hk]
  obtain ⟨σ1, e1, e2⟩ := nx_ok hB hH
  have e0 : f_X9_read 5000 σ 0 (nI t) (nI w) = (f_X9_isWord_ σ1 0 (101 : Int32) (97 : Int32) (115 : Int32) (116 : Int32) (115 : Int32) (0 : Int32) (0 : Int32) (0 : Int32)).bind fun q6 => (f_X9_part 5000 σ1 0 q6).bind fun q8 => if (si_ q8.2 0 25) = 0 then (f_X9_isWord_ q8.2 0 (115 : Int32) (111 : Int32) (117 : Int32) (116 : Int32) (104 : Int32) (115 : Int32) (0 : Int32) (0 : Int32)).bind fun q10 => (f_X9_part 5000 q8.2 0 q10).bind fun q12 => f_X9_read_93 5000 q12.2 0 (nI w) q8.1 q12.1 else f_X9_read_93 5000 q8.2 0 (nI w) q8.1 (0 : Int32) := by
    unfold f_X9_read
    rw [e160, show dr_ (ui_ σ 0 18 (nI (160 * t))) 10 (sr_ (ui_ σ 0 18 (nI (160 * t))) 0 2) = some 2 from dm_0_2 hM, Option.bind_some, show ln_ (ui_ σ 0 18 (nI (160 * t))) 2 = 6 from lm_2 hM, ix_ok ht (by omega), Option.bind_some, show si_ (ui_ σ 0 18 (nI (160 * t))) 2 t = nI n from h2, e1, Option.bind_some]
  rw [e0]
  generalize tk_ c n n 0 = T at *
  have w1 := (isw_l hB e2).2.2.2.2.2.2.1
  rw [w1, Option.bind_some]
  obtain ⟨s1, s2⟩ := mc_part hB e2 4 (by omega) (by omega)
  unfold pText_
  rcases hP : pPart_ 4 T with ⟨_ | ce, r1⟩
  · obtain ⟨v, σ2, g1, g2⟩ := s2 r1 hP
    rw [g1, Option.bind_some]
    simp only
    rw [g2.2.1, if_neg (show ¬ (1 : Int32) = 0 by decide)]
    obtain ⟨v', hv⟩ := (rd_bd g2 w hw v 0).1
    rw [hv]
    refine ⟨fun _ _ _ _ he => (by cases he), fun r' he => ?_⟩
    cases he
    exact ⟨_, _, rfl, g2.1.1, fr g2.1, g2.2.1, g2.2.2⟩
  obtain ⟨σ2, g1, g2⟩ := s1 ce r1 hP
  rw [g1, Option.bind_some]
  simp only
  rw [if_pos (nx_bad g2)]
  have w2 := (isw_l hB g2).2.2.2.2.2.2.2.1
  rw [w2, Option.bind_some]
  obtain ⟨s1, s2⟩ := mc_part hB g2 5 (by omega) (by omega)
  rcases hP2 : pPart_ 5 r1 with ⟨_ | cs, r2⟩
  · obtain ⟨v, σ3, k1, k2⟩ := s2 r2 hP2
    rw [k1, Option.bind_some]
    simp only
    obtain ⟨v', hv⟩ := (rd_bd k2 w hw (va_l (en0_ σ0) ce) v).1
    rw [hv]
    refine ⟨fun _ _ _ _ he => (by cases he), fun r' he => ?_⟩
    cases he
    exact ⟨_, _, rfl, k2.1.1, fr k2.1, k2.2.1, k2.2.2⟩
  obtain ⟨σ3, k1, k2⟩ := s1 cs r2 hP2
  rw [k1, Option.bind_some]
  simp only
  unfold f_X9_read_93
  rw [if_pos (nx_bad k2)]
  have w3 := (isw_l hB k2).2.2.2.2.2.2.2.2.1
  rw [w3, Option.bind_some]
  obtain ⟨s1, s2⟩ := mc_part hB k2 6 (by omega) (by omega)
  rcases hP3 : pPart_ 6 r2 with ⟨_ | cr, r3⟩
  · obtain ⟨v, σ4, l1, l2⟩ := s2 r3 hP3
    rw [l1, Option.bind_some]
    simp only
    obtain ⟨v', hv⟩ := (rd_bd l2 w hw (va_l (en0_ σ0) ce) (va_l (en0_ σ0) cs)).2 v
    rw [hv]
    refine ⟨fun _ _ _ _ he => (by cases he), fun r' he => ?_⟩
    cases he
    exact ⟨_, _, rfl, l2.1.1, fr l2.1, l2.2.1, l2.2.2⟩
  obtain ⟨σ4, l1, l2⟩ := s1 cr r3 hP3
  rw [l1, Option.bind_some]
  simp only
  unfold f_X9_read_127
  rw [if_pos (nx_bad l2)]
  have n3 := (nx_21 l2).2.2.1
  have fm4 : Fm_ σ0 σ4 := by obtain ⟨-, h, hH, -⟩ := l2; exact hH.1
  cases r3 with
  | nil =>
    rw [if_pos (n3.mpr rfl), rd147 _ _ hw]
    refine ⟨fun ce' cs' cr' r' he => ?_, fun r' he => (by cases he)⟩
    cases he
    refine ⟨σ4, ?_, fm4.1, fr fm4, nx_bad l2⟩
    rw [← env]
    unfold pick_
    by_cases z0 : w = 0
    · rw [if_pos z0, if_pos z0]
    · rw [if_neg z0, if_neg z0]
      by_cases z1 : w = 1
      · rw [if_pos z1, if_pos z1]
      · rw [if_neg z1, if_neg z1]
  | cons x r' =>
    rw [if_neg (fun z => by cases n3.mp z), rd147 _ _ hw]
    have bad := nx_fail l2
    refine ⟨fun _ _ _ _ he => (by cases he), fun r' he => ?_⟩
    cases he
    exact ⟨_, _, rfl, bad.1.1, fr bad.1, bad.2.1, bad.2.2⟩
