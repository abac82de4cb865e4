/-! THE REFERENCE'S READER, level by level -/
theorem nx_21 {σ0 : St_} {c : Nat → Nat} {n d : Nat} {σ : St_} {ts : List Tk_} (hN : Nx_ σ0 c n σ d ts) : (si_ σ 0 21 = 2 ↔ hd_ ts = 2) ∧ (16 ≤ hd_ ts ∧ hd_ ts < 22 → si_ σ 0 21 = 1) ∧ (si_ σ 0 21 = 0 ↔ ts = []) ∧ (∀ pl v r, ts = (2, pl, v) :: r → sl_ σ 0 23 = lN v) := by
  obtain ⟨-, h, hH, h2⟩ := hN
  rcases h2 with ⟨rfl, e21, -⟩ | ⟨t, pl, v, r, rfl, e22, hp, h3⟩
  · rw [e21]
    refine ⟨⟨fun z => absurd z (by decide), fun z => absurd z (by simp [hd_])⟩, fun z => absurd z (by simp [hd_]), ⟨fun _ => rfl, fun _ => rfl⟩, fun _ _ _ z => by cases z⟩
  · have e : hd_ ((t, pl, v) :: r) = t := rfl
    rw [e]
    rcases h3 with ⟨e21, hlt, ht, hl, -⟩ | ⟨e21, ht, el, -⟩ | ⟨e21, ht, ht2, el, -⟩ | ⟨e21, ht⟩
    · have := wt_22 c pl h
      rw [e21]
      exact ⟨⟨fun z => absurd z (by decide), fun z => by omega⟩, fun _ => rfl, ⟨fun z => absurd z (by decide), fun z => by cases z⟩, fun _ _ _ z => by cases z; omega⟩
    · rw [e21]
      exact ⟨⟨fun z => ht, fun z => rfl⟩, fun _ => by omega, ⟨fun z => absurd z (by decide), fun z => by cases z⟩, fun _ _ _ z => by cases z; exact el⟩
    · have := iss_40 _ ht2 ht
      rw [e21]
      exact ⟨⟨fun z => absurd z (by decide), fun z => by omega⟩, fun _ => by omega, ⟨fun z => absurd z (by decide), fun z => by cases z⟩, fun _ _ _ z => by cases z; omega⟩
    · rw [e21]
      exact ⟨⟨fun z => absurd z (by decide), fun z => by omega⟩, fun _ => by omega, ⟨fun z => absurd z (by decide), fun z => by cases z⟩, fun _ _ _ z => by cases z; omega⟩
def at1_ (σ : St_) (v1 : Int32) : Option (Int32 × St_) := if (si_ σ 0 25) = 0 then if (si_ σ 0 21) = (1 : Int32) then (f_X9_name σ 0).bind fun q5 => if (si_ q5.2 0 25) = 0 then (f_X9_next 5000 q5.2 0).bind fun q7 => some (q5.1, q7) else some (q5.1, q5.2) else some (v1, f_X9_fail σ 0) else some (v1, f_X9_fail σ 0)
def at7_ (σ : St_) (v1 : Int32) : Option (Int32 × St_) := if (si_ (ui_ σ 0 24 ((si_ σ 0 24) - (1 : Int32))) 0 25) = 0 then (f_X9_next 5000 (ui_ σ 0 24 ((si_ σ 0 24) - (1 : Int32))) 0).bind fun q2 => some (v1, q2) else some (v1, ui_ σ 0 24 ((si_ σ 0 24) - (1 : Int32)))
def at_ (A E : Gm_) (σ : St_) : Option (Int32 × St_) := if (f_X9_isSign σ 0 (45 : Int32)) = 0 then if (f_X9_isSign σ 0 (40 : Int32)) = 0 then if (si_ σ 0 25) = 0 then if (si_ σ 0 21) = (2 : Int32) then (f_X9_next 5000 σ 0).bind fun q9 => some ((sl_ σ 0 23).toInt32, q9) else at1_ σ (0 : Int32) else at1_ σ (0 : Int32) else (f_X9_opens 5000 σ 0).bind fun q10 => if q10.1 = 0 then some ((0 : Int32), q10.2) else (E q10.2 0).bind fun q13 => if (f_X9_isSign q13.2 0 (41 : Int32)) = 0 then at7_ (f_X9_fail q13.2 0) q13.1 else at7_ q13.2 q13.1 else (f_X9_opens 5000 σ 0).bind fun q18 => if q18.1 = 0 then some ((0 : Int32), q18.2) else (A q18.2 0).bind fun q21 => some (-q21.1, ui_ q21.2 0 24 ((si_ q21.2 0 24) - (1 : Int32)))
def at5_ (σ : St_) : Option (Int32 × St_) := if (f_X9_isSign σ 0 (45 : Int32)) = 0 then if (f_X9_isSign σ 0 (40 : Int32)) = 0 then if (si_ σ 0 25) = 0 then if (si_ σ 0 21) = (2 : Int32) then (f_X9_next 5000 σ 0).bind fun q9 => some ((sl_ σ 0 23).toInt32, q9) else at1_ σ (0 : Int32) else at1_ σ (0 : Int32) else (f_X9_opens 5000 σ 0).bind fun q10 => some ((0 : Int32), q10.2) else (f_X9_opens 5000 σ 0).bind fun q12 => some ((0 : Int32), q12.2)
/-- no sign that opens: a number, a name, or wrong -/
theorem at_low {σ0 : St_} {c : Nat → Nat} {n t : Nat} (hB : Bm_ σ0 c n t) {K : Nat} {can : Bool} {pO pA : List Tk_ → PR_} {σ : St_} {ts : List Tk_} (hN : Nx_ σ0 c n σ K ts) (h45 : hd_ ts ≠ 45 ∨ can = false) (h40 : hd_ ts ≠ 40 ∨ can = false) (R : Option (Int32 × St_))
    (hR : R = if (si_ σ 0 25) = 0 then if (si_ σ 0 21) = (2 : Int32) then (f_X9_next 5000 σ 0).bind fun q9 => some ((sl_ σ 0 23).toInt32, q9) else at1_ σ (0 : Int32) else at1_ σ (0 : Int32)) :
    (∀ cd r, pOne_ can pO pA ts = (some cd, r) → ∃ σ', R = some (va_l (en0_ σ0) cd, σ') ∧ Nx_ σ0 c n σ' K r) ∧ (∀ r, pOne_ can pO pA ts = (none, r) → ∃ v σ', R = some (v, σ') ∧ Bd_ σ0 σ' (pl_ n r)) := by
  obtain ⟨n1, n2, n3, n4⟩ := nx_21 hN
  rw [hR, if_pos (nx_bad hN)]
  unfold at1_
  rw [if_pos (nx_bad hN)]
  have bad := nx_fail hN
  cases ts with
  | nil =>
    rw [if_neg (fun z => absurd (n1.mp z) (by simp [hd_])), n3.mpr rfl, if_neg (by decide)]
    refine ⟨fun cd r he => (by cases he), fun r he => ?_⟩
    cases he
    exact ⟨_, _, rfl, bad⟩
  | cons x r =>
    obtain ⟨t, pl, v⟩ := x
    have e : hd_ ((t, pl, v) :: r) = t := rfl
    rw [e] at h45 h40 n1 n2
    unfold pOne_
    simp only
    by_cases a1 : t = 2
    · subst a1
      rw [if_pos rfl, if_pos (n1.mpr rfl), n4 pl v r rfl, lN_i]
      obtain ⟨σ', f1, f2⟩ := nx_go hB hN (by rw [e]; omega) (by simp)
      rw [f1, Option.bind_some]
      refine ⟨fun cd r' he => ?_, fun r' he => (by cases he)⟩
      cases he
      exact ⟨σ', rfl, f2⟩
    rw [if_neg a1, if_neg (fun z => a1 (n1.mp z)), nm_ok hB hN, e]
    by_cases a2 : 16 ≤ t ∧ t < 22
    · rw [if_pos a2, if_pos a2, if_pos (n2 a2), Option.bind_some]
      simp only
      rw [if_pos (nx_bad hN)]
      obtain ⟨σ', f1, f2⟩ := nx_go hB hN (by rw [e]; omega) (by simp)
      rw [f1, Option.bind_some]
      refine ⟨fun cd r' he => ?_, fun r' he => (by cases he)⟩
      cases he
      exact ⟨σ', rfl, f2⟩
    rw [if_neg a2, if_neg a2, if_neg (fun z => by rcases h45 with w | w; exact w z.1; rw [w] at z; exact absurd z.2 (by decide)), if_neg (fun z => by rcases h40 with w | w; exact w z.1; rw [w] at z; exact absurd z.2 (by decide)), Option.bind_some]
    simp only
    rw [bad.2.1, if_neg (show ¬ (1 : Int32) = 0 by decide)]
    refine ⟨fun cd r' he => (by cases he), fun r' he => ?_⟩
    cases he
    refine ⟨0, f_X9_fail σ 0, ?_, bad⟩
    split <;> rfl
theorem mc_at {σ0 : St_} {c : Nat → Nat} {n t : Nat} (hB : Bm_ σ0 c n t) {A E : Gm_} {K : Nat} {pO pA : List Tk_ → PR_} (hK : K < 5) (hA : MC_ σ0 c n A (K + 1) pA) (hE : MC_ σ0 c n E (K + 1) pO) (wA : Wp_ pA) (G : Gm_) (hG : ∀ σ, G σ 0 = at_ A E σ) : MC_ σ0 c n G K (pOne_ true pO pA) := by
  intro σ ts hN
  rw [hG]
  unfold at_
  rw [show (45 : Int32) = nI 45 from rfl, isg_t hN 45 (by omega) (by decide), show (40 : Int32) = nI 40 from rfl, isg_t hN 40 (by omega) (by decide)]
  simp only [ite01]
  by_cases a1 : hd_ ts = 45
  · rw [if_neg (not_not_intro a1)]
    obtain ⟨σ1, f1, f2⟩ := nx_op hB hN hK (by omega) (fun z => by rw [z] at a1; exact absurd a1 (by simp [hd_]))
    rw [f1, Option.bind_some, if_neg (show ¬ (1 : Int32) = 0 by decide)]
    cases ts with
    | nil => exact absurd a1 (by simp [hd_])
    | cons x r =>
      obtain ⟨t, pl, v⟩ := x
      have : t = 45 := a1
      subst this
      unfold pOne_
      simp only
      rw [if_neg (by decide), if_neg (by decide), if_pos (by simp)]
      obtain ⟨s1, s2⟩ := hA σ1 _ f2
      simp only [List.tail_cons] at s1 s2 f2
      rcases hq : pA r with ⟨_ | cd, r'⟩
      · obtain ⟨v, σ2, g1, g2⟩ := s2 r' hq
        rw [g1, Option.bind_some]
        refine ⟨fun cd r he => (by cases he), fun r he => ?_⟩
        cases he
        exact ⟨_, _, rfl, bd_cl g2 _⟩
      · obtain ⟨σ2, g1, g2⟩ := s1 cd r' hq
        rw [g1, Option.bind_some]
        refine ⟨fun cd' r he => ?_, fun r he => (by cases he)⟩
        cases he
        obtain ⟨pre, ep, hgd⟩ := wA r f2.1.1
        rw [hq] at hgd
        rw [vl_un (hgd cd rfl) 3 (Or.inr rfl)]
        exact ⟨_, rfl, nx_cl g2⟩
  rw [if_pos a1]
  by_cases a2 : hd_ ts = 40
  · rw [if_neg (not_not_intro a2)]
    obtain ⟨σ1, f1, f2⟩ := nx_op hB hN hK (by omega) (fun z => by rw [z] at a2; exact absurd a2 (by simp [hd_]))
    rw [f1, Option.bind_some, if_neg (show ¬ (1 : Int32) = 0 by decide)]
    cases ts with
    | nil => exact absurd a2 (by simp [hd_])
    | cons x r =>
      obtain ⟨t, pl, v⟩ := x
      have : t = 40 := a2
      subst this
      unfold pOne_
      simp only
      rw [if_neg (by decide), if_neg (by decide), if_neg (by decide), if_pos (by simp)]
      obtain ⟨s1, s2⟩ := hE σ1 _ f2
      simp only [List.tail_cons] at s1 s2 f2
      rcases hq : pO r with ⟨_ | cd, r'⟩
      · obtain ⟨v, σ2, g1, g2⟩ := s2 r' hq
        rw [g1, Option.bind_some]
        simp only
        rw [bd_sg g2, if_pos rfl, bd_fail g2]
        unfold at7_
        have := bd_cl g2 (si_ σ2 0 24 - 1)
        rw [this.2.1, if_neg (show ¬ (1 : Int32) = 0 by decide)]
        refine ⟨fun cd r he => (by cases he), fun r he => ?_⟩
        cases he
        exact ⟨_, _, rfl, this⟩
      · obtain ⟨σ2, g1, g2⟩ := s1 cd r' hq
        rw [g1, Option.bind_some]
        simp only
        rw [show (41 : Int32) = nI 41 from rfl, isg_t g2 41 (by omega) (by decide)]
        simp only [ite01]
        by_cases a3 : hd_ r' = 41
        · rw [if_neg (not_not_intro a3), if_pos a3]
          unfold at7_
          have g3 := nx_cl g2
          rw [if_pos (nx_bad g3)]
          obtain ⟨σ3, k1, k2⟩ := nx_go hB g3 (by omega) (fun z => by rw [z] at a3; exact absurd a3 (by simp [hd_]))
          rw [k1, Option.bind_some]
          refine ⟨fun cd' r he => ?_, fun r he => (by cases he)⟩
          cases he
          exact ⟨_, rfl, k2⟩
        · rw [if_pos a3, if_neg a3]
          have bad := nx_fail g2
          unfold at7_
          have := bd_cl bad (si_ (f_X9_fail σ2 0) 0 24 - 1)
          rw [this.2.1, if_neg (show ¬ (1 : Int32) = 0 by decide)]
          refine ⟨fun cd r he => (by cases he), fun r he => ?_⟩
          cases he
          exact ⟨_, _, rfl, this⟩
  rw [if_pos a2]
  exact at_low hB hN (Or.inl a1) (Or.inl a2) _ rfl
theorem mc_at5 {σ0 : St_} {c : Nat → Nat} {n t : Nat} (hB : Bm_ σ0 c n t) (G : Gm_) (hG : ∀ σ, G σ 0 = at5_ σ) : MC_ σ0 c n G 5 (pOne_ false pNo_ pNo_) := by
  intro σ ts hN
  rw [hG]
  unfold at5_
  rw [show (45 : Int32) = nI 45 from rfl, isg_t hN 45 (by omega) (by decide), show (40 : Int32) = nI 40 from rfl, isg_t hN 40 (by omega) (by decide), nx_no hN, Option.bind_some]
  simp only [ite01]
  have bad := nx_fail hN
  have no : (hd_ ts = 45 ∨ hd_ ts = 40) → (∀ cd r, pOne_ false pNo_ pNo_ ts = (some cd, r) → ∃ σ', some ((0 : Int32), f_X9_fail σ 0) = some (va_l (en0_ σ0) cd, σ') ∧ Nx_ σ0 c n σ' 5 r) ∧ (∀ r, pOne_ false pNo_ pNo_ ts = (none, r) → ∃ v σ', some ((0 : Int32), f_X9_fail σ 0) = some (v, σ') ∧ Bd_ σ0 σ' (pl_ n r)) := by
    intro h
    cases ts with
    | nil => exact absurd h (by simp [hd_])
    | cons x r =>
      obtain ⟨t, pl, v⟩ := x
      have h' : t = 45 ∨ t = 40 := h
      unfold pOne_
      simp only
      rw [if_neg (by omega), if_neg (by omega), if_neg (fun z => absurd z.2 (by decide)), if_neg (fun z => absurd z.2 (by decide))]
      refine ⟨fun cd r he => (by cases he), fun r he => ?_⟩
      cases he
      exact ⟨_, _, rfl, bad⟩
  by_cases a1 : hd_ ts = 45
  · rw [if_neg (not_not_intro a1)]
    exact no (Or.inl a1)
  rw [if_pos a1]
  by_cases a2 : hd_ ts = 40
  · rw [if_neg (not_not_intro a2)]
    exact no (Or.inr a2)
  rw [if_pos a2]
  exact at_low hB hN (Or.inl a1) (Or.inl a2) _ rfl
/-- not, and what is compared -/
def nc_ (D : Gm_) (σ : St_) (v1 s0 : Int32) : Option (Int32 × St_) := (f_X9_next 5000 σ 0).bind fun q1 => (D q1 0).bind fun q2 => if s0 = 0 then if v1 = q2.1 then some ((1 : Int32), q2.2) else some ((0 : Int32), q2.2) else if q2.1 ≤ v1 then some ((0 : Int32), q2.2) else some ((1 : Int32), q2.2)
def cm_ (D : Gm_) (σ : St_) : Option (Int32 × St_) := (D σ 0).bind fun q4 => if (f_X9_isSign q4.2 0 (60 : Int32)) = 0 then if (f_X9_isSign q4.2 0 (61 : Int32)) = 0 then some (q4.1, q4.2) else if (lg_cmp (sl_ q4.2 0 23) (60 : Int64)) = 0 then nc_ D q4.2 q4.1 (1 : Int32) else nc_ D q4.2 q4.1 (0 : Int32) else if (lg_cmp (sl_ q4.2 0 23) (60 : Int64)) = 0 then nc_ D q4.2 q4.1 (1 : Int32) else nc_ D q4.2 q4.1 (0 : Int32)
theorem nx_wo {σ0 : St_} {c : Nat → Nat} {n d : Nat} {σ : St_} {ts : List Tk_} (hN : Nx_ σ0 c n σ d ts) {w : Nat} (hw : w < 256) (hs : isS_ w = true) (e : hd_ ts = w) : sl_ σ 0 23 = lN w := by
  obtain ⟨-, h, hH, h2⟩ := hN
  have h40 := iss_40 w hw hs
  rcases h2 with ⟨rfl, e21, -⟩ | ⟨t, pl, v, r, rfl, e22, hp, h3⟩
  · have : 0 = w := e
    omega
  · have : t = w := e
    subst this
    rcases h3 with ⟨e21, hlt, ht, hl, -⟩ | ⟨e21, ht, el, -⟩ | ⟨e21, ht, ht2, el, -⟩ | ⟨e21, ht⟩
    · have := (wt_22 c pl h).1
      omega
    · omega
    · exact el
    · omega
theorem mc_cm {σ0 : St_} {c : Nat → Nat} {n t : Nat} (hB : Bm_ σ0 c n t) {D : Gm_} {K : Nat} {P : List Tk_ → PR_} (hD : MC_ σ0 c n D K P) (hP : Wp_ P) {σ : St_} {ts : List Tk_} (hN : Nx_ σ0 c n σ K ts) :
    (∀ cd r, pCmp_ P ts = (some cd, r) → ∃ σ', cm_ D σ = some (va_l (en0_ σ0) cd, σ') ∧ Nx_ σ0 c n σ' K r) ∧ (∀ r, pCmp_ P ts = (none, r) → ∃ v σ', cm_ D σ = some (v, σ') ∧ Bd_ σ0 σ' (pl_ n r)) := by
  obtain ⟨s1, s2⟩ := hD σ ts hN
  unfold cm_ pCmp_
  rcases hq : P ts with ⟨_ | cd, r⟩
  · obtain ⟨v, σ2, g1, g2⟩ := s2 r hq
    rw [g1, Option.bind_some]
    simp only
    rw [bd_sg g2, bd_sg g2, if_pos rfl, if_pos rfl]
    refine ⟨fun cd r he => (by cases he), fun r he => ?_⟩
    cases he
    exact ⟨_, _, rfl, g2⟩
  obtain ⟨σ2, g1, g2⟩ := s1 cd r hq
  obtain ⟨pre, ep, hgd⟩ := hP ts hN.1.1
  rw [hq] at hgd
  have gd1 := hgd cd rfl
  rw [g1, Option.bind_some]
  simp only
  rw [show (60 : Int32) = nI 60 from rfl, isg_t g2 60 (by omega) (by decide), show (61 : Int32) = nI 61 from rfl, isg_t g2 61 (by omega) (by decide)]
  simp only [ite01]
  by_cases a : hd_ r = 60 ∨ hd_ r = 61
  · rw [if_pos a]
    have n0 : r ≠ [] := fun z => by rw [z] at a; exact absurd a (by simp [hd_])
    obtain ⟨σ3, k1, k2⟩ := nx_go hB g2 (by omega) n0
    obtain ⟨t1, t2⟩ := hD σ3 _ k2
    have hto := k2.1.1
    obtain ⟨pre2, ep2, hgd2⟩ := hP r.tail hto
    rcases a with a | a
    · have el := nx_wo g2 (w := 60) (by omega) (by decide) a
      rw [if_neg (not_not_intro a), el, if_pos (show lg_cmp (lN 60) 60 = 0 by decide +kernel), a, if_pos rfl]
      unfold nc_
      rw [k1, Option.bind_some]
      rcases hq2 : P r.tail with ⟨_ | cd2, r2⟩
      · obtain ⟨v, σ4, w1, w2⟩ := t2 r2 hq2
        rw [w1, Option.bind_some, if_neg (show ¬ (1 : Int32) = 0 by decide)]
        refine ⟨fun cd r he => (by cases he), fun r he => ?_⟩
        cases he
        simp only
        split
        · exact ⟨_, _, rfl, w2⟩
        · exact ⟨_, _, rfl, w2⟩
      · obtain ⟨σ4, w1, w2⟩ := t1 cd2 r2 hq2
        rw [hq2] at hgd2
        rw [w1, Option.bind_some, if_neg (show ¬ (1 : Int32) = 0 by decide)]
        refine ⟨fun cd' r he => ?_, fun r he => (by cases he)⟩
        cases he
        refine ⟨σ4, ?_, w2⟩
        rw [vl_bi gd1 (hgd2 cd2 rfl) 6 (by omega)]
        simp only
        show _ = some ((if va_l (en0_ σ0) cd < va_l (en0_ σ0) cd2 then 1 else 0), σ4)
        by_cases z : va_l (en0_ σ0) cd2 ≤ va_l (en0_ σ0) cd
        · rw [if_pos z, if_neg (fun w => by rw [Int32.lt_iff_toInt_lt] at w; rw [Int32.le_iff_toInt_le] at z; omega)]
        · rw [if_neg z, if_pos (by rw [Int32.lt_iff_toInt_lt]; rw [Int32.le_iff_toInt_le] at z; omega)]
    · have el := nx_wo g2 (w := 61) (by omega) (by decide) a
      rw [if_pos (show ¬ hd_ r = 60 by omega), if_neg (not_not_intro a), el, if_neg (show ¬ lg_cmp (lN 61) 60 = 0 by decide +kernel), a, if_neg (show ¬ 61 = 60 by decide)]
      unfold nc_
      rw [k1, Option.bind_some]
      rcases hq2 : P r.tail with ⟨_ | cd2, r2⟩
      · obtain ⟨v, σ4, w1, w2⟩ := t2 r2 hq2
        rw [w1, Option.bind_some, if_pos rfl]
        refine ⟨fun cd r he => (by cases he), fun r he => ?_⟩
        cases he
        simp only
        split
        · exact ⟨_, _, rfl, w2⟩
        · exact ⟨_, _, rfl, w2⟩
      · obtain ⟨σ4, w1, w2⟩ := t1 cd2 r2 hq2
        rw [hq2] at hgd2
        rw [w1, Option.bind_some, if_pos rfl]
        refine ⟨fun cd' r he => ?_, fun r he => (by cases he)⟩
        cases he
        refine ⟨σ4, ?_, w2⟩
        rw [vl_bi gd1 (hgd2 cd2 rfl) 7 (by omega)]
        simp only
        show _ = some ((if va_l (en0_ σ0) cd = va_l (en0_ σ0) cd2 then 1 else 0), σ4)
        split <;> rfl
  · rw [if_neg a, if_pos (fun z => a (Or.inl z)), if_pos (fun z => a (Or.inr z))]
    refine ⟨fun cd' r he => ?_, fun r he => (by cases he)⟩
    cases he
    exact ⟨σ2, rfl, g2⟩
def ntx_ (N D : Gm_) (σ : St_) : Option (Int32 × St_) := (f_X9_isWord_ σ 0 (110 : Int32) (111 : Int32) (116 : Int32) (0 : Int32) (0 : Int32) (0 : Int32) (0 : Int32) (0 : Int32)).bind fun q1 => if q1 = 0 then cm_ D σ else (f_X9_opens 5000 σ 0).bind fun q13 => if q13.1 = 0 then some ((0 : Int32), q13.2) else (N q13.2 0).bind fun q16 => if q16.1 = 0 then some ((1 : Int32), ui_ q16.2 0 24 ((si_ q16.2 0 24) - (1 : Int32))) else some ((0 : Int32), ui_ q16.2 0 24 ((si_ q16.2 0 24) - (1 : Int32)))
def nt5_ (D : Gm_) (σ : St_) : Option (Int32 × St_) := (f_X9_isWord_ σ 0 (110 : Int32) (111 : Int32) (116 : Int32) (0 : Int32) (0 : Int32) (0 : Int32) (0 : Int32) (0 : Int32)).bind fun q1 => if q1 = 0 then cm_ D σ else (f_X9_opens 5000 σ 0).bind fun q13 => some ((0 : Int32), q13.2)
theorem mc_nt {σ0 : St_} {c : Nat → Nat} {n t : Nat} (hB : Bm_ σ0 c n t) {N D : Gm_} {K : Nat} {pN P : List Tk_ → PR_} (hK : K < 5) (hN' : MC_ σ0 c n N (K + 1) pN) (wN : Wp_ pN) (hD : MC_ σ0 c n D K P) (hP : Wp_ P) (G : Gm_) (hG : ∀ σ, G σ 0 = ntx_ N D σ) : MC_ σ0 c n G K (pNot_ true pN (pCmp_ P)) := by
  intro σ ts hN
  obtain ⟨-, -, -, -, -, -, -, -, -, -, -, w12⟩ := isw_l hB hN
  rw [hG]
  unfold ntx_ pNot_
  rw [w12, Option.bind_some]
  simp only [ite01]
  by_cases a : hd_ ts = 9
  · rw [if_neg (not_not_intro a), if_pos a, if_pos trivial]
    have n0 : ts ≠ [] := fun z => by rw [z] at a; exact absurd a (by simp [hd_])
    obtain ⟨σ1, f1, f2⟩ := nx_op hB hN hK (by omega) n0
    rw [f1, Option.bind_some, if_neg (show ¬ (1 : Int32) = 0 by decide)]
    obtain ⟨s1, s2⟩ := hN' σ1 _ f2
    rcases hq : pN ts.tail with ⟨_ | cd, r'⟩
    · obtain ⟨v, σ2, g1, g2⟩ := s2 r' hq
      rw [g1, Option.bind_some]
      refine ⟨fun cd r he => (by cases he), fun r he => ?_⟩
      cases he
      simp only
      split
      · exact ⟨_, _, rfl, bd_cl g2 _⟩
      · exact ⟨_, _, rfl, bd_cl g2 _⟩
    · obtain ⟨σ2, g1, g2⟩ := s1 cd r' hq
      rw [g1, Option.bind_some]
      refine ⟨fun cd' r he => ?_, fun r he => (by cases he)⟩
      cases he
      obtain ⟨pre, ep, hgd⟩ := wN ts.tail f2.1.1
      rw [hq] at hgd
      rw [vl_un (hgd cd rfl) 2 (Or.inl rfl)]
      refine ⟨_, ?_, nx_cl g2⟩
      simp only
      show _ = some ((if va_l (en0_ σ0) cd = 0 then 1 else 0), _)
      split <;> rfl
  · rw [if_pos a, if_neg a]
    exact mc_cm hB hD hP hN
theorem mc_nt5 {σ0 : St_} {c : Nat → Nat} {n t : Nat} (hB : Bm_ σ0 c n t) {D : Gm_} {pN P : List Tk_ → PR_} (hD : MC_ σ0 c n D 5 P) (hP : Wp_ P) (G : Gm_) (hG : ∀ σ, G σ 0 = nt5_ D σ) : MC_ σ0 c n G 5 (pNot_ false pN (pCmp_ P)) := by
  intro σ ts hN
  obtain ⟨-, -, -, -, -, -, -, -, -, -, -, w12⟩ := isw_l hB hN
  rw [hG]
  unfold nt5_ pNot_
  rw [w12, Option.bind_some]
  simp only [ite01]
  by_cases a : hd_ ts = 9
  · rw [if_neg (not_not_intro a), if_pos a, if_neg (by decide), nx_no hN, Option.bind_some]
    refine ⟨fun cd r he => (by cases he), fun r he => ?_⟩
    cases he
    exact ⟨_, _, rfl, nx_fail hN⟩
  · rw [if_pos a, if_neg a]
    exact mc_cm hB hD hP hN
theorem ml_t5 {σ0 : St_} {c : Nat → Nat} {n t : Nat} (hB : Bm_ σ0 c n t) {P : List Tk_ → PR_} (h : MC_ σ0 c n (f_X9_atom5 5000) 5 P) (hP : Wp_ P) : MC_ σ0 c n (f_X9_term5 5000) 5 (pTerm_ P) := by
  refine ml_many hB h hP rfl rfl (fun _ => by omega) (f_X9_term5_5 5000) ?_ ?_ ?_ _ (fun σ => rfl)
  · intro g σ ts v hN hs
    show (if (f_X9_isSign σ 0 (42 : Int32)) = 0 then some (v, σ) else _) = _
    rw [show (42 : Int32) = nI 42 from rfl, isg_t hN 42 (by omega) (by decide), if_neg (show ¬ hd_ ts = 42 by simpa using hs), if_pos rfl]
  · intro g σ ts v hN hs
    show (if (f_X9_isSign σ 0 (42 : Int32)) = 0 then some (v, σ) else _) = _
    rw [show (42 : Int32) = nI 42 from rfl, isg_t hN 42 (by omega) (by decide), if_pos (show hd_ ts = 42 by simpa using hs), if_neg (show ¬ (1 : Int32) = 0 by decide)]
    rfl
  · intro g σ pl v hb
    show (if (f_X9_isSign σ 0 (42 : Int32)) = 0 then some (v, σ) else _) = _
    rw [bd_sg hb, if_pos rfl]
theorem ml_a5 {σ0 : St_} {c : Nat → Nat} {n t : Nat} (hB : Bm_ σ0 c n t) {P : List Tk_ → PR_} (h : MC_ σ0 c n (f_X9_term5 5000) 5 P) (hP : Wp_ P) : MC_ σ0 c n (f_X9_added5 5000) 5 (pMany_ (fun t => t == 43 || t == 45) (fun t => if t = 43 then 8 else 9) P) := by
  refine ml_many hB h hP rfl rfl (fun _ => by split <;> omega) (f_X9_added5_5 5000) ?_ ?_ ?_ _ (fun σ => rfl)
  · intro g σ ts v hN hs
    have hs' : ¬ hd_ ts = 43 ∧ ¬ hd_ ts = 45 := by simpa using hs
    show (if (f_X9_isSign σ 0 (43 : Int32)) = 0 then if (f_X9_isSign σ 0 (45 : Int32)) = 0 then some (v, σ) else _ else _) = _
    rw [show (43 : Int32) = nI 43 from rfl, isg_t hN 43 (by omega) (by decide), if_neg hs'.1, if_pos rfl, show (45 : Int32) = nI 45 from rfl, isg_t hN 45 (by omega) (by decide), if_neg hs'.2, if_pos rfl]
  · intro g σ ts v hN hs
    have e : hd_ ts = 43 ∨ hd_ ts = 45 := by simpa using hs
    show (if (f_X9_isSign σ 0 (43 : Int32)) = 0 then if (f_X9_isSign σ 0 (45 : Int32)) = 0 then some (v, σ) else if (lg_cmp (sl_ σ 0 23) (43 : Int64)) = 0 then _ else f_X9_added5_39 5000 (f_X9_added5_5 5000 g) σ 0 v (0 : Int32) else if (lg_cmp (sl_ σ 0 23) (43 : Int64)) = 0 then f_X9_added5_39 5000 (f_X9_added5_5 5000 g) σ 0 v (1 : Int32) else _) = _
    rcases e with e | e
    · rw [show (43 : Int32) = nI 43 from rfl, isg_t hN 43 (by omega) (by decide), if_pos e, if_neg (show ¬ (1 : Int32) = 0 by decide), nx_wo hN (w := 43) (by omega) (by decide) e, if_pos (show lg_cmp (lN 43) 43 = 0 by decide +kernel), e]
      rfl
    · rw [show (43 : Int32) = nI 43 from rfl, isg_t hN 43 (by omega) (by decide), if_neg (show ¬ hd_ ts = 43 by omega), if_pos rfl, show (45 : Int32) = nI 45 from rfl, isg_t hN 45 (by omega) (by decide), if_pos e, if_neg (show ¬ (1 : Int32) = 0 by decide), nx_wo hN (w := 45) (by omega) (by decide) e, if_neg (show ¬ lg_cmp (lN 45) 43 = 0 by decide +kernel), e]
      rfl
  · intro g σ pl v hb
    show (if (f_X9_isSign σ 0 (43 : Int32)) = 0 then if (f_X9_isSign σ 0 (45 : Int32)) = 0 then some (v, σ) else _ else _) = _
    rw [bd_sg hb, bd_sg hb, if_pos rfl, if_pos rfl]
theorem ml_b5 {σ0 : St_} {c : Nat → Nat} {n t : Nat} (hB : Bm_ σ0 c n t) {P : List Tk_ → PR_} (h : MC_ σ0 c n (f_X9_not5 5000) 5 P) (hP : Wp_ P) : MC_ σ0 c n (f_X9_both5 5000) 5 (pMany_ (fun t => t == 8) (fun _ => 5) P) := by
  refine ml_many hB h hP rfl rfl (fun _ => by omega) (f_X9_both5_5 5000) ?_ ?_ ?_ _ (fun σ => rfl)
  · intro g σ ts v hN hs
    have w := (isw_l hB hN).2.2.2.2.2.2.2.2.2.2.1
    show ((f_X9_isWord_ σ 0 (97 : Int32) (110 : Int32) (100 : Int32) (0 : Int32) (0 : Int32) (0 : Int32) (0 : Int32) (0 : Int32)).bind fun q1 => if q1 = 0 then some (v, σ) else _) = _
    rw [w, Option.bind_some, if_neg (show ¬ hd_ ts = 8 by simpa using hs), if_pos rfl]
  · intro g σ ts v hN hs
    have w := (isw_l hB hN).2.2.2.2.2.2.2.2.2.2.1
    show ((f_X9_isWord_ σ 0 (97 : Int32) (110 : Int32) (100 : Int32) (0 : Int32) (0 : Int32) (0 : Int32) (0 : Int32) (0 : Int32)).bind fun q1 => if q1 = 0 then some (v, σ) else (f_X9_next 5000 σ 0).bind fun q4 => (f_X9_not5 5000 q4 0).bind fun q5 => if v = 0 then (f_X9_both5_5 5000 g) q5.2 0 (0 : Int32) else if q5.1 = 0 then (f_X9_both5_5 5000 g) q5.2 0 (0 : Int32) else (f_X9_both5_5 5000 g) q5.2 0 (1 : Int32)) = _
    rw [w, Option.bind_some, if_pos (show hd_ ts = 8 by simpa using hs), if_neg (show ¬ (1 : Int32) = 0 by decide)]
    congr 1
    funext q4
    congr 1
    funext q5
    show _ = f_X9_both5_5 5000 g q5.2 0 (if v ≠ 0 ∧ q5.1 ≠ 0 then 1 else 0)
    by_cases z1 : v = 0
    · rw [if_pos z1, if_neg (fun z => z.1 z1)]
    · rw [if_neg z1]
      by_cases z2 : q5.1 = 0
      · rw [if_pos z2, if_neg (fun z => z.2 z2)]
      · rw [if_neg z2, if_pos ⟨z1, z2⟩]
  · intro g σ pl v hb
    show ((f_X9_isWord_ σ 0 (97 : Int32) (110 : Int32) (100 : Int32) (0 : Int32) (0 : Int32) (0 : Int32) (0 : Int32) (0 : Int32)).bind fun q1 => if q1 = 0 then some (v, σ) else _) = _
    rw [bd_w hb, Option.bind_some, if_pos rfl]
theorem ml_e5 {σ0 : St_} {c : Nat → Nat} {n t : Nat} (hB : Bm_ σ0 c n t) {P : List Tk_ → PR_} (h : MC_ σ0 c n (f_X9_both5 5000) 5 P) (hP : Wp_ P) : MC_ σ0 c n (f_X9_either5 5000) 5 (pMany_ (fun t => t == 7) (fun _ => 4) P) := by
  refine ml_many hB h hP rfl rfl (fun _ => by omega) (f_X9_either5_5 5000) ?_ ?_ ?_ _ (fun σ => rfl)
  · intro g σ ts v hN hs
    have w := (isw_l hB hN).2.2.2.2.2.2.2.2.2.1
    show ((f_X9_isWord_ σ 0 (111 : Int32) (114 : Int32) (0 : Int32) (0 : Int32) (0 : Int32) (0 : Int32) (0 : Int32) (0 : Int32)).bind fun q1 => if q1 = 0 then some (v, σ) else _) = _
    rw [w, Option.bind_some, if_neg (show ¬ hd_ ts = 7 by simpa using hs), if_pos rfl]
  · intro g σ ts v hN hs
    have w := (isw_l hB hN).2.2.2.2.2.2.2.2.2.1
    show ((f_X9_isWord_ σ 0 (111 : Int32) (114 : Int32) (0 : Int32) (0 : Int32) (0 : Int32) (0 : Int32) (0 : Int32) (0 : Int32)).bind fun q1 => if q1 = 0 then some (v, σ) else (f_X9_next 5000 σ 0).bind fun q4 => (f_X9_both5 5000 q4 0).bind fun q5 => if v = 0 then if q5.1 = 0 then (f_X9_either5_5 5000 g) q5.2 0 (0 : Int32) else (f_X9_either5_5 5000 g) q5.2 0 (1 : Int32) else (f_X9_either5_5 5000 g) q5.2 0 (1 : Int32)) = _
    rw [w, Option.bind_some, if_pos (show hd_ ts = 7 by simpa using hs), if_neg (show ¬ (1 : Int32) = 0 by decide)]
    congr 1
    funext q4
    congr 1
    funext q5
    show _ = f_X9_either5_5 5000 g q5.2 0 (if v ≠ 0 ∨ q5.1 ≠ 0 then 1 else 0)
    by_cases z1 : v = 0
    · rw [if_pos z1]
      by_cases z2 : q5.1 = 0
      · rw [if_pos z2, if_neg (fun z => z.elim (fun w => w z1) (fun w => w z2))]
      · rw [if_neg z2, if_pos (Or.inr z2)]
    · rw [if_neg z1, if_pos (Or.inl z1)]
  · intro g σ pl v hb
    show ((f_X9_isWord_ σ 0 (111 : Int32) (114 : Int32) (0 : Int32) (0 : Int32) (0 : Int32) (0 : Int32) (0 : Int32) (0 : Int32)).bind fun q1 => if q1 = 0 then some (v, σ) else _) = _
    rw [bd_w hb, Option.bind_some, if_pos rfl]
theorem mc_l5 {σ0 : St_} {c : Nat → Nat} {n t : Nat} (hB : Bm_ σ0 c n t) : MC_ σ0 c n (f_X9_either5 5000) 5 (lv_s 0).1 ∧ MC_ σ0 c n (f_X9_not5 5000) 5 (lv_s 0).2.1 ∧ MC_ σ0 c n (f_X9_atom5 5000) 5 (lv_s 0).2.2 := by
  have a1 : MC_ σ0 c n (f_X9_atom5 5000) 5 (pOne_ false pNo_ pNo_) := mc_at5 hB _ (fun σ => rfl)
  have wo : Wp_ (pOne_ false pNo_ pNo_) := (wp_lv 0).2.2
  have a2 : MC_ σ0 c n (f_X9_not5 5000) 5 (pN_ false pNo_ (pOne_ false pNo_ pNo_)) := mc_nt5 hB (ml_a5 hB (ml_t5 hB a1 wo) (wp_many rfl (fun t => by omega) wo)) (wp_sum wo) _ (fun σ => rfl)
  exact ⟨ml_e5 hB (ml_b5 hB a2 (wp_lv 0).2.1) (wp_and (fun z => by cases z) wo), a2, a1⟩
theorem ml_t4 {σ0 : St_} {c : Nat → Nat} {n t : Nat} (hB : Bm_ σ0 c n t) {P : List Tk_ → PR_} (h : MC_ σ0 c n (f_X9_atom4 5000) 4 P) (hP : Wp_ P) : MC_ σ0 c n (f_X9_term4 5000) 4 (pTerm_ P) := by
  refine ml_many hB h hP rfl rfl (fun _ => by omega) (f_X9_term4_5 5000) ?_ ?_ ?_ _ (fun σ => rfl)
  · intro g σ ts v hN hs
    show (if (f_X9_isSign σ 0 (42 : Int32)) = 0 then some (v, σ) else _) = _
    rw [show (42 : Int32) = nI 42 from rfl, isg_t hN 42 (by omega) (by decide), if_neg (show ¬ hd_ ts = 42 by simpa using hs), if_pos rfl]
  · intro g σ ts v hN hs
    show (if (f_X9_isSign σ 0 (42 : Int32)) = 0 then some (v, σ) else _) = _
    rw [show (42 : Int32) = nI 42 from rfl, isg_t hN 42 (by omega) (by decide), if_pos (show hd_ ts = 42 by simpa using hs), if_neg (show ¬ (1 : Int32) = 0 by decide)]
    rfl
  · intro g σ pl v hb
    show (if (f_X9_isSign σ 0 (42 : Int32)) = 0 then some (v, σ) else _) = _
    rw [bd_sg hb, if_pos rfl]
theorem ml_a4 {σ0 : St_} {c : Nat → Nat} {n t : Nat} (hB : Bm_ σ0 c n t) {P : List Tk_ → PR_} (h : MC_ σ0 c n (f_X9_term4 5000) 4 P) (hP : Wp_ P) : MC_ σ0 c n (f_X9_added4 5000) 4 (pMany_ (fun t => t == 43 || t == 45) (fun t => if t = 43 then 8 else 9) P) := by
  refine ml_many hB h hP rfl rfl (fun _ => by split <;> omega) (f_X9_added4_5 5000) ?_ ?_ ?_ _ (fun σ => rfl)
  · intro g σ ts v hN hs
    have hs' : ¬ hd_ ts = 43 ∧ ¬ hd_ ts = 45 := by simpa using hs
    show (if (f_X9_isSign σ 0 (43 : Int32)) = 0 then if (f_X9_isSign σ 0 (45 : Int32)) = 0 then some (v, σ) else _ else _) = _
    rw [show (43 : Int32) = nI 43 from rfl, isg_t hN 43 (by omega) (by decide), if_neg hs'.1, if_pos rfl, show (45 : Int32) = nI 45 from rfl, isg_t hN 45 (by omega) (by decide), if_neg hs'.2, if_pos rfl]
  · intro g σ ts v hN hs
    have e : hd_ ts = 43 ∨ hd_ ts = 45 := by simpa using hs
    show (if (f_X9_isSign σ 0 (43 : Int32)) = 0 then if (f_X9_isSign σ 0 (45 : Int32)) = 0 then some (v, σ) else if (lg_cmp (sl_ σ 0 23) (43 : Int64)) = 0 then _ else f_X9_added4_39 5000 (f_X9_added4_5 5000 g) σ 0 v (0 : Int32) else if (lg_cmp (sl_ σ 0 23) (43 : Int64)) = 0 then f_X9_added4_39 5000 (f_X9_added4_5 5000 g) σ 0 v (1 : Int32) else _) = _
    rcases e with e | e
    · rw [show (43 : Int32) = nI 43 from rfl, isg_t hN 43 (by omega) (by decide), if_pos e, if_neg (show ¬ (1 : Int32) = 0 by decide), nx_wo hN (w := 43) (by omega) (by decide) e, if_pos (show lg_cmp (lN 43) 43 = 0 by decide +kernel), e]
      rfl
    · rw [show (43 : Int32) = nI 43 from rfl, isg_t hN 43 (by omega) (by decide), if_neg (show ¬ hd_ ts = 43 by omega), if_pos rfl, show (45 : Int32) = nI 45 from rfl, isg_t hN 45 (by omega) (by decide), if_pos e, if_neg (show ¬ (1 : Int32) = 0 by decide), nx_wo hN (w := 45) (by omega) (by decide) e, if_neg (show ¬ lg_cmp (lN 45) 43 = 0 by decide +kernel), e]
      rfl
  · intro g σ pl v hb
    show (if (f_X9_isSign σ 0 (43 : Int32)) = 0 then if (f_X9_isSign σ 0 (45 : Int32)) = 0 then some (v, σ) else _ else _) = _
    rw [bd_sg hb, bd_sg hb, if_pos rfl, if_pos rfl]
theorem ml_b4 {σ0 : St_} {c : Nat → Nat} {n t : Nat} (hB : Bm_ σ0 c n t) {P : List Tk_ → PR_} (h : MC_ σ0 c n (f_X9_not4 5000) 4 P) (hP : Wp_ P) : MC_ σ0 c n (f_X9_both4 5000) 4 (pMany_ (fun t => t == 8) (fun _ => 5) P) := by
  refine ml_many hB h hP rfl rfl (fun _ => by omega) (f_X9_both4_5 5000) ?_ ?_ ?_ _ (fun σ => rfl)
  · intro g σ ts v hN hs
    have w := (isw_l hB hN).2.2.2.2.2.2.2.2.2.2.1
    show ((f_X9_isWord_ σ 0 (97 : Int32) (110 : Int32) (100 : Int32) (0 : Int32) (0 : Int32) (0 : Int32) (0 : Int32) (0 : Int32)).bind fun q1 => if q1 = 0 then some (v, σ) else _) = _
    rw [w, Option.bind_some, if_neg (show ¬ hd_ ts = 8 by simpa using hs), if_pos rfl]
  · intro g σ ts v hN hs
    have w := (isw_l hB hN).2.2.2.2.2.2.2.2.2.2.1
    show ((f_X9_isWord_ σ 0 (97 : Int32) (110 : Int32) (100 : Int32) (0 : Int32) (0 : Int32) (0 : Int32) (0 : Int32) (0 : Int32)).bind fun q1 => if q1 = 0 then some (v, σ) else (f_X9_next 5000 σ 0).bind fun q4 => (f_X9_not4 5000 q4 0).bind fun q5 => if v = 0 then (f_X9_both4_5 5000 g) q5.2 0 (0 : Int32) else if q5.1 = 0 then (f_X9_both4_5 5000 g) q5.2 0 (0 : Int32) else (f_X9_both4_5 5000 g) q5.2 0 (1 : Int32)) = _
    rw [w, Option.bind_some, if_pos (show hd_ ts = 8 by simpa using hs), if_neg (show ¬ (1 : Int32) = 0 by decide)]
    congr 1
    funext q4
    congr 1
    funext q5
    show _ = f_X9_both4_5 5000 g q5.2 0 (if v ≠ 0 ∧ q5.1 ≠ 0 then 1 else 0)
    by_cases z1 : v = 0
    · rw [if_pos z1, if_neg (fun z => z.1 z1)]
    · rw [if_neg z1]
      by_cases z2 : q5.1 = 0
      · rw [if_pos z2, if_neg (fun z => z.2 z2)]
      · rw [if_neg z2, if_pos ⟨z1, z2⟩]
  · intro g σ pl v hb
    show ((f_X9_isWord_ σ 0 (97 : Int32) (110 : Int32) (100 : Int32) (0 : Int32) (0 : Int32) (0 : Int32) (0 : Int32) (0 : Int32)).bind fun q1 => if q1 = 0 then some (v, σ) else _) = _
    rw [bd_w hb, Option.bind_some, if_pos rfl]
theorem ml_e4 {σ0 : St_} {c : Nat → Nat} {n t : Nat} (hB : Bm_ σ0 c n t) {P : List Tk_ → PR_} (h : MC_ σ0 c n (f_X9_both4 5000) 4 P) (hP : Wp_ P) : MC_ σ0 c n (f_X9_either4 5000) 4 (pMany_ (fun t => t == 7) (fun _ => 4) P) := by
  refine ml_many hB h hP rfl rfl (fun _ => by omega) (f_X9_either4_5 5000) ?_ ?_ ?_ _ (fun σ => rfl)
  · intro g σ ts v hN hs
    have w := (isw_l hB hN).2.2.2.2.2.2.2.2.2.1
    show ((f_X9_isWord_ σ 0 (111 : Int32) (114 : Int32) (0 : Int32) (0 : Int32) (0 : Int32) (0 : Int32) (0 : Int32) (0 : Int32)).bind fun q1 => if q1 = 0 then some (v, σ) else _) = _
    rw [w, Option.bind_some, if_neg (show ¬ hd_ ts = 7 by simpa using hs), if_pos rfl]
  · intro g σ ts v hN hs
    have w := (isw_l hB hN).2.2.2.2.2.2.2.2.2.1
    show ((f_X9_isWord_ σ 0 (111 : Int32) (114 : Int32) (0 : Int32) (0 : Int32) (0 : Int32) (0 : Int32) (0 : Int32) (0 : Int32)).bind fun q1 => if q1 = 0 then some (v, σ) else (f_X9_next 5000 σ 0).bind fun q4 => (f_X9_both4 5000 q4 0).bind fun q5 => if v = 0 then if q5.1 = 0 then (f_X9_either4_5 5000 g) q5.2 0 (0 : Int32) else (f_X9_either4_5 5000 g) q5.2 0 (1 : Int32) else (f_X9_either4_5 5000 g) q5.2 0 (1 : Int32)) = _
    rw [w, Option.bind_some, if_pos (show hd_ ts = 7 by simpa using hs), if_neg (show ¬ (1 : Int32) = 0 by decide)]
    congr 1
    funext q4
    congr 1
    funext q5
    show _ = f_X9_either4_5 5000 g q5.2 0 (if v ≠ 0 ∨ q5.1 ≠ 0 then 1 else 0)
    by_cases z1 : v = 0
    · rw [if_pos z1]
      by_cases z2 : q5.1 = 0
      · rw [if_pos z2, if_neg (fun z => z.elim (fun w => w z1) (fun w => w z2))]
      · rw [if_neg z2, if_pos (Or.inr z2)]
    · rw [if_neg z1, if_pos (Or.inl z1)]
  · intro g σ pl v hb
    show ((f_X9_isWord_ σ 0 (111 : Int32) (114 : Int32) (0 : Int32) (0 : Int32) (0 : Int32) (0 : Int32) (0 : Int32) (0 : Int32)).bind fun q1 => if q1 = 0 then some (v, σ) else _) = _
    rw [bd_w hb, Option.bind_some, if_pos rfl]
theorem mc_l4 {σ0 : St_} {c : Nat → Nat} {n t : Nat} (hB : Bm_ σ0 c n t) : MC_ σ0 c n (f_X9_either4 5000) 4 (lv_s 1).1 ∧ MC_ σ0 c n (f_X9_not4 5000) 4 (lv_s 1).2.1 ∧ MC_ σ0 c n (f_X9_atom4 5000) 4 (lv_s 1).2.2 := by
  obtain ⟨i1, i2, i3⟩ := mc_l5 hB
  have a1 : MC_ σ0 c n (f_X9_atom4 5000) 4 (pOne_ true (lv_s 0).1 (lv_s 0).2.2) := mc_at hB (by omega) i3 i1 (wp_lv 0).2.2 _ (fun σ => rfl)
  have wo : Wp_ (pOne_ true (lv_s 0).1 (lv_s 0).2.2) := (wp_lv 1).2.2
  have a2 : MC_ σ0 c n (f_X9_not4 5000) 4 (pN_ true (lv_s 0).2.1 (pOne_ true (lv_s 0).1 (lv_s 0).2.2)) := mc_nt hB (by omega) i2 (wp_lv 0).2.1 (ml_a4 hB (ml_t4 hB a1 wo) (wp_many rfl (fun t => by omega) wo)) (wp_sum wo) _ (fun σ => rfl)
  exact ⟨ml_e4 hB (ml_b4 hB a2 (wp_lv 1).2.1) (wp_and (fun _ => (wp_lv 0).2.1) wo), a2, a1⟩
theorem ml_t3 {σ0 : St_} {c : Nat → Nat} {n t : Nat} (hB : Bm_ σ0 c n t) {P : List Tk_ → PR_} (h : MC_ σ0 c n (f_X9_atom3 5000) 3 P) (hP : Wp_ P) : MC_ σ0 c n (f_X9_term3 5000) 3 (pTerm_ P) := by
  refine ml_many hB h hP rfl rfl (fun _ => by omega) (f_X9_term3_5 5000) ?_ ?_ ?_ _ (fun σ => rfl)
  · intro g σ ts v hN hs
    show (if (f_X9_isSign σ 0 (42 : Int32)) = 0 then some (v, σ) else _) = _
    rw [show (42 : Int32) = nI 42 from rfl, isg_t hN 42 (by omega) (by decide), if_neg (show ¬ hd_ ts = 42 by simpa using hs), if_pos rfl]
  · intro g σ ts v hN hs
    show (if (f_X9_isSign σ 0 (42 : Int32)) = 0 then some (v, σ) else _) = _
    rw [show (42 : Int32) = nI 42 from rfl, isg_t hN 42 (by omega) (by decide), if_pos (show hd_ ts = 42 by simpa using hs), if_neg (show ¬ (1 : Int32) = 0 by decide)]
    rfl
  · intro g σ pl v hb
    show (if (f_X9_isSign σ 0 (42 : Int32)) = 0 then some (v, σ) else _) = _
    rw [bd_sg hb, if_pos rfl]
theorem ml_a3 {σ0 : St_} {c : Nat → Nat} {n t : Nat} (hB : Bm_ σ0 c n t) {P : List Tk_ → PR_} (h : MC_ σ0 c n (f_X9_term3 5000) 3 P) (hP : Wp_ P) : MC_ σ0 c n (f_X9_added3 5000) 3 (pMany_ (fun t => t == 43 || t == 45) (fun t => if t = 43 then 8 else 9) P) := by
  refine ml_many hB h hP rfl rfl (fun _ => by split <;> omega) (f_X9_added3_5 5000) ?_ ?_ ?_ _ (fun σ => rfl)
  · intro g σ ts v hN hs
    have hs' : ¬ hd_ ts = 43 ∧ ¬ hd_ ts = 45 := by simpa using hs
    show (if (f_X9_isSign σ 0 (43 : Int32)) = 0 then if (f_X9_isSign σ 0 (45 : Int32)) = 0 then some (v, σ) else _ else _) = _
    rw [show (43 : Int32) = nI 43 from rfl, isg_t hN 43 (by omega) (by decide), if_neg hs'.1, if_pos rfl, show (45 : Int32) = nI 45 from rfl, isg_t hN 45 (by omega) (by decide), if_neg hs'.2, if_pos rfl]
  · intro g σ ts v hN hs
    have e : hd_ ts = 43 ∨ hd_ ts = 45 := by simpa using hs
    show (if (f_X9_isSign σ 0 (43 : Int32)) = 0 then if (f_X9_isSign σ 0 (45 : Int32)) = 0 then some (v, σ) else if (lg_cmp (sl_ σ 0 23) (43 : Int64)) = 0 then _ else f_X9_added3_39 5000 (f_X9_added3_5 5000 g) σ 0 v (0 : Int32) else if (lg_cmp (sl_ σ 0 23) (43 : Int64)) = 0 then f_X9_added3_39 5000 (f_X9_added3_5 5000 g) σ 0 v (1 : Int32) else _) = _
    rcases e with e | e
    · rw [show (43 : Int32) = nI 43 from rfl, isg_t hN 43 (by omega) (by decide), if_pos e, if_neg (show ¬ (1 : Int32) = 0 by decide), nx_wo hN (w := 43) (by omega) (by decide) e, if_pos (show lg_cmp (lN 43) 43 = 0 by decide +kernel), e]
      rfl
    · rw [show (43 : Int32) = nI 43 from rfl, isg_t hN 43 (by omega) (by decide), if_neg (show ¬ hd_ ts = 43 by omega), if_pos rfl, show (45 : Int32) = nI 45 from rfl, isg_t hN 45 (by omega) (by decide), if_pos e, if_neg (show ¬ (1 : Int32) = 0 by decide), nx_wo hN (w := 45) (by omega) (by decide) e, if_neg (show ¬ lg_cmp (lN 45) 43 = 0 by decide +kernel), e]
      rfl
  · intro g σ pl v hb
    show (if (f_X9_isSign σ 0 (43 : Int32)) = 0 then if (f_X9_isSign σ 0 (45 : Int32)) = 0 then some (v, σ) else _ else _) = _
    rw [bd_sg hb, bd_sg hb, if_pos rfl, if_pos rfl]
theorem ml_b3 {σ0 : St_} {c : Nat → Nat} {n t : Nat} (hB : Bm_ σ0 c n t) {P : List Tk_ → PR_} (h : MC_ σ0 c n (f_X9_not3 5000) 3 P) (hP : Wp_ P) : MC_ σ0 c n (f_X9_both3 5000) 3 (pMany_ (fun t => t == 8) (fun _ => 5) P) := by
  refine ml_many hB h hP rfl rfl (fun _ => by omega) (f_X9_both3_5 5000) ?_ ?_ ?_ _ (fun σ => rfl)
  · intro g σ ts v hN hs
    have w := (isw_l hB hN).2.2.2.2.2.2.2.2.2.2.1
    show ((f_X9_isWord_ σ 0 (97 : Int32) (110 : Int32) (100 : Int32) (0 : Int32) (0 : Int32) (0 : Int32) (0 : Int32) (0 : Int32)).bind fun q1 => if q1 = 0 then some (v, σ) else _) = _
    rw [w, Option.bind_some, if_neg (show ¬ hd_ ts = 8 by simpa using hs), if_pos rfl]
  · intro g σ ts v hN hs
    have w := (isw_l hB hN).2.2.2.2.2.2.2.2.2.2.1
    show ((f_X9_isWord_ σ 0 (97 : Int32) (110 : Int32) (100 : Int32) (0 : Int32) (0 : Int32) (0 : Int32) (0 : Int32) (0 : Int32)).bind fun q1 => if q1 = 0 then some (v, σ) else (f_X9_next 5000 σ 0).bind fun q4 => (f_X9_not3 5000 q4 0).bind fun q5 => if v = 0 then (f_X9_both3_5 5000 g) q5.2 0 (0 : Int32) else if q5.1 = 0 then (f_X9_both3_5 5000 g) q5.2 0 (0 : Int32) else (f_X9_both3_5 5000 g) q5.2 0 (1 : Int32)) = _
    rw [w, Option.bind_some, if_pos (show hd_ ts = 8 by simpa using hs), if_neg (show ¬ (1 : Int32) = 0 by decide)]
    congr 1
    funext q4
    congr 1
    funext q5
    show _ = f_X9_both3_5 5000 g q5.2 0 (if v ≠ 0 ∧ q5.1 ≠ 0 then 1 else 0)
    by_cases z1 : v = 0
    · rw [if_pos z1, if_neg (fun z => z.1 z1)]
    · rw [if_neg z1]
      by_cases z2 : q5.1 = 0
      · rw [if_pos z2, if_neg (fun z => z.2 z2)]
      · rw [if_neg z2, if_pos ⟨z1, z2⟩]
  · intro g σ pl v hb
    show ((f_X9_isWord_ σ 0 (97 : Int32) (110 : Int32) (100 : Int32) (0 : Int32) (0 : Int32) (0 : Int32) (0 : Int32) (0 : Int32)).bind fun q1 => if q1 = 0 then some (v, σ) else _) = _
    rw [bd_w hb, Option.bind_some, if_pos rfl]
theorem ml_e3 {σ0 : St_} {c : Nat → Nat} {n t : Nat} (hB : Bm_ σ0 c n t) {P : List Tk_ → PR_} (h : MC_ σ0 c n (f_X9_both3 5000) 3 P) (hP : Wp_ P) : MC_ σ0 c n (f_X9_either3 5000) 3 (pMany_ (fun t => t == 7) (fun _ => 4) P) := by
  refine ml_many hB h hP rfl rfl (fun _ => by omega) (f_X9_either3_5 5000) ?_ ?_ ?_ _ (fun σ => rfl)
  · intro g σ ts v hN hs
    have w := (isw_l hB hN).2.2.2.2.2.2.2.2.2.1
    show ((f_X9_isWord_ σ 0 (111 : Int32) (114 : Int32) (0 : Int32) (0 : Int32) (0 : Int32) (0 : Int32) (0 : Int32) (0 : Int32)).bind fun q1 => if q1 = 0 then some (v, σ) else _) = _
    rw [w, Option.bind_some, if_neg (show ¬ hd_ ts = 7 by simpa using hs), if_pos rfl]
  · intro g σ ts v hN hs
    have w := (isw_l hB hN).2.2.2.2.2.2.2.2.2.1
    show ((f_X9_isWord_ σ 0 (111 : Int32) (114 : Int32) (0 : Int32) (0 : Int32) (0 : Int32) (0 : Int32) (0 : Int32) (0 : Int32)).bind fun q1 => if q1 = 0 then some (v, σ) else (f_X9_next 5000 σ 0).bind fun q4 => (f_X9_both3 5000 q4 0).bind fun q5 => if v = 0 then if q5.1 = 0 then (f_X9_either3_5 5000 g) q5.2 0 (0 : Int32) else (f_X9_either3_5 5000 g) q5.2 0 (1 : Int32) else (f_X9_either3_5 5000 g) q5.2 0 (1 : Int32)) = _
    rw [w, Option.bind_some, if_pos (show hd_ ts = 7 by simpa using hs), if_neg (show ¬ (1 : Int32) = 0 by decide)]
    congr 1
    funext q4
    congr 1
    funext q5
    show _ = f_X9_either3_5 5000 g q5.2 0 (if v ≠ 0 ∨ q5.1 ≠ 0 then 1 else 0)
    by_cases z1 : v = 0
    · rw [if_pos z1]
      by_cases z2 : q5.1 = 0
      · rw [if_pos z2, if_neg (fun z => z.elim (fun w => w z1) (fun w => w z2))]
      · rw [if_neg z2, if_pos (Or.inr z2)]
    · rw [if_neg z1, if_pos (Or.inl z1)]
  · intro g σ pl v hb
    show ((f_X9_isWord_ σ 0 (111 : Int32) (114 : Int32) (0 : Int32) (0 : Int32) (0 : Int32) (0 : Int32) (0 : Int32) (0 : Int32)).bind fun q1 => if q1 = 0 then some (v, σ) else _) = _
    rw [bd_w hb, Option.bind_some, if_pos rfl]
theorem mc_l3 {σ0 : St_} {c : Nat → Nat} {n t : Nat} (hB : Bm_ σ0 c n t) : MC_ σ0 c n (f_X9_either3 5000) 3 (lv_s 2).1 ∧ MC_ σ0 c n (f_X9_not3 5000) 3 (lv_s 2).2.1 ∧ MC_ σ0 c n (f_X9_atom3 5000) 3 (lv_s 2).2.2 := by
  obtain ⟨i1, i2, i3⟩ := mc_l4 hB
  have a1 : MC_ σ0 c n (f_X9_atom3 5000) 3 (pOne_ true (lv_s 1).1 (lv_s 1).2.2) := mc_at hB (by omega) i3 i1 (wp_lv 1).2.2 _ (fun σ => rfl)
  have wo : Wp_ (pOne_ true (lv_s 1).1 (lv_s 1).2.2) := (wp_lv 2).2.2
  have a2 : MC_ σ0 c n (f_X9_not3 5000) 3 (pN_ true (lv_s 1).2.1 (pOne_ true (lv_s 1).1 (lv_s 1).2.2)) := mc_nt hB (by omega) i2 (wp_lv 1).2.1 (ml_a3 hB (ml_t3 hB a1 wo) (wp_many rfl (fun t => by omega) wo)) (wp_sum wo) _ (fun σ => rfl)
  exact ⟨ml_e3 hB (ml_b3 hB a2 (wp_lv 2).2.1) (wp_and (fun _ => (wp_lv 1).2.1) wo), a2, a1⟩
theorem ml_t2 {σ0 : St_} {c : Nat → Nat} {n t : Nat} (hB : Bm_ σ0 c n t) {P : List Tk_ → PR_} (h : MC_ σ0 c n (f_X9_atom2 5000) 2 P) (hP : Wp_ P) : MC_ σ0 c n (f_X9_term2 5000) 2 (pTerm_ P) := by
  refine ml_many hB h hP rfl rfl (fun _ => by omega) (f_X9_term2_5 5000) ?_ ?_ ?_ _ (fun σ => rfl)
  · intro g σ ts v hN hs
    show (if (f_X9_isSign σ 0 (42 : Int32)) = 0 then some (v, σ) else _) = _
    rw [show (42 : Int32) = nI 42 from rfl, isg_t hN 42 (by omega) (by decide), if_neg (show ¬ hd_ ts = 42 by simpa using hs), if_pos rfl]
  · intro g σ ts v hN hs
    show (if (f_X9_isSign σ 0 (42 : Int32)) = 0 then some (v, σ) else _) = _
    rw [show (42 : Int32) = nI 42 from rfl, isg_t hN 42 (by omega) (by decide), if_pos (show hd_ ts = 42 by simpa using hs), if_neg (show ¬ (1 : Int32) = 0 by decide)]
    rfl
  · intro g σ pl v hb
    show (if (f_X9_isSign σ 0 (42 : Int32)) = 0 then some (v, σ) else _) = _
    rw [bd_sg hb, if_pos rfl]
theorem ml_a2 {σ0 : St_} {c : Nat → Nat} {n t : Nat} (hB : Bm_ σ0 c n t) {P : List Tk_ → PR_} (h : MC_ σ0 c n (f_X9_term2 5000) 2 P) (hP : Wp_ P) : MC_ σ0 c n (f_X9_added2 5000) 2 (pMany_ (fun t => t == 43 || t == 45) (fun t => if t = 43 then 8 else 9) P) := by
  refine ml_many hB h hP rfl rfl (fun _ => by split <;> omega) (f_X9_added2_5 5000) ?_ ?_ ?_ _ (fun σ => rfl)
  · intro g σ ts v hN hs
    have hs' : ¬ hd_ ts = 43 ∧ ¬ hd_ ts = 45 := by simpa using hs
    show (if (f_X9_isSign σ 0 (43 : Int32)) = 0 then if (f_X9_isSign σ 0 (45 : Int32)) = 0 then some (v, σ) else _ else _) = _
    rw [show (43 : Int32) = nI 43 from rfl, isg_t hN 43 (by omega) (by decide), if_neg hs'.1, if_pos rfl, show (45 : Int32) = nI 45 from rfl, isg_t hN 45 (by omega) (by decide), if_neg hs'.2, if_pos rfl]
  · intro g σ ts v hN hs
    have e : hd_ ts = 43 ∨ hd_ ts = 45 := by simpa using hs
    show (if (f_X9_isSign σ 0 (43 : Int32)) = 0 then if (f_X9_isSign σ 0 (45 : Int32)) = 0 then some (v, σ) else if (lg_cmp (sl_ σ 0 23) (43 : Int64)) = 0 then _ else f_X9_added2_39 5000 (f_X9_added2_5 5000 g) σ 0 v (0 : Int32) else if (lg_cmp (sl_ σ 0 23) (43 : Int64)) = 0 then f_X9_added2_39 5000 (f_X9_added2_5 5000 g) σ 0 v (1 : Int32) else _) = _
    rcases e with e | e
    · rw [show (43 : Int32) = nI 43 from rfl, isg_t hN 43 (by omega) (by decide), if_pos e, if_neg (show ¬ (1 : Int32) = 0 by decide), nx_wo hN (w := 43) (by omega) (by decide) e, if_pos (show lg_cmp (lN 43) 43 = 0 by decide +kernel), e]
      rfl
    · rw [show (43 : Int32) = nI 43 from rfl, isg_t hN 43 (by omega) (by decide), if_neg (show ¬ hd_ ts = 43 by omega), if_pos rfl, show (45 : Int32) = nI 45 from rfl, isg_t hN 45 (by omega) (by decide), if_pos e, if_neg (show ¬ (1 : Int32) = 0 by decide), nx_wo hN (w := 45) (by omega) (by decide) e, if_neg (show ¬ lg_cmp (lN 45) 43 = 0 by decide +kernel), e]
      rfl
  · intro g σ pl v hb
    show (if (f_X9_isSign σ 0 (43 : Int32)) = 0 then if (f_X9_isSign σ 0 (45 : Int32)) = 0 then some (v, σ) else _ else _) = _
    rw [bd_sg hb, bd_sg hb, if_pos rfl, if_pos rfl]
theorem ml_b2 {σ0 : St_} {c : Nat → Nat} {n t : Nat} (hB : Bm_ σ0 c n t) {P : List Tk_ → PR_} (h : MC_ σ0 c n (f_X9_not2 5000) 2 P) (hP : Wp_ P) : MC_ σ0 c n (f_X9_both2 5000) 2 (pMany_ (fun t => t == 8) (fun _ => 5) P) := by
  refine ml_many hB h hP rfl rfl (fun _ => by omega) (f_X9_both2_5 5000) ?_ ?_ ?_ _ (fun σ => rfl)
  · intro g σ ts v hN hs
    have w := (isw_l hB hN).2.2.2.2.2.2.2.2.2.2.1
    show ((f_X9_isWord_ σ 0 (97 : Int32) (110 : Int32) (100 : Int32) (0 : Int32) (0 : Int32) (0 : Int32) (0 : Int32) (0 : Int32)).bind fun q1 => if q1 = 0 then some (v, σ) else _) = _
    rw [w, Option.bind_some, if_neg (show ¬ hd_ ts = 8 by simpa using hs), if_pos rfl]
  · intro g σ ts v hN hs
    have w := (isw_l hB hN).2.2.2.2.2.2.2.2.2.2.1
    show ((f_X9_isWord_ σ 0 (97 : Int32) (110 : Int32) (100 : Int32) (0 : Int32) (0 : Int32) (0 : Int32) (0 : Int32) (0 : Int32)).bind fun q1 => if q1 = 0 then some (v, σ) else (f_X9_next 5000 σ 0).bind fun q4 => (f_X9_not2 5000 q4 0).bind fun q5 => if v = 0 then (f_X9_both2_5 5000 g) q5.2 0 (0 : Int32) else if q5.1 = 0 then (f_X9_both2_5 5000 g) q5.2 0 (0 : Int32) else (f_X9_both2_5 5000 g) q5.2 0 (1 : Int32)) = _
    rw [w, Option.bind_some, if_pos (show hd_ ts = 8 by simpa using hs), if_neg (show ¬ (1 : Int32) = 0 by decide)]
    congr 1
    funext q4
    congr 1
    funext q5
    show _ = f_X9_both2_5 5000 g q5.2 0 (if v ≠ 0 ∧ q5.1 ≠ 0 then 1 else 0)
    by_cases z1 : v = 0
    · rw [if_pos z1, if_neg (fun z => z.1 z1)]
    · rw [if_neg z1]
      by_cases z2 : q5.1 = 0
      · rw [if_pos z2, if_neg (fun z => z.2 z2)]
      · rw [if_neg z2, if_pos ⟨z1, z2⟩]
  · intro g σ pl v hb
    show ((f_X9_isWord_ σ 0 (97 : Int32) (110 : Int32) (100 : Int32) (0 : Int32) (0 : Int32) (0 : Int32) (0 : Int32) (0 : Int32)).bind fun q1 => if q1 = 0 then some (v, σ) else _) = _
    rw [bd_w hb, Option.bind_some, if_pos rfl]
theorem ml_e2 {σ0 : St_} {c : Nat → Nat} {n t : Nat} (hB : Bm_ σ0 c n t) {P : List Tk_ → PR_} (h : MC_ σ0 c n (f_X9_both2 5000) 2 P) (hP : Wp_ P) : MC_ σ0 c n (f_X9_either2 5000) 2 (pMany_ (fun t => t == 7) (fun _ => 4) P) := by
  refine ml_many hB h hP rfl rfl (fun _ => by omega) (f_X9_either2_5 5000) ?_ ?_ ?_ _ (fun σ => rfl)
  · intro g σ ts v hN hs
    have w := (isw_l hB hN).2.2.2.2.2.2.2.2.2.1
    show ((f_X9_isWord_ σ 0 (111 : Int32) (114 : Int32) (0 : Int32) (0 : Int32) (0 : Int32) (0 : Int32) (0 : Int32) (0 : Int32)).bind fun q1 => if q1 = 0 then some (v, σ) else _) = _
    rw [w, Option.bind_some, if_neg (show ¬ hd_ ts = 7 by simpa using hs), if_pos rfl]
  · intro g σ ts v hN hs
    have w := (isw_l hB hN).2.2.2.2.2.2.2.2.2.1
    show ((f_X9_isWord_ σ 0 (111 : Int32) (114 : Int32) (0 : Int32) (0 : Int32) (0 : Int32) (0 : Int32) (0 : Int32) (0 : Int32)).bind fun q1 => if q1 = 0 then some (v, σ) else (f_X9_next 5000 σ 0).bind fun q4 => (f_X9_both2 5000 q4 0).bind fun q5 => if v = 0 then if q5.1 = 0 then (f_X9_either2_5 5000 g) q5.2 0 (0 : Int32) else (f_X9_either2_5 5000 g) q5.2 0 (1 : Int32) else (f_X9_either2_5 5000 g) q5.2 0 (1 : Int32)) = _
    rw [w, Option.bind_some, if_pos (show hd_ ts = 7 by simpa using hs), if_neg (show ¬ (1 : Int32) = 0 by decide)]
    congr 1
    funext q4
    congr 1
    funext q5
    show _ = f_X9_either2_5 5000 g q5.2 0 (if v ≠ 0 ∨ q5.1 ≠ 0 then 1 else 0)
    by_cases z1 : v = 0
    · rw [if_pos z1]
      by_cases z2 : q5.1 = 0
      · rw [if_pos z2, if_neg (fun z => z.elim (fun w => w z1) (fun w => w z2))]
      · rw [if_neg z2, if_pos (Or.inr z2)]
    · rw [if_neg z1, if_pos (Or.inl z1)]
  · intro g σ pl v hb
    show ((f_X9_isWord_ σ 0 (111 : Int32) (114 : Int32) (0 : Int32) (0 : Int32) (0 : Int32) (0 : Int32) (0 : Int32) (0 : Int32)).bind fun q1 => if q1 = 0 then some (v, σ) else _) = _
    rw [bd_w hb, Option.bind_some, if_pos rfl]
theorem mc_l2 {σ0 : St_} {c : Nat → Nat} {n t : Nat} (hB : Bm_ σ0 c n t) : MC_ σ0 c n (f_X9_either2 5000) 2 (lv_s 3).1 ∧ MC_ σ0 c n (f_X9_not2 5000) 2 (lv_s 3).2.1 ∧ MC_ σ0 c n (f_X9_atom2 5000) 2 (lv_s 3).2.2 := by
  obtain ⟨i1, i2, i3⟩ := mc_l3 hB
  have a1 : MC_ σ0 c n (f_X9_atom2 5000) 2 (pOne_ true (lv_s 2).1 (lv_s 2).2.2) := mc_at hB (by omega) i3 i1 (wp_lv 2).2.2 _ (fun σ => rfl)
  have wo : Wp_ (pOne_ true (lv_s 2).1 (lv_s 2).2.2) := (wp_lv 3).2.2
  have a2 : MC_ σ0 c n (f_X9_not2 5000) 2 (pN_ true (lv_s 2).2.1 (pOne_ true (lv_s 2).1 (lv_s 2).2.2)) := mc_nt hB (by omega) i2 (wp_lv 2).2.1 (ml_a2 hB (ml_t2 hB a1 wo) (wp_many rfl (fun t => by omega) wo)) (wp_sum wo) _ (fun σ => rfl)
  exact ⟨ml_e2 hB (ml_b2 hB a2 (wp_lv 3).2.1) (wp_and (fun _ => (wp_lv 2).2.1) wo), a2, a1⟩
theorem ml_t1 {σ0 : St_} {c : Nat → Nat} {n t : Nat} (hB : Bm_ σ0 c n t) {P : List Tk_ → PR_} (h : MC_ σ0 c n (f_X9_atom1 5000) 1 P) (hP : Wp_ P) : MC_ σ0 c n (f_X9_term1 5000) 1 (pTerm_ P) := by
  refine ml_many hB h hP rfl rfl (fun _ => by omega) (f_X9_term1_5 5000) ?_ ?_ ?_ _ (fun σ => rfl)
  · intro g σ ts v hN hs
    show (if (f_X9_isSign σ 0 (42 : Int32)) = 0 then some (v, σ) else _) = _
    rw [show (42 : Int32) = nI 42 from rfl, isg_t hN 42 (by omega) (by decide), if_neg (show ¬ hd_ ts = 42 by simpa using hs), if_pos rfl]
  · intro g σ ts v hN hs
    show (if (f_X9_isSign σ 0 (42 : Int32)) = 0 then some (v, σ) else _) = _
    rw [show (42 : Int32) = nI 42 from rfl, isg_t hN 42 (by omega) (by decide), if_pos (show hd_ ts = 42 by simpa using hs), if_neg (show ¬ (1 : Int32) = 0 by decide)]
    rfl
  · intro g σ pl v hb
    show (if (f_X9_isSign σ 0 (42 : Int32)) = 0 then some (v, σ) else _) = _
    rw [bd_sg hb, if_pos rfl]
theorem ml_a1 {σ0 : St_} {c : Nat → Nat} {n t : Nat} (hB : Bm_ σ0 c n t) {P : List Tk_ → PR_} (h : MC_ σ0 c n (f_X9_term1 5000) 1 P) (hP : Wp_ P) : MC_ σ0 c n (f_X9_added1 5000) 1 (pMany_ (fun t => t == 43 || t == 45) (fun t => if t = 43 then 8 else 9) P) := by
  refine ml_many hB h hP rfl rfl (fun _ => by split <;> omega) (f_X9_added1_5 5000) ?_ ?_ ?_ _ (fun σ => rfl)
  · intro g σ ts v hN hs
    have hs' : ¬ hd_ ts = 43 ∧ ¬ hd_ ts = 45 := by simpa using hs
    show (if (f_X9_isSign σ 0 (43 : Int32)) = 0 then if (f_X9_isSign σ 0 (45 : Int32)) = 0 then some (v, σ) else _ else _) = _
    rw [show (43 : Int32) = nI 43 from rfl, isg_t hN 43 (by omega) (by decide), if_neg hs'.1, if_pos rfl, show (45 : Int32) = nI 45 from rfl, isg_t hN 45 (by omega) (by decide), if_neg hs'.2, if_pos rfl]
  · intro g σ ts v hN hs
    have e : hd_ ts = 43 ∨ hd_ ts = 45 := by simpa using hs
    show (if (f_X9_isSign σ 0 (43 : Int32)) = 0 then if (f_X9_isSign σ 0 (45 : Int32)) = 0 then some (v, σ) else if (lg_cmp (sl_ σ 0 23) (43 : Int64)) = 0 then _ else f_X9_added1_39 5000 (f_X9_added1_5 5000 g) σ 0 v (0 : Int32) else if (lg_cmp (sl_ σ 0 23) (43 : Int64)) = 0 then f_X9_added1_39 5000 (f_X9_added1_5 5000 g) σ 0 v (1 : Int32) else _) = _
    rcases e with e | e
    · rw [show (43 : Int32) = nI 43 from rfl, isg_t hN 43 (by omega) (by decide), if_pos e, if_neg (show ¬ (1 : Int32) = 0 by decide), nx_wo hN (w := 43) (by omega) (by decide) e, if_pos (show lg_cmp (lN 43) 43 = 0 by decide +kernel), e]
      rfl
    · rw [show (43 : Int32) = nI 43 from rfl, isg_t hN 43 (by omega) (by decide), if_neg (show ¬ hd_ ts = 43 by omega), if_pos rfl, show (45 : Int32) = nI 45 from rfl, isg_t hN 45 (by omega) (by decide), if_pos e, if_neg (show ¬ (1 : Int32) = 0 by decide), nx_wo hN (w := 45) (by omega) (by decide) e, if_neg (show ¬ lg_cmp (lN 45) 43 = 0 by decide +kernel), e]
      rfl
  · intro g σ pl v hb
    show (if (f_X9_isSign σ 0 (43 : Int32)) = 0 then if (f_X9_isSign σ 0 (45 : Int32)) = 0 then some (v, σ) else _ else _) = _
    rw [bd_sg hb, bd_sg hb, if_pos rfl, if_pos rfl]
theorem ml_b1 {σ0 : St_} {c : Nat → Nat} {n t : Nat} (hB : Bm_ σ0 c n t) {P : List Tk_ → PR_} (h : MC_ σ0 c n (f_X9_not1 5000) 1 P) (hP : Wp_ P) : MC_ σ0 c n (f_X9_both1 5000) 1 (pMany_ (fun t => t == 8) (fun _ => 5) P) := by
  refine ml_many hB h hP rfl rfl (fun _ => by omega) (f_X9_both1_5 5000) ?_ ?_ ?_ _ (fun σ => rfl)
  · intro g σ ts v hN hs
    have w := (isw_l hB hN).2.2.2.2.2.2.2.2.2.2.1
    show ((f_X9_isWord_ σ 0 (97 : Int32) (110 : Int32) (100 : Int32) (0 : Int32) (0 : Int32) (0 : Int32) (0 : Int32) (0 : Int32)).bind fun q1 => if q1 = 0 then some (v, σ) else _) = _
    rw [w, Option.bind_some, if_neg (show ¬ hd_ ts = 8 by simpa using hs), if_pos rfl]
  · intro g σ ts v hN hs
    have w := (isw_l hB hN).2.2.2.2.2.2.2.2.2.2.1
    show ((f_X9_isWord_ σ 0 (97 : Int32) (110 : Int32) (100 : Int32) (0 : Int32) (0 : Int32) (0 : Int32) (0 : Int32) (0 : Int32)).bind fun q1 => if q1 = 0 then some (v, σ) else (f_X9_next 5000 σ 0).bind fun q4 => (f_X9_not1 5000 q4 0).bind fun q5 => if v = 0 then (f_X9_both1_5 5000 g) q5.2 0 (0 : Int32) else if q5.1 = 0 then (f_X9_both1_5 5000 g) q5.2 0 (0 : Int32) else (f_X9_both1_5 5000 g) q5.2 0 (1 : Int32)) = _
    rw [w, Option.bind_some, if_pos (show hd_ ts = 8 by simpa using hs), if_neg (show ¬ (1 : Int32) = 0 by decide)]
    congr 1
    funext q4
    congr 1
    funext q5
    show _ = f_X9_both1_5 5000 g q5.2 0 (if v ≠ 0 ∧ q5.1 ≠ 0 then 1 else 0)
    by_cases z1 : v = 0
    · rw [if_pos z1, if_neg (fun z => z.1 z1)]
    · rw [if_neg z1]
      by_cases z2 : q5.1 = 0
      · rw [if_pos z2, if_neg (fun z => z.2 z2)]
      · rw [if_neg z2, if_pos ⟨z1, z2⟩]
  · intro g σ pl v hb
    show ((f_X9_isWord_ σ 0 (97 : Int32) (110 : Int32) (100 : Int32) (0 : Int32) (0 : Int32) (0 : Int32) (0 : Int32) (0 : Int32)).bind fun q1 => if q1 = 0 then some (v, σ) else _) = _
    rw [bd_w hb, Option.bind_some, if_pos rfl]
theorem ml_e1 {σ0 : St_} {c : Nat → Nat} {n t : Nat} (hB : Bm_ σ0 c n t) {P : List Tk_ → PR_} (h : MC_ σ0 c n (f_X9_both1 5000) 1 P) (hP : Wp_ P) : MC_ σ0 c n (f_X9_either1 5000) 1 (pMany_ (fun t => t == 7) (fun _ => 4) P) := by
  refine ml_many hB h hP rfl rfl (fun _ => by omega) (f_X9_either1_5 5000) ?_ ?_ ?_ _ (fun σ => rfl)
  · intro g σ ts v hN hs
    have w := (isw_l hB hN).2.2.2.2.2.2.2.2.2.1
    show ((f_X9_isWord_ σ 0 (111 : Int32) (114 : Int32) (0 : Int32) (0 : Int32) (0 : Int32) (0 : Int32) (0 : Int32) (0 : Int32)).bind fun q1 => if q1 = 0 then some (v, σ) else _) = _
    rw [w, Option.bind_some, if_neg (show ¬ hd_ ts = 7 by simpa using hs), if_pos rfl]
  · intro g σ ts v hN hs
    have w := (isw_l hB hN).2.2.2.2.2.2.2.2.2.1
    show ((f_X9_isWord_ σ 0 (111 : Int32) (114 : Int32) (0 : Int32) (0 : Int32) (0 : Int32) (0 : Int32) (0 : Int32) (0 : Int32)).bind fun q1 => if q1 = 0 then some (v, σ) else (f_X9_next 5000 σ 0).bind fun q4 => (f_X9_both1 5000 q4 0).bind fun q5 => if v = 0 then if q5.1 = 0 then (f_X9_either1_5 5000 g) q5.2 0 (0 : Int32) else (f_X9_either1_5 5000 g) q5.2 0 (1 : Int32) else (f_X9_either1_5 5000 g) q5.2 0 (1 : Int32)) = _
    rw [w, Option.bind_some, if_pos (show hd_ ts = 7 by simpa using hs), if_neg (show ¬ (1 : Int32) = 0 by decide)]
    congr 1
    funext q4
    congr 1
    funext q5
    show _ = f_X9_either1_5 5000 g q5.2 0 (if v ≠ 0 ∨ q5.1 ≠ 0 then 1 else 0)
    by_cases z1 : v = 0
    · rw [if_pos z1]
      by_cases z2 : q5.1 = 0
      · rw [if_pos z2, if_neg (fun z => z.elim (fun w => w z1) (fun w => w z2))]
      · rw [if_neg z2, if_pos (Or.inr z2)]
    · rw [if_neg z1, if_pos (Or.inl z1)]
  · intro g σ pl v hb
    show ((f_X9_isWord_ σ 0 (111 : Int32) (114 : Int32) (0 : Int32) (0 : Int32) (0 : Int32) (0 : Int32) (0 : Int32) (0 : Int32)).bind fun q1 => if q1 = 0 then some (v, σ) else _) = _
    rw [bd_w hb, Option.bind_some, if_pos rfl]
theorem mc_l1 {σ0 : St_} {c : Nat → Nat} {n t : Nat} (hB : Bm_ σ0 c n t) : MC_ σ0 c n (f_X9_either1 5000) 1 (lv_s 4).1 ∧ MC_ σ0 c n (f_X9_not1 5000) 1 (lv_s 4).2.1 ∧ MC_ σ0 c n (f_X9_atom1 5000) 1 (lv_s 4).2.2 := by
  obtain ⟨i1, i2, i3⟩ := mc_l2 hB
  have a1 : MC_ σ0 c n (f_X9_atom1 5000) 1 (pOne_ true (lv_s 3).1 (lv_s 3).2.2) := mc_at hB (by omega) i3 i1 (wp_lv 3).2.2 _ (fun σ => rfl)
  have wo : Wp_ (pOne_ true (lv_s 3).1 (lv_s 3).2.2) := (wp_lv 4).2.2
  have a2 : MC_ σ0 c n (f_X9_not1 5000) 1 (pN_ true (lv_s 3).2.1 (pOne_ true (lv_s 3).1 (lv_s 3).2.2)) := mc_nt hB (by omega) i2 (wp_lv 3).2.1 (ml_a1 hB (ml_t1 hB a1 wo) (wp_many rfl (fun t => by omega) wo)) (wp_sum wo) _ (fun σ => rfl)
  exact ⟨ml_e1 hB (ml_b1 hB a2 (wp_lv 4).2.1) (wp_and (fun _ => (wp_lv 3).2.1) wo), a2, a1⟩
theorem ml_t0 {σ0 : St_} {c : Nat → Nat} {n t : Nat} (hB : Bm_ σ0 c n t) {P : List Tk_ → PR_} (h : MC_ σ0 c n (f_X9_atom0 5000) 0 P) (hP : Wp_ P) : MC_ σ0 c n (f_X9_term0 5000) 0 (pTerm_ P) := by
  refine ml_many hB h hP rfl rfl (fun _ => by omega) (f_X9_term0_5 5000) ?_ ?_ ?_ _ (fun σ => rfl)
  · intro g σ ts v hN hs
    show (if (f_X9_isSign σ 0 (42 : Int32)) = 0 then some (v, σ) else _) = _
    rw [show (42 : Int32) = nI 42 from rfl, isg_t hN 42 (by omega) (by decide), if_neg (show ¬ hd_ ts = 42 by simpa using hs), if_pos rfl]
  · intro g σ ts v hN hs
    show (if (f_X9_isSign σ 0 (42 : Int32)) = 0 then some (v, σ) else _) = _
    rw [show (42 : Int32) = nI 42 from rfl, isg_t hN 42 (by omega) (by decide), if_pos (show hd_ ts = 42 by simpa using hs), if_neg (show ¬ (1 : Int32) = 0 by decide)]
    rfl
  · intro g σ pl v hb
    show (if (f_X9_isSign σ 0 (42 : Int32)) = 0 then some (v, σ) else _) = _
    rw [bd_sg hb, if_pos rfl]
theorem ml_a0 {σ0 : St_} {c : Nat → Nat} {n t : Nat} (hB : Bm_ σ0 c n t) {P : List Tk_ → PR_} (h : MC_ σ0 c n (f_X9_term0 5000) 0 P) (hP : Wp_ P) : MC_ σ0 c n (f_X9_added0 5000) 0 (pMany_ (fun t => t == 43 || t == 45) (fun t => if t = 43 then 8 else 9) P) := by
  refine ml_many hB h hP rfl rfl (fun _ => by split <;> omega) (f_X9_added0_5 5000) ?_ ?_ ?_ _ (fun σ => rfl)
  · intro g σ ts v hN hs
    have hs' : ¬ hd_ ts = 43 ∧ ¬ hd_ ts = 45 := by simpa using hs
    show (if (f_X9_isSign σ 0 (43 : Int32)) = 0 then if (f_X9_isSign σ 0 (45 : Int32)) = 0 then some (v, σ) else _ else _) = _
    rw [show (43 : Int32) = nI 43 from rfl, isg_t hN 43 (by omega) (by decide), if_neg hs'.1, if_pos rfl, show (45 : Int32) = nI 45 from rfl, isg_t hN 45 (by omega) (by decide), if_neg hs'.2, if_pos rfl]
  · intro g σ ts v hN hs
    have e : hd_ ts = 43 ∨ hd_ ts = 45 := by simpa using hs
    show (if (f_X9_isSign σ 0 (43 : Int32)) = 0 then if (f_X9_isSign σ 0 (45 : Int32)) = 0 then some (v, σ) else if (lg_cmp (sl_ σ 0 23) (43 : Int64)) = 0 then _ else f_X9_added0_39 5000 (f_X9_added0_5 5000 g) σ 0 v (0 : Int32) else if (lg_cmp (sl_ σ 0 23) (43 : Int64)) = 0 then f_X9_added0_39 5000 (f_X9_added0_5 5000 g) σ 0 v (1 : Int32) else _) = _
    rcases e with e | e
    · rw [show (43 : Int32) = nI 43 from rfl, isg_t hN 43 (by omega) (by decide), if_pos e, if_neg (show ¬ (1 : Int32) = 0 by decide), nx_wo hN (w := 43) (by omega) (by decide) e, if_pos (show lg_cmp (lN 43) 43 = 0 by decide +kernel), e]
      rfl
    · rw [show (43 : Int32) = nI 43 from rfl, isg_t hN 43 (by omega) (by decide), if_neg (show ¬ hd_ ts = 43 by omega), if_pos rfl, show (45 : Int32) = nI 45 from rfl, isg_t hN 45 (by omega) (by decide), if_pos e, if_neg (show ¬ (1 : Int32) = 0 by decide), nx_wo hN (w := 45) (by omega) (by decide) e, if_neg (show ¬ lg_cmp (lN 45) 43 = 0 by decide +kernel), e]
      rfl
  · intro g σ pl v hb
    show (if (f_X9_isSign σ 0 (43 : Int32)) = 0 then if (f_X9_isSign σ 0 (45 : Int32)) = 0 then some (v, σ) else _ else _) = _
    rw [bd_sg hb, bd_sg hb, if_pos rfl, if_pos rfl]
theorem ml_b0 {σ0 : St_} {c : Nat → Nat} {n t : Nat} (hB : Bm_ σ0 c n t) {P : List Tk_ → PR_} (h : MC_ σ0 c n (f_X9_not0 5000) 0 P) (hP : Wp_ P) : MC_ σ0 c n (f_X9_both0 5000) 0 (pMany_ (fun t => t == 8) (fun _ => 5) P) := by
  refine ml_many hB h hP rfl rfl (fun _ => by omega) (f_X9_both0_5 5000) ?_ ?_ ?_ _ (fun σ => rfl)
  · intro g σ ts v hN hs
    have w := (isw_l hB hN).2.2.2.2.2.2.2.2.2.2.1
    show ((f_X9_isWord_ σ 0 (97 : Int32) (110 : Int32) (100 : Int32) (0 : Int32) (0 : Int32) (0 : Int32) (0 : Int32) (0 : Int32)).bind fun q1 => if q1 = 0 then some (v, σ) else _) = _
    rw [w, Option.bind_some, if_neg (show ¬ hd_ ts = 8 by simpa using hs), if_pos rfl]
  · intro g σ ts v hN hs
    have w := (isw_l hB hN).2.2.2.2.2.2.2.2.2.2.1
    show ((f_X9_isWord_ σ 0 (97 : Int32) (110 : Int32) (100 : Int32) (0 : Int32) (0 : Int32) (0 : Int32) (0 : Int32) (0 : Int32)).bind fun q1 => if q1 = 0 then some (v, σ) else (f_X9_next 5000 σ 0).bind fun q4 => (f_X9_not0 5000 q4 0).bind fun q5 => if v = 0 then (f_X9_both0_5 5000 g) q5.2 0 (0 : Int32) else if q5.1 = 0 then (f_X9_both0_5 5000 g) q5.2 0 (0 : Int32) else (f_X9_both0_5 5000 g) q5.2 0 (1 : Int32)) = _
    rw [w, Option.bind_some, if_pos (show hd_ ts = 8 by simpa using hs), if_neg (show ¬ (1 : Int32) = 0 by decide)]
    congr 1
    funext q4
    congr 1
    funext q5
    show _ = f_X9_both0_5 5000 g q5.2 0 (if v ≠ 0 ∧ q5.1 ≠ 0 then 1 else 0)
    by_cases z1 : v = 0
    · rw [if_pos z1, if_neg (fun z => z.1 z1)]
    · rw [if_neg z1]
      by_cases z2 : q5.1 = 0
      · rw [if_pos z2, if_neg (fun z => z.2 z2)]
      · rw [if_neg z2, if_pos ⟨z1, z2⟩]
  · intro g σ pl v hb
    show ((f_X9_isWord_ σ 0 (97 : Int32) (110 : Int32) (100 : Int32) (0 : Int32) (0 : Int32) (0 : Int32) (0 : Int32) (0 : Int32)).bind fun q1 => if q1 = 0 then some (v, σ) else _) = _
    rw [bd_w hb, Option.bind_some, if_pos rfl]
theorem ml_e0 {σ0 : St_} {c : Nat → Nat} {n t : Nat} (hB : Bm_ σ0 c n t) {P : List Tk_ → PR_} (h : MC_ σ0 c n (f_X9_both0 5000) 0 P) (hP : Wp_ P) : MC_ σ0 c n (f_X9_either0 5000) 0 (pMany_ (fun t => t == 7) (fun _ => 4) P) := by
  refine ml_many hB h hP rfl rfl (fun _ => by omega) (f_X9_either0_5 5000) ?_ ?_ ?_ _ (fun σ => rfl)
  · intro g σ ts v hN hs
    have w := (isw_l hB hN).2.2.2.2.2.2.2.2.2.1
    show ((f_X9_isWord_ σ 0 (111 : Int32) (114 : Int32) (0 : Int32) (0 : Int32) (0 : Int32) (0 : Int32) (0 : Int32) (0 : Int32)).bind fun q1 => if q1 = 0 then some (v, σ) else _) = _
    rw [w, Option.bind_some, if_neg (show ¬ hd_ ts = 7 by simpa using hs), if_pos rfl]
  · intro g σ ts v hN hs
    have w := (isw_l hB hN).2.2.2.2.2.2.2.2.2.1
    show ((f_X9_isWord_ σ 0 (111 : Int32) (114 : Int32) (0 : Int32) (0 : Int32) (0 : Int32) (0 : Int32) (0 : Int32) (0 : Int32)).bind fun q1 => if q1 = 0 then some (v, σ) else (f_X9_next 5000 σ 0).bind fun q4 => (f_X9_both0 5000 q4 0).bind fun q5 => if v = 0 then if q5.1 = 0 then (f_X9_either0_5 5000 g) q5.2 0 (0 : Int32) else (f_X9_either0_5 5000 g) q5.2 0 (1 : Int32) else (f_X9_either0_5 5000 g) q5.2 0 (1 : Int32)) = _
    rw [w, Option.bind_some, if_pos (show hd_ ts = 7 by simpa using hs), if_neg (show ¬ (1 : Int32) = 0 by decide)]
    congr 1
    funext q4
    congr 1
    funext q5
    show _ = f_X9_either0_5 5000 g q5.2 0 (if v ≠ 0 ∨ q5.1 ≠ 0 then 1 else 0)
    by_cases z1 : v = 0
    · rw [if_pos z1]
      by_cases z2 : q5.1 = 0
      · rw [if_pos z2, if_neg (fun z => z.elim (fun w => w z1) (fun w => w z2))]
      · rw [if_neg z2, if_pos (Or.inr z2)]
    · rw [if_neg z1, if_pos (Or.inl z1)]
  · intro g σ pl v hb
    show ((f_X9_isWord_ σ 0 (111 : Int32) (114 : Int32) (0 : Int32) (0 : Int32) (0 : Int32) (0 : Int32) (0 : Int32) (0 : Int32)).bind fun q1 => if q1 = 0 then some (v, σ) else _) = _
    rw [bd_w hb, Option.bind_some, if_pos rfl]
theorem mc_l0 {σ0 : St_} {c : Nat → Nat} {n t : Nat} (hB : Bm_ σ0 c n t) : MC_ σ0 c n (f_X9_either0 5000) 0 (lv_s 5).1 ∧ MC_ σ0 c n (f_X9_not0 5000) 0 (lv_s 5).2.1 ∧ MC_ σ0 c n (f_X9_atom0 5000) 0 (lv_s 5).2.2 := by
  obtain ⟨i1, i2, i3⟩ := mc_l1 hB
  have a1 : MC_ σ0 c n (f_X9_atom0 5000) 0 (pOne_ true (lv_s 4).1 (lv_s 4).2.2) := mc_at hB (by omega) i3 i1 (wp_lv 4).2.2 _ (fun σ => rfl)
  have wo : Wp_ (pOne_ true (lv_s 4).1 (lv_s 4).2.2) := (wp_lv 5).2.2
  have a2 : MC_ σ0 c n (f_X9_not0 5000) 0 (pN_ true (lv_s 4).2.1 (pOne_ true (lv_s 4).1 (lv_s 4).2.2)) := mc_nt hB (by omega) i2 (wp_lv 4).2.1 (ml_a0 hB (ml_t0 hB a1 wo) (wp_many rfl (fun t => by omega) wo)) (wp_sum wo) _ (fun σ => rfl)
  exact ⟨ml_e0 hB (ml_b0 hB a2 (wp_lv 5).2.1) (wp_and (fun _ => (wp_lv 4).2.1) wo), a2, a1⟩
