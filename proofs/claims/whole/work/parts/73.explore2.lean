/-! HERE: EXPLORE, to its end -/
section
variable {G : Nat → Nat → Nat} {b s : Nat}
theorem lv_all (hb : b = 24 ∨ b = 30) {i c0 : Nat} : ∀ (k w g : Nat) (σ : St_) (n : Nat) (q K L : Nat → Nat) (v3 : Int32), w + k = 8 → k < g → Tg_ G σ → Wx_ σ b G s n q K L i w → Bq_ G s n q K L (10 * K i + w + 1) → i < n → q i = c0 → ((v3 = 0 ∧ ∀ w', w' < w → G c0 w' = c0) ∨ (v3 = 1 ∧ ∃ w', w' < w ∧ G c0 w' ≠ c0)) → ∃ (σ' : St_) (n' : Nat) (q' K' L' : Nat → Nat), f_X7_leave_15 5000 g σ b 21 (nI c0) v3 (nI w) = some σ' ∧ Xb_ b σ σ' ∧ Wx_ σ' b G s n' q' K' L' (i + 1) 0 ∧ Bq_ G s n' q' K' L' (10 * K' i + 9) ∧ i < n' := by
  intro k
  induction k with
  | zero =>
    intro w g σ n q K L v3 h1 h2 hT hx hB hi hq hv
    obtain ⟨g, rfl⟩ : ∃ g', g = g' + 1 := ⟨g - 1, by omega⟩
    have hw : w = 8 := by omega
    subst hw
    obtain ⟨x1, x2, x3, x4, x5, x6, ⟨P, x7, x8⟩, ⟨Q, x9, x10⟩, x11, x12, x13, x14⟩ := hx
    have hc0 : c0 < 36 := by rw [← hq]; exact (x3 i hi).1
    have fin : ∀ (y : Int64) (Q' : Nat → Bool), y = ba_ Q' 36 → (∀ c, c < 36 → (Q' c = true ↔ ∃ j, j < n ∧ j < i + 1 ∧ q j = c ∧ ∀ w', w' < 8 → G c w' = c)) → Wx_ (ul_ σ b 7 y) b G s n q K L (i + 1) 0 := fun y Q' e1 e2 =>
      ⟨x1, x2, x3, x4, x5, fun j w' hj hw' hp => x6 j w' hj hw' (by omega), ⟨P, x7, fun w' hw' => (x8 w' hw').trans ⟨fun ⟨j, j1, j2, j3⟩ => ⟨j, j1, by omega, j3⟩, fun ⟨j, j1, j2, j3⟩ => ⟨j, j1, by omega, j3⟩⟩⟩, ⟨Q', by rw [g_sl_ul, if_pos rfl, if_pos rfl, e1], e2⟩, x11, x12, x13, x14⟩
    rw [u_X7_leave_15, if_pos (by decide)]
    rcases hv with ⟨rfl, hv⟩ | ⟨rfl, w', hw', hv⟩
    · rw [if_pos rfl]
      refine ⟨_, n, q, K, L, rfl, Xb_.ul hT.sh _ _ (by omega) (by omega), fin _ (fun k => Q k || decide (k = c0)) ?_ (fun c hc => ?_), hB, hi⟩
      · rw [x9]; exact bt_or 36 hc0
      · show (Q c || decide (c = c0)) = true ↔ _
        rw [Bool.or_eq_true, decide_eq_true_iff, x10 c hc]
        refine ⟨fun z => ?_, fun ⟨j, j1, j2, j3, j4⟩ => ?_⟩
        · rcases z with ⟨j, j1, j2, j3, j4⟩ | z
          · exact ⟨j, j1, by omega, j3, j4⟩
          · subst z
            exact ⟨i, hi, by omega, hq, fun w' hw' => hv w' hw'⟩
        · by_cases e : j = i
          · subst e
            exact Or.inr (by rw [← j3, hq])
          · exact Or.inl ⟨j, j1, by omega, j3, j4⟩
    · rw [if_neg (by decide), Int64.or_zero]
      refine ⟨_, n, q, K, L, rfl, Xb_.ul hT.sh _ _ (by omega) (by omega), fin _ Q x9 (fun c hc => (x10 c hc).trans ⟨fun ⟨j, j1, j2, j3, j4⟩ => ⟨j, j1, by omega, j3, j4⟩, fun ⟨j, j1, j2, j3, j4⟩ => ⟨j, j1, ?_, j3, j4⟩⟩), hB, hi⟩
      by_cases e : j = i
      · subst e
        rw [hq] at j3
        subst j3
        exact absurd (j4 w' hw') hv
      · omega
  | succ k ih =>
    intro w g σ n q K L v3 h1 h2 hT hx hB hi hq hv
    obtain ⟨g, rfl⟩ : ∃ g', g = g' + 1 := ⟨g - 1, by omega⟩
    obtain ⟨σ', n', q', K', L', v3', e, X, hW, hB', hi', hq', hv'⟩ := lv_w hb hT hx hB hi (show w < 8 by omega) v3 g
    rw [hq] at e hv' hq'
    rw [e]
    obtain ⟨σ2, n2, q2, K2, L2, f1, f2, f3⟩ := ih (w + 1) g σ' n' q' K' L' v3' (by omega) (by omega) (hT.xb hb X) hW hB' hi' hq' (by
      rcases hv' with ⟨a, rfl⟩ | ⟨a, rfl⟩
      · rcases hv with ⟨c, d⟩ | ⟨c, w', d1, d2⟩
        · refine Or.inl ⟨c, fun w' hw' => ?_⟩
          by_cases y : w' = w
          · subst y; exact a
          · exact d w' (by omega)
        · exact Or.inr ⟨c, w', by omega, d2⟩
      · exact Or.inr ⟨rfl, w, by omega, a⟩)
    exact ⟨σ2, n2, q2, K2, L2, f1, X.trans f2, f3⟩
/-- all that can be come to has been found -/
def Wz_ (σ : St_) (b : Nat) (G : Nat → Nat → Nat) (s n : Nat) (q K L : Nat → Nat) : Prop := Wx_ σ b G s n q K L n 0 ∧ (∃ pos, Bq_ G s n q K L pos) ∧ ∀ r, Wd_ r → ∃ j, j < n ∧ q j = go_ G s r ∧ K j ≤ nm_ r
theorem ex_33 (hb : b = 24 ∨ b = 30) : ∀ (k i g : Nat) (σ : St_) (n : Nat) (q K L : Nat → Nat), i + k = 36 → k < g → Tg_ G σ → Wx_ σ b G s n q K L i 0 → ((i < n ∧ Bq_ G s n q K L (10 * K i + 1)) ∨ (i = n ∧ Bq_ G s n q K L (10 * K (i - 1) + 9))) → ∃ (σ' : St_) (n' : Nat) (q' K' L' : Nat → Nat), f_X7_explore_33 5000 g σ b 21 (nI i) = some σ' ∧ Xb_ b σ σ' ∧ Wz_ σ' b G s n' q' K' L' := by
  have fin : ∀ (i g : Nat) (σ : St_) (n : Nat) (q K L : Nat → Nat), Tg_ G σ → Wx_ σ b G s n q K L i 0 → i = n → Bq_ G s n q K L (10 * K (i - 1) + 9) → ∃ (σ' : St_) (n' : Nat) (q' K' L' : Nat → Nat), f_X7_explore_33 5000 (g + 1) σ b 21 (nI i) = some σ' ∧ Xb_ b σ σ' ∧ Wz_ σ' b G s n' q' K' L' := by
    intro i g σ n q K L hT hx e hB
    subst e
    have hn := hx.1
    have h0 : 0 < i := hx.2.2.2.2.2.2.2.2.1
    refine ⟨σ, i, q, K, L, ?_, Xb_.refl hT.sh b, hx, ⟨_, hB⟩, fun r hr => hB.end (i := i - 1) (by omega) rfl r.length r rfl hr⟩
    rw [u_X7_explore_33, hx.2.1, if_pos (nI_le (Nat.le_refl _) (by omega))]
  intro k
  induction k with
  | zero =>
    intro i g σ n q K L h1 h2 hT hx hh
    obtain ⟨g, rfl⟩ : ∃ g', g = g' + 1 := ⟨g - 1, by omega⟩
    have hn := hx.1
    rcases hh with ⟨a, c⟩ | ⟨a, c⟩
    · omega
    · exact fin i g σ n q K L hT hx a c
  | succ k ih =>
    intro i g σ n q K L h1 h2 hT hx hh
    obtain ⟨g, rfl⟩ : ∃ g', g = g' + 1 := ⟨g - 1, by omega⟩
    have hn := hx.1
    rcases hh with ⟨a, c⟩ | ⟨a, c⟩
    · obtain ⟨⟨d0, d1, d2, d3, d4⟩, l1, l2, l3, l4, l5⟩ := way_s hT.sh hb
      have hq := hx.2.2.1 i a
      obtain ⟨σ', n', q', K', L', f1, f2, f3, f4, f5⟩ := lv_all hb (c0 := q i) 8 0 5000 σ n q K L 0 (by omega) (by omega) hT hx c a rfl (Or.inl ⟨rfl, fun w' hw' => by omega⟩)
      have f1' : f_X7_leave 5000 σ b 21 (nI (q i)) = some σ' := by
        unfold f_X7_leave
        rw [if_neg (show ¬ f_X8_isBelow (nI (q i)) 36 = 0 from bel_n (n := 36) hq.1 (by omega))]
        exact f1
      obtain ⟨σ2, n2, q2, K2, L2, g1, g2, g3⟩ := ih (i + 1) g σ' n' q' K' L' (by omega) (by omega) (hT.xb hb f2) f3 (by
        rcases Nat.lt_or_ge (i + 1) n' with y | y
        · exact Or.inl ⟨y, f4.next y rfl⟩
        · exact Or.inr ⟨by omega, f4⟩)
      refine ⟨σ2, n2, q2, K2, L2, ?_, f2.trans g2, g3⟩
      rw [u_X7_explore_33, hx.2.1, if_neg (nI_ge a (by omega)), if_neg (show ¬ (36 : Int32) ≤ nI i from nI_ge (b := 36) (by omega) (by omega)), d3, Option.bind_some, l4, ix_ok (by omega) (by omega), Option.bind_some, hq.2.1, f1', Option.bind_some, nI_1]
      exact g1
    · exact fin i g σ n q K L hT hx a c
theorem ex_ok (hb : b = 24 ∨ b = 30) {σ : St_} (hT : Tg_ G σ) (hs : s < 36) : ∃ (σ' : St_) (n : Nat) (q K L : Nat → Nat), f_X7_explore 5000 σ b 21 (nI s) = some σ' ∧ Xb_ b σ σ' ∧ Wz_ σ' b G s n q K L := by
  have hX := hT.sh
  obtain ⟨⟨d0, d1, d2, d3, d4⟩, l1, l2, l3, l4, l5⟩ := way_s hX hb
  have ef := fill_ok (fu := 5000) (σ := σ) (a := b + 1) (-1) (by rw [l1]; omega) (by rw [l1]; omega)
  have X1 : Xb_ b σ (uw_ σ (b + 1) (fun j => if j < ln_ σ (b + 1) then -1 else si_ σ (b + 1) j)) := ⟨hX, (Fr_.refl _ _).uw _ _ (fun k z => z.2 ⟨by omega, by omega⟩)⟩
  have r1 : ∀ c, c < 36 → si_ (uw_ σ (b + 1) (fun j => if j < ln_ σ (b + 1) then -1 else si_ σ (b + 1) j)) (b + 1) c = -1 := fun c hc => by
    rw [g_si_uw, if_pos rfl, if_pos (by rw [l1]; exact hc)]
  generalize uw_ σ (b + 1) (fun j => if j < ln_ σ (b + 1) then -1 else si_ σ (b + 1) j) = s1 at *
  have X2 : Xb_ b s1 (ul_ (ui_ (ui_ s1 b 5 0) b 6 0) b 7 0) := ⟨X1.1, Fr_.ul (Fr_.ui (Fr_.ui (Fr_.refl _ _) b 5 0 (fun z => z.2 ⟨by omega, by omega⟩)) b 6 0 (fun z => z.2 ⟨by omega, by omega⟩)) b 7 0 (fun z => z.2 ⟨by omega, by omega⟩)⟩
  have v1 : ∀ c, c < 36 → si_ (ul_ (ui_ (ui_ s1 b 5 0) b 6 0) b 7 0) (b + 1) c = -1 := fun c hc => by
    show si_ (ui_ (ui_ s1 b 5 0) b 6 0) (b + 1) c = -1
    rw [g_si_ne (by omega), g_si_ne (by omega)]; exact r1 c hc
  have v5 : si_ (ul_ (ui_ (ui_ s1 b 5 0) b 6 0) b 7 0) b 5 = nI 0 := by
    show si_ (ui_ (ui_ s1 b 5 0) b 6 0) b 5 = _
    rw [g_si_ui, if_pos rfl, if_neg (by omega), g_si_ui, if_pos rfl, if_pos rfl]; rfl
  have v6 : si_ (ul_ (ui_ (ui_ s1 b 5 0) b 6 0) b 7 0) b 6 = 0 := by
    show si_ (ui_ (ui_ s1 b 5 0) b 6 0) b 6 = _
    rw [g_si_ui, if_pos rfl, if_pos rfl]
  have v7 : sl_ (ul_ (ui_ (ui_ s1 b 5 0) b 6 0) b 7 0) b 7 = 0 := by rw [g_sl_ul, if_pos rfl, if_pos rfl]
  have e2 : f_X7_explore 5000 σ b 21 (nI s) = (f_X7_discover (ul_ (ui_ (ui_ s1 b 5 0) b 6 0) b 7 0) b (nI s) (nI s) 0 0).bind fun q5 => f_X7_explore_33 5000 5000 q5 b 21 0 := by
    unfold f_X7_explore
    rw [d0, Option.bind_some, ef, Option.bind_some]
  generalize ul_ (ui_ (ui_ s1 b 5 0) b 6 0) b 7 0 = s2 at *
  obtain ⟨s3, e3, X3, a1, a2, a3, a4, a5, a6, a7, a8⟩ := disc_n X2.1 hb hs (nI s) 0 0 (v1 s hs) v5 (by omega)
  have Xa := (X1.trans X2).trans X3
  have hW : Wx_ s3 b G s 1 (fun _ => s) (fun _ => 0) (fun _ => 0) 0 0 := by
    refine ⟨by omega, a6, fun j hj => ⟨hs, ?_, ?_, Nat.zero_le _⟩, fun c hc hno => ?_, fun j h0 hj => by omega, fun j w' hj hw' hp => by omega, ⟨fun _ => false, ?_, fun w' hw' => ⟨fun z => absurd z Bool.false_ne_true, fun ⟨j, j1, j2, j3⟩ => by omega⟩⟩, ⟨fun _ => false, ?_, fun c hc => ⟨fun z => absurd z Bool.false_ne_true, fun ⟨j, j1, j2, j3⟩ => by omega⟩⟩, by omega, rfl, rfl, rfl⟩
    · have : j = 0 := by omega
      subst this
      rw [a4, if_pos rfl]
    · show si_ s3 (b + 1) s = nI 0
      rw [a1, if_pos rfl]; rfl
    · rw [a1, if_neg (fun e => hno 0 (by omega) e.symm)]
      exact v1 c hc
    · rw [a7, v6]; decide +kernel
    · rw [a8, v7, ba_f]
  obtain ⟨σ', n', q', K', L', f1, f2, f3⟩ := ex_33 hb 36 0 5000 s3 1 (fun _ => s) (fun _ => 0) (fun _ => 0) (by omega) (by omega) (hT.xb hb Xa) hW (Or.inl ⟨by omega, Bq_.start rfl rfl rfl⟩)
  refine ⟨σ', n', q', K', L', ?_, Xa.trans f2, f3⟩
  rw [e2, e3, Option.bind_some]
  exact f1
end
