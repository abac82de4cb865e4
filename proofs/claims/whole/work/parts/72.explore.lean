/-! HERE: EXPLORE -/
section
variable {G : Nat → Nat → Nat} {b s i w n : Nat} {q K L : Nat → Nat} {σ σ2 : St_}
theorem Wx_.word (h : Wx_ σ b G s n q K L i w) (hi : i < n) (hw : w < 8) (r5 : si_ σ2 b 5 = si_ σ b 5) (r1 : ∀ c, si_ σ2 (b + 1) c = si_ σ (b + 1) c) (r2 : ∀ c, si_ σ2 (b + 2) c = si_ σ (b + 2) c) (r3 : ∀ c, si_ σ2 (b + 3) c = si_ σ (b + 3) c) (r4 : ∀ c, si_ σ2 (b + 4) c = si_ σ (b + 4) c) (r6 : ∀ c, si_ σ2 (b + 5) c = if c = 8 * q i + w then nI (G (q i) w) else si_ σ (b + 5) c) (r7 : (G (q i) w = q i ∧ si_ σ2 b 6 = si_ σ b 6) ∨ (G (q i) w ≠ q i ∧ si_ σ2 b 6 = si_ σ b 6 ||| bu_ w)) (r8 : sl_ σ2 b 7 = sl_ σ b 7) : Wx_ σ2 b G s n q K L i (w + 1) := by
  obtain ⟨x1, x2, x3, x4, x5, x6, ⟨P, x7, x8⟩, ⟨Q, x9, x10⟩, x11, x12, x13, x14⟩ := h
  refine ⟨x1, r5.trans x2, fun j hj => ?_, fun c hc hn => (r1 c).trans (x4 c hc hn), fun j h0 hj => ?_, fun j w' hj hw' hp => ?_, ?_, ⟨Q, r8.trans x9, x10⟩, x11, x12, x13, x14⟩
  · obtain ⟨a1, a2, a3, a4⟩ := x3 j hj
    exact ⟨a1, (r4 j).trans a2, (r1 _).trans a3, a4⟩
  · obtain ⟨i', w', a1, a2, a3, a4, a5, a6⟩ := x5 j h0 hj
    exact ⟨i', w', a1, a2, (r2 _).trans a3, (r3 _).trans a4, a5, a6⟩
  · rw [r6]
    by_cases z : 8 * q j + w' = 8 * q i + w
    · have e1 : q j = q i := by omega
      have e2 : w' = w := by omega
      rw [if_pos z, e1, e2]
    · rw [if_neg z]
      refine x6 j w' hj hw' ?_
      rcases hp with hp | ⟨hp1, hp2⟩
      · exact Or.inl hp
      · refine Or.inr ⟨hp1, ?_⟩
        subst hp1
        omega
  · rcases r7 with ⟨a, c⟩ | ⟨a, c⟩
    · refine ⟨P, c.trans x7, fun w' hw' => (x8 w' hw').trans ⟨fun ⟨j, j1, j2, j3⟩ => ⟨j, j1, by omega, j3⟩, fun ⟨j, j1, j2, j3⟩ => ⟨j, j1, ?_, j3⟩⟩⟩
      rcases j2 with j2 | ⟨j2, j4⟩
      · exact Or.inl j2
      · refine Or.inr ⟨j2, ?_⟩
        by_cases e : w' = w
        · subst e; subst j2; exact absurd a j3
        · omega
    · refine ⟨fun k => P k || decide (k = w), ?_, fun w' hw' => ?_⟩
      · rw [c, x7, bu_or 8 hw]
      · show (P w' || decide (w' = w)) = true ↔ _
        rw [Bool.or_eq_true, decide_eq_true_iff, x8 w' hw']
        refine ⟨fun z => ?_, fun ⟨j, j1, j2, j3⟩ => ?_⟩
        · rcases z with ⟨j, j1, j2, j3⟩ | z
          · exact ⟨j, j1, by omega, j3⟩
          · subst z
            exact ⟨i, hi, Or.inr ⟨rfl, by omega⟩, a⟩
        · by_cases e : w' = w
          · exact Or.inr e
          · exact Or.inl ⟨j, j1, by omega, j3⟩
theorem Wx_.new {g w0 : Nat} (h : Wx_ σ b G s n q K L i w) (hi : i < n) (hn : n < 36) (hg : g < 36) (hw0 : w0 < 8) (hnew : ∀ l, l < n → q l ≠ g) (r1 : ∀ c, si_ σ2 (b + 1) c = if c = g then nI (L i + 1) else si_ σ (b + 1) c) (r2 : ∀ c, si_ σ2 (b + 2) c = if c = g then nI (q i) else si_ σ (b + 2) c) (r3 : ∀ c, si_ σ2 (b + 3) c = if c = g then nI w0 else si_ σ (b + 3) c) (r4 : ∀ c, si_ σ2 (b + 4) c = if c = n then nI g else si_ σ (b + 4) c) (r6 : ∀ c, si_ σ2 (b + 5) c = si_ σ (b + 5) c) (r5 : si_ σ2 b 5 = nI (n + 1)) (r7 : si_ σ2 b 6 = si_ σ b 6) (r8 : sl_ σ2 b 7 = sl_ σ b 7) : Wx_ σ2 b G s (n + 1) (fun j => if j = n then g else q j) (fun j => if j = n then 10 * K i + w0 + 1 else K j) (fun j => if j = n then L i + 1 else L j) i w := by
  obtain ⟨x1, x2, x3, x4, x5, x6, ⟨P, x7, x8⟩, ⟨Q, x9, x10⟩, x11, x12, x13, x14⟩ := h
  have iq : ∀ {α : Type} (a c : α) {j : Nat}, j < n → (if j = n then a else c) = c := fun {α} a c {j} hj => if_neg (by omega)
  refine ⟨by omega, r5, fun j hj => ?_, fun c hc hno => ?_, fun j h0 hj => ?_, fun j w' hj hw' hp => ?_, ⟨P, r7.trans x7, fun w' hw' => (x8 w' hw').trans ⟨fun ⟨j, j1, j2, j3⟩ => ⟨j, by omega, j2, ?_⟩, fun ⟨j, j1, j2, j3⟩ => ?_⟩⟩, ⟨Q, r8.trans x9, fun c hc => (x10 c hc).trans ⟨fun ⟨j, j1, j2, j3, j4⟩ => ⟨j, by omega, j2, ?_, j4⟩, fun ⟨j, j1, j2, j3, j4⟩ => ?_⟩⟩, by omega, ?_, ?_, ?_⟩
  · show (if j = n then g else q j) < 36 ∧ si_ σ2 (b + 4) j = nI (if j = n then g else q j) ∧ si_ σ2 (b + 1) (if j = n then g else q j) = nI (if j = n then L i + 1 else L j) ∧ (if j = n then L i + 1 else L j) ≤ j
    by_cases z : j = n
    · have := (x3 i hi).2.2.2
      rw [if_pos z, if_pos z, r4, if_pos z, r1, if_pos rfl]
      exact ⟨hg, rfl, rfl, by omega⟩
    · obtain ⟨a1, a2, a3, a4⟩ := x3 j (by omega)
      rw [if_neg z, if_neg z, r4, if_neg z, r1, if_neg (hnew j (by omega))]
      exact ⟨a1, a2, a3, a4⟩
  · have cg : c ≠ g := fun e => hno n (by omega) (by show (if n = n then g else q n) = c; rw [if_pos rfl, e])
    rw [r1, if_neg cg]
    refine x4 c hc (fun j hj e => hno j (by omega) ?_)
    show (if j = n then g else q j) = c
    rw [iq _ _ hj, e]
  · show ∃ i' w', i' < j ∧ w' < 8 ∧ si_ σ2 (b + 2) (if j = n then g else q j) = nI (if i' = n then g else q i') ∧ si_ σ2 (b + 3) (if j = n then g else q j) = nI w' ∧ (if j = n then 10 * K i + w0 + 1 else K j) = 10 * (if i' = n then 10 * K i + w0 + 1 else K i') + w' + 1 ∧ (if j = n then L i + 1 else L j) = (if i' = n then L i + 1 else L i') + 1
    by_cases z : j = n
    · refine ⟨i, w0, by omega, hw0, ?_, ?_, ?_, ?_⟩
      · rw [if_pos z, r2, if_pos rfl, iq _ _ hi]
      · rw [if_pos z, r3, if_pos rfl]
      · rw [if_pos z, iq _ _ hi]
      · rw [if_pos z, iq _ _ hi]
    · obtain ⟨i', w', a1, a2, a3, a4, a5, a6⟩ := x5 j h0 (by omega)
      refine ⟨i', w', a1, a2, ?_, ?_, ?_, ?_⟩
      · rw [if_neg z, r2, if_neg (hnew j (by omega)), iq _ _ (by omega)]; exact a3
      · rw [if_neg z, r3, if_neg (hnew j (by omega))]; exact a4
      · rw [if_neg z, iq _ _ (by omega)]; exact a5
      · rw [if_neg z, iq _ _ (by omega)]; exact a6
  · have hjn : j < n := by omega
    show si_ σ2 (b + 5) (8 * (if j = n then g else q j) + w') = nI (G (if j = n then g else q j) w')
    rw [iq _ _ hjn, r6]
    exact x6 j w' hjn hw' hp
  · show G (if j = n then g else q j) w' ≠ (if j = n then g else q j)
    rw [iq _ _ j1]; exact j3
  · have hjn : j < n := by omega
    have j3' : G (if j = n then g else q j) w' ≠ (if j = n then g else q j) := j3
    rw [iq _ _ hjn] at j3'
    exact ⟨j, hjn, j2, j3'⟩
  · show (if j = n then g else q j) = c
    rw [iq _ _ j1]; exact j3
  · have hjn : j < n := by omega
    have j3' : (if j = n then g else q j) = c := j3
    rw [iq _ _ hjn] at j3'
    exact ⟨j, hjn, j2, j3', j4⟩
  · show (if 0 = n then L i + 1 else L 0) = 0
    rw [iq _ _ (by omega)]; exact x12
  · show (if 0 = n then 10 * K i + w0 + 1 else K 0) = 0
    rw [iq _ _ (by omega)]; exact x13
  · show (if 0 = n then g else q 0) = s
    rw [iq _ _ (by omega)]; exact x14
theorem lv_w (hb : b = 24 ∨ b = 30) (hT : Tg_ G σ) (hx : Wx_ σ b G s n q K L i w) (hB : Bq_ G s n q K L (10 * K i + w + 1)) (hi : i < n) (hw : w < 8) (v3 : Int32) (g : Nat) : ∃ (σ' : St_) (n' : Nat) (q' K' L' : Nat → Nat) (v3' : Int32), f_X7_leave_15 5000 (g + 1) σ b 21 (nI (q i)) v3 (nI w) = f_X7_leave_15 5000 g σ' b 21 (nI (q i)) v3' (nI (w + 1)) ∧ Xb_ b σ σ' ∧ Wx_ σ' b G s n' q' K' L' i (w + 1) ∧ Bq_ G s n' q' K' L' (10 * K' i + (w + 1) + 1) ∧ i < n' ∧ q' i = q i ∧ ((G (q i) w = q i ∧ v3' = v3) ∨ (G (q i) w ≠ q i ∧ v3' = 1)) := by
  have hqi := (hx.2.2.1 i hi).1
  have hg := hT.lt w hqi
  obtain ⟨s1, e1, t1⟩ := hT.goal hqi hw
  have hX1 := t1.1
  obtain ⟨⟨d0, d1, d2, d3, d4⟩, l1, l2, l3, l4, l5⟩ := way_s hX1 hb
  have rt : ∀ r k, b ≤ r → si_ s1 r k = si_ σ r k := fun r k hr => t1.2.i (by simp only [xG_]; omega)
  have rl : sl_ s1 b 7 = sl_ σ b 7 := t1.2.l (by simp only [xG_]; omega)
  rw [u_X7_leave_15, if_neg (show ¬ (8 : Int32) ≤ nI w from nI_ge (b := 8) hw (by omega)), e1, Option.bind_some]
  dsimp only
  rw [d4, Option.bind_some, c8', l5, ix_ok (by omega) (by omega), Option.bind_some, nI_1]
  have X2 : Xb_ b σ (ui_ s1 (b + 5) (8 * q i + w) (nI (G (q i) w))) := (Xb_.tx t1).trans (Xb_.ui hX1 _ _ (by omega) (by omega))
  have r6 : ∀ c, si_ (ui_ s1 (b + 5) (8 * q i + w) (nI (G (q i) w))) (b + 5) c = if c = 8 * q i + w then nI (G (q i) w) else si_ σ (b + 5) c := fun c => by rw [g_si_ui, if_pos rfl, rt _ _ (by omega)]
  have ro : ∀ r c, b ≤ r → r < b + 5 → si_ (ui_ s1 (b + 5) (8 * q i + w) (nI (G (q i) w))) r c = si_ σ r c := fun r c h1 h2 => by rw [g_si_ne (by omega), rt _ _ h1]
  generalize hs2 : ui_ s1 (b + 5) (8 * q i + w) (nI (G (q i) w)) = s2 at *
  have hl2 : sl_ s2 b 7 = sl_ σ b 7 := by rw [← hs2]; exact rl
  by_cases z : G (q i) w = q i
  · rw [if_pos (by rw [z])]
    have hW := hx.word (σ2 := s2) hi hw (ro _ _ (by omega) (by omega)) (fun c => ro _ _ (by omega) (by omega)) (fun c => ro _ _ (by omega) (by omega)) (fun c => ro _ _ (by omega) (by omega)) (fun c => ro _ _ (by omega) (by omega)) r6 (Or.inl ⟨z, ro _ _ (by omega) (by omega)⟩) hl2
    exact ⟨s2, n, q, K, L, v3, rfl, X2, hW, hB.old hi hw rfl ⟨i, hi, z.symm⟩, hi, rfl, Or.inl ⟨z, rfl⟩⟩
  · rw [if_neg (fun e => z ((nI_eq (by omega) (by omega)).mp e))]
    have r66 : si_ s2 b 6 ||| ((1 : Int32) <<< (nI w &&& 31)) = si_ σ b 6 ||| bu_ w := by rw [ro _ _ (by omega) (by omega)]; rfl
    have X3 : Xb_ b σ (ui_ s2 b 6 (si_ σ b 6 ||| bu_ w)) := X2.trans (Xb_.ui X2.1 _ _ (by omega) (by omega))
    rw [r66]
    have hW : Wx_ (ui_ s2 b 6 (si_ σ b 6 ||| bu_ w)) b G s n q K L i (w + 1) := hx.word hi hw (by rw [g_si_ui, if_pos rfl, if_neg (by omega)]; exact ro _ _ (by omega) (by omega)) (fun c => by rw [g_si_ne (by omega)]; exact ro _ _ (by omega) (by omega)) (fun c => by rw [g_si_ne (by omega)]; exact ro _ _ (by omega) (by omega)) (fun c => by rw [g_si_ne (by omega)]; exact ro _ _ (by omega) (by omega)) (fun c => by rw [g_si_ne (by omega)]; exact ro _ _ (by omega) (by omega)) (fun c => by rw [g_si_ne (by omega)]; exact r6 c) (Or.inr ⟨z, by rw [g_si_ui, if_pos rfl, if_pos rfl]⟩) hl2
    generalize hs3 : ui_ s2 b 6 (si_ σ b 6 ||| bu_ w) = s3 at *
    obtain ⟨⟨d0, d1, d2, d3, d4⟩, l1, l2, l3, l4, l5⟩ := way_s X3.1 hb
    have hW0 := hW
    obtain ⟨x1, x2, x3, x4, -⟩ := hW0
    rw [d0, Option.bind_some, l1, ix_ok hqi (by omega), Option.bind_some, (x3 i hi).2.2.1, nI_1]
    by_cases y : ∃ l, l < n ∧ q l = G (q i) w
    · obtain ⟨l, hl, el⟩ := y
      have hL := (x3 l hl).2.2.2
      rw [disc_o X3.1 hb hg _ _ _ (by rw [← el, (x3 l hl).2.2.1]; exact (show ∀ j, j < 36 → ¬ nI j = (-1 : Int32) by decide +kernel) _ (by omega)), Option.bind_some]
      exact ⟨s3, n, q, K, L, 1, rfl, X3, hW, hB.old hi hw rfl ⟨l, hl, el⟩, hi, rfl, Or.inr ⟨z, rfl⟩⟩
    · have hnew : ∀ l, l < n → q l ≠ G (q i) w := fun l hl e => y ⟨l, hl, e⟩
      have hn : n < 36 := by
        have := pgn 36 (n + 1) (fun j => if j = n then G (q i) w else q j) (fun j hj => by
          show (if j = n then G (q i) w else q j) < 36
          split
          · exact hg
          · exact (x3 j (by omega)).1) (fun a c h1 h2 => by
          show (if a = n then G (q i) w else q a) ≠ (if c = n then G (q i) w else q c)
          rw [if_neg (by omega)]
          split
          · exact hnew a (by omega)
          · exact hB.2.2.2.1 a c h1 (by omega))
        omega
      obtain ⟨s4, e4, X4, a1, a2, a3, a4, a5, a6, a7, a8⟩ := disc_n X3.1 hb hg (nI (q i)) (nI w) (nI (L i + 1)) (x4 _ hg hnew) x2 hn
      rw [e4, Option.bind_some]
      have hW4 := hW.new hi hn hg hw hnew a1 a2 a3 a4 a5 a6 a7 a8
      refine ⟨s4, n + 1, _, _, _, 1, rfl, X3.trans X4, hW4, ?_, by omega, if_neg (by omega), Or.inr ⟨z, rfl⟩⟩
      show Bq_ G s (n + 1) _ _ _ (10 * (if i = n then 10 * K i + w + 1 else K i) + (w + 1) + 1)
      rw [if_neg (by omega)]
      exact hB.new hi hw rfl hnew (fun j hj => if_neg (by omega)) (if_pos rfl) (fun j hj => if_neg (by omega)) (if_pos rfl) (fun j hj => if_neg (by omega)) (if_pos rfl)
end
