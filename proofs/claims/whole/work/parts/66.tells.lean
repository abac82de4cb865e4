/-! TELLS -/
section
variable {kd nu fl ni m c : Nat} {ce cs cr : Cd_}
theorem fit_kinds (p : Pm_ kd nu fl ni m ce cs cr) {σx σm σ1 : St_} {s sz st : Nat} {it : Nat → Nat} (hSe : Se_ σx σm s sz 36 it) (hst : st < 36) (hsc : ScX_ σx σ1) (hTh : Th_ σ1 kd nu fl ni m ce cs cr) (hC : Cm_ σm c kd nu fl ni m ce cs cr) (mo : si_ σm 6 (3 * c + 1) = nI st) : ∃ (r : Int32) (σx' σm' : St_), f_X8_kindsThatFit 5000 σ1 0 (2 * s + 41) (nI st) = some (r, σx') ∧ f_X9_tells_182 5000 5000 σm 0 (nI s) (nI c) 0 5 (si_ σm 5 c) 5 0 = some (r, σm') ∧ ScX_ σx σx' ∧ ScM_ σm σm' := by
  obtain ⟨p1, p2, p3, p4, p5, p6, p7, p8⟩ := p
  obtain ⟨hM, hc, k1, k2, k3, k4, k5, t, n, ch, t1, t2, t3, t4, t5, t6⟩ := hC
  obtain ⟨r, σx', σm', f1, f2, f3, f4⟩ := fit_go (V := 6) (fl := fl) (ni := ni) (m := m) (c := c) (s := s) (sz := sz) (st := st) (it := it) (v6 := 5) (by omega) (by omega) hst (fun v => v) (fun _ => nu) (fun _ => ce) (fun _ => cs) (fun _ => cr) (fun v hv => ⟨hv, p2, p3, p4, p5, p6, p7, p8⟩) (fun g σ b v => f_X8_kindsThatFit_5 5000 g σ 0 (2 * s + 41) (nI st) b v) (fun σ v => some (ui_ σ 21 2 (nI v))) (fun σ => ScX_ σx σ ∧ ∃ kd', Th_ σ kd' nu fl ni m ce cs cr) (IM_ σm 5 c) (σx0 := σx) (σm0 := σm)
    (fun g σ b _ => by
      show f_X8_kindsThatFit_5 5000 (g + 1) σ 0 (2 * s + 41) (nI st) b (nI 6) = _
      rw [u_X8_kindsThatFit_5, if_pos (by decide)])
    (fun g σ b v iX hv => by
      obtain ⟨hs, -⟩ := iX
      show f_X8_kindsThatFit_5 5000 (g + 1) σ 0 (2 * s + 41) (nI st) b (nI v) = _
      rw [u_X8_kindsThatFit_5, if_neg (show ¬ (6 : Int32) ≤ nI v from nI_ge (b := 6) hv (by omega)), dx_0_7 hs.1, Option.bind_some, Option.bind_some]
      rfl)
    (fun σ v iX hv => by
      obtain ⟨hs, kd', hT⟩ := iX
      have hs2 := hs.trans (sc_ui hs.1 21 2 (nI v) (by simp [xZ_]))
      exact ⟨_, rfl, hT.kind v, hSe.sx hs2, fun σ2 t => ⟨hs2.trans t.sc, v, (hT.kind v).congr t⟩⟩)
    (fun σ v iM hv => ⟨ui_ σ 5 c (nI v), lay_5 iM.1 hc _, ⟨iM.1, hc, by rw [g_si_ui, if_pos rfl, if_pos rfl], (iM.at _ (by simp [mG_]) (by omega)).trans k2, (iM.at _ (by simp [mG_]) (by omega)).trans k3, (iM.at _ (by simp [mG_]) (by omega)).trans k4, fun k hk => (iM.at _ (by simp [mG_]) (by omega)).trans (k5 k hk), t, n, ch, t1, t2, (iM.at _ (by simp [mG_]) (by omega)).trans t3, (iM.at _ (by simp [mG_]) (by omega)).trans t4, fun j hj => ⟨(t5 j hj).1, (iM.at _ (by simp [mG_]) (by omega)).trans (t5 j hj).2⟩, t6⟩, hSe.im (fun r k hr => iM.at _ (by simp only [mG_]; omega) (by omega)), (iM.at _ (by simp [mG_]) (by omega)).trans mo, fun σ2 t => (iM.ui _).tm t (by simp [mG_])⟩)
    (si_ σm 5 c) 6 0 5000 5000 0 σ1 σm (by omega) (by omega) (by omega) ⟨hsc, kd, hTh⟩ (IM_.refl hM 5 c)
  refine ⟨r, σx', ui_ σm' 5 c (si_ σm 5 c), f1, ?_, f2.1, f3.fin rfl⟩
  show f_X9_tells_182 5000 5000 σm 0 (nI s) (nI c) 0 5 (si_ σm 5 c) (nI (6 - 1)) (nI 0) = _
  rw [f4, lay_5 f3.1 hc, Option.bind_some]
theorem fit_numbers (p : Pm_ kd nu fl ni m ce cs cr) {σx σm σ1 : St_} {s sz st : Nat} {it : Nat → Nat} (hSe : Se_ σx σm s sz 36 it) (hst : st < 36) (hsc : ScX_ σx σ1) (hTh : Th_ σ1 kd nu fl ni m ce cs cr) (hC : Cm_ σm c kd nu fl ni m ce cs cr) (mo : si_ σm 6 (3 * c + 1) = nI st) : ∃ (r : Int32) (σx' σm' : St_), f_X8_numbersThatFit 5000 σ1 0 (2 * s + 41) (nI st) = some (r, σx') ∧ f_X9_tells_182 5000 5000 σm 0 (nI s) (nI c) 0 2 (si_ σm 6 (3 * c)) 9 0 = some (r, σm') ∧ ScX_ σx σx' ∧ ScM_ σm σm' := by
  obtain ⟨p1, p2, p3, p4, p5, p6, p7, p8⟩ := p
  obtain ⟨hM, hc, k1, k2, k3, k4, k5, t, n, ch, t1, t2, t3, t4, t5, t6⟩ := hC
  obtain ⟨r, σx', σm', f1, f2, f3, f4⟩ := fit_go (V := 10) (fl := fl) (ni := ni) (m := m) (c := c) (s := s) (sz := sz) (st := st) (it := it) (v6 := 2) (by omega) (by omega) hst (fun _ => kd) (fun v => v) (fun _ => ce) (fun _ => cs) (fun _ => cr) (fun v hv => ⟨p1, hv, p3, p4, p5, p6, p7, p8⟩) (fun g σ b v => f_X8_numbersThatFit_5 5000 g σ 0 (2 * s + 41) (nI st) b v) (fun σ v => some (ui_ σ 22 1 (nI v))) (fun σ => ScX_ σx σ ∧ ∃ nu', Th_ σ kd nu' fl ni m ce cs cr) (IM_ σm 6 (3 * c)) (σx0 := σx) (σm0 := σm)
    (fun g σ b _ => by
      show f_X8_numbersThatFit_5 5000 (g + 1) σ 0 (2 * s + 41) (nI st) b (nI 10) = _
      rw [u_X8_numbersThatFit_5, if_pos (by decide)])
    (fun g σ b v iX hv => by
      obtain ⟨hs, -⟩ := iX
      have e : f_X6_beNumbered σ 21 (nI v) = some (ui_ σ 22 1 (nI v)) := by
        unfold f_X6_beNumbered
        rw [dx_21_0 hs.1, Option.bind_some, lx_22 hs.1, show ix_ (1 : Int32) 6 = some 1 from by decide +kernel, Option.bind_some]
      show f_X8_numbersThatFit_5 5000 (g + 1) σ 0 (2 * s + 41) (nI st) b (nI v) = _
      rw [u_X8_numbersThatFit_5, if_neg (show ¬ (10 : Int32) ≤ nI v from nI_ge (b := 10) hv (by omega)), dx_0_7 hs.1, Option.bind_some, e, Option.bind_some])
    (fun σ v iX hv => by
      obtain ⟨hs, kd', hT⟩ := iX
      have hs2 := hs.trans (sc_ui hs.1 22 1 (nI v) (by simp [xZ_]))
      exact ⟨_, rfl, hT.num v, hSe.sx hs2, fun σ2 t => ⟨hs2.trans t.sc, v, (hT.num v).congr t⟩⟩)
    (fun σ v iM hv => ⟨ui_ σ 6 (3 * c) (nI v), lay_2 iM.1 hc _, ⟨iM.1, hc, (iM.at _ (by simp [mG_]) (by omega)).trans k1, by rw [g_si_ui, if_pos rfl, if_pos rfl], (iM.at _ (by simp [mG_]) (by omega)).trans k3, (iM.at _ (by simp [mG_]) (by omega)).trans k4, fun k hk => (iM.at _ (by simp [mG_]) (by omega)).trans (k5 k hk), t, n, ch, t1, t2, (iM.at _ (by simp [mG_]) (by omega)).trans t3, (iM.at _ (by simp [mG_]) (by omega)).trans t4, fun j hj => ⟨(t5 j hj).1, (iM.at _ (by simp [mG_]) (by omega)).trans (t5 j hj).2⟩, t6⟩, hSe.im (fun r k hr => iM.at _ (by simp only [mG_]; omega) (by omega)), (iM.at _ (by simp [mG_]) (by omega)).trans mo, fun σ2 t => (iM.ui _).tm t (by simp [mG_])⟩)
    (si_ σm 6 (3 * c)) 10 0 5000 5000 0 σ1 σm (by omega) (by omega) (by omega) ⟨hsc, nu, hTh⟩ (IM_.refl hM 6 (3 * c))
  refine ⟨r, σx', ui_ σm' 6 (3 * c) (si_ σm 6 (3 * c)), f1, ?_, f2.1, f3.fin rfl⟩
  show f_X9_tells_182 5000 5000 σm 0 (nI s) (nI c) 0 2 (si_ σm 6 (3 * c)) (nI (10 - 1)) (nI 0) = _
  rw [f4, lay_2 f3.1 hc, Option.bind_some]
theorem fit_texts (p : Pm_ kd nu fl ni m ce cs cr) {σx σm σ1 : St_} {s sz st tc : Nat} {it : Nat → Nat} (hR : RT_ σx σm tc) (hSe : Se_ σx σm s sz 36 it) (hst : st < 36) (hsc : ScX_ σx σ1) (hTh : Th_ σ1 kd nu fl ni m ce cs cr) (hC : Cm_ σm c kd nu fl ni m ce cs cr) (mo : si_ σm 6 (3 * c + 1) = nI st) : ∃ (r : Int32) (σx' σm' : St_), f_X8_textsThatFit 5000 σ1 0 (2 * s + 41) (nI st) = some (r, σx') ∧ f_X9_tells_182 5000 5000 σm 0 (nI s) (nI c) 0 6 (si_ σm 0 4) (si_ σm 0 3 - 1) 0 = some (r, σm') ∧ ScX_ σx σx' ∧ ScM_ σm σm' := by
  obtain ⟨p1, p2, p3, p4, p5, p6, p7, p8⟩ := p
  obtain ⟨hM, hc, k1, k2, k3, k4, k5, -⟩ := hC
  have htc := hR.2.1
  have htc1 := hR.1
  have hch : ∀ v : Nat, ∃ q : Cd_ × Cd_ × Cd_, v < tc → ∃ (b e s r n : Nat) (ch : Nat → Nat), sr_ σx 19 v = some b ∧ 49 ≤ b ∧ 49 ≤ e ∧ 49 ≤ s ∧ 49 ≤ r ∧ kd_ σx b = 5 ∧ sr_ σx b 0 = some e ∧ sr_ σx b 1 = some s ∧ sr_ σx b 2 = some r ∧ Ar_ σx e q.1 ∧ Ar_ σx s q.2.1 ∧ Ar_ σx r q.2.2 ∧ n ≤ 160 ∧ si_ σm 2 v = nI n ∧ (∀ j, j < n → ch j < 256 ∧ si_ σm 1 (160 * v + j) = nI (ch j)) ∧ pText_ (tk_ ch n n 0) = (some (q.1, q.2.1, q.2.2), []) ∧ Gd_ q.1 158 ∧ Gd_ q.2.1 158 ∧ Gd_ q.2.2 158 := fun v => by
    by_cases hv : v < tc
    · obtain ⟨b, e, s, r, n, ch, ce, cs, cr, H⟩ := rel_t hR hv
      exact ⟨(ce, cs, cr), fun _ => ⟨b, e, s, r, n, ch, H⟩⟩
    · exact ⟨([], [], []), fun z => absurd z hv⟩
  obtain ⟨Q, hQ⟩ := Classical.axiomOfChoice hch
  obtain ⟨r, σx', σm', f1, f2, f3, f4⟩ := fit_go (V := tc) (fl := fl) (ni := ni) (m := m) (c := c) (s := s) (sz := sz) (st := st) (it := it) (v6 := 6) htc1 (by omega) hst (fun _ => kd) (fun _ => nu) (fun v => (Q v).1) (fun v => (Q v).2.1) (fun v => (Q v).2.2) (fun v hv => by
      obtain ⟨b, e, s, r, n, ch, -, -, -, -, -, -, -, -, -, -, -, -, -, -, -, -, g1, g2, g3⟩ := hQ v hv
      exact ⟨p1, p2, p3, p4, p5, g1, g2, g3⟩) (fun g σ b v => f_X8_textsThatFit_5 5000 g σ 0 (2 * s + 41) (nI st) b v) (fun σ v => (f_X8_textAt σ 0 (nI v)).bind fun q3 => f_X6_goBy σ 21 q3) (fun σ => ScX_ σx σ ∧ ∃ ce cs cr, Th_ σ kd nu fl ni m ce cs cr) (IM_ σm 0 4) (σx0 := σx) (σm0 := σm)
    (fun g σ b iX => by
      obtain ⟨hs, -⟩ := iX
      show f_X8_textsThatFit_5 5000 (g + 1) σ 0 (2 * s + 41) (nI st) b (nI tc) = _
      rw [u_X8_textsThatFit_5, show si_ σ 0 5 = nI tc from (hs.2.i (by simp [xZ_])).trans hR.2.2.1, if_pos (nI_le (Nat.le_refl _) (by omega))])
    (fun g σ b v iX hv => by
      obtain ⟨hs, -⟩ := iX
      show f_X8_textsThatFit_5 5000 (g + 1) σ 0 (2 * s + 41) (nI st) b (nI v) = _
      rw [u_X8_textsThatFit_5, show si_ σ 0 5 = nI tc from (hs.2.i (by simp [xZ_])).trans hR.2.2.1, if_neg (nI_ge hv (by omega)), dx_0_7 hs.1, Option.bind_some, Option.bind_assoc])
    (fun σ v iX hv => by
      obtain ⟨hs, ce', cs', cr', hT⟩ := iX
      obtain ⟨b, e, s', r, n, ch, g1, q4, q1, q2, q3, g2, g3, g4, g5, a1, a2, a3, -⟩ := hQ v hv
      have gb : kd_ σ b = 5 := (congrFun hs.2.1 b).trans g2
      have hX' := ur21 hs.1 gb
      have fr : Fr_ (fun r k => ¬ xZ_ r k) σ (ur_ σ 21 4 (some b)) := (Fr_.refl _ _).ur 21 4 _ (by simp [xZ_])
      have hs2 : ScX_ σx (ur_ σ 21 4 (some b)) := hs.trans ⟨hX', fr⟩
      have ar : ∀ {a : Nat} {c : Cd_}, 49 ≤ a → Ar_ σx a c → Ar_ (ur_ σ 21 4 (some b)) a c := fun ha h => h.congr (congrFun hs2.2.1 _) (congrFun hs2.2.2.1 _) (fun j => hs2.2.i (by simp only [xZ_]; omega))
      obtain ⟨-, h1, h2, h3, h4, h5, -⟩ := hT
      have hT2 : Th_ (ur_ σ 21 4 (some b)) kd nu fl ni m (Q v).1 (Q v).2.1 (Q v).2.2 := ⟨hX', h1, h2, h3, h4, h5, b, e, s', r, by rw [g_sr_ur, if_pos rfl, if_pos rfl], q1, q2, q3, q4, gb, (hs2.2.r (by simp only [xZ_]; omega)).trans g3, (hs2.2.r (by simp only [xZ_]; omega)).trans g4, (hs2.2.r (by simp only [xZ_]; omega)).trans g5, ar q1 a1, ar q2 a2, ar q3 a3⟩
      refine ⟨ur_ σ 21 4 (some b), ?_, hT2, hSe.sx hs2, fun σ2 t => ⟨hs2.trans t.sc, _, _, _, hT2.congr t⟩⟩
      show (f_X8_textAt σ 0 (nI v)).bind _ = _
      rw [txt_at hs.1 (by omega), Option.bind_some, show sr_ σ 19 v = some b from (hs.2.r (by simp [xZ_])).trans g1]
      unfold f_X6_goBy
      rw [if_pos (show qk_ σ (some b) 5 = true by show decide (kd_ σ b = 5) = true; rw [gb]; rfl)])
    (fun σ v iM hv => by
      obtain ⟨b, e, s', r, n, ch, -, -, -, -, -, -, -, -, -, -, -, -, t2, t4, t5, t6, -⟩ := hQ v hv
      exact ⟨ui_ σ 0 4 (nI v), lay_6 _ _ _, ⟨iM.1, hc, (iM.at _ (by simp [mG_]) (by omega)).trans k1, (iM.at _ (by simp [mG_]) (by omega)).trans k2, (iM.at _ (by simp [mG_]) (by omega)).trans k3, (iM.at _ (by simp [mG_]) (by omega)).trans k4, fun k hk => (iM.at _ (by simp [mG_]) (by omega)).trans (k5 k hk), v, n, ch, by omega, t2, by rw [g_si_ui, if_pos rfl, if_pos rfl], (iM.at _ (by simp [mG_]) (by omega)).trans t4, fun j hj => ⟨(t5 j hj).1, (iM.at _ (by simp [mG_]) (by omega)).trans (t5 j hj).2⟩, t6⟩, hSe.im (fun r k hr => iM.at _ (by simp only [mG_]; omega) (by omega)), (iM.at _ (by simp [mG_]) (by omega)).trans mo, fun σ2 t => (iM.ui _).tm t (by simp [mG_])⟩)
    (si_ σm 0 4) tc 0 5000 5000 0 σ1 σm (by omega) (by omega) (by omega) ⟨hsc, ce, cs, cr, hTh⟩ (IM_.refl hM 0 4)
  refine ⟨r, σx', ui_ σm' 0 4 (si_ σm 0 4), f1, ?_, f2.1, f3.fin rfl⟩
  have e : si_ σm 0 3 - 1 = nI (tc - 1) := by
    rw [hR.2.2.2.1]
    obtain ⟨t, rfl⟩ : ∃ t, tc = t + 1 := ⟨tc - 1, by omega⟩
    exact nI_pred t
  rw [e]
  show f_X9_tells_182 5000 5000 σm 0 (nI s) (nI c) 0 6 (si_ σm 0 4) (nI (tc - 1)) (nI 0) = _
  rw [f4, lay_6, Option.bind_some]
end
theorem sim_tells : Sim_tells Rel_ := by
  intro σx σm h x1 x2 x3
  show ∃ (r : Int32) (σx' : St_) (σm' : St_), f_X8_tells 5000 σx 0 x1 x2 x3 = some (r, σx') ∧ f_X9_tells 5000 σm 0 x1 x2 x3 = some (r, σm') ∧ Rel_ σx' σm'
  have h0 := h
  obtain ⟨hX, hM, tc, n, hT, hF, hK, hP, hS⟩ := h
  have hn := hF.1
  have c1 := hF.2.1
  have c2 := hF.2.2.1
  have i6 := in_c (x := x3) (n := 5) (5 : Int64) rfl (by omega)
  obtain ⟨r, e1, e2, hr⟩ := tb_all h0 hF hS x1 x2 (f_X8_isBelow x3 (nI 6)) _ i6
  unfold f_X8_tells f_X9_tells
  have e1' : f_X8_refusalOfTold 5000 σx 0 x1 x2 (f_X8_isBelow x3 (6 : Int32)) (20 : Int32) (36 : Int32) = some r := e1
  rw [e1', Option.bind_some, e2, Option.bind_some]
  rcases hr with hr | ⟨rfl, s, c, sz, it, hc, rfl, rfl, hz, hSe⟩
  · rw [pre_nz hX hn c1 x1 x2 hr, if_neg hr]
    exact ⟨_, _, _, rfl, rfl, h0⟩
  have hs := hSe.1
  rw [pre_0 hX hn c1 hs hc, if_pos rfl]
  obtain ⟨kd, nu, on, fl, ni, m, ce, cs, cr, σ1, p, hon, xo, mo, hC, eT, hTh, hsc⟩ := think_ok h0 hT hF hc
  have xo1 : si_ σ1 (c + 3) 2 = nI on := (hsc.2.i (by simp only [xZ_]; omega)).trans xo
  simp only [oc_]
  rw [if_pos (hX.she hs).2.1, if_pos (hX.car (by omega)).2, eT, Option.bind_some, xo1]
  have hS1 := hSe.sx hsc
  have hM17 : si_ σm 17 s = nI sz := hSe.2.2.2.1
  rcases bel_c x3 (n := 6) (by omega) with b | ⟨q, hq, rfl⟩
  · exfalso
    rw [show f_X8_isBelow x3 (nI 6) = 0 from b] at e1
    rcases ref_x h0 hF hS (nI s) (nI c) 0 (most := 20) (B := 36) (by omega) (by omega) with ⟨e, -⟩ | ⟨_, _, _, _, _, _, z, _⟩
    · rw [e1] at e
      exact absurd e (by decide)
    · exact z rfl
  have d : q = 0 ∨ q = 1 ∨ q = 2 ∨ q = 3 ∨ q = 4 ∨ q = 5 := by omega
  rcases d with rfl | rfl | rfl | rfl | rfl | rfl
  · rw [if_pos (show nI 0 = 0 from rfl), if_neg (show ¬ (2 : Int32) ≤ nI 0 by decide), if_pos (show nI 0 = 0 from rfl)]
    obtain ⟨r1, s1, f1, f2, f3⟩ := fox p hon hTh hS1
    obtain ⟨r2, s2, g1, g2, g3⟩ := fom p hon hC hSe mo
    have : r2 = r1 := g3.uni f3
    subst this
    rw [f1, g1]
    exact ⟨_, _, _, rfl, rfl, h0.sc (hsc.trans f2.sc) g2.sc⟩
  · rw [if_neg (show ¬ nI 1 = 0 by decide), if_pos (show nI 1 = 1 from rfl), if_neg (show ¬ (2 : Int32) ≤ nI 1 by decide), if_neg (show ¬ nI 1 = 0 by decide)]
    obtain ⟨r1, s1, f1, f2, f3⟩ := fox p hon hTh hS1
    obtain ⟨r2, s2, g1, g2, g3⟩ := fom p hon hC hSe mo
    have : r2 = r1 := g3.uni f3
    subst this
    unfold f_X8_firstRow f_X9_firstRow
    rw [f1, g1, Option.bind_some, Option.bind_some]
    simp only
    by_cases z : r2 = -1
    · have hfit := (FO_.neg1 (by omega) g3).mp z
      rw [if_pos z, if_pos z, dm_0_40 g2.1, Option.bind_some, lm_17 g2.1, ix_ok hs (by omega), Option.bind_some, (hS1.tx f2).2.2.1, (hSe.tm g2).2.2.2.1]
      by_cases y : nI sz ≤ 9
      · rw [if_pos y, if_pos y]
        obtain ⟨r3, s3, s4, u1, u2, u3, u4⟩ := fr_go p hon hfit sz 0 5000 5000 0 s1 s2 (by omega) (by omega) (by omega) (hTh.congr f2) (hC.congr g2) ((hS1.tx f2).tm g2) ((g2.2.i (by simp [mG_])).trans mo)
        have u1' : f_X8_firstRow_28 5000 5000 s1 0 (2 * s + 41) (nI on) 0 0 = some (r3, s3) := u1
        have u2' : f_X9_firstRow_30 5000 5000 s2 0 (nI s) (nI c) 0 0 = some (r3, s4) := u2
        rw [u1', u2']
        exact ⟨_, _, _, rfl, rfl, h0.sc (hsc.trans (f2.trans u3).sc) (g2.trans u4).sc⟩
      · rw [if_neg y, if_neg y]
        exact ⟨_, _, _, rfl, rfl, h0.sc (hsc.trans f2.sc) g2.sc⟩
    · rw [if_neg z, if_neg z]
      exact ⟨_, _, _, rfl, rfl, h0.sc (hsc.trans f2.sc) g2.sc⟩
  · rw [if_neg (show ¬ nI 2 = 0 by decide), if_neg (show ¬ nI 2 = 1 by decide), if_pos (show nI 2 = 2 from rfl), if_pos (show (2 : Int32) ≤ nI 2 by decide), if_pos (show nI 2 = 2 from rfl)]
    obtain ⟨r3, s3, s4, u1, u2, u3, u4⟩ := su_go p hon sz 0 5000 5000 0 σ1 σm (by omega) (by omega) (by omega) hTh hC hS1 mo
    have u1' : f_X8_sureWords 5000 σ1 0 (2 * s + 41) (nI on) = some (r3, s3) := u1
    have u2' : f_X9_tells_61 5000 5000 σm 0 (nI s) (nI c) 0 0 = some (r3, s4) := u2
    rw [u1', u2']
    exact ⟨_, _, _, rfl, rfl, h0.sc (hsc.trans u3.sc) u4.sc⟩
  · rw [if_neg (show ¬ nI 3 = 0 by decide), if_neg (show ¬ nI 3 = 1 by decide), if_neg (show ¬ nI 3 = 2 by decide), if_pos (show nI 3 = 3 from rfl), if_pos (show (2 : Int32) ≤ nI 3 by decide), if_neg (show ¬ nI 3 = 2 by decide), if_pos (show nI 3 = 3 from rfl)]
    obtain ⟨r3, s3, s4, u1, u2, u3, u4⟩ := fit_kinds p hSe hon hsc hTh hC mo
    unfold f_X9_tells_124 f_X9_tells_147
    rw [if_neg (by decide), told_5 hM hn c2 hc, Option.bind_some, if_neg (by decide), if_pos rfl, u1, u2]
    exact ⟨_, _, _, rfl, rfl, h0.sc u3 u4⟩
  · rw [if_neg (show ¬ nI 4 = 0 by decide), if_neg (show ¬ nI 4 = 1 by decide), if_neg (show ¬ nI 4 = 2 by decide), if_neg (show ¬ nI 4 = 3 by decide), if_pos (show nI 4 = 4 from rfl), if_pos (show (2 : Int32) ≤ nI 4 by decide), if_neg (show ¬ nI 4 = 2 by decide), if_neg (show ¬ nI 4 = 3 by decide), if_pos (show nI 4 = 4 from rfl)]
    obtain ⟨r3, s3, s4, u1, u2, u3, u4⟩ := fit_numbers p hSe hon hsc hTh hC mo
    unfold f_X9_tells_124 f_X9_tells_147
    rw [if_neg (by decide), told_2 hM hn c2 hc, Option.bind_some, if_neg (by decide), if_neg (by decide), u1, u2]
    exact ⟨_, _, _, rfl, rfl, h0.sc u3 u4⟩
  · rw [if_neg (show ¬ nI 5 = 0 by decide), if_neg (show ¬ nI 5 = 1 by decide), if_neg (show ¬ nI 5 = 2 by decide), if_neg (show ¬ nI 5 = 3 by decide), if_neg (show ¬ nI 5 = 4 by decide), if_pos (show (2 : Int32) ≤ nI 5 by decide), if_neg (show ¬ nI 5 = 2 by decide), if_neg (show ¬ nI 5 = 3 by decide), if_neg (show ¬ nI 5 = 4 by decide)]
    obtain ⟨r3, s3, s4, u1, u2, u3, u4⟩ := fit_texts p hT hSe hon hsc hTh hC mo
    unfold f_X9_tells_124 f_X9_tells_147
    rw [if_pos rfl, if_pos rfl, u1, u2]
    exact ⟨_, _, _, rfl, rfl, h0.sc u3 u4⟩
