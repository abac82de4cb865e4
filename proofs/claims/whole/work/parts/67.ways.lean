/-! WAYS: how many, and where it could be now -/
/-- cells as a long -/
def bt_ (k : Nat) : Int64 := (1 : Int64) <<< ((nI k).toInt64 &&& 63)
def ba_ (P : Nat → Bool) : Nat → Int64
  | 0 => 0
  | k + 1 => ba_ P k ||| (if P k = true then bt_ k else 0)
theorem ba_congr {P Q : Nat → Bool} : ∀ n, (∀ k, k < n → P k = Q k) → ba_ P n = ba_ Q n := by
  intro n
  induction n with
  | zero => intro _; rfl
  | succ n ih =>
    intro h
    show ba_ P n ||| _ = ba_ Q n ||| _
    rw [ih (fun k hk => h k (by omega)), h n (by omega)]
theorem ba_t : ba_ (fun _ => true) 36 = 68719476735 := by decide +kernel
theorem ba_f : ba_ (fun _ => false) 36 = 0 := by decide +kernel
section
variable {kd nu fl ni m c : Nat} {ce cs cr : Cd_}
theorem wy_m (p : Pm_ kd nu fl ni m ce cs cr) {σx σm : St_} {s sz : Nat} {it : Nat → Nat} (hSe : Se_ σx σm s sz 36 it) (hC : Cm_ σm c kd nu fl ni m ce cs cr) (P : Nat → Bool) (hP : ∀ on, on < 36 → (P on = true ↔ ∀ j, j < sz → Fit_ (gt_ kd nu fl ni m ce cs) on it j)) (v4 : Int32) : ∀ (k v g : Nat) (σ : St_), v + k = 36 → k < g → IM_ σm 6 (3 * c + 1) σ → ∃ σ', f_X9_ways_83 5000 g σ 0 (nI s) (nI c) v4 (ba_ P v) (nI v) = some (ba_ P 36, ui_ σ' 6 (3 * c + 1) v4) ∧ IM_ σm 6 (3 * c + 1) σ' := by
  obtain ⟨hM, hc, k1, k2, k3, k4, k5, t, n, ch, t1, t2, t3, t4, t5, t6⟩ := hC
  intro k
  induction k with
  | zero =>
    intro v g σ e1 e2 iM
    obtain ⟨g, rfl⟩ : ∃ g', g = g' + 1 := ⟨g - 1, by omega⟩
    have : v = 36 := by omega
    subst this
    refine ⟨σ, ?_, iM⟩
    rw [u_X9_ways_83, if_pos (by decide), dm_0_10 iM.1, Option.bind_some, lm_6 iM.1, ix_r1 c hc, Option.bind_some]
  | succ k ih =>
    intro v g σ e1 e2 iM
    obtain ⟨g, rfl⟩ : ∃ g', g = g' + 1 := ⟨g - 1, by omega⟩
    have hv : v < 36 := by omega
    have hC1 : Cm_ (ui_ σ 6 (3 * c + 1) (nI v)) c kd nu fl ni m ce cs cr := ⟨iM.1, hc, (iM.at _ (by simp [mG_]) (by omega)).trans k1, (iM.at _ (by simp [mG_]) (by omega)).trans k2, (iM.at _ (by simp [mG_]) (by omega)).trans k3, (iM.at _ (by simp [mG_]) (by omega)).trans k4, fun k hk => (iM.at _ (by simp [mG_]) (by omega)).trans (k5 k hk), t, n, ch, t1, t2, (iM.at _ (by simp [mG_]) (by omega)).trans t3, (iM.at _ (by simp [mG_]) (by omega)).trans t4, fun j hj => ⟨(t5 j hj).1, (iM.at _ (by simp [mG_]) (by omega)).trans (t5 j hj).2⟩, t6⟩
    have hS1 : Se_ σx (ui_ σ 6 (3 * c + 1) (nI v)) s sz 36 it := hSe.im (fun r k hr => iM.at _ (by simp only [mG_]; omega) (by omega))
    obtain ⟨r, s1, f1, f2, f3⟩ := fom p hv hC1 hS1 (by rw [g_si_ui, if_pos rfl, if_pos rfl])
    have hr := FO_.neg1 hSe.2.1 f3
    obtain ⟨σ', g1, g2⟩ := ih (v + 1) g s1 (by omega) (by omega) ((iM.ui _).tm f2 (by simp [mG_]))
    refine ⟨σ', ?_, g2⟩
    rw [u_X9_ways_83, if_neg (show ¬ (36 : Int32) ≤ nI v from nI_ge (b := 36) hv (by omega)), dm_0_10 iM.1, Option.bind_some, lm_6 iM.1, ix_r1 c hc, Option.bind_some, f1, Option.bind_some, nI_1, ← g1]
    simp only
    show _ = f_X9_ways_83 5000 g s1 0 (nI s) (nI c) v4 (ba_ P v ||| (if P v = true then bt_ v else 0)) (nI (v + 1))
    by_cases z : r = -1
    · rw [if_pos z, if_pos ((hP v hv).mpr (hr.mp z))]
      rfl
    · rw [if_neg z, if_neg (fun q => z (hr.mpr ((hP v hv).mp q)))]
theorem wy_57 (p : Pm_ kd nu fl ni m ce cs cr) {σm : St_} {s sz : Nat} {it : Nat → Nat} (hz : 0 < sz) (P : Nat → Bool) (hP : ∀ on, on < 36 → (P on = true ↔ Fit_ (gt_ kd nu fl ni m ce cs) on it 0)) : ∀ (k v g : Nat) (σ : St_), v + k = 36 → k < g → Th_ σ kd nu fl ni m ce cs cr → Se_ σ σm s sz 36 it → ∃ σ', f_X8_startsThatFit_57 5000 g σ 0 (2 * s + 41) (ba_ P v) (nI v) = some (ba_ P 36, σ') ∧ TX_ σ σ' := by
  intro k
  induction k with
  | zero =>
    intro v g σ e1 e2 hT hS
    obtain ⟨g, rfl⟩ : ∃ g', g = g' + 1 := ⟨g - 1, by omega⟩
    have : v = 36 := by omega
    subst this
    refine ⟨σ, ?_, TX_.refl hT.1⟩
    rw [u_X8_startsThatFit_57, if_pos (by decide)]
  | succ k ih =>
    intro v g σ e1 e2 hT hS
    obtain ⟨g, rfl⟩ : ∃ g', g = g' + 1 := ⟨g - 1, by omega⟩
    have hv : v < 36 := by omega
    obtain ⟨r, s1, f1, f2, hr⟩ := fw_ok p hv (hS.2.2.2.2 0 hz).1 hT
    obtain ⟨σ', g1, g2⟩ := ih (v + 1) g s1 (by omega) (by omega) (hT.congr f2) (hS.tx f2)
    refine ⟨σ', ?_, f2.trans g2⟩
    have i0 : f_X4_item σ (2 * s + 41) 0 = some (nI (it 0)) := hS.item hT.1 hz
    rw [u_X8_startsThatFit_57, if_neg (show ¬ (36 : Int32) ≤ nI v from nI_ge (b := 36) hv (by omega)), dx_0_7 hT.1, Option.bind_some, i0, Option.bind_some, f1, Option.bind_some, nI_1, ← g1]
    simp only
    show _ = f_X8_startsThatFit_57 5000 g s1 0 (2 * s + 41) (ba_ P v ||| (if P v = true then bt_ v else 0)) (nI (v + 1))
    rcases hr with ⟨a, b⟩ | ⟨w, a2, a3, a4, a5⟩
    · have nP : ¬ P v = true := fun q => by
        obtain ⟨w, hw, e⟩ := (hP v hv).mp q
        exact b w hw e
      rw [if_pos a, if_neg nP]
    · rw [if_neg (by rw [a3]; exact (show ∀ j, j < 8 → ¬ nI j = (-1 : Int32) by decide +kernel) w a2), if_pos ((hP v hv).mpr ⟨w, a2, a4⟩)]
      rfl
theorem wy_13 (p : Pm_ kd nu fl ni m ce cs cr) {σm : St_} {s sz : Nat} {it : Nat → Nat} (hz : 0 < sz) (P : Nat → Bool) (hP : ∀ on, on < 36 → (P on = true ↔ ∀ j, j < sz → Fit_ (gt_ kd nu fl ni m ce cs) on it j)) : ∀ (k i g : Nat) (σ : St_), i + 1 + k = sz → k < g → (∀ j, 0 < j → j < i + 1 → ∀ on, Fit_ (gt_ kd nu fl ni m ce cs) on it j) → Th_ σ kd nu fl ni m ce cs cr → Se_ σ σm s sz 36 it → ∃ σ', f_X8_startsThatFit_13 5000 g σ 0 (2 * s + 41) (nI (i + 1)) = some (ba_ P 36, σ') ∧ TX_ σ σ' := by
  intro k
  induction k with
  | zero =>
    intro i g σ e1 e2 hf hT hS
    obtain ⟨g, rfl⟩ : ∃ g', g = g' + 1 := ⟨g - 1, by omega⟩
    have hz4 := hS.2.1
    rw [u_X8_startsThatFit_13, hS.2.2.1, if_pos (nI_le (by omega) (by omega))]
    refine wy_57 p hz P (fun on hon => ?_) 36 0 5000 σ (by omega) (by omega) hT hS
    rw [hP on hon]
    refine ⟨fun q => q 0 hz, fun q j hj => ?_⟩
    rcases Nat.eq_zero_or_pos j with y | y
    · subst y; exact q
    · exact hf j y (by omega) on
  | succ k ih =>
    intro i g σ e1 e2 hf hT hS
    obtain ⟨g, rfl⟩ : ∃ g', g = g' + 1 := ⟨g - 1, by omega⟩
    have hz4 := hS.2.1
    obtain ⟨r, s1, f1, f2, hr⟩ := fw_ok p (hS.2.2.2.2 i (by omega)).1 (hS.2.2.2.2 (i + 1) (by omega)).1 hT
    rw [u_X8_startsThatFit_13, hS.2.2.1, if_neg (nI_ge (by omega) (by omega)), dx_0_7 hT.1, Option.bind_some, nI_pred, hS.item hT.1 (by omega), Option.bind_some, hS.item hT.1 (by omega), Option.bind_some, f1, Option.bind_some, nI_1]
    simp only
    rcases hr with ⟨a, b⟩ | ⟨w, a2, a3, a4, a5⟩
    · rw [if_pos a]
      refine ⟨s1, ?_, f2⟩
      rw [ba_congr (Q := fun _ => false) 36 (fun on hon => ?_), ba_f]
      have nP : ¬ P on = true := fun q => by
        obtain ⟨w, hw, e⟩ := (hP on hon).mp q (i + 1) (by omega)
        have ea : ah_ on it (i + 1) = it i := by unfold ah_; rw [if_neg (by omega)]; rfl
        rw [ea] at e
        exact b w hw e
      exact Bool.eq_false_iff.mpr nP
    · rw [if_neg (by rw [a3]; exact (show ∀ j, j < 8 → ¬ nI j = (-1 : Int32) by decide +kernel) w a2)]
      obtain ⟨σ', g1, g2⟩ := ih (i + 1) g s1 (by omega) (by omega) (fun j q1 q2 on => by
        by_cases y : j = i + 1
        · subst y
          refine ⟨w, a2, ?_⟩
          have ea : ah_ on it (i + 1) = it i := by unfold ah_; rw [if_neg (by omega)]; rfl
          rw [ea]
          exact a4
        · exact hf j q1 (by omega) on) (hT.congr f2) (hS.tx f2)
      exact ⟨σ', g1, f2.trans g2⟩
theorem wy_x (p : Pm_ kd nu fl ni m ce cs cr) {σm σ : St_} {s sz : Nat} {it : Nat → Nat} (P : Nat → Bool) (hP : ∀ on, on < 36 → (P on = true ↔ ∀ j, j < sz → Fit_ (gt_ kd nu fl ni m ce cs) on it j)) (hT : Th_ σ kd nu fl ni m ce cs cr) (hS : Se_ σ σm s sz 36 it) : ∃ σ', f_X8_startsThatFit 5000 σ 0 (2 * s + 41) = some (ba_ P 36, σ') ∧ TX_ σ σ' := by
  unfold f_X8_startsThatFit
  have hz4 := hS.2.1
  rw [hS.2.2.1]
  rcases Nat.eq_zero_or_pos sz with y | y
  · subst y
    rw [if_pos (show nI 0 = 0 from rfl), ba_congr (Q := fun _ => true) 36 (fun on hon => (hP on hon).mpr (fun j hj => by omega)), ba_t]
    exact ⟨σ, rfl, TX_.refl hT.1⟩
  · rw [if_neg (nI_ne0 y (by omega))]
    exact wy_13 p y P hP (sz - 1) 0 5000 σ (by omega) (by omega) (fun j a b => by omega) hT hS
end
theorem sim_ways : Sim_ways Rel_ := by
  intro σx σm h x1 x2 x3
  show ∃ (r : Int64) (σx' : St_) (σm' : St_), f_X8_ways 5000 σx 0 x1 x2 x3 = some (r, σx') ∧ f_X9_ways 5000 σm 0 x1 x2 x3 = some (r, σm') ∧ Rel_ σx' σm'
  have h0 := h
  obtain ⟨hX, hM, tc, n, hT, hF, hK, hP, hS⟩ := h
  have hn := hF.1
  have c1 := hF.2.1
  have c2 := hF.2.2.1
  have i6 := in_c (x := x3) (n := 1) (1 : Int64) rfl (by omega)
  obtain ⟨r, e1, e2, hr⟩ := tb_all h0 hF hS x1 x2 (f_X8_isBelow x3 (nI 2)) _ i6
  unfold f_X8_ways f_X9_ways
  have e1' : f_X8_refusalOfTold 5000 σx 0 x1 x2 (f_X8_isBelow x3 (2 : Int32)) (20 : Int32) (36 : Int32) = some r := e1
  rw [e1', Option.bind_some, e2, Option.bind_some]
  rcases hr with hr | ⟨rfl, s, c, sz, it, hc, rfl, rfl, hz, hSe⟩
  · rw [pre_nz hX hn c1 x1 x2 hr, if_neg hr]
    exact ⟨_, _, _, rfl, rfl, h0⟩
  have hs := hSe.1
  rw [pre_0 hX hn c1 hs hc, if_pos rfl]
  obtain ⟨kd, nu, on, fl, ni, m, ce, cs, cr, σ1, p, hon, xo, mo, hC, eT, hTh, hsc⟩ := think_ok h0 hT hF hc
  have xo1 : si_ σ1 (c + 3) 2 = nI on := (hsc.2.i (by simp only [xZ_]; omega)).trans xo
  simp only [oc_]
  rw [if_pos (hX.she hs).2.1, if_pos (hX.car (by omega)).2, eT, Option.bind_some, xo1]
  have hS1 := hSe.sx hsc
  by_cases z : x3 = 0
  · rw [if_pos z, if_pos z]
    obtain ⟨r3, s3, s4, u1, u2, u3, u4⟩ := hm_go p hon sz 0 5000 5000 1 σ1 σm (by omega) (by omega) (by omega) hTh hC hS1 mo
    have u1' : f_X8_howMany 5000 σ1 0 (2 * s + 41) (nI on) = some (r3, s3) := u1
    have u2' : f_X9_ways_30 5000 5000 σm 0 (nI s) (nI c) 1 0 = some (r3, s4) := u2
    rw [u1', u2']
    exact ⟨_, _, _, rfl, rfl, h0.sc (hsc.trans u3.sc) u4.sc⟩
  · rw [if_neg z, if_neg z]
    let P : Nat → Bool := fun on => @decide (∀ j, j < sz → Fit_ (gt_ kd nu fl ni m ce cs) on it j) (Classical.propDecidable _)
    have hPP : ∀ on, on < 36 → (P on = true ↔ ∀ j, j < sz → Fit_ (gt_ kd nu fl ni m ce cs) on it j) := fun on _ => @decide_eq_true_iff _ (Classical.propDecidable _)
    obtain ⟨s3, u1, u3⟩ := wy_x p P hPP hTh hS1
    obtain ⟨s4, u2, u4⟩ := wy_m p hSe hC P hPP (nI on) 36 0 5000 σm (by omega) (by omega) (IM_.refl hM 6 (3 * c + 1))
    have u2' : f_X9_ways_83 5000 5000 σm 0 (nI s) (nI c) (nI on) 0 0 = some (ba_ P 36, ui_ s4 6 (3 * c + 1) (nI on)) := u2
    rw [u1, Option.bind_some, dm_0_10 hM, Option.bind_some, lm_6 hM, ix_r1 c (by omega), Option.bind_some, mo, u2']
    exact ⟨_, _, _, rfl, rfl, h0.sc (hsc.trans u3.sc) (u4.fin mo.symm)⟩
